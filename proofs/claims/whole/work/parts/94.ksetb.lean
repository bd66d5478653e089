/-! ===== class and reference held together: the settling whole ===== -/
def kD (ns c : Nat) (L : Lnk) (M : Rf) : Prop := ∃ dl tm fo, (1 ≤ dl ∧ dl ≤ 50 ∧ rX M 7 = nI dl) ∧ (1 ≤ tm ∧ tm ≤ 200 ∧ rX M 8 = nI tm) ∧ (∀ m, m < ns → kDr c tm (rS M m)) ∧ fo ≤ ns ∧ lX L 15 = nI fo ∧ (∀ m, m < fo → ¬ rS M m 3 = 0 ∧ (rS M m 3 = 2 → rS M m 2 = -1)) ∧ ∀ m, m < ns → ¬ kc_du (rS M m 1) (rS M m 2) (rS M m 3) (rX M 8) < lX L 16
section KSb
variable {nf np ns c : Nat} {L L' : Lnk} {M M' : Rf}
theorem kc_never : (2000000000 : Int32) = nI 2000000000 := by decide +kernel
/-- when it is due, from above -/
theorem kc_duU {tm : Nat} {r : Nat → Int32} (h : kDr c tm r) (hc : c ≤ 2 ^ 29) (htm : tm ≤ 200) : ∃ d, kc_du (r 1) (r 2) (r 3) (nI tm) = nI d ∧ d ≤ 2000000000 ∧ (r 3 = 0 → ∀ t, t ≤ c → r 1 = nI t → d ≤ t + tm) ∧ ((r 3 = 0 ∨ r 3 = 2) → ∀ b, b < 2 ^ 30 → r 2 = nI b → d ≤ b) := by
  obtain ⟨_, _, z3, z4⟩ := h
  unfold kc_du
  by_cases s0 : r 3 = 0
  · obtain ⟨t, t1, t2, t3⟩ := z4 s0
    rw [if_pos s0, t3, nI_add]
    have ut : ∀ t', t' ≤ c → nI t = nI t' → t = t' := fun t' h1 h2 => (nI_eq (by omega) (by omega)).mp h2
    rcases z3 (Or.inl s0) with a | ⟨b, b1, b2, b3⟩
    · have hi : (if ¬ r 2 = -1 ∧ (r 3 = 0 ∨ r 3 = 2) then r 2 else 2000000000) = nI 2000000000 := by rw [if_neg (fun z => z.1 a), kc_never]
      rw [hi, if_pos (nI_lt (by omega) (by omega))]
      refine ⟨t + tm, rfl, by omega, fun _ t' h1 h2 => by have := ut t' h1 h2; omega, fun _ b hb e => ?_⟩
      exact absurd (e.symm.trans a) (nI_ne1 (by omega))
    · have nb : ¬ r 2 = -1 := by rw [b3]; exact nI_ne1 (by omega)
      have hi : (if ¬ r 2 = -1 ∧ (r 3 = 0 ∨ r 3 = 2) then r 2 else 2000000000) = nI b := by rw [if_pos ⟨nb, Or.inl s0⟩, b3]
      rw [hi, b3]
      have ub : ∀ b', b' < 2 ^ 30 → nI b = nI b' → b = b' := fun b' h1 h2 => (nI_eq (by omega) (by omega)).mp h2
      by_cases g : t + tm < b
      · rw [if_pos (nI_lt g (by omega))]
        exact ⟨t + tm, rfl, by omega, fun _ t' h1 h2 => by have := ut t' h1 h2; omega, fun _ b' h1 h2 => by have := ub b' h1 h2; omega⟩
      · rw [if_neg (nI_nlt (by omega) (by omega))]
        exact ⟨b, rfl, by omega, fun _ t' h1 h2 => by have := ut t' h1 h2; omega, fun _ b' h1 h2 => by have := ub b' h1 h2; omega⟩
  · rw [if_neg s0]
    by_cases s2 : r 3 = 2
    · rcases z3 (Or.inr s2) with a | ⟨b, b1, b2, b3⟩
      · rw [if_neg (fun z => z.1 a), kc_never]
        exact ⟨2000000000, rfl, Nat.le_refl _, fun z => absurd z s0, fun _ b hb e => absurd (e.symm.trans a) (nI_ne1 (by omega))⟩
      · have nb : ¬ r 2 = -1 := by rw [b3]; exact nI_ne1 (by omega)
        rw [if_pos ⟨nb, Or.inr s2⟩, b3]
        exact ⟨b, rfl, by omega, fun z => absurd z s0, fun _ b' h1 h2 => by have := (nI_eq (a := b) (b := b') (by omega) (by omega)).mp h2; omega⟩
    · rw [if_neg (fun z => z.2.elim s0 s2), kc_never]
      exact ⟨2000000000, rfl, Nat.le_refl _, fun z => absurd z s0, fun z => absurd z (fun w => w.elim s0 s2)⟩
theorem kc_duN {t a s tm : Int32} (h0 : ¬ s = 0) (h2 : s = 2 → a = -1) : kc_du t a s tm = 2000000000 := by
  unfold kc_du
  rw [if_neg h0, if_neg (fun z => z.2.elim h0 (fun w => z.1 (h2 w)))]
theorem kc_ackSkip {v : Int32} {M : Rf} : ∀ (j k n : Nat), (∀ m, n ≤ m → m < n + j → ¬ rS M m 2 = v) → rAckLoop v (j + k) n M = rAckLoop v k (n + j) M := by
  intro j
  induction j with
  | zero => intro k n _; rw [Nat.zero_add, Nat.add_zero]
  | succ j ih =>
    intro k n h
    rw [show j + 1 + k = (j + k) + 1 by omega]
    show rAckLoop v (j + k) (n + 1) (if rS M n 2 = v then rAckAt M n else M) = _
    rw [if_neg (h n (by omega) (by omega)), ih k (n + 1) (fun m h1 h2 => h m (by omega) (by omega)), show n + 1 + j = n + (j + 1) by omega]
theorem kc_loseSkip {v : Int32} {ns : Nat} {M : Rf} : ∀ (j k n : Nat), (∀ m, n ≤ m → m < n + j → ¬ (rS M m 3 = 0 ∧ ¬ v - rX M 8 < rS M m 1)) → rLoseLoop v ns (j + k) n M = rLoseLoop v ns k (n + j) M := by
  intro j
  induction j with
  | zero => intro k n _; rw [Nat.zero_add, Nat.add_zero]
  | succ j ih =>
    intro k n h
    rw [show j + 1 + k = (j + k) + 1 by omega]
    show rLoseLoop v ns (j + k) (n + 1) (if rS M n 3 = 0 ∧ ¬ v - rX M 8 < rS M n 1 then rLoseAt M ns n else M) = _
    rw [if_neg (h n (by omega) (by omega)), ih k (n + 1) (fun m h1 h2 => h m (by omega) (by omega)), show n + 1 + j = n + (j + 1) by omega]
theorem kc_open {L : Lnk} : ∀ (k n m : Nat), n ≤ m → m < lOpenLoop L k n → lDue L m = 2000000000 := by
  intro k
  induction k with
  | zero =>
    intro n m h1 h2
    have : m < n := h2
    omega
  | succ k ih =>
    intro n m h1 h2
    have h3 : m < (if lDue L n = 2000000000 then lOpenLoop L k (n + 1) else n) := h2
    by_cases g : lDue L n = 2000000000
    · rw [if_pos g] at h3
      by_cases e : m = n
      · rw [e]; exact g
      · exact ih (n + 1) m (by omega) h3
    · rw [if_neg g] at h3; omega
theorem kc_min {L : Lnk} : ∀ (k n : Nat) (v : Int32), ¬ v < lMinLoop L k n v ∧ ∀ m, n ≤ m → m < n + k → ¬ lDue L m < lMinLoop L k n v := by
  intro k
  induction k with
  | zero => intro n v; exact ⟨Int32.lt_irrefl, fun m h1 h2 => by omega⟩
  | succ k ih =>
    intro n v
    show ¬ v < lMinLoop L k (n + 1) (if lDue L n < v then lDue L n else v) ∧ ∀ m, n ≤ m → m < n + (k + 1) → ¬ lDue L m < lMinLoop L k (n + 1) (if lDue L n < v then lDue L n else v)
    obtain ⟨i1, i2⟩ := ih (n + 1) (if lDue L n < v then lDue L n else v)
    generalize lMinLoop L k (n + 1) (if lDue L n < v then lDue L n else v) = R at i1 i2 ⊢
    have j1 : ¬ v < R := by
      split at i1
      · rename_i g
        rw [Int32.lt_iff_toInt_lt] at i1 g ⊢; omega
      · exact i1
    refine ⟨j1, fun m h1 h2 => ?_⟩
    by_cases e : m = n
    · subst e
      split at i1
      · exact i1
      · rename_i g
        rw [Int32.lt_iff_toInt_lt] at i1 g ⊢; omega
    · exact i2 m (by omega) (by omega)
theorem kc_settle (h : kI nf np ns c L M) (ho : kO nf ns L M) (hd : kD ns c L M) (hc : c < 2 ^ 29) :
    ∃ L1 M1, (if lX L 11 < lX L 16 then L else lSettle L (tn (lX L 15)) (tn (lX L 10))) = L1 ∧ rSettle M = M1 ∧ kI nf np ns c L1 M1 ∧ kO nf ns L1 M1 ∧ kD ns (c + 1) L1 M1 ∧ (∀ k, k < 13 → lX L1 k = lX L k) ∧ rX M1 = rX M ∧ rW M1 = rW M ∧ rU M1 = rU M := by
  obtain ⟨dl, tm, fo, hdl, htm, hr, hfo, e15, hlow, hnx⟩ := hd
  have hI := h
  obtain ⟨q, sf, hs, hz⟩ := h
  have hb := hs.1
  have e10 : lX L 10 = nI ns := hs.2.1.2.2.2.1.1
  have e3 : rX M 3 = nI ns := hs.2.1.2.2.2.1.2
  have e11 : lX L 11 = nI c := hs.2.1.2.2.2.2.1.1
  have e4 : rX M 4 = nI c := hs.2.1.2.2.2.2.1.2
  have t3 : tn (nI ns) = ns := nI_clamp (by omega)
  have tf : tn (nI fo) = fo := nI_clamp (by omega)
  have eR : rSettle M = rLoseLoop (nI c) ns ns 0 (rAckLoop (nI c) ns 0 M) := by unfold rSettle; rw [e4, e3, t3]
  rw [e11, e15, e10, t3, tf]
  by_cases g : nI c < lX L 16
  · rw [if_pos g]
    -- nothing is due
    have nd : ∀ m, m < ns → ¬ rS M m 2 = nI c ∧ ¬ (rS M m 3 = 0 ∧ ¬ nI c - rX M 8 < rS M m 1) := fun m hm => by
      obtain ⟨d, d1, d2, d3, d4⟩ := kc_duU (hr m hm) (by omega) htm.2.1
      have hn := hnx m hm
      rw [htm.2.2, d1] at hn
      have hgt : c < d := by
        rcases Nat.lt_or_ge c d with z | z
        · exact z
        · refine absurd ?_ hn
          have z2 : ¬ nI c < nI d := nI_nlt z (by omega)
          rw [Int32.lt_iff_toInt_lt] at g z2 ⊢; omega
      obtain ⟨y1, y2, y3, y4⟩ := hr m hm
      constructor
      · intro e
        rcases y1 with s | s | s | s
        · have := d4 (Or.inl s) c (by omega) e; omega
        · obtain ⟨a, a1, a2⟩ := y2 (Or.inl s)
          have := (nI_eq (by omega) (by omega)).mp (a2.symm.trans e); omega
        · have := d4 (Or.inr s) c (by omega) e; omega
        · obtain ⟨a, a1, a2⟩ := y2 (Or.inr s)
          have := (nI_eq (by omega) (by omega)).mp (a2.symm.trans e); omega
      · rintro ⟨s, e⟩
        obtain ⟨t, t1, t2, t4⟩ := y4 s
        rw [htm.2.2, t4, kc_late hc htm.2.1 t1] at e
        have := d3 s t t1 t4; omega
    have a0 : rAckLoop (nI c) ns 0 M = M := by
      have := kc_ackSkip (v := nI c) (M := M) ns 0 0 (fun m _ h2 => (nd m (by omega)).1)
      rw [Nat.add_zero] at this; exact this
    have b0 : rLoseLoop (nI c) ns ns 0 M = M := by
      have := kc_loseSkip (v := nI c) (ns := ns) (M := M) ns 0 0 (fun m _ h2 => (nd m (by omega)).2)
      rw [Nat.add_zero] at this; exact this
    refine ⟨L, M, rfl, by rw [eR, a0, b0], hI, ho, ⟨dl, tm, fo, hdl, htm, fun m hm => ?_, hfo, e15, hlow, hnx⟩, fun _ _ => rfl, rfl, rfl, rfl⟩
    obtain ⟨n1, n2⟩ := nd m hm
    obtain ⟨y1, y2, y3, y4⟩ := hr m hm
    refine ⟨y1, fun w => ?_, fun w => ?_, fun w => ?_⟩
    · obtain ⟨a, a1, a2⟩ := y2 w
      exact ⟨a, by omega, a2⟩
    · rcases y3 w with u | ⟨a, a1, a2, a3⟩
      · exact Or.inl u
      · refine Or.inr ⟨a, ?_, a2, a3⟩
        have : a ≠ c := fun e => n1 (by rw [a3, e])
        omega
    · obtain ⟨t, t1, t2, t4⟩ := y4 w
      have : ¬ t + tm ≤ c := fun e => n2 ⟨w, by rw [htm.2.2, t4]; exact (kc_late hc htm.2.1 t1).mpr e⟩
      exact ⟨t, by omega, by omega, t4⟩
  · rw [if_neg g]
    have hA : ∀ m, m < ns → kAc c fo m fo tm (rS M m) := fun m hm => by
      obtain ⟨y1, y2, y3, y4⟩ := hr m hm
      refine ⟨y1, fun w => ?_, fun w => ?_, y4, fun w => hlow m w⟩
      · obtain ⟨a, a1, a2⟩ := y2 w
        exact ⟨a, by omega, a2, fun e => by omega⟩
      · rcases y3 w with u | ⟨a, a1, a2, a3⟩
        · exact Or.inl u
        · refine Or.inr ⟨a, a1, a2, a3, fun e => ?_⟩
          rcases Nat.lt_or_ge m fo with z | z
          · obtain ⟨l1, l2⟩ := hlow m z
            rcases w with w | w
            · exact absurd w l1
            · exact absurd (a3.symm.trans (l2 w)) (nI_ne1 (by omega))
          · exact z
    have skA : rAckLoop (nI c) ns 0 M = rAckLoop (nI c) (ns - fo) fo M := by
      have := kc_ackSkip (v := nI c) (M := M) fo (ns - fo) 0 (fun m _ h2 e => by
        obtain ⟨z1, z2, z3, _, z5⟩ := hA m (by omega)
        obtain ⟨l1, l2⟩ := z5 (by omega)
        rcases z1 with s | s | s | s
        · exact l1 s
        · obtain ⟨a, a1, a2, a3⟩ := z2 (Or.inl s)
          obtain ⟨b, b1, b2⟩ := (hr m (by omega)).2.1 (Or.inl s)
          have := (nI_eq (by omega) (by omega)).mp (b2.symm.trans e); omega
        · exact absurd (e.symm.trans (l2 s)) (nI_ne1 (by omega))
        · obtain ⟨b, b1, b2⟩ := (hr m (by omega)).2.1 (Or.inr s)
          have := (nI_eq (by omega) (by omega)).mp (b2.symm.trans e); omega)
      rw [show fo + (ns - fo) = ns by omega, Nat.zero_add] at this
      exact this
    obtain ⟨a1, a2, a3, a4, a5, a6, a7⟩ := kc_ackLoop (np := np) hb.1 hc (ns - fo) fo L M (by omega) hI ho hA
    unfold lSettle
    dsimp only
    rw [eR, skA]
    generalize lAckLoop (ns - fo) fo L = La at a1 a2 a4 ⊢
    generalize rAckLoop (nI c) (ns - fo) fo M = Ma at a1 a2 a3 a5 a6 a7 ⊢
    have hB : ∀ m, m < ns → kBc c fo m fo tm (rS Ma m) := fun m hm => by
      obtain ⟨z1, z2, z3, z4, z5⟩ := a3 m hm
      refine ⟨z1, fun w => ?_, fun w => ?_, fun w => ?_, z5⟩
      · obtain ⟨a, y1, y2, y3⟩ := z2 w
        exact ⟨a, y1, y2⟩
      · rcases z3 w with u | ⟨a, y1, y2, y3, y4⟩
        · exact Or.inl u
        · refine Or.inr ⟨a, ?_, y2, y3⟩
          rcases Nat.lt_or_ge c a with z | z
          · exact z
          · have := y4 (by omega); omega
      · obtain ⟨t, y1, y2, y3⟩ := z4 w
        refine ⟨t, y1, y2, y3, fun _ => ?_⟩
        rcases Nat.lt_or_ge m fo with z | z
        · exact absurd w (z5 z).1
        · exact z
    have h8 : rX Ma 8 = nI tm := by rw [a5]; exact htm.2.2
    have skB : rLoseLoop (nI c) ns ns 0 Ma = rLoseLoop (nI c) ns (ns - fo) fo Ma := by
      have := kc_loseSkip (v := nI c) (ns := ns) (M := Ma) fo (ns - fo) 0 (fun m _ h2 e => ((hB m (by omega)).2.2.2.2 (by omega)).1 e.1)
      rw [show fo + (ns - fo) = ns by omega, Nat.zero_add] at this
      exact this
    obtain ⟨b1, b2, b3, b4, b5, b6, b7⟩ := kc_loseLoop (np := np) hb.1 hc htm.2.1 (ns - fo) fo La Ma (by omega) (Nat.le_refl _) h8 a1 a2 hB
    rw [skB]
    generalize lLoseLoop (ns - fo) fo La = Lb at b1 b2 b4 ⊢
    generalize rLoseLoop (nI c) ns (ns - fo) fo Ma = Mb at b1 b2 b3 b5 b6 b7 ⊢
    have eX : rX Mb = rX M := b5.trans a5
    have hD : ∀ m, m < ns → kDr (c + 1) tm (rS Mb m) := fun m hm => by
      obtain ⟨z1, z2, z3, z4, z5⟩ := b3 m hm
      refine ⟨z1, fun w => ?_, z3, fun w => ?_⟩
      · obtain ⟨a, y1, y2⟩ := z2 w
        exact ⟨a, by omega, y2⟩
      · obtain ⟨t, y1, y2, y3, y4⟩ := z4 w
        refine ⟨t, by omega, ?_, y3⟩
        rcases Nat.lt_or_ge c (t + tm) with z | z
        · exact z
        · have := y4 (by omega); omega
    have eD : ∀ m, m < ns → lDue Lb m = kc_du (rS Mb m 1) (rS Mb m 2) (rS Mb m 3) (rX Mb 8) := fun m hm => by
      obtain ⟨q', sf', hs', _⟩ := b1
      have y := (hs'.2.2.2.2.2.1 m hm).1
      rw [kc_du_e, y 1 (by omega), y 2 (by omega), y 3 (by omega), hs'.2.1.2.1.2.2]
    have hop := lOpenLoop_le (L := Lb) (k := ns - fo) (n := fo)
    have hop2 := kc_open (L := Lb) (ns - fo) fo
    generalize lOpenLoop Lb (ns - fo) fo = fo' at hop hop2 ⊢
    obtain ⟨mi1, mi2⟩ := kc_min (L := Lb) (ns - fo') fo' 2000000000
    generalize lMinLoop Lb (ns - fo') fo' 2000000000 = nx at mi1 mi2 ⊢
    have low : ∀ m, m < fo' → ¬ rS Mb m 3 = 0 ∧ (rS Mb m 3 = 2 → rS Mb m 2 = -1) := fun m hm => by
      rcases Nat.lt_or_ge m fo with z | z
      · exact (b3 m (by omega)).2.2.2.2 z
      · have e := hop2 m z hm
        rw [eD m (by omega), eX, htm.2.2, kc_never] at e
        obtain ⟨d, d1, d2, d3, d4⟩ := kc_duU (hD m (by omega)) (by omega) htm.2.1
        rw [d1] at e
        have ed := (nI_eq (by omega) (by omega)).mp e
        obtain ⟨y1, y2, y3, y4⟩ := hD m (by omega)
        refine ⟨fun s => ?_, fun s => ?_⟩
        · obtain ⟨t, t1, t2, t4⟩ := y4 s
          have := d3 s t t1 t4; omega
        · rcases y3 (Or.inr s) with u | ⟨b, u1, u2, u3⟩
          · exact u
          · have := d4 (Or.inr s) b u2 u3; omega
    refine ⟨_, _, rfl, rfl, ?_, ?_, ⟨dl, tm, fo', ?_, ?_, hD, by omega, ?_, low, fun m hm => ?_⟩, fun k hk => ?_, eX, b6.trans a6, b7.trans a7⟩
    · obtain ⟨q', sf', hs', hz'⟩ := b1
      exact ⟨q', sf', hs', hz'⟩
    · exact b2
    · rw [eX]; exact hdl
    · rw [eX]; exact htm
    · show up1 (up1 (lX Lb) 15 (nI fo')) 16 nx 15 = _
      rw [u1_n (by omega), u1_s]
    · show ¬ _ < up1 (up1 (lX Lb) 15 (nI fo')) 16 nx 16
      rw [u1_s, ← eD m hm]
      rcases Nat.lt_or_ge m fo' with z | z
      · rw [eD m hm, kc_duN (low m z).1 (low m z).2]
        exact mi1
      · exact mi2 m z (by omega)
    · show up1 (up1 (lX Lb) 15 (nI fo')) 16 nx k = _
      rw [u1_n (by omega), u1_n (by omega), b4 k (by omega), a4 k (by omega) (by omega)]
end KSb

/-! ===== class and reference held together: what is due at a tick ===== -/
def kI (nf np ns c : Nat) (L : Lnk) (M : Rf) : Prop := ∃ q sf, kSt nf np ns c q sf L M ∧ kZ np sf M
def kO (nf ns : Nat) (L : Lnk) (M : Rf) : Prop := ∀ f, f < nf → lF L f 16 = nI (kc_su (fun n => if rS M n 3 = 0 ∧ rP M (tn (rS M n 0)) 0 = nI f then 1 else 0) ns 0)
/-- a transmission while acknowledgments are looked through, i the next -/
def kAc (c i n fo tm : Nat) (r : Nat → Int32) : Prop := (r 3 = 0 ∨ r 3 = 1 ∨ r 3 = 2 ∨ r 3 = 3) ∧ ((r 3 = 1 ∨ r 3 = 3) → ∃ a, a ≤ c ∧ r 2 = nI a ∧ (a = c → n < i)) ∧ ((r 3 = 0 ∨ r 3 = 2) → r 2 = -1 ∨ ∃ a, c ≤ a ∧ a < 2 ^ 30 ∧ r 2 = nI a ∧ (a = c → i ≤ n)) ∧ (r 3 = 0 → ∃ t, t ≤ c ∧ c ≤ t + tm ∧ r 1 = nI t) ∧ (n < fo → ¬ r 3 = 0 ∧ (r 3 = 2 → r 2 = -1))
/-- a transmission while losses are looked through -/
def kBc (c i n fo tm : Nat) (r : Nat → Int32) : Prop := (r 3 = 0 ∨ r 3 = 1 ∨ r 3 = 2 ∨ r 3 = 3) ∧ ((r 3 = 1 ∨ r 3 = 3) → ∃ a, a ≤ c ∧ r 2 = nI a) ∧ ((r 3 = 0 ∨ r 3 = 2) → r 2 = -1 ∨ ∃ a, c + 1 ≤ a ∧ a < 2 ^ 30 ∧ r 2 = nI a) ∧ (r 3 = 0 → ∃ t, t ≤ c ∧ c ≤ t + tm ∧ r 1 = nI t ∧ (t + tm = c → i ≤ n)) ∧ (n < fo → ¬ r 3 = 0 ∧ (r 3 = 2 → r 2 = -1))
/-- a transmission between two ticks -/
def kDr (c tm : Nat) (r : Nat → Int32) : Prop := (r 3 = 0 ∨ r 3 = 1 ∨ r 3 = 2 ∨ r 3 = 3) ∧ ((r 3 = 1 ∨ r 3 = 3) → ∃ a, a < c ∧ r 2 = nI a) ∧ ((r 3 = 0 ∨ r 3 = 2) → r 2 = -1 ∨ ∃ a, c ≤ a ∧ a < 2 ^ 30 ∧ r 2 = nI a) ∧ (r 3 = 0 → ∃ t, t ≤ c ∧ c ≤ t + tm ∧ r 1 = nI t)
section KSet
variable {nf np ns c : Nat} {L L' : Lnk} {M M' : Rf}
theorem kc_flow (h : kI nf np ns c L M) {n : Nat} (hn : n < ns) : ∃ p f, p < np ∧ f < nf ∧ rS M n 0 = nI p ∧ rP M p 0 = nI f ∧ lAckAt L n = lAck L n p f ∧ lLoseAt L n = lLose L n p f ∧ rAckAt M n = rAck M n p f ∧ rLoseAt M ns n = rLose M ns n p f := by
  obtain ⟨q, sf, h, _⟩ := h
  have b := h.1
  obtain ⟨p, hp, e1⟩ := h.2.2.2.2.2.2.1.2.1 n hn
  obtain ⟨⟨f, hf, e2⟩, _⟩ := h.2.2.2.2.2.2.1.1 p hp
  have e3 : lS L n 0 = nI p := ((h.2.2.2.2.2.1 n hn).1 0 (by omega)).trans e1
  have e4 : lP L p 0 = nI f := (h.2.2.2.2.1 p 0 hp (by omega)).trans e2
  have t1 : tn (nI p) = p := nI_clamp (by omega)
  have t2 : tn (nI f) = f := nI_clamp (by omega)
  refine ⟨p, f, hp, hf, e1, e2, ?_, ?_, ?_, ?_⟩
  · unfold lAckAt; rw [e3, t1, e4, t2]
  · unfold lLoseAt; rw [e3, t1, e4, t2]
  · unfold rAckAt; rw [e1, t1, e2, t2]
  · unfold rLoseAt; rw [e1, t1, e2, t2]
theorem kc_kO1 (h : kO nf ns L M) (hnf : nf ≤ 6) {n f : Nat} {v : Int32} (hn : n < ns) (hf : f < nf) (h0 : rS M n 3 = 0) (hv : ¬ v = 0) (hfl : rP M (tn (rS M n 0)) 0 = nI f) (s3 : ∀ m, rS M' m 3 = if m = n then v else rS M m 3) (s0 : ∀ m, rS M' m 0 = rS M m 0) (p0 : ∀ x, rP M' x 0 = rP M x 0) (f16 : ∀ g, lF L' g 16 = if g = f then lF L f 16 + (-1) else lF L g 16) : kO nf ns L' M' := by
  intro g hg
  simp only [s0, p0]
  rw [f16 g]
  by_cases e : g = f
  · subst e
    have k1 := kc_su_up (g := fun x => if rS M x 3 = 0 ∧ rP M (tn (rS M x 0)) 0 = nI g then 1 else 0) (g' := fun x => if rS M' x 3 = 0 ∧ rP M (tn (rS M x 0)) 0 = nI g then 1 else 0) (j := n) (k := ns) (i := 0) (by omega) (by omega) (fun x hx => by rw [s3 x, if_neg hx])
    try dsimp only at k1
    rw [if_pos ⟨h0, hfl⟩, s3 n, if_pos rfl, if_neg (fun z => hv z.1)] at k1
    rw [if_pos rfl, h g hg, ← Nat.add_zero (kc_su (fun n => if rS M n 3 = 0 ∧ rP M (tn (rS M n 0)) 0 = nI g then 1 else 0) ns 0), ← k1, pk_m1]
  · rw [if_neg e, h g hg]
    refine congrArg nI (kc_su_cg (fun x _ _ => ?_))
    by_cases ex : x = n
    · have y : ¬ rP M (tn (rS M x 0)) 0 = nI g := by rw [ex, hfl]; exact kc_nf (by omega) (by omega) (Ne.symm e)
      rw [if_neg (fun w => y w.2), if_neg (fun w => y w.2)]
    · rw [s3 x, if_neg ex]
theorem kc_kO0 (h : kO nf ns L M) {n : Nat} {v : Int32} (h0 : ¬ rS M n 3 = 0) (hv : ¬ v = 0) (s3 : ∀ m, rS M' m 3 = if m = n then v else rS M m 3) (s0 : ∀ m, rS M' m 0 = rS M m 0) (p0 : ∀ x, rP M' x 0 = rP M x 0) (f16 : ∀ g, lF L' g 16 = lF L g 16) : kO nf ns L' M' := by
  intro g hg
  simp only [s0, p0]
  rw [f16 g, h g hg]
  refine congrArg nI (kc_su_cg (fun x _ _ => ?_))
  by_cases ex : x = n
  · rw [ex, s3 n, if_pos rfl, if_neg (fun w => h0 w.1), if_neg (fun w => hv w.1)]
  · rw [s3 x, if_neg ex]
/-- one acknowledgment -/
theorem kc_ack1 (h : kI nf np ns c L M) (ho : kO nf ns L M) {n fo tm : Nat} (hn : n < ns) (ha : ∀ m, m < ns → kAc c n m fo tm (rS M m)) (hnf : nf ≤ 6) (hc : c < 2 ^ 29) (e : rS M n 2 = nI c) :
    kI nf np ns c (lAckAt L n) (rAckAt M n) ∧ kO nf ns (lAckAt L n) (rAckAt M n) ∧ (∀ m, m < ns → kAc c (n + 1) m fo tm (rS (rAckAt M n) m)) ∧ (∀ k, k ≠ 13 → k ≠ 14 → lX (lAckAt L n) k = lX L k) ∧ rX (rAckAt M n) = rX M ∧ rW (rAckAt M n) = rW M ∧ rU (rAckAt M n) = rU M := by
  obtain ⟨p, f, hp, hf, e1, e2, a1, _, a3, _⟩ := kc_flow h hn
  obtain ⟨q, sf, hs, hz⟩ := h
  have hb := hs.1
  have s3 : lS L n 3 = rS M n 3 := (hs.2.2.2.2.2.1 n hn).1 3 (by omega)
  rw [a1, a3]
  obtain ⟨fx, f16⟩ := kc_lAck_fr L n p f
  obtain ⟨rx, rw', ru, rp, rs⟩ := kc_rAck_fr M n p f
  have tp : tn (rS M n 0) = p := by rw [e1]; exact nI_clamp (by omega)
  have hst : rS M n 3 = 0 ∨ rS M n 3 = 2 := by
    obtain ⟨z1, z2, _⟩ := ha n hn
    rcases z1 with z | z | z | z
    · exact Or.inl z
    · obtain ⟨a, y1, y2, y3⟩ := z2 (Or.inl z)
      have : a = c := (nI_eq (by omega) (by omega)).mp (y2.symm.trans e)
      exact absurd (y3 this) (by omega)
    · exact Or.inr z
    · obtain ⟨a, y1, y2, y3⟩ := z2 (Or.inr z)
      have : a = c := (nI_eq (by omega) (by omega)).mp (y2.symm.trans e)
      exact absurd (y3 this) (by omega)
  have rs3 : ∀ m, rS (rAck M n p f) m 3 = if m = n then (if rS M n 3 = 2 then 3 else 1) else rS M m 3 := fun m => by
    rw [rs m 3 (by omega)]
    by_cases y : m = n
    · rw [if_pos ⟨y, rfl⟩, if_pos y]
    · rw [if_neg (fun z => y z.1), if_neg y]
  have rs0 : ∀ m, rS (rAck M n p f) m 0 = rS M m 0 := fun m => by rw [rs m 0 (by omega), if_neg (by omega)]
  have rs1 : ∀ m, rS (rAck M n p f) m 1 = rS M m 1 := fun m => by rw [rs m 1 (by omega), if_neg (by omega)]
  have rs2 : ∀ m, rS (rAck M n p f) m 2 = rS M m 2 := fun m => by rw [rs m 2 (by omega), if_neg (by omega)]
  refine ⟨?_, ?_, fun m hm => ?_, fx, rx, rw', ru⟩
  · obtain ⟨q', sf', y1, y2⟩ := kc_ack hs hz hn hp hf e2
    exact ⟨q', sf', y1, y2⟩
  · rcases hst with z | z
    · refine kc_kO1 ho hnf hn hf z (v := if rS M n 3 = 2 then 3 else 1) ?_ (by rw [tp]; exact e2) rs3 rs0 rp (fun g => ?_)
      · rw [z]; decide
      · rw [f16 g, s3, z]
        by_cases y : g = f
        · rw [if_pos ⟨y, by decide⟩, if_pos y]
        · rw [if_neg (fun w => y w.1), if_neg y]
    · refine kc_kO0 ho (n := n) (v := if rS M n 3 = 2 then 3 else 1) ?_ ?_ rs3 rs0 rp (fun g => ?_)
      · rw [z]; decide
      · rw [z]; decide
      · rw [f16 g, s3, z, if_neg (fun w => w.2 rfl)]
  · obtain ⟨z1, z2, z3, z4, z5⟩ := ha m hm
    by_cases y : m = n
    · subst y
      have v3 : rS (rAck M m p f) m 3 = if rS M m 3 = 2 then 3 else 1 := by rw [rs3 m, if_pos rfl]
      have v13 : rS (rAck M m p f) m 3 = 1 ∨ rS (rAck M m p f) m 3 = 3 := by
        rw [v3]; split
        · exact Or.inr rfl
        · exact Or.inl rfl
      have n0 : ¬ rS (rAck M m p f) m 3 = 0 := by rcases v13 with w | w <;> rw [w] <;> decide
      have n2 : ¬ rS (rAck M m p f) m 3 = 2 := by rcases v13 with w | w <;> rw [w] <;> decide
      refine ⟨?_, fun _ => ⟨c, Nat.le_refl c, (rs2 m).trans e, fun _ => by omega⟩, fun w => ?_, fun w => absurd w n0, fun _ => ⟨n0, fun w => absurd w n2⟩⟩
      · rcases v13 with w | w
        · exact Or.inr (Or.inl w)
        · exact Or.inr (Or.inr (Or.inr w))
      · rcases w with w | w
        · exact absurd w n0
        · exact absurd w n2
    · have v3 : rS (rAck M n p f) m 3 = rS M m 3 := by rw [rs3 m, if_neg y]
      unfold kAc
      rw [v3, rs2 m, rs1 m]
      refine ⟨z1, fun w => ?_, fun w => ?_, z4, z5⟩
      · obtain ⟨a, y1, y2, y3⟩ := z2 w
        exact ⟨a, y1, y2, fun u => by have := y3 u; omega⟩
      · rcases z3 w with u | ⟨a, y1, y2, y3, y4⟩
        · exact Or.inl u
        · exact Or.inr ⟨a, y1, y2, y3, fun u => by have := y4 u; omega⟩
theorem kc_ackLoop (hnf : nf ≤ 6) (hc : c < 2 ^ 29) {fo tm : Nat} : ∀ (k n : Nat) (L : Lnk) (M : Rf), n + k = ns → kI nf np ns c L M → kO nf ns L M → (∀ m, m < ns → kAc c n m fo tm (rS M m)) →
    kI nf np ns c (lAckLoop k n L) (rAckLoop (nI c) k n M) ∧ kO nf ns (lAckLoop k n L) (rAckLoop (nI c) k n M) ∧ (∀ m, m < ns → kAc c ns m fo tm (rS (rAckLoop (nI c) k n M) m)) ∧ (∀ j, j ≠ 13 → j ≠ 14 → lX (lAckLoop k n L) j = lX L j) ∧ rX (rAckLoop (nI c) k n M) = rX M ∧ rW (rAckLoop (nI c) k n M) = rW M ∧ rU (rAckLoop (nI c) k n M) = rU M := by
  intro k
  induction k with
  | zero =>
    intro n L M e h ho ha
    have : n = ns := by omega
    subst this
    exact ⟨h, ho, ha, fun _ _ _ => rfl, rfl, rfl, rfl⟩
  | succ k ih =>
    intro n L M e h ho ha
    have hn : n < ns := by omega
    have e2 : lS L n 2 = rS M n 2 := by
      obtain ⟨q, sf, hs, _⟩ := h
      exact (hs.2.2.2.2.2.1 n hn).1 2 (by omega)
    have e11 : lX L 11 = nI c := by
      obtain ⟨q, sf, hs, _⟩ := h
      exact hs.2.1.2.2.2.2.1.1
    show kI nf np ns c (lAckLoop k (n + 1) (if lS L n 2 = lX L 11 then lAckAt L n else L)) (rAckLoop (nI c) k (n + 1) (if rS M n 2 = nI c then rAckAt M n else M)) ∧ kO nf ns (lAckLoop k (n + 1) (if lS L n 2 = lX L 11 then lAckAt L n else L)) (rAckLoop (nI c) k (n + 1) (if rS M n 2 = nI c then rAckAt M n else M)) ∧ (∀ m, m < ns → kAc c ns m fo tm (rS (rAckLoop (nI c) k (n + 1) (if rS M n 2 = nI c then rAckAt M n else M)) m)) ∧ (∀ j, j ≠ 13 → j ≠ 14 → lX (lAckLoop k (n + 1) (if lS L n 2 = lX L 11 then lAckAt L n else L)) j = lX L j) ∧ rX (rAckLoop (nI c) k (n + 1) (if rS M n 2 = nI c then rAckAt M n else M)) = rX M ∧ rW (rAckLoop (nI c) k (n + 1) (if rS M n 2 = nI c then rAckAt M n else M)) = rW M ∧ rU (rAckLoop (nI c) k (n + 1) (if rS M n 2 = nI c then rAckAt M n else M)) = rU M
    rw [e2, e11]
    by_cases g : rS M n 2 = nI c
    · rw [if_pos g, if_pos g]
      obtain ⟨a1, a2, a3, a4, a5, a6, a7⟩ := kc_ack1 h ho hn ha hnf hc g
      obtain ⟨b1, b2, b3, b4, b5, b6, b7⟩ := ih (n + 1) _ _ (by omega) a1 a2 a3
      exact ⟨b1, b2, b3, fun j j1 j2 => (b4 j j1 j2).trans (a4 j j1 j2), b5.trans a5, b6.trans a6, b7.trans a7⟩
    · rw [if_neg g, if_neg g]
      refine ih (n + 1) L M (by omega) h ho (fun m hm => ?_)
      obtain ⟨z1, z2, z3, z4, z5⟩ := ha m hm
      refine ⟨z1, fun w => ?_, fun w => ?_, z4, z5⟩
      · obtain ⟨a, y1, y2, y3⟩ := z2 w
        exact ⟨a, y1, y2, fun u => by have := y3 u; omega⟩
      · rcases z3 w with u | ⟨a, y1, y2, y3, y4⟩
        · exact Or.inl u
        · refine Or.inr ⟨a, y1, y2, y3, fun u => ?_⟩
          have h1 := y4 u
          have h2 : m ≠ n := fun z => g (by rw [← z, y3, u])
          omega
/-- one loss -/
theorem kc_lose1 (h : kI nf np ns c L M) (ho : kO nf ns L M) {n fo tm : Nat} (hn : n < ns) (hfo : fo ≤ n) (ha : ∀ m, m < ns → kBc c n m fo tm (rS M m)) (hnf : nf ≤ 6) (e : rS M n 3 = 0) :
    kI nf np ns c (lLoseAt L n) (rLoseAt M ns n) ∧ kO nf ns (lLoseAt L n) (rLoseAt M ns n) ∧ (∀ m, m < ns → kBc c (n + 1) m fo tm (rS (rLoseAt M ns n) m) ∨ (¬ m = n ∧ rS (rLoseAt M ns n) m 3 = rS M m 3 ∧ rS (rLoseAt M ns n) m 2 = rS M m 2 ∧ rS (rLoseAt M ns n) m 1 = rS M m 1)) ∧ (∀ k, k ≠ 13 → lX (lLoseAt L n) k = lX L k) ∧ rX (rLoseAt M ns n) = rX M ∧ rW (rLoseAt M ns n) = rW M ∧ rU (rLoseAt M ns n) = rU M := by
  obtain ⟨p, f, hp, hf, e1, e2, _, a2, _, a4⟩ := kc_flow h hn
  obtain ⟨q, sf, hs, hz⟩ := h
  have hb := hs.1
  rw [a2, a4]
  obtain ⟨fx, f16⟩ := kc_lLose_fr L n p f
  obtain ⟨rx, rw', ru, rp, rs⟩ := kc_rLose_fr M ns n p f
  have tp : tn (rS M n 0) = p := by rw [e1]; exact nI_clamp (by omega)
  have rs3 : ∀ m, rS (rLose M ns n p f) m 3 = if m = n then 2 else rS M m 3 := fun m => by
    rw [rs m 3 (by omega)]
    by_cases y : m = n
    · rw [if_pos ⟨y, rfl⟩, if_pos y]
    · rw [if_neg (fun z => y z.1), if_neg y]
  have rs0 : ∀ m, rS (rLose M ns n p f) m 0 = rS M m 0 := fun m => by rw [rs m 0 (by omega), if_neg (by omega)]
  have rs1 : ∀ m, rS (rLose M ns n p f) m 1 = rS M m 1 := fun m => by rw [rs m 1 (by omega), if_neg (by omega)]
  have rs2 : ∀ m, rS (rLose M ns n p f) m 2 = rS M m 2 := fun m => by rw [rs m 2 (by omega), if_neg (by omega)]
  refine ⟨?_, ?_, fun m hm => ?_, fx, rx, rw', ru⟩
  · obtain ⟨q', sf', y1, y2⟩ := kc_lose hs hz hn hp hf e1 e2
    exact ⟨q', sf', y1, y2⟩
  · exact kc_kO1 ho hnf hn hf e (v := 2) (by decide) (by rw [tp]; exact e2) rs3 rs0 rp f16
  · by_cases y : m = n
    · subst y
      obtain ⟨z1, z2, z3, z4, z5⟩ := ha m hm
      have v3 : rS (rLose M ns m p f) m 3 = 2 := by rw [rs3 m, if_pos rfl]
      refine Or.inl ?_
      unfold kBc
      rw [v3, rs2 m, rs1 m]
      exact ⟨Or.inr (Or.inr (Or.inl rfl)), fun w => absurd w (by decide), fun _ => z3 (Or.inl e), fun w => absurd w (by decide), fun w => absurd w (by omega)⟩
    · exact Or.inr ⟨y, by rw [rs3 m, if_neg y], rs2 m, rs1 m⟩
theorem kc_late {c tm t : Nat} (hc : c < 2 ^ 29) (htm : tm ≤ 200) (ht : t ≤ c) : ¬ nI c - nI tm < nI t ↔ t + tm ≤ c := by
  rw [Int32.lt_iff_toInt_lt, pk_sub_toInt (by omega) (by omega), nI_toInt (by omega)]
  omega
theorem kc_loseLoop (hnf : nf ≤ 6) (hc : c < 2 ^ 29) {fo tm : Nat} (htm : tm ≤ 200) : ∀ (k n : Nat) (L : Lnk) (M : Rf), n + k = ns → fo ≤ n → rX M 8 = nI tm → kI nf np ns c L M → kO nf ns L M → (∀ m, m < ns → kBc c n m fo tm (rS M m)) →
    kI nf np ns c (lLoseLoop k n L) (rLoseLoop (nI c) ns k n M) ∧ kO nf ns (lLoseLoop k n L) (rLoseLoop (nI c) ns k n M) ∧ (∀ m, m < ns → kBc c ns m fo tm (rS (rLoseLoop (nI c) ns k n M) m)) ∧ (∀ j, j ≠ 13 → lX (lLoseLoop k n L) j = lX L j) ∧ rX (rLoseLoop (nI c) ns k n M) = rX M ∧ rW (rLoseLoop (nI c) ns k n M) = rW M ∧ rU (rLoseLoop (nI c) ns k n M) = rU M := by
  intro k
  induction k with
  | zero =>
    intro n L M e _ _ h ho ha
    have : n = ns := by omega
    subst this
    exact ⟨h, ho, ha, fun _ _ => rfl, rfl, rfl, rfl⟩
  | succ k ih =>
    intro n L M e hfo h8 h ho ha
    have hn : n < ns := by omega
    have eL : lS L n 3 = rS M n 3 ∧ lS L n 1 = rS M n 1 ∧ lX L 11 = nI c ∧ lX L 8 = nI tm := by
      obtain ⟨q, sf, hs, _⟩ := h
      exact ⟨(hs.2.2.2.2.2.1 n hn).1 3 (by omega), (hs.2.2.2.2.2.1 n hn).1 1 (by omega), hs.2.1.2.2.2.2.1.1, hs.2.1.2.1.2.2.trans h8⟩
    show kI nf np ns c (lLoseLoop k (n + 1) (if lS L n 3 = 0 ∧ ¬ lX L 11 - lX L 8 < lS L n 1 then lLoseAt L n else L)) (rLoseLoop (nI c) ns k (n + 1) (if rS M n 3 = 0 ∧ ¬ nI c - rX M 8 < rS M n 1 then rLoseAt M ns n else M)) ∧ kO nf ns (lLoseLoop k (n + 1) (if lS L n 3 = 0 ∧ ¬ lX L 11 - lX L 8 < lS L n 1 then lLoseAt L n else L)) (rLoseLoop (nI c) ns k (n + 1) (if rS M n 3 = 0 ∧ ¬ nI c - rX M 8 < rS M n 1 then rLoseAt M ns n else M)) ∧ (∀ m, m < ns → kBc c ns m fo tm (rS (rLoseLoop (nI c) ns k (n + 1) (if rS M n 3 = 0 ∧ ¬ nI c - rX M 8 < rS M n 1 then rLoseAt M ns n else M)) m)) ∧ (∀ j, j ≠ 13 → lX (lLoseLoop k (n + 1) (if lS L n 3 = 0 ∧ ¬ lX L 11 - lX L 8 < lS L n 1 then lLoseAt L n else L)) j = lX L j) ∧ rX (rLoseLoop (nI c) ns k (n + 1) (if rS M n 3 = 0 ∧ ¬ nI c - rX M 8 < rS M n 1 then rLoseAt M ns n else M)) = rX M ∧ rW (rLoseLoop (nI c) ns k (n + 1) (if rS M n 3 = 0 ∧ ¬ nI c - rX M 8 < rS M n 1 then rLoseAt M ns n else M)) = rW M ∧ rU (rLoseLoop (nI c) ns k (n + 1) (if rS M n 3 = 0 ∧ ¬ nI c - rX M 8 < rS M n 1 then rLoseAt M ns n else M)) = rU M
    rw [eL.1, eL.2.1, eL.2.2.1, eL.2.2.2, h8]
    have nxt : ∀ m, m < ns → m ≠ n ∨ ¬ (rS M n 3 = 0 ∧ ¬ nI c - nI tm < rS M n 1) → kBc c (n + 1) m fo tm (rS M m) := fun m hm hg => by
      obtain ⟨z1, z2, z3, z4, z5⟩ := ha m hm
      refine ⟨z1, z2, z3, fun w => ?_, z5⟩
      obtain ⟨t, y1, y2, y3, y4⟩ := z4 w
      refine ⟨t, y1, y2, y3, fun u => ?_⟩
      have h1 := y4 u
      have h2 : m ≠ n := by
        rcases hg with hg | hg
        · exact hg
        · intro z
          subst z
          exact hg ⟨w, by rw [y3]; exact (kc_late hc htm y1).mpr (by omega)⟩
      omega
    by_cases g : rS M n 3 = 0 ∧ ¬ nI c - nI tm < rS M n 1
    · rw [if_pos g, if_pos g]
      obtain ⟨a1, a2, a3, a4, a5, a6, a7⟩ := kc_lose1 h ho hn hfo ha hnf g.1
      obtain ⟨b1, b2, b3, b4, b5, b6, b7⟩ := ih (n + 1) _ _ (by omega) (by omega) (by rw [a5]; exact h8) a1 a2 (fun m hm => by
        rcases a3 m hm with z | ⟨z0, z1, z2, z3⟩
        · exact z
        · have := nxt m hm (Or.inl z0)
          unfold kBc at this ⊢
          rw [z1, z2, z3]; exact this)
      exact ⟨b1, b2, b3, fun j j1 => (b4 j j1).trans (a4 j j1), b5.trans a5, b6.trans a6, b7.trans a7⟩
    · rw [if_neg g, if_neg g]
      exact ih (n + 1) L M (by omega) (by omega) h8 h ho (fun m hm => nxt m hm (Or.inr g))
end KSet

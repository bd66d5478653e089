/-! ===== class and reference held together: a tick ===== -/
section KTi
variable {nf np ns c : Nat} {q : Nat → List Nat} {sf : Nat → Nat} {L L' : Lnk} {M M' : Rf}
theorem kc_pick_cg {V V' : Nat → Int64} {ok ok' : Nat → Bool} {N : Nat} (hN : N < 2 ^ 31) (hV : ∀ x, x < N → V x = V' x) (ho : ∀ x, x < N → ok x = ok' x) : ∀ (k f : Nat) (b : Int32), f + k ≤ N → ix N b → lPick V ok k f b = lPick V' ok' k f b := by
  intro k
  induction k with
  | zero => intro f b _ _; rfl
  | succ k ih =>
    intro f b hf hb
    show lPick V ok k (f + 1) (if ok f = true ∧ (b = -1 ∨ V f < V b.toNatClampNeg) then nI f else b) = lPick V' ok' k (f + 1) (if ok' f = true ∧ (b = -1 ∨ V' f < V' b.toNatClampNeg) then nI f else b)
    have e : (if ok f = true ∧ (b = -1 ∨ V f < V b.toNatClampNeg) then nI f else b) = (if ok' f = true ∧ (b = -1 ∨ V' f < V' b.toNatClampNeg) then nI f else b) := by
      rw [ho f (by omega), hV f (by omega)]
      rcases hb with z | ⟨x, hx, z⟩
      · simp [z]
      · have t : b.toNatClampNeg = x := by rw [z]; exact nI_clamp (by omega)
        rw [t, hV x hx]
    rw [e]
    refine ih (f + 1) _ (by omega) ?_
    split
    · exact Or.inr ⟨f, by omega, rfl⟩
    · exact hb
theorem kc_pick_ok {V : Nat → Int64} {ok : Nat → Bool} {N : Nat} (hN : N < 2 ^ 31) : ∀ (k f : Nat) (b : Int32), f + k ≤ N → (b = -1 ∨ ∃ x, x < N ∧ b = nI x ∧ ok x = true) → (lPick V ok k f b = -1 ∧ b = -1 ∧ ∀ x, f ≤ x → x < f + k → ok x = false) ∨ ∃ g, g < N ∧ lPick V ok k f b = nI g ∧ ok g = true := by
  intro k
  induction k with
  | zero =>
    intro f b _ hb
    rcases hb with z | z
    · exact Or.inl ⟨z, z, fun x h1 h2 => by omega⟩
    · exact Or.inr z
  | succ k ih =>
    intro f b hf hb
    have h1 := ih (f + 1) (if ok f = true ∧ (b = -1 ∨ V f < V b.toNatClampNeg) then nI f else b) (by omega) (by
      split
      · rename_i g
        exact Or.inr ⟨f, by omega, rfl, g.1⟩
      · exact hb)
    rcases h1 with ⟨a1, a2, a3⟩ | z
    · have hb1 : b = -1 := by
        split at a2
        · exact absurd a2 (nI_ne1 (by omega))
        · exact a2
      refine Or.inl ⟨a1, hb1, fun x x1 x2 => ?_⟩
      by_cases e : x = f
      · subst e
        by_cases g : ok x = true
        · rw [if_pos ⟨g, Or.inl hb1⟩] at a2
          exact absurd a2 (nI_ne1 (by omega))
        · exact Bool.eq_false_iff.mpr g
      · exact a3 x (by omega) (by omega)
    · exact Or.inr z
theorem kc_pos {x : Nat} (h : x < 2 ^ 31) : (0 : Int32) < nI x ↔ ¬ x = 0 := by
  rw [show (0 : Int32) = nI 0 from rfl, nI_ltI (by omega) h]; omega
theorem kc_serve (h : kSt nf np ns c q sf L M) : lServe L nf = rServe M nf ∧ ((rServe M nf = -1 ∧ ∀ f, f < nf → q f = []) ∨ ∃ f p r, f < nf ∧ rServe M nf = nI f ∧ q f = p :: r) := by
  have hl := fun f (hf : f < nf) => kc_ql h hf
  obtain ⟨⟨b1, b2, b3⟩, gX, gF, gV, gP, gS, gT, gQ, gN, gL⟩ := h
  have e7 : ∀ f, f < nf → lF L f 7 = rF M f 7 := fun f hf => gF f 7 hf (by omega)
  have ok : ∀ f, f < nf → ((0 : Int32) < rF M f 7 ↔ ¬ q f = []) := fun f hf => by
    rw [(gQ f hf).1.1, kc_pos (by have := hl f hf; omega), List.length_eq_zero_iff]
  constructor
  · unfold lServe rServe
    exact kc_pick_cg (N := nf) (by omega) gV (fun x hx => by rw [e7 x hx]) nf 0 (-1) (by omega) (Or.inl rfl)
  · unfold rServe
    rcases kc_pick_ok (V := rV M) (ok := fun f => decide (0 < rF M f 7)) (N := nf) (by omega) nf 0 (-1) (by omega) (Or.inl rfl) with ⟨a1, _, a3⟩ | ⟨f, f1, f2, f3⟩
    · refine Or.inl ⟨a1, fun f hf => ?_⟩
      have z := a3 f (by omega) (by omega)
      rw [decide_eq_false_iff_not, ok f hf] at z
      exact Classical.not_not.mp z
    · rw [decide_eq_true_eq, ok f f1] at f3
      cases e : q f with
      | nil => exact absurd e f3
      | cons p r => exact Or.inr ⟨f, p, r, f1, f2, e⟩
/-- whether something is queued -/
theorem kc_any (h : kSt nf np ns c q sf L M) : (rServe M nf = -1 → lX L 13 = 0) ∧ (¬ rServe M nf = -1 → (0 : Int32) < lX L 13 ∧ ¬ lX L 13 = 0) := by
  have hl := fun f (hf : f < nf) => kc_ql h hf
  have hs := (kc_serve h).2
  have hb := h.1
  have e13 := h.2.2.2.2.2.2.2.2.1.1
  have hle := kc_su_le (g := fun f => (q f).length) (B := 100) (k := nf) (i := 0) (fun x _ hx => by have := hl x (by omega); omega)
  constructor
  · intro e
    rcases hs with ⟨_, z⟩ | ⟨f, p, r, f1, f2, f3⟩
    · rw [e13, kc_su_0 (fun x _ hx => by rw [z x (by omega)]; rfl)]; rfl
    · rw [f2] at e
      exact absurd e (nI_ne1 (by omega))
  · intro e
    rcases hs with ⟨z, _⟩ | ⟨f, p, r, f1, f2, f3⟩
    · exact absurd z e
    · have hge := kc_su_ge (g := fun f => (q f).length) (j := f) (k := nf) (i := 0) (by omega) (by omega)
      rw [f3, List.length_cons] at hge
      rw [e13]
      exact ⟨(kc_pos (by omega)).mpr (by omega), nI_ne0 (by omega) (by omega)⟩
theorem kc_sendOne (h : kI nf np ns c L M) (ho : kO nf ns L M) (hd : kD ns (c + 1) L M) (hc : c < 2 ^ 29) (hs : ns < 300) {f p : Nat} (hf : f < nf) (hp : p < np) (hpf : rP M p 0 = nI f) (h3 : rP M p 3 = 0) :
    kI nf np (ns + 1) c (lSend1 L ns f p) (rSend M f p ns) ∧ kO nf (ns + 1) (lSend1 L ns f p) (rSend M f p ns) ∧ kD (ns + 1) (c + 1) (lSend1 L ns f p) (rSend M f p ns) := by
  obtain ⟨q, sf, hst, hz⟩ := h
  obtain ⟨dl, tm, fo, hdl, htm, hr, hfo, e15, hlow, hnx⟩ := hd
  have hb := hst.1
  obtain ⟨z1, z2⟩ := hz p hp
  have s0 : sf p = 0 := (nI_eq (by omega) (by omega)).mp (z1.symm.trans h3)
  obtain ⟨q', sf', hk, hz'⟩ := kc_send hst hz hs hf hp hpf s0
  obtain ⟨fx, f16, fn⟩ := kc_lSend_fr L ns f p
  obtain ⟨rw', ru, rp, rx, rs, r0, r1, r2, r3⟩ := kc_rSend_fr M f p ns
  have e4 : rX M 4 = nI c := hst.2.1.2.2.2.2.1.2
  obtain ⟨lt, l1, l2⟩ := (hst.2.2.2.2.2.2.1.2.2 f hf).2
  refine ⟨⟨q', sf', hk, hz'⟩, fun g hg => ?_, dl, tm, fo, ⟨hdl.1, hdl.2.1, by rw [rx 7 (by omega) (by omega)]; exact hdl.2.2⟩, ⟨htm.1, htm.2.1, by rw [rx 8 (by omega) (by omega)]; exact htm.2.2⟩, fun m hm => ?_, by omega, by rw [fx 15 (by omega) (by omega) (by omega) (by omega)]; exact e15, fun m hm => ?_, fun m hm => ?_⟩
  · rw [f16 g, kc_su_sn, Nat.zero_add, r3, r0, show tn (nI p) = p from nI_clamp (by omega), rp p, hpf]
    have ec : kc_su (fun n => if rS (rSend M f p ns) n 3 = 0 ∧ rP (rSend M f p ns) (tn (rS (rSend M f p ns) n 0)) 0 = nI g then 1 else 0) ns 0 = kc_su (fun n => if rS M n 3 = 0 ∧ rP M (tn (rS M n 0)) 0 = nI g then 1 else 0) ns 0 := kc_su_cg (fun x _ hx => by rw [rs x 3 (by omega), rs x 0 (by omega), rp])
    rw [ec]
    by_cases e : g = f
    · subst e
      rw [if_pos rfl, if_pos ⟨rfl, rfl⟩, ho g hg, nI_1]
    · rw [if_neg e, if_neg (fun z => kc_nf (by omega) (by omega) (Ne.symm e) z.2), ho g hg]; rfl
  · by_cases e : m = ns
    · subst e
      unfold kDr
      rw [r1, r2, r3, e4, hdl.2.2, l2]
      refine ⟨Or.inl rfl, fun w => absurd w (by decide), fun _ => ?_, fun _ => ⟨c, by omega, by omega, rfl⟩⟩
      unfold kc_at
      split
      · exact Or.inl rfl
      · rw [nI_add]
        split
        · rw [nI_add]
          exact Or.inr ⟨c + dl + lt, by omega, by omega, rfl⟩
        · rw [Int32.add_zero]
          exact Or.inr ⟨c + dl, by omega, by omega, rfl⟩
    · have := hr m (by omega)
      unfold kDr at this ⊢
      rw [rs m 1 e, rs m 2 e, rs m 3 e]; exact this
  · rw [rs m 3 (by omega), rs m 2 (by omega)]; exact hlow m hm
  · have eD : lDue (lSend1 L ns f p) ns = kc_du (rS (rSend M f p ns) ns 1) (rS (rSend M f p ns) ns 2) (rS (rSend M f p ns) ns 3) (rX (rSend M f p ns) 8) := by
      have y := (hk.2.2.2.2.2.1 ns (by omega)).1
      rw [kc_du_e, y 1 (by omega), y 2 (by omega), y 3 (by omega), hk.2.1.2.1.2.2]
    rw [fn]
    by_cases e : m = ns
    · subst e
      rw [← eD]
      split
      · exact Int32.lt_irrefl
      · rename_i g; exact g
    · have := hnx m (by omega)
      rw [rs m 1 e, rs m 2 e, rs m 3 e, rx 8 (by omega) (by omega)]
      split
      · rename_i g
        rw [Int32.lt_iff_toInt_lt] at this g ⊢; omega
      · exact this
theorem kc_sendLoop (hc : c < 2 ^ 29) : ∀ (k ns : Nat) (L : Lnk) (M : Rf), ns + k = 300 → kI nf np ns c L M → kO nf ns L M → kD ns (c + 1) L M →
    ∃ ns', kI nf np ns' c (lSendQ nf k ns L) (rSendL nf k M) ∧ kO nf ns' (lSendQ nf k ns L) (rSendL nf k M) ∧ kD ns' (c + 1) (lSendQ nf k ns L) (rSendL nf k M) ∧ rW (rSendL nf k M) = rW M ∧ rU (rSendL nf k M) = rU M ∧ rX (rSendL nf k M) 1 = rX M 1 := by
  intro k
  induction k with
  | zero => intro ns L M _ h ho hd; exact ⟨ns, h, ho, hd, rfl, rfl, rfl⟩
  | succ k ih =>
    intro ns L M hk h ho hd
    have hI := h
    obtain ⟨q, sf, hst, hz⟩ := h
    have hb := hst.1
    obtain ⟨sv, sv2⟩ := kc_serve hst
    obtain ⟨an1, an2⟩ := kc_any hst
    show ∃ ns', kI nf np ns' c (if 0 < lX L 13 then (if lX L 12 < lP L (tn (lF L (tn (lServe L nf)) 17)) 1 then L else lSendQ nf k (ns + 1) (lSend1 L ns (tn (lServe L nf)) (tn (lF L (tn (lServe L nf)) 17)))) else L) (if rCan M nf = true then rSendL nf k (rDo M nf) else M) ∧ kO nf ns' (if 0 < lX L 13 then (if lX L 12 < lP L (tn (lF L (tn (lServe L nf)) 17)) 1 then L else lSendQ nf k (ns + 1) (lSend1 L ns (tn (lServe L nf)) (tn (lF L (tn (lServe L nf)) 17)))) else L) (if rCan M nf = true then rSendL nf k (rDo M nf) else M) ∧ kD ns' (c + 1) (if 0 < lX L 13 then (if lX L 12 < lP L (tn (lF L (tn (lServe L nf)) 17)) 1 then L else lSendQ nf k (ns + 1) (lSend1 L ns (tn (lServe L nf)) (tn (lF L (tn (lServe L nf)) 17)))) else L) (if rCan M nf = true then rSendL nf k (rDo M nf) else M) ∧ rW (if rCan M nf = true then rSendL nf k (rDo M nf) else M) = rW M ∧ rU (if rCan M nf = true then rSendL nf k (rDo M nf) else M) = rU M ∧ rX (if rCan M nf = true then rSendL nf k (rDo M nf) else M) 1 = rX M 1
    rcases sv2 with ⟨z, _⟩ | ⟨f, p, r, f1, f2, f3⟩
    · have e13 := an1 z
      have nc : ¬ rCan M nf = true := by unfold rCan; simp [z]
      rw [if_neg (by rw [e13]; exact Int32.lt_irrefl), if_neg nc]
      exact ⟨ns, hI, ho, hd, rfl, rfl, rfl⟩
    · have ne1 : ¬ rServe M nf = -1 := by rw [f2]; exact nI_ne1 (by omega)
      obtain ⟨p13, _⟩ := an2 ne1
      obtain ⟨⟨_, zq⟩, ⟨z17, _, _⟩, _, zm⟩ := hst.2.2.2.2.2.2.2.1 f f1
      have hp := (zm p).mp (by rw [f3]; simp)
      have tf : tn (nI f) = f := nI_clamp (by omega)
      have tp : tn (nI p) = p := nI_clamp (by omega)
      have e17 : lF L f 17 = nI p := by rw [z17, f3]; rfl
      have eQ : rQ M f 0 = nI p := zq 0 p (by rw [f3]; rfl)
      have eFi : rFirst M nf = p := by unfold rFirst; rw [f2, tf, eQ, tp]
      have e12 : lX L 12 = rX M 5 := hst.2.1.2.2.2.2.2
      have e3 : rX M 3 = nI ns := hst.2.1.2.2.2.1.2
      have eP1 : lP L p 1 = rP M p 1 := hst.2.2.2.2.1 p 1 hp.1 (by omega)
      have h3 : rP M p 3 = 0 := by rw [(hz p hp.1).1, hp.2.2]; rfl
      have n300 : ¬ rX M 3 = 300 := by
        rw [e3]
        exact fun z => absurd ((nI_eq (a := ns) (b := 300) (by omega) (by omega)).mp z) (by omega)
      rw [if_pos p13, sv, f2, tf, e17, tp, e12, eP1]
      have eDo : rDo M nf = rSend M f p ns := by
        unfold rDo
        rw [f2, tf, eFi, e3, show tn (nI ns) = ns from nI_clamp (by omega)]
      by_cases g : rX M 5 < rP M p 1
      · have nc : ¬ rCan M nf = true := by unfold rCan; rw [eFi]; simp [g]
        rw [if_pos g, if_neg nc]
        exact ⟨ns, hI, ho, hd, rfl, rfl, rfl⟩
      · have yc : rCan M nf = true := by unfold rCan; rw [eFi]; simp [ne1, n300, g]
        rw [if_neg g, if_pos yc, eDo]
        obtain ⟨a1, a2, a3⟩ := kc_sendOne hI ho hd hc (by omega) f1 hp.1 hp.2.1 h3
        obtain ⟨ns', b1, b2, b3, b4, b5, b6⟩ := ih (ns + 1) _ _ (by omega) a1 a2 a3
        obtain ⟨rw', ru, _, rx, _⟩ := kc_rSend_fr M f p ns
        exact ⟨ns', b1, b2, b3, b4.trans rw', b5.trans ru, b6.trans (rx 1 (by omega) (by omega))⟩
/-! the record of a tick -/
theorem kc_rOut {S P : Nat → Nat → Int32} {v : Int32} : ∀ (k i : Nat) (b : Int32), rOutG S P v k i b = b + nI (kc_su (fun n => if S n 3 = 0 ∧ P (tn (S n 0)) 0 = v then 1 else 0) k i) := by
  intro k
  induction k with
  | zero => intro i b; show b = b + nI 0; rw [show nI 0 = (0 : Int32) from rfl, Int32.add_zero]
  | succ k ih =>
    intro i b
    show rOutG S P v k (i + 1) (b + (if S i 3 = 0 ∧ P (tn (S i 0)) 0 = v then 1 else 0)) = b + nI ((if S i 3 = 0 ∧ P (tn (S i 0)) 0 = v then 1 else 0) + kc_su (fun n => if S n 3 = 0 ∧ P (tn (S n 0)) 0 = v then 1 else 0) k (i + 1))
    rw [ih, ← nI_add, Int32.add_assoc]
    congr 2
    split <;> rfl
theorem kc_busy (h : kSt nf np ns c q sf L M) (ho : kO nf ns L M) {f : Nat} (hf : f < nf) : lBusy L f = !rIdle M ns f := by
  have hl := kc_ql h hf
  have hb := h.1
  have e7 : lF L f 7 = rF M f 7 := h.2.2.1 f 7 hf (by omega)
  have z7 : rF M f 7 = nI (q f).length := (h.2.2.2.2.2.2.2.1 f hf).1.1
  have hle := kc_su_le (g := fun n => if rS M n 3 = 0 ∧ rP M (tn (rS M n 0)) 0 = nI f then 1 else 0) (B := 1) (k := ns) (i := 0) (fun x _ _ => by split <;> omega)
  unfold lBusy rIdle rOut
  rw [kc_rOut, Int32.zero_add, ho f hf, e7, z7]
  generalize kc_su (fun n => if rS M n 3 = 0 ∧ rP M (tn (rS M n 0)) 0 = nI f then 1 else 0) ns 0 = a at hle
  generalize (q f).length = b at hl
  have k1 : ((0 : Int32) < nI b) ↔ ¬ nI b = 0 := by rw [kc_pos (by omega), show (0 : Int32) = nI 0 from rfl, nI_eq (by omega) (by omega)]
  have k2 : ((0 : Int32) < nI a) ↔ ¬ nI a = 0 := by rw [kc_pos (by omega), show (0 : Int32) = nI 0 from rfl, nI_eq (by omega) (by omega)]
  simp only [k1, k2]
  by_cases g1 : nI b = 0 <;> by_cases g2 : nI a = 0 <;> simp [g1, g2]
theorem kc_mask {L : Lnk} {M : Rf} {ns : Nat} : ∀ (k f : Nat) (b : Int32), (∀ x, f ≤ x → x < f + k → lBusy L x = !rIdle M ns x) → rMask M ns k f b = lMask L k f b := by
  intro k
  induction k with
  | zero => intro f b _; rfl
  | succ k ih =>
    intro f b h
    show rMask M ns k (f + 1) (b ||| (if rIdle M ns f = true then 0 else (1 : Int32) <<< (nI f &&& 31))) = lMask L k (f + 1) (if lBusy L f = true then b ||| ((1 : Int32) <<< (nI f &&& 31)) else b)
    rw [h f (by omega) (by omega), ← ih (f + 1) _ (fun x h1 h2 => h x (by omega) (by omega))]
    by_cases g : rIdle M ns f = true
    · rw [if_pos g, g, Int32.or_zero, if_neg (by decide)]
    · rw [if_neg g, Bool.eq_false_iff.mpr g, if_pos (by decide)]
theorem kc_rRow {M : Rf} {r : Nat} : ∀ (k f : Nat) (W : Nat → Nat → Int32) (x j : Nat), rRow M r k f W x j = if x = r ∧ f ≤ j ∧ j < f + k then rF M j 9 else W x j := by
  intro k
  induction k with
  | zero => intro f W x j; rw [if_neg (by omega)]; rfl
  | succ k ih =>
    intro f W x j
    show rRow M r k (f + 1) (j_up W r f (rF M f 9)) x j = _
    rw [ih]
    by_cases e : x = r ∧ f + 1 ≤ j ∧ j < f + 1 + k
    · rw [if_pos e, if_pos (by omega)]
    · rw [if_neg e]
      by_cases e2 : x = r ∧ j = f
      · rw [e2.1, e2.2, ju_s, if_pos (by omega)]
      · rw [ju_n e2, if_neg (by omega)]
/-- a tick -/
theorem kc_tick (h : kI nf np ns c L M) (ho : kO nf ns L M) (hd : kD ns c L M) (hc : c < 2 ^ 29) :
    ∃ ns', kI nf np ns' (c + 1) (lTick nf L) (rTick nf M) ∧ kO nf ns' (lTick nf L) (rTick nf M) ∧ kD ns' (c + 1) (lTick nf L) (rTick nf M) ∧ (rU (rTick nf M) = rU M ∧ rX (rTick nf M) 1 = rX M 1) ∧ (∀ x j, x ≠ c % 128 → rW (rTick nf M) x j = rW M x j) ∧ (∀ f, f < nf → rW (rTick nf M) (c % 128) f = lF (lTick nf L) f 10) ∧ rW (rTick nf M) (c % 128) 6 = lMask (lTick nf L) nf 0 0 := by
  obtain ⟨L1, M1, eL1, eM1, a1, a2, a3, a4, a5, a6, a7⟩ := kc_settle h ho hd hc
  have eX : lX L1 12 = rX M1 5 ∧ lX L1 6 = rX M1 6 ∧ lX L1 10 = nI ns ∧ rX M1 3 = nI ns ∧ ns ≤ 300 := by
    obtain ⟨q, sf, hst, _⟩ := a1
    exact ⟨hst.2.1.2.2.2.2.2, hst.2.1.2.1.1, hst.2.1.2.2.2.1.1, hst.2.1.2.2.2.1.2, hst.1.2.2⟩
  have ecr : (if 100000 < lX L1 12 + lX L1 6 then 100000 else lX L1 12 + lX L1 6) = rCred M1 := by
    unfold rCred
    rw [eX.1, eX.2.1]
    by_cases g1 : 100000 < rX M1 5 + rX M1 6
    · rw [if_pos g1, if_neg (fun g2 => by rw [Int32.lt_iff_toInt_lt] at g1 g2; omega)]
    · rw [if_neg g1]
      by_cases g2 : rX M1 5 + rX M1 6 < 100000
      · rw [if_pos g2]
      · rw [if_neg g2]
        have : (rX M1 5 + rX M1 6).toInt = (100000 : Int32).toInt := by rw [Int32.lt_iff_toInt_lt] at g1 g2; omega
        exact Int32.toInt_inj.mp this
  have b1 : kI nf np ns c (lsX L1 12 (rCred M1)) (rSend0 M1) := by
    obtain ⟨q, sf, hst, hz⟩ := a1
    exact ⟨q, sf, kc_X12 hst _, hz⟩
  have t3 : tn (nI ns) = ns := nI_clamp (by omega)
  obtain ⟨ns', c1, c2, c3, c4, c5, c6⟩ := kc_sendLoop hc (300 - ns) ns (lsX L1 12 (rCred M1)) (rSend0 M1) (by omega) b1 a2 a3
  have eT : lTick nf L = (let L4 := if lX (lSendQ nf (300 - ns) ns (lsX L1 12 (rCred M1))) 13 = 0 then lsX (lSendQ nf (300 - ns) ns (lsX L1 12 (rCred M1))) 12 0 else lSendQ nf (300 - ns) ns (lsX L1 12 (rCred M1)); lsX L4 11 (lX L4 11 + 1)) := by
    unfold lTick
    rw [eL1]
    dsimp only
    have e10 : lX (lsX L1 12 (if 100000 < lX L1 12 + lX L1 6 then 100000 else lX L1 12 + lX L1 6)) 10 = nI ns := eX.2.2.1
    rw [e10, t3, ecr]
  have eR : rTick nf M = rEnd nf (rSendL nf (300 - ns) (rSend0 M1)) := by
    unfold rTick
    rw [eM1]
    have e3 : rX (rSend0 M1) 3 = nI ns := eX.2.2.2.1
    rw [e3, t3]
  rw [eT, eR]
  have c4' : rW (rSendL nf (300 - ns) (rSend0 M1)) = rW M := c4.trans a6
  have c5' : rU (rSendL nf (300 - ns) (rSend0 M1)) = rU M := c5.trans a7
  have c6' : rX (rSendL nf (300 - ns) (rSend0 M1)) 1 = rX M 1 := c6.trans (by rw [← a5]; rfl)
  generalize lSendQ nf (300 - ns) ns (lsX L1 12 (rCred M1)) = L3 at c1 c2 c3 ⊢
  generalize rSendL nf (300 - ns) (rSend0 M1) = M4 at c1 c2 c3 c4' c5' c6' ⊢
  dsimp only
  -- the credit when nothing is queued
  have d1 : ∃ L4 M5, (if lX L3 13 = 0 then lsX L3 12 0 else L3) = L4 ∧ rsX M4 5 (if rServe M4 nf = -1 then 0 else rX M4 5) = M5 ∧ kI nf np ns' c L4 M5 ∧ kO nf ns' L4 M5 ∧ kD ns' (c + 1) L4 M5 ∧ rW M5 = rW M4 ∧ rU M5 = rU M4 ∧ rX M5 1 = rX M4 1 := by
    obtain ⟨q, sf, hst, hz⟩ := c1
    obtain ⟨an1, an2⟩ := kc_any hst
    by_cases g : rServe M4 nf = -1
    · rw [if_pos (an1 g), if_pos g]
      exact ⟨_, _, rfl, rfl, ⟨q, sf, kc_X12 hst 0, hz⟩, c2, c3, rfl, rfl, rfl⟩
    · rw [if_neg (an2 g).2, if_neg g]
      refine ⟨_, _, rfl, rfl, ⟨q, sf, ?_, hz⟩, c2, ?_, rfl, rfl, rfl⟩
      · have z := kc_X12 hst (lX L3 12)
        have e1 : lsX L3 12 (lX L3 12) = L3 := by
          have : up1 (lX L3) 12 (lX L3 12) = lX L3 := by
            funext j
            by_cases e : j = 12
            · rw [e, u1_s]
            · rw [u1_n e]
          show (up1 (lX L3) 12 (lX L3 12), L3.2) = L3
          rw [this]; rfl
        rw [e1] at z
        rw [hst.2.1.2.2.2.2.2] at z
        exact z
      · obtain ⟨dl, tm, fo, y1, y2, y3, y4, y5, y6, y7⟩ := c3
        exact ⟨dl, tm, fo, y1, y2, y3, y4, y5, y6, y7⟩
  obtain ⟨L4, M5, e4, e5, f1, f2, f3, f4, f5, f6⟩ := d1
  unfold rEnd
  dsimp only
  rw [e4, e5]
  have hI := f1
  obtain ⟨q, sf, hst, hz⟩ := f1
  have eX5 : rX M5 3 = nI ns' := hst.2.1.2.2.2.1.2
  have eX54 : rX M5 4 = nI c := hst.2.1.2.2.2.2.1.2
  have hb := hst.1
  rw [eX5, eX54, show tn (nI ns') = ns' from nI_clamp (by omega), show tn (nI c) = c from nI_clamp (by omega)]
  have hk := kc_X11 hst
  have eW : rW (rsX (rRecord M5 nf ns' (c % 128)) 4 (rX (rRecord M5 nf ns' (c % 128)) 4 + 1)) = j_up (rRow M5 (c % 128) nf 0 (rW M5)) (c % 128) 6 (rMask M5 ns' nf 0 0) := rfl
  refine ⟨ns', ⟨q, sf, hk, hz⟩, f2, ?_, ⟨f5.trans c5', f6.trans c6'⟩, fun x j hx => ?_, fun f hf => ?_, ?_⟩
  · obtain ⟨dl, tm, fo, y1, y2, y3, y4, y5, y6, y7⟩ := f3
    exact ⟨dl, tm, fo, y1, y2, y3, y4, y5, y6, y7⟩
  · rw [eW, ju_n (by omega), kc_rRow, if_neg (by omega), f4, c4']
  · rw [eW, ju_n (by omega), kc_rRow, if_pos (by omega)]
    exact (hst.2.2.1 f 9 hf (by omega)).symm
  · rw [eW, ju_s]
    have z : lMask (lsX L4 11 (lX L4 11 + 1)) nf 0 0 = lMask L4 nf 0 0 := by
      have : ∀ (k f : Nat) (b : Int32), lMask (lsX L4 11 (lX L4 11 + 1)) k f b = lMask L4 k f b := by
        intro k
        induction k with
        | zero => intro f b; rfl
        | succ k ih => intro f b; exact ih _ _
      exact this nf 0 0
    rw [z]
    exact kc_mask nf 0 0 (fun x _ hx => kc_busy hst f2 (by omega))
end KTi

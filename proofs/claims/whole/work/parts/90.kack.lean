/-! ===== class and reference held together: an acknowledgment, a loss ===== -/
section KAck
variable {nf np ns c : Nat} {q : Nat → List Nat} {sf : Nat → Nat} {L : Lnk} {M : Rf}
theorem kc_F14 {sf' : Nat → Nat} (h : kSt nf np ns c q sf L M) {f : Nat} {v : Int32} (s0 : ∀ x, sf' x = 0 ↔ sf x = 0) (s2 : ∀ x, sf' x = 2 ↔ sf x = 2) (hv : ∀ g, g < nf → (if g = f then v else lF L g 14) = nI (kc_su (fun p => if rP M p 0 = nI g ∧ sf' p = 3 then 1 else 0) np 0)) : kSt nf np ns c q sf' (lsF L f 14 v) M := by
  obtain ⟨g0, gX, gF, gV, gP, gS, gT, gQ, gN, gL⟩ := h
  refine ⟨g0, gX, fun g k hg hk => ?_, gV, gP, gS, gT, fun g hg => ?_, ⟨gN.1, ?_, fun g hg => ?_⟩, gL⟩
  · show j_up (lF L) f 14 v g (kc_fc k) = _
    rw [ju_n (by have := kc_fc_no hk; omega)]; exact gF g k hg hk
  · have z := gQ g hg
    refine ⟨z.1, ⟨?_, ?_, z.2.1.2.2⟩, z.2.2.1, fun x => ?_⟩
    · show j_up (lF L) f 14 v g 17 = _
      rw [ju_n (by omega)]; exact z.2.1.1
    · show j_up (lF L) f 14 v g 18 = _
      rw [ju_n (by omega)]; exact z.2.1.2.1
    · rw [s0 x]; exact z.2.2.2 x
  · simp only [s2]; exact gN.2.1
  · have z := gN.2.2 g hg
    refine ⟨?_, ?_, ?_⟩
    · show j_up (lF L) f 14 v g 8 = _
      rw [ju_n (by omega)]; exact z.1
    · rw [← hv g hg]
      show j_up (lF L) f 14 v g 14 = _
      by_cases e : g = f
      · rw [e, ju_s, if_pos rfl]
      · rw [ju_n (by omega), if_neg e]
    · simp only [s2]; exact z.2.2
theorem kc_drop (h : kSt nf np ns c q sf L M) {f p : Nat} (hf : f < nf) (hp : p < np) (hpf : rP M p 0 = nI f) (h9 : sf p = 9) : kSt nf np ns c q (up1 sf p 3) (lsF L f 14 (lF L f 14 + 1)) M := by
  have h0 := h.1
  have gN := h.2.2.2.2.2.2.2.2.1
  refine kc_F14 h (fun x => ?_) (fun x => ?_) (fun g hg => ?_)
  · by_cases e : x = p
    · rw [e, u1_s]; omega
    · rw [u1_n e]
  · by_cases e : x = p
    · rw [e, u1_s]; omega
    · rw [u1_n e]
  · have z := (gN.2.2 g hg).2.1
    by_cases e : g = f
    · subst e
      have k1 := kc_su_up (g := fun x => if rP M x 0 = nI g ∧ sf x = 3 then 1 else 0) (g' := fun x => if rP M x 0 = nI g ∧ up1 sf p 3 x = 3 then 1 else 0) (j := p) (k := np) (i := 0) (by omega) (by omega) (fun x hx => by rw [u1_n hx])
      try dsimp only at k1
      rw [if_neg (fun y => absurd y.2 (by omega)), u1_s, if_pos ⟨hpf, rfl⟩] at k1
      rw [if_pos rfl, z, nI_1, ← k1]; rfl
    · rw [if_neg e, z]
      refine congrArg nI (kc_su_cg (fun x _ _ => ?_))
      by_cases ex : x = p
      · have y : ¬ rP M x 0 = nI g := by rw [ex, hpf]; exact kc_nf (by omega) (by omega) (Ne.symm e)
        rw [if_neg (fun w => y w.1), if_neg (fun w => y w.1)]
      · rw [u1_n ex]
theorem kc_undrop (h : kSt nf np ns c q sf L M) {f p : Nat} (hf : f < nf) (hp : p < np) (hpf : rP M p 0 = nI f) (h3 : sf p = 3) : kSt nf np ns c q (up1 sf p 9) (lsF L f 14 (lF L f 14 + (-1))) M := by
  have h0 := h.1
  have gN := h.2.2.2.2.2.2.2.2.1
  refine kc_F14 h (fun x => ?_) (fun x => ?_) (fun g hg => ?_)
  · by_cases e : x = p
    · rw [e, u1_s]; omega
    · rw [u1_n e]
  · by_cases e : x = p
    · rw [e, u1_s]; omega
    · rw [u1_n e]
  · have z := (gN.2.2 g hg).2.1
    by_cases e : g = f
    · subst e
      have k1 := kc_su_up (g := fun x => if rP M x 0 = nI g ∧ sf x = 3 then 1 else 0) (g' := fun x => if rP M x 0 = nI g ∧ up1 sf p 9 x = 3 then 1 else 0) (j := p) (k := np) (i := 0) (by omega) (by omega) (fun x hx => by rw [u1_n hx])
      try dsimp only at k1
      rw [if_pos ⟨hpf, h3⟩, u1_s, if_neg (fun y => absurd y.2 (by omega))] at k1
      rw [if_pos rfl, z, ← Nat.add_zero (kc_su (fun x => if rP M x 0 = nI g ∧ sf x = 3 then 1 else 0) np 0), ← k1, pk_m1]
    · rw [if_neg e, z]
      refine congrArg nI (kc_su_cg (fun x _ _ => ?_))
      by_cases ex : x = p
      · have y : ¬ rP M x 0 = nI g := by rw [ex, hpf]; exact kc_nf (by omega) (by omega) (Ne.symm e)
        rw [if_neg (fun w => y w.1), if_neg (fun w => y w.1)]
      · rw [u1_n ex]
/-- a packet is counted as delivered -/
theorem kc_dl (h : kSt nf np ns c q sf L M) {f p : Nat} (hf : f < nf) (hp : p < np) (hpf : rP M p 0 = nI f) (h9 : sf p = 9) : kSt nf np ns c q (up1 sf p 2) (lsX (lsF L f 10 (lF L f 10 + lP L p 1)) 14 (lX L 14 + 1)) (rsF M f 9 (rF M f 9 + rP M p 1)) := by
  obtain ⟨g0, gX, gF, gV, gP, gS, ⟨t1, t2, t3⟩, gQ, gN, gL⟩ := h
  have s0 : ∀ x, up1 sf p 2 x = 0 ↔ sf x = 0 := fun x => by
    by_cases e : x = p
    · rw [e, u1_s]; omega
    · rw [u1_n e]
  have s3 : ∀ x, up1 sf p 2 x = 3 ↔ sf x = 3 := fun x => by
    by_cases e : x = p
    · rw [e, u1_s]; omega
    · rw [u1_n e]
  refine ⟨g0, gX, fun g k hg hk => ?_, gV, gP, gS, ⟨t1, t2, fun g hg => ?_⟩, fun g hg => ?_, ⟨gN.1, ?_, fun g hg => ?_⟩, gL⟩
  · show j_up (lF L) f 10 _ g (kc_fc k) = j_up (rF M) f 9 _ g k
    by_cases e : g = f ∧ k = 9
    · obtain ⟨rfl, rfl⟩ := e
      rw [ju_s, show kc_fc 9 = 10 from rfl, ju_s]
      have := gF g 9 hg (by omega)
      rw [← this, gP p 1 hp (by omega)]; rfl
    · rw [ju_n e, ju_n (fun z : g = f ∧ kc_fc k = 10 => e ⟨z.1, kc_fc_inj (b := 9) hk (by omega) z.2⟩)]; exact gF g k hg hk
  · have z := t3 g hg
    refine ⟨?_, ?_⟩
    · show ∃ w, 1 ≤ w ∧ w ≤ 16 ∧ j_up (rF M) f 9 _ g 0 = nI w
      rw [ju_n (by omega)]; exact z.1
    · show ∃ w, w ≤ 200 ∧ j_up (rF M) f 9 _ g 6 = nI w
      rw [ju_n (by omega)]; exact z.2
  · have z := gQ g hg
    refine ⟨⟨?_, z.1.2⟩, ⟨?_, ?_, z.2.1.2.2⟩, z.2.2.1, fun x => ?_⟩
    · show j_up (rF M) f 9 _ g 7 = _
      rw [ju_n (by omega)]; exact z.1.1
    · show j_up (lF L) f 10 _ g 17 = _
      rw [ju_n (by omega)]; exact z.2.1.1
    · show j_up (lF L) f 10 _ g 18 = _
      rw [ju_n (by omega)]; exact z.2.1.2.1
    · rw [s0 x]; exact z.2.2.2 x
  · show up1 (lX L) 14 (lX L 14 + 1) 14 = _
    have k1 := kc_su_up (g := fun x => if sf x = 2 then 1 else 0) (g' := fun x => if up1 sf p 2 x = 2 then 1 else 0) (j := p) (k := np) (i := 0) (by omega) (by omega) (fun x hx => by rw [u1_n hx])
    try dsimp only at k1
    rw [if_neg (show ¬ sf p = 2 by omega), u1_s, if_pos rfl] at k1
    rw [u1_s, gN.2.1, nI_1, ← k1]; rfl
  · have z := gN.2.2 g hg
    refine ⟨?_, ?_, ?_⟩
    · show j_up (lF L) f 10 _ g 8 = _
      rw [ju_n (by omega)]; exact z.1
    · show j_up (lF L) f 10 _ g 14 = _
      rw [ju_n (by omega)]; simp only [s3]; exact z.2.1
    · show j_up (rF M) f 9 _ g 9 = _
      by_cases e : g = f
      · subst e
        obtain ⟨w, w1, w2, w3⟩ := (t1 p hp).2
        have k1 := kc_su_up (g := fun x => if rP M x 0 = nI g ∧ sf x = 2 then tn (rP M x 1) else 0) (g' := fun x => if rP M x 0 = nI g ∧ up1 sf p 2 x = 2 then tn (rP M x 1) else 0) (j := p) (k := np) (i := 0) (by omega) (by omega) (fun x hx => by rw [u1_n hx])
        try dsimp only at k1
        rw [if_neg (fun y => absurd y.2 (by omega)), u1_s, if_pos ⟨hpf, rfl⟩, w3, show tn (nI w) = w from nI_clamp (by omega)] at k1
        rw [ju_s, z.2.2, w3, nI_add, ← k1]; rfl
      · rw [ju_n (by omega), z.2.2]
        refine congrArg nI (kc_su_cg (fun x _ _ => ?_))
        by_cases ex : x = p
        · have y : ¬ rP M x 0 = nI g := by rw [ex, hpf]; exact kc_nf (by omega) (by omega) (Ne.symm e)
          rw [if_neg (fun w => y w.1), if_neg (fun w => y w.1)]
        · rw [u1_n ex]; rfl
theorem kc_refund (h : kSt nf np ns c q sf L M) {f n : Nat} (hn : n < ns) : kSt nf np ns c q sf (lRefund L f n) (rRefund M n f) := by
  by_cases hf : f < nf
  · have e4 : lS L n 4 = rS M n 4 := (h.2.2.2.2.2.1 n hn).1 4 (by omega)
    have e5 : (lS L n 5).toInt64 = rC M n := (h.2.2.2.2.2.1 n hn).2
    have eV : lV L f = rV M f := h.2.2.2.1 f hf
    unfold lRefund rRefund
    rw [e4]
    by_cases g : rS M n 4 = 1
    · rw [if_pos g, if_pos g]
      have h1 := kc_V (kc_S h (n := n) (k := 4) (by omega) (by omega) 0) (f := f) (lV L f - (lS L n 5).toInt64)
      have h2 : lsV (lsS L n 4 0) f (lV L f - (lS L n 5).toInt64) = (let L1 := lsS L n 4 0; lsV L1 f (lV L1 f - (lS L1 n 5).toInt64)) := by
        dsimp only
        have : lS (lsS L n 4 0) n 5 = lS L n 5 := ju_n (by omega)
        rw [this]; rfl
      rw [← h2]
      have h3 : rChg M n f 0 = rsV (rsS M n 4 0) f (lV L f - (lS L n 5).toInt64) := by
        unfold rChg
        rw [if_pos rfl, if_pos rfl, eV, e5, Int64.sub_eq_add_neg]; rfl
      rw [h3]; exact h1
    · rw [if_neg g, if_neg g]; exact h
  · have hV : ∀ v, kSt nf np ns c q sf (lsV (lsS L n 4 0) f v) (rsS M n 4 0) := fun v => by
      have h1 := kc_S h (n := n) (k := 4) (by omega) (by omega) 0
      obtain ⟨g0, gX, gF, gV, g⟩ := h1
      exact ⟨g0, gX, gF, fun x hx => by
        show up1 (lV L) f v x = _
        rw [u1_n (by omega)]; exact gV x hx, g⟩
    have e4 : lS L n 4 = rS M n 4 := (h.2.2.2.2.2.1 n hn).1 4 (by omega)
    unfold lRefund rRefund
    rw [e4]
    by_cases g : rS M n 4 = 1
    · rw [if_pos g, if_pos g]
      obtain ⟨g0, gX, gF, gV, g⟩ := hV (lV L f - (lS (lsS L n 4 0) n 5).toInt64)
      exact ⟨g0, gX, gF, fun x hx => by
        have z := gV x hx
        refine z.trans ?_
        show rV M x = up1 (rV M) f _ x
        rw [u1_n (by omega)], g⟩
    · rw [if_neg g, if_neg g]; exact h
/-- the states are told as they are -/
def kZ (np : Nat) (sf : Nat → Nat) (M : Rf) : Prop := ∀ x, x < np → rP M x 3 = nI (sf x) ∧ sf x ≤ 3
theorem kc_takeQ (f : Nat) (p : Int32) : ∀ (k i j : Nat) (M : Rf), ∃ Q', (rTakeL f p k i j M).1 = kc_sQ M Q' := by
  intro k
  induction k with
  | zero => intro i j M; exact ⟨rQ M, rfl⟩
  | succ k ih =>
    intro i j M
    show ∃ Q', (if rQ M f i = p then rTakeL f p k (i + 1) j M else rTakeL f p k (i + 1) (j + 1) (rsQ M f j (rQ M f i))).1 = _
    split
    · exact ih _ _ _
    · obtain ⟨Q', e⟩ := ih (i + 1) (j + 1) (rsQ M f j (rQ M f i))
      exact ⟨Q', e⟩
theorem kc_rTake (M : Rf) (f p : Nat) : ∃ Q' v, rTake M f p = rsF (kc_sQ M Q') f 7 v := by
  obtain ⟨Q', e⟩ := kc_takeQ f (nI p) (tn (rF M f 7)) 0 0 M
  unfold rTake rTakeE
  rw [e]
  exact ⟨Q', _, rfl⟩
theorem kc_rHead (M : Rf) (f p : Nat) : ∃ Q' v, rPutHead M f p = rsF (kc_sQ M Q') f 7 v := by
  obtain ⟨Q', e, _⟩ := kc_shift (f := f) (tn (rF M f 7)) M
  unfold rPutHead rPutE
  rw [e]
  exact ⟨_, _, rfl⟩
theorem kc_rRef_P (M : Rf) (n f : Nat) : rP (rRefund M n f) = rP M := by unfold rRefund; split <;> rfl
theorem kc_rRef_F (M : Rf) (n f : Nat) : rF (rRefund M n f) = rF M := by unfold rRefund; split <;> rfl
theorem kc_rRef_X (M : Rf) (n f : Nat) : rX (rRefund M n f) = rX M := by unfold rRefund; split <;> rfl
theorem kc_rRef_S (M : Rf) (n f m k : Nat) (hk : k ≠ 4) : rS (rRefund M n f) m k = rS M m k := by
  unfold rRefund
  split
  · show j_up (rS M) n 4 _ m k = _
    exact ju_n (by omega)
  · rfl
theorem kc_ack (h : kSt nf np ns c q sf L M) (hz : kZ np sf M) {n p f : Nat} (hn : n < ns) (hp : p < np) (hf : f < nf) (hpf : rP M p 0 = nI f) :
    ∃ q' sf', kSt nf np ns c q' sf' (lAck L n p f) (rAck M n p f) ∧ kZ np sf' (rAck M n p f) := by
  have e3 : lS L n 3 = rS M n 3 := (h.2.2.2.2.2.1 n hn).1 3 (by omega)
  have ep : lP L p 3 = rP M p 3 := h.2.2.2.2.1 p 3 hp (by omega)
  have h1 : kSt nf np ns c q sf (if lS L n 3 = 2 then lsS L n 3 3 else lsF (lsS L n 3 1) f 16 (lF (lsS L n 3 1) f 16 + (-1))) (rsS M n 3 (if rS M n 3 = 2 then 3 else 1)) := by
    rw [e3]
    by_cases g : rS M n 3 = 2
    · rw [if_pos g, if_pos g]; exact kc_S h (by omega) (by omega) _
    · rw [if_neg g, if_neg g]; exact kc_F16 (kc_S h (by omega) (by omega) _) _
  unfold lAck rAck
  dsimp only
  generalize (if lS L n 3 = 2 then lsS L n 3 3 else lsF (lsS L n 3 1) f 16 (lF (lsS L n 3 1) f 16 + (-1))) = L1 at h1 ⊢
  have eM : rP (rsS M n 3 (if rS M n 3 = 2 then 3 else 1)) = rP M := rfl
  generalize rsS M n 3 (if rS M n 3 = 2 then 3 else 1) = M1 at h1 eM ⊢
  rw [ep, eM]
  have hpf1 : rP M1 p 0 = nI f := by rw [eM]; exact hpf
  obtain ⟨z1, z2⟩ := hz p hp
  have hs : ∀ k, k ≤ 3 → (rP M p 3 = nI k ↔ sf p = k) := fun k hk => by
    rw [z1]; exact nI_eq (by omega) (by omega)
  by_cases g2 : rP M p 3 = 2
  · rw [if_pos g2, if_pos g2]
    have h2 := kc_F h1 (f := f) (k := 11) (by omega) (by omega) (rF M1 f 11 + 1)
    have e : lF L1 f 12 = rF M1 f 11 := h1.2.2.1 f 11 hf (by omega)
    rw [e]
    refine ⟨q, sf, kc_refund h2 hn, fun x hx => ?_⟩
    rw [kc_rRef_P]
    show rP M1 x 3 = _ ∧ _
    rw [eM]; exact hz x hx
  · rw [if_neg g2, if_neg g2]
    unfold rDeliver
    rw [eM]
    -- out of its old state
    have h2 : ∃ q', kSt nf np ns c q' (up1 sf p 9) (if rP M p 3 = 0 then lLeave L1 f p else if rP M p 3 = 3 then lsF L1 f 14 (lF L1 f 14 + (-1)) else L1) (if rP M p 3 = 0 then rTake M1 f p else M1) := by
      by_cases g0 : rP M p 3 = 0
      · rw [if_pos g0, if_pos g0]
        exact ⟨_, kc_leave h1 hf hp hpf1 ((hs 0 (by omega)).mp g0)⟩
      · rw [if_neg g0, if_neg g0]
        have n0 : sf p ≠ 0 := fun z => g0 ((hs 0 (by omega)).mpr z)
        have n2 : sf p ≠ 2 := fun z => g2 ((hs 2 (by omega)).mpr z)
        by_cases g3 : rP M p 3 = 3
        · rw [if_pos g3]
          exact ⟨q, kc_undrop h1 hf hp hpf1 ((hs 3 (by omega)).mp g3)⟩
        · rw [if_neg g3]
          have n3 : sf p ≠ 3 := fun z => g3 ((hs 3 (by omega)).mpr z)
          exact ⟨q, kc_sf h1 (by omega) (by omega) (by omega)⟩
    obtain ⟨q', h2⟩ := h2
    have eM2 : rP (if rP M p 3 = 0 then rTake M1 f p else M1) = rP M := by
      by_cases g0 : rP M p 3 = 0
      · rw [if_pos g0]
        obtain ⟨Q', v, e⟩ := kc_rTake M1 f p
        rw [e]; exact eM
      · rw [if_neg g0]; exact eM
    generalize (if rP M p 3 = 0 then lLeave L1 f p else if rP M p 3 = 3 then lsF L1 f 14 (lF L1 f 14 + (-1)) else L1) = L2 at h2 ⊢
    generalize (if rP M p 3 = 0 then rTake M1 f p else M1) = M2 at h2 eM2 ⊢
    have e11 : lX L2 11 = rX M2 4 := by
      have := h2.2.1.2.2.2.2.1
      rw [this.1, this.2]
    have h3 : kSt nf np ns c q' (up1 (up1 sf p 9) p 2) (lDeliver L2 f p) (rsF (rsP (rsP M2 p 3 2) p 5 (rX M2 4)) f 9 (rF M2 f 9 + rP (rsP (rsP M2 p 3 2) p 5 (rX M2 4)) p 1)) := by
      have k1 := kc_P (kc_P h2 (p := p) (k := 3) (by omega) (by omega) 2) (p := p) (k := 5) (by omega) (by omega) (rX M2 4)
      have k2 := kc_dl k1 (f := f) (p := p) hf hp (by
        show j_up (j_up (rP M2) p 3 2) p 5 _ p 0 = _
        rw [ju_n (by omega), ju_n (by omega), eM2]; exact hpf) (by rw [u1_s])
      have e : lDeliver L2 f p = lsX (lsF (lsP (lsP L2 p 3 2) p 5 (rX M2 4)) f 10 (lF (lsP (lsP L2 p 3 2) p 5 (rX M2 4)) f 10 + lP (lsP (lsP L2 p 3 2) p 5 (rX M2 4)) p 1)) 14 (lX (lsP (lsP L2 p 3 2) p 5 (rX M2 4)) 14 + 1) := by
        rw [← e11]; rfl
      rw [e]; exact k2
    have z3 : kZ np (up1 (up1 sf p 9) p 2) (rsF (rsP (rsP M2 p 3 2) p 5 (rX M2 4)) f 9 (rF M2 f 9 + rP (rsP (rsP M2 p 3 2) p 5 (rX M2 4)) p 1)) := fun x hx => by
      show j_up (j_up (rP M2) p 3 2) p 5 _ x 3 = _ ∧ _
      rw [ju_n (by omega)]
      by_cases e : x = p
      · rw [e, ju_s, u1_s]; exact ⟨rfl, by omega⟩
      · rw [ju_n (by omega), u1_n e, u1_n e, eM2]; exact hz x hx
    unfold rDeliver0
    dsimp only
    have eD : rsF (rsP (rsP M2 p 3 2) p 5 (rX (rsP M2 p 3 2) 4)) f 9 (rF (rsP (rsP M2 p 3 2) p 5 (rX (rsP M2 p 3 2) 4)) f 9 + rP (rsP (rsP M2 p 3 2) p 5 (rX (rsP M2 p 3 2) 4)) p 1) = rsF (rsP (rsP M2 p 3 2) p 5 (rX M2 4)) f 9 (rF M2 f 9 + rP (rsP (rsP M2 p 3 2) p 5 (rX M2 4)) p 1) := rfl
    rw [eD]
    generalize rsF (rsP (rsP M2 p 3 2) p 5 (rX M2 4)) f 9 (rF M2 f 9 + rP (rsP (rsP M2 p 3 2) p 5 (rX M2 4)) p 1) = M4 at h3 z3 ⊢
    generalize lDeliver L2 f p = L3 at h3 ⊢
    have c4 : lS L3 n 4 = rS M4 n 4 := (h3.2.2.2.2.2.1 n hn).1 4 (by omega)
    have c5 : (lS L3 n 5).toInt64 = rC M4 n := (h3.2.2.2.2.2.1 n hn).2
    have cV : lV L3 f = rV M4 f := h3.2.2.2.1 f hf
    rw [c4]
    by_cases g4 : rS M4 n 4 = 0
    · rw [if_pos g4, if_pos g4]
      have k1 := kc_V (kc_S (kc_F h3 (f := f) (k := 12) (by omega) (by omega) (rF M4 f 12 + 1)) (n := n) (k := 4) (by omega) (by omega) 1) (f := f) (rV M4 f + rC M4 n)
      have e13 : lF L3 f 13 = rF M4 f 12 := h3.2.2.1 f 12 hf (by omega)
      refine ⟨q', _, ?_, fun x hx => z3 x hx⟩
      have eL : lsV (lsS (lsF L3 f 13 (lF L3 f 13 + 1)) n 4 1) f (lV (lsS (lsF L3 f 13 (lF L3 f 13 + 1)) n 4 1) f + (lS (lsS (lsF L3 f 13 (lF L3 f 13 + 1)) n 4 1) n 5).toInt64) = lsV (lsS (lsF L3 f (kc_fc 12) (rF M4 f 12 + 1)) n 4 1) f (rV M4 f + rC M4 n) := by
        have : lS (lsS (lsF L3 f 13 (lF L3 f 13 + 1)) n 4 1) n 5 = lS L3 n 5 := by
          show j_up (lS L3) n 4 1 n 5 = _
          exact ju_n (by omega)
        rw [this, c5, e13, ← cV]; rfl
      rw [eL]
      have eR : rsF (rChg M4 n f 1) f 12 (rF (rChg M4 n f 1) f 12 + 1) = rsV (rsS (rsF M4 f 12 (rF M4 f 12 + 1)) n 4 1) f (rV M4 f + rC M4 n) := by
        unfold rChg
        rw [if_neg (by decide), if_neg (by decide)]; rfl
      rw [eR]; exact k1
    · rw [if_neg g4, if_neg g4]
      exact ⟨q', _, h3, z3⟩
theorem kc_lastG {S : Nat → Nat → Int32} {v : Int32} : ∀ {k i : Nat}, rLastG S v k i = true ↔ ∀ x, i ≤ x → x < i + k → ¬ S x 0 = v := by
  intro k
  induction k with
  | zero => intro i; exact ⟨fun _ x h1 h2 => by omega, fun _ => rfl⟩
  | succ k ih =>
    intro i
    show (if S i 0 = v then false else rLastG S v k (i + 1)) = true ↔ _
    by_cases e : S i 0 = v
    · rw [if_pos e]
      exact ⟨fun z => absurd z (by simp), fun z => absurd e (z i (by omega) (by omega))⟩
    · rw [if_neg e, ih]
      exact ⟨fun z x h1 h2 => by
        by_cases y : x = i
        · rw [y]; exact e
        · exact z x (by omega) (by omega), fun z x h1 h2 => z x (by omega) (by omega)⟩
theorem kc_latI {T : Nat → Nat → Int32} {p n : Nat} (h0 : T n 0 = nI p) : ∀ {m : Nat}, n < m → m < 1000 → (kc_lat T p m = nI n ↔ ∀ x, n + 1 ≤ x → x < m → ¬ T x 0 = nI p) := by
  intro m
  induction m with
  | zero => intro h; omega
  | succ m ih =>
    intro h1 h2
    show (if T m 0 = nI p then nI m else kc_lat T p m) = nI n ↔ _
    by_cases e : m = n
    · subst e
      rw [if_pos h0]
      exact ⟨fun _ x a b => by omega, fun _ => rfl⟩
    · by_cases g : T m 0 = nI p
      · rw [if_pos g]
        exact ⟨fun z => absurd ((nI_eq (by omega) (by omega)).mp z) e, fun z => absurd g (z m (by omega) (by omega))⟩
      · rw [if_neg g, ih (by omega) (by omega)]
        exact ⟨fun z x a b => by
          by_cases y : x = m
          · rw [y]; exact g
          · exact z x a (by omega), fun z x a b => z x a (by omega)⟩
theorem kc_lose (h : kSt nf np ns c q sf L M) (hz : kZ np sf M) {n p f : Nat} (hn : n < ns) (hp : p < np) (hf : f < nf) (hpn : rS M n 0 = nI p) (hpf : rP M p 0 = nI f) :
    ∃ q' sf', kSt nf np ns c q' sf' (lLose L n p f) (rLose M ns n p f) ∧ kZ np sf' (rLose M ns n p f) := by
  have h1 : kSt nf np ns c q sf (lRefund (lsF (lsF (lsS L n 3 2) f 16 (lF (lsS L n 3 2) f 16 + (-1))) f 11 (lF (lsF (lsS L n 3 2) f 16 (lF (lsS L n 3 2) f 16 + (-1))) f 11 + 1)) f n) (rRefund (rsF (rsS M n 3 2) f 10 (rF (rsS M n 3 2) f 10 + 1)) n f) := by
    have k1 := kc_F (kc_F16 (kc_S h (n := n) (k := 3) (by omega) (by omega) 2) (f := f) (lF (lsS L n 3 2) f 16 + (-1))) (f := f) (k := 10) (by omega) (by omega) (rF M f 10 + 1)
    have e : lF (lsF (lsS L n 3 2) f 16 (lF (lsS L n 3 2) f 16 + (-1))) f 11 = rF M f 10 := by
      show j_up (lF L) f 16 _ f 11 = _
      rw [ju_n (by omega)]; exact h.2.2.1 f 10 hf (by omega)
    rw [e]
    exact kc_refund k1 hn
  have eP : rP (rRefund (rsF (rsS M n 3 2) f 10 (rF (rsS M n 3 2) f 10 + 1)) n f) = rP M := kc_rRef_P _ _ _
  have eS : rS (rRefund (rsF (rsS M n 3 2) f 10 (rF (rsS M n 3 2) f 10 + 1)) n f) n 0 = nI p := by
    rw [kc_rRef_S _ _ _ _ _ (by omega)]
    show j_up (rS M) n 3 2 n 0 = _
    rw [ju_n (by omega)]; exact hpn
  unfold lLose rLose
  dsimp only
  generalize lRefund (lsF (lsF (lsS L n 3 2) f 16 (lF (lsS L n 3 2) f 16 + (-1))) f 11 (lF (lsF (lsS L n 3 2) f 16 (lF (lsS L n 3 2) f 16 + (-1))) f 11 + 1)) f n = L4 at h1 ⊢
  generalize rRefund (rsF (rsS M n 3 2) f 10 (rF (rsS M n 3 2) f 10 + 1)) n f = M3 at h1 eP eS ⊢
  have b := h1.1
  have hz3 : kZ np sf M3 := fun x hx => by rw [eP]; exact hz x hx
  have ep3 : lP L4 p 3 = rP M3 p 3 := h1.2.2.2.2.1 p 3 hp (by omega)
  have ep4 : lP L4 p 4 = rP M3 p 4 := h1.2.2.2.2.1 p 4 hp (by omega)
  have ef3 : lF L4 f 3 = rF M3 f 3 := h1.2.2.1 f 3 hf (by omega)
  have el : lP L4 p 10 = nI n ↔ rLast M3 (rS M3 n 0) (ns - (n + 1)) (n + 1) = true := by
    rw [h1.2.2.2.2.2.2.2.2.2 p hp, kc_latI eS hn (by omega)]
    unfold rLast
    rw [kc_lastG, eS]
    exact ⟨fun z x a b => z x a (by omega), fun z x a b => z x a (by omega)⟩
  have hpf3 : rP M3 p 0 = nI f := by rw [eP]; exact hpf
  rw [ep3, ep4, ef3]
  simp only [el]
  by_cases g : rP M3 p 3 = 1 ∧ rLast M3 (rS M3 n 0) (ns - (n + 1)) (n + 1) = true
  · rw [if_pos g, if_pos g]
    obtain ⟨z1, z2⟩ := hz3 p hp
    have s1 : sf p = 1 := (nI_eq (by omega) (by omega)).mp (z1.symm.trans g.1)
    have h9 : kSt nf np ns c q (up1 sf p 9) L4 M3 := kc_sf h1 (by omega) (by omega) (by omega)
    by_cases g2 : rF M3 f 3 < rP M3 p 4
    · rw [if_pos g2, if_pos g2]
      have k1 := kc_drop (kc_P h9 (p := p) (k := 3) (by omega) (by omega) 3) (f := f) (p := p) hf hp (by
        show j_up (rP M3) p 3 3 p 0 = _
        rw [ju_n (by omega)]; exact hpf3) (by rw [u1_s])
      refine ⟨q, _, k1, fun x hx => ?_⟩
      show j_up (rP M3) p 3 3 x 3 = _ ∧ _
      by_cases e : x = p
      · rw [e, ju_s, u1_s]; exact ⟨rfl, by omega⟩
      · rw [ju_n (by omega), u1_n e, u1_n e]; exact hz3 x hx
    · rw [if_neg g2, if_neg g2]
      have k1 := kc_head (kc_P h9 (p := p) (k := 3) (by omega) (by omega) 0) (f := f) (p := p) hf hp (by
        show j_up (rP M3) p 3 0 p 0 = _
        rw [ju_n (by omega)]; exact hpf3) (by rw [u1_s])
      refine ⟨_, _, k1, fun x hx => ?_⟩
      obtain ⟨Q', v, e⟩ := kc_rHead (rsP M3 p 3 0) f p
      rw [e]
      show j_up (rP M3) p 3 0 x 3 = _ ∧ _
      by_cases e : x = p
      · rw [e, ju_s, u1_s]; exact ⟨rfl, by omega⟩
      · rw [ju_n (by omega), u1_n e, u1_n e]; exact hz3 x hx
  · rw [if_neg g, if_neg g]
    exact ⟨q, sf, h1, hz3⟩
end KAck

/-! ===== what an acknowledgment, a loss, a sending leaves alone ===== -/
section KFr
theorem kc_lLeave_c (L : Lnk) (f p : Nat) : ∃ L2, lLeave L f p = lCount L2 f p (-1) ∧ (∀ k, lX L2 k = lX L k) ∧ (∀ g k, k ≠ 17 → k ≠ 18 → lF L2 g k = lF L g k) ∧ lS L2 = lS L ∧ lV L2 = lV L := by
  refine ⟨_, rfl, ?_⟩
  split
  · split
    · exact ⟨fun _ => rfl, fun g k h1 h2 => by
        show j_up (j_up (lF L) f 17 _) f 18 _ g k = _
        rw [ju_n (by omega), ju_n (by omega)], rfl, rfl⟩
    · exact ⟨fun _ => rfl, fun g k h1 h2 => by
        show j_up (lF L) f 18 _ g k = _
        rw [ju_n (by omega)], rfl, rfl⟩
  · split
    · exact ⟨fun _ => rfl, fun g k h1 h2 => by
        show j_up (lF L) f 17 _ g k = _
        rw [ju_n (by omega)], rfl, rfl⟩
    · exact ⟨fun _ => rfl, fun g k h1 h2 => rfl, rfl, rfl⟩
theorem kc_lHead_c (L : Lnk) (f p : Nat) : ∃ L2, lJoinHead L f p = lCount L2 f p 1 ∧ (∀ k, lX L2 k = lX L k) ∧ (∀ g k, k ≠ 17 → k ≠ 18 → lF L2 g k = lF L g k) ∧ lS L2 = lS L ∧ lV L2 = lV L := by
  refine ⟨_, rfl, ?_⟩
  split
  · exact ⟨fun _ => rfl, fun g k h1 h2 => by
      show j_up (j_up (lF L) f 17 _) f 18 _ g k = _
      rw [ju_n (by omega), ju_n (by omega)], rfl, rfl⟩
  · exact ⟨fun _ => rfl, fun g k h1 h2 => by
      show j_up (lF L) f 17 _ g k = _
      rw [ju_n (by omega)], rfl, rfl⟩
theorem kc_cnt_F (L : Lnk) (f p g k : Nat) (n : Int32) (h1 : k ≠ 7) (h2 : k ≠ 8) : lF (lCount L f p n) g k = lF L g k := by
  show j_up (j_up (lF L) f 7 _) f 8 _ g k = _
  rw [ju_n (by omega), ju_n (by omega)]
theorem kc_cnt_X (L : Lnk) (f p k : Nat) (n : Int32) (h : k ≠ 13) : lX (lCount L f p n) k = lX L k := by
  show up1 (lX L) 13 _ k = _
  rw [u1_n h]
theorem kc_lLeave_X (L : Lnk) (f p k : Nat) (h : k ≠ 13) : lX (lLeave L f p) k = lX L k := by
  obtain ⟨L2, e, h1, _⟩ := kc_lLeave_c L f p
  rw [e, kc_cnt_X _ _ _ _ _ h, h1]
theorem kc_lLeave_16 (L : Lnk) (f p g : Nat) : lF (lLeave L f p) g 16 = lF L g 16 := by
  obtain ⟨L2, e, _, h1, _⟩ := kc_lLeave_c L f p
  rw [e, kc_cnt_F _ _ _ _ _ _ (by omega) (by omega), h1 g 16 (by omega) (by omega)]
theorem kc_lHead_X (L : Lnk) (f p k : Nat) (h : k ≠ 13) : lX (lJoinHead L f p) k = lX L k := by
  obtain ⟨L2, e, h1, _⟩ := kc_lHead_c L f p
  rw [e, kc_cnt_X _ _ _ _ _ h, h1]
theorem kc_lHead_16 (L : Lnk) (f p g : Nat) : lF (lJoinHead L f p) g 16 = lF L g 16 := by
  obtain ⟨L2, e, _, h1, _⟩ := kc_lHead_c L f p
  rw [e, kc_cnt_F _ _ _ _ _ _ (by omega) (by omega), h1 g 16 (by omega) (by omega)]
theorem kc_lRef_F (L : Lnk) (f n : Nat) : lF (lRefund L f n) = lF L := by unfold lRefund; split <;> rfl
theorem kc_lRef_X (L : Lnk) (f n : Nat) : lX (lRefund L f n) = lX L := by unfold lRefund; split <;> rfl
theorem kc_lAck_fr (L : Lnk) (n p f : Nat) : (∀ k, k ≠ 13 → k ≠ 14 → lX (lAck L n p f) k = lX L k) ∧ ∀ g, lF (lAck L n p f) g 16 = if g = f ∧ ¬ lS L n 3 = 2 then lF L f 16 + (-1) else lF L g 16 := by
  have h1 : ∃ L1, L1 = (if lS L n 3 = 2 then lsS L n 3 3 else lsF (lsS L n 3 1) f 16 (lF (lsS L n 3 1) f 16 + (-1))) ∧ lX L1 = lX L ∧ ∀ g, lF L1 g 16 = if g = f ∧ ¬ lS L n 3 = 2 then lF L f 16 + (-1) else lF L g 16 := by
    refine ⟨_, rfl, ?_, fun g => ?_⟩
    · split <;> rfl
    · by_cases e : lS L n 3 = 2
      · rw [if_pos e, if_neg (fun z => z.2 e)]; rfl
      · rw [if_neg e]
        show j_up (lF L) f 16 (lF L f 16 + -1) g 16 = _
        by_cases e2 : g = f
        · rw [e2, ju_s, if_pos ⟨rfl, e⟩]
        · rw [ju_n (by omega), if_neg (fun z => e2 z.1)]
  obtain ⟨L1, e1, a1, a2⟩ := h1
  unfold lAck
  dsimp only
  rw [← e1]
  clear e1
  have key : ∀ R : Lnk, (∀ k, k ≠ 13 → k ≠ 14 → lX R k = lX L1 k) → (∀ g, lF R g 16 = lF L1 g 16) → (∀ k, k ≠ 13 → k ≠ 14 → lX R k = lX L k) ∧ ∀ g, lF R g 16 = if g = f ∧ ¬ lS L n 3 = 2 then lF L f 16 + (-1) else lF L g 16 := fun R r1 r2 => ⟨fun k x y => by rw [r1 k x y, a1], fun g => by rw [r2 g, a2 g]⟩
  split
  · exact key _ (fun k _ _ => by rw [kc_lRef_X]; rfl) (fun g => by
      rw [kc_lRef_F]
      show j_up (lF L1) f 12 _ g 16 = _
      rw [ju_n (by omega)])
  · have h2 : ∃ L2, L2 = (if lP L p 3 = 0 then lLeave L1 f p else if lP L p 3 = 3 then lsF L1 f 14 (lF L1 f 14 + (-1)) else L1) ∧ (∀ k, k ≠ 13 → lX L2 k = lX L1 k) ∧ ∀ g, lF L2 g 16 = lF L1 g 16 := by
      refine ⟨_, rfl, fun k hk => ?_, fun g => ?_⟩
      · split
        · exact kc_lLeave_X _ _ _ _ hk
        · split <;> rfl
      · split
        · exact kc_lLeave_16 _ _ _ _
        · split
          · show j_up (lF L1) f 14 _ g 16 = _
            rw [ju_n (by omega)]
          · rfl
    obtain ⟨L2, e2, b1, b2⟩ := h2
    rw [← e2]
    clear e2
    have d1 : ∀ k, k ≠ 14 → lX (lDeliver L2 f p) k = lX L2 k := fun k hk => by
      show up1 (lX L2) 14 _ k = _
      rw [u1_n hk]
    have d2 : ∀ g, lF (lDeliver L2 f p) g 16 = lF L2 g 16 := fun g => by
      show j_up (lF L2) f 10 _ g 16 = _
      rw [ju_n (by omega)]
    generalize lDeliver L2 f p = L3 at d1 d2 ⊢
    split
    · exact key _ (fun k x y => by
        show lX L3 k = _
        rw [d1 k y, b1 k x]) (fun g => by
        show j_up (lF L3) f 13 _ g 16 = _
        rw [ju_n (by omega), d2, b2])
    · exact key _ (fun k x y => by rw [d1 k y, b1 k x]) (fun g => by rw [d2, b2])
theorem kc_lLose_fr (L : Lnk) (n p f : Nat) : (∀ k, k ≠ 13 → lX (lLose L n p f) k = lX L k) ∧ ∀ g, lF (lLose L n p f) g 16 = if g = f then lF L f 16 + (-1) else lF L g 16 := by
  have h1 : ∃ L4, L4 = lRefund (lsF (lsF (lsS L n 3 2) f 16 (lF (lsS L n 3 2) f 16 + (-1))) f 11 (lF (lsF (lsS L n 3 2) f 16 (lF (lsS L n 3 2) f 16 + (-1))) f 11 + 1)) f n ∧ lX L4 = lX L ∧ ∀ g, lF L4 g 16 = if g = f then lF L f 16 + (-1) else lF L g 16 := by
    refine ⟨_, rfl, ?_, fun g => ?_⟩
    · rw [kc_lRef_X]; rfl
    · rw [kc_lRef_F]
      show j_up (j_up (lF L) f 16 (lF L f 16 + -1)) f 11 _ g 16 = _
      rw [ju_n (by omega)]
      by_cases e : g = f
      · rw [e, ju_s, if_pos rfl]
      · rw [ju_n (by omega), if_neg e]
  obtain ⟨L4, e1, a1, a2⟩ := h1
  unfold lLose
  dsimp only
  rw [← e1]
  clear e1
  split
  · split
    · refine ⟨fun k _ => ?_, fun g => ?_⟩
      · show lX L4 k = _
        rw [a1]
      · show j_up (lF L4) f 14 _ g 16 = _
        rw [ju_n (by omega), a2]
    · refine ⟨fun k hk => ?_, fun g => ?_⟩
      · rw [kc_lHead_X _ _ _ _ hk]
        show lX L4 k = _
        rw [a1]
      · rw [kc_lHead_16]
        show lF L4 g 16 = _
        rw [a2]
  · exact ⟨fun k _ => by rw [a1], a2⟩
/-! the reference -/
theorem kc_rRef_W (M : Rf) (n f : Nat) : rW (rRefund M n f) = rW M := by unfold rRefund; split <;> rfl
theorem kc_rRef_U (M : Rf) (n f : Nat) : rU (rRefund M n f) = rU M := by unfold rRefund; split <;> rfl
theorem kc_rAck_fr (M : Rf) (n p f : Nat) : rX (rAck M n p f) = rX M ∧ rW (rAck M n p f) = rW M ∧ rU (rAck M n p f) = rU M ∧ (∀ x, rP (rAck M n p f) x 0 = rP M x 0) ∧ ∀ m k, k ≠ 4 → rS (rAck M n p f) m k = if m = n ∧ k = 3 then (if rS M n 3 = 2 then 3 else 1) else rS M m k := by
  have key : ∀ (M1 R : Rf), M1 = rsS M n 3 (if rS M n 3 = 2 then 3 else 1) → rX R = rX M1 → rW R = rW M1 → rU R = rU M1 → (∀ x, rP R x 0 = rP M1 x 0) → (∀ m k, k ≠ 4 → rS R m k = rS M1 m k) → rX R = rX M ∧ rW R = rW M ∧ rU R = rU M ∧ (∀ x, rP R x 0 = rP M x 0) ∧ ∀ m k, k ≠ 4 → rS R m k = if m = n ∧ k = 3 then (if rS M n 3 = 2 then 3 else 1) else rS M m k := by
    intro M1 R e r1 r2 r3 r4 r5
    subst e
    exact ⟨r1, r2, r3, r4, fun m k hk => (r5 m k hk).trans rfl⟩
  unfold rAck
  dsimp only
  generalize hM1 : rsS M n 3 (if rS M n 3 = 2 then 3 else 1) = M1
  by_cases gg : rP M1 p 3 = 2
  · rw [if_pos gg]
    exact key M1 _ hM1.symm (kc_rRef_X _ _ _) (kc_rRef_W _ _ _) (kc_rRef_U _ _ _) (fun x => by rw [kc_rRef_P]; rfl) (fun m k hk => by rw [kc_rRef_S _ _ _ _ _ hk]; rfl)
  · rw [if_neg gg]
    refine key M1 _ hM1.symm ?_ ?_ ?_ (fun x => ?_) (fun m k hk => ?_)
    all_goals
      unfold rDeliver
      have hT : ∃ M2, M2 = (if rP M1 p 3 = 0 then rTake M1 f p else M1) ∧ rX M2 = rX M1 ∧ rW M2 = rW M1 ∧ rU M2 = rU M1 ∧ rP M2 = rP M1 ∧ rS M2 = rS M1 := by
        refine ⟨_, rfl, ?_⟩
        split
        · obtain ⟨Q', v, e⟩ := kc_rTake M1 f p
          rw [e]; exact ⟨rfl, rfl, rfl, rfl, rfl⟩
        · exact ⟨rfl, rfl, rfl, rfl, rfl⟩
      obtain ⟨M2, e2, t1, t2, t3, t4, t5⟩ := hT
      rw [← e2]
      clear e2
      unfold rDeliver0
      dsimp only
    · split
      · show rX M2 = _
        exact t1
      · show rX M2 = _
        exact t1
    · split
      · show rW M2 = _
        exact t2
      · show rW M2 = _
        exact t2
    · split
      · show rU M2 = _
        exact t3
      · show rU M2 = _
        exact t3
    · split
      · show j_up (j_up (rP M2) p 3 2) p 5 _ x 0 = _
        rw [ju_n (by omega), ju_n (by omega), t4]
      · show j_up (j_up (rP M2) p 3 2) p 5 _ x 0 = _
        rw [ju_n (by omega), ju_n (by omega), t4]
    · split
      · show j_up (rS M2) n 4 _ m k = _
        rw [ju_n (by omega), t5]
      · show rS M2 m k = _
        rw [t5]
theorem kc_rLose_fr (M : Rf) (ns n p f : Nat) : rX (rLose M ns n p f) = rX M ∧ rW (rLose M ns n p f) = rW M ∧ rU (rLose M ns n p f) = rU M ∧ (∀ x, rP (rLose M ns n p f) x 0 = rP M x 0) ∧ ∀ m k, k ≠ 4 → rS (rLose M ns n p f) m k = if m = n ∧ k = 3 then 2 else rS M m k := by
  have h1 : ∃ M3, M3 = rRefund (rsF (rsS M n 3 2) f 10 (rF (rsS M n 3 2) f 10 + 1)) n f ∧ rX M3 = rX M ∧ rW M3 = rW M ∧ rU M3 = rU M ∧ rP M3 = rP M ∧ ∀ m k, k ≠ 4 → rS M3 m k = if m = n ∧ k = 3 then 2 else rS M m k :=
    ⟨_, rfl, kc_rRef_X _ _ _, by unfold rRefund; split <;> rfl, by unfold rRefund; split <;> rfl, kc_rRef_P _ _ _, fun m k hk => by rw [kc_rRef_S _ _ _ _ _ hk]; rfl⟩
  obtain ⟨M3, e, t1, t2, t3, t4, t5⟩ := h1
  unfold rLose
  dsimp only
  rw [← e]
  clear e
  split
  · split
    · exact ⟨t1, t2, t3, fun x => by
        show j_up (rP M3) p 3 3 x 0 = _
        rw [ju_n (by omega), t4], t5⟩
    · obtain ⟨Q', v, e⟩ := kc_rHead (rsP M3 p 3 0) f p
      rw [e]
      exact ⟨t1, t2, t3, fun x => by
        show j_up (rP M3) p 3 0 x 0 = _
        rw [ju_n (by omega), t4], t5⟩
  · exact ⟨t1, t2, t3, fun x => by rw [t4], t5⟩
theorem kc_rSend_fr (M : Rf) (f p n : Nat) : rW (rSend M f p n) = rW M ∧ rU (rSend M f p n) = rU M ∧ (∀ x, rP (rSend M f p n) x 0 = rP M x 0) ∧ (∀ k, k ≠ 3 → k ≠ 5 → rX (rSend M f p n) k = rX M k) ∧ (∀ m k, m ≠ n → rS (rSend M f p n) m k = rS M m k) ∧ rS (rSend M f p n) n 0 = nI p ∧ rS (rSend M f p n) n 1 = rX M 4 ∧ rS (rSend M f p n) n 2 = kc_at (rF M f 4) (rF M f 8 + 1) (rF M f 5) (rF M f 6) (rX M 4) (rX M 7) ∧ rS (rSend M f p n) n 3 = 0 := by
  obtain ⟨M1, e, _, m2, _, _, _, m6, m7, ⟨m8, m9, m10, m11, m12, _⟩, m13, _, _⟩ := kc_rSend M f p n
  obtain ⟨Q', v, e2⟩ := kc_rTake M f p
  have eX : rX M1 = rX M := by rw [e, e2]; rfl
  have eW : rW M1 = rW M := by rw [e, e2]; rfl
  have eU : rU M1 = rU M := by rw [e, e2]; rfl
  have eP : rP M1 = rP M := by rw [e, e2]; rfl
  have eS : rS M1 = rS M := by rw [e, e2]; rfl
  have eF : ∀ k, k ≠ 7 → rF M1 f k = rF M f k := fun k hk => by
    rw [e, e2]
    show j_up (rF M) f 7 v f k = _
    rw [ju_n (by omega)]
  refine ⟨m6.trans eW, m7.trans eU, fun x => ?_, fun k k1 k2 => ?_, fun m k hm => ?_, m9, ?_, ?_, m12⟩
  · rw [m2, ju_n (by omega), ju_n (by omega), eP]
  · rw [m13 k k1 k2, eX]
  · rw [m8 m k hm, eS]
  · rw [m10, eX]
  · rw [m11, eX, eF 4 (by omega), eF 8 (by omega), eF 5 (by omega), eF 6 (by omega)]
theorem kc_lSend_fr (L : Lnk) (n f p : Nat) : (∀ k, k ≠ 10 → k ≠ 12 → k ≠ 13 → k ≠ 16 → lX (lSend1 L n f p) k = lX L k) ∧ (∀ g, lF (lSend1 L n f p) g 16 = if g = f then lF L f 16 + 1 else lF L g 16) ∧ lX (lSend1 L n f p) 16 = if lDue (lSend1 L n f p) n < lX L 16 then lDue (lSend1 L n f p) n else lX L 16 := by
  have e1 : lSend1 L n f p = lSend (lLeave (lsX L 12 (lX L 12 - lP L p 1)) f p) n f p := rfl
  obtain ⟨l1, _, _, ⟨_, _, l6, l7, l8, _, _⟩, l11, _, d, hd, l13⟩ := kc_lSend (lLeave (lsX L 12 (lX L 12 - lP L p 1)) f p) n f p
  rw [← e1] at l1 l6 l7 l8 l11 l13
  have x0 : ∀ k, k ≠ 13 → k ≠ 12 → lX (lLeave (lsX L 12 (lX L 12 - lP L p 1)) f p) k = lX L k := fun k h1 h2 => by
    rw [kc_lLeave_X _ _ _ _ h1]
    show up1 (lX L) 12 _ k = _
    rw [u1_n h2]
  have f0 : ∀ g, lF (lLeave (lsX L 12 (lX L 12 - lP L p 1)) f p) g 16 = lF L g 16 := fun g => by rw [kc_lLeave_16]; rfl
  refine ⟨fun k h1 h2 h3 h4 => ?_, fun g => ?_, ?_⟩
  · rw [l11 k h1 h4, x0 k h3 h2]
  · rw [l1, f0]
    by_cases e : g = f
    · rw [e, ju_s, if_pos rfl]
    · rw [ju_n (by omega), ju_n (by omega), if_neg e, f0]
  · have ed : lDue (lSend1 L n f p) n = d := by
      rw [kc_du_e, l6, l7, l8, l11 8 (by omega) (by omega), hd]
    rw [ed, l13, x0 16 (by omega) (by omega)]
end KFr

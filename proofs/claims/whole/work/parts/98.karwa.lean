/-! ===== class and reference held together: an arrival whole ===== -/
section KAw
theorem kc_lAdd (L : Lnk) (f np : Nat) (sz a b d : Int32) : ∃ Lb, (lX Lb = up1 (lX L) 9 (lX L 9 + 1) ∧ lF Lb = lF L ∧ lV Lb = lV L ∧ lS Lb = lS L) ∧ (∀ x k, x ≠ np → lP Lb x k = lP L x k) ∧ (lP Lb np 0 = nI f ∧ lP Lb np 1 = sz ∧ lP Lb np 2 = lX L 11 ∧ lP Lb np 3 = 0 ∧ lP Lb np 4 = 0 ∧ lP Lb np 5 = -1 ∧ lP Lb np 6 = a ∧ lP Lb np 7 = b ∧ lP Lb np 8 = d ∧ lP Lb np 10 = -1) ∧
    lX (lsP (lsP (lsP (lAdd0 L f np sz) np 6 a) np 7 b) np 8 d) = up1 (lX Lb) 13 (lX Lb 13 + 1) ∧ (∀ g k, ¬ (g = f ∧ (k = 7 ∨ k = 8 ∨ k = 17 ∨ k = 18)) → lF (lsP (lsP (lsP (lAdd0 L f np sz) np 6 a) np 7 b) np 8 d) g k = lF Lb g k) ∧ lF (lsP (lsP (lsP (lAdd0 L f np sz) np 6 a) np 7 b) np 8 d) f 7 = lF Lb f 7 + 1 ∧ lF (lsP (lsP (lsP (lAdd0 L f np sz) np 6 a) np 7 b) np 8 d) f 8 = lF Lb f 8 + 1 * lP Lb np 1 ∧ lF (lsP (lsP (lsP (lAdd0 L f np sz) np 6 a) np 7 b) np 8 d) f 17 = (if lF Lb f 18 = -1 then nI np else lF Lb f 17) ∧ lF (lsP (lsP (lsP (lAdd0 L f np sz) np 6 a) np 7 b) np 8 d) f 18 = nI np ∧
    (∀ x k, k ≠ 9 → lP (lsP (lsP (lsP (lAdd0 L f np sz) np 6 a) np 7 b) np 8 d) x k = lP Lb x k) ∧ (∀ x, lP (lsP (lsP (lsP (lAdd0 L f np sz) np 6 a) np 7 b) np 8 d) x 9 = if lF Lb f 18 = -1 then (if x = np then -1 else lP Lb x 9) else (if x = (lF Lb f 18).toNatClampNeg then nI np else if x = np then -1 else lP Lb x 9)) ∧ lS (lsP (lsP (lsP (lAdd0 L f np sz) np 6 a) np 7 b) np 8 d) = lS Lb ∧ lV (lsP (lsP (lsP (lAdd0 L f np sz) np 6 a) np 7 b) np 8 d) = lV Lb := by
  generalize hr : lAdd0 L f np sz = R0
  unfold lAdd0 at hr
  extract_lets L1 L2 L3 L4 L5 L6 L7 L8 at hr
  have x1 : lX L1 = up1 (lX L) 9 (lX L 9 + 1) := rfl
  have f1 : lF L1 = lF L := rfl
  have p1 : lP L1 = lP L := rfl
  have s1 : lS L1 = lS L := rfl
  have v1 : lV L1 = lV L := rfl
  have x2 : lX L2 = lX L1 := rfl
  have f2 : lF L2 = lF L1 := rfl
  have p2 : lP L2 = j_up (lP L1) np 0 (nI f) := rfl
  have s2 : lS L2 = lS L1 := rfl
  have v2 : lV L2 = lV L1 := rfl
  have x3 : lX L3 = lX L2 := rfl
  have f3 : lF L3 = lF L2 := rfl
  have p3 : lP L3 = j_up (lP L2) np 1 sz := rfl
  have s3 : lS L3 = lS L2 := rfl
  have v3 : lV L3 = lV L2 := rfl
  have x4 : lX L4 = lX L3 := rfl
  have f4 : lF L4 = lF L3 := rfl
  have p4 : lP L4 = j_up (lP L3) np 2 (lX L3 11) := rfl
  have s4 : lS L4 = lS L3 := rfl
  have v4 : lV L4 = lV L3 := rfl
  have x5 : lX L5 = lX L4 := rfl
  have f5 : lF L5 = lF L4 := rfl
  have p5 : lP L5 = j_up (lP L4) np 3 0 := rfl
  have s5 : lS L5 = lS L4 := rfl
  have v5 : lV L5 = lV L4 := rfl
  have x6 : lX L6 = lX L5 := rfl
  have f6 : lF L6 = lF L5 := rfl
  have p6 : lP L6 = j_up (lP L5) np 4 0 := rfl
  have s6 : lS L6 = lS L5 := rfl
  have v6 : lV L6 = lV L5 := rfl
  have x7 : lX L7 = lX L6 := rfl
  have f7 : lF L7 = lF L6 := rfl
  have p7 : lP L7 = j_up (lP L6) np 5 (-1) := rfl
  have s7 : lS L7 = lS L6 := rfl
  have v7 : lV L7 = lV L6 := rfl
  have x8 : lX L8 = lX L7 := rfl
  have f8 : lF L8 = lF L7 := rfl
  have p8 : lP L8 = j_up (lP L7) np 10 (-1) := rfl
  have s8 : lS L8 = lS L7 := rfl
  have v8 : lV L8 = lV L7 := rfl
  clear_value L1 L2 L3 L4 L5 L6 L7 L8
  have eX3 : lX L3 = up1 (lX L) 9 (lX L 9 + 1) := by rw [x3, x2, x1]
  have eX : lX L8 = up1 (lX L) 9 (lX L 9 + 1) := by rw [x8, x7, x6, x5, x4, eX3]
  have eF : lF L8 = lF L := by rw [f8, f7, f6, f5, f4, f3, f2, f1]
  have eS : lS L8 = lS L := by rw [s8, s7, s6, s5, s4, s3, s2, s1]
  have eV : lV L8 = lV L := by rw [v8, v7, v6, v5, v4, v3, v2, v1]
  have eP : lP L8 = j_up (j_up (j_up (j_up (j_up (j_up (j_up (lP L) np 0 (nI f)) np 1 sz) np 2 (lX L 11)) np 3 0) np 4 0) np 5 (-1)) np 10 (-1) := by
    rw [p8, p7, p6, p5, p4, eX3, u1_n (j := 11) (by omega), p3, p2, p1]
  clear x1 x2 x3 x4 x5 x6 x7 x8 f1 f2 f3 f4 f5 f6 f7 f8 s1 s2 s3 s4 s5 s6 s7 s8 v1 v2 v3 v4 v5 v6 v7 v8 p1 p2 p3 p4 p5 p6 p7 p8 eX3
  have hJ : lX R0 = up1 (lX L8) 13 (lX L8 13 + 1) ∧ lS R0 = lS L8 ∧ lV R0 = lV L8 ∧ (∀ g k, ¬ (g = f ∧ (k = 7 ∨ k = 8 ∨ k = 17 ∨ k = 18)) → lF R0 g k = lF L8 g k) ∧ lF R0 f 7 = lF L8 f 7 + 1 ∧ lF R0 f 8 = lF L8 f 8 + 1 * lP L8 np 1 ∧ lF R0 f 17 = (if lF L8 f 18 = -1 then nI np else lF L8 f 17) ∧ lF R0 f 18 = nI np ∧ ∀ x k, lP R0 x k = if lF L8 f 18 = -1 then (if x = np ∧ k = 9 then -1 else lP L8 x k) else (if x = (lF L8 f 18).toNatClampNeg ∧ k = 9 then nI np else if x = np ∧ k = 9 then -1 else lP L8 x k) := by
    unfold lJoinEnd at hr
    dsimp only at hr
    rw [← hr]
    by_cases z : lF L8 f 18 = -1
    · rw [if_pos z, if_pos z]
      refine ⟨rfl, rfl, rfl, fun g k hk => ?_, ?_, ?_, ?_, ?_, fun x k => ?_⟩
      · show j_up (j_up (j_up (j_up (lF L8) f 17 _) f 18 _) f 7 _) f 8 _ g k = _
        rw [ju_n (by omega), ju_n (by omega), ju_n (by omega), ju_n (by omega)]
      · show j_up (j_up (j_up (j_up (lF L8) f 17 _) f 18 _) f 7 (j_up (j_up (lF L8) f 17 _) f 18 _ f 7 + 1)) f 8 _ f 7 = _
        rw [ju_n (by omega), ju_s, ju_n (by omega), ju_n (by omega)]
      · show j_up (j_up (j_up (j_up (lF L8) f 17 _) f 18 _) f 7 _) f 8 (j_up (j_up (j_up (lF L8) f 17 _) f 18 _) f 7 _ f 8 + 1 * j_up (lP L8) np 9 (-1) np 1) f 8 = _
        rw [ju_s, ju_n (by omega), ju_n (by omega), ju_n (by omega), ju_n (by omega)]
      · show j_up (j_up (j_up (j_up (lF L8) f 17 (nI np)) f 18 _) f 7 _) f 8 _ f 17 = _
        rw [ju_n (by omega), ju_n (by omega), ju_n (by omega), ju_s]
      · show j_up (j_up (j_up (j_up (lF L8) f 17 (nI np)) f 18 (nI np)) f 7 _) f 8 _ f 18 = _
        rw [ju_n (by omega), ju_n (by omega), ju_s]
      · rw [if_pos z]; rfl
    · rw [if_neg z, if_neg z]
      refine ⟨rfl, rfl, rfl, fun g k hk => ?_, ?_, ?_, ?_, ?_, fun x k => ?_⟩
      · show j_up (j_up (j_up (lF L8) f 18 _) f 7 _) f 8 _ g k = _
        rw [ju_n (by omega), ju_n (by omega), ju_n (by omega)]
      · show j_up (j_up (j_up (lF L8) f 18 _) f 7 (j_up (lF L8) f 18 _ f 7 + 1)) f 8 _ f 7 = _
        rw [ju_n (by omega), ju_s, ju_n (by omega)]
      · show j_up (j_up (j_up (lF L8) f 18 _) f 7 _) f 8 (j_up (j_up (lF L8) f 18 _) f 7 _ f 8 + 1 * j_up (j_up (lP L8) np 9 (-1)) _ 9 _ np 1) f 8 = _
        rw [ju_s, ju_n (by omega), ju_n (by omega), ju_n (by omega), ju_n (by omega)]
      · show j_up (j_up (j_up (lF L8) f 18 _) f 7 _) f 8 _ f 17 = _
        rw [ju_n (by omega), ju_n (by omega), ju_n (by omega)]
      · show j_up (j_up (j_up (lF L8) f 18 (nI np)) f 7 _) f 8 _ f 18 = _
        rw [ju_n (by omega), ju_n (by omega), ju_s]
      · rw [if_neg z]; rfl
  clear hr
  obtain ⟨j1, j2, j3, j4, j5, j6, j7, j8, j9⟩ := hJ
  have eB : ∀ x k, lP (lsP (lsP (lsP L8 np 6 a) np 7 b) np 8 d) x k = if x = np ∧ k = 8 then d else if x = np ∧ k = 7 then b else if x = np ∧ k = 6 then a else lP L8 x k := fun _ _ => rfl
  have eR : ∀ x k, lP (lsP (lsP (lsP R0 np 6 a) np 7 b) np 8 d) x k = if x = np ∧ k = 8 then d else if x = np ∧ k = 7 then b else if x = np ∧ k = 6 then a else lP R0 x k := fun _ _ => rfl
  refine ⟨lsP (lsP (lsP L8 np 6 a) np 7 b) np 8 d, ⟨eX, eF, eV, eS⟩, fun x k hx => ?_, ⟨?_, ?_, ?_, ?_, ?_, ?_, ?_, ?_, ?_, ?_⟩, j1, j4, j5, ?_, j7, j8, fun x k hk => ?_, fun x => ?_, j2, j3⟩
  · rw [eB, if_neg (by omega), if_neg (by omega), if_neg (by omega), eP, ju_n (by omega), ju_n (by omega), ju_n (by omega), ju_n (by omega), ju_n (by omega), ju_n (by omega), ju_n (by omega)]
  · rw [eB, if_neg (by omega), if_neg (by omega), if_neg (by omega), eP, ju_n (by omega), ju_n (by omega), ju_n (by omega), ju_n (by omega), ju_n (by omega), ju_n (by omega), ju_s]
  · rw [eB, if_neg (by omega), if_neg (by omega), if_neg (by omega), eP, ju_n (by omega), ju_n (by omega), ju_n (by omega), ju_n (by omega), ju_n (by omega), ju_s]
  · rw [eB, if_neg (by omega), if_neg (by omega), if_neg (by omega), eP, ju_n (by omega), ju_n (by omega), ju_n (by omega), ju_n (by omega), ju_s]
  · rw [eB, if_neg (by omega), if_neg (by omega), if_neg (by omega), eP, ju_n (by omega), ju_n (by omega), ju_n (by omega), ju_s]
  · rw [eB, if_neg (by omega), if_neg (by omega), if_neg (by omega), eP, ju_n (by omega), ju_n (by omega), ju_s]
  · rw [eB, if_neg (by omega), if_neg (by omega), if_neg (by omega), eP, ju_n (by omega), ju_s]
  · rw [eB, if_neg (by omega), if_neg (by omega), if_pos ⟨rfl, rfl⟩]
  · rw [eB, if_neg (by omega), if_pos ⟨rfl, rfl⟩]
  · rw [eB, if_pos ⟨rfl, rfl⟩]
  · rw [eB, if_neg (by omega), if_neg (by omega), if_neg (by omega), eP, ju_s]
  · refine j6.trans ?_
    rw [eB, if_neg (by omega), if_neg (by omega), if_neg (by omega)]; rfl
  · rw [eR, eB, j9]
    have y1 : ¬ (x = np ∧ k = 9) := fun z => hk z.2
    have y2 : ¬ (x = (lF L8 f 18).toNatClampNeg ∧ k = 9) := fun z => hk z.2
    rw [if_neg y1, if_neg y2, ite_self]
  · have eB9 : lP (lsP (lsP (lsP L8 np 6 a) np 7 b) np 8 d) x 9 = lP L8 x 9 := by rw [eB, if_neg (by omega), if_neg (by omega), if_neg (by omega)]
    have eR9 : lP (lsP (lsP (lsP R0 np 6 a) np 7 b) np 8 d) x 9 = lP R0 x 9 := by rw [eR, if_neg (by omega), if_neg (by omega), if_neg (by omega)]
    rw [eB9, eR9, j9]
    simp only [and_true]
    rfl
end KAw

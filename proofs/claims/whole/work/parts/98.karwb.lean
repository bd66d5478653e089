section KAw
theorem kc_rArr (M : Rf) (f p : Nat) (a b d sz : Int32) : ∃ M10, rArr M f p a b d sz = rPutEnd M10 f p ∧ rX M10 = up1 (rX M) 2 (rX M 2 + 1) ∧ rF M10 = rF M ∧ rQ M10 = rQ M ∧ rS M10 = rS M ∧ rV M10 = rV M ∧ rC M10 = rC M ∧ rW M10 = rW M ∧ rU M10 = rU M ∧ (∀ x k, x ≠ p → rP M10 x k = rP M x k) ∧ rP M10 p 0 = nI f ∧ rP M10 p 1 = sz ∧ rP M10 p 2 = rX M 4 ∧ rP M10 p 3 = 0 ∧ rP M10 p 4 = 0 ∧ rP M10 p 5 = -1 ∧ rP M10 p 6 = a ∧ rP M10 p 7 = b ∧ rP M10 p 8 = d := by
  generalize hr : rArr M f p a b d sz = R
  unfold rArr at hr
  extract_lets M1 M2 M3 M4 M5 M6 M7 M8 M9 M10 at hr
  refine ⟨M10, hr.symm, ?_⟩
  have x1 : rX M1 = up1 (rX M) 2 (rX M 2 + 1) := rfl
  have f1 : rF M1 = rF M := rfl
  have p1 : rP M1 = rP M := rfl
  have s1 : rS M1 = rS M := rfl
  have v1 : rV M1 = rV M := rfl
  have c1 : rC M1 = rC M := rfl
  have q1 : rQ M1 = rQ M := rfl
  have w1 : rW M1 = rW M := rfl
  have u1 : rU M1 = rU M := rfl
  have x2 : rX M2 = rX M1 := rfl
  have f2 : rF M2 = rF M1 := rfl
  have p2 : rP M2 = j_up (rP M1) p 0 (nI f) := rfl
  have s2 : rS M2 = rS M1 := rfl
  have v2 : rV M2 = rV M1 := rfl
  have c2 : rC M2 = rC M1 := rfl
  have q2 : rQ M2 = rQ M1 := rfl
  have w2 : rW M2 = rW M1 := rfl
  have u2 : rU M2 = rU M1 := rfl
  have x3 : rX M3 = rX M2 := rfl
  have f3 : rF M3 = rF M2 := rfl
  have p3 : rP M3 = j_up (rP M2) p 1 sz := rfl
  have s3 : rS M3 = rS M2 := rfl
  have v3 : rV M3 = rV M2 := rfl
  have c3 : rC M3 = rC M2 := rfl
  have q3 : rQ M3 = rQ M2 := rfl
  have w3 : rW M3 = rW M2 := rfl
  have u3 : rU M3 = rU M2 := rfl
  have x4 : rX M4 = rX M3 := rfl
  have f4 : rF M4 = rF M3 := rfl
  have p4 : rP M4 = j_up (rP M3) p 2 (rX M3 4) := rfl
  have s4 : rS M4 = rS M3 := rfl
  have v4 : rV M4 = rV M3 := rfl
  have c4 : rC M4 = rC M3 := rfl
  have q4 : rQ M4 = rQ M3 := rfl
  have w4 : rW M4 = rW M3 := rfl
  have u4 : rU M4 = rU M3 := rfl
  have x5 : rX M5 = rX M4 := rfl
  have f5 : rF M5 = rF M4 := rfl
  have p5 : rP M5 = j_up (rP M4) p 3 0 := rfl
  have s5 : rS M5 = rS M4 := rfl
  have v5 : rV M5 = rV M4 := rfl
  have c5 : rC M5 = rC M4 := rfl
  have q5 : rQ M5 = rQ M4 := rfl
  have w5 : rW M5 = rW M4 := rfl
  have u5 : rU M5 = rU M4 := rfl
  have x6 : rX M6 = rX M5 := rfl
  have f6 : rF M6 = rF M5 := rfl
  have p6 : rP M6 = j_up (rP M5) p 4 0 := rfl
  have s6 : rS M6 = rS M5 := rfl
  have v6 : rV M6 = rV M5 := rfl
  have c6 : rC M6 = rC M5 := rfl
  have q6 : rQ M6 = rQ M5 := rfl
  have w6 : rW M6 = rW M5 := rfl
  have u6 : rU M6 = rU M5 := rfl
  have x7 : rX M7 = rX M6 := rfl
  have f7 : rF M7 = rF M6 := rfl
  have p7 : rP M7 = j_up (rP M6) p 5 (-1) := rfl
  have s7 : rS M7 = rS M6 := rfl
  have v7 : rV M7 = rV M6 := rfl
  have c7 : rC M7 = rC M6 := rfl
  have q7 : rQ M7 = rQ M6 := rfl
  have w7 : rW M7 = rW M6 := rfl
  have u7 : rU M7 = rU M6 := rfl
  have x8 : rX M8 = rX M7 := rfl
  have f8 : rF M8 = rF M7 := rfl
  have p8 : rP M8 = j_up (rP M7) p 6 a := rfl
  have s8 : rS M8 = rS M7 := rfl
  have v8 : rV M8 = rV M7 := rfl
  have c8 : rC M8 = rC M7 := rfl
  have q8 : rQ M8 = rQ M7 := rfl
  have w8 : rW M8 = rW M7 := rfl
  have u8 : rU M8 = rU M7 := rfl
  have x9 : rX M9 = rX M8 := rfl
  have f9 : rF M9 = rF M8 := rfl
  have p9 : rP M9 = j_up (rP M8) p 7 b := rfl
  have s9 : rS M9 = rS M8 := rfl
  have v9 : rV M9 = rV M8 := rfl
  have c9 : rC M9 = rC M8 := rfl
  have q9 : rQ M9 = rQ M8 := rfl
  have w9 : rW M9 = rW M8 := rfl
  have u9 : rU M9 = rU M8 := rfl
  have x10 : rX M10 = rX M9 := rfl
  have f10 : rF M10 = rF M9 := rfl
  have p10 : rP M10 = j_up (rP M9) p 8 d := rfl
  have s10 : rS M10 = rS M9 := rfl
  have v10 : rV M10 = rV M9 := rfl
  have c10 : rC M10 = rC M9 := rfl
  have q10 : rQ M10 = rQ M9 := rfl
  have w10 : rW M10 = rW M9 := rfl
  have u10 : rU M10 = rU M9 := rfl
  clear_value M1 M2 M3 M4 M5 M6 M7 M8 M9 M10
  have eX3 : rX M3 = up1 (rX M) 2 (rX M 2 + 1) := by rw [x3, x2, x1]
  have eP : rP M10 = j_up (j_up (j_up (j_up (j_up (j_up (j_up (j_up (j_up (rP M) p 0 (nI f)) p 1 sz) p 2 (rX M 4)) p 3 0) p 4 0) p 5 (-1)) p 6 a) p 7 b) p 8 d := by
    rw [p10, p9, p8, p7, p6, p5, p4, eX3, u1_n (j := 4) (by omega), p3, p2, p1]
  refine ⟨by rw [x10, x9, x8, x7, x6, x5, x4, eX3], by rw [f10, f9, f8, f7, f6, f5, f4, f3, f2, f1], by rw [q10, q9, q8, q7, q6, q5, q4, q3, q2, q1], by rw [s10, s9, s8, s7, s6, s5, s4, s3, s2, s1], by rw [v10, v9, v8, v7, v6, v5, v4, v3, v2, v1], by rw [c10, c9, c8, c7, c6, c5, c4, c3, c2, c1], by rw [w10, w9, w8, w7, w6, w5, w4, w3, w2, w1], by rw [u10, u9, u8, u7, u6, u5, u4, u3, u2, u1], fun x k hx => ?_, ?_, ?_, ?_, ?_, ?_, ?_, ?_, ?_, ?_⟩
  · rw [eP, ju_n (by omega), ju_n (by omega), ju_n (by omega), ju_n (by omega), ju_n (by omega), ju_n (by omega), ju_n (by omega), ju_n (by omega), ju_n (by omega)]
  · rw [eP, ju_n (by omega), ju_n (by omega), ju_n (by omega), ju_n (by omega), ju_n (by omega), ju_n (by omega), ju_n (by omega), ju_n (by omega), ju_s]
  · rw [eP, ju_n (by omega), ju_n (by omega), ju_n (by omega), ju_n (by omega), ju_n (by omega), ju_n (by omega), ju_n (by omega), ju_s]
  · rw [eP, ju_n (by omega), ju_n (by omega), ju_n (by omega), ju_n (by omega), ju_n (by omega), ju_n (by omega), ju_s]
  · rw [eP, ju_n (by omega), ju_n (by omega), ju_n (by omega), ju_n (by omega), ju_n (by omega), ju_s]
  · rw [eP, ju_n (by omega), ju_n (by omega), ju_n (by omega), ju_n (by omega), ju_s]
  · rw [eP, ju_n (by omega), ju_n (by omega), ju_n (by omega), ju_s]
  · rw [eP, ju_n (by omega), ju_n (by omega), ju_s]
  · rw [eP, ju_n (by omega), ju_s]
  · rw [eP, ju_s]
end KAw

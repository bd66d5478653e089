section KSend
variable {nf np ns c : Nat} {q : Nat → List Nat} {sf : Nat → Nat} {L : Lnk} {M : Rf}
theorem kc_rSend (M : Rf) (f p n : Nat) : ∃ M1, M1 = rTake M f p ∧ rF (rSend M f p n) = j_up (rF M1) f 8 (rF M1 f 8 + 1) ∧ rP (rSend M f p n) = j_up (j_up (rP M1) p 3 1) p 4 (rP M1 p 4 + 1) ∧ rV (rSend M f p n) = up1 (rV M1) f (rV M1 f + (rP M1 p 1).toInt64 * 720720 / (rF M1 f 0).toInt64) ∧ rC (rSend M f p n) = up1 (rC M1) n ((rP M1 p 1).toInt64 * 720720 / (rF M1 f 0).toInt64) ∧ rQ (rSend M f p n) = rQ M1 ∧ rW (rSend M f p n) = rW M1 ∧ rU (rSend M f p n) = rU M1 ∧
    ((∀ m k, m ≠ n → rS (rSend M f p n) m k = rS M1 m k) ∧ rS (rSend M f p n) n 0 = nI p ∧ rS (rSend M f p n) n 1 = rX M1 4 ∧ rS (rSend M f p n) n 2 = kc_at (rF M1 f 4) (rF M1 f 8 + 1) (rF M1 f 5) (rF M1 f 6) (rX M1 4) (rX M1 7) ∧ rS (rSend M f p n) n 3 = 0 ∧ rS (rSend M f p n) n 4 = 1) ∧
    (∀ k, k ≠ 3 → k ≠ 5 → rX (rSend M f p n) k = rX M1 k) ∧ rX (rSend M f p n) 3 = rX M1 3 + 1 ∧ rX (rSend M f p n) 5 = rX M1 5 - rP M1 p 1 := by
  generalize hr : rSend M f p n = R
  unfold rSend at hr
  extract_lets M1 M2 M3 M4 M5 M6 M7 M8 M9 M10 M11 at hr
  refine ⟨M1, rfl, ?_⟩
  have x2 : rX M2 = rX M1 := rfl
  have f2 : rF M2 = rF M1 := rfl
  have p2 : rP M2 = j_up (rP M1) p 3 1 := rfl
  have s2 : rS M2 = rS M1 := rfl
  have v2 : rV M2 = rV M1 := rfl
  have c2 : rC M2 = rC M1 := rfl
  have q2 : rQ M2 = rQ M1 := rfl
  have w2 : rW M2 = rW M1 := rfl
  have u2 : rU M2 = rU M1 := rfl
  have x3 : rX M3 = rX M2 := rfl
  have f3 : rF M3 = rF M2 := rfl
  have p3 : rP M3 = j_up (rP M2) p 4 (rP M2 p 4 + 1) := rfl
  have s3 : rS M3 = rS M2 := rfl
  have v3 : rV M3 = rV M2 := rfl
  have c3 : rC M3 = rC M2 := rfl
  have q3 : rQ M3 = rQ M2 := rfl
  have w3 : rW M3 = rW M2 := rfl
  have u3 : rU M3 = rU M2 := rfl
  have x4 : rX M4 = rX M3 := rfl
  have f4 : rF M4 = j_up (rF M3) f 8 (rF M3 f 8 + 1) := rfl
  have p4 : rP M4 = rP M3 := rfl
  have s4 : rS M4 = rS M3 := rfl
  have v4 : rV M4 = rV M3 := rfl
  have c4 : rC M4 = rC M3 := rfl
  have q4 : rQ M4 = rQ M3 := rfl
  have w4 : rW M4 = rW M3 := rfl
  have u4 : rU M4 = rU M3 := rfl
  have x5 : rX M5 = up1 (rX M4) 3 (rX M4 3 + 1) := rfl
  have f5 : rF M5 = rF M4 := rfl
  have p5 : rP M5 = rP M4 := rfl
  have s5 : rS M5 = rS M4 := rfl
  have v5 : rV M5 = rV M4 := rfl
  have c5 : rC M5 = rC M4 := rfl
  have q5 : rQ M5 = rQ M4 := rfl
  have w5 : rW M5 = rW M4 := rfl
  have u5 : rU M5 = rU M4 := rfl
  have x6 : rX M6 = rX M5 := rfl
  have f6 : rF M6 = rF M5 := rfl
  have p6 : rP M6 = rP M5 := rfl
  have s6 : rS M6 = j_up (rS M5) n 0 (nI p) := rfl
  have v6 : rV M6 = rV M5 := rfl
  have c6 : rC M6 = rC M5 := rfl
  have q6 : rQ M6 = rQ M5 := rfl
  have w6 : rW M6 = rW M5 := rfl
  have u6 : rU M6 = rU M5 := rfl
  have x7 : rX M7 = rX M6 := rfl
  have f7 : rF M7 = rF M6 := rfl
  have p7 : rP M7 = rP M6 := rfl
  have s7 : rS M7 = j_up (rS M6) n 1 (rX M6 4) := rfl
  have v7 : rV M7 = rV M6 := rfl
  have c7 : rC M7 = rC M6 := rfl
  have q7 : rQ M7 = rQ M6 := rfl
  have w7 : rW M7 = rW M6 := rfl
  have u7 : rU M7 = rU M6 := rfl
  have x8 : rX M8 = rX M7 := rfl
  have f8 : rF M8 = rF M7 := rfl
  have p8 : rP M8 = rP M7 := rfl
  have s8 : rS M8 = j_up (rS M7) n 2 (rAckT M7 f) := rfl
  have v8 : rV M8 = rV M7 := rfl
  have c8 : rC M8 = rC M7 := rfl
  have q8 : rQ M8 = rQ M7 := rfl
  have w8 : rW M8 = rW M7 := rfl
  have u8 : rU M8 = rU M7 := rfl
  have x9 : rX M9 = rX M8 := rfl
  have f9 : rF M9 = rF M8 := rfl
  have p9 : rP M9 = rP M8 := rfl
  have s9 : rS M9 = j_up (rS M8) n 3 0 := rfl
  have v9 : rV M9 = rV M8 := rfl
  have c9 : rC M9 = rC M8 := rfl
  have q9 : rQ M9 = rQ M8 := rfl
  have w9 : rW M9 = rW M8 := rfl
  have u9 : rU M9 = rU M8 := rfl
  have x10 : rX M10 = rX M9 := rfl
  have f10 : rF M10 = rF M9 := rfl
  have p10 : rP M10 = rP M9 := rfl
  have s10 : rS M10 = rS M9 := rfl
  have v10 : rV M10 = rV M9 := rfl
  have c10 : rC M10 = up1 (rC M9) n ((rP M9 p 1).toInt64 * 720720 / (rF M9 f 0).toInt64) := rfl
  have q10 : rQ M10 = rQ M9 := rfl
  have w10 : rW M10 = rW M9 := rfl
  have u10 : rU M10 = rU M9 := rfl
  have a7 : rAckT M7 f = kc_at (rF M7 f 4) (rF M7 f 8) (rF M7 f 5) (rF M7 f 6) (rX M7 4) (rX M7 7) := rfl
  have v11 : rV M11 = up1 (rV M10) f (rV M10 f + rC M10 n) := rfl
  have s11 : rS M11 = j_up (rS M10) n 4 1 := rfl
  have x11 : rX M11 = rX M10 := rfl
  have f11 : rF M11 = rF M10 := rfl
  have p11 : rP M11 = rP M10 := rfl
  have c11 : rC M11 = rC M10 := rfl
  have q11 : rQ M11 = rQ M10 := rfl
  have w11 : rW M11 = rW M10 := rfl
  have u11 : rU M11 = rU M10 := rfl
  have zX : rX R = up1 (rX M11) 5 (rX M11 5 - rP M11 p 1) := by rw [← hr]; rfl
  have zF : rF R = rF M11 := by rw [← hr]; rfl
  have zP : rP R = rP M11 := by rw [← hr]; rfl
  have zS : rS R = rS M11 := by rw [← hr]; rfl
  have zV : rV R = rV M11 := by rw [← hr]; rfl
  have zC : rC R = rC M11 := by rw [← hr]; rfl
  have zQ : rQ R = rQ M11 := by rw [← hr]; rfl
  have zW : rW R = rW M11 := by rw [← hr]; rfl
  have zU : rU R = rU M11 := by rw [← hr]; rfl
  clear_value M1 M2 M3 M4 M5 M6 M7 M8 M9 M10 M11
  clear hr
  have eF : rF M7 = j_up (rF M1) f 8 (rF M1 f 8 + 1) := by rw [f7, f6, f5, f4, f3, f2]
  have eF9 : rF M9 = j_up (rF M1) f 8 (rF M1 f 8 + 1) := by rw [f9, f8, eF]
  have eX : rX M7 = up1 (rX M1) 3 (rX M1 3 + 1) := by rw [x7, x6, x5, x4, x3, x2]
  have eX6 : rX M6 = up1 (rX M1) 3 (rX M1 3 + 1) := by rw [x6, x5, x4, x3, x2]
  have eX11 : rX M11 = up1 (rX M1) 3 (rX M1 3 + 1) := by rw [x11, x10, x9, x8, eX]
  have eP9 : rP M9 = j_up (j_up (rP M1) p 3 1) p 4 (rP M1 p 4 + 1) := by rw [p9, p8, p7, p6, p5, p4, p3, p2, ju_n (b := p) (j := 4) (by omega)]
  have eP11 : rP M11 = j_up (j_up (rP M1) p 3 1) p 4 (rP M1 p 4 + 1) := by rw [p11, p10, eP9]
  have ech : (rP M9 p 1).toInt64 * 720720 / (rF M9 f 0).toInt64 = (rP M1 p 1).toInt64 * 720720 / (rF M1 f 0).toInt64 := by rw [eP9, eF9, ju_n (by omega), ju_n (by omega), ju_n (by omega)]
  have eC : rC M10 = up1 (rC M1) n ((rP M1 p 1).toInt64 * 720720 / (rF M1 f 0).toInt64) := by rw [c10, ech, c9, c8, c7, c6, c5, c4, c3, c2]
  have eA : rAckT M7 f = kc_at (rF M1 f 4) (rF M1 f 8 + 1) (rF M1 f 5) (rF M1 f 6) (rX M1 4) (rX M1 7) := by
    rw [a7, eF, eX, ju_n (j := 4) (by omega), ju_s, ju_n (j := 5) (by omega), ju_n (j := 6) (by omega), u1_n (by omega), u1_n (by omega)]
  have eS : rS M11 = j_up (j_up (j_up (j_up (j_up (rS M1) n 0 (nI p)) n 1 (rX M1 4)) n 2 (kc_at (rF M1 f 4) (rF M1 f 8 + 1) (rF M1 f 5) (rF M1 f 6) (rX M1 4) (rX M1 7))) n 3 0) n 4 1 := by
    rw [s11, s10, s9, s8, eA, s7, eX6, u1_n (j := 4) (by omega), s6, s5, s4, s3, s2]
  refine ⟨?_, zP.trans eP11, ?_, ?_, ?_, ?_, ?_, ⟨fun m k hm => ?_, ?_, ?_, ?_, ?_, ?_⟩, fun k k1 k2 => ?_, ?_, ?_⟩
  · rw [zF, f11, f10, eF9]
  · rw [zV, v11, eC, u1_s, v10, v9, v8, v7, v6, v5, v4, v3, v2]
  · rw [zC, c11, eC]
  · rw [zQ, q11, q10, q9, q8, q7, q6, q5, q4, q3, q2]
  · rw [zW, w11, w10, w9, w8, w7, w6, w5, w4, w3, w2]
  · rw [zU, u11, u10, u9, u8, u7, u6, u5, u4, u3, u2]
  · rw [zS, eS, ju_n (by omega), ju_n (by omega), ju_n (by omega), ju_n (by omega), ju_n (by omega)]
  · rw [zS, eS, ju_n (by omega), ju_n (by omega), ju_n (by omega), ju_n (by omega), ju_s]
  · rw [zS, eS, ju_n (by omega), ju_n (by omega), ju_n (by omega), ju_s]
  · rw [zS, eS, ju_n (by omega), ju_n (by omega), ju_s]
  · rw [zS, eS, ju_n (by omega), ju_s]
  · rw [zS, eS, ju_s]
  · rw [zX, u1_n k2, eX11, u1_n k1]
  · rw [zX, u1_n (by omega), eX11, u1_s]
  · rw [zX, u1_s, eX11, u1_n (by omega), eP11, ju_n (by omega), ju_n (by omega)]
end KSend

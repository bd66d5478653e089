/-! ===== a packet's text: class and reference write the same ===== -/
section KFt
theorem kf_txt {L : Lnk} {M : Rf} {p : Nat} (h0 : lP L p 0 = rP M p 0) (h1 : lP L p 1 = rP M p 1) (h3 : lP L p 3 = rP M p 3) (h5 : lP L p 5 = rP M p 5) (hs : rP M p 3 = 0 ∨ rP M p 3 = 1 ∨ rP M p 3 = 2 ∨ rP M p 3 = 3) : cTxt L p = rTxt M p := by
  have a1 : wd "p" = [112] := by decide
  have a2 : wd " " = [32] := by decide
  have a3 : wd " queued" = [32] ++ wd "queued" := by decide
  have a4 : wd " flying" = [32] ++ wd "flying" := by decide
  have a5 : wd " dropped" = [32] ++ wd "dropped" := by decide
  have a6 : wd " at " = [32] ++ wd "at " := by decide
  unfold cTxt cTxS rTxt
  rw [h0, h1, h3, h5, a1, a2, a3, a4, a5, a6]
  rcases hs with e | e | e | e
  · rw [e, if_pos rfl, if_pos rfl, if_neg (by decide)]
    simp only [List.append_assoc, List.append_nil]
  · rw [e, if_neg (by decide), if_pos rfl, if_neg (by decide), if_pos rfl, if_neg (by decide)]
    simp only [List.append_assoc, List.append_nil]
  · rw [e, if_neg (by decide), if_neg (by decide), if_neg (by decide), if_neg (by decide), if_neg (by decide), if_neg (by decide), if_pos rfl]
    simp only [List.append_assoc]
  · rw [e, if_neg (by decide), if_neg (by decide), if_pos rfl, if_neg (by decide), if_neg (by decide), if_pos rfl, if_neg (by decide)]
    simp only [List.append_assoc, List.append_nil]
end KFt

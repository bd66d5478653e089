/-! ===== the class: format, formattedByte ===== -/
section CFm
variable {l : Launch} {D : va_G} {bs : Nat} {E : j_E} {h h' : j_H} {d : Nat} {Q : j_O → j_H → Prop} {x zb b0 C K : Nat} {V : Ps} {w : List Nat}
theorem SX_fg {h0 : j_H} (s : SX E h0 x b0 C K w h) : FG (sbA x b0) h0 h := by
  obtain ⟨b, cap, f, s1, s2, s3, s4⟩ := s
  exact s3
/-- the last word of a packet's text -/
def cTxS (L : Lnk) (p : Nat) : List Nat := if lP L p 3 = 0 then wd "queued" else if lP L p 3 = 1 then wd "flying" else if lP L p 3 = 3 then wd "dropped" else wd "at " ++ decF 6 (tn (lP L p 5))
def cTxt (L : Lnk) (p : Nat) : List Nat := [112] ++ decF 2 p ++ wd " f" ++ decF 2 (tn (lP L p 0)) ++ [32] ++ decF 5 (tn (lP L p 1)) ++ [32] ++ cTxS L p
theorem sp_X8_formattedByte (hl : l.stackTraces = false) {u y : Nat} (p : px h x u y) (s : SX E h (x + 49) b0 C K w h) (hw : ∀ i, i < w.length → w.getD i 0 < 128) (hl34 : w.length ≤ 34) {v : Int32} (H1 : ¬ inx v w.length → Q (.inl (some (.int (-1)))) h) (H0 : ∀ i, i < w.length → v = nI i → Q (.inl (some (.int (nI (w.getD i 0))))) h) : j_Met l D bs E (d + 4) n_X8_formattedByte [.ref x, .int v] h Q := by
  have hB := SX_bd s
  refine j_meth hl rfl g_X8_formattedByte (Nat.le_of_ble_eq_true rfl) (fun _ => ⟨_, _, rfl, (px_s p)⟩) hB.1 hB.2 (fun G hG => ?_)
  refine b_X8_formattedByte_0 hG ?_
  dsimp only [q_X8_formattedByte_0, j_wp, j_opB, j_opA, j_nth, j_i1, j_i2, j_l1, j_l2, j_li, j_f1, j_f2, j_d1, j_d2, j_r1, j_ai, j_aii, j_ail, j_aid, j_air, j_st1, j_st2, j_stu, j_kl, j_cond, j_args, j_out, j_few, j_cw, j_nat, j_pad, j_exp, Nat.reduceAdd]
  by_cases hv : v < 0
  · rw [if_pos hv]
    refine b_X8_formattedByte_15 hG ?_
    dsimp only [q_X8_formattedByte_15, j_wp, j_opB, j_opA, j_nth, j_i1, j_i2, j_l1, j_l2, j_li, j_f1, j_f2, j_d1, j_d2, j_r1, j_ai, j_aii, j_ail, j_aid, j_air, j_st1, j_st2, j_stu, j_kl, j_cond, j_args, j_out, j_few, j_cw, j_nat, j_pad, j_exp, Nat.reduceAdd]
    exact ⟨trivial, H1 (fun z => by obtain ⟨i, hi, rfl⟩ := z; exact nI_pos (by omega) hv)⟩
  · rw [if_neg hv]
    simp only [px_s p, px_6 p, j_ref, true_and]
    refine sp_J4_length hl s ?_
    show j_cond .lt v (nI w.length) _ _
    dsimp only [j_cond]
    obtain ⟨i, hi, rfl⟩ := nI_of hv
    by_cases hlt : i < w.length
    · rw [if_pos (nI_lt hlt (by omega))]
      refine b_X8_formattedByte_17 hG ?_
      dsimp only [q_X8_formattedByte_17, j_wp, j_opB, j_opA, j_nth, j_i1, j_i2, j_l1, j_l2, j_li, j_f1, j_f2, j_d1, j_d2, j_r1, j_ai, j_aii, j_ail, j_aid, j_air, j_st1, j_st2, j_stu, j_kl, j_cond, j_args, j_out, j_few, j_cw, j_nat, j_pad, j_exp, Nat.reduceAdd]
      simp only [px_s p, px_6 p, j_ref, true_and]
      refine sp_J4_charAt hl s hlt (hw i hlt) ?_
      exact ⟨trivial, H0 i hlt rfl⟩
    · rw [if_neg (nI_nlt (by omega) hi)]
      refine b_X8_formattedByte_15 hG ?_
      dsimp only [q_X8_formattedByte_15, j_wp, j_opB, j_opA, j_nth, j_i1, j_i2, j_l1, j_l2, j_li, j_f1, j_f2, j_d1, j_d2, j_r1, j_ai, j_aii, j_ail, j_aid, j_air, j_st1, j_st2, j_stu, j_kl, j_cond, j_args, j_out, j_few, j_cw, j_nat, j_pad, j_exp, Nat.reduceAdd]
      exact ⟨trivial, H1 (fun z => by obtain ⟨j, hj, e⟩ := z; have := (nI_eq hi (by omega)).mp e; omega)⟩
end CFm

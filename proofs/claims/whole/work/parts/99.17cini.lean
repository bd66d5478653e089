/-! ===== the class: its constructor ===== -/
section CI8
variable {l : Launch} {D : va_G} {bs : Nat} {E : j_E} {h h' : j_H} {d : Nat} {Q : j_O → j_H → Prop}
theorem fq_sm {t c : Nat} (f : FQ nF t h h') (hc : c < t) : sm h h' c := by
  obtain ⟨a1, a2, a3, a4⟩ := f.2 c hc
  exact ⟨a1, a2, a3, (a4 id).1, (a4 id).2⟩
theorem nw_sm {s : j_S} {n c : Nat} (hc : c < j_z h) : sm h (j_new h s n) c := fq_sm (FQ_new (FQ_rf (Nat.le_refl _))) hc
theorem sR_sm {a k c : Nat} {v : Option Nat} (hc : c ≠ a) : sm h (j_setR h a k v) c := ⟨rfl, fun j => by rw [jh_R, if_neg (fun z => hc z.1)], fun _ => rfl, fun _ => rfl, fun _ => rfl⟩
theorem sI_sm {a k c : Nat} {v : Int32} (hc : c ≠ a) : sm h (j_setI h a k v) c := ⟨rfl, fun _ => rfl, fun _ => rfl, fun j => by rw [jh_In (fun z => hc z.1)], fun _ => rfl⟩
theorem new_X7 (hl : l.stackTraces = false) (c1 : j_c h + 2 ≤ E.2.1) (c2 : j_k h + 808 ≤ E.2.2) (H : ∀ h', TX h' (j_z h) (fun _ => 0) 0 0 (0, 0, 0, 0, -1) → (∀ c, c < j_z h → sm h h' c) → j_z h' = j_z h + 2 → j_c h' = j_c h + 2 → j_k h' = j_k h + 808 → Q (.inl none) h') : j_Met l D bs E (d + 1) n_X7_init [.ref (j_z h)] (j_new h (.inr 9) 8) Q := by
  have cn : j_c (j_new h (.inr 9) 8) = j_c h + 1 := rfl
  have kn : j_k (j_new h (.inr 9) 8) = j_k h + 8 := rfl
  refine sp_X7_init hl (by rw [nw_sh, if_pos rfl]) rfl (fun k => by rw [nw_I, if_pos rfl]) (by omega) (by omega) (fun h1 t1 f1 z1 y1 w1 => ?_)
  exact H h1 t1 (fun c hc => sm_tr (nw_sm hc) (fq_sm f1 hc)) z1 (by omega) (by omega)
theorem new_X5 (hl : l.stackTraces = false) (c1 : j_c h + 5 ≤ E.2.1) (c2 : j_k h + 137 ≤ E.2.2) (H : ∀ h' S, SK h' (j_z h) (sReset S) → (∀ c, c < j_z h → sm h h' c) → j_z h' = j_z h + 5 → j_c h' = j_c h + 5 → j_k h' = j_k h + 137 → Q (.inl none) h') : j_Met l D bs E (d + 3) n_X5_init [.ref (j_z h)] (j_new h (.inr 7) 7) Q := by
  have cn : j_c (j_new h (.inr 7) 7) = j_c h + 1 := rfl
  have kn : j_k (j_new h (.inr 7) 7) = j_k h + 7 := rfl
  refine sp_X5_init hl (by rw [nw_sh, if_pos rfl]) rfl (fun k => by rw [nw_I, if_pos rfl]) (by omega) (by omega) (fun h1 S t1 f1 z1 y1 w1 => ?_)
  exact H h1 S t1 (fun c hc => sm_tr (nw_sm hc) (fq_sm f1 hc)) z1 (by omega) (by omega)
theorem new_X1 (hl : l.stackTraces = false) (c1 : j_c h + 11 ≤ E.2.1) (c2 : j_k h + 3944 ≤ E.2.2) (H : ∀ h' C, LkAt h' (j_z h) C → (∀ c, c < j_z h → sm h h' c) → j_z h' = j_z h + 11 → j_c h' = j_c h + 11 → j_k h' = j_k h + 3944 → Q (.inl none) h') : j_Met l D bs E (d + 3) n_X1_init [.ref (j_z h)] (j_new h (.inr 3) 17) Q := by
  have cn : j_c (j_new h (.inr 3) 17) = j_c h + 1 := rfl
  have kn : j_k (j_new h (.inr 3) 17) = j_k h + 17 := rfl
  refine sp_X1_init hl (by rw [nw_sh, if_pos rfl]) rfl (by omega) (by omega) (fun h1 k1 x1 x2 f1 z1 y1 w1 => ?_)
  exact H h1 _ (LkOf_at k1 x1 x2) (fun c hc => sm_tr (nw_sm hc) (fq_sm f1 hc)) z1 (by omega) (by omega)
theorem new_X0 (hl : l.stackTraces = false) (c1 : j_c h + 2 ≤ E.2.1) (c2 : j_k h + 13 ≤ E.2.2) (H : ∀ h', (j_sh h' (j_z h) = some (.inr 2) ∧ j_R h' (j_z h) 0 = some (j_z h + 1) ∧ j_sh h' (j_z h + 1) = some (.inl (4, 10))) → (∀ k, j_I h' (j_z h) k = 0) → (∀ k, j_R h' (j_z h + 1) k = none) → (∀ c, c < j_z h → sm h h' c) → j_z h' = j_z h + 2 → j_c h' = j_c h + 2 → j_k h' = j_k h + 13 → Q (.inl none) h') : j_Met l D bs E (d + 1) n_X0_init [.ref (j_z h)] (j_new h (.inr 2) 3) Q := by
  have cn : j_c (j_new h (.inr 2) 3) = j_c h + 1 := rfl
  have kn : j_k (j_new h (.inr 2) 3) = j_k h + 3 := rfl
  refine sp_X0_init hl (by rw [nw_sh, if_pos rfl]) rfl (fun k => by rw [nw_I, if_pos rfl]) (by omega) (by omega) (fun h1 a1 a2 a3 f1 z1 y1 w1 => ?_)
  exact H h1 a1 a2 a3 (fun c hc => sm_tr (nw_sm hc) (fq_sm f1 hc)) z1 (by omega) (by omega)
def q_cI11 : List j_N := []
def q_cI10 : List j_N := (.putfield 66, 3, 10, 6, .null) :: (.return_, 1, 0, 0, .null) :: q_cI11
def q_cI9 : List j_N := (.putfield 59, 3, 10, 1, .null) :: (.aload_n 0, 1, 0, 0, .null) :: (.new 63, 3, 1, 0, .ref 4) :: (.dup, 1, 0, 0, .null) :: (.invokespecial 65, 3, 295, 1, .retAddr 0) :: q_cI10
def q_cI8 : List j_N := (.putfield 50, 3, 10, 5, .null) :: (.aload_n 0, 1, 0, 0, .null) :: (.new 54, 3, 5, 0, .ref 2) :: (.dup, 1, 0, 0, .null) :: (.aload_n 1, 1, 1, 0, .null) :: (.aload_n 3, 1, 3, 0, .null) :: (.invokespecial 56, 3, 47, 3, .retAddr 0) :: q_cI9
def q_cI7 : List j_N := (.putfield 40, 3, 10, 4, .null) :: (.aload_n 0, 1, 0, 0, .null) :: (.iconst 0, 1, 0, 0, .int (0)) :: (.putfield 43, 3, 10, 9, .ref 1) :: (.aload_n 0, 1, 0, 0, .null) :: (.new 47, 3, 2, 0, .ref 3) :: (.dup, 1, 0, 0, .null) :: (.invokespecial 49, 3, 0, 1, .retAddr 0) :: q_cI8
def q_cI6 : List j_N := (.putfield 37, 3, 10, 3, .null) :: (.aload_n 0, 1, 0, 0, .null) :: (.new 13, 3, 3, 0, .ref 17) :: (.dup, 1, 0, 0, .null) :: (.invokespecial 15, 3, 4, 1, .retAddr 0) :: q_cI7
def q_cI5 : List j_N := (.putfield 30, 3, 10, 8, .null) :: (.aload_n 0, 1, 0, 0, .null) :: (.aload_n 3, 1, 3, 0, .null) :: (.putfield 33, 3, 10, 2, .null) :: (.aload_n 0, 1, 0, 0, .null) :: (.new 13, 3, 3, 0, .ref 17) :: (.dup, 1, 0, 0, .null) :: (.invokespecial 15, 3, 4, 1, .retAddr 0) :: q_cI6
def q_cI4 : List j_N := (.aload_n 0, 1, 0, 0, .null) :: (.aload_n 1, 1, 1, 0, .null) :: (.putfield 20, 3, 10, 0, .null) :: (.aload_n 0, 1, 0, 0, .null) :: (.aload_n 2, 1, 2, 0, .null) :: (.putfield 26, 3, 10, 7, .null) :: (.aload_n 0, 1, 0, 0, .null) :: (.new 10, 3, 7, 0, .ref 7) :: (.dup, 1, 0, 0, .null) :: (.invokespecial 12, 3, 63, 1, .retAddr 0) :: q_cI5
def q_cI3 : List j_N := (.astore_n 3, 1, 3, 0, .null) :: (.aload_n 3, 1, 3, 0, .null) :: (.aload_n 2, 1, 2, 0, .null) :: (.invokevirtual 16, 3, 5, 2, .retAddr 0) :: q_cI4
def q_cI2 : List j_N := (.astore_n 2, 1, 2, 0, .null) :: (.new 13, 3, 3, 0, .ref 17) :: (.dup, 1, 0, 0, .null) :: (.invokespecial 15, 3, 4, 1, .retAddr 0) :: q_cI3
def q_cI1 : List j_N := (.astore_n 1, 1, 1, 0, .null) :: (.new 10, 3, 7, 0, .ref 7) :: (.dup, 1, 0, 0, .null) :: (.invokespecial 12, 3, 63, 1, .retAddr 0) :: q_cI2
def q_cI0 : List j_N := (.aload_n 0, 1, 0, 0, .null) :: (.invokespecial 1, 3, 0, 0, .ref 6) :: (.new 7, 3, 9, 0, .ref 8) :: (.dup, 1, 0, 0, .null) :: (.invokespecial 9, 3, 79, 1, .retAddr 0) :: q_cI1
/-- a fresh scheduler -/
def psN0 (x : Nat) (S S2 : Sup) (C C2 C3 : Lk4) : Ps := (((x + 3, x + 19, 0, 0, 0, 0), ((lBegin (sReset S) C.1, 0, -1, C.2.2.2), C2, C3), (sReset S, sReset S2), (fun _ => none, fun _ => C2), (fun _ => 0, (0, 0, 0, 0, -1)), 0) : Ps)
set_option maxRecDepth 8000 in
set_option maxHeartbeats 4000000 in
theorem ci_B (hl : l.stackTraces = false) {x : Nat} {h0 h12 : j_H} {G : j_G} {pc : Nat} {S S2 : Sup} {C C2 C3 : Lk4} {R4 : Nat → Option Nat} (c1 : j_c h0 + 51 ≤ E.2.1) (c2 : j_k h0 + 12983 ≤ E.2.2) (s12 : j_sh h12 x = some (.inr 10)) (eT : TX h12 (x + 1) (fun _ => 0) 0 0 (0, 0, 0, 0, -1)) (eL : LkAt h12 (x + 8) (lBegin (sReset S) C.1, 0, -1, C.2.2.2)) (eS : SK h12 (x + 3) (sReset S)) (eZ : SK h12 (x + 19) (sReset S2)) (eC2 : LkAt h12 (x + 24) C2) (eC3 : LkAt h12 (x + 35) C3) (eN : ∀ c, c < x → sm h0 h12 c) (e9 : j_I h12 x 9 = 0) (eR : ∀ k, j_R h12 x k = if k = 4 then some (x + 35) else if k = 3 then some (x + 24) else if k = 2 then some (x + 8) else if k = 8 then some (x + 19) else if k = 7 then some (x + 3) else if k = 0 then some (x + 1) else R4 k) (eH : HI h12 (x + 46) (x + 48) 0 0 (fun _ => none) (fun _ => C2)) (z12 : j_z h12 = x + 48) (y12 : j_c h12 = j_c h0 + 47) (w12 : j_k h12 = j_k h0 + 12927)
    (H : ∀ h' S S2 C C2 C3, PS h' x (x + 51) (psN0 x S S2 C C2 C3) → rdr h' x → SB E h' (x + 49) (x + 50) 16 0 (fun _ => 0) (j_c h0 + 51) (j_k h0 + 12983) → (∀ c, c < x → sm h0 h' c) → j_z h' = x + 51 → j_c h' = j_c h0 + 50 → j_k h' = j_k h0 + 12949 → Q (.inl none) h') : j_wp (j_Met l D bs E (d + 3)) G Q E q_cI8 pc [.ref x, .ref (x + 1), .ref (x + 1 + 2), .ref (x + 1 + 2 + 5)] [.ref (x + 46), .ref x] h12 := by
  dsimp only [q_cI8, j_wp, j_opB, j_opA, j_nth, j_i1, j_i2, j_l1, j_l2, j_li, j_f1, j_f2, j_d1, j_d2, j_r1, j_ai, j_aii, j_ail, j_aid, j_air, j_st1, j_st2, j_stu, j_kl, j_cond, j_args, j_out, j_few, j_cw, j_nat, j_pad, j_exp, Nat.reduceAdd]
  simp only [jh_shR, jh_shI, s12, j_ref, j_ari, j_arb, j_arr, j_len, j_nar, j_oi, j_ol, j_of, j_od, j_or, j_ov, true_and, and_true]
  have p13 : ∀ c, c ≠ x → sm h12 (j_setR h12 x 5 (some (x + 46))) c := fun c hc => sR_sm hc
  have s13 : j_sh (j_setR h12 x 5 (some (x + 46))) x = some (.inr 10) := s12
  have i13 : j_I (j_setR h12 x 5 (some (x + 46))) x 9 = 0 := e9
  have r13 : ∀ k, j_R (j_setR h12 x 5 (some (x + 46))) x k = if k = 5 then some (x + 46) else j_R h12 x k := fun k => by simp only [jh_R, true_and]
  have z13 : j_z (j_setR h12 x 5 (some (x + 46))) = x + 48 := by show j_z h12 = _; omega
  have y13 : j_c (j_setR h12 x 5 (some (x + 46))) = j_c h0 + 47 := by show j_c h12 = _; omega
  have w13 : j_k (j_setR h12 x 5 (some (x + 46))) = j_k h0 + 12927 := by show j_k h12 = _; omega
  generalize j_setR h12 x 5 (some (x + 46)) = h13 at *
  refine ⟨by omega, by omega, ?_⟩
  have cn : j_c (j_new h13 (.inr 5) 2) = j_c h13 + 1 := rfl
  have kn : j_k (j_new h13 (.inr 5) 2) = j_k h13 + 2 := rfl
  have zn : j_z (j_new h13 (.inr 5) 2) = j_z h13 + 1 := rfl
  refine sp_X3_init hl (by rw [nw_sh, if_pos rfl]) ⟨by omega, by omega⟩ (by rw [(nw_sm (h := h13) (by omega)).1, (p13 _ (by omega)).1]; exact eT.1) (by rw [(nw_sm (h := h13) (by omega)).1, (p13 _ (by omega)).1]; exact eL.1.1.1) ?_
  rw [z13]
  have m14 : ∀ c, c < x + 48 → sm h13 (j_setR (j_setR (j_new h13 (.inr 5) 2) (x + 48) 0 (some (x + 1))) (x + 48) 1 (some (x + 1 + 2 + 5))) c := fun c hc => sm_tr (nw_sm (by omega)) (sm_tr (sR_sm (by omega)) (sR_sm (by omega)))
  have t14 : j_sh (j_setR (j_setR (j_new h13 (.inr 5) 2) (x + 48) 0 (some (x + 1))) (x + 48) 1 (some (x + 1 + 2 + 5))) (x + 48) = some (.inr 5) := by show j_sh (j_new h13 (.inr 5) 2) (x + 48) = _; rw [nw_sh, if_pos z13.symm]
  have u14 : ∀ k, j_R (j_setR (j_setR (j_new h13 (.inr 5) 2) (x + 48) 0 (some (x + 1))) (x + 48) 1 (some (x + 1 + 2 + 5))) (x + 48) k = if k = 1 then some (x + 8) else if k = 0 then some (x + 1) else j_R (j_new h13 (.inr 5) 2) (x + 48) k := fun k => by simp only [jh_R, true_and]
  have z14 : j_z (j_setR (j_setR (j_new h13 (.inr 5) 2) (x + 48) 0 (some (x + 1))) (x + 48) 1 (some (x + 1 + 2 + 5))) = x + 49 := by show j_z h13 + 1 = _; omega
  have y14 : j_c (j_setR (j_setR (j_new h13 (.inr 5) 2) (x + 48) 0 (some (x + 1))) (x + 48) 1 (some (x + 1 + 2 + 5))) = j_c h0 + 48 := by show j_c h13 + 1 = _; omega
  have w14 : j_k (j_setR (j_setR (j_new h13 (.inr 5) 2) (x + 48) 0 (some (x + 1))) (x + 48) 1 (some (x + 1 + 2 + 5))) = j_k h0 + 12929 := by show j_k h13 + 2 = _; omega
  generalize j_setR (j_setR (j_new h13 (.inr 5) 2) (x + 48) 0 (some (x + 1))) (x + 48) 1 (some (x + 1 + 2 + 5)) = h14 at *
  have s14 : j_sh h14 x = some (.inr 10) := by rw [(m14 x (by omega)).1]; exact s13
  have v14 : j_R h14 (x + 48) 0 = some (x + 1) := u14 0
  have v14' : j_R h14 (x + 48) 1 = some (x + 8) := u14 1
  dsimp only [q_cI9, j_wp, j_opB, j_opA, j_nth, j_i1, j_i2, j_l1, j_l2, j_li, j_f1, j_f2, j_d1, j_d2, j_r1, j_ai, j_aii, j_ail, j_aid, j_air, j_st1, j_st2, j_stu, j_kl, j_cond, j_args, j_out, j_few, j_cw, j_nat, j_pad, j_exp, Nat.reduceAdd]
  simp only [jh_shR, jh_shI, s14, j_ref, j_ari, j_arb, j_arr, j_len, j_nar, j_oi, j_ol, j_of, j_od, j_or, j_ov, true_and, and_true]
  have p15 : ∀ c, c ≠ x → sm h14 (j_setR h14 x 1 (some (x + 48))) c := fun c hc => sR_sm hc
  have s15 : j_sh (j_setR h14 x 1 (some (x + 48))) x = some (.inr 10) := s14
  have r15 : ∀ k, j_R (j_setR h14 x 1 (some (x + 48))) x k = if k = 1 then some (x + 48) else j_R h14 x k := fun k => by simp only [jh_R, true_and]
  have i15 : j_I (j_setR h14 x 1 (some (x + 48))) x 9 = 0 := ((m14 x (by omega)).2.2.2.1 9).trans i13
  have z15 : j_z (j_setR h14 x 1 (some (x + 48))) = x + 49 := z14
  have y15 : j_c (j_setR h14 x 1 (some (x + 48))) = j_c h0 + 48 := y14
  have w15 : j_k (j_setR h14 x 1 (some (x + 48))) = j_k h0 + 12929 := w14
  generalize j_setR h14 x 1 (some (x + 48)) = h15 at *
  refine ⟨by omega, by omega, ?_⟩
  have sb0 : j_sh (j_new h15 (.inr 1) 4) (x + 49) = some (.inr 1) := by rw [nw_sh, if_pos z15.symm]
  have zb0 : j_z (j_new h15 (.inr 1) 4) = x + 50 := by show j_z h15 + 1 = _; omega
  have cb0 : j_c (j_new h15 (.inr 1) 4) = j_c h0 + 49 := by show j_c h15 + 1 = _; omega
  have kb0 : j_k (j_new h15 (.inr 1) 4) = j_k h0 + 12933 := by show j_k h15 + 4 = _; omega
  have ib0 : j_I (j_new h15 (.inr 1) 4) (x + 49) 3 = 0 := by rw [nw_I, if_pos z15.symm]
  have mb0 : ∀ c, c < x + 49 → sm h15 (j_new h15 (.inr 1) 4) c := fun c hc => nw_sm (by omega)
  rw [z15]
  generalize j_new h15 (.inr 1) 4 = h16 at *
  refine sp_J4_init hl sb0 (by omega) (by omega) (by omega) ?_
  obtain ⟨sb, fb⟩ := sbN_SB (E := E) sb0 (by omega) ib0 (by omega) (by omega)
  have zb : j_z (sbN h16 (x + 49)) = x + 51 := by show j_z h16 + 1 = _; omega
  have cb : j_c (sbN h16 (x + 49)) = j_c h0 + 50 := by show j_c h16 + 1 = _; omega
  have kb : j_k (sbN h16 (x + 49)) = j_k h0 + 12949 := by show j_k h16 + 16 = _; omega
  rw [zb0, cb0, kb0] at sb
  have mb : ∀ c, c < x + 49 → sm h15 (sbN h16 (x + 49)) c := fun c hc => sm_tr (mb0 c hc) (fb.2 c (by omega) (by omega))
  generalize sbN h16 (x + 49) = h17 at *
  have s17 : j_sh h17 x = some (.inr 10) := by rw [(mb x (by omega)).1]; exact s15
  dsimp only [q_cI10, j_wp, j_opB, j_opA, j_nth, j_i1, j_i2, j_l1, j_l2, j_li, j_f1, j_f2, j_d1, j_d2, j_r1, j_ai, j_aii, j_ail, j_aid, j_air, j_st1, j_st2, j_stu, j_kl, j_cond, j_args, j_out, j_few, j_cw, j_nat, j_pad, j_exp, Nat.reduceAdd]
  simp only [jh_shR, jh_shI, s17, j_ref, j_ari, j_arb, j_arr, j_len, j_nar, j_oi, j_ol, j_of, j_od, j_or, j_ov, true_and, and_true]
  have mz : ∀ c, c ≠ x → c < x + 48 → sm h12 (j_setR h17 x 6 (some (x + 49))) c := fun c hc h2 => sm_tr (p13 c hc) (sm_tr (m14 c (by omega)) (sm_tr (p15 c hc) (sm_tr (mb c (by omega)) (sR_sm hc))))
  have rz : ∀ k, j_R (j_setR h17 x 6 (some (x + 49))) x k = if k = 6 then some (x + 49) else if k = 1 then some (x + 48) else if k = 5 then some (x + 46) else if k = 4 then some (x + 35) else if k = 3 then some (x + 24) else if k = 2 then some (x + 8) else if k = 8 then some (x + 19) else if k = 7 then some (x + 3) else if k = 0 then some (x + 1) else R4 k := fun k => by
    simp only [jh_R, true_and]
    rw [(mb x (by omega)).2.1, r15, (m14 x (by omega)).2.1, r13, eR]
  have m48 : sm h14 (j_setR h17 x 6 (some (x + 49))) (x + 48) := sm_tr (p15 _ (by omega)) (sm_tr (mb _ (by omega)) (sR_sm (by omega)))
  have sz : j_sh (j_setR h17 x 6 (some (x + 49))) x = some (.inr 10) := s17
  have iz : j_I (j_setR h17 x 6 (some (x + 49))) x 9 = 0 := ((mb x (by omega)).2.2.2.1 9).trans i15
  have fz : FG (fun c => c = x) h17 (j_setR h17 x 6 (some (x + 49))) := FG_sR FG_rf rfl
  have SBz : SB E (j_setR h17 x 6 (some (x + 49))) (x + 49) (x + 50) 16 0 (fun _ => 0) (j_c h0 + 51) (j_k h0 + 12983) := by
    obtain ⟨q1, q2, q3, q4, q5, q6, q7, q8, q9, q10, q11, q12, q13, q14, q15⟩ := sb
    exact ⟨q1, q2, by rw [jh_R, if_neg (by omega)]; exact q3, q4, q5, q6, q7, q8, q9, q10, q11, q12, q13, q14, q15⟩
  have zz : j_z (j_setR h17 x 6 (some (x + 49))) = x + 51 := zb
  refine H (j_setR h17 x 6 (some (x + 49))) S S2 C C2 C3 ?_ ⟨by rw [m48.1]; exact t14, by rw [m48.2.1]; exact v14, by rw [m48.2.1]; exact v14'⟩ SBz (fun c hc => sm_tr (eN c hc) (mz c (by omega) (by omega))) zb cb kb
  generalize j_setR h17 x 6 (some (x + 49)) = h18 at *
  have eS' : SK h18 (x + 3) (sReset S) := SK_sm eS (fun c g1 g2 => mz c (by omega) (by omega))
  have eZ' : SK h18 (x + 19) (sReset S2) := SK_sm eZ (fun c g1 g2 => mz c (by omega) (by omega))
  refine ⟨⟨sz, rz 0, rz 1, rz 2, rz 3, rz 4, rz 5, rz 6, rz 7, rz 8⟩, iz, LkAt_sm eL (fun c g1 g2 => mz c (by omega) (by omega)), LkAt_sm eC2 (fun c g1 g2 => mz c (by omega) (by omega)), LkAt_sm eC3 (fun c g1 g2 => mz c (by omega) (by omega)), eS', eZ', ?_, TX_sm eT (mz _ (by omega) (by omega)) (mz _ (by omega) (by omega)), Or.inl ⟨rfl, rfl⟩, by omega⟩
  have g46 := mz (x + 46) (by omega) (by omega)
  have g47 := mz (x + 46 + 1) (by omega) (by omega)
  obtain ⟨⟨i1, i2, i3⟩, ⟨i4, i5⟩, ⟨i6, i7⟩, ⟨i8, i9⟩, i10⟩ := eH
  exact ⟨⟨by rw [g46.1]; exact i1, by rw [g46.2.1]; exact i2, by rw [g47.1]; exact i3⟩, ⟨by rw [g46.2.2.2.1]; exact i4, i5⟩, ⟨by rw [g46.2.2.2.1]; exact i6, i7⟩, ⟨by omega, by omega⟩, fun i hi => ⟨by rw [g47.2.1]; exact (i10 i hi).1, fun b hb => by cases hb⟩⟩
set_option maxRecDepth 8000 in
set_option maxHeartbeats 4000000 in
theorem sp_X8_init (hl : l.stackTraces = false) {x : Nat} (t1 : j_sh h x = some (.inr 10)) (tz : j_z h = x + 1) (c1 : j_c h + 51 ≤ E.2.1) (c2 : j_k h + 12983 ≤ E.2.2)
    (H : ∀ h' S S2 C C2 C3, PS h' x (x + 51) (psN0 x S S2 C C2 C3) → rdr h' x → SB E h' (x + 49) (x + 50) 16 0 (fun _ => 0) (j_c h + 51) (j_k h + 12983) → (∀ c, c < x → sm h h' c) → j_z h' = x + 51 → j_c h' = j_c h + 50 → j_k h' = j_k h + 12949 → Q (.inl none) h') : j_Met l D bs E (d + 4) n_X8_init [.ref x] h Q := by
  have hB : j_bd E h := ⟨by omega, by omega⟩
  refine j_meth hl rfl g_X8_init (Nat.le_of_ble_eq_true rfl) (fun _ => ⟨_, _, rfl, t1⟩) hB.1 hB.2 (fun G hG => ?_)
  refine b_X8_init_0 hG ?_
  rw [show q_X8_init_0 = q_cI0 from rfl]
  dsimp only [q_cI0, j_wp, j_opB, j_opA, j_nth, j_i1, j_i2, j_l1, j_l2, j_li, j_f1, j_f2, j_d1, j_d2, j_r1, j_ai, j_aii, j_ail, j_aid, j_air, j_st1, j_st2, j_stu, j_kl, j_cond, j_args, j_out, j_few, j_cw, j_nat, j_pad, j_exp, Nat.reduceAdd]
  refine ⟨by omega, by omega, ?_⟩
  refine new_X7 hl (by omega) (by omega) (fun h1 x1 m1 z1 y1 w1 => ?_)
  rw [tz] at x1 m1 z1 ⊢
  have s1 : j_sh h1 x = some (.inr 10) := by rw [(m1 x (by omega)).1]; exact t1
  dsimp only [q_cI1, j_wp, j_opB, j_opA, j_nth, j_i1, j_i2, j_l1, j_l2, j_li, j_f1, j_f2, j_d1, j_d2, j_r1, j_ai, j_aii, j_ail, j_aid, j_air, j_st1, j_st2, j_stu, j_kl, j_cond, j_args, j_out, j_few, j_cw, j_nat, j_pad, j_exp, Nat.reduceAdd]
  refine ⟨by omega, by omega, ?_⟩
  refine new_X5 hl (by omega) (by omega) (fun h2 S k2 m2 z2 y2 w2 => ?_)
  rw [z1] at k2 m2 z2 ⊢
  dsimp only [q_cI2, j_wp, j_opB, j_opA, j_nth, j_i1, j_i2, j_l1, j_l2, j_li, j_f1, j_f2, j_d1, j_d2, j_r1, j_ai, j_aii, j_ail, j_aid, j_air, j_st1, j_st2, j_stu, j_kl, j_cond, j_args, j_out, j_few, j_cw, j_nat, j_pad, j_exp, Nat.reduceAdd]
  refine ⟨by omega, by omega, ?_⟩
  refine new_X1 hl (by omega) (by omega) (fun h3 C k3 m3 z3 y3 w3 => ?_)
  rw [z2] at k3 m3 z3 ⊢
  have kS : SK h3 (x + 1 + 2) (sReset S) := SK_sm k2 (fun c g1 g2 => m3 c (by omega))
  dsimp only [q_cI3, j_wp, j_opB, j_opA, j_nth, j_i1, j_i2, j_l1, j_l2, j_li, j_f1, j_f2, j_d1, j_d2, j_r1, j_ai, j_aii, j_ail, j_aid, j_air, j_st1, j_st2, j_stu, j_kl, j_cond, j_args, j_out, j_few, j_cw, j_nat, j_pad, j_exp, Nat.reduceAdd]
  refine sp_X1_begin hl (a := x + 1 + 2 + 5) (u := x + 1 + 2) ⟨k3.1, k3.2, Fr_rf, ⟨by omega, by omega⟩⟩ kS (by omega) (fun h4 r4 => ?_)
  obtain ⟨z4, y4, w4⟩ := Fr_z r4.2.2.1
  have fr4 := FG_Fr r4.2.2.1
  have m4 : ∀ c, c < x + 8 → sm h3 h4 c := fun c hc => fr4.2 c (by omega) (by omega)
  have s4 : j_sh h4 x = some (.inr 10) := by rw [(m4 x (by omega)).1, (m3 x (by omega)).1, (m2 x (by omega)).1]; exact s1
  have a4 : LkAt h4 (x + 8) (lBegin (sReset S) C.1, 0, -1, C.2.2.2) := ⟨r4.1, r4.2.1⟩
  have b4 : TX h4 (x + 1) (fun _ => 0) 0 0 (0, 0, 0, 0, -1) := TX_sm x1 (sm_tr (m2 _ (by omega)) (sm_tr (m3 _ (by omega)) (m4 _ (by omega)))) (sm_tr (m2 _ (by omega)) (sm_tr (m3 _ (by omega)) (m4 _ (by omega))))
  have k4 : SK h4 (x + 3) (sReset S) := SK_sm kS (fun c g1 g2 => m4 c (by omega))
  have n4 : ∀ c, c < x → sm h h4 c := fun c hc => sm_tr (m1 c (by omega)) (sm_tr (m2 c (by omega)) (sm_tr (m3 c (by omega)) (m4 c (by omega))))
  dsimp only [q_cI4, j_wp, j_opB, j_opA, j_nth, j_i1, j_i2, j_l1, j_l2, j_li, j_f1, j_f2, j_d1, j_d2, j_r1, j_ai, j_aii, j_ail, j_aid, j_air, j_st1, j_st2, j_stu, j_kl, j_cond, j_args, j_out, j_few, j_cw, j_nat, j_pad, j_exp, Nat.reduceAdd]
  simp only [jh_shR, jh_shI, s4, j_ref, j_ari, j_arb, j_arr, j_len, j_nar, j_oi, j_ol, j_of, j_od, j_or, j_ov, true_and, and_true]
  have p5 : ∀ c, c ≠ x → sm h4 (j_setR (j_setR h4 x 0 (some (x + 1))) x 7 (some (x + 3))) c := fun c hc => sm_tr (sR_sm hc) (sR_sm hc)
  have s5 : j_sh (j_setR (j_setR h4 x 0 (some (x + 1))) x 7 (some (x + 3))) x = some (.inr 10) := s4
  have r5 : ∀ k, j_R (j_setR (j_setR h4 x 0 (some (x + 1))) x 7 (some (x + 3))) x k = if k = 7 then some (x + 3) else if k = 0 then some (x + 1) else j_R h4 x k := fun k => by simp only [jh_R, true_and]
  have z5 : j_z (j_setR (j_setR h4 x 0 (some (x + 1))) x 7 (some (x + 3))) = x + 19 := by show j_z h4 = _; omega
  have y5 : j_c (j_setR (j_setR h4 x 0 (some (x + 1))) x 7 (some (x + 3))) = j_c h + 18 := by show j_c h4 = _; omega
  have w5 : j_k (j_setR (j_setR h4 x 0 (some (x + 1))) x 7 (some (x + 3))) = j_k h + 4889 := by show j_k h4 = _; omega
  generalize j_setR (j_setR h4 x 0 (some (x + 1))) x 7 (some (x + 3)) = h5 at *
  refine ⟨by omega, by omega, ?_⟩
  refine new_X5 hl (by omega) (by omega) (fun h6 S2 k6 m6 z6 y6 w6 => ?_)
  rw [z5] at k6 m6 z6 ⊢
  have s6 : j_sh h6 x = some (.inr 10) := by rw [(m6 x (by omega)).1]; exact s5
  dsimp only [q_cI5, j_wp, j_opB, j_opA, j_nth, j_i1, j_i2, j_l1, j_l2, j_li, j_f1, j_f2, j_d1, j_d2, j_r1, j_ai, j_aii, j_ail, j_aid, j_air, j_st1, j_st2, j_stu, j_kl, j_cond, j_args, j_out, j_few, j_cw, j_nat, j_pad, j_exp, Nat.reduceAdd]
  simp only [jh_shR, jh_shI, s6, j_ref, j_ari, j_arb, j_arr, j_len, j_nar, j_oi, j_ol, j_of, j_od, j_or, j_ov, true_and, and_true]
  have p7 : ∀ c, c ≠ x → sm h6 (j_setR (j_setR h6 x 8 (some (x + 19))) x 2 (some (x + 1 + 2 + 5))) c := fun c hc => sm_tr (sR_sm hc) (sR_sm hc)
  have s7 : j_sh (j_setR (j_setR h6 x 8 (some (x + 19))) x 2 (some (x + 1 + 2 + 5))) x = some (.inr 10) := s6
  have r7 : ∀ k, j_R (j_setR (j_setR h6 x 8 (some (x + 19))) x 2 (some (x + 1 + 2 + 5))) x k = if k = 2 then some (x + 8) else if k = 8 then some (x + 19) else j_R h6 x k := fun k => by simp only [jh_R, true_and]
  have z7 : j_z (j_setR (j_setR h6 x 8 (some (x + 19))) x 2 (some (x + 1 + 2 + 5))) = x + 24 := by show j_z h6 = _; omega
  have y7 : j_c (j_setR (j_setR h6 x 8 (some (x + 19))) x 2 (some (x + 1 + 2 + 5))) = j_c h + 23 := by show j_c h6 = _; omega
  have w7 : j_k (j_setR (j_setR h6 x 8 (some (x + 19))) x 2 (some (x + 1 + 2 + 5))) = j_k h + 5026 := by show j_k h6 = _; omega
  generalize j_setR (j_setR h6 x 8 (some (x + 19))) x 2 (some (x + 1 + 2 + 5)) = h7 at *
  refine ⟨by omega, by omega, ?_⟩
  refine new_X1 hl (by omega) (by omega) (fun h8 C2 k8 m8 z8 y8 w8 => ?_)
  rw [z7] at k8 m8 z8 ⊢
  have s8 : j_sh h8 x = some (.inr 10) := by rw [(m8 x (by omega)).1]; exact s7
  dsimp only [q_cI6, j_wp, j_opB, j_opA, j_nth, j_i1, j_i2, j_l1, j_l2, j_li, j_f1, j_f2, j_d1, j_d2, j_r1, j_ai, j_aii, j_ail, j_aid, j_air, j_st1, j_st2, j_stu, j_kl, j_cond, j_args, j_out, j_few, j_cw, j_nat, j_pad, j_exp, Nat.reduceAdd]
  simp only [jh_shR, jh_shI, s8, j_ref, j_ari, j_arb, j_arr, j_len, j_nar, j_oi, j_ol, j_of, j_od, j_or, j_ov, true_and, and_true]
  have p9 : ∀ c, c ≠ x → sm h8 (j_setR h8 x 3 (some (x + 24))) c := fun c hc => sR_sm hc
  have s9 : j_sh (j_setR h8 x 3 (some (x + 24))) x = some (.inr 10) := s8
  have r9 : ∀ k, j_R (j_setR h8 x 3 (some (x + 24))) x k = if k = 3 then some (x + 24) else j_R h8 x k := fun k => by simp only [jh_R, true_and]
  have z9 : j_z (j_setR h8 x 3 (some (x + 24))) = x + 35 := by show j_z h8 = _; omega
  have y9 : j_c (j_setR h8 x 3 (some (x + 24))) = j_c h + 34 := by show j_c h8 = _; omega
  have w9 : j_k (j_setR h8 x 3 (some (x + 24))) = j_k h + 8970 := by show j_k h8 = _; omega
  generalize j_setR h8 x 3 (some (x + 24)) = h9 at *
  refine ⟨by omega, by omega, ?_⟩
  refine new_X1 hl (by omega) (by omega) (fun h10 C3 k10 m10 z10 y10 w10 => ?_)
  rw [z9] at k10 m10 z10 ⊢
  have s10 : j_sh h10 x = some (.inr 10) := by rw [(m10 x (by omega)).1]; exact s9
  dsimp only [q_cI7, j_wp, j_opB, j_opA, j_nth, j_i1, j_i2, j_l1, j_l2, j_li, j_f1, j_f2, j_d1, j_d2, j_r1, j_ai, j_aii, j_ail, j_aid, j_air, j_st1, j_st2, j_stu, j_kl, j_cond, j_args, j_out, j_few, j_cw, j_nat, j_pad, j_exp, Nat.reduceAdd]
  simp only [jh_shR, jh_shI, s10, j_ref, j_ari, j_arb, j_arr, j_len, j_nar, j_oi, j_ol, j_of, j_od, j_or, j_ov, true_and, and_true]
  refine ⟨Or.inl trivial, ?_⟩
  have p11 : ∀ c, c ≠ x → sm h10 (j_setI (j_setR h10 x 4 (some (x + 35))) x 9 0) c := fun c hc => sm_tr (sR_sm hc) (sI_sm hc)
  have s11 : j_sh (j_setI (j_setR h10 x 4 (some (x + 35))) x 9 0) x = some (.inr 10) := s10
  have i11 : j_I (j_setI (j_setR h10 x 4 (some (x + 35))) x 9 0) x 9 = 0 := jh_Is _ _ _ _
  have r11 : ∀ k, j_R (j_setI (j_setR h10 x 4 (some (x + 35))) x 9 0) x k = if k = 4 then some (x + 35) else j_R h10 x k := fun k => by show j_R (j_setR h10 x 4 (some (x + 35))) x k = _; simp only [jh_R, true_and]
  have z11 : j_z (j_setI (j_setR h10 x 4 (some (x + 35))) x 9 0) = x + 46 := by show j_z h10 = _; omega
  have y11 : j_c (j_setI (j_setR h10 x 4 (some (x + 35))) x 9 0) = j_c h + 45 := by show j_c h10 = _; omega
  have w11 : j_k (j_setI (j_setR h10 x 4 (some (x + 35))) x 9 0) = j_k h + 12914 := by show j_k h10 = _; omega
  generalize j_setI (j_setR h10 x 4 (some (x + 35))) x 9 0 = h11 at *
  refine ⟨by omega, by omega, ?_⟩
  refine new_X0 hl (by omega) (by omega) (fun h12 a12 b12 d12 m12 z12 y12 w12 => ?_)
  rw [z11] at a12 b12 d12 m12 z12 ⊢
  have s12 : j_sh h12 x = some (.inr 10) := by rw [(m12 x (by omega)).1]; exact s11
  have f8 : ∀ c, c ≠ x → c < x + 35 → sm h8 h12 c := fun c hc h2 => sm_tr (p9 c hc) (sm_tr (m10 c (by omega)) (sm_tr (p11 c hc) (m12 c (by omega))))
  have f6 : ∀ c, c ≠ x → c < x + 24 → sm h6 h12 c := fun c hc h2 => sm_tr (p7 c hc) (sm_tr (m8 c (by omega)) (f8 c hc (by omega)))
  have f4 : ∀ c, c ≠ x → c < x + 19 → sm h4 h12 c := fun c hc h2 => sm_tr (p5 c hc) (sm_tr (m6 c (by omega)) (f6 c hc (by omega)))
  have eT : TX h12 (x + 1) (fun _ => 0) 0 0 (0, 0, 0, 0, -1) := TX_sm b4 (f4 _ (by omega) (by omega)) (f4 _ (by omega) (by omega))
  have eL : LkAt h12 (x + 8) (lBegin (sReset S) C.1, 0, -1, C.2.2.2) := LkAt_sm a4 (fun c g1 g2 => f4 c (by omega) (by omega))
  have eS : SK h12 (x + 3) (sReset S) := SK_sm k4 (fun c g1 g2 => f4 c (by omega) (by omega))
  have eZ : SK h12 (x + 19) (sReset S2) := SK_sm k6 (fun c g1 g2 => f6 c (by omega) (by omega))
  have eC2 : LkAt h12 (x + 24) C2 := LkAt_sm k8 (fun c g1 g2 => f8 c (by omega) (by omega))
  have eC3 : LkAt h12 (x + 35) C3 := LkAt_sm k10 (fun c g1 g2 => sm_tr (p11 c (by omega)) (m12 c (by omega)))
  have eN : ∀ c, c < x → sm h h12 c := fun c hc => sm_tr (n4 c hc) (f4 c (by omega) (by omega))
  have e9 : j_I h12 x 9 = 0 := ((m12 x (by omega)).2.2.2.1 9).trans i11
  have eR : ∀ k, j_R h12 x k = if k = 4 then some (x + 35) else if k = 3 then some (x + 24) else if k = 2 then some (x + 8) else if k = 8 then some (x + 19) else if k = 7 then some (x + 3) else if k = 0 then some (x + 1) else j_R h4 x k := fun k => by
    rw [(m12 x (by omega)).2.1, r11, (m10 x (by omega)).2.1, r9, (m8 x (by omega)).2.1, r7, (m6 x (by omega)).2.1, r5]
  have eH : HI h12 (x + 46) (x + 48) 0 0 (fun _ => none) (fun _ => C2) := ⟨a12, ⟨b12 1, by omega⟩, ⟨b12 2, by omega⟩, ⟨by omega, by omega⟩, fun i _ => ⟨d12 i, fun b hb => by cases hb⟩⟩
  exact ci_B hl (R4 := j_R h4 x) c1 c2 s12 eT eL eS eZ eC2 eC3 eN e9 eR eH (by omega) (by omega) (by omega) H
end CI8

/-! ===== QueryReader ===== -/
section Q1
variable (B : Nat → Int32) (len : Nat)
def qCol (p : Tk) : Int32 := if tIsW B p (wd "packet") = true then 11 else if tIsW B p (wd "flow") = true then 0 else if tIsW B p (wd "size") = true then 1 else if tIsW B p (wd "state") = true then 3 else if tIsW B p (wd "tries") = true then 4 else if tIsW B p (wd "arrival") = true then 2 else if tIsW B p (wd "source") = true then 6 else if tIsW B p (wd "target") = true then 7 else if tIsW B p (wd "port") = true then 8 else (-1)
def qVal (p : Tk) : Int32 × Tk := if tkK p = 2 then (-1 - qCol B p, tNext B len (if qCol B p = -1 then tFail p 1 else p)) else tTake B len p 0 999999
def qSgn (p : Tk) : Int32 := if tIsS B p 60 = true then -1 else if tIsS B p 62 = true then 1 else 0
def qCmp (p : Tk) : Int32 × Tk := (qSgn B p, tNext B len (if qSgn B p = 0 then (if tIsS B p 61 = true then p else tFail p 1) else p))
def jcmp (a b : Int32) : Int32 := if a < b then -1 else if a = b then 0 else 1
def vFor (L : Lnk) (i : Nat) (v : Int32) : Int32 := if v < 0 then (if -1 - v = 11 then nI i else lP L i (tn (-1 - v))) else v
def qLeafSet (L : Lnk) (np : Nat) (a s b : Int32) : Nat → Bool := fun i => decide (i < np) && decide (jcmp (vFor L i a) (vFor L i b) = s)
def qLeaf (L : Lnk) (np : Nat) (p : Tk) : Tk × (Nat → Bool) :=
  let y := qVal B len p
  let z := qCmp B len y.2
  let w := qVal B len z.2
  (w.2, qLeafSet L np y.1 z.1 w.1)
def qAnd (f : Tk → Tk × (Nat → Bool)) : Nat → Tk → (Nat → Bool) → Tk × (Nat → Bool)
  | 0, p, P => (p, P)
  | k + 1, p, P => if tIsW B p (wd "and") = true then qAnd f k (f (tNext B len p)).1 (fun i => P i && (f (tNext B len p)).2 i) else (p, P)
def qConj (f : Tk → Tk × (Nat → Bool)) (p : Tk) : Tk × (Nat → Bool) := qAnd B len f 200 (f p).1 (f p).2
def qOr (f : Tk → Tk × (Nat → Bool)) : Nat → Tk → (Nat → Bool) → Tk × (Nat → Bool)
  | 0, p, P => (p, P)
  | k + 1, p, P => if tIsW B p (wd "or") = true then qOr f k (qConj B len f (tNext B len p)).1 (fun i => P i || (qConj B len f (tNext B len p)).2 i) else (p, P)
def qTest (f : Tk → Tk × (Nat → Bool)) (p : Tk) : Tk × (Nat → Bool) := qOr B len f 200 (qConj B len f p).1 (qConj B len f p).2
/-- a factor below which n more may be nested -/
def qFac (L : Lnk) (np : Nat) : Nat → Tk → Tk × (Nat → Bool)
  | 0, p => if tIsW B p (wd "not") = true ∨ tIsS B p 40 = true then (tFail p 3, fun _ => false) else qLeaf B len L np p
  | n + 1, p => if tIsW B p (wd "not") = true then ((qFac L np n (tNext B len p)).1, fun i => !(qFac L np n (tNext B len p)).2 i)
    else if tIsS B p 40 = true then (tSign B len (qTest B len (qFac L np n) (tNext B len p)).1 41, (qTest B len (qFac L np n) (tNext B len p)).2)
    else qLeaf B len L np p
/-- what can still be read -/
def tPhi (p : Tk) : Nat := if tkK p = 0 ∨ tkK p = 5 then 0 else len - tkE p + 1
end Q1
theorem tok_adv {B : Nat → Int32} {len i : Nat} (h : ¬ (tok B len i).1 = 0) : i < (tok B len i).2.2 := by
  unfold tok at h ⊢
  dsimp only at h ⊢
  have h1 := tRun_le (B := B) (len := len) (c := 1) (k := len - i) (i := i)
  generalize tRun B len 1 (len - i) i = s at h h1
  split
  · omega
  · rename_i g
    have hs : s < len := Nat.lt_of_not_le (fun z => h (by unfold kAt; rw [if_neg (by omega)]))
    have e : len - s = (len - s - 1) + 1 := by omega
    rw [e]
    unfold tRun
    rw [if_pos rfl]
    have := tRun_le (B := B) (len := len) (c := kAt B len s) (k := len - s - 1) (i := s + 1)
    omega
theorem phi_fail {len : Nat} {p : Tk} {c : Int32} : tPhi len (tFail p c) = 0 := by
  unfold tPhi tFail
  split
  · rename_i g
    rw [if_pos (Or.inr g)]
  · exact if_pos (Or.inr rfl)
theorem phi_lt {B : Nat → Int32} {len : Nat} {p : Tk} (ok : tkOk len p) (h : ¬ (tkK p = 0 ∨ tkK p = 5)) : tPhi len (tNext B len p) + 1 ≤ tPhi len p := by
  have e : tPhi len p = len - tkE p + 1 := by unfold tPhi; rw [if_neg h]
  rw [e]
  unfold tNext
  rw [if_neg (fun z => h (Or.inr z))]
  unfold tPhi
  split
  · omega
  · rename_i g
    have g' : ¬ (tok B len (tkE p)).1 = 0 := fun z => g (Or.inl z)
    have h1 := tok_adv g'
    have h2 := tok_le (B := B) ok.2.2.1
    show len - (tok B len (tkE p)).2.2 + 1 + 1 ≤ _
    omega
theorem phi_le {B : Nat → Int32} {len : Nat} {p : Tk} (ok : tkOk len p) : tPhi len (tNext B len p) ≤ tPhi len p := by
  by_cases h : tkK p = 0 ∨ tkK p = 5
  · rcases h with h | h
    · have he : tkE p = len := ok.2.2.2.2 h
      unfold tNext
      rw [if_neg (by omega)]
      have e : (tok B len (tkE p)).1 = 0 := by
        rw [he]
        unfold tok
        dsimp only
        rw [Nat.sub_self]
        show kAt B len len = 0
        unfold kAt
        rw [if_neg (Nat.lt_irrefl _)]
      unfold tPhi
      rw [if_pos (show tkK ((tok B len (tkE p)).1, (tok B len (tkE p)).2.1, (tok B len (tkE p)).2.2, tkC p, tkA p) = 0 ∨ _ from Or.inl e)]
      exact Nat.zero_le _
    · unfold tNext
      rw [if_pos h]
      exact Nat.le_refl _
  · have := phi_lt (B := B) ok h
    omega
section Q2
variable {l : Launch} {D : va_G} {bs : Nat} {E : j_E} {h : j_H} {r x a : Nat} {d : Nat} {Q : j_O → j_H → Prop} {B : Nat → Int32} {sz len np : Nat} {p : Tk} {L : Lnk}
/-- a query is being read at r, over the text at x and the link at a -/
def QB (E : j_E) (bs r x a : Nat) (B : Nat → Int32) (sz len : Nat) (L : Lnk) (np : Nat) (p : Tk) (h : j_H) : Prop := j_sh h r = some (.inr 5) ∧ j_R h r 0 = some x ∧ j_R h r 1 = some a ∧ TX h x B sz len p ∧ LK h a L ∧ KS E bs h ∧ tkOk len p ∧ (lX L 9 = nI np ∧ np ≤ 100) ∧ (bs ≤ x ∧ x + 2 ≤ j_z h ∧ a + 11 ≤ j_z h ∧ r < j_z h ∧ r ≠ x ∧ (x + 1 < a ∨ a + 11 ≤ x))
theorem QB_s (s : QB E bs r x a B sz len L np p h) : j_sh h r = some (.inr 5) := s.1
theorem QB_0 (s : QB E bs r x a B sz len L np p h) : j_R h r 0 = some x := s.2.1
theorem QB_1 (s : QB E bs r x a B sz len L np p h) : j_R h r 1 = some a := s.2.2.1
theorem QB_t (s : QB E bs r x a B sz len L np p h) : TX h x B sz len p := s.2.2.2.1
theorem QB_L (s : QB E bs r x a B sz len L np p h) : LK h a L := s.2.2.2.2.1
theorem QB_k (s : QB E bs r x a B sz len L np p h) : KS E bs h := s.2.2.2.2.2.1
theorem QB_o (s : QB E bs r x a B sz len L np p h) : tkOk len p := s.2.2.2.2.2.2.1
theorem QB_x {p' : Tk} {h' : j_H} (s : QB E bs r x a B sz len L np p h) (t : TX h' x B sz len p') (ok : tkOk len p') (f : FQ (fun b => b = x) (j_z h) h h') : QB E bs r x a B sz len L np p' h' := by
  obtain ⟨s1, s2, s3, s4, s5, s6, s7, s8, s9, s10, s11, s12, s13, s14⟩ := s
  have hz := f.1
  have fr := f.2 r s12
  exact ⟨by rw [fr.1]; exact s1, by rw [fr.2.1]; exact s2, by rw [fr.2.1]; exact s3, t, LK_FQ s5 f (fun c g1 g2 => by omega) s11, KS_FQ s6 f (fun b e => by omega) (by omega), ok, s8, s9, by omega, by omega, by omega, s13, s14⟩
theorem QB_f {p' : Tk} {h' : j_H} (s : QB E bs r x a B sz len L np p h) (t : TX h' x B sz len p') (ok : tkOk len p') (f : Fr x (x + 1) h h') : QB E bs r x a B sz len L np p' h' ∧ FQ (fun b => b = x) (j_z h) h h' := by
  have f' : FQ (fun b => b = x) (j_z h) h h' := FQ_Fr f (fun b g1 g2 => by omega) (Nat.le_refl _)
  exact ⟨QB_x s t ok f', f'⟩
theorem qb_isW (hl : l.stackTraces = false) (hJ : JS l D bs E) (s : QB E bs r x a B sz len L np p h) (hB : j_bd E h) (i : Nat) {z : String × Nat × String} (hz : j_strs[i]? = some z) (hi : i < 69) (H : Q (.inl (some (.int (if tIsW B p (wd z.2.2) = true then 1 else 0)))) h) : j_Met l D bs E (d + 4) n_X7_isWord [.ref x, .ref (E.1 i)] h Q :=
  sp_X7_isWord hl hJ (QB_t s) hB (QB_o s) (KS_at (QB_k s) i hz hi) H
theorem sp_X3_namedColumn (hl : l.stackTraces = false) (hJ : JS l D bs E) (s : QB E bs r x a B sz len L np p h) (hB : j_bd E h) (H : Q (.inl (some (.int (qCol B p)))) h) : j_Met l D bs E (d + 5) n_X3_namedColumn [.ref r] h Q := by
  unfold qCol at H
  refine j_meth hl rfl g_X3_namedColumn (Nat.le_of_ble_eq_true rfl) (fun _ => ⟨_, _, rfl, (QB_s s)⟩) hB.1 hB.2 (fun G hG => ?_)
  refine b_X3_namedColumn_0 hG ?_
  dsimp only [q_X3_namedColumn_0, j_wp, j_opB, j_opA, j_nth, j_i1, j_i2, j_l1, j_l2, j_li, j_f1, j_f2, j_d1, j_d2, j_r1, j_ai, j_aii, j_ail, j_aid, j_air, j_st1, j_st2, j_stu, j_kl, j_cond, j_args, j_out, j_few, j_cw, j_nat, j_pad, j_exp, Nat.reduceAdd]
  simp only [QB_s s, QB_0 s, j_ref, j_ari, j_arb, j_arr, j_len, j_nar, j_oi, j_ol, j_of, j_od, j_or, j_ov, true_and, and_true]
  refine qb_isW hl hJ s hB 3 rfl (by omega) ?_
  simp only [j_ref, j_ari, j_arb, j_arr, j_len, j_nar, j_oi, j_ol, j_of, j_od, j_or, j_ov, true_and, and_true]
  by_cases g3 : tIsW B p (wd "packet") = true
  · simp only [g3, if_true] at H ⊢
    rw [if_neg (by decide)]
    exact H
  · simp only [g3, if_false, Bool.false_eq_true, if_true] at H ⊢
    refine b_X3_namedColumn_15 hG ?_
    dsimp only [q_X3_namedColumn_15, j_wp, j_opB, j_opA, j_nth, j_i1, j_i2, j_l1, j_l2, j_li, j_f1, j_f2, j_d1, j_d2, j_r1, j_ai, j_aii, j_ail, j_aid, j_air, j_st1, j_st2, j_stu, j_kl, j_cond, j_args, j_out, j_few, j_cw, j_nat, j_pad, j_exp, Nat.reduceAdd]
    simp only [QB_s s, QB_0 s, j_ref, j_ari, j_arb, j_arr, j_len, j_nar, j_oi, j_ol, j_of, j_od, j_or, j_ov, true_and, and_true]
    refine qb_isW hl hJ s hB 4 rfl (by omega) ?_
    simp only [j_ref, j_ari, j_arb, j_arr, j_len, j_nar, j_oi, j_ol, j_of, j_od, j_or, j_ov, true_and, and_true]
    by_cases g4 : tIsW B p (wd "flow") = true
    · simp only [g4, if_true] at H ⊢
      rw [if_neg (by decide)]
      exact H
    · simp only [g4, if_false, Bool.false_eq_true, if_true] at H ⊢
      refine b_X3_namedColumn_29 hG ?_
      dsimp only [q_X3_namedColumn_29, j_wp, j_opB, j_opA, j_nth, j_i1, j_i2, j_l1, j_l2, j_li, j_f1, j_f2, j_d1, j_d2, j_r1, j_ai, j_aii, j_ail, j_aid, j_air, j_st1, j_st2, j_stu, j_kl, j_cond, j_args, j_out, j_few, j_cw, j_nat, j_pad, j_exp, Nat.reduceAdd]
      simp only [QB_s s, QB_0 s, j_ref, j_ari, j_arb, j_arr, j_len, j_nar, j_oi, j_ol, j_of, j_od, j_or, j_ov, true_and, and_true]
      refine qb_isW hl hJ s hB 5 rfl (by omega) ?_
      simp only [j_ref, j_ari, j_arb, j_arr, j_len, j_nar, j_oi, j_ol, j_of, j_od, j_or, j_ov, true_and, and_true]
      by_cases g5 : tIsW B p (wd "size") = true
      · simp only [g5, if_true] at H ⊢
        rw [if_neg (by decide)]
        exact H
      · simp only [g5, if_false, Bool.false_eq_true, if_true] at H ⊢
        refine b_X3_namedColumn_43 hG ?_
        dsimp only [q_X3_namedColumn_43, j_wp, j_opB, j_opA, j_nth, j_i1, j_i2, j_l1, j_l2, j_li, j_f1, j_f2, j_d1, j_d2, j_r1, j_ai, j_aii, j_ail, j_aid, j_air, j_st1, j_st2, j_stu, j_kl, j_cond, j_args, j_out, j_few, j_cw, j_nat, j_pad, j_exp, Nat.reduceAdd]
        simp only [QB_s s, QB_0 s, j_ref, j_ari, j_arb, j_arr, j_len, j_nar, j_oi, j_ol, j_of, j_od, j_or, j_ov, true_and, and_true]
        refine qb_isW hl hJ s hB 6 rfl (by omega) ?_
        simp only [j_ref, j_ari, j_arb, j_arr, j_len, j_nar, j_oi, j_ol, j_of, j_od, j_or, j_ov, true_and, and_true]
        by_cases g6 : tIsW B p (wd "state") = true
        · simp only [g6, if_true] at H ⊢
          rw [if_neg (by decide)]
          exact H
        · simp only [g6, if_false, Bool.false_eq_true, if_true] at H ⊢
          refine b_X3_namedColumn_57 hG ?_
          dsimp only [q_X3_namedColumn_57, j_wp, j_opB, j_opA, j_nth, j_i1, j_i2, j_l1, j_l2, j_li, j_f1, j_f2, j_d1, j_d2, j_r1, j_ai, j_aii, j_ail, j_aid, j_air, j_st1, j_st2, j_stu, j_kl, j_cond, j_args, j_out, j_few, j_cw, j_nat, j_pad, j_exp, Nat.reduceAdd]
          simp only [QB_s s, QB_0 s, j_ref, j_ari, j_arb, j_arr, j_len, j_nar, j_oi, j_ol, j_of, j_od, j_or, j_ov, true_and, and_true]
          refine qb_isW hl hJ s hB 7 rfl (by omega) ?_
          simp only [j_ref, j_ari, j_arb, j_arr, j_len, j_nar, j_oi, j_ol, j_of, j_od, j_or, j_ov, true_and, and_true]
          by_cases g7 : tIsW B p (wd "tries") = true
          · simp only [g7, if_true] at H ⊢
            rw [if_neg (by decide)]
            exact H
          · simp only [g7, if_false, Bool.false_eq_true, if_true] at H ⊢
            refine b_X3_namedColumn_71 hG ?_
            dsimp only [q_X3_namedColumn_71, j_wp, j_opB, j_opA, j_nth, j_i1, j_i2, j_l1, j_l2, j_li, j_f1, j_f2, j_d1, j_d2, j_r1, j_ai, j_aii, j_ail, j_aid, j_air, j_st1, j_st2, j_stu, j_kl, j_cond, j_args, j_out, j_few, j_cw, j_nat, j_pad, j_exp, Nat.reduceAdd]
            simp only [QB_s s, QB_0 s, j_ref, j_ari, j_arb, j_arr, j_len, j_nar, j_oi, j_ol, j_of, j_od, j_or, j_ov, true_and, and_true]
            refine qb_isW hl hJ s hB 8 rfl (by omega) ?_
            simp only [j_ref, j_ari, j_arb, j_arr, j_len, j_nar, j_oi, j_ol, j_of, j_od, j_or, j_ov, true_and, and_true]
            by_cases g8 : tIsW B p (wd "arrival") = true
            · simp only [g8, if_true] at H ⊢
              rw [if_neg (by decide)]
              exact H
            · simp only [g8, if_false, Bool.false_eq_true, if_true] at H ⊢
              refine b_X3_namedColumn_85 hG ?_
              dsimp only [q_X3_namedColumn_85, j_wp, j_opB, j_opA, j_nth, j_i1, j_i2, j_l1, j_l2, j_li, j_f1, j_f2, j_d1, j_d2, j_r1, j_ai, j_aii, j_ail, j_aid, j_air, j_st1, j_st2, j_stu, j_kl, j_cond, j_args, j_out, j_few, j_cw, j_nat, j_pad, j_exp, Nat.reduceAdd]
              simp only [QB_s s, QB_0 s, j_ref, j_ari, j_arb, j_arr, j_len, j_nar, j_oi, j_ol, j_of, j_od, j_or, j_ov, true_and, and_true]
              refine qb_isW hl hJ s hB 9 rfl (by omega) ?_
              simp only [j_ref, j_ari, j_arb, j_arr, j_len, j_nar, j_oi, j_ol, j_of, j_od, j_or, j_ov, true_and, and_true]
              by_cases g9 : tIsW B p (wd "source") = true
              · simp only [g9, if_true] at H ⊢
                rw [if_neg (by decide)]
                exact H
              · simp only [g9, if_false, Bool.false_eq_true, if_true] at H ⊢
                refine b_X3_namedColumn_100 hG ?_
                dsimp only [q_X3_namedColumn_100, j_wp, j_opB, j_opA, j_nth, j_i1, j_i2, j_l1, j_l2, j_li, j_f1, j_f2, j_d1, j_d2, j_r1, j_ai, j_aii, j_ail, j_aid, j_air, j_st1, j_st2, j_stu, j_kl, j_cond, j_args, j_out, j_few, j_cw, j_nat, j_pad, j_exp, Nat.reduceAdd]
                simp only [QB_s s, QB_0 s, j_ref, j_ari, j_arb, j_arr, j_len, j_nar, j_oi, j_ol, j_of, j_od, j_or, j_ov, true_and, and_true]
                refine qb_isW hl hJ s hB 10 rfl (by omega) ?_
                simp only [j_ref, j_ari, j_arb, j_arr, j_len, j_nar, j_oi, j_ol, j_of, j_od, j_or, j_ov, true_and, and_true]
                by_cases g10 : tIsW B p (wd "target") = true
                · simp only [g10, if_true] at H ⊢
                  rw [if_neg (by decide)]
                  exact H
                · simp only [g10, if_false, Bool.false_eq_true, if_true] at H ⊢
                  refine b_X3_namedColumn_115 hG ?_
                  dsimp only [q_X3_namedColumn_115, j_wp, j_opB, j_opA, j_nth, j_i1, j_i2, j_l1, j_l2, j_li, j_f1, j_f2, j_d1, j_d2, j_r1, j_ai, j_aii, j_ail, j_aid, j_air, j_st1, j_st2, j_stu, j_kl, j_cond, j_args, j_out, j_few, j_cw, j_nat, j_pad, j_exp, Nat.reduceAdd]
                  simp only [QB_s s, QB_0 s, j_ref, j_ari, j_arb, j_arr, j_len, j_nar, j_oi, j_ol, j_of, j_od, j_or, j_ov, true_and, and_true]
                  refine qb_isW hl hJ s hB 11 rfl (by omega) ?_
                  simp only [j_ref, j_ari, j_arb, j_arr, j_len, j_nar, j_oi, j_ol, j_of, j_od, j_or, j_ov, true_and, and_true]
                  by_cases g11 : tIsW B p (wd "port") = true
                  · simp only [g11, if_true] at H ⊢
                    rw [if_neg (by decide)]
                    refine b_X3_namedColumn_133 hG ?_
                    dsimp only [q_X3_namedColumn_133, j_wp, j_opB, j_opA, j_nth, j_i1, j_i2, j_l1, j_l2, j_li, j_f1, j_f2, j_d1, j_d2, j_r1, j_ai, j_aii, j_ail, j_aid, j_air, j_st1, j_st2, j_stu, j_kl, j_cond, j_args, j_out, j_few, j_cw, j_nat, j_pad, j_exp, Nat.reduceAdd]
                    exact ⟨trivial, H⟩
                  · simp only [g11, if_false, Bool.false_eq_true, if_true] at H ⊢
                    refine b_X3_namedColumn_132 hG ?_
                    dsimp only [q_X3_namedColumn_132, j_wp, j_opB, j_opA, j_nth, j_i1, j_i2, j_l1, j_l2, j_li, j_f1, j_f2, j_d1, j_d2, j_r1, j_ai, j_aii, j_ail, j_aid, j_air, j_st1, j_st2, j_stu, j_kl, j_cond, j_args, j_out, j_few, j_cw, j_nat, j_pad, j_exp, Nat.reduceAdd]
                    refine b_X3_namedColumn_133 hG ?_
                    dsimp only [q_X3_namedColumn_133, j_wp, j_opB, j_opA, j_nth, j_i1, j_i2, j_l1, j_l2, j_li, j_f1, j_f2, j_d1, j_d2, j_r1, j_ai, j_aii, j_ail, j_aid, j_air, j_st1, j_st2, j_stu, j_kl, j_cond, j_args, j_out, j_few, j_cw, j_nat, j_pad, j_exp, Nat.reduceAdd]
                    exact ⟨trivial, H⟩
theorem qVal_ok {B : Nat → Int32} {len : Nat} {p : Tk} (h : tkOk len p) : tkOk len (qVal B len p).2 := by
  unfold qVal
  split
  · show tkOk len (tNext B len (if qCol B p = -1 then tFail p 1 else p))
    split
    · exact tNext_ok (tFail_ok h)
    · exact tNext_ok h
  · exact tTake_ok h
theorem qCmp_ok {B : Nat → Int32} {len : Nat} {p : Tk} (h : tkOk len p) : tkOk len (qCmp B len p).2 := by
  unfold qCmp
  show tkOk len (tNext B len (if qSgn B p = 0 then (if tIsS B p 61 = true then p else tFail p 1) else p))
  split
  · split
    · exact tNext_ok h
    · exact tNext_ok (tFail_ok h)
  · exact tNext_ok h
theorem sp_X3_readValue (hl : l.stackTraces = false) (hJ : JS l D bs E) (s : QB E bs r x a B sz len L np p h) (hB : j_bd E h) (H : ∀ h', QB E bs r x a B sz len L np (qVal B len p).2 h' → Fr x (x + 1) h h' → Q (.inl (some (.int (qVal B len p).1))) h') : j_Met l D bs E (d + 6) n_X3_readValue [.ref r] h Q := by
  have hk := (QB_o s).1
  have okv := qVal_ok (B := B) (QB_o s)
  unfold qVal at H okv
  refine j_meth hl rfl g_X3_readValue (Nat.le_of_ble_eq_true rfl) (fun _ => ⟨_, _, rfl, (QB_s s)⟩) hB.1 hB.2 (fun G hG => ?_)
  refine b_X3_readValue_0 hG ?_
  dsimp only [q_X3_readValue_0, j_wp, j_opB, j_opA, j_nth, j_i1, j_i2, j_l1, j_l2, j_li, j_f1, j_f2, j_d1, j_d2, j_r1, j_ai, j_aii, j_ail, j_aid, j_air, j_st1, j_st2, j_stu, j_kl, j_cond, j_args, j_out, j_few, j_cw, j_nat, j_pad, j_exp, Nat.reduceAdd]
  simp only [QB_s s, QB_0 s, TX_sh (QB_t s), TX_3 (QB_t s), j_ref, j_ari, j_arb, j_arr, j_len, j_nar, j_oi, j_ol, j_of, j_od, j_or, j_ov, true_and, and_true]
  by_cases g : tkK p = 2
  · rw [if_pos g] at H okv
    rw [if_pos (show nI (tkK p) = 2 by rw [g]; decide)]
    refine b_X3_readValue_22 hG ?_
    dsimp only [q_X3_readValue_22, j_wp, j_opB, j_opA, j_nth, j_i1, j_i2, j_l1, j_l2, j_li, j_f1, j_f2, j_d1, j_d2, j_r1, j_ai, j_aii, j_ail, j_aid, j_air, j_st1, j_st2, j_stu, j_kl, j_cond, j_args, j_out, j_few, j_cw, j_nat, j_pad, j_exp, Nat.reduceAdd]
    refine sp_X3_namedColumn hl hJ s hB ?_
    simp only [j_ref, j_ari, j_arb, j_arr, j_len, j_nar, j_oi, j_ol, j_of, j_od, j_or, j_ov, true_and, and_true, j_st1]
    by_cases g2 : qCol B p = -1
    · simp only [g2, if_true] at H okv ⊢
      simp only [QB_s s, QB_0 s, j_ref, j_ari, j_arb, j_arr, j_len, j_nar, j_oi, j_ol, j_of, j_od, j_or, j_ov, true_and, and_true]
      refine sp_X7_fail hl (QB_t s) hB (QB_o s) (fun h1 t1 f1 => ?_)
      have s1 := (QB_f s t1 (tFail_ok (QB_o s)) f1).1
      simp only [j_ref, j_ari, j_arb, j_arr, j_len, j_nar, j_oi, j_ol, j_of, j_od, j_or, j_ov, true_and, and_true]
      refine b_X3_readValue_40 hG ?_
      dsimp only [q_X3_readValue_40, j_wp, j_opB, j_opA, j_nth, j_i1, j_i2, j_l1, j_l2, j_li, j_f1, j_f2, j_d1, j_d2, j_r1, j_ai, j_aii, j_ail, j_aid, j_air, j_st1, j_st2, j_stu, j_kl, j_cond, j_args, j_out, j_few, j_cw, j_nat, j_pad, j_exp, Nat.reduceAdd]
      simp only [QB_s s1, QB_0 s1, j_ref, j_ari, j_arb, j_arr, j_len, j_nar, j_oi, j_ol, j_of, j_od, j_or, j_ov, true_and, and_true]
      refine sp_X7_next hl t1 (Fr_bd f1 hB) (tFail_ok (QB_o s)) (fun h2 t2 f2 => ?_)
      simp only [j_ref, j_ari, j_arb, j_arr, j_len, j_nar, j_oi, j_ol, j_of, j_od, j_or, j_ov, true_and, and_true]
      exact H h2 (QB_f s1 t2 okv f2).1 (Fr_tr f1 f2)
    · simp only [g2, if_false] at H okv ⊢
      refine b_X3_readValue_40 hG ?_
      dsimp only [q_X3_readValue_40, j_wp, j_opB, j_opA, j_nth, j_i1, j_i2, j_l1, j_l2, j_li, j_f1, j_f2, j_d1, j_d2, j_r1, j_ai, j_aii, j_ail, j_aid, j_air, j_st1, j_st2, j_stu, j_kl, j_cond, j_args, j_out, j_few, j_cw, j_nat, j_pad, j_exp, Nat.reduceAdd]
      simp only [QB_s s, QB_0 s, j_ref, j_ari, j_arb, j_arr, j_len, j_nar, j_oi, j_ol, j_of, j_od, j_or, j_ov, true_and, and_true]
      refine sp_X7_next hl (QB_t s) hB (QB_o s) (fun h2 t2 f2 => ?_)
      simp only [j_ref, j_ari, j_arb, j_arr, j_len, j_nar, j_oi, j_ol, j_of, j_od, j_or, j_ov, true_and, and_true]
      exact H h2 (QB_f s t2 okv f2).1 f2
  · rw [if_neg g] at H okv
    rw [if_neg (show ¬ nI (tkK p) = 2 from fun z => g ((nI_eq (by omega) (by omega)).mp (show nI (tkK p) = nI 2 from z)))]
    refine sp_X7_takeNumber hl (QB_t s) hB (QB_o s) (fun h2 t2 f2 => ?_)
    simp only [j_ref, j_ari, j_arb, j_arr, j_len, j_nar, j_oi, j_ol, j_of, j_od, j_or, j_ov, true_and, and_true]
    exact H h2 (QB_f s t2 okv f2).1 f2
theorem sp_X3_readComparison (hl : l.stackTraces = false) (s : QB E bs r x a B sz len L np p h) (hB : j_bd E h) (H : ∀ h', QB E bs r x a B sz len L np (qCmp B len p).2 h' → Fr x (x + 1) h h' → Q (.inl (some (.int (qCmp B len p).1))) h') : j_Met l D bs E (d + 3) n_X3_readComparison [.ref r] h Q := by
  have okv := qCmp_ok (B := B) (QB_o s)
  unfold qCmp at H okv
  dsimp only at H okv
  refine j_meth hl rfl g_X3_readComparison (Nat.le_of_ble_eq_true rfl) (fun _ => ⟨_, _, rfl, (QB_s s)⟩) hB.1 hB.2 (fun G hG => ?_)
  have fin : ∀ (c : Int32) (p1 : Tk) (h1 : j_H), QB E bs r x a B sz len L np p1 h1 → Fr x (x + 1) h h1 → (∀ h', QB E bs r x a B sz len L np (tNext B len p1) h' → Fr x (x + 1) h h' → Q (.inl (some (.int c))) h') → G 58 [.ref r, .int c] [] h1 := by
    intro c p1 h1 s1 f1 H
    refine b_X3_readComparison_58 hG ?_
    dsimp only [q_X3_readComparison_58, j_wp, j_opB, j_opA, j_nth, j_i1, j_i2, j_l1, j_l2, j_li, j_f1, j_f2, j_d1, j_d2, j_r1, j_ai, j_aii, j_ail, j_aid, j_air, j_st1, j_st2, j_stu, j_kl, j_cond, j_args, j_out, j_few, j_cw, j_nat, j_pad, j_exp, Nat.reduceAdd]
    simp only [QB_s s1, QB_0 s1, j_ref, j_ari, j_arb, j_arr, j_len, j_nar, j_oi, j_ol, j_of, j_od, j_or, j_ov, true_and, and_true]
    refine sp_X7_next hl (QB_t s1) (Fr_bd f1 hB) (QB_o s1) (fun h2 t2 f2 => ?_)
    simp only [j_ref, j_ari, j_arb, j_arr, j_len, j_nar, j_oi, j_ol, j_of, j_od, j_or, j_ov, true_and, and_true]
    exact H h2 (QB_f s1 t2 (tNext_ok (QB_o s1)) f2).1 (Fr_tr f1 f2)
  have mid : G 33 [.ref r, j_u] [.int (qSgn B p)] h := by
    refine b_X3_readComparison_33 hG ?_
    dsimp only [q_X3_readComparison_33, j_wp, j_opB, j_opA, j_nth, j_i1, j_i2, j_l1, j_l2, j_li, j_f1, j_f2, j_d1, j_d2, j_r1, j_ai, j_aii, j_ail, j_aid, j_air, j_st1, j_st2, j_stu, j_kl, j_cond, j_args, j_out, j_few, j_cw, j_nat, j_pad, j_exp, Nat.reduceAdd]
    by_cases g : qSgn B p = 0
    · rw [if_pos g] at H ⊢
      simp only [QB_s s, QB_0 s, j_ref, j_ari, j_arb, j_arr, j_len, j_nar, j_oi, j_ol, j_of, j_od, j_or, j_ov, true_and, and_true]
      refine sp_X7_isSign hl (QB_t s) hB (QB_o s) (c := 61) ?_
      simp only [j_ref, j_ari, j_arb, j_arr, j_len, j_nar, j_oi, j_ol, j_of, j_od, j_or, j_ov, true_and, and_true]
      by_cases g2 : tIsS B p 61 = true
      · simp only [g2, if_true] at H ⊢
        rw [if_neg (by decide)]
        exact fin _ p h s Fr_rf H
      · simp only [g2, if_false, Bool.false_eq_true, if_true] at H ⊢
        simp only [QB_s s, QB_0 s, j_ref, j_ari, j_arb, j_arr, j_len, j_nar, j_oi, j_ol, j_of, j_od, j_or, j_ov, true_and, and_true]
        refine sp_X7_fail hl (QB_t s) hB (QB_o s) (fun h1 t1 f1 => ?_)
        simp only [j_ref, j_ari, j_arb, j_arr, j_len, j_nar, j_oi, j_ol, j_of, j_od, j_or, j_ov, true_and, and_true]
        exact fin _ _ h1 (QB_f s t1 (tFail_ok (QB_o s)) f1).1 f1 H
    · rw [if_neg g] at H ⊢
      exact fin _ p h s Fr_rf H
  unfold qSgn at mid
  refine b_X3_readComparison_0 hG ?_
  dsimp only [q_X3_readComparison_0, j_wp, j_opB, j_opA, j_nth, j_i1, j_i2, j_l1, j_l2, j_li, j_f1, j_f2, j_d1, j_d2, j_r1, j_ai, j_aii, j_ail, j_aid, j_air, j_st1, j_st2, j_stu, j_kl, j_cond, j_args, j_out, j_few, j_cw, j_nat, j_pad, j_exp, Nat.reduceAdd]
  simp only [QB_s s, QB_0 s, j_ref, j_ari, j_arb, j_arr, j_len, j_nar, j_oi, j_ol, j_of, j_od, j_or, j_ov, true_and, and_true]
  refine sp_X7_isSign hl (QB_t s) hB (QB_o s) (c := 60) ?_
  simp only [j_ref, j_ari, j_arb, j_arr, j_len, j_nar, j_oi, j_ol, j_of, j_od, j_or, j_ov, true_and, and_true]
  by_cases g1 : tIsS B p 60 = true
  · simp only [g1, if_true] at mid ⊢
    rw [if_neg (by decide)]
    exact mid
  · simp only [g1, if_false, Bool.false_eq_true, if_true] at mid ⊢
    refine b_X3_readComparison_16 hG ?_
    dsimp only [q_X3_readComparison_16, j_wp, j_opB, j_opA, j_nth, j_i1, j_i2, j_l1, j_l2, j_li, j_f1, j_f2, j_d1, j_d2, j_r1, j_ai, j_aii, j_ail, j_aid, j_air, j_st1, j_st2, j_stu, j_kl, j_cond, j_args, j_out, j_few, j_cw, j_nat, j_pad, j_exp, Nat.reduceAdd]
    simp only [QB_s s, QB_0 s, j_ref, j_ari, j_arb, j_arr, j_len, j_nar, j_oi, j_ol, j_of, j_od, j_or, j_ov, true_and, and_true]
    refine sp_X7_isSign hl (QB_t s) hB (QB_o s) (c := 62) ?_
    simp only [j_ref, j_ari, j_arb, j_arr, j_len, j_nar, j_oi, j_ol, j_of, j_od, j_or, j_ov, true_and, and_true]
    by_cases g2 : tIsS B p 62 = true
    · simp only [g2, if_true] at mid ⊢
      rw [if_neg (by decide)]
      exact mid
    · simp only [g2, if_false, Bool.false_eq_true, if_true] at mid ⊢
      refine b_X3_readComparison_32 hG ?_
      dsimp only [q_X3_readComparison_32, j_wp, j_opB, j_opA, j_nth, j_i1, j_i2, j_l1, j_l2, j_li, j_f1, j_f2, j_d1, j_d2, j_r1, j_ai, j_aii, j_ail, j_aid, j_air, j_st1, j_st2, j_stu, j_kl, j_cond, j_args, j_out, j_few, j_cw, j_nat, j_pad, j_exp, Nat.reduceAdd]
      exact mid
/-- a value as readValue gives it -/
def vOk (v : Int32) : Prop := ¬ v < 0 ∨ ∃ c, c ≤ 11 ∧ v = -1 - nI c
theorem neg1 : ∀ c : Fin 12, (-1 - nI c.1 < 0) ∧ (-1 - (-1 - nI c.1) = nI c.1) := by decide +kernel
theorem qCol_ok (B : Nat → Int32) (p : Tk) : qCol B p = -1 ∨ ∃ c, c ≤ 11 ∧ qCol B p = nI c := by
  unfold qCol
  split
  · exact Or.inr ⟨11, by omega, rfl⟩
  · split
    · exact Or.inr ⟨0, by omega, rfl⟩
    · split
      · exact Or.inr ⟨1, by omega, rfl⟩
      · split
        · exact Or.inr ⟨3, by omega, rfl⟩
        · split
          · exact Or.inr ⟨4, by omega, rfl⟩
          · split
            · exact Or.inr ⟨2, by omega, rfl⟩
            · split
              · exact Or.inr ⟨6, by omega, rfl⟩
              · split
                · exact Or.inr ⟨7, by omega, rfl⟩
                · split
                  · exact Or.inr ⟨8, by omega, rfl⟩
                  · exact Or.inl rfl
theorem qVal_v {B : Nat → Int32} {len : Nat} {p : Tk} : vOk (qVal B len p).1 := by
  unfold qVal
  split
  · show vOk (-1 - qCol B p)
    rcases qCol_ok B p with e | ⟨c, hc, e⟩
    · rw [e]; exact Or.inl (by decide)
    · rw [e]; exact Or.inr ⟨c, hc, rfl⟩
  · unfold tTake
    split
    · split
      · exact Or.inl (by show ¬ (0 : Int32) < 0; decide)
      · rename_i g
        exact Or.inl (fun z => g (Or.inl z))
    · exact Or.inl (by show ¬ (0 : Int32) < 0; decide)
theorem nI_11 : nI 11 = 11 := by decide +kernel
theorem vFor_neg {v : Int32} {i c : Nat} (g : v < 0) (e : -1 - v = nI c) (hc : c < 2 ^ 31) : vFor L i v = if nI c = 11 then nI i else lP L i c := by
  unfold vFor
  rw [if_pos g, e, show tn (nI c) = c from nI_clamp hc]
theorem q_vF : ∃ tl : List j_N, tl = [(.istore_n 3, 1, 3, 0, .null), (.iload_n 3, 1, 3, 0, .null), (.bipush 11, 2, 0, 0, .int (11)), (.if_icmp .ne 7, 3, 20, 0, .null), (.iload_n 1, 1, 1, 0, .null), (.goto 15, 3, 32, 0, .null)] ∧ q_X3_valueFor_6 = (.iconst (-1), 1, 0, 0, .int (-1)) :: (.iload_n 2, 1, 2, 0, .null) :: (.isub, 1, 0, 0, .null) :: tl := ⟨_, rfl, rfl⟩
theorem sp_X3_valueFor (hl : l.stackTraces = false) (s : QB E bs r x a B sz len L np p h) (hB : j_bd E h) {i : Nat} {v : Int32} (hi : i < 100) (hv : vOk v) (H : Q (.inl (some (.int (vFor L i v)))) h) : j_Met l D bs E (d + 2) n_X3_valueFor [.ref r, .int (nI i), .int v] h Q := by
  refine j_meth hl rfl g_X3_valueFor (Nat.le_of_ble_eq_true rfl) (fun _ => ⟨_, _, rfl, (QB_s s)⟩) hB.1 hB.2 (fun G hG => ?_)
  have neg : ∀ c : Nat, c ≤ 11 → Q (.inl (some (.int (if nI c = 11 then nI i else lP L i c)))) h → -1 - v = nI c → G 6 [.ref r, .int (nI i), .int v, j_u] [] h := by
    intro c hc H e0
    obtain ⟨tl, htl, eq⟩ := q_vF
    refine b_X3_valueFor_6 hG ?_
    rw [eq]
    dsimp only [j_wp, j_opB, j_opA, j_nth, j_i1, j_i2, j_l1, j_l2, j_li, j_f1, j_f2, j_d1, j_d2, j_r1, j_ai, j_aii, j_ail, j_aid, j_air, j_st1, j_st2, j_stu, j_kl, j_cond, j_args, j_out, j_few, j_cw, j_nat, j_pad, j_exp, Nat.reduceAdd]
    rw [e0]
    clear e0 eq
    subst htl
    dsimp only [j_wp, j_opB, j_opA, j_nth, j_i1, j_i2, j_l1, j_l2, j_li, j_f1, j_f2, j_d1, j_d2, j_r1, j_ai, j_aii, j_ail, j_aid, j_air, j_st1, j_st2, j_stu, j_kl, j_cond, j_args, j_out, j_few, j_cw, j_nat, j_pad, j_exp, Nat.reduceAdd]
    by_cases g2 : nI c = 11
    · rw [if_pos g2] at H ⊢
      refine b_X3_valueFor_32 hG ?_
      dsimp only [q_X3_valueFor_32, j_wp, j_opB, j_opA, j_nth, j_i1, j_i2, j_l1, j_l2, j_li, j_f1, j_f2, j_d1, j_d2, j_r1, j_ai, j_aii, j_ail, j_aid, j_air, j_st1, j_st2, j_stu, j_kl, j_cond, j_args, j_out, j_few, j_cw, j_nat, j_pad, j_exp, Nat.reduceAdd]
      exact ⟨trivial, H⟩
    · rw [if_neg g2] at H ⊢
      have hc2 : c < 11 := Nat.lt_of_le_of_ne hc (fun z => g2 (by rw [z]; exact nI_11))
      refine b_X3_valueFor_20 hG ?_
      dsimp only [q_X3_valueFor_20, j_wp, j_opB, j_opA, j_nth, j_i1, j_i2, j_l1, j_l2, j_li, j_f1, j_f2, j_d1, j_d2, j_r1, j_ai, j_aii, j_ail, j_aid, j_air, j_st1, j_st2, j_stu, j_kl, j_cond, j_args, j_out, j_few, j_cw, j_nat, j_pad, j_exp, Nat.reduceAdd]
      simp only [QB_s s, QB_1 s, LB_sh (QB_L s), LB_R2 (QB_L s), j_ref, j_ari, j_arb, j_arr, j_len, j_nar, j_oi, j_ol, j_of, j_od, j_or, j_ov, true_and, and_true]
      refine lp_get (h0 := h) hl ⟨QB_L s, Fr_rf, hB⟩ hi (k := c) hc2 ?_
      simp only [j_ref, j_ari, j_arb, j_arr, j_len, j_nar, j_oi, j_ol, j_of, j_od, j_or, j_ov, true_and, and_true]
      refine b_X3_valueFor_32 hG ?_
      dsimp only [q_X3_valueFor_32, j_wp, j_opB, j_opA, j_nth, j_i1, j_i2, j_l1, j_l2, j_li, j_f1, j_f2, j_d1, j_d2, j_r1, j_ai, j_aii, j_ail, j_aid, j_air, j_st1, j_st2, j_stu, j_kl, j_cond, j_args, j_out, j_few, j_cw, j_nat, j_pad, j_exp, Nat.reduceAdd]
      exact ⟨trivial, H⟩
  refine b_X3_valueFor_0 hG ?_
  dsimp only [q_X3_valueFor_0, j_wp, j_opB, j_opA, j_nth, j_i1, j_i2, j_l1, j_l2, j_li, j_f1, j_f2, j_d1, j_d2, j_r1, j_ai, j_aii, j_ail, j_aid, j_air, j_st1, j_st2, j_stu, j_kl, j_cond, j_args, j_out, j_few, j_cw, j_nat, j_pad, j_exp, Nat.reduceAdd]
  by_cases g : v < 0
  · rw [if_pos g]
    rcases hv with hv | ⟨c, hc, hv⟩
    · exact absurd g hv
    · have e : -1 - v = nI c := by rw [hv]; exact (neg1 ⟨c, by omega⟩).2
      rw [vFor_neg g e (by omega)] at H
      exact neg c hc H e
  · rw [if_neg g]
    have ev : vFor L i v = v := by unfold vFor; rw [if_neg g]
    rw [ev] at H
    exact ⟨trivial, H⟩
theorem sp_J6_compare (hl : l.stackTraces = false) {u v : Int32} (hB : j_bd E h) (H : Q (.inl (some (.int (jcmp u v)))) h) : j_Met l D bs E (d + 1) n_J6_compare_7cf53 [.int u, .int v] h Q := by
  unfold jcmp at H
  refine j_methF hl rfl g_J6_compare_7cf53 (Nat.le_of_ble_eq_true rfl) (fun z => absurd z (by decide)) hB.1 hB.2 (fun G hG => ?_)
  refine b_J6_compare_7cf53_0 hG ?_
  dsimp only [q_J6_compare_7cf53_0, j_wp, j_opB, j_opA, j_nth, j_i1, j_i2, j_l1, j_l2, j_li, j_f1, j_f2, j_d1, j_d2, j_r1, j_ai, j_aii, j_ail, j_aid, j_air, j_st1, j_st2, j_stu, j_kl, j_cond, j_args, j_out, j_few, j_cw, j_nat, j_pad, j_exp, Nat.reduceAdd]
  by_cases g : u < v
  · rw [if_pos g] at H ⊢
    refine b_J6_compare_7cf53_19 hG ?_
    dsimp only [q_J6_compare_7cf53_19, j_wp, j_opB, j_opA, j_nth, j_i1, j_i2, j_l1, j_l2, j_li, j_f1, j_f2, j_d1, j_d2, j_r1, j_ai, j_aii, j_ail, j_aid, j_air, j_st1, j_st2, j_stu, j_kl, j_cond, j_args, j_out, j_few, j_cw, j_nat, j_pad, j_exp, Nat.reduceAdd]
    exact ⟨trivial, H⟩
  · rw [if_neg g] at H ⊢
    refine b_J6_compare_7cf53_9 hG ?_
    dsimp only [q_J6_compare_7cf53_9, j_wp, j_opB, j_opA, j_nth, j_i1, j_i2, j_l1, j_l2, j_li, j_f1, j_f2, j_d1, j_d2, j_r1, j_ai, j_aii, j_ail, j_aid, j_air, j_st1, j_st2, j_stu, j_kl, j_cond, j_args, j_out, j_few, j_cw, j_nat, j_pad, j_exp, Nat.reduceAdd]
    by_cases g2 : u = v
    · rw [if_pos g2] at H ⊢
      refine b_J6_compare_7cf53_19 hG ?_
      dsimp only [q_J6_compare_7cf53_19, j_wp, j_opB, j_opA, j_nth, j_i1, j_i2, j_l1, j_l2, j_li, j_f1, j_f2, j_d1, j_d2, j_r1, j_ai, j_aii, j_ail, j_aid, j_air, j_st1, j_st2, j_stu, j_kl, j_cond, j_args, j_out, j_few, j_cw, j_nat, j_pad, j_exp, Nat.reduceAdd]
      exact ⟨trivial, H⟩
    · rw [if_neg g2] at H ⊢
      refine b_J6_compare_7cf53_18 hG ?_
      dsimp only [q_J6_compare_7cf53_18, j_wp, j_opB, j_opA, j_nth, j_i1, j_i2, j_l1, j_l2, j_li, j_f1, j_f2, j_d1, j_d2, j_r1, j_ai, j_aii, j_ail, j_aid, j_air, j_st1, j_st2, j_stu, j_kl, j_cond, j_args, j_out, j_few, j_cw, j_nat, j_pad, j_exp, Nat.reduceAdd]
      refine b_J6_compare_7cf53_19 hG ?_
      dsimp only [q_J6_compare_7cf53_19, j_wp, j_opB, j_opA, j_nth, j_i1, j_i2, j_l1, j_l2, j_li, j_f1, j_f2, j_d1, j_d2, j_r1, j_ai, j_aii, j_ail, j_aid, j_air, j_st1, j_st2, j_stu, j_kl, j_cond, j_args, j_out, j_few, j_cw, j_nat, j_pad, j_exp, Nat.reduceAdd]
      exact ⟨trivial, H⟩
theorem sp_X3_compareAll (hl : l.stackTraces = false) (s : QB E bs r x a B sz len L np p h) (hc1 : j_c h + 1 ≤ E.2.1) (hc2 : j_k h + 2 ≤ E.2.2) {u c v : Int32} (hu : vOk u) (hv : vOk v) (H : ∀ h', QB E bs r x a B sz len L np p h' → FQ (fun b => b = x) (j_z h) h h' → PSt h' (j_z h) (qLeafSet L np u c v) → j_c h' = j_c h + 1 → j_k h' = j_k h + 2 → j_z h' = j_z h + 1 → Q (.inl (some (.ref (j_z h)))) h') : j_Met l D bs E (d + 3) n_X3_compareAll [.ref r, .int u, .int c, .int v] h Q := by
  have hB : j_bd E h := ⟨by omega, by omega⟩
  have hnp := s.2.2.2.2.2.2.2.1
  refine j_meth hl rfl g_X3_compareAll (Nat.le_of_ble_eq_true rfl) (fun _ => ⟨_, _, rfl, (QB_s s)⟩) hB.1 hB.2 (fun G hG => ?_)
  refine b_X3_compareAll_0 hG ?_
  dsimp only [q_X3_compareAll_0, j_wp, j_opB, j_opA, j_nth, j_i1, j_i2, j_l1, j_l2, j_li, j_f1, j_f2, j_d1, j_d2, j_r1, j_ai, j_aii, j_ail, j_aid, j_air, j_st1, j_st2, j_stu, j_kl, j_cond, j_args, j_out, j_few, j_cw, j_nat, j_pad, j_exp, Nat.reduceAdd]
  refine ⟨hc1, hc2, ?_⟩
  have hB1 : j_bd E (j_new h (.inr 4) 2) := ⟨hc1, hc2⟩
  have sn : j_sh (j_new h (.inr 4) 2) (j_z h) = some (.inr 4) := by
    show (if j_z h = j_z h then some (Sum.inr 4) else j_sh h (j_z h)) = _
    rw [if_pos rfl]
  refine sp_X2_init hl sn hB1 ?_
  simp only [j_ref, j_ari, j_arb, j_arr, j_len, j_nar, j_oi, j_ol, j_of, j_od, j_or, j_ov, true_and, and_true, j_st1]
  have p0 := PSt_new sn
  have f0 : FQ (fun b => b = x) (j_z h) h (j_setL (j_setL (j_new h (.inr 4) 2) (j_z h) 0 0) (j_z h) 1 0) := FQ_setL (FQ_setL (FQ_new (FQ_rf (Nat.le_refl _))) (Nat.le_refl _)) (Nat.le_refl _)
  have loop : ∀ (k i : Nat) (P : Nat → Bool) (h1 : j_H), i + k = np → (∀ j, P j = (decide (j < i) && decide (jcmp (vFor L j u) (vFor L j v) = c))) → FQ (fun b => b = x) (j_z h) h h1 → TX h1 x B sz len p → PSt h1 (j_z h) P → j_c h1 = j_c h + 1 → j_k h1 = j_k h + 2 → j_z h1 = j_z h + 1 → G 12 [.ref r, .int u, .int c, .int v, .ref (j_z h), .int (nI i)] [] h1 := by
    intro k
    induction k with
    | zero =>
      intro i P h1 hi hP f1 t1 p1 e1 e2 e3
      have s1 := QB_x s t1 (QB_o s) f1
      refine b_X3_compareAll_12 hG ?_
      dsimp only [q_X3_compareAll_12, j_wp, j_opB, j_opA, j_nth, j_i1, j_i2, j_l1, j_l2, j_li, j_f1, j_f2, j_d1, j_d2, j_r1, j_ai, j_aii, j_ail, j_aid, j_air, j_st1, j_st2, j_stu, j_kl, j_cond, j_args, j_out, j_few, j_cw, j_nat, j_pad, j_exp, Nat.reduceAdd]
      simp only [QB_s s1, QB_1 s1, LB_sh (QB_L s1), LB_x (QB_L s1) 9 (by omega) (by omega), hnp.1, j_ref, j_ari, j_arb, j_arr, j_len, j_nar, j_oi, j_ol, j_of, j_od, j_or, j_ov, true_and, and_true]
      rw [if_neg (nI_nlt (by omega) (by omega))]
      refine b_X3_compareAll_58 hG ?_
      dsimp only [q_X3_compareAll_58, j_wp, j_opB, j_opA, j_nth, j_i1, j_i2, j_l1, j_l2, j_li, j_f1, j_f2, j_d1, j_d2, j_r1, j_ai, j_aii, j_ail, j_aid, j_air, j_st1, j_st2, j_stu, j_kl, j_cond, j_args, j_out, j_few, j_cw, j_nat, j_pad, j_exp, Nat.reduceAdd]
      have eP : P = qLeafSet L np u c v := by
        funext j
        rw [hP j, show i = np by omega]
        rfl
      rw [eP] at p1
      exact H h1 s1 f1 p1 e1 e2 e3
    | succ k ih =>
      intro i P h1 hi hP f1 t1 p1 e1 e2 e3
      have s1 := QB_x s t1 (QB_o s) f1
      have hB1 : j_bd E h1 := ⟨by rw [e1]; exact hc1, by rw [e2]; exact hc2⟩
      have nxt : ∀ (P' : Nat → Bool) (h2 : j_H), (∀ j, P' j = (decide (j < i + 1) && decide (jcmp (vFor L j u) (vFor L j v) = c))) → FQ (fun b => b = x) (j_z h) h h2 → TX h2 x B sz len p → PSt h2 (j_z h) P' → j_c h2 = j_c h + 1 → j_k h2 = j_k h + 2 → j_z h2 = j_z h + 1 → G 52 [.ref r, .int u, .int c, .int v, .ref (j_z h), .int (nI i)] [] h2 := by
        intro P' h2 a1 a2 a3 a4 a5 a6 a7
        refine b_X3_compareAll_52 hG ?_
        dsimp only [q_X3_compareAll_52, j_wp, j_opB, j_opA, j_nth, j_i1, j_i2, j_l1, j_l2, j_li, j_f1, j_f2, j_d1, j_d2, j_r1, j_ai, j_aii, j_ail, j_aid, j_air, j_st1, j_st2, j_stu, j_kl, j_cond, j_args, j_out, j_few, j_cw, j_nat, j_pad, j_exp, Nat.reduceAdd]
        rw [nI_1]
        exact ih (i + 1) P' h2 (by omega) a1 a2 a3 a4 a5 a6 a7
      refine b_X3_compareAll_12 hG ?_
      dsimp only [q_X3_compareAll_12, j_wp, j_opB, j_opA, j_nth, j_i1, j_i2, j_l1, j_l2, j_li, j_f1, j_f2, j_d1, j_d2, j_r1, j_ai, j_aii, j_ail, j_aid, j_air, j_st1, j_st2, j_stu, j_kl, j_cond, j_args, j_out, j_few, j_cw, j_nat, j_pad, j_exp, Nat.reduceAdd]
      simp only [QB_s s1, QB_1 s1, LB_sh (QB_L s1), LB_x (QB_L s1) 9 (by omega) (by omega), hnp.1, j_ref, j_ari, j_arb, j_arr, j_len, j_nar, j_oi, j_ol, j_of, j_od, j_or, j_ov, true_and, and_true]
      rw [if_pos (nI_lt (by omega) (by omega))]
      refine sp_X3_valueFor hl s1 hB1 (i := i) (by omega) hu ?_
      simp only [j_ref, j_ari, j_arb, j_arr, j_len, j_nar, j_oi, j_ol, j_of, j_od, j_or, j_ov, true_and, and_true]
      refine sp_X3_valueFor hl s1 hB1 (i := i) (by omega) hv ?_
      simp only [j_ref, j_ari, j_arb, j_arr, j_len, j_nar, j_oi, j_ol, j_of, j_od, j_or, j_ov, true_and, and_true]
      refine sp_J6_compare hl hB1 ?_
      simp only [j_ref, j_ari, j_arb, j_arr, j_len, j_nar, j_oi, j_ol, j_of, j_od, j_or, j_ov, true_and, and_true]
      by_cases g : jcmp (vFor L i u) (vFor L i v) = c
      · rw [if_pos g]
        refine sp_X2_put hl p1 hB1 (i := i) (by omega) (fun h2 p2 e => ?_)
        obtain ⟨k', v', rfl⟩ := e
        simp only [j_ref, j_ari, j_arb, j_arr, j_len, j_nar, j_oi, j_ol, j_of, j_od, j_or, j_ov, true_and, and_true]
        refine nxt _ _ (fun j => ?_) (FQ_setL f1 (Nat.le_refl _)) t1 p2 e1 e2 e3
        rw [hP j]
        by_cases e : j = i
        · subst e; simp [g]
        · have h1 : decide (j < i + 1) = decide (j < i) := decide_eq_decide.mpr (by omega)
          rw [h1, decide_eq_false e, Bool.or_false]
      · rw [if_neg g]
        refine nxt P h1 (fun j => ?_) f1 t1 p1 e1 e2 e3
        rw [hP j]
        by_cases e : j = i
        · subst e; simp [g]
        · have h1 : decide (j < i + 1) = decide (j < i) := decide_eq_decide.mpr (by omega)
          rw [h1]
  have zz := s.2.2.2.2.2.2.2.2
  refine loop np 0 _ _ (by omega) (fun j => ?_) f0 ?_ p0 rfl rfl rfl
  · simp
  · have f1 : FQ (fun _ => False) (j_z h) h (j_setL (j_setL (j_new h (.inr 4) 2) (j_z h) 0 0) (j_z h) 1 0) := FQ_setL (FQ_setL (FQ_new (FQ_rf (Nat.le_refl _))) (Nat.le_refl _)) (Nat.le_refl _)
    exact TX_FQ (QB_t s) f1 (fun z => z) (fun z => z) (by omega)
end Q2

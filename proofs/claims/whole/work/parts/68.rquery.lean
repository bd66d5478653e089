/-! ===== the reference: compiling a query ===== -/
def fld (j : Nat) : Nat := [0, 0, 1, 3, 4, 2, 6, 7, 8].getD j 0
/-- the value that a code pushes -/
def cVal (M : Rf) (i : Nat) (c : Int32) : Int32 := if c < 0 then (if c = -1 then nI i else rP M i (fld (tn (-1 - c)))) else c
def op2 (c a b : Int32) : Int32 := if c = -20 then (if a < b then 1 else 0) else if c = -21 then (if a = b then 1 else 0) else if c = -22 then (if b < a then 1 else 0) else if c = -24 then a &&& b else a ||| b
def ev1 (M : Rf) (i : Nat) (st : List Int32) (c : Int32) : List Int32 := if c = -23 then (match st with | a :: r => (1 - a) :: r | [] => []) else if -20 < c then cVal M i c :: st else (match st with | b :: a :: r => op2 c a b :: r | _ => [])
def evl (M : Rf) (i : Nat) (cs : List Int32) (st : List Int32) : List Int32 := cs.foldl (ev1 M i) st
/-- the stack's height behind the codes, if it never falls too low -/
def hgt : List Int32 → Nat → Option Nat
  | [], n => some n
  | c :: cs, n => if c = -23 then (if 1 ≤ n then hgt cs n else none) else if -20 < c then hgt cs (n + 1) else (if 2 ≤ n then hgt cs (n - 1) else none)
theorem hgt_app : ∀ {a b : List Int32} {n k : Nat}, hgt a n = some k → hgt (a ++ b) n = hgt b k := by
  intro a
  induction a with
  | nil => intro b n k e; cases e; rfl
  | cons c a ih =>
    intro b n k e
    unfold hgt at e
    show hgt (c :: (a ++ b)) n = _
    unfold hgt
    split
    · rename_i g
      rw [if_pos g] at e
      split
      · rename_i g1
        rw [if_pos g1] at e
        rw [ih e]
        cases b <;> rfl
      · rename_i g1
        rw [if_neg g1] at e
        cases e
    · rename_i g
      rw [if_neg g] at e
      split
      · rename_i g1
        rw [if_pos g1] at e
        rw [ih e]
        cases b <;> rfl
      · rename_i g1
        rw [if_neg g1] at e
        split
        · rename_i g2
          rw [if_pos g2] at e
          rw [ih e]
          cases b <;> rfl
        · rename_i g2
          rw [if_neg g2] at e
          cases e
theorem evl_app (M : Rf) (i : Nat) (a b st : List Int32) : evl M i (a ++ b) st = evl M i b (evl M i a st) := List.foldl_append
def b01i (b : Bool) : Int32 := if b = true then 1 else 0
theorem b01_not : ∀ b : Bool, 1 - b01i b = b01i (!b) := by decide +kernel
theorem b01_and : ∀ a b : Bool, op2 (-24) (b01i a) (b01i b) = b01i (a && b) := by decide +kernel
theorem b01_or : ∀ a b : Bool, op2 (-25) (b01i a) (b01i b) = b01i (a || b) := by decide +kernel
/-- codes that push a truth value -/
def cOk (c : Int32) : Prop := (c = -23 ∨ c = -20 ∨ c = -21 ∨ c = -22 ∨ c = -24 ∨ c = -25) ∨ (¬ c < 0) ∨ ∃ j, j < 9 ∧ c = -1 - nI j
def pshes (M : Rf) (np : Nat) (cs : List Int32) (P : Nat → Bool) : Prop := (∀ i, i < np → ∀ st, evl M i cs st = b01i (P i) :: st) ∧ (∀ n, hgt cs n = some (n + 1)) ∧ ∀ c ∈ cs, cOk c
theorem cOk_app {a b : List Int32} (h : ∀ c ∈ a, cOk c) (h' : ∀ c ∈ b, cOk c) : ∀ c ∈ a ++ b, cOk c := fun c z => (List.mem_append.mp z).elim (h c) (h' c)
theorem cOk_1 {x : Int32} (h : cOk x) : ∀ c ∈ [x], cOk c := fun c z => by rw [List.mem_singleton.mp z]; exact h
theorem ps_not {M : Rf} {np : Nat} {cs : List Int32} {P : Nat → Bool} (h : pshes M np cs P) : pshes M np (cs ++ [-23]) (fun i => !P i) := by
  refine ⟨fun i hi st => ?_, fun n => ?_, cOk_app h.2.2 (cOk_1 (Or.inl (Or.inl rfl)))⟩
  · rw [evl_app, h.1 i hi]
    show ev1 M i (b01i (P i) :: st) (-23) = _
    unfold ev1
    first | rw [if_pos rfl] | rw [if_pos trivial]
    show (1 - b01i (P i)) :: st = b01i (!P i) :: st
    rw [b01_not]
  · rw [hgt_app (h.2.1 n)]
    unfold hgt
    rw [if_pos rfl, if_pos (by omega)]
    rfl
theorem ps_and {M : Rf} {np : Nat} {a b : List Int32} {P P' : Nat → Bool} (h : pshes M np a P) (h' : pshes M np b P') : pshes M np (a ++ b ++ [-24]) (fun i => P i && P' i) := by
  refine ⟨fun i hi st => ?_, fun n => ?_, cOk_app (cOk_app h.2.2 h'.2.2) (cOk_1 (Or.inl (by decide)))⟩
  · rw [evl_app, evl_app, h.1 i hi, h'.1 i hi]
    show ev1 M i (b01i (P' i) :: b01i (P i) :: st) (-24) = _
    unfold ev1
    rw [if_neg (by decide), if_neg (by decide)]
    show op2 (-24) (b01i (P i)) (b01i (P' i)) :: st = b01i (P i && P' i) :: st
    rw [b01_and]
  · rw [hgt_app (show hgt (a ++ b) n = some (n + 1 + 1) by rw [hgt_app (h.2.1 n)]; exact h'.2.1 _)]
    unfold hgt
    rw [if_neg (by decide), if_neg (by decide), if_pos (by omega)]
    rfl
theorem ps_or {M : Rf} {np : Nat} {a b : List Int32} {P P' : Nat → Bool} (h : pshes M np a P) (h' : pshes M np b P') : pshes M np (a ++ b ++ [-25]) (fun i => P i || P' i) := by
  refine ⟨fun i hi st => ?_, fun n => ?_, cOk_app (cOk_app h.2.2 h'.2.2) (cOk_1 (Or.inl (by decide)))⟩
  · rw [evl_app, evl_app, h.1 i hi, h'.1 i hi]
    show ev1 M i (b01i (P' i) :: b01i (P i) :: st) (-25) = _
    unfold ev1
    rw [if_neg (by decide), if_neg (by decide)]
    show op2 (-25) (b01i (P i)) (b01i (P' i)) :: st = b01i (P i || P' i) :: st
    rw [b01_or]
  · rw [hgt_app (show hgt (a ++ b) n = some (n + 1 + 1) by rw [hgt_app (h.2.1 n)]; exact h'.2.1 _)]
    unfold hgt
    rw [if_neg (by decide), if_neg (by decide), if_pos (by omega)]
    rfl
theorem op2_lt (a b : Int32) : op2 (-20) a b = b01i (decide (jcmp a b = -1)) := by
  unfold op2 jcmp b01i
  first | rw [if_pos rfl] | rw [if_pos trivial]
  by_cases g : a < b
  · simp [g]
  · rw [if_neg g, if_neg g]
    by_cases g2 : a = b
    · simp [g2]
    · simp [g2]
theorem op2_eq (a b : Int32) : op2 (-21) a b = b01i (decide (jcmp a b = 0)) := by
  unfold op2 jcmp b01i
  rw [if_neg (by decide), if_pos rfl]
  by_cases g : a < b
  · rw [if_pos g, if_neg (fun z => by rw [z] at g; exact absurd (Int32.lt_iff_toInt_lt.mp g) (by omega))]
    simp
  · rw [if_neg g]
    by_cases g2 : a = b
    · simp [g2]
    · simp [g2]
theorem op2_gt (a b : Int32) : op2 (-22) a b = b01i (decide (jcmp a b = 1)) := by
  unfold op2 jcmp b01i
  rw [if_neg (by decide), if_neg (by decide), if_pos rfl]
  by_cases g : a < b
  · rw [if_neg (fun z => by have := Int32.lt_iff_toInt_lt.mp g; have := Int32.lt_iff_toInt_lt.mp z; omega), if_pos g]
    simp
  · rw [if_neg g]
    by_cases g2 : a = b
    · rw [if_neg (fun z => by rw [g2] at z; exact absurd (Int32.lt_iff_toInt_lt.mp z) (by omega))]
      simp [g2]
    · have : b < a := Int32.lt_iff_toInt_lt.mpr (by
        have h1 : ¬ a.toInt < b.toInt := fun z => g (Int32.lt_iff_toInt_lt.mpr z)
        have h2 : ¬ a.toInt = b.toInt := fun z => g2 (Int32.toInt_inj.mp z)
        omega)
      simp [g2, this]
theorem ps_leaf {M : Rf} {L : Lnk} {np : Nat} {c1 c2 op s v1 v2 : Int32} (h1 : -20 < c1) (h2 : -20 < c2) (n1 : ¬ c1 = -23) (n2 : ¬ c2 = -23) (ho : ¬ -20 < op) (no : ¬ op = -23) (e1 : ∀ i, i < np → cVal M i c1 = vFor L i v1) (e2 : ∀ i, i < np → cVal M i c2 = vFor L i v2) (eo : ∀ a b, op2 op a b = b01i (decide (jcmp a b = s))) (k1 : cOk c1) (k2 : cOk c2) (k3 : cOk op) : pshes M np [c1, c2, op] (qLeafSet L np v1 s v2) := by
  refine ⟨fun i hi st => ?_, fun n => ?_, cOk_app (cOk_1 k1) (cOk_app (cOk_1 k2) (cOk_1 k3))⟩
  · show ev1 M i (ev1 M i (ev1 M i st c1) c2) op = _
    unfold ev1
    rw [if_neg n1, if_pos h1, if_neg n2, if_pos h2, if_neg no, if_neg ho]
    show op2 op (cVal M i c1) (cVal M i c2) :: st = _
    rw [eo, e1 i hi, e2 i hi]
    unfold qLeafSet
    simp [hi]
  · unfold hgt
    rw [if_neg n1, if_pos h1]
    unfold hgt
    rw [if_neg n2, if_pos h2]
    unfold hgt
    rw [if_neg no, if_neg ho, if_pos (by omega)]
    rfl
section RQu
variable {l : Launch} {D : va_G} {bs : Nat} {E : j_E} {h0 h : j_H} {m : Nat} {d : Nat} {Q : j_O → j_H → Prop} {B : Nat → Int32} {sz len : Nat} {p : Tk} {M Md : Rf} {L : Lnk} {np nst : Nat} {cs : List Int32}
/-- the constants of the reference: the names and their columns -/
def HCn (E : j_E) (h : j_H) (m : Nat) : Prop := (∀ j, j < 9 → j_R h (m + 12) j = some (E.1 (39 + j))) ∧ ∀ j, 1 ≤ j → j < 9 → j_I h (m + 13) j = nI (fld j)
theorem HCn_FM {A F : Nat → Prop} {h' : j_H} (c : HCn E h m) (f : FM A m F h h') (h1 : ¬ A (m + 13)) : HCn E h' m := ⟨fun j hj => by rw [f.2.1]; exact c.1 j hj, fun j h2 h3 => by rw [f.2.2.2.2.2.2.1 _ _ h1 (fun z => absurd z.1 (by omega))]; exact c.2 j h2 h3⟩
/-- what compiling changes -/
def kA2 (m : Nat) : Nat → Prop := fun b => b = m + 2 ∨ b = m + 14
def kF2 : Nat → Prop := fun k => (16 ≤ k ∧ k ≤ 21) ∨ k = 23 ∨ k = 28
/-- a query is being compiled: the token, the codes so far, how deep -/
def QR (E : j_E) (bs : Nat) (h0 : j_H) (m : Nat) (B : Nat → Int32) (sz len : Nat) (Md : Rf) (p : Tk) (cs : List Int32) (nst : Nat) (h : j_H) : Prop := PR E bs h m B sz len p Md h ∧ FM (kA2 m) m kF2 h0 h ∧ HCn E h m ∧ j_I h m 28 = nI cs.length ∧ cs.length ≤ 200 ∧ (∀ j, j < cs.length → j_I h (m + 14) j = cs.getD j 0) ∧ j_I h m 23 = nI nst ∧ nst ≤ 7
/-- behind a piece of reading -/
theorem PR_re (s : PR E bs h0 m B sz len p Md h) : PR E bs h m B sz len p Md h := ⟨s.1, s.2.1, s.2.2.1, FM_rf, s.2.2.2.2⟩
theorem QR_p {q : Tk} {h' : j_H} (s : QR E bs h0 m B sz len Md p cs nst h) (s' : PR E bs h m B sz len q Md h') : QR E bs h0 m B sz len Md q cs nst h' := by
  obtain ⟨s1, s0, s2, s3, s4, s5, s6, s7⟩ := s
  have f := PR_f s'
  have n0 : ¬ pA2 m m := fun z => by unfold pA2 at z; omega
  have n14 : ¬ pA2 m (m + 14) := fun z => by unfold pA2 at z; omega
  exact ⟨PR_re s', FM_tr s0 (FM_mono f (fun b z => Or.inl z) (fun k z => Or.inl z)), HCn_FM s2 f (fun z => by unfold pA2 at z; omega), by rw [f.2.2.2.2.2.2.1 _ _ n0 (fun z => by have := z.2; unfold pF2 at this; omega)]; exact s3, s4, fun j hj => by rw [f.2.2.2.2.2.2.1 _ _ n14 (fun z => absurd z.1 (by omega))]; exact s5 j hj, by rw [f.2.2.2.2.2.2.1 _ _ n0 (fun z => by have := z.2; unfold pF2 at this; omega)]; exact s6, s7⟩
theorem QR_P (s : QR E bs h0 m B sz len Md p cs nst h) : PR E bs h m B sz len p Md h := s.1
theorem sp_X9_emit (hl : l.stackTraces = false) (s : QR E bs h0 m B sz len Md p cs nst h) {c : Int32} (hc : tkK p ≠ 5 → cs.length < 200) (H : ∀ h', QR E bs h0 m B sz len Md p (if tkK p = 5 then cs else cs ++ [c]) nst h' → Q (.inl none) h') : j_Met l D bs E (d + 1) n_X9_emit [.ref m, .int c] h Q := by
  have sp := QR_P s
  have hB := PR_B sp
  have mm := PR_mk sp
  refine j_meth hl rfl g_X9_emit (Nat.le_of_ble_eq_true rfl) (fun _ => ⟨_, _, rfl, (PR_sh sp)⟩) hB.1 hB.2 (fun G hG => ?_)
  refine b_X9_emit_0 hG ?_
  dsimp only [q_X9_emit_0, j_wp, j_opB, j_opA, j_nth, j_i1, j_i2, j_l1, j_l2, j_li, j_f1, j_f2, j_d1, j_d2, j_r1, j_ai, j_aii, j_ail, j_aid, j_air, j_st1, j_st2, j_stu, j_kl, j_cond, j_args, j_out, j_few, j_cw, j_nat, j_pad, j_exp, Nat.reduceAdd]
  simp only [PR_sh sp, mk_r26 mm, mk_a26 mm, s.2.2.2.1, j_ref, j_ari, j_arb, j_arr, j_len, j_nar, j_oi, j_ol, j_of, j_od, j_or, j_ov, true_and, and_true]
  by_cases g : tkK p = 5
  · rw [if_pos g] at H
    rw [if_neg (PR_e5 sp g)]
    refine b_X9_emit_27 hG ?_
    dsimp only [q_X9_emit_27, j_wp, j_opB, j_opA, j_nth, j_i1, j_i2, j_l1, j_l2, j_li, j_f1, j_f2, j_d1, j_d2, j_r1, j_ai, j_aii, j_ail, j_aid, j_air, j_st1, j_st2, j_stu, j_kl, j_cond, j_args, j_out, j_few, j_cw, j_nat, j_pad, j_exp, Nat.reduceAdd]
    exact H h s
  · rw [if_neg g] at H
    rw [if_pos (PR_e0 sp g)]
    obtain ⟨s1, s0, s2, s3, s4, s5, s6, s7⟩ := s
    have h2 := hc g
    refine ⟨vp_in_nI (show cs.length < 200 by omega) (by omega), ?_⟩
    rw [nI_clamp (by omega)]
    have m1 : mk (j_setI h (m + 14) cs.length c) m := mm
    have e28 : j_I (j_setI h (m + 14) cs.length c) m 28 = nI cs.length := by rw [jh_In (by omega)]; exact s3
    simp only [mk_sh m1, e28, j_ref, j_ari, j_arb, j_arr, j_len, j_nar, j_oi, j_ol, j_of, j_od, j_or, j_ov, true_and, and_true]
    rw [nI_1]
    refine b_X9_emit_27 hG ?_
    dsimp only [q_X9_emit_27, j_wp, j_opB, j_opA, j_nth, j_i1, j_i2, j_l1, j_l2, j_li, j_f1, j_f2, j_d1, j_d2, j_r1, j_ai, j_aii, j_ail, j_aid, j_air, j_st1, j_st2, j_stu, j_kl, j_cond, j_args, j_out, j_few, j_cw, j_nat, j_pad, j_exp, Nat.reduceAdd]
    have f1 : FM (fun b => b = m + 14) m (fun k => k = 28) h (j_setI (j_setI h (m + 14) cs.length c) m 28 (nI (cs.length + 1))) := FM_I (FM_FA (FA_I FA_rf rfl)) rfl
    obtain ⟨t1, t2, t3, t4, t5, t6⟩ := PR_t s1
    have e : ∀ j, j ≠ 28 → j_I (j_setI (j_setI h (m + 14) cs.length c) m 28 (nI (cs.length + 1))) m j = j_I h m j := fun j hj => by rw [jh_In (by omega), jh_In (by omega)]
    refine H _ ⟨⟨RB_FM s1.1 f1 (by omega) (by omega) (by omega) (by omega), ⟨by rw [e _ (by omega)]; exact t1, by rw [e _ (by omega)]; exact t2, t3, t4, fun z => by rw [e _ (by omega), e _ (by omega)]; exact t5 z, fun z => by rw [e _ (by omega), e _ (by omega)]; exact t6 z⟩, RG_cp (PR_g s1) (fun k _ => f1.2.2.2.2.2.2.1 _ _ (by omega) (fun z => absurd z.1 (by omega))), FM_rf, FM_bd f1 hB, KS_FM (PR_k s1) f1 (PR_m s1) (fun b z => by have := PR_m s1; omega), PR_m s1⟩, FM_tr s0 (FM_mono f1 (fun b z => Or.inr z) (fun k z => Or.inr (Or.inr z))), HCn_FM s2 f1 (by omega), ?_, ?_, fun j hj => ?_, by rw [e _ (by omega)]; exact s6, s7⟩
    · rw [jh_Is]
      simp
    · simp
      omega
    · rw [jh_In (by omega), jh_I]
      simp only [List.length_append, List.length_cons, List.length_nil] at hj
      by_cases ej : j = cs.length
      · subst ej
        simp
      · rw [if_neg (fun z => ej z.2), s5 j (by omega)]
        rw [List.getD_eq_getElem?_getD, List.getD_eq_getElem?_getD, List.getElem?_append_left (show j < cs.length by omega)]
/-- the number of the name, 9 if it is none -/
def nNo (B : Nat → Int32) (p : Tk) : Nat := if tIsW B p (wd "packet") = true then 0 else if tIsW B p (wd "flow") = true then 1 else if tIsW B p (wd "size") = true then 2 else if tIsW B p (wd "state") = true then 3 else if tIsW B p (wd "tries") = true then 4 else if tIsW B p (wd "arrival") = true then 5 else if tIsW B p (wd "source") = true then 6 else if tIsW B p (wd "target") = true then 7 else if tIsW B p (wd "port") = true then 8 else 9
def nWd (j : Nat) : List Nat := if j = 0 then wd "packet" else if j = 1 then wd "flow" else if j = 2 then wd "size" else if j = 3 then wd "state" else if j = 4 then wd "tries" else if j = 5 then wd "arrival" else if j = 6 then wd "source" else if j = 7 then wd "target" else wd "port"
theorem nStr : ∀ j : Fin 9, (j_strs[39 + j.1]?.map (fun z => wd z.2.2)) = some (nWd j.1) := by decide +kernel
theorem nNo_le (B : Nat → Int32) (p : Tk) : nNo B p ≤ 9 := by
  unfold nNo
  repeat' split
  all_goals omega
theorem nNo_lt {B : Nat → Int32} {p : Tk} {j : Nat} (h : j < nNo B p) : ¬ tIsW B p (nWd j) = true := by
  have hle := nNo_le B p
  have hj9 : j < 9 := by omega
  unfold nNo at h
  intro z
  have hc : j = 0 ∨ j = 1 ∨ j = 2 ∨ j = 3 ∨ j = 4 ∨ j = 5 ∨ j = 6 ∨ j = 7 ∨ j = 8 := by omega
  rcases hc with rfl | rfl | rfl | rfl | rfl | rfl | rfl | rfl | rfl
  · have z1 : tIsW B p (wd "packet") = true := z
    rw [if_pos z1] at h; omega
  · have z1 : tIsW B p (wd "flow") = true := z
    by_cases g0 : tIsW B p (wd "packet") = true
    · rw [if_pos g0] at h; omega
    rw [if_neg g0, if_pos z1] at h; omega
  · have z1 : tIsW B p (wd "size") = true := z
    by_cases g0 : tIsW B p (wd "packet") = true
    · rw [if_pos g0] at h; omega
    by_cases g1 : tIsW B p (wd "flow") = true
    · rw [if_neg g0, if_pos g1] at h; omega
    rw [if_neg g0, if_neg g1, if_pos z1] at h; omega
  · have z1 : tIsW B p (wd "state") = true := z
    by_cases g0 : tIsW B p (wd "packet") = true
    · rw [if_pos g0] at h; omega
    by_cases g1 : tIsW B p (wd "flow") = true
    · rw [if_neg g0, if_pos g1] at h; omega
    by_cases g2 : tIsW B p (wd "size") = true
    · rw [if_neg g0, if_neg g1, if_pos g2] at h; omega
    rw [if_neg g0, if_neg g1, if_neg g2, if_pos z1] at h; omega
  · have z1 : tIsW B p (wd "tries") = true := z
    by_cases g0 : tIsW B p (wd "packet") = true
    · rw [if_pos g0] at h; omega
    by_cases g1 : tIsW B p (wd "flow") = true
    · rw [if_neg g0, if_pos g1] at h; omega
    by_cases g2 : tIsW B p (wd "size") = true
    · rw [if_neg g0, if_neg g1, if_pos g2] at h; omega
    by_cases g3 : tIsW B p (wd "state") = true
    · rw [if_neg g0, if_neg g1, if_neg g2, if_pos g3] at h; omega
    rw [if_neg g0, if_neg g1, if_neg g2, if_neg g3, if_pos z1] at h; omega
  · have z1 : tIsW B p (wd "arrival") = true := z
    by_cases g0 : tIsW B p (wd "packet") = true
    · rw [if_pos g0] at h; omega
    by_cases g1 : tIsW B p (wd "flow") = true
    · rw [if_neg g0, if_pos g1] at h; omega
    by_cases g2 : tIsW B p (wd "size") = true
    · rw [if_neg g0, if_neg g1, if_pos g2] at h; omega
    by_cases g3 : tIsW B p (wd "state") = true
    · rw [if_neg g0, if_neg g1, if_neg g2, if_pos g3] at h; omega
    by_cases g4 : tIsW B p (wd "tries") = true
    · rw [if_neg g0, if_neg g1, if_neg g2, if_neg g3, if_pos g4] at h; omega
    rw [if_neg g0, if_neg g1, if_neg g2, if_neg g3, if_neg g4, if_pos z1] at h; omega
  · have z1 : tIsW B p (wd "source") = true := z
    by_cases g0 : tIsW B p (wd "packet") = true
    · rw [if_pos g0] at h; omega
    by_cases g1 : tIsW B p (wd "flow") = true
    · rw [if_neg g0, if_pos g1] at h; omega
    by_cases g2 : tIsW B p (wd "size") = true
    · rw [if_neg g0, if_neg g1, if_pos g2] at h; omega
    by_cases g3 : tIsW B p (wd "state") = true
    · rw [if_neg g0, if_neg g1, if_neg g2, if_pos g3] at h; omega
    by_cases g4 : tIsW B p (wd "tries") = true
    · rw [if_neg g0, if_neg g1, if_neg g2, if_neg g3, if_pos g4] at h; omega
    by_cases g5 : tIsW B p (wd "arrival") = true
    · rw [if_neg g0, if_neg g1, if_neg g2, if_neg g3, if_neg g4, if_pos g5] at h; omega
    rw [if_neg g0, if_neg g1, if_neg g2, if_neg g3, if_neg g4, if_neg g5, if_pos z1] at h; omega
  · have z1 : tIsW B p (wd "target") = true := z
    by_cases g0 : tIsW B p (wd "packet") = true
    · rw [if_pos g0] at h; omega
    by_cases g1 : tIsW B p (wd "flow") = true
    · rw [if_neg g0, if_pos g1] at h; omega
    by_cases g2 : tIsW B p (wd "size") = true
    · rw [if_neg g0, if_neg g1, if_pos g2] at h; omega
    by_cases g3 : tIsW B p (wd "state") = true
    · rw [if_neg g0, if_neg g1, if_neg g2, if_pos g3] at h; omega
    by_cases g4 : tIsW B p (wd "tries") = true
    · rw [if_neg g0, if_neg g1, if_neg g2, if_neg g3, if_pos g4] at h; omega
    by_cases g5 : tIsW B p (wd "arrival") = true
    · rw [if_neg g0, if_neg g1, if_neg g2, if_neg g3, if_neg g4, if_pos g5] at h; omega
    by_cases g6 : tIsW B p (wd "source") = true
    · rw [if_neg g0, if_neg g1, if_neg g2, if_neg g3, if_neg g4, if_neg g5, if_pos g6] at h; omega
    rw [if_neg g0, if_neg g1, if_neg g2, if_neg g3, if_neg g4, if_neg g5, if_neg g6, if_pos z1] at h; omega
  · have z1 : tIsW B p (wd "port") = true := z
    by_cases g0 : tIsW B p (wd "packet") = true
    · rw [if_pos g0] at h; omega
    by_cases g1 : tIsW B p (wd "flow") = true
    · rw [if_neg g0, if_pos g1] at h; omega
    by_cases g2 : tIsW B p (wd "size") = true
    · rw [if_neg g0, if_neg g1, if_pos g2] at h; omega
    by_cases g3 : tIsW B p (wd "state") = true
    · rw [if_neg g0, if_neg g1, if_neg g2, if_pos g3] at h; omega
    by_cases g4 : tIsW B p (wd "tries") = true
    · rw [if_neg g0, if_neg g1, if_neg g2, if_neg g3, if_pos g4] at h; omega
    by_cases g5 : tIsW B p (wd "arrival") = true
    · rw [if_neg g0, if_neg g1, if_neg g2, if_neg g3, if_neg g4, if_pos g5] at h; omega
    by_cases g6 : tIsW B p (wd "source") = true
    · rw [if_neg g0, if_neg g1, if_neg g2, if_neg g3, if_neg g4, if_neg g5, if_pos g6] at h; omega
    by_cases g7 : tIsW B p (wd "target") = true
    · rw [if_neg g0, if_neg g1, if_neg g2, if_neg g3, if_neg g4, if_neg g5, if_neg g6, if_pos g7] at h; omega
    rw [if_neg g0, if_neg g1, if_neg g2, if_neg g3, if_neg g4, if_neg g5, if_neg g6, if_neg g7, if_pos z1] at h; omega
theorem nNo_c (B : Nat → Int32) (p : Tk) : (nNo B p = 9 ∧ qCol B p = -1) ∨ (nNo B p < 9 ∧ tIsW B p (nWd (nNo B p)) = true ∧ qCol B p = nI ([11, 0, 1, 3, 4, 2, 6, 7, 8].getD (nNo B p) 0)) := by
  unfold nNo qCol
  by_cases g0 : tIsW B p (wd "packet") = true
  · simp only [g0, if_true, if_false, Bool.false_eq_true]
    exact Or.inr ⟨by omega, g0, rfl⟩
  by_cases g1 : tIsW B p (wd "flow") = true
  · simp only [g0, g1, if_true, if_false, Bool.false_eq_true]
    exact Or.inr ⟨by omega, g1, rfl⟩
  by_cases g2 : tIsW B p (wd "size") = true
  · simp only [g0, g1, g2, if_true, if_false, Bool.false_eq_true]
    exact Or.inr ⟨by omega, g2, rfl⟩
  by_cases g3 : tIsW B p (wd "state") = true
  · simp only [g0, g1, g2, g3, if_true, if_false, Bool.false_eq_true]
    exact Or.inr ⟨by omega, g3, rfl⟩
  by_cases g4 : tIsW B p (wd "tries") = true
  · simp only [g0, g1, g2, g3, g4, if_true, if_false, Bool.false_eq_true]
    exact Or.inr ⟨by omega, g4, rfl⟩
  by_cases g5 : tIsW B p (wd "arrival") = true
  · simp only [g0, g1, g2, g3, g4, g5, if_true, if_false, Bool.false_eq_true]
    exact Or.inr ⟨by omega, g5, rfl⟩
  by_cases g6 : tIsW B p (wd "source") = true
  · simp only [g0, g1, g2, g3, g4, g5, g6, if_true, if_false, Bool.false_eq_true]
    exact Or.inr ⟨by omega, g6, rfl⟩
  by_cases g7 : tIsW B p (wd "target") = true
  · simp only [g0, g1, g2, g3, g4, g5, g6, g7, if_true, if_false, Bool.false_eq_true]
    exact Or.inr ⟨by omega, g7, rfl⟩
  by_cases g8 : tIsW B p (wd "port") = true
  · simp only [g0, g1, g2, g3, g4, g5, g6, g7, g8, if_true, if_false, Bool.false_eq_true]
    exact Or.inr ⟨by omega, g8, rfl⟩
  simp only [g0, g1, g2, g3, g4, g5, g6, g7, g8, if_false, Bool.false_eq_true]
  exact Or.inl (by first | exact ⟨rfl, rfl⟩ | exact ⟨trivial, trivial⟩ | simp)
/-- a value's code -/
def vCode (L : Lnk) (M : Rf) (np : Nat) (c v : Int32) : Prop := -20 < c ∧ ¬ c = -23 ∧ (∀ i, i < np → cVal M i c = vFor L i v) ∧ cOk c
theorem vc_num {v : Int32} (h : ¬ v < 0) : vCode L M np v v := by
  have h0 : ¬ v.toInt < 0 := fun z => h (Int32.lt_iff_toInt_lt.mpr z)
  refine ⟨Int32.lt_iff_toInt_lt.mpr (by show (-20 : Int) < v.toInt; omega), fun z => ?_, fun i _ => ?_, Or.inr (Or.inl h)⟩
  · rw [z] at h
    exact h (by decide)
  · unfold cVal vFor
    rw [if_neg h, if_neg h]
theorem vc_dec : ∀ j : Fin 9, (-20 < -1 - nI j.1) ∧ ¬ (-1 - nI j.1 = -23) ∧ (-1 - nI j.1 < 0) ∧ (-1 - (-1 - nI j.1) = nI j.1) ∧ (-1 - nI j.1 = -1 ↔ j.1 = 0) ∧ (-1 - nI ([11, 0, 1, 3, 4, 2, 6, 7, 8].getD j.1 0) < 0) ∧ (-1 - (-1 - nI ([11, 0, 1, 3, 4, 2, 6, 7, 8].getD j.1 0)) = nI ([11, 0, 1, 3, 4, 2, 6, 7, 8].getD j.1 0)) ∧ (nI ([11, 0, 1, 3, 4, 2, 6, 7, 8].getD j.1 0) = 11 ↔ j.1 = 0) ∧ (j.1 ≠ 0 → tn (nI ([11, 0, 1, 3, 4, 2, 6, 7, 8].getD j.1 0)) = fld j.1 ∧ fld j.1 < 9) ∧ tn (nI j.1) = j.1 := by decide +kernel
theorem vc_name (hLP : ∀ i k, i < np → k < 9 → lP L i k = rP M i k) {j : Nat} (hj : j < 9) : vCode L M np (-1 - nI j) (-1 - nI ([11, 0, 1, 3, 4, 2, 6, 7, 8].getD j 0)) := by
  obtain ⟨d1, d2, d3, d4, d5, d6, d7, d8, d9, d10⟩ := vc_dec ⟨j, hj⟩
  dsimp only at d1 d2 d3 d4 d5 d6 d7 d8 d9 d10
  refine ⟨d1, d2, fun i hi => ?_, Or.inr (Or.inr ⟨j, hj, rfl⟩)⟩
  unfold cVal vFor
  rw [if_pos d3, if_pos d6, d4, d7]
  by_cases g : j = 0
  · rw [if_pos (d5.mpr g), if_pos (d8.mpr g)]
  · rw [if_neg (fun z => g (d5.mp z)), if_neg (fun z => g (d8.mp z)), (d9 g).1, hLP i _ hi (d9 g).2, d10]
set_option maxRecDepth 8000 in
theorem sp_X9_compileValue (hl : l.stackTraces = false) (hJ : JS l D bs E) (s : QR E bs h0 m B sz len Md p cs nst h) (hLP : ∀ i k, i < np → k < 9 → lP L i k = rP M i k) (hb : cs.length + tPhi len p ≤ 200) (H : ∀ h' cs', QR E bs h0 m B sz len Md (qVal B len p).2 cs' nst h' → (tkK (qVal B len p).2 ≠ 5 → (∃ c, cs' = cs ++ [c] ∧ vCode L M np c (qVal B len p).1) ∧ tPhi len (qVal B len p).2 + 1 ≤ tPhi len p) → Q (.inl none) h') : j_Met l D bs E (d + 6) n_X9_compileValue [.ref m] h Q := by
  have sp := QR_P s
  have hB := PR_B sp
  have mm := PR_mk sp
  have ok := PR_o sp
  refine j_meth hl rfl g_X9_compileValue (Nat.le_of_ble_eq_true rfl) (fun _ => ⟨_, _, rfl, (PR_sh sp)⟩) hB.1 hB.2 (fun G hG => ?_)
  -- a number, or an error before
  have num : tkK p = 3 ∨ tkK p = 5 → G 15 [.ref m, j_u] [] h := by
    intro g
    have eq : qVal B len p = tTake B len p 0 999999 := by unfold qVal; rw [if_neg (by omega)]
    rw [eq] at H
    refine b_X9_compileValue_15 hG ?_
    dsimp only [q_X9_compileValue_15, j_wp, j_opB, j_opA, j_nth, j_i1, j_i2, j_l1, j_l2, j_li, j_f1, j_f2, j_d1, j_d2, j_r1, j_ai, j_aii, j_ail, j_aid, j_air, j_st1, j_st2, j_stu, j_kl, j_cond, j_args, j_out, j_few, j_cw, j_nat, j_pad, j_exp, Nat.reduceAdd]
    refine sp_X9_number hl sp (fun h1 s1 => ?_)
    simp only [j_ref, j_ari, j_arb, j_arr, j_len, j_nar, j_oi, j_ol, j_of, j_od, j_or, j_ov, true_and, and_true]
    have q1 := QR_p s s1
    refine sp_X9_emit hl q1 (fun z => ?_) (fun h2 q2 => ?_)
    · have : tkK p ≠ 5 := fun y => z (by rw [tTake_5 y]; exact y)
      have := phi_1 (len := len) (p := p) (by omega)
      omega
    · simp only [j_ref, j_ari, j_arb, j_arr, j_len, j_nar, j_oi, j_ol, j_of, j_od, j_or, j_ov, true_and, and_true]
      refine H h2 _ q2 (fun z => ?_)
      have g3 : tkK p = 3 := g.elim id (fun y => absurd (by rw [tTake_5 y]; exact y) z)
      rw [if_neg z]
      have hr : ¬ (tNum B p < 0 ∨ 999999 < tNum B p) := fun y => z (by unfold tTake; rw [if_pos g3, if_pos y]; exact tFail_5 p 2)
      have et : tTake B len p 0 999999 = (tNum B p, tNext B len p) := by unfold tTake; rw [if_pos g3, if_neg hr]
      rw [et]
      exact ⟨⟨_, rfl, vc_num (fun y => hr (Or.inl y))⟩, phi_lt ok (by omega)⟩
  -- behind the search
  have fin : tkK p ≠ 3 → tkK p ≠ 5 → G 58 [.ref m, .int (nI (nNo B p))] [] h := by
    intro g3 g5
    have hle := nNo_le B p
    have e9 : ∀ c : Int32, c = (if nNo B p < 9 then 1 else 0) → G 73 [.ref m, .int (nI (nNo B p))] [.int c, .ref m] h := by
      intro c ec
      refine b_X9_compileValue_73 hG ?_
      dsimp only [q_X9_compileValue_73, j_wp, j_opB, j_opA, j_nth, j_i1, j_i2, j_l1, j_l2, j_li, j_f1, j_f2, j_d1, j_d2, j_r1, j_ai, j_aii, j_ail, j_aid, j_air, j_st1, j_st2, j_stu, j_kl, j_cond, j_args, j_out, j_few, j_cw, j_nat, j_pad, j_exp, Nat.reduceAdd]
      refine sp_X9_check hl sp (by decide) (fun h1 s1 => ?_)
      simp only [j_ref, j_ari, j_arb, j_arr, j_len, j_nar, j_oi, j_ol, j_of, j_od, j_or, j_ov, true_and, and_true]
      have q1 := QR_p s s1
      rcases nNo_c B p with ⟨n9, qc⟩ | ⟨n9, nw, qc⟩
      · -- none
        have c0 : c = 0 := by rw [ec, if_neg (by omega)]
        rw [if_pos c0] at s1 q1
        have eq : (qVal B len p).2 = tFail p 1 := by
          unfold qVal
          by_cases g2 : tkK p = 2
          · rw [if_pos g2]
            show tNext B len (if qCol B p = -1 then tFail p 1 else p) = _
            rw [if_pos qc, tNext_5 (tFail_5 p 1)]
          · rw [if_neg g2]
            unfold tTake
            rw [if_neg g3]
        refine sp_X9_emit hl q1 (fun z => absurd (tFail_5 p 1) z) (fun h2 q2 => ?_)
        rw [if_pos (tFail_5 p 1)] at q2
        simp only [j_ref, j_ari, j_arb, j_arr, j_len, j_nar, j_oi, j_ol, j_of, j_od, j_or, j_ov, true_and, and_true]
        refine sp_X9_advance hl (QR_P q2) (fun h3 s3 => ?_)
        rw [tNext_5 (tFail_5 p 1)] at s3
        simp only [j_ref, j_ari, j_arb, j_arr, j_len, j_nar, j_oi, j_ol, j_of, j_od, j_or, j_ov, true_and, and_true]
        refine H h3 cs (by rw [eq]; exact QR_p q2 s3) (fun z => ?_)
        rw [eq] at z
        exact absurd (tFail_5 p 1) z
      · have c1 : ¬ c = 0 := by rw [ec, if_pos n9]; decide
        rw [if_neg c1] at s1 q1
        have g2 := tIsW_2 nw
        have qn : ¬ qCol B p = -1 := by
          rw [qc]
          refine nI_ne1 ?_
          have : ∀ j : Fin 9, [11, 0, 1, 3, 4, 2, 6, 7, 8].getD j.1 0 < 12 := by decide
          have := this ⟨nNo B p, n9⟩
          dsimp only at this
          omega
        have eq : qVal B len p = (-1 - qCol B p, tNext B len p) := by
          unfold qVal
          rw [if_pos g2, if_neg qn]
        have ph := phi_2 (B := B) ok g2
        refine sp_X9_emit hl q1 (fun z => ?_) (fun h2 q2 => ?_)
        · omega
        · rw [if_neg g5] at q2
          simp only [j_ref, j_ari, j_arb, j_arr, j_len, j_nar, j_oi, j_ol, j_of, j_od, j_or, j_ov, true_and, and_true]
          refine sp_X9_advance hl (QR_P q2) (fun h3 s3 => ?_)
          simp only [j_ref, j_ari, j_arb, j_arr, j_len, j_nar, j_oi, j_ol, j_of, j_od, j_or, j_ov, true_and, and_true]
          refine H h3 _ (by rw [eq]; exact QR_p q2 s3) (fun z => ?_)
          rw [eq, qc]
          exact ⟨⟨_, rfl, vc_name hLP n9⟩, ph⟩
    refine b_X9_compileValue_58 hG ?_
    dsimp only [q_X9_compileValue_58, j_wp, j_opB, j_opA, j_nth, j_i1, j_i2, j_l1, j_l2, j_li, j_f1, j_f2, j_d1, j_d2, j_r1, j_ai, j_aii, j_ail, j_aid, j_air, j_st1, j_st2, j_stu, j_kl, j_cond, j_args, j_out, j_few, j_cw, j_nat, j_pad, j_exp, Nat.reduceAdd]
    simp only [PR_sh sp, mk_r24 mm, mk_a24 mm, j_ref, j_ari, j_arb, j_arr, j_len, j_nar, j_oi, j_ol, j_of, j_od, j_or, j_ov, true_and, and_true]
    by_cases g : nNo B p < 9
    · rw [if_pos (nI_lt g (by omega))]
      exact e9 1 (by rw [if_pos g])
    · rw [if_neg (nI_nlt (by omega) (by omega))]
      refine b_X9_compileValue_72 hG ?_
      dsimp only [q_X9_compileValue_72, j_wp, j_opB, j_opA, j_nth, j_i1, j_i2, j_l1, j_l2, j_li, j_f1, j_f2, j_d1, j_d2, j_r1, j_ai, j_aii, j_ail, j_aid, j_air, j_st1, j_st2, j_stu, j_kl, j_cond, j_args, j_out, j_few, j_cw, j_nat, j_pad, j_exp, Nat.reduceAdd]
      exact e9 0 (by rw [if_neg g])
  have loop : tkK p ≠ 3 → tkK p ≠ 5 → ∀ (k j : Nat), j + k = nNo B p → G 30 [.ref m, .int (nI j)] [] h := by
    intro g3 g5 k
    have hle := nNo_le B p
    have test : ∀ j, j < 9 → (Q' : j_O → j_H → Prop) → Q' (.inl (some (.int (if tIsW B p (nWd j) = true then 1 else 0)))) h → j_Met l D bs E (d + 5) n_X9_isWord [.ref m, .ref (E.1 (39 + j))] h Q' := by
      intro j hj Q' K
      have e := nStr ⟨j, hj⟩
      dsimp only at e
      cases hz : j_strs[39 + j]? with
      | none => rw [hz] at e; cases e
      | some z =>
        rw [hz] at e
        have e2 : wd z.2.2 = nWd j := Option.some.inj e
        rw [← e2] at K
        exact sp_X9_isWord hl hJ sp (39 + j) hz (by omega) K
    induction k with
    | zero =>
      intro j hj
      have ej : j = nNo B p := by omega
      subst ej
      refine b_X9_compileValue_30 hG ?_
      dsimp only [q_X9_compileValue_30, j_wp, j_opB, j_opA, j_nth, j_i1, j_i2, j_l1, j_l2, j_li, j_f1, j_f2, j_d1, j_d2, j_r1, j_ai, j_aii, j_ail, j_aid, j_air, j_st1, j_st2, j_stu, j_kl, j_cond, j_args, j_out, j_few, j_cw, j_nat, j_pad, j_exp, Nat.reduceAdd]
      simp only [PR_sh sp, mk_r24 mm, mk_a24 mm, j_ref, j_ari, j_arb, j_arr, j_len, j_nar, j_oi, j_ol, j_of, j_od, j_or, j_ov, true_and, and_true]
      by_cases g : nNo B p < 9
      · rw [if_pos (nI_lt g (by omega))]
        simp only [s.2.2.1.1 _ g, nI_clamp (show nNo B p < 2 ^ 31 by omega)]
        refine ⟨vp_in_nI g (by omega), ?_⟩
        refine test _ g _ ?_
        have nw : tIsW B p (nWd (nNo B p)) = true := (nNo_c B p).elim (fun z => by omega) (fun z => z.2.1)
        simp only [j_ref, j_ari, j_arb, j_arr, j_len, j_nar, j_oi, j_ol, j_of, j_od, j_or, j_ov, true_and, and_true, nw, if_true]
        rw [if_neg (by decide)]
        exact fin g3 g5
      · rw [if_neg (nI_nlt (by omega) (by omega))]
        exact fin g3 g5
    | succ k ih =>
      intro j hj
      refine b_X9_compileValue_30 hG ?_
      dsimp only [q_X9_compileValue_30, j_wp, j_opB, j_opA, j_nth, j_i1, j_i2, j_l1, j_l2, j_li, j_f1, j_f2, j_d1, j_d2, j_r1, j_ai, j_aii, j_ail, j_aid, j_air, j_st1, j_st2, j_stu, j_kl, j_cond, j_args, j_out, j_few, j_cw, j_nat, j_pad, j_exp, Nat.reduceAdd]
      simp only [PR_sh sp, mk_r24 mm, mk_a24 mm, j_ref, j_ari, j_arb, j_arr, j_len, j_nar, j_oi, j_ol, j_of, j_od, j_or, j_ov, true_and, and_true]
      rw [if_pos (nI_lt (by omega) (by omega))]
      simp only [s.2.2.1.1 j (by omega), nI_clamp (show j < 2 ^ 31 by omega)]
      refine ⟨vp_in_nI (by omega) (by omega), ?_⟩
      refine test j (by omega) _ ?_
      have nw := nNo_lt (B := B) (p := p) (j := j) (by omega)
      simp only [j_ref, j_ari, j_arb, j_arr, j_len, j_nar, j_oi, j_ol, j_of, j_od, j_or, j_ov, true_and, and_true, nw, if_false, Bool.false_eq_true, if_true]
      rw [nI_1]
      exact ih (j + 1) (by omega)
  refine b_X9_compileValue_0 hG ?_
  dsimp only [q_X9_compileValue_0, j_wp, j_opB, j_opA, j_nth, j_i1, j_i2, j_l1, j_l2, j_li, j_f1, j_f2, j_d1, j_d2, j_r1, j_ai, j_aii, j_ail, j_aid, j_air, j_st1, j_st2, j_stu, j_kl, j_cond, j_args, j_out, j_few, j_cw, j_nat, j_pad, j_exp, Nat.reduceAdd]
  simp only [PR_sh sp, j_ref, j_ari, j_arb, j_arr, j_len, j_nar, j_oi, j_ol, j_of, j_od, j_or, j_ov, true_and, and_true]
  by_cases g : tkK p = 5
  · rw [if_neg (PR_e5 sp g)]
    exact num (Or.inr g)
  · rw [if_pos (PR_e0 sp g), PR_19 sp g]
    by_cases g3 : tkK p = 3
    · rw [if_pos (tkNo_2.mpr g3)]
      exact num (Or.inl g3)
    · rw [if_neg (fun z => g3 (tkNo_2.mp z))]
      refine b_X9_compileValue_28 hG ?_
      dsimp only [q_X9_compileValue_28, j_wp, j_opB, j_opA, j_nth, j_i1, j_i2, j_l1, j_l2, j_li, j_f1, j_f2, j_d1, j_d2, j_r1, j_ai, j_aii, j_ail, j_aid, j_air, j_st1, j_st2, j_stu, j_kl, j_cond, j_args, j_out, j_few, j_cw, j_nat, j_pad, j_exp, Nat.reduceAdd]
      exact loop g3 g (nNo B p) 0 (by omega)
end RQu

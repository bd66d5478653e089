/-! ===== Text: tokens ===== -/
/-- a token and the first error: kind (0 end, 1 blank, 2 word, 3 number, 4 sign, 5 fault), start, end, error code, error place -/
abbrev Tk : Type := Nat × Nat × Nat × Int32 × Int32
def tkK (p : Tk) : Nat := p.1
def tkS (p : Tk) : Nat := p.2.1
def tkE (p : Tk) : Nat := p.2.2.1
def tkC (p : Tk) : Int32 := p.2.2.2.1
def tkA (p : Tk) : Int32 := p.2.2.2.2
theorem tkK_m (a b c : Nat) (e f : Int32) : tkK (a, b, c, e, f) = a := rfl
theorem tkS_m (a b c : Nat) (e f : Int32) : tkS (a, b, c, e, f) = b := rfl
theorem tkE_m (a b c : Nat) (e f : Int32) : tkE (a, b, c, e, f) = c := rfl
theorem tkC_m (a b c : Nat) (e f : Int32) : tkC (a, b, c, e, f) = e := rfl
theorem tkA_m (a b c : Nat) (e f : Int32) : tkA (a, b, c, e, f) = f := rfl
def kcl (b : Int32) : Nat := if b = 32 ∨ b = 10 then 1 else if ¬ b < 97 ∧ ¬ 122 < b then 2 else if ¬ b < 48 ∧ ¬ 57 < b then 3 else 4
def kAt (B : Nat → Int32) (len i : Nat) : Nat := if i < len then kcl (B i) else 0
def tRun (B : Nat → Int32) (len c : Nat) : Nat → Nat → Nat
  | 0, i => i
  | k + 1, i => if kAt B len i = c then tRun B len c k (i + 1) else i
def tok (B : Nat → Int32) (len i : Nat) : Nat × Nat × Nat :=
  let s := tRun B len 1 (len - i) i
  (kAt B len s, s, if kAt B len s = 4 then s + 1 else tRun B len (kAt B len s) (len - s) s)
def tNext (B : Nat → Int32) (len : Nat) (p : Tk) : Tk := if tkK p = 5 then p else ((tok B len (tkE p)).1, (tok B len (tkE p)).2.1, (tok B len (tkE p)).2.2, tkC p, tkA p)
def tFail (p : Tk) (c : Int32) : Tk := if tkK p = 5 then p else (5, tkS p, tkE p, c, nI (tkS p))
def tIsW (B : Nat → Int32) (p : Tk) (w : List Nat) : Bool := decide (tkK p = 2) && (decide (tkE p = tkS p + w.length) && decide (∀ i, i < w.length → B (tkS p + i) = nI (w.getD i 0)))
def tIsS (B : Nat → Int32) (p : Tk) (c : Nat) : Bool := decide (tkK p = 4) && decide (B (tkS p) = nI c)
def tNumL (B : Nat → Int32) : Nat → Nat → Int32 → Int32
  | 0, _, n => n
  | k + 1, i, n => tNumL B k (i + 1) (if 1000000 < n * 10 + (B i - 48) then 1000000 else n * 10 + (B i - 48))
def tNum (B : Nat → Int32) (p : Tk) : Int32 := tNumL B (tkE p - tkS p) (tkS p) 0
def tTake (B : Nat → Int32) (len : Nat) (p : Tk) (lo hi : Int32) : Int32 × Tk := if tkK p = 3 then (if tNum B p < lo ∨ hi < tNum B p then (lo, tFail p 2) else (tNum B p, tNext B len p)) else (lo, tFail p 1)
def tSign (B : Nat → Int32) (len : Nat) (p : Tk) (c : Nat) : Tk := tNext B len (if tIsS B p c = true then p else tFail p 1)
def tWord (B : Nat → Int32) (len : Nat) (p : Tk) (w : List Nat) : Tk := tNext B len (if tIsW B p w = true then p else tFail p 1)
theorem tRun_le {B : Nat → Int32} {len c : Nat} : ∀ {k i : Nat}, i ≤ tRun B len c k i ∧ tRun B len c k i ≤ i + k := by
  intro k
  induction k with
  | zero => intro i; exact ⟨Nat.le_refl _, Nat.le_refl _⟩
  | succ k ih =>
    intro i
    unfold tRun
    split
    · have := ih (i := i + 1)
      omega
    · omega
theorem kcl_le (b : Int32) : 1 ≤ kcl b ∧ kcl b ≤ 4 := by
  unfold kcl
  split
  · omega
  · split
    · omega
    · split <;> omega
theorem kAt_le (B : Nat → Int32) (len i : Nat) : kAt B len i ≤ 4 := by
  unfold kAt
  split
  · exact (kcl_le _).2
  · omega
theorem tok_le {B : Nat → Int32} {len i : Nat} (h : i ≤ len) : (tok B len i).1 ≤ 4 ∧ i ≤ (tok B len i).2.1 ∧ (tok B len i).2.1 ≤ (tok B len i).2.2 ∧ (tok B len i).2.2 ≤ len := by
  unfold tok
  dsimp only
  have h1 := tRun_le (B := B) (len := len) (c := 1) (k := len - i) (i := i)
  generalize tRun B len 1 (len - i) i = s at h1
  refine ⟨kAt_le _ _ _, h1.1, ?_⟩
  split
  · rename_i g
    unfold kAt at g
    split at g
    · omega
    · omega
  · have h2 := tRun_le (B := B) (len := len) (c := kAt B len s) (k := len - s) (i := s)
    omega
/-- what a token keeps to, in a text of this length -/
def tkOk (len : Nat) (p : Tk) : Prop := tkK p ≤ 5 ∧ tkS p ≤ tkE p ∧ tkE p ≤ len ∧ (tkK p = 4 → tkS p < tkE p) ∧ (tkK p = 0 → tkE p = len)
theorem tok_4 {B : Nat → Int32} {len i : Nat} (h : (tok B len i).1 = 4) : (tok B len i).2.1 < (tok B len i).2.2 := by
  unfold tok at h ⊢
  dsimp only at h ⊢
  rw [if_pos h]
  omega
theorem tok_0 {B : Nat → Int32} {len i : Nat} (hi : i ≤ len) (h : (tok B len i).1 = 0) : (tok B len i).2.2 = len := by
  unfold tok at h ⊢
  dsimp only at h ⊢
  have h1 := tRun_le (B := B) (len := len) (c := 1) (k := len - i) (i := i)
  generalize tRun B len 1 (len - i) i = s at h h1
  have hs : ¬ s < len := fun z => by
    unfold kAt at h
    rw [if_pos z] at h
    have := (kcl_le (B s)).1
    omega
  rw [if_neg (by omega), h]
  have h2 := tRun_le (B := B) (len := len) (c := 0) (k := len - s) (i := s)
  omega
theorem tNext_ok {B : Nat → Int32} {len : Nat} {p : Tk} (h : tkOk len p) : tkOk len (tNext B len p) := by
  unfold tNext
  split
  · exact h
  · have := tok_le (B := B) h.2.2.1
    exact ⟨by show (tok B len (tkE p)).1 ≤ 5; omega, by show (tok B len (tkE p)).2.1 ≤ (tok B len (tkE p)).2.2; omega, by show (tok B len (tkE p)).2.2 ≤ len; omega, fun z => tok_4 z, fun z => tok_0 h.2.2.1 z⟩
theorem tFail_ok {len : Nat} {p : Tk} {c : Int32} (h : tkOk len p) : tkOk len (tFail p c) := by
  unfold tFail
  split
  · exact h
  · exact ⟨Nat.le_refl _, h.2.1, h.2.2.1, fun z => absurd (show (5 : Nat) = 4 from z) (by decide), fun z => absurd (show (5 : Nat) = 0 from z) (by decide)⟩
theorem tTake_ok {B : Nat → Int32} {len : Nat} {p : Tk} {lo hi : Int32} (h : tkOk len p) : tkOk len (tTake B len p lo hi).2 := by
  unfold tTake
  split
  · split
    · exact tFail_ok h
    · exact tNext_ok h
  · exact tFail_ok h
theorem tSign_ok {B : Nat → Int32} {len : Nat} {p : Tk} {c : Nat} (h : tkOk len p) : tkOk len (tSign B len p c) := by
  unfold tSign
  split
  · exact tNext_ok h
  · exact tNext_ok (tFail_ok h)
theorem tWord_ok {B : Nat → Int32} {len : Nat} {p : Tk} {w : List Nat} (h : tkOk len p) : tkOk len (tWord B len p w) := by
  unfold tWord
  split
  · exact tNext_ok h
  · exact tNext_ok (tFail_ok h)
/-- a constant text at a -/
def kst (h : j_H) (a : Nat) (w : List Nat) : Prop := j_sh h a = some (.inr 0) ∧ j_I h a 1 = 0 ∧ w.length < 1000 ∧ (∀ i, i < w.length → w.getD i 0 < 128) ∧ ∃ b, j_R h a 0 = some b ∧ j_sh h b = some (.inl (8, w.length)) ∧ ∀ i, i < w.length → j_I h b i = nI (w.getD i 0)
/-- what the JDK's String does here -/
def JS (l : Launch) (D : va_G) (bs : Nat) (E : j_E) : Prop := (∀ (d : Nat) (h : j_H) (a : Nat) (w : List Nat) (Q : j_O → j_H → Prop), kst h a w → j_bd E h → Q (.inl (some (.int (nI w.length)))) h → j_Met l D bs E (d + 2) n_J0_length_8abf5 [.ref a] h Q) ∧
  ∀ (d : Nat) (h : j_H) (a : Nat) (w : List Nat) (i : Nat) (Q : j_O → j_H → Prop), kst h a w → j_bd E h → i < w.length → Q (.inl (some (.int (nI (w.getD i 0))))) h → j_Met l D bs E (d + 3) n_J0_charAt_5068e [.ref a, .int (nI i)] h Q
section Txt
variable {l : Launch} {D : va_G} {bs : Nat} {E : j_E} {h : j_H} {x : Nat} {d : Nat} {Q : j_O → j_H → Prop} {B : Nat → Int32} {sz len : Nat} {p : Tk}
/-- the text at x (its bytes x+1) -/
def TX (h : j_H) (x : Nat) (B : Nat → Int32) (sz len : Nat) (p : Tk) : Prop := j_sh h x = some (.inr 9) ∧ j_R h x 0 = some (x + 1) ∧ j_sh h (x + 1) = some (.inl (3, 800)) ∧ (∀ i, i < 800 → j_I h (x + 1) i = B i) ∧ j_I h x 1 = nI sz ∧ sz ≤ 800 ∧ j_I h x 2 = nI len ∧ len ≤ 800 ∧ j_I h x 3 = nI (tkK p) ∧ j_I h x 4 = nI (tkS p) ∧ j_I h x 5 = nI (tkE p) ∧ j_I h x 6 = tkC p ∧ j_I h x 7 = tkA p
theorem TX_sh (t : TX h x B sz len p) : j_sh h x = some (.inr 9) := t.1
theorem TX_r (t : TX h x B sz len p) : j_R h x 0 = some (x + 1) := t.2.1
theorem TX_sb (t : TX h x B sz len p) : j_sh h (x + 1) = some (.inl (3, 800)) := t.2.2.1
theorem TX_b (t : TX h x B sz len p) {i : Nat} (hi : i < 800) : j_I h (x + 1) i = B i := t.2.2.2.1 i hi
theorem TX_1 (t : TX h x B sz len p) : j_I h x 1 = nI sz := t.2.2.2.2.1
theorem TX_2 (t : TX h x B sz len p) : j_I h x 2 = nI len := t.2.2.2.2.2.2.1
theorem TX_3 (t : TX h x B sz len p) : j_I h x 3 = nI (tkK p) := t.2.2.2.2.2.2.2.2.1
theorem TX_4 (t : TX h x B sz len p) : j_I h x 4 = nI (tkS p) := t.2.2.2.2.2.2.2.2.2.1
theorem TX_5 (t : TX h x B sz len p) : j_I h x 5 = nI (tkE p) := t.2.2.2.2.2.2.2.2.2.2.1
theorem TX_6 (t : TX h x B sz len p) : j_I h x 6 = tkC p := t.2.2.2.2.2.2.2.2.2.2.2.1
theorem TX_7 (t : TX h x B sz len p) : j_I h x 7 = tkA p := t.2.2.2.2.2.2.2.2.2.2.2.2
theorem TX_l (t : TX h x B sz len p) : len ≤ 800 := t.2.2.2.2.2.2.2.1
theorem TX_z (t : TX h x B sz len p) : sz ≤ 800 := t.2.2.2.2.2.1
theorem TX_s1 (t : TX h x B sz len p) {n : Nat} (hn : n ≤ 800) : TX (j_setI h x 1 (nI n)) x B n len p := by
  obtain ⟨t1, t2, t3, t4, t5, t6, t7, t8, t9, t10, t11, t12, t13⟩ := t
  refine ⟨t1, t2, t3, fun i hi => ?_, jh_Is _ _ _ _, hn, ?_, t8, ?_, ?_, ?_, ?_, ?_⟩ <;> (rw [jh_In (by omega)]; first | assumption | exact t4 i hi)
theorem TX_s2 (t : TX h x B sz len p) {n : Nat} (hn : n ≤ 800) : TX (j_setI h x 2 (nI n)) x B sz n p := by
  obtain ⟨t1, t2, t3, t4, t5, t6, t7, t8, t9, t10, t11, t12, t13⟩ := t
  refine ⟨t1, t2, t3, fun i hi => ?_, ?_, t6, jh_Is _ _ _ _, hn, ?_, ?_, ?_, ?_, ?_⟩ <;> (rw [jh_In (by omega)]; first | assumption | exact t4 i hi)
theorem TX_s3 (t : TX h x B sz len p) (n : Nat) : TX (j_setI h x 3 (nI n)) x B sz len (n, tkS p, tkE p, tkC p, tkA p) := by
  obtain ⟨t1, t2, t3, t4, t5, t6, t7, t8, t9, t10, t11, t12, t13⟩ := t
  refine ⟨t1, t2, t3, fun i hi => ?_, ?_, t6, ?_, t8, jh_Is _ _ _ _, ?_, ?_, ?_, ?_⟩ <;> (rw [jh_In (by omega)]; first | assumption | exact t4 i hi)
theorem TX_s4 (t : TX h x B sz len p) (n : Nat) : TX (j_setI h x 4 (nI n)) x B sz len (tkK p, n, tkE p, tkC p, tkA p) := by
  obtain ⟨t1, t2, t3, t4, t5, t6, t7, t8, t9, t10, t11, t12, t13⟩ := t
  refine ⟨t1, t2, t3, fun i hi => ?_, ?_, t6, ?_, t8, ?_, jh_Is _ _ _ _, ?_, ?_, ?_⟩ <;> (rw [jh_In (by omega)]; first | assumption | exact t4 i hi)
theorem TX_s5 (t : TX h x B sz len p) (n : Nat) : TX (j_setI h x 5 (nI n)) x B sz len (tkK p, tkS p, n, tkC p, tkA p) := by
  obtain ⟨t1, t2, t3, t4, t5, t6, t7, t8, t9, t10, t11, t12, t13⟩ := t
  refine ⟨t1, t2, t3, fun i hi => ?_, ?_, t6, ?_, t8, ?_, ?_, jh_Is _ _ _ _, ?_, ?_⟩ <;> (rw [jh_In (by omega)]; first | assumption | exact t4 i hi)
theorem TX_s6 (t : TX h x B sz len p) (v : Int32) : TX (j_setI h x 6 v) x B sz len (tkK p, tkS p, tkE p, v, tkA p) := by
  obtain ⟨t1, t2, t3, t4, t5, t6, t7, t8, t9, t10, t11, t12, t13⟩ := t
  refine ⟨t1, t2, t3, fun i hi => ?_, ?_, t6, ?_, t8, ?_, ?_, ?_, jh_Is _ _ _ _, ?_⟩ <;> (rw [jh_In (by omega)]; first | assumption | exact t4 i hi)
theorem TX_s7 (t : TX h x B sz len p) (v : Int32) : TX (j_setI h x 7 v) x B sz len (tkK p, tkS p, tkE p, tkC p, v) := by
  obtain ⟨t1, t2, t3, t4, t5, t6, t7, t8, t9, t10, t11, t12, t13⟩ := t
  refine ⟨t1, t2, t3, fun i hi => ?_, ?_, t6, ?_, t8, ?_, ?_, ?_, ?_, jh_Is _ _ _ _⟩ <;> (rw [jh_In (by omega)]; first | assumption | exact t4 i hi)
theorem sp_X7_empty (hl : l.stackTraces = false) (t : TX h x B sz len p) (hB : j_bd E h) (H : ∀ h', TX h' x B 0 len p → Fr x (x + 1) h h' → Q (.inl none) h') : j_Met l D bs E (d + 1) n_X7_empty [.ref x] h Q := by
  refine j_meth hl rfl g_X7_empty (Nat.le_of_ble_eq_true rfl) (fun _ => ⟨_, _, rfl, t.1⟩) hB.1 hB.2 (fun G hG => ?_)
  refine b_X7_empty_0 hG ?_
  dsimp only [q_X7_empty_0, j_wp, j_opB, j_opA, j_nth, j_i1, j_i2, j_l1, j_l2, j_li, j_f1, j_f2, j_d1, j_d2, j_r1, j_ai, j_aii, j_ail, j_aid, j_air, j_st1, j_st2, j_stu, j_kl, j_cond, j_args, j_out, j_few, j_cw, j_nat, j_pad, j_exp, Nat.reduceAdd]
  simp only [TX_sh t, j_ref, j_ari, j_arb, j_arr, j_len, j_nar, j_oi, j_ol, j_of, j_od, j_or, j_ov, true_and, and_true]
  exact H _ (TX_s1 t (n := 0) (by omega)) (Fr_I Fr_rf (by omega) (by omega))
theorem sp_X7_kindAt (hl : l.stackTraces = false) (t : TX h x B sz len p) (hB : j_bd E h) {i : Nat} (hi : i ≤ 800) (H : Q (.inl (some (.int (nI (kAt B len i))))) h) : j_Met l D bs E (d + 1) n_X7_kindAt [.ref x, .int (nI i)] h Q := by
  have hlen := TX_l t
  refine j_meth hl rfl g_X7_kindAt (Nat.le_of_ble_eq_true rfl) (fun _ => ⟨_, _, rfl, t.1⟩) hB.1 hB.2 (fun G hG => ?_)
  refine b_X7_kindAt_0 hG ?_
  dsimp only [q_X7_kindAt_0, j_wp, j_opB, j_opA, j_nth, j_i1, j_i2, j_l1, j_l2, j_li, j_f1, j_f2, j_d1, j_d2, j_r1, j_ai, j_aii, j_ail, j_aid, j_air, j_st1, j_st2, j_stu, j_kl, j_cond, j_args, j_out, j_few, j_cw, j_nat, j_pad, j_exp, Nat.reduceAdd]
  simp only [TX_sh t, TX_2 t, TX_r t, TX_sb t, j_ref, j_ari, j_arb, j_arr, j_len, j_nar, j_oi, j_ol, j_of, j_od, j_or, j_ov, true_and, and_true]
  rw [if_neg (nI_pos (by omega))]
  unfold kAt at H
  by_cases g : i < len
  · rw [if_pos (nI_lt g (by omega)), if_pos (nI_lt (show i < 800 by omega) (by omega))]
    rw [if_pos g] at H
    refine b_X7_kindAt_23 hG ?_
    dsimp only [q_X7_kindAt_23, j_wp, j_opB, j_opA, j_nth, j_i1, j_i2, j_l1, j_l2, j_li, j_f1, j_f2, j_d1, j_d2, j_r1, j_ai, j_aii, j_ail, j_aid, j_air, j_st1, j_st2, j_stu, j_kl, j_cond, j_args, j_out, j_few, j_cw, j_nat, j_pad, j_exp, Nat.reduceAdd]
    simp only [TX_sh t, TX_r t, TX_sb t, j_ref, j_ari, j_arb, j_arr, j_len, j_nar, j_oi, j_ol, j_of, j_od, j_or, j_ov, true_and, and_true]
    refine ⟨vp_in_nI (show i < 800 by omega) (by omega), ?_⟩
    rw [nI_clamp (by omega), TX_b t (show i < 800 by omega)]
    unfold kcl at H
    by_cases g1 : B i = 32
    · rw [if_pos g1]
      rw [if_pos (Or.inl g1)] at H
      refine b_X7_kindAt_42 hG ?_
      dsimp only [q_X7_kindAt_42, j_wp, j_opB, j_opA, j_nth, j_i1, j_i2, j_l1, j_l2, j_li, j_f1, j_f2, j_d1, j_d2, j_r1, j_ai, j_aii, j_ail, j_aid, j_air, j_st1, j_st2, j_stu, j_kl, j_cond, j_args, j_out, j_few, j_cw, j_nat, j_pad, j_exp, Nat.reduceAdd]
      exact ⟨trivial, H⟩
    · rw [if_neg g1]
      by_cases g2 : B i = 10
      · rw [if_pos g2]
        rw [if_pos (Or.inr g2)] at H
        refine b_X7_kindAt_42 hG ?_
        dsimp only [q_X7_kindAt_42, j_wp, j_opB, j_opA, j_nth, j_i1, j_i2, j_l1, j_l2, j_li, j_f1, j_f2, j_d1, j_d2, j_r1, j_ai, j_aii, j_ail, j_aid, j_air, j_st1, j_st2, j_stu, j_kl, j_cond, j_args, j_out, j_few, j_cw, j_nat, j_pad, j_exp, Nat.reduceAdd]
        exact ⟨trivial, H⟩
      · rw [if_neg g2]
        rw [if_neg (fun z => z.elim g1 g2)] at H
        refine b_X7_kindAt_44 hG ?_
        dsimp only [q_X7_kindAt_44, j_wp, j_opB, j_opA, j_nth, j_i1, j_i2, j_l1, j_l2, j_li, j_f1, j_f2, j_d1, j_d2, j_r1, j_ai, j_aii, j_ail, j_aid, j_air, j_st1, j_st2, j_stu, j_kl, j_cond, j_args, j_out, j_few, j_cw, j_nat, j_pad, j_exp, Nat.reduceAdd]
        have dig : ∀ {z : Prop} [Decidable z], z = (¬ B i < 48 ∧ ¬ 57 < B i) → Q (.inl (some (.int (nI (if z then 3 else 4))))) h → G 58 [.ref x, .int (nI i), .int (B i)] [] h := by
          intro z _ e H
          subst e
          refine b_X7_kindAt_58 hG ?_
          dsimp only [q_X7_kindAt_58, j_wp, j_opB, j_opA, j_nth, j_i1, j_i2, j_l1, j_l2, j_li, j_f1, j_f2, j_d1, j_d2, j_r1, j_ai, j_aii, j_ail, j_aid, j_air, j_st1, j_st2, j_stu, j_kl, j_cond, j_args, j_out, j_few, j_cw, j_nat, j_pad, j_exp, Nat.reduceAdd]
          by_cases g5 : B i < 48
          · rw [if_pos g5]
            rw [if_neg (fun z => z.1 g5)] at H
            refine b_X7_kindAt_74 hG ?_
            dsimp only [q_X7_kindAt_74, j_wp, j_opB, j_opA, j_nth, j_i1, j_i2, j_l1, j_l2, j_li, j_f1, j_f2, j_d1, j_d2, j_r1, j_ai, j_aii, j_ail, j_aid, j_air, j_st1, j_st2, j_stu, j_kl, j_cond, j_args, j_out, j_few, j_cw, j_nat, j_pad, j_exp, Nat.reduceAdd]
            refine b_X7_kindAt_75 hG ?_
            dsimp only [q_X7_kindAt_75, j_wp, j_opB, j_opA, j_nth, j_i1, j_i2, j_l1, j_l2, j_li, j_f1, j_f2, j_d1, j_d2, j_r1, j_ai, j_aii, j_ail, j_aid, j_air, j_st1, j_st2, j_stu, j_kl, j_cond, j_args, j_out, j_few, j_cw, j_nat, j_pad, j_exp, Nat.reduceAdd]
            exact ⟨trivial, H⟩
          · rw [if_neg g5]
            by_cases g6 : 57 < B i
            · rw [if_pos g6]
              rw [if_neg (fun z => z.2 g6)] at H
              refine b_X7_kindAt_74 hG ?_
              dsimp only [q_X7_kindAt_74, j_wp, j_opB, j_opA, j_nth, j_i1, j_i2, j_l1, j_l2, j_li, j_f1, j_f2, j_d1, j_d2, j_r1, j_ai, j_aii, j_ail, j_aid, j_air, j_st1, j_st2, j_stu, j_kl, j_cond, j_args, j_out, j_few, j_cw, j_nat, j_pad, j_exp, Nat.reduceAdd]
              refine b_X7_kindAt_75 hG ?_
              dsimp only [q_X7_kindAt_75, j_wp, j_opB, j_opA, j_nth, j_i1, j_i2, j_l1, j_l2, j_li, j_f1, j_f2, j_d1, j_d2, j_r1, j_ai, j_aii, j_ail, j_aid, j_air, j_st1, j_st2, j_stu, j_kl, j_cond, j_args, j_out, j_few, j_cw, j_nat, j_pad, j_exp, Nat.reduceAdd]
              exact ⟨trivial, H⟩
            · rw [if_neg g6]
              rw [if_pos ⟨g5, g6⟩] at H
              refine b_X7_kindAt_75 hG ?_
              dsimp only [q_X7_kindAt_75, j_wp, j_opB, j_opA, j_nth, j_i1, j_i2, j_l1, j_l2, j_li, j_f1, j_f2, j_d1, j_d2, j_r1, j_ai, j_aii, j_ail, j_aid, j_air, j_st1, j_st2, j_stu, j_kl, j_cond, j_args, j_out, j_few, j_cw, j_nat, j_pad, j_exp, Nat.reduceAdd]
              exact ⟨trivial, H⟩
        by_cases g3 : B i < 97
        · rw [if_pos g3]
          rw [if_neg (fun z => z.1 g3)] at H
          exact dig rfl H
        · rw [if_neg g3]
          by_cases g4 : 122 < B i
          · rw [if_pos g4]
            rw [if_neg (fun z => z.2 g4)] at H
            exact dig rfl H
          · rw [if_neg g4]
            rw [if_pos ⟨g3, g4⟩] at H
            exact ⟨trivial, H⟩
  · rw [if_neg (nI_nlt (by omega) (by omega))]
    rw [if_neg g] at H
    refine b_X7_kindAt_21 hG ?_
    dsimp only [q_X7_kindAt_21, j_wp, j_opB, j_opA, j_nth, j_i1, j_i2, j_l1, j_l2, j_li, j_f1, j_f2, j_d1, j_d2, j_r1, j_ai, j_aii, j_ail, j_aid, j_air, j_st1, j_st2, j_stu, j_kl, j_cond, j_args, j_out, j_few, j_cw, j_nat, j_pad, j_exp, Nat.reduceAdd]
    exact ⟨trivial, H⟩
theorem sp_X7_byteAt (hl : l.stackTraces = false) (t : TX h x B sz len p) (hB : j_bd E h) {i : Nat} (hi : i < 800) (H : Q (.inl (some (.int (B i)))) h) : j_Met l D bs E (d + 1) n_X7_byteAt [.ref x, .int (nI i)] h Q := by
  refine j_meth hl rfl g_X7_byteAt (Nat.le_of_ble_eq_true rfl) (fun _ => ⟨_, _, rfl, t.1⟩) hB.1 hB.2 (fun G hG => ?_)
  refine b_X7_byteAt_0 hG ?_
  dsimp only [q_X7_byteAt_0, j_wp, j_opB, j_opA, j_nth, j_i1, j_i2, j_l1, j_l2, j_li, j_f1, j_f2, j_d1, j_d2, j_r1, j_ai, j_aii, j_ail, j_aid, j_air, j_st1, j_st2, j_stu, j_kl, j_cond, j_args, j_out, j_few, j_cw, j_nat, j_pad, j_exp, Nat.reduceAdd]
  simp only [TX_sh t, TX_r t, TX_sb t, j_ref, j_ari, j_arb, j_arr, j_len, j_nar, j_oi, j_ol, j_of, j_od, j_or, j_ov, true_and, and_true]
  rw [if_neg (nI_pos (by omega)), if_pos (nI_lt (show i < 800 by omega) (by omega))]
  refine ⟨vp_in_nI hi (by omega), ?_⟩
  rw [nI_clamp (by omega), TX_b t hi]
  refine b_X7_byteAt_23 hG ?_
  dsimp only [q_X7_byteAt_23, j_wp, j_opB, j_opA, j_nth, j_i1, j_i2, j_l1, j_l2, j_li, j_f1, j_f2, j_d1, j_d2, j_r1, j_ai, j_aii, j_ail, j_aid, j_air, j_st1, j_st2, j_stu, j_kl, j_cond, j_args, j_out, j_few, j_cw, j_nat, j_pad, j_exp, Nat.reduceAdd]
  exact ⟨trivial, H⟩
theorem sp_X7_next0 (hl : l.stackTraces = false) (t : TX h x B sz len p) (hB : j_bd E h) (hk : tkK p ≤ 5) (he : tkE p ≤ len) (H : ∀ h', TX h' x B sz len (tNext B len p) → Fr x (x + 1) h h' → Q (.inl none) h') : j_Met l D bs E (d + 2) n_X7_next [.ref x] h Q := by
  have hlen := TX_l t
  unfold tNext at H
  refine j_meth hl rfl g_X7_next (Nat.le_of_ble_eq_true rfl) (fun _ => ⟨_, _, rfl, t.1⟩) hB.1 hB.2 (fun G hG => ?_)
  refine b_X7_next_0 hG ?_
  dsimp only [q_X7_next_0, j_wp, j_opB, j_opA, j_nth, j_i1, j_i2, j_l1, j_l2, j_li, j_f1, j_f2, j_d1, j_d2, j_r1, j_ai, j_aii, j_ail, j_aid, j_air, j_st1, j_st2, j_stu, j_kl, j_cond, j_args, j_out, j_few, j_cw, j_nat, j_pad, j_exp, Nat.reduceAdd]
  simp only [TX_sh t, TX_3 t, j_ref, j_ari, j_arb, j_arr, j_len, j_nar, j_oi, j_ol, j_of, j_od, j_or, j_ov, true_and, and_true]
  by_cases g : tkK p = 5
  · rw [if_pos g] at H
    rw [g, if_pos (show nI 5 = 5 by decide)]
    exact H h t Fr_rf
  · rw [if_neg g] at H
    rw [if_neg (show ¬ nI (tkK p) = 5 from fun z => g ((nI_eq (by omega) (by omega)).mp (show nI (tkK p) = nI 5 from z)))]
    refine b_X7_next_9 hG ?_
    dsimp only [q_X7_next_9, j_wp, j_opB, j_opA, j_nth, j_i1, j_i2, j_l1, j_l2, j_li, j_f1, j_f2, j_d1, j_d2, j_r1, j_ai, j_aii, j_ail, j_aid, j_air, j_st1, j_st2, j_stu, j_kl, j_cond, j_args, j_out, j_few, j_cw, j_nat, j_pad, j_exp, Nat.reduceAdd]
    simp only [TX_sh t, TX_5 t, j_ref, j_ari, j_arb, j_arr, j_len, j_nar, j_oi, j_ol, j_of, j_od, j_or, j_ov, true_and, and_true]
    -- the end
    have fin : ∀ (k s e : Nat) (h1 : j_H) (e0 : Nat), TX h1 x B sz len (k, s, e0, tkC p, tkA p) → Fr x (x + 1) h h1 → (k, s, e) = tok B len (tkE p) → G 91 [.ref x, .int (nI e)] [] h1 := by
      intro k s e h1 e0 t1 f1 e1
      refine b_X7_next_91 hG ?_
      dsimp only [q_X7_next_91, j_wp, j_opB, j_opA, j_nth, j_i1, j_i2, j_l1, j_l2, j_li, j_f1, j_f2, j_d1, j_d2, j_r1, j_ai, j_aii, j_ail, j_aid, j_air, j_st1, j_st2, j_stu, j_kl, j_cond, j_args, j_out, j_few, j_cw, j_nat, j_pad, j_exp, Nat.reduceAdd]
      simp only [TX_sh t1, j_ref, j_ari, j_arb, j_arr, j_len, j_nar, j_oi, j_ol, j_of, j_od, j_or, j_ov, true_and, and_true]
      have t2 := TX_s5 t1 e
      rw [← e1] at H
      exact H _ t2 (Fr_I f1 (by omega) (by omega))
    -- the token's own run
    have two : ∀ (c s : Nat) (h1 : j_H) (e0 : Nat), TX h1 x B sz len (c, s, e0, tkC p, tkA p) → Fr x (x + 1) h h1 → c ≤ 4 → ∀ (k i : Nat), i + k = len → (c, s, tRun B len c k i) = tok B len (tkE p) → G 65 [.ref x, .int (nI i)] [] h1 := by
      intro c s h1 e0 t1 f1 hc k
      have hB1 := Fr_bd f1 hB
      induction k with
      | zero =>
        intro i hi e1
        refine b_X7_next_65 hG ?_
        dsimp only [q_X7_next_65, j_wp, j_opB, j_opA, j_nth, j_i1, j_i2, j_l1, j_l2, j_li, j_f1, j_f2, j_d1, j_d2, j_r1, j_ai, j_aii, j_ail, j_aid, j_air, j_st1, j_st2, j_stu, j_kl, j_cond, j_args, j_out, j_few, j_cw, j_nat, j_pad, j_exp, Nat.reduceAdd]
        simp only [TX_sh t1, TX_2 t1, j_ref, j_ari, j_arb, j_arr, j_len, j_nar, j_oi, j_ol, j_of, j_od, j_or, j_ov, true_and, and_true]
        rw [if_neg (nI_nlt (by omega) (by omega))]
        exact fin c s i h1 e0 t1 f1 e1
      | succ k ih =>
        intro i hi e1
        unfold tRun at e1
        refine b_X7_next_65 hG ?_
        dsimp only [q_X7_next_65, j_wp, j_opB, j_opA, j_nth, j_i1, j_i2, j_l1, j_l2, j_li, j_f1, j_f2, j_d1, j_d2, j_r1, j_ai, j_aii, j_ail, j_aid, j_air, j_st1, j_st2, j_stu, j_kl, j_cond, j_args, j_out, j_few, j_cw, j_nat, j_pad, j_exp, Nat.reduceAdd]
        simp only [TX_sh t1, TX_2 t1, j_ref, j_ari, j_arb, j_arr, j_len, j_nar, j_oi, j_ol, j_of, j_od, j_or, j_ov, true_and, and_true]
        rw [if_pos (nI_lt (by omega) (by omega))]
        refine sp_X7_kindAt hl t1 hB1 (i := i) (by omega) ?_
        simp only [TX_sh t1, TX_3 t1, j_ref, j_ari, j_arb, j_arr, j_len, j_nar, j_oi, j_ol, j_of, j_od, j_or, j_ov, true_and, and_true]
        have hkk := kAt_le B len i
        have e3 : tkK (c, s, e0, tkC p, tkA p) = c := rfl
        rw [e3]
        by_cases g2 : kAt B len i = c
        · rw [if_pos g2] at e1
          rw [if_pos (by rw [g2]), nI_1]
          exact ih (i + 1) (by omega) e1
        · rw [if_neg g2] at e1
          rw [if_neg (fun z => g2 ((nI_eq (by omega) (by omega)).mp z))]
          exact fin c s i h1 e0 t1 f1 e1
    have mid : ∀ (s : Nat), s ≤ len → s = tRun B len 1 (len - tkE p) (tkE p) → G 37 [.ref x, .int (nI s)] [] h := by
      intro s hs es
      refine b_X7_next_37 hG ?_
      dsimp only [q_X7_next_37, j_wp, j_opB, j_opA, j_nth, j_i1, j_i2, j_l1, j_l2, j_li, j_f1, j_f2, j_d1, j_d2, j_r1, j_ai, j_aii, j_ail, j_aid, j_air, j_st1, j_st2, j_stu, j_kl, j_cond, j_args, j_out, j_few, j_cw, j_nat, j_pad, j_exp, Nat.reduceAdd]
      simp only [TX_sh t, j_ref, j_ari, j_arb, j_arr, j_len, j_nar, j_oi, j_ol, j_of, j_od, j_or, j_ov, true_and, and_true]
      have t1 := TX_s4 t s
      have f1 : Fr x (x + 1) h (j_setI h x 4 (nI s)) := Fr_I Fr_rf (by omega) (by omega)
      refine sp_X7_kindAt hl t1 (Fr_bd f1 hB) (i := s) (by omega) ?_
      simp only [TX_sh t1, j_ref, j_ari, j_arb, j_arr, j_len, j_nar, j_oi, j_ol, j_of, j_od, j_or, j_ov, true_and, and_true]
      have t2 := TX_s3 t1 (kAt B len s)
      have f2 : Fr x (x + 1) h (j_setI (j_setI h x 4 (nI s)) x 3 (nI (kAt B len s))) := Fr_I f1 (by omega) (by omega)
      simp only [TX_sh t2, TX_3 t2, j_ref, j_ari, j_arb, j_arr, j_len, j_nar, j_oi, j_ol, j_of, j_od, j_or, j_ov, true_and, and_true]
      have hkk := kAt_le B len s
      have e3 : tkK (kAt B len s, tkS (tkK p, s, tkE p, tkC p, tkA p), tkE (tkK p, s, tkE p, tkC p, tkA p), tkC (tkK p, s, tkE p, tkC p, tkA p), tkA (tkK p, s, tkE p, tkC p, tkA p)) = kAt B len s := rfl
      rw [e3]
      by_cases g4 : kAt B len s = 4
      · rw [if_pos (show nI (kAt B len s) = 4 by rw [g4]; decide), nI_1]
        refine fin (kAt B len s) s (s + 1) _ (tkE p) t2 f2 ?_
        unfold tok
        rw [← es]
        dsimp only
        rw [if_pos g4]
      · rw [if_neg (show ¬ nI (kAt B len s) = 4 from fun z => g4 ((nI_eq (by omega) (by omega)).mp (show nI (kAt B len s) = nI 4 from z)))]
        refine two (kAt B len s) s _ (tkE p) t2 f2 hkk (len - s) s (by omega) ?_
        unfold tok
        rw [← es]
        dsimp only
        rw [if_neg g4]
    have one : ∀ (k i : Nat), i + k = len → tRun B len 1 k i = tRun B len 1 (len - tkE p) (tkE p) → G 14 [.ref x, .int (nI i)] [] h := by
      intro k
      induction k with
      | zero =>
        intro i hi e1
        refine b_X7_next_14 hG ?_
        dsimp only [q_X7_next_14, j_wp, j_opB, j_opA, j_nth, j_i1, j_i2, j_l1, j_l2, j_li, j_f1, j_f2, j_d1, j_d2, j_r1, j_ai, j_aii, j_ail, j_aid, j_air, j_st1, j_st2, j_stu, j_kl, j_cond, j_args, j_out, j_few, j_cw, j_nat, j_pad, j_exp, Nat.reduceAdd]
        simp only [TX_sh t, TX_2 t, j_ref, j_ari, j_arb, j_arr, j_len, j_nar, j_oi, j_ol, j_of, j_od, j_or, j_ov, true_and, and_true]
        rw [if_neg (nI_nlt (by omega) (by omega))]
        exact mid i (by omega) e1
      | succ k ih =>
        intro i hi e1
        unfold tRun at e1
        refine b_X7_next_14 hG ?_
        dsimp only [q_X7_next_14, j_wp, j_opB, j_opA, j_nth, j_i1, j_i2, j_l1, j_l2, j_li, j_f1, j_f2, j_d1, j_d2, j_r1, j_ai, j_aii, j_ail, j_aid, j_air, j_st1, j_st2, j_stu, j_kl, j_cond, j_args, j_out, j_few, j_cw, j_nat, j_pad, j_exp, Nat.reduceAdd]
        simp only [TX_sh t, TX_2 t, j_ref, j_ari, j_arb, j_arr, j_len, j_nar, j_oi, j_ol, j_of, j_od, j_or, j_ov, true_and, and_true]
        rw [if_pos (nI_lt (by omega) (by omega))]
        refine sp_X7_kindAt hl t hB (i := i) (by omega) ?_
        simp only [j_ref, j_ari, j_arb, j_arr, j_len, j_nar, j_oi, j_ol, j_of, j_od, j_or, j_ov, true_and, and_true]
        have hkk := kAt_le B len i
        by_cases g2 : kAt B len i = 1
        · rw [if_pos g2] at e1
          rw [if_pos (show nI (kAt B len i) = 1 by rw [g2]; decide), nI_1]
          exact ih (i + 1) (by omega) (by rw [e1]; exact (tRun.eq_def _ _ _ _ _).symm)
        · rw [if_neg g2] at e1
          rw [if_neg (show ¬ nI (kAt B len i) = 1 from fun z => g2 ((nI_eq (by omega) (by omega)).mp (show nI (kAt B len i) = nI 1 from z)))]
          exact mid i (by omega) (by rw [e1]; exact (tRun.eq_def _ _ _ _ _).symm)
    exact one (len - tkE p) (tkE p) (by omega) rfl
theorem sp_X7_next (hl : l.stackTraces = false) (t : TX h x B sz len p) (hB : j_bd E h) (ok : tkOk len p) (H : ∀ h', TX h' x B sz len (tNext B len p) → Fr x (x + 1) h h' → Q (.inl none) h') : j_Met l D bs E (d + 2) n_X7_next [.ref x] h Q := sp_X7_next0 hl t hB ok.1 ok.2.2.1 H
theorem sp_X7_fail (hl : l.stackTraces = false) (t : TX h x B sz len p) (hB : j_bd E h) (ok : tkOk len p) {c : Int32} (H : ∀ h', TX h' x B sz len (tFail p c) → Fr x (x + 1) h h' → Q (.inl none) h') : j_Met l D bs E (d + 1) n_X7_fail [.ref x, .int c] h Q := by
  unfold tFail at H
  have hk := ok.1
  refine j_meth hl rfl g_X7_fail (Nat.le_of_ble_eq_true rfl) (fun _ => ⟨_, _, rfl, t.1⟩) hB.1 hB.2 (fun G hG => ?_)
  refine b_X7_fail_0 hG ?_
  dsimp only [q_X7_fail_0, j_wp, j_opB, j_opA, j_nth, j_i1, j_i2, j_l1, j_l2, j_li, j_f1, j_f2, j_d1, j_d2, j_r1, j_ai, j_aii, j_ail, j_aid, j_air, j_st1, j_st2, j_stu, j_kl, j_cond, j_args, j_out, j_few, j_cw, j_nat, j_pad, j_exp, Nat.reduceAdd]
  simp only [TX_sh t, TX_3 t, j_ref, j_ari, j_arb, j_arr, j_len, j_nar, j_oi, j_ol, j_of, j_od, j_or, j_ov, true_and, and_true]
  by_cases g : tkK p = 5
  · rw [if_pos g] at H
    rw [g, if_pos (show nI 5 = 5 by decide)]
    refine b_X7_fail_26 hG ?_
    dsimp only [q_X7_fail_26, j_wp, j_opB, j_opA, j_nth, j_i1, j_i2, j_l1, j_l2, j_li, j_f1, j_f2, j_d1, j_d2, j_r1, j_ai, j_aii, j_ail, j_aid, j_air, j_st1, j_st2, j_stu, j_kl, j_cond, j_args, j_out, j_few, j_cw, j_nat, j_pad, j_exp, Nat.reduceAdd]
    exact H h t Fr_rf
  · rw [if_neg g] at H
    rw [if_neg (show ¬ nI (tkK p) = 5 from fun z => g ((nI_eq (by omega) (by omega)).mp (show nI (tkK p) = nI 5 from z)))]
    have t1 := TX_s6 t c
    simp only [TX_sh t1, TX_4 t1, tkS_m, j_ref, j_ari, j_arb, j_arr, j_len, j_nar, j_oi, j_ol, j_of, j_od, j_or, j_ov, true_and, and_true]
    have t2 := TX_s7 t1 (nI (tkS p))
    simp only [TX_sh t2, j_ref, j_ari, j_arb, j_arr, j_len, j_nar, j_oi, j_ol, j_of, j_od, j_or, j_ov, true_and, and_true]
    have t3 := TX_s3 t2 5
    refine b_X7_fail_26 hG ?_
    dsimp only [q_X7_fail_26, j_wp, j_opB, j_opA, j_nth, j_i1, j_i2, j_l1, j_l2, j_li, j_f1, j_f2, j_d1, j_d2, j_r1, j_ai, j_aii, j_ail, j_aid, j_air, j_st1, j_st2, j_stu, j_kl, j_cond, j_args, j_out, j_few, j_cw, j_nat, j_pad, j_exp, Nat.reduceAdd]
    exact H _ t3 (Fr_I (Fr_I (Fr_I Fr_rf (by omega) (by omega)) (by omega) (by omega)) (by omega) (by omega))
theorem sp_X7_goesOn (hl : l.stackTraces = false) (t : TX h x B sz len p) (hB : j_bd E h) (ok : tkOk len p) (H : Q (.inl (some (.int (if tkK p = 0 ∨ tkK p = 5 then 0 else 1)))) h) : j_Met l D bs E (d + 1) n_X7_goesOn [.ref x] h Q := by
  have hk := ok.1
  refine j_meth hl rfl g_X7_goesOn (Nat.le_of_ble_eq_true rfl) (fun _ => ⟨_, _, rfl, t.1⟩) hB.1 hB.2 (fun G hG => ?_)
  refine b_X7_goesOn_0 hG ?_
  dsimp only [q_X7_goesOn_0, j_wp, j_opB, j_opA, j_nth, j_i1, j_i2, j_l1, j_l2, j_li, j_f1, j_f2, j_d1, j_d2, j_r1, j_ai, j_aii, j_ail, j_aid, j_air, j_st1, j_st2, j_stu, j_kl, j_cond, j_args, j_out, j_few, j_cw, j_nat, j_pad, j_exp, Nat.reduceAdd]
  simp only [TX_sh t, TX_3 t, j_ref, j_ari, j_arb, j_arr, j_len, j_nar, j_oi, j_ol, j_of, j_od, j_or, j_ov, true_and, and_true]
  by_cases g : tkK p = 0
  · rw [if_pos (show nI (tkK p) = 0 by rw [g]; decide)]
    rw [if_pos (Or.inl g)] at H
    refine b_X7_goesOn_19 hG ?_
    dsimp only [q_X7_goesOn_19, j_wp, j_opB, j_opA, j_nth, j_i1, j_i2, j_l1, j_l2, j_li, j_f1, j_f2, j_d1, j_d2, j_r1, j_ai, j_aii, j_ail, j_aid, j_air, j_st1, j_st2, j_stu, j_kl, j_cond, j_args, j_out, j_few, j_cw, j_nat, j_pad, j_exp, Nat.reduceAdd]
    refine b_X7_goesOn_20 hG ?_
    dsimp only [q_X7_goesOn_20, j_wp, j_opB, j_opA, j_nth, j_i1, j_i2, j_l1, j_l2, j_li, j_f1, j_f2, j_d1, j_d2, j_r1, j_ai, j_aii, j_ail, j_aid, j_air, j_st1, j_st2, j_stu, j_kl, j_cond, j_args, j_out, j_few, j_cw, j_nat, j_pad, j_exp, Nat.reduceAdd]
    exact ⟨Or.inl rfl, H⟩
  · rw [if_neg (show ¬ nI (tkK p) = 0 from fun z => g ((nI_eq (by omega) (by omega)).mp (show nI (tkK p) = nI 0 from z)))]
    by_cases g2 : tkK p = 5
    · rw [if_pos (show nI (tkK p) = 5 by rw [g2]; decide)]
      rw [if_pos (Or.inr g2)] at H
      refine b_X7_goesOn_19 hG ?_
      dsimp only [q_X7_goesOn_19, j_wp, j_opB, j_opA, j_nth, j_i1, j_i2, j_l1, j_l2, j_li, j_f1, j_f2, j_d1, j_d2, j_r1, j_ai, j_aii, j_ail, j_aid, j_air, j_st1, j_st2, j_stu, j_kl, j_cond, j_args, j_out, j_few, j_cw, j_nat, j_pad, j_exp, Nat.reduceAdd]
      refine b_X7_goesOn_20 hG ?_
      dsimp only [q_X7_goesOn_20, j_wp, j_opB, j_opA, j_nth, j_i1, j_i2, j_l1, j_l2, j_li, j_f1, j_f2, j_d1, j_d2, j_r1, j_ai, j_aii, j_ail, j_aid, j_air, j_st1, j_st2, j_stu, j_kl, j_cond, j_args, j_out, j_few, j_cw, j_nat, j_pad, j_exp, Nat.reduceAdd]
      exact ⟨Or.inl rfl, H⟩
    · rw [if_neg (show ¬ nI (tkK p) = 5 from fun z => g2 ((nI_eq (by omega) (by omega)).mp (show nI (tkK p) = nI 5 from z)))]
      rw [if_neg (fun z => z.elim g g2)] at H
      refine b_X7_goesOn_20 hG ?_
      dsimp only [q_X7_goesOn_20, j_wp, j_opB, j_opA, j_nth, j_i1, j_i2, j_l1, j_l2, j_li, j_f1, j_f2, j_d1, j_d2, j_r1, j_ai, j_aii, j_ail, j_aid, j_air, j_st1, j_st2, j_stu, j_kl, j_cond, j_args, j_out, j_few, j_cw, j_nat, j_pad, j_exp, Nat.reduceAdd]
      exact ⟨Or.inr rfl, H⟩
theorem sp_X7_isSign (hl : l.stackTraces = false) (t : TX h x B sz len p) (hB : j_bd E h) (ok : tkOk len p) {c : Nat} (H : Q (.inl (some (.int (if tIsS B p c = true then 1 else 0)))) h) : j_Met l D bs E (d + 2) n_X7_isSign [.ref x, .int (nI c)] h Q := by
  have hk := ok.1
  unfold tIsS at H
  refine j_meth hl rfl g_X7_isSign (Nat.le_of_ble_eq_true rfl) (fun _ => ⟨_, _, rfl, t.1⟩) hB.1 hB.2 (fun G hG => ?_)
  refine b_X7_isSign_0 hG ?_
  dsimp only [q_X7_isSign_0, j_wp, j_opB, j_opA, j_nth, j_i1, j_i2, j_l1, j_l2, j_li, j_f1, j_f2, j_d1, j_d2, j_r1, j_ai, j_aii, j_ail, j_aid, j_air, j_st1, j_st2, j_stu, j_kl, j_cond, j_args, j_out, j_few, j_cw, j_nat, j_pad, j_exp, Nat.reduceAdd]
  simp only [TX_sh t, TX_3 t, TX_4 t, j_ref, j_ari, j_arb, j_arr, j_len, j_nar, j_oi, j_ol, j_of, j_od, j_or, j_ov, true_and, and_true]
  by_cases g : tkK p = 4
  · rw [if_pos (show nI (tkK p) = 4 by rw [g]; decide)]
    refine sp_X7_byteAt hl t hB (by have := ok.2.2.2.1 g; have := ok.2.2.1; have := TX_l t; omega) ?_
    simp only [j_ref, j_ari, j_arb, j_arr, j_len, j_nar, j_oi, j_ol, j_of, j_od, j_or, j_ov, true_and, and_true]
    by_cases g2 : B (tkS p) = nI c
    · rw [if_pos g2]
      simp only [g, g2, decide_true, Bool.and_true, if_true] at H
      refine b_X7_isSign_25 hG ?_
      dsimp only [q_X7_isSign_25, j_wp, j_opB, j_opA, j_nth, j_i1, j_i2, j_l1, j_l2, j_li, j_f1, j_f2, j_d1, j_d2, j_r1, j_ai, j_aii, j_ail, j_aid, j_air, j_st1, j_st2, j_stu, j_kl, j_cond, j_args, j_out, j_few, j_cw, j_nat, j_pad, j_exp, Nat.reduceAdd]
      exact ⟨Or.inr rfl, H⟩
    · rw [if_neg g2]
      simp only [g, g2, decide_true, decide_false, Bool.and_false, Bool.false_eq_true, if_false] at H
      refine b_X7_isSign_24 hG ?_
      dsimp only [q_X7_isSign_24, j_wp, j_opB, j_opA, j_nth, j_i1, j_i2, j_l1, j_l2, j_li, j_f1, j_f2, j_d1, j_d2, j_r1, j_ai, j_aii, j_ail, j_aid, j_air, j_st1, j_st2, j_stu, j_kl, j_cond, j_args, j_out, j_few, j_cw, j_nat, j_pad, j_exp, Nat.reduceAdd]
      refine b_X7_isSign_25 hG ?_
      dsimp only [q_X7_isSign_25, j_wp, j_opB, j_opA, j_nth, j_i1, j_i2, j_l1, j_l2, j_li, j_f1, j_f2, j_d1, j_d2, j_r1, j_ai, j_aii, j_ail, j_aid, j_air, j_st1, j_st2, j_stu, j_kl, j_cond, j_args, j_out, j_few, j_cw, j_nat, j_pad, j_exp, Nat.reduceAdd]
      exact ⟨Or.inl rfl, H⟩
  · rw [if_neg (show ¬ nI (tkK p) = 4 from fun z => g ((nI_eq (by omega) (by omega)).mp (show nI (tkK p) = nI 4 from z)))]
    simp only [g, decide_false, Bool.false_and, Bool.false_eq_true, if_false] at H
    refine b_X7_isSign_24 hG ?_
    dsimp only [q_X7_isSign_24, j_wp, j_opB, j_opA, j_nth, j_i1, j_i2, j_l1, j_l2, j_li, j_f1, j_f2, j_d1, j_d2, j_r1, j_ai, j_aii, j_ail, j_aid, j_air, j_st1, j_st2, j_stu, j_kl, j_cond, j_args, j_out, j_few, j_cw, j_nat, j_pad, j_exp, Nat.reduceAdd]
    refine b_X7_isSign_25 hG ?_
    dsimp only [q_X7_isSign_25, j_wp, j_opB, j_opA, j_nth, j_i1, j_i2, j_l1, j_l2, j_li, j_f1, j_f2, j_d1, j_d2, j_r1, j_ai, j_aii, j_ail, j_aid, j_air, j_st1, j_st2, j_stu, j_kl, j_cond, j_args, j_out, j_few, j_cw, j_nat, j_pad, j_exp, Nat.reduceAdd]
    exact ⟨Or.inl rfl, H⟩
end Txt

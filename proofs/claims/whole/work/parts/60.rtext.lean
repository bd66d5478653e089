/-! ===== the reference: tokens =====
B are the bytes as the class has them (signed); the reference's buffer has them unsigned. -/
def bRel (b u : Int32) : Prop := ∃ k : Fin 256, u = nI k.1 ∧ b = (if k.1 < 128 then nI k.1 else nI k.1 - 256)
theorem bRel_k0 : ∀ k : Fin 256, kcl (nI k.1) = kcl (if k.1 < 128 then nI k.1 else nI k.1 - 256) := by decide +kernel
theorem bRel_d0 : ∀ k : Fin 256, kcl (if k.1 < 128 then nI k.1 else nI k.1 - 256) = 3 → nI k.1 = (if k.1 < 128 then nI k.1 else nI k.1 - 256) := by decide +kernel
theorem bRel_n0 : ∀ k : Fin 256, ¬ k.1 < 128 → nI k.1 - 256 < 0 := by decide +kernel
theorem bRel_k {b u : Int32} (h : bRel b u) : kcl u = kcl b := by
  obtain ⟨k, rfl, rfl⟩ := h
  exact bRel_k0 k
theorem bRel_d {b u : Int32} (h : bRel b u) (h3 : kcl b = 3) : u = b := by
  obtain ⟨k, rfl, rfl⟩ := h
  exact bRel_d0 k h3
theorem bRel_e {b u : Int32} (h : bRel b u) {c : Nat} (hc : c < 128) : u = nI c ↔ b = nI c := by
  obtain ⟨k, rfl, rfl⟩ := h
  have hk := k.2
  by_cases g : k.1 < 128
  · rw [if_pos g]
  · rw [if_neg g]
    constructor
    · intro e
      have := (nI_eq (by omega) (by omega)).mp e
      omega
    · intro e
      have h1 := bRel_n0 k g
      rw [e] at h1
      exact absurd h1 (nI_pos (by omega))
def tkNo (k : Nat) : Int32 := if k = 0 then 0 else if k = 2 then 1 else if k = 3 then 2 else 3
theorem kcl_2 {b : Int32} : kcl b = 2 ↔ (¬ b < 97 ∧ ¬ 122 < b) := by
  unfold kcl
  constructor
  · intro h
    split at h
    · exact absurd h (by decide)
    · split at h
      · assumption
      · split at h <;> exact absurd h (by decide)
  · intro h
    rw [if_neg (fun z => z.elim (fun e => h.1 (by rw [e]; decide)) (fun e => h.1 (by rw [e]; decide))), if_pos h]
theorem kcl_3 {b : Int32} : kcl b = 3 ↔ (¬ b < 48 ∧ ¬ 57 < b) := by
  unfold kcl
  constructor
  · intro h
    split at h
    · exact absurd h (by decide)
    · split at h
      · exact absurd h (by decide)
      · split at h
        · assumption
        · exact absurd h (by decide)
  · intro h
    rw [if_neg (fun z => z.elim (fun e => h.1 (by rw [e]; decide)) (fun e => h.1 (by rw [e]; decide))), if_neg (fun z => ?_), if_pos h]
    have z1 := z.1
    have z2 := h.2
    have e1 : ¬ b.toInt < 97 := fun y => z1 (Int32.lt_iff_toInt_lt.mpr y)
    have e2 : ¬ 57 < b.toInt := fun y => z2 (Int32.lt_iff_toInt_lt.mpr y)
    omega
theorem kcl_1 {b : Int32} : kcl b = 1 ↔ (b = 32 ∨ b = 10) := by
  unfold kcl
  constructor
  · intro h
    split at h
    · assumption
    · split at h
      · exact absurd h (by decide)
      · split at h <;> exact absurd h (by decide)
  · intro h
    rw [if_pos h]
theorem tRun_end {B : Nat → Int32} {len c : Nat} (hc : c ≠ 0) : ∀ {k i : Nat}, i + k = len → kAt B len (tRun B len c k i) ≠ c := by
  intro k
  induction k with
  | zero =>
    intro i hi
    unfold tRun kAt
    rw [if_neg (by omega)]
    exact fun z => hc z.symm
  | succ k ih =>
    intro i hi
    unfold tRun
    split
    · exact ih (by omega)
    · assumption
theorem tok_1 {B : Nat → Int32} {len i : Nat} (hi : i ≤ len) : (tok B len i).1 ≠ 1 := tRun_end (c := 1) (by omega) (by omega)
theorem tRun_in {B : Nat → Int32} {len c : Nat} : ∀ {k i j : Nat}, i ≤ j → j < tRun B len c k i → kAt B len j = c := by
  intro k
  induction k with
  | zero => intro i j h1 h2; unfold tRun at h2; omega
  | succ k ih =>
    intro i j h1 h2
    unfold tRun at h2
    split at h2
    · rename_i g
      by_cases e : j = i
      · rw [e]; exact g
      · exact ih (by omega) h2
    · omega
/-- a number's bytes are digits -/
def tkD (B : Nat → Int32) (len : Nat) (p : Tk) : Prop := tkK p ≠ 1 ∧ (tkK p = 3 → ∀ i, tkS p ≤ i → i < tkE p → kAt B len i = 3)
theorem tNext_d {B : Nat → Int32} {len : Nat} {p : Tk} (ok : tkOk len p) (h : tkD B len p) : tkD B len (tNext B len p) := by
  unfold tNext
  split
  · exact h
  · refine ⟨tok_1 ok.2.2.1, fun e i h1 h2 => ?_⟩
    have e1 : (tok B len (tkE p)).1 = 3 := e
    have e2 : (tok B len (tkE p)).2.2 = tRun B len (kAt B len (tok B len (tkE p)).2.1) (len - (tok B len (tkE p)).2.1) (tok B len (tkE p)).2.1 := by
      show (if kAt B len (tRun B len 1 (len - tkE p) (tkE p)) = 4 then _ else _) = _
      rw [if_neg (by rw [show kAt B len (tRun B len 1 (len - tkE p) (tkE p)) = 3 from e1]; decide)]
      rfl
    have h3 : i < (tok B len (tkE p)).2.2 := h2
    rw [e2] at h3
    have := tRun_in (i := (tok B len (tkE p)).2.1) h1 h3
    rw [this]
    exact e1
theorem tFail_d {B : Nat → Int32} {len : Nat} {p : Tk} {c : Int32} (h : tkD B len p) : tkD B len (tFail p c) := by
  unfold tFail
  split
  · exact h
  · exact ⟨fun z => absurd (show (5 : Nat) = 1 from z) (by decide), fun z => absurd (show (5 : Nat) = 3 from z) (by decide)⟩
section RTx
variable {l : Launch} {D : va_G} {bs : Nat} {E : j_E} {h0 h : j_H} {m : Nat} {d : Nat} {Q : j_O → j_H → Prop} {B : Nat → Int32} {sz len : Nat} {p : Tk} {Md : Rf}
/-- the reference's buffer, its length and the limit of the text -/
def RB (h : j_H) (m : Nat) (B : Nat → Int32) (sz len : Nat) : Prop := mk h m ∧ (∀ i, i < 800 → bRel (B i) (j_I h (m + 11) i)) ∧ (j_I h m 15 = nI sz ∧ sz ≤ 800) ∧ j_I h m 16 = nI len ∧ len ≤ 800
theorem RB_s (r : RB h m B sz len) {k : Nat} (v : Int32) (hk : 17 ≤ k) : RB (j_setI h m k v) m B sz len := by
  obtain ⟨r1, r2, ⟨r3, r4⟩, r5, r6⟩ := r
  exact ⟨r1, fun i hi => by rw [jh_In (by omega)]; exact r2 i hi, ⟨by rw [jh_In (by omega)]; exact r3, r4⟩, by rw [jh_In (by omega)]; exact r5, r6⟩
theorem RB_sh (r : RB h m B sz len) : j_sh h m = some (.inr 11) := mk_sh r.1
theorem RB_14 (r : RB h m B sz len) : j_R h m 14 = some (m + 11) := mk_r14 r.1
theorem RB_a (r : RB h m B sz len) : j_sh h (m + 11) = some (.inl (0, 800)) := mk_a14 r.1
theorem RB_16 (r : RB h m B sz len) : j_I h m 16 = nI len := r.2.2.2.1
theorem RB_l (r : RB h m B sz len) : len ≤ 800 := r.2.2.2.2
theorem sp_X9_byteAt (hl : l.stackTraces = false) (r : RB h m B sz len) (hB : j_bd E h) {i : Nat} (hi : i ≤ 800) (H : Q (.inl (some (.int (if i < len then j_I h (m + 11) i else -1)))) h) : j_Met l D bs E (d + 1) n_X9_byteAt [.ref m, .int (nI i)] h Q := by
  have hlen := RB_l r
  refine j_meth hl rfl g_X9_byteAt (Nat.le_of_ble_eq_true rfl) (fun _ => ⟨_, _, rfl, (RB_sh r)⟩) hB.1 hB.2 (fun G hG => ?_)
  refine b_X9_byteAt_0 hG ?_
  dsimp only [q_X9_byteAt_0, j_wp, j_opB, j_opA, j_nth, j_i1, j_i2, j_l1, j_l2, j_li, j_f1, j_f2, j_d1, j_d2, j_r1, j_ai, j_aii, j_ail, j_aid, j_air, j_st1, j_st2, j_stu, j_kl, j_cond, j_args, j_out, j_few, j_cw, j_nat, j_pad, j_exp, Nat.reduceAdd]
  simp only [RB_sh r, RB_16 r, RB_14 r, RB_a r, j_ref, j_ari, j_arb, j_arr, j_len, j_nar, j_oi, j_ol, j_of, j_od, j_or, j_ov, true_and, and_true]
  by_cases g : i < len
  · rw [if_pos (nI_lt g (by omega))]
    rw [if_pos g] at H
    refine ⟨vp_in_nI (show i < 800 by omega) (by omega), ?_⟩
    rw [nI_clamp (by omega)]
    refine b_X9_byteAt_18 hG ?_
    dsimp only [q_X9_byteAt_18, j_wp, j_opB, j_opA, j_nth, j_i1, j_i2, j_l1, j_l2, j_li, j_f1, j_f2, j_d1, j_d2, j_r1, j_ai, j_aii, j_ail, j_aid, j_air, j_st1, j_st2, j_stu, j_kl, j_cond, j_args, j_out, j_few, j_cw, j_nat, j_pad, j_exp, Nat.reduceAdd]
    exact ⟨trivial, H⟩
  · rw [if_neg (nI_nlt (by omega) (by omega))]
    rw [if_neg g] at H
    refine b_X9_byteAt_17 hG ?_
    dsimp only [q_X9_byteAt_17, j_wp, j_opB, j_opA, j_nth, j_i1, j_i2, j_l1, j_l2, j_li, j_f1, j_f2, j_d1, j_d2, j_r1, j_ai, j_aii, j_ail, j_aid, j_air, j_st1, j_st2, j_stu, j_kl, j_cond, j_args, j_out, j_few, j_cw, j_nat, j_pad, j_exp, Nat.reduceAdd]
    refine b_X9_byteAt_18 hG ?_
    dsimp only [q_X9_byteAt_18, j_wp, j_opB, j_opA, j_nth, j_i1, j_i2, j_l1, j_l2, j_li, j_f1, j_f2, j_d1, j_d2, j_r1, j_ai, j_aii, j_ail, j_aid, j_air, j_st1, j_st2, j_stu, j_kl, j_cond, j_args, j_out, j_few, j_cw, j_nat, j_pad, j_exp, Nat.reduceAdd]
    exact ⟨trivial, H⟩
theorem RB_kc (r : RB h m B sz len) {i c : Nat} (hc : c ≠ 0) : kAt B len i = c ↔ (i < len ∧ kcl (j_I h (m + 11) i) = c) := by
  have hlen := RB_l r
  unfold kAt
  constructor
  · intro e
    split at e
    · rename_i g
      exact ⟨g, by rw [bRel_k (r.2.1 i (by omega))]; exact e⟩
    · exact absurd e.symm hc
  · intro e
    rw [if_pos e.1, ← bRel_k (r.2.1 i (by omega))]
    exact e.2
theorem sp_X9_isLetter (hl : l.stackTraces = false) (r : RB h m B sz len) (hB : j_bd E h) {i : Nat} (hi : i ≤ 800) (H : Q (.inl (some (.int (if kAt B len i = 2 then 1 else 0)))) h) : j_Met l D bs E (d + 2) n_X9_isLetter [.ref m, .int (nI i)] h Q := by
  have hk := RB_kc r (i := i) (c := 2) (by omega)
  refine j_meth hl rfl g_X9_isLetter (Nat.le_of_ble_eq_true rfl) (fun _ => ⟨_, _, rfl, (RB_sh r)⟩) hB.1 hB.2 (fun G hG => ?_)
  have no : ¬ kAt B len i = 2 → G 24 [.ref m, .int (nI i)] [] h := by
    intro z
    rw [if_neg z] at H
    refine b_X9_isLetter_24 hG ?_
    dsimp only [q_X9_isLetter_24, j_wp, j_opB, j_opA, j_nth, j_i1, j_i2, j_l1, j_l2, j_li, j_f1, j_f2, j_d1, j_d2, j_r1, j_ai, j_aii, j_ail, j_aid, j_air, j_st1, j_st2, j_stu, j_kl, j_cond, j_args, j_out, j_few, j_cw, j_nat, j_pad, j_exp, Nat.reduceAdd]
    refine b_X9_isLetter_25 hG ?_
    dsimp only [q_X9_isLetter_25, j_wp, j_opB, j_opA, j_nth, j_i1, j_i2, j_l1, j_l2, j_li, j_f1, j_f2, j_d1, j_d2, j_r1, j_ai, j_aii, j_ail, j_aid, j_air, j_st1, j_st2, j_stu, j_kl, j_cond, j_args, j_out, j_few, j_cw, j_nat, j_pad, j_exp, Nat.reduceAdd]
    exact ⟨(by first | exact Or.inl rfl | exact Or.inr rfl | decide), H⟩
  refine b_X9_isLetter_0 hG ?_
  dsimp only [q_X9_isLetter_0, j_wp, j_opB, j_opA, j_nth, j_i1, j_i2, j_l1, j_l2, j_li, j_f1, j_f2, j_d1, j_d2, j_r1, j_ai, j_aii, j_ail, j_aid, j_air, j_st1, j_st2, j_stu, j_kl, j_cond, j_args, j_out, j_few, j_cw, j_nat, j_pad, j_exp, Nat.reduceAdd]
  refine sp_X9_byteAt hl r hB hi ?_
  simp only [j_ref, j_ari, j_arb, j_arr, j_len, j_nar, j_oi, j_ol, j_of, j_od, j_or, j_ov, true_and, and_true]
  by_cases g : i < len
  · simp only [if_pos g]
    by_cases g1 : j_I h (m + 11) i < 97
    · rw [if_pos g1]
      exact no (fun z => (kcl_2.mp (hk.mp z).2).1 g1)
    · rw [if_neg g1]
      refine sp_X9_byteAt hl r hB hi ?_
      simp only [j_ref, j_ari, j_arb, j_arr, j_len, j_nar, j_oi, j_ol, j_of, j_od, j_or, j_ov, true_and, and_true, if_pos g]
      by_cases g2 : 122 < j_I h (m + 11) i
      · rw [if_pos g2]
        exact no (fun z => (kcl_2.mp (hk.mp z).2).2 g2)
      · rw [if_neg g2]
        rw [if_pos (hk.mpr ⟨g, kcl_2.mpr ⟨g1, g2⟩⟩)] at H
        refine b_X9_isLetter_25 hG ?_
        dsimp only [q_X9_isLetter_25, j_wp, j_opB, j_opA, j_nth, j_i1, j_i2, j_l1, j_l2, j_li, j_f1, j_f2, j_d1, j_d2, j_r1, j_ai, j_aii, j_ail, j_aid, j_air, j_st1, j_st2, j_stu, j_kl, j_cond, j_args, j_out, j_few, j_cw, j_nat, j_pad, j_exp, Nat.reduceAdd]
        exact ⟨(by first | exact Or.inl rfl | exact Or.inr rfl | decide), H⟩
  · simp only [if_neg g]
    rw [if_pos (by decide)]
    exact no (fun z => g (hk.mp z).1)
theorem sp_X9_isDigit (hl : l.stackTraces = false) (r : RB h m B sz len) (hB : j_bd E h) {i : Nat} (hi : i ≤ 800) (H : Q (.inl (some (.int (if kAt B len i = 3 then 1 else 0)))) h) : j_Met l D bs E (d + 2) n_X9_isDigit [.ref m, .int (nI i)] h Q := by
  have hk := RB_kc r (i := i) (c := 3) (by omega)
  refine j_meth hl rfl g_X9_isDigit (Nat.le_of_ble_eq_true rfl) (fun _ => ⟨_, _, rfl, (RB_sh r)⟩) hB.1 hB.2 (fun G hG => ?_)
  have no : ¬ kAt B len i = 3 → G 24 [.ref m, .int (nI i)] [] h := by
    intro z
    rw [if_neg z] at H
    refine b_X9_isDigit_24 hG ?_
    dsimp only [q_X9_isDigit_24, j_wp, j_opB, j_opA, j_nth, j_i1, j_i2, j_l1, j_l2, j_li, j_f1, j_f2, j_d1, j_d2, j_r1, j_ai, j_aii, j_ail, j_aid, j_air, j_st1, j_st2, j_stu, j_kl, j_cond, j_args, j_out, j_few, j_cw, j_nat, j_pad, j_exp, Nat.reduceAdd]
    refine b_X9_isDigit_25 hG ?_
    dsimp only [q_X9_isDigit_25, j_wp, j_opB, j_opA, j_nth, j_i1, j_i2, j_l1, j_l2, j_li, j_f1, j_f2, j_d1, j_d2, j_r1, j_ai, j_aii, j_ail, j_aid, j_air, j_st1, j_st2, j_stu, j_kl, j_cond, j_args, j_out, j_few, j_cw, j_nat, j_pad, j_exp, Nat.reduceAdd]
    exact ⟨(by first | exact Or.inl rfl | exact Or.inr rfl | decide), H⟩
  refine b_X9_isDigit_0 hG ?_
  dsimp only [q_X9_isDigit_0, j_wp, j_opB, j_opA, j_nth, j_i1, j_i2, j_l1, j_l2, j_li, j_f1, j_f2, j_d1, j_d2, j_r1, j_ai, j_aii, j_ail, j_aid, j_air, j_st1, j_st2, j_stu, j_kl, j_cond, j_args, j_out, j_few, j_cw, j_nat, j_pad, j_exp, Nat.reduceAdd]
  refine sp_X9_byteAt hl r hB hi ?_
  simp only [j_ref, j_ari, j_arb, j_arr, j_len, j_nar, j_oi, j_ol, j_of, j_od, j_or, j_ov, true_and, and_true]
  by_cases g : i < len
  · simp only [if_pos g]
    by_cases g1 : j_I h (m + 11) i < 48
    · rw [if_pos g1]
      exact no (fun z => (kcl_3.mp (hk.mp z).2).1 g1)
    · rw [if_neg g1]
      refine sp_X9_byteAt hl r hB hi ?_
      simp only [j_ref, j_ari, j_arb, j_arr, j_len, j_nar, j_oi, j_ol, j_of, j_od, j_or, j_ov, true_and, and_true, if_pos g]
      by_cases g2 : 57 < j_I h (m + 11) i
      · rw [if_pos g2]
        exact no (fun z => (kcl_3.mp (hk.mp z).2).2 g2)
      · rw [if_neg g2]
        rw [if_pos (hk.mpr ⟨g, kcl_3.mpr ⟨g1, g2⟩⟩)] at H
        refine b_X9_isDigit_25 hG ?_
        dsimp only [q_X9_isDigit_25, j_wp, j_opB, j_opA, j_nth, j_i1, j_i2, j_l1, j_l2, j_li, j_f1, j_f2, j_d1, j_d2, j_r1, j_ai, j_aii, j_ail, j_aid, j_air, j_st1, j_st2, j_stu, j_kl, j_cond, j_args, j_out, j_few, j_cw, j_nat, j_pad, j_exp, Nat.reduceAdd]
        exact ⟨(by first | exact Or.inl rfl | exact Or.inr rfl | decide), H⟩
  · simp only [if_neg g]
    rw [if_pos (by decide)]
    exact no (fun z => g (hk.mp z).1)
def sF3 : Nat → Prop := fun k => k = 17 ∨ k = 18 ∨ k = 19
def nA : Nat → Prop := fun _ => False
theorem RB_FM {A F : Nat → Prop} {h' : j_H} (r : RB h m B sz len) (f : FM A m F h h') (h1 : ¬ A m) (h2 : ¬ A (m + 11)) (h3 : ¬ F 15) (h4 : ¬ F 16) : RB h' m B sz len := by
  obtain ⟨r1, r2, ⟨r3, r4⟩, r5, r6⟩ := r
  exact ⟨mk_FM r1 f, fun i hi => by rw [f.2.2.2.2.2.2.1 _ _ h2 (fun z => absurd z.1 (by omega))]; exact r2 i hi, ⟨by rw [f.2.2.2.2.2.2.1 _ _ h1 (fun z => h3 z.2)]; exact r3, r4⟩, by rw [f.2.2.2.2.2.2.1 _ _ h1 (fun z => h4 z.2)]; exact r5, r6⟩
theorem RB_F3 {h' : j_H} (r : RB h m B sz len) (f : FM nA m sF3 h h') : RB h' m B sz len := RB_FM r f id id (fun z => by unfold sF3 at z; omega) (fun z => by unfold sF3 at z; omega)
set_option maxRecDepth 8000 in
theorem sp_X9_scan0 (hl : l.stackTraces = false) (r : RB h m B sz len) (hB : j_bd E h) {e : Nat} (he : e ≤ len) (e17 : j_I h m 17 = nI e) (H : ∀ h', FM nA m sF3 h h' → j_I h' m 17 = nI (tok B len e).2.2 → j_I h' m 18 = nI (tok B len e).2.1 → j_I h' m 19 = tkNo (tok B len e).1 → Q (.inl none) h') : j_Met l D bs E (d + 3) n_X9_scan [.ref m] h Q := by
  have hlen := RB_l r
  refine j_meth hl rfl g_X9_scan (Nat.le_of_ble_eq_true rfl) (fun _ => ⟨_, _, rfl, (RB_sh r)⟩) hB.1 hB.2 (fun G hG => ?_)
  have fin : ∀ (h1 : j_H) (k s e1 : Nat), FM nA m sF3 h h1 → j_I h1 m 17 = nI e1 → j_I h1 m 18 = nI s → j_I h1 m 19 = tkNo k → (k, s, e1) = tok B len e → G 167 [.ref m] [] h1 := by
    intro h1 k s e1 f1 x1 x2 x3 et
    rw [← et] at H
    refine b_X9_scan_167 hG ?_
    dsimp only [q_X9_scan_167, j_wp, j_opB, j_opA, j_nth, j_i1, j_i2, j_l1, j_l2, j_li, j_f1, j_f2, j_d1, j_d2, j_r1, j_ai, j_aii, j_ail, j_aid, j_air, j_st1, j_st2, j_stu, j_kl, j_cond, j_args, j_out, j_few, j_cw, j_nat, j_pad, j_exp, Nat.reduceAdd]
    exact H h1 f1 x1 x2 x3
  -- letters
  have let2 : ∀ (s : Nat), kAt B len s = 2 → s = tRun B len 1 (len - e) e → ∀ (k i : Nat) (h1 : j_H), i + k = len → FM nA m sF3 h h1 → j_I h1 m 17 = nI i → j_I h1 m 18 = nI s → tRun B len 2 k i = tRun B len 2 (len - s) s → G 77 [.ref m] [] h1 := by
    intro s ks es k
    have stop : ∀ (i : Nat) (h1 : j_H), FM nA m sF3 h h1 → j_I h1 m 17 = nI i → j_I h1 m 18 = nI s → i = tRun B len 2 (len - s) s → G 101 [.ref m] [] h1 := by
      intro i h1 f1 x1 x2 ei
      have r1 := RB_F3 r f1
      refine b_X9_scan_101 hG ?_
      dsimp only [q_X9_scan_101, j_wp, j_opB, j_opA, j_nth, j_i1, j_i2, j_l1, j_l2, j_li, j_f1, j_f2, j_d1, j_d2, j_r1, j_ai, j_aii, j_ail, j_aid, j_air, j_st1, j_st2, j_stu, j_kl, j_cond, j_args, j_out, j_few, j_cw, j_nat, j_pad, j_exp, Nat.reduceAdd]
      simp only [RB_sh r1, j_ref, j_ari, j_arb, j_arr, j_len, j_nar, j_oi, j_ol, j_of, j_od, j_or, j_ov, true_and, and_true]
      refine fin _ 2 s i (FM_I f1 (Or.inr (Or.inr rfl))) (by rw [jh_In (by omega)]; exact x1) (by rw [jh_In (by omega)]; exact x2) (jh_Is _ _ _ _) ?_
      unfold tok
      dsimp only
      rw [← es, ks, if_neg (by decide), ei]
    induction k with
    | zero =>
      intro i h1 hi f1 x1 x2 ei
      unfold tRun at ei
      have r1 := RB_F3 r f1
      refine b_X9_scan_77 hG ?_
      dsimp only [q_X9_scan_77, j_wp, j_opB, j_opA, j_nth, j_i1, j_i2, j_l1, j_l2, j_li, j_f1, j_f2, j_d1, j_d2, j_r1, j_ai, j_aii, j_ail, j_aid, j_air, j_st1, j_st2, j_stu, j_kl, j_cond, j_args, j_out, j_few, j_cw, j_nat, j_pad, j_exp, Nat.reduceAdd]
      simp only [RB_sh r1, x1, j_ref, j_ari, j_arb, j_arr, j_len, j_nar, j_oi, j_ol, j_of, j_od, j_or, j_ov, true_and, and_true]
      refine sp_X9_isLetter hl r1 (FM_bd f1 hB) (i := i) (by omega) ?_
      simp only [j_ref, j_ari, j_arb, j_arr, j_len, j_nar, j_oi, j_ol, j_of, j_od, j_or, j_ov, true_and, and_true]
      rw [if_neg (show ¬ kAt B len i = 2 from fun z => by unfold kAt at z; rw [if_neg (by omega)] at z; omega), if_pos rfl]
      exact stop i h1 f1 x1 x2 (by rw [ei]; exact (tRun.eq_def _ _ _ _ _).symm)
    | succ k ih =>
      intro i h1 hi f1 x1 x2 ei
      unfold tRun at ei
      have r1 := RB_F3 r f1
      refine b_X9_scan_77 hG ?_
      dsimp only [q_X9_scan_77, j_wp, j_opB, j_opA, j_nth, j_i1, j_i2, j_l1, j_l2, j_li, j_f1, j_f2, j_d1, j_d2, j_r1, j_ai, j_aii, j_ail, j_aid, j_air, j_st1, j_st2, j_stu, j_kl, j_cond, j_args, j_out, j_few, j_cw, j_nat, j_pad, j_exp, Nat.reduceAdd]
      simp only [RB_sh r1, x1, j_ref, j_ari, j_arb, j_arr, j_len, j_nar, j_oi, j_ol, j_of, j_od, j_or, j_ov, true_and, and_true]
      refine sp_X9_isLetter hl r1 (FM_bd f1 hB) (i := i) (by omega) ?_
      simp only [j_ref, j_ari, j_arb, j_arr, j_len, j_nar, j_oi, j_ol, j_of, j_od, j_or, j_ov, true_and, and_true]
      by_cases g : kAt B len i = 2
      · rw [if_pos g] at ei
        rw [if_pos g, if_neg (by decide)]
        simp only [RB_sh r1, x1, j_ref, j_ari, j_arb, j_arr, j_len, j_nar, j_oi, j_ol, j_of, j_od, j_or, j_ov, true_and, and_true]
        rw [nI_1]
        exact ih (i + 1) _ (by omega) (FM_I f1 (Or.inl rfl)) (jh_Is _ _ _ _) (by rw [jh_In (by omega)]; exact x2) (by rw [ei]; exact (tRun.eq_def _ _ _ _ _).symm)
      · rw [if_neg g] at ei
        rw [if_neg g, if_pos rfl]
        exact stop i h1 f1 x1 x2 (by rw [ei]; exact (tRun.eq_def _ _ _ _ _).symm)
  -- digits
  have let3 : ∀ (s : Nat), kAt B len s = 3 → s = tRun B len 1 (len - e) e → ∀ (k i : Nat) (h1 : j_H), i + k = len → FM nA m sF3 h h1 → j_I h1 m 17 = nI i → j_I h1 m 18 = nI s → tRun B len 3 k i = tRun B len 3 (len - s) s → G 120 [.ref m] [] h1 := by
    intro s ks es k
    have stop : ∀ (i : Nat) (h1 : j_H), FM nA m sF3 h h1 → j_I h1 m 17 = nI i → j_I h1 m 18 = nI s → i = tRun B len 3 (len - s) s → G 144 [.ref m] [] h1 := by
      intro i h1 f1 x1 x2 ei
      have r1 := RB_F3 r f1
      refine b_X9_scan_144 hG ?_
      dsimp only [q_X9_scan_144, j_wp, j_opB, j_opA, j_nth, j_i1, j_i2, j_l1, j_l2, j_li, j_f1, j_f2, j_d1, j_d2, j_r1, j_ai, j_aii, j_ail, j_aid, j_air, j_st1, j_st2, j_stu, j_kl, j_cond, j_args, j_out, j_few, j_cw, j_nat, j_pad, j_exp, Nat.reduceAdd]
      simp only [RB_sh r1, j_ref, j_ari, j_arb, j_arr, j_len, j_nar, j_oi, j_ol, j_of, j_od, j_or, j_ov, true_and, and_true]
      refine fin _ 3 s i (FM_I f1 (Or.inr (Or.inr rfl))) (by rw [jh_In (by omega)]; exact x1) (by rw [jh_In (by omega)]; exact x2) (jh_Is _ _ _ _) ?_
      unfold tok
      dsimp only
      rw [← es, ks, if_neg (by decide), ei]
    induction k with
    | zero =>
      intro i h1 hi f1 x1 x2 ei
      unfold tRun at ei
      have r1 := RB_F3 r f1
      refine b_X9_scan_120 hG ?_
      dsimp only [q_X9_scan_120, j_wp, j_opB, j_opA, j_nth, j_i1, j_i2, j_l1, j_l2, j_li, j_f1, j_f2, j_d1, j_d2, j_r1, j_ai, j_aii, j_ail, j_aid, j_air, j_st1, j_st2, j_stu, j_kl, j_cond, j_args, j_out, j_few, j_cw, j_nat, j_pad, j_exp, Nat.reduceAdd]
      simp only [RB_sh r1, x1, j_ref, j_ari, j_arb, j_arr, j_len, j_nar, j_oi, j_ol, j_of, j_od, j_or, j_ov, true_and, and_true]
      refine sp_X9_isDigit hl r1 (FM_bd f1 hB) (i := i) (by omega) ?_
      simp only [j_ref, j_ari, j_arb, j_arr, j_len, j_nar, j_oi, j_ol, j_of, j_od, j_or, j_ov, true_and, and_true]
      rw [if_neg (show ¬ kAt B len i = 3 from fun z => by unfold kAt at z; rw [if_neg (by omega)] at z; omega), if_pos rfl]
      exact stop i h1 f1 x1 x2 (by rw [ei]; exact (tRun.eq_def _ _ _ _ _).symm)
    | succ k ih =>
      intro i h1 hi f1 x1 x2 ei
      unfold tRun at ei
      have r1 := RB_F3 r f1
      refine b_X9_scan_120 hG ?_
      dsimp only [q_X9_scan_120, j_wp, j_opB, j_opA, j_nth, j_i1, j_i2, j_l1, j_l2, j_li, j_f1, j_f2, j_d1, j_d2, j_r1, j_ai, j_aii, j_ail, j_aid, j_air, j_st1, j_st2, j_stu, j_kl, j_cond, j_args, j_out, j_few, j_cw, j_nat, j_pad, j_exp, Nat.reduceAdd]
      simp only [RB_sh r1, x1, j_ref, j_ari, j_arb, j_arr, j_len, j_nar, j_oi, j_ol, j_of, j_od, j_or, j_ov, true_and, and_true]
      refine sp_X9_isDigit hl r1 (FM_bd f1 hB) (i := i) (by omega) ?_
      simp only [j_ref, j_ari, j_arb, j_arr, j_len, j_nar, j_oi, j_ol, j_of, j_od, j_or, j_ov, true_and, and_true]
      by_cases g : kAt B len i = 3
      · rw [if_pos g] at ei
        rw [if_pos g, if_neg (by decide)]
        simp only [RB_sh r1, x1, j_ref, j_ari, j_arb, j_arr, j_len, j_nar, j_oi, j_ol, j_of, j_od, j_or, j_ov, true_and, and_true]
        rw [nI_1]
        exact ih (i + 1) _ (by omega) (FM_I f1 (Or.inl rfl)) (jh_Is _ _ _ _) (by rw [jh_In (by omega)]; exact x2) (by rw [ei]; exact (tRun.eq_def _ _ _ _ _).symm)
      · rw [if_neg g] at ei
        rw [if_neg g, if_pos rfl]
        exact stop i h1 f1 x1 x2 (by rw [ei]; exact (tRun.eq_def _ _ _ _ _).symm)
  -- behind the blanks
  have mid : ∀ (s : Nat) (h1 : j_H), s ≤ len → FM nA m sF3 h h1 → j_I h1 m 17 = nI s → s = tRun B len 1 (len - e) e → ¬ kAt B len s = 1 → G 39 [.ref m] [] h1 := by
    intro s h1 hs f1 x1 es n1
    have r1 := RB_F3 r f1
    have f2 : FM nA m sF3 h (j_setI h1 m 18 (nI s)) := FM_I f1 (Or.inr (Or.inl rfl))
    have r2 := RB_F3 r f2
    have y1 : j_I (j_setI h1 m 18 (nI s)) m 17 = nI s := by rw [jh_In (by omega)]; exact x1
    have y2 : j_I (j_setI h1 m 18 (nI s)) m 18 = nI s := jh_Is _ _ _ _
    refine b_X9_scan_39 hG ?_
    dsimp only [q_X9_scan_39, j_wp, j_opB, j_opA, j_nth, j_i1, j_i2, j_l1, j_l2, j_li, j_f1, j_f2, j_d1, j_d2, j_r1, j_ai, j_aii, j_ail, j_aid, j_air, j_st1, j_st2, j_stu, j_kl, j_cond, j_args, j_out, j_few, j_cw, j_nat, j_pad, j_exp, Nat.reduceAdd]
    simp only [RB_sh r1, x1, RB_sh r2, y1, RB_16 r2, j_ref, j_ari, j_arb, j_arr, j_len, j_nar, j_oi, j_ol, j_of, j_od, j_or, j_ov, true_and, and_true]
    generalize j_setI h1 m 18 (nI s) = h2 at *
    by_cases g : s < len
    · rw [if_pos (nI_lt g (by omega))]
      have hk4 := kAt_le B len s
      have hk0 : ¬ kAt B len s = 0 := fun z => by
        unfold kAt at z
        rw [if_pos g] at z
        have := (kcl_le (B s)).1
        omega
      refine b_X9_scan_66 hG ?_
      dsimp only [q_X9_scan_66, j_wp, j_opB, j_opA, j_nth, j_i1, j_i2, j_l1, j_l2, j_li, j_f1, j_f2, j_d1, j_d2, j_r1, j_ai, j_aii, j_ail, j_aid, j_air, j_st1, j_st2, j_stu, j_kl, j_cond, j_args, j_out, j_few, j_cw, j_nat, j_pad, j_exp, Nat.reduceAdd]
      simp only [RB_sh r2, y1, j_ref, j_ari, j_arb, j_arr, j_len, j_nar, j_oi, j_ol, j_of, j_od, j_or, j_ov, true_and, and_true]
      refine sp_X9_isLetter hl r2 (FM_bd f2 hB) (i := s) (by omega) ?_
      simp only [j_ref, j_ari, j_arb, j_arr, j_len, j_nar, j_oi, j_ol, j_of, j_od, j_or, j_ov, true_and, and_true]
      by_cases g2 : kAt B len s = 2
      · rw [if_pos g2, if_neg (by decide)]
        exact let2 s g2 es (len - s) s h2 (by omega) f2 y1 y2 rfl
      · rw [if_neg g2, if_pos rfl]
        refine b_X9_scan_109 hG ?_
        dsimp only [q_X9_scan_109, j_wp, j_opB, j_opA, j_nth, j_i1, j_i2, j_l1, j_l2, j_li, j_f1, j_f2, j_d1, j_d2, j_r1, j_ai, j_aii, j_ail, j_aid, j_air, j_st1, j_st2, j_stu, j_kl, j_cond, j_args, j_out, j_few, j_cw, j_nat, j_pad, j_exp, Nat.reduceAdd]
        simp only [RB_sh r2, y1, j_ref, j_ari, j_arb, j_arr, j_len, j_nar, j_oi, j_ol, j_of, j_od, j_or, j_ov, true_and, and_true]
        refine sp_X9_isDigit hl r2 (FM_bd f2 hB) (i := s) (by omega) ?_
        simp only [j_ref, j_ari, j_arb, j_arr, j_len, j_nar, j_oi, j_ol, j_of, j_od, j_or, j_ov, true_and, and_true]
        by_cases g3 : kAt B len s = 3
        · rw [if_pos g3, if_neg (by decide)]
          exact let3 s g3 es (len - s) s h2 (by omega) f2 y1 y2 rfl
        · rw [if_neg g3, if_pos rfl]
          have f3 : FM nA m sF3 h (j_setI h2 m 17 (nI (s + 1))) := FM_I f2 (Or.inl rfl)
          have r3 := RB_F3 r f3
          refine b_X9_scan_152 hG ?_
          dsimp only [q_X9_scan_152, j_wp, j_opB, j_opA, j_nth, j_i1, j_i2, j_l1, j_l2, j_li, j_f1, j_f2, j_d1, j_d2, j_r1, j_ai, j_aii, j_ail, j_aid, j_air, j_st1, j_st2, j_stu, j_kl, j_cond, j_args, j_out, j_few, j_cw, j_nat, j_pad, j_exp, Nat.reduceAdd]
          simp only [RB_sh r2, y1, nI_1, RB_sh r3, j_ref, j_ari, j_arb, j_arr, j_len, j_nar, j_oi, j_ol, j_of, j_od, j_or, j_ov, true_and, and_true]
          refine fin _ 4 s (s + 1) (FM_I f3 (Or.inr (Or.inr rfl))) (by rw [jh_In (by omega)]; exact jh_Is _ _ _ _) (by rw [jh_In (by omega), jh_In (by omega)]; exact y2) (jh_Is _ _ _ _) ?_
          have g4 : kAt B len s = 4 := by omega
          unfold tok
          dsimp only
          rw [← es, g4, if_pos rfl]
    · rw [if_neg (nI_nlt (by omega) (by omega))]
      have hk0 : kAt B len s = 0 := by unfold kAt; rw [if_neg g]
      refine fin _ 0 s s (FM_I f2 (Or.inr (Or.inr rfl))) (by rw [jh_In (by omega)]; exact y1) (by rw [jh_In (by omega)]; exact y2) (jh_Is _ _ _ _) ?_
      unfold tok
      dsimp only
      rw [← es, hk0, if_neg (by decide), show len - s = 0 by omega]
      rfl
  have one : ∀ (k i : Nat) (h1 : j_H), i + k = len → FM nA m sF3 h h1 → j_I h1 m 17 = nI i → tRun B len 1 k i = tRun B len 1 (len - e) e → G 0 [.ref m] [] h1 := by
    intro k
    induction k with
    | zero =>
      intro i h1 hi f1 x1 ei
      unfold tRun at ei
      have r1 := RB_F3 r f1
      have nk : ¬ kAt B len i = 1 := fun z => by unfold kAt at z; rw [if_neg (by omega)] at z; omega
      refine b_X9_scan_0 hG ?_
      dsimp only [q_X9_scan_0, j_wp, j_opB, j_opA, j_nth, j_i1, j_i2, j_l1, j_l2, j_li, j_f1, j_f2, j_d1, j_d2, j_r1, j_ai, j_aii, j_ail, j_aid, j_air, j_st1, j_st2, j_stu, j_kl, j_cond, j_args, j_out, j_few, j_cw, j_nat, j_pad, j_exp, Nat.reduceAdd]
      simp only [RB_sh r1, x1, j_ref, j_ari, j_arb, j_arr, j_len, j_nar, j_oi, j_ol, j_of, j_od, j_or, j_ov, true_and, and_true]
      refine sp_X9_byteAt hl r1 (FM_bd f1 hB) (i := i) (by omega) ?_
      simp only [j_ref, j_ari, j_arb, j_arr, j_len, j_nar, j_oi, j_ol, j_of, j_od, j_or, j_ov, true_and, and_true]
      rw [if_neg (show ¬ i < len by omega), if_neg (by decide)]
      simp only [RB_sh r1, x1, j_ref, j_ari, j_arb, j_arr, j_len, j_nar, j_oi, j_ol, j_of, j_od, j_or, j_ov, true_and, and_true]
      refine sp_X9_byteAt hl r1 (FM_bd f1 hB) (i := i) (by omega) ?_
      simp only [j_ref, j_ari, j_arb, j_arr, j_len, j_nar, j_oi, j_ol, j_of, j_od, j_or, j_ov, true_and, and_true]
      rw [if_neg (show ¬ i < len by omega), if_neg (by decide)]
      exact mid i h1 (by omega) f1 x1 (by rw [ei]; exact (tRun.eq_def _ _ _ _ _).symm) nk
    | succ k ih =>
      intro i h1 hi f1 x1 ei
      unfold tRun at ei
      have r1 := RB_F3 r f1
      have hk := RB_kc r1 (i := i) (c := 1) (by omega)
      have nx : kAt B len i = 1 → G 26 [.ref m] [] h1 := by
        intro g
        rw [if_pos g] at ei
        refine b_X9_scan_26 hG ?_
        dsimp only [q_X9_scan_26, j_wp, j_opB, j_opA, j_nth, j_i1, j_i2, j_l1, j_l2, j_li, j_f1, j_f2, j_d1, j_d2, j_r1, j_ai, j_aii, j_ail, j_aid, j_air, j_st1, j_st2, j_stu, j_kl, j_cond, j_args, j_out, j_few, j_cw, j_nat, j_pad, j_exp, Nat.reduceAdd]
        simp only [RB_sh r1, x1, nI_1, j_ref, j_ari, j_arb, j_arr, j_len, j_nar, j_oi, j_ol, j_of, j_od, j_or, j_ov, true_and, and_true]
        exact ih (i + 1) _ (by omega) (FM_I f1 (Or.inl rfl)) (jh_Is _ _ _ _) (by rw [ei]; exact (tRun.eq_def _ _ _ _ _).symm)
      refine b_X9_scan_0 hG ?_
      dsimp only [q_X9_scan_0, j_wp, j_opB, j_opA, j_nth, j_i1, j_i2, j_l1, j_l2, j_li, j_f1, j_f2, j_d1, j_d2, j_r1, j_ai, j_aii, j_ail, j_aid, j_air, j_st1, j_st2, j_stu, j_kl, j_cond, j_args, j_out, j_few, j_cw, j_nat, j_pad, j_exp, Nat.reduceAdd]
      simp only [RB_sh r1, x1, j_ref, j_ari, j_arb, j_arr, j_len, j_nar, j_oi, j_ol, j_of, j_od, j_or, j_ov, true_and, and_true]
      refine sp_X9_byteAt hl r1 (FM_bd f1 hB) (i := i) (by omega) ?_
      simp only [j_ref, j_ari, j_arb, j_arr, j_len, j_nar, j_oi, j_ol, j_of, j_od, j_or, j_ov, true_and, and_true]
      rw [if_pos (show i < len by omega)]
      by_cases g1 : j_I h1 (m + 11) i = 32
      · rw [if_pos g1]
        exact nx (hk.mpr ⟨by omega, kcl_1.mpr (Or.inl g1)⟩)
      · rw [if_neg g1]
        simp only [RB_sh r1, x1, j_ref, j_ari, j_arb, j_arr, j_len, j_nar, j_oi, j_ol, j_of, j_od, j_or, j_ov, true_and, and_true]
        refine sp_X9_byteAt hl r1 (FM_bd f1 hB) (i := i) (by omega) ?_
        simp only [j_ref, j_ari, j_arb, j_arr, j_len, j_nar, j_oi, j_ol, j_of, j_od, j_or, j_ov, true_and, and_true]
        rw [if_pos (show i < len by omega)]
        by_cases g2 : j_I h1 (m + 11) i = 10
        · rw [if_pos g2]
          exact nx (hk.mpr ⟨by omega, kcl_1.mpr (Or.inr g2)⟩)
        · rw [if_neg g2]
          have nk : ¬ kAt B len i = 1 := fun z => (kcl_1.mp (hk.mp z).2).elim g1 g2
          rw [if_neg nk] at ei
          exact mid i h1 (by omega) f1 x1 (by rw [ei]; exact (tRun.eq_def _ _ _ _ _).symm) nk
  exact one (len - e) e h (by omega) FM_rf e17 rfl
end RTx

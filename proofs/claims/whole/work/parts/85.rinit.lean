/-! ===== the reference: its constructor ===== -/
section RIn
variable {l : Launch} {D : va_G} {bs : Nat} {E : j_E} {h0 h h' : j_H} {m a : Nat} {d : Nat} {Q : j_O → j_H → Prop}
def szs : List (Nat × Nat × Nat) → Nat
  | [] => 0
  | x :: r => x.2.2 + szs r
theorem szs_app (a : List (Nat × Nat × Nat)) (x : Nat × Nat × Nat) : szs (a ++ [x]) = szs a + x.2.2 := by
  induction a with
  | nil => simp [szs]
  | cons y r ih => simp only [List.cons_append, szs, ih]; omega
/-- only the references and the ints of the cell a have changed -/
def Fl (a : Nat) (h h' : j_H) : Prop := j_sh h' = j_sh h ∧ j_D h' = j_D h ∧ j_L h' = j_L h ∧ j_z h' = j_z h ∧ j_c h' = j_c h ∧ j_k h' = j_k h ∧ (∀ b k, b ≠ a → j_R h' b k = j_R h b k) ∧ ∀ b k, b ≠ a → j_I h' b k = j_I h b k
theorem Fl_rf : Fl a h h := ⟨rfl, rfl, rfl, rfl, rfl, rfl, fun _ _ _ => rfl, fun _ _ _ => rfl⟩
theorem Fl_sR {k : Nat} {v : Option Nat} (f : Fl a h h') : Fl a h (j_setR h' a k v) := by
  obtain ⟨f1, f2, f3, f4, f5, f6, f7, f8⟩ := f
  exact ⟨f1, f2, f3, f4, f5, f6, fun b j hb => by rw [jh_R, if_neg (fun z => hb z.1)]; exact f7 b j hb, f8⟩
theorem Fl_sI {k : Nat} {v : Int32} (f : Fl a h h') : Fl a h (j_setI h' a k v) := by
  obtain ⟨f1, f2, f3, f4, f5, f6, f7, f8⟩ := f
  exact ⟨f1, f2, f3, f4, f5, f6, f7, fun b j hb => by rw [jh_In (fun z => hb z.1)]; exact f8 b j hb⟩
/-- the arrays made so far: field, type, length -/
def AS (h0 : j_H) (m : Nat) (L : List (Nat × Nat × Nat)) (h : j_H) : Prop := FQ nF m h0 h ∧ j_sh h m = some (.inr 11) ∧ j_z h = m + 1 + L.length ∧ j_c h = j_c h0 + L.length ∧ j_k h = j_k h0 + szs L ∧ (∀ k, k ≠ 22 → j_I h m k = 0) ∧ ∀ i x, L[i]? = some x → j_R h m x.1 = some (m + 1 + i) ∧ j_sh h (m + 1 + i) = some (.inl (x.2.1, x.2.2)) ∧ ∀ k, j_L h (m + 1 + i) k = 0
theorem AS_0 (t1 : j_sh h m = some (.inr 11)) (tz : m + 1 = j_z h) (i0 : ∀ k, j_I h m k = 0) : AS h m [] h := ⟨FQ_rf (by omega), t1, by simp; omega, rfl, rfl, fun k _ => i0 k, fun i x hx => by cases hx⟩
theorem AS_n {L : List (Nat × Nat × Nat)} {t n : Nat} (a : AS h0 m L h) : j_sh (j_new h (.inl (t, n)) n) m = some (.inr 11) := by
  rw [nw_sh, if_neg (by have := a.2.2.1; omega)]
  exact a.2.1
theorem AS_c {L : List (Nat × Nat × Nat)} {n : Nat} (a : AS h0 m L h) (e : L.length = n) : j_c h = j_c h0 + n := by rw [← e]; exact a.2.2.2.1
theorem AS_k {L : List (Nat × Nat × Nat)} {n : Nat} (a : AS h0 m L h) (e : szs L = n) : j_k h = j_k h0 + n := by rw [← e]; exact a.2.2.2.2.1
theorem AS_22 {L : List (Nat × Nat × Nat)} {v : Int32} (a : AS h0 m L h) : AS h0 m L (j_setI h m 22 v) := by
  obtain ⟨a1, a2, a3, a4, a5, a6, a7⟩ := a
  exact ⟨FQ_sI a1 (Nat.le_refl _), a2, a3, a4, a5, fun k hk => by rw [jh_In (fun z => hk z.2)]; exact a6 k hk, a7⟩
theorem AS_fill {L : List (Nat × Nat × Nat)} {f t n : Nat} {h2 : j_H} (a : AS h0 m L h) (hf : ∀ x ∈ L, x.1 ≠ f) (fl : Fl (j_z h) (j_new h (.inl (t, n)) n) h2) : AS h0 m (L ++ [(f, t, n)]) (j_setR h2 m f (some (j_z h))) := by
  obtain ⟨a1, a2, a3, a4, a5, a6, a7⟩ := a
  obtain ⟨e1, e2, e3, e4, e5, e6, e7, e8⟩ := fl
  have hz := a1.1
  have sh : ∀ b, j_sh (j_setR h2 m f (some (j_z h))) b = if b = j_z h then some (.inl (t, n)) else j_sh h b := fun b => by
    show j_sh h2 b = _
    rw [e1]; rfl
  have rr : ∀ b k, b ≠ j_z h → j_R (j_setR h2 m f (some (j_z h))) b k = if b = m ∧ k = f then some (j_z h) else j_R h b k := fun b k hb => by
    rw [jh_R, e7 b k hb, nw_R, if_neg hb]
  have ii : ∀ b k, b ≠ j_z h → j_I (j_setR h2 m f (some (j_z h))) b k = j_I h b k := fun b k hb => by
    show j_I h2 b k = _
    rw [e8 b k hb, nw_I, if_neg hb]
  have ll : ∀ b k, j_L (j_setR h2 m f (some (j_z h))) b k = if b = j_z h then 0 else j_L h b k := fun b k => by
    show j_L h2 b k = _
    rw [e3]; rfl
  have dd : ∀ b k, j_D (j_setR h2 m f (some (j_z h))) b k = if b = j_z h then 0 else j_D h b k := fun b k => by
    show j_D h2 b k = _
    rw [e2]; rfl
  have zz : j_z h2 = j_z h + 1 := e4
  have cc : j_c h2 = j_c h + 1 := e5
  have kk : j_k h2 = j_k h + n := e6
  refine ⟨⟨by show m ≤ j_z h2; omega, fun b hb => ?_⟩, ?_, ?_, ?_, ?_, fun k hk => ?_, fun i x hx => ?_⟩
  · obtain ⟨b1, b2, b3, b4⟩ := a1.2 b hb
    refine ⟨?_, fun k => ?_, fun k => ?_, fun y => ⟨fun k => ?_, fun k => ?_⟩⟩
    · rw [sh, if_neg (by omega)]; exact b1
    · rw [rr _ _ (by omega), if_neg (by omega)]; exact b2 k
    · rw [dd, if_neg (by omega)]; exact b3 k
    · rw [ii _ _ (by omega)]; exact (b4 y).1 k
    · rw [ll, if_neg (by omega)]; exact (b4 y).2 k
  · rw [sh, if_neg (by omega)]; exact a2
  · show j_z h2 = _
    simp only [List.length_append, List.length_cons, List.length_nil]
    omega
  · show j_c h2 = _
    simp only [List.length_append, List.length_cons, List.length_nil]
    omega
  · show j_k h2 = _
    rw [szs_app]
    show j_k h2 = j_k h0 + (szs L + n)
    omega
  · rw [ii _ _ (by omega)]; exact a6 k hk
  · by_cases e : i < L.length
    · rw [List.getElem?_append_left e] at hx
      obtain ⟨c1, c2, c3⟩ := a7 i x hx
      have hne : x.1 ≠ f := hf x (List.mem_of_getElem? hx)
      refine ⟨?_, ?_, fun k => ?_⟩
      · rw [rr _ _ (by omega), if_neg (fun z => hne z.2)]; exact c1
      · rw [sh, if_neg (by omega)]; exact c2
      · rw [ll, if_neg (by omega)]; exact c3 k
    · rw [List.getElem?_append_right (by omega)] at hx
      have ei : i = L.length := by
        refine Decidable.byContradiction (fun z => ?_)
        rw [List.getElem?_eq_none (by simp; omega)] at hx
        cases hx
      subst ei
      rw [Nat.sub_self] at hx
      cases hx
      refine ⟨?_, ?_, fun k => ?_⟩
      · rw [rr _ _ (by omega), if_pos ⟨rfl, rfl⟩, a3]
      · rw [sh, if_pos (by omega)]
      · rw [ll, if_pos (by omega)]
/-- the cell b, made before, is left alone -/
theorem AS_keep {L : List (Nat × Nat × Nat)} {f t n : Nat} {h2 : j_H} (a : AS h0 m L h) (fl : Fl (j_z h) (j_new h (.inl (t, n)) n) h2) {b : Nat} (hb : m < b) (hb2 : b < j_z h) (k : Nat) : j_R (j_setR h2 m f (some (j_z h))) b k = j_R h b k ∧ j_I (j_setR h2 m f (some (j_z h))) b k = j_I h b k := by
  obtain ⟨e1, e2, e3, e4, e5, e6, e7, e8⟩ := fl
  refine ⟨?_, ?_⟩
  · rw [jh_R, if_neg (by omega), e7 b k (by omega), nw_R, if_neg (by omega)]
  · show j_I h2 b k = _
    rw [e8 b k (by omega), nw_I, if_neg (by omega)]
/-- no fault yet, no text yet -/
def Z1 (h : j_H) (m : Nat) : Prop := j_I h m 22 = -1 ∧ ∀ k, j_I h (m + 11) k = 0
theorem AS_Z {L : List (Nat × Nat × Nat)} {f t n : Nat} {h2 : j_H} (a : AS h0 m L h) (fl : Fl (j_z h) (j_new h (.inl (t, n)) n) h2) (hz : m + 11 < j_z h) (z : Z1 h m) : Z1 (j_setR h2 m f (some (j_z h))) m := by
  obtain ⟨e1, e2, e3, e4, e5, e6, e7, e8⟩ := fl
  refine ⟨?_, fun k => ?_⟩
  · show j_I h2 m 22 = _
    rw [e8 m 22 (by omega), nw_I, if_neg (by omega)]
    exact z.1
  · show j_I h2 (m + 11) k = _
    rw [e8 (m + 11) k (by omega), nw_I, if_neg (by omega)]
    exact z.2 k
def q_rI36 : List j_N := []
def q_rI35 : List j_N := (.aload_n 0, 1, 0, 0, .null) :: (.getfield 9, 3, 11, 0, .null) :: (.invokestatic 82, 3, 142, 1, .retAddr 0) :: (.return_, 1, 0, 0, .null) :: q_rI36
def q_rI34 : List j_N := (.aload_n 0, 1, 0, 0, .null) :: (.sipush 200, 3, 0, 0, .int (200)) :: (.newarray .int, 2, 0, 0, .null) :: (.putfield 79, 3, 11, 27, .null) :: q_rI35
def q_rI33 : List j_N := (.aload_n 0, 1, 0, 0, .null) :: (.sipush 200, 3, 0, 0, .int (200)) :: (.newarray .int, 2, 0, 0, .null) :: (.putfield 76, 3, 11, 26, .null) :: q_rI34
def q_rI32 : List j_N := (.putfield 73, 3, 11, 25, .null) :: q_rI33
def q_rI31 : List j_N := (.dup, 1, 0, 0, .null) :: (.bipush 8, 2, 0, 0, .int (8)) :: (.bipush 8, 2, 0, 0, .int (8)) :: (.iastore, 1, 0, 0, .null) :: q_rI32
def q_rI30 : List j_N := (.dup, 1, 0, 0, .null) :: (.bipush 7, 2, 0, 0, .int (7)) :: (.bipush 7, 2, 0, 0, .int (7)) :: (.iastore, 1, 0, 0, .null) :: q_rI31
def q_rI29 : List j_N := (.dup, 1, 0, 0, .null) :: (.bipush 6, 2, 0, 0, .int (6)) :: (.bipush 6, 2, 0, 0, .int (6)) :: (.iastore, 1, 0, 0, .null) :: q_rI30
def q_rI28 : List j_N := (.dup, 1, 0, 0, .null) :: (.iconst 5, 1, 0, 0, .int (5)) :: (.iconst 2, 1, 0, 0, .int (2)) :: (.iastore, 1, 0, 0, .null) :: q_rI29
def q_rI27 : List j_N := (.dup, 1, 0, 0, .null) :: (.iconst 4, 1, 0, 0, .int (4)) :: (.iconst 4, 1, 0, 0, .int (4)) :: (.iastore, 1, 0, 0, .null) :: q_rI28
def q_rI26 : List j_N := (.dup, 1, 0, 0, .null) :: (.iconst 3, 1, 0, 0, .int (3)) :: (.iconst 3, 1, 0, 0, .int (3)) :: (.iastore, 1, 0, 0, .null) :: q_rI27
def q_rI25 : List j_N := (.dup, 1, 0, 0, .null) :: (.iconst 2, 1, 0, 0, .int (2)) :: (.iconst 1, 1, 0, 0, .int (1)) :: (.iastore, 1, 0, 0, .null) :: q_rI26
def q_rI24 : List j_N := (.dup, 1, 0, 0, .null) :: (.iconst 1, 1, 0, 0, .int (1)) :: (.iconst 0, 1, 0, 0, .int (0)) :: (.iastore, 1, 0, 0, .null) :: q_rI25
def q_rI23 : List j_N := (.aload_n 0, 1, 0, 0, .null) :: (.bipush 9, 2, 0, 0, .int (9)) :: (.newarray .int, 2, 0, 0, .null) :: (.dup, 1, 0, 0, .null) :: (.iconst 0, 1, 0, 0, .int (0)) :: (.iconst (-1), 1, 0, 0, .int (-1)) :: (.iastore, 1, 0, 0, .null) :: q_rI24
def q_rI22 : List j_N := (.putfield 69, 3, 11, 24, .null) :: q_rI23
def q_rI21 : List j_N := (.dup, 1, 0, 0, .null) :: (.bipush 8, 2, 0, 0, .int (8)) :: (.ldc 67, 2, 47, 1, .null) :: (.aastore, 1, 5, 0, .null) :: q_rI22
def q_rI20 : List j_N := (.dup, 1, 0, 0, .null) :: (.bipush 7, 2, 0, 0, .int (7)) :: (.ldc 65, 2, 46, 1, .null) :: (.aastore, 1, 5, 0, .null) :: q_rI21
def q_rI19 : List j_N := (.dup, 1, 0, 0, .null) :: (.bipush 6, 2, 0, 0, .int (6)) :: (.ldc 63, 2, 45, 1, .null) :: (.aastore, 1, 5, 0, .null) :: q_rI20
def q_rI18 : List j_N := (.dup, 1, 0, 0, .null) :: (.iconst 5, 1, 0, 0, .int (5)) :: (.ldc 61, 2, 44, 1, .null) :: (.aastore, 1, 5, 0, .null) :: q_rI19
def q_rI17 : List j_N := (.dup, 1, 0, 0, .null) :: (.iconst 4, 1, 0, 0, .int (4)) :: (.ldc 59, 2, 43, 1, .null) :: (.aastore, 1, 5, 0, .null) :: q_rI18
def q_rI16 : List j_N := (.dup, 1, 0, 0, .null) :: (.iconst 3, 1, 0, 0, .int (3)) :: (.ldc 57, 2, 42, 1, .null) :: (.aastore, 1, 5, 0, .null) :: q_rI17
def q_rI15 : List j_N := (.dup, 1, 0, 0, .null) :: (.iconst 2, 1, 0, 0, .int (2)) :: (.ldc 55, 2, 41, 1, .null) :: (.aastore, 1, 5, 0, .null) :: q_rI16
def q_rI14 : List j_N := (.dup, 1, 0, 0, .null) :: (.iconst 1, 1, 0, 0, .int (1)) :: (.ldc 53, 2, 40, 1, .null) :: (.aastore, 1, 5, 0, .null) :: q_rI15
def q_rI13 : List j_N := (.dup, 1, 0, 0, .null) :: (.iconst 0, 1, 0, 0, .int (0)) :: (.ldc 51, 2, 39, 1, .null) :: (.aastore, 1, 5, 0, .null) :: q_rI14
def q_rI12 : List j_N := (.aload_n 0, 1, 0, 0, .null) :: (.bipush 9, 2, 0, 0, .int (9)) :: (.anewarray 49, 3, 5, 0, .null) :: q_rI13
def q_rI11 : List j_N := (.aload_n 0, 1, 0, 0, .null) :: (.iconst (-1), 1, 0, 0, .int (-1)) :: (.putfield 45, 3, 11, 22, .ref 0) :: q_rI12
def q_rI10 : List j_N := (.aload_n 0, 1, 0, 0, .null) :: (.sipush 800, 3, 0, 0, .int (800)) :: (.newarray .int, 2, 0, 0, .null) :: (.putfield 42, 3, 11, 14, .null) :: q_rI11
def q_rI9 : List j_N := (.aload_n 0, 1, 0, 0, .null) :: (.bipush 40, 2, 0, 0, .int (40)) :: (.newarray .int, 2, 0, 0, .null) :: (.putfield 39, 3, 11, 12, .null) :: q_rI10
def q_rI8 : List j_N := (.aload_n 0, 1, 0, 0, .null) :: (.sipush 3060, 3, 0, 0, .int (3060)) :: (.newarray .long, 2, 1, 0, .null) :: (.putfield 36, 3, 11, 8, .null) :: q_rI9
def q_rI7 : List j_N := (.aload_n 0, 1, 0, 0, .null) :: (.sipush 306, 3, 0, 0, .int (306)) :: (.newarray .long, 2, 1, 0, .null) :: (.putfield 33, 3, 11, 7, .null) :: q_rI8
def q_rI6 : List j_N := (.aload_n 0, 1, 0, 0, .null) :: (.sipush 306, 3, 0, 0, .int (306)) :: (.newarray .long, 2, 1, 0, .null) :: (.putfield 30, 3, 11, 6, .null) :: q_rI7
def q_rI5 : List j_N := (.aload_n 0, 1, 0, 0, .null) :: (.sipush 306, 3, 0, 0, .int (306)) :: (.newarray .long, 2, 1, 0, .null) :: (.putfield 26, 3, 11, 5, .null) :: q_rI6
def q_rI4 : List j_N := (.aload_n 0, 1, 0, 0, .null) :: (.ldc 22, 2, 0, 0, .int (40730)) :: (.newarray .int, 2, 0, 0, .null) :: (.putfield 23, 3, 11, 4, .null) :: q_rI5
def q_rI3 : List j_N := (.aload_n 0, 1, 0, 0, .null) :: (.sipush 4073, 3, 0, 0, .int (4073)) :: (.newarray .int, 2, 0, 0, .null) :: (.putfield 19, 3, 11, 3, .null) :: q_rI4
def q_rI2 : List j_N := (.aload_n 0, 1, 0, 0, .null) :: (.sipush 4073, 3, 0, 0, .int (4073)) :: (.newarray .int, 2, 0, 0, .null) :: (.putfield 16, 3, 11, 2, .null) :: q_rI3
def q_rI1 : List j_N := (.aload_n 0, 1, 0, 0, .null) :: (.sipush 4073, 3, 0, 0, .int (4073)) :: (.newarray .int, 2, 0, 0, .null) :: (.putfield 13, 3, 11, 1, .null) :: q_rI2
def q_rI0 : List j_N := (.aload_n 0, 1, 0, 0, .null) :: (.invokespecial 1, 3, 0, 0, .ref 6) :: (.aload_n 0, 1, 0, 0, .null) :: (.sipush 4073, 3, 0, 0, .int (4073)) :: (.newarray .int, 2, 0, 0, .null) :: (.putfield 9, 3, 11, 0, .null) :: q_rI1
theorem KS_sh (k : KS E bs h) (i : Nat) {z : String × Nat × String} (hz : j_strs[i]? = some z) (hi : i < 69) : E.1 i < bs ∧ j_sh h (E.1 i) = some (.inr 0) := ⟨(k i z hz hi).1, (k i z hz hi).2.1.1⟩
theorem FillR {g : j_H} {i : Nat} (r : ∀ j, j < i → j_R g a j = some (E.1 (39 + j))) : ∀ j, j < i + 1 → j_R (j_setR g a i (some (E.1 (39 + i)))) a j = some (E.1 (39 + j)) := by
  intro j hj
  rw [jh_R]
  by_cases e : j = i
  · rw [if_pos ⟨rfl, e⟩, e]
  · rw [if_neg (fun z => e z.2)]
    exact r j (by omega)
theorem FillI {g : j_H} {i : Nat} {v : Int32} (r : ∀ j, 1 ≤ j → j < i → j_I g a j = nI (fld j)) (hv : 1 ≤ i → v = nI (fld i)) : ∀ j, 1 ≤ j → j < i + 1 → j_I (j_setI g a i v) a j = nI (fld j) := by
  intro j h1 hj
  by_cases e : j = i
  · rw [e, jh_Is]
    exact hv (by omega)
  · rw [jh_In (fun z => e z.2)]
    exact r j h1 (by omega)
set_option maxRecDepth 16000 in
theorem ri_codes (hl : l.stackTraces = false) {G : j_G} (c1 : j_c h + 15 ≤ E.2.1) (c2 : j_k h + 62258 ≤ E.2.2) {h13 : j_H} (a13 : AS h m [(0, 0, 4073), (1, 0, 4073), (2, 0, 4073), (3, 0, 4073), (4, 0, 40730), (5, 1, 306), (6, 1, 306), (7, 1, 306), (8, 1, 3060), (12, 0, 40), (14, 0, 800), (24, 5, 9), (25, 0, 9)] h13) (x13 : ∀ j, j < 9 → j_R h13 (m + 12) j = some (E.1 (39 + j))) (i13 : ∀ j, 1 ≤ j → j < 9 → j_I h13 (m + 13) j = nI (fld j)) (q13 : Z1 h13 m) (H : ∀ h', MB E m rZero h' → HCn E h' m → (∀ k, k ≠ 22 → j_I h' m k = 0) → Z1 h' m → FQ nF m h h' → j_z h' = m + 16 → j_c h' = j_c h + 15 → j_k h' = j_k h + 62258 → Q (.inl none) h') : j_wp (j_Met l D bs E (d + 1)) G Q E q_rI33 213 [.ref m] [] h13 := by
  have e9 : Int32.toNatClampNeg 9 = 9 := by decide +kernel
  have e200 : Int32.toNatClampNeg 200 = 200 := by decide +kernel
  have y13 : j_c h13 = j_c h + 13 := AS_c a13 (by simp)
  have w13 : j_k h13 = j_k h + 61858 := AS_k a13 (by simp [szs])
  have z13 : j_z h13 = m + 14 := a13.2.2.1
  dsimp only [q_rI33, j_wp, j_opB, j_opA, j_nth, j_i1, j_i2, j_l1, j_l2, j_li, j_f1, j_f2, j_d1, j_d2, j_r1, j_ai, j_aii, j_ail, j_aid, j_air, j_st1, j_st2, j_stu, j_kl, j_cond, j_args, j_out, j_few, j_cw, j_nat, j_pad, j_exp, Nat.reduceAdd]
  rw [e200]
  refine ⟨by decide +kernel, by omega, by omega, by omega, ?_⟩
  refine ⟨AS_n a13, ?_⟩
  have a14 : AS h m [(0, 0, 4073), (1, 0, 4073), (2, 0, 4073), (3, 0, 4073), (4, 0, 40730), (5, 1, 306), (6, 1, 306), (7, 1, 306), (8, 1, 3060), (12, 0, 40), (14, 0, 800), (24, 5, 9), (25, 0, 9), (26, 0, 200)] (j_setR (j_new h13 (.inl (0, 200)) 200) m 26 (some (j_z h13))) := AS_fill a13 (by decide) Fl_rf
  have x14 : ∀ j, j < 9 → j_R (j_setR (j_new h13 (.inl (0, 200)) 200) m 26 (some (j_z h13))) (m + 12) j = some (E.1 (39 + j)) := fun j hj => (AS_keep a13 Fl_rf (by omega) (by omega) j).1.trans (x13 j hj)
  have i14 : ∀ j, 1 ≤ j → j < 9 → j_I (j_setR (j_new h13 (.inl (0, 200)) 200) m 26 (some (j_z h13))) (m + 13) j = nI (fld j) := fun j g1 g2 => (AS_keep a13 Fl_rf (by omega) (by omega) j).2.trans (i13 j g1 g2)
  have q14 : Z1 (j_setR (j_new h13 (.inl (0, 200)) 200) m 26 (some (j_z h13))) m := AS_Z a13 Fl_rf (by omega) q13
  generalize j_setR (j_new h13 (.inl (0, 200)) 200) m 26 (some (j_z h13)) = h14 at a14 x14 i14 q14 ⊢
  have y14 : j_c h14 = j_c h + 14 := AS_c a14 (by simp)
  have w14 : j_k h14 = j_k h + 62058 := AS_k a14 (by simp [szs])
  have z14 : j_z h14 = m + 15 := a14.2.2.1
  dsimp only [q_rI34, j_wp, j_opB, j_opA, j_nth, j_i1, j_i2, j_l1, j_l2, j_li, j_f1, j_f2, j_d1, j_d2, j_r1, j_ai, j_aii, j_ail, j_aid, j_air, j_st1, j_st2, j_stu, j_kl, j_cond, j_args, j_out, j_few, j_cw, j_nat, j_pad, j_exp, Nat.reduceAdd]
  rw [e200]
  refine ⟨by decide +kernel, by omega, by omega, by omega, ?_⟩
  refine ⟨AS_n a14, ?_⟩
  have a15 : AS h m [(0, 0, 4073), (1, 0, 4073), (2, 0, 4073), (3, 0, 4073), (4, 0, 40730), (5, 1, 306), (6, 1, 306), (7, 1, 306), (8, 1, 3060), (12, 0, 40), (14, 0, 800), (24, 5, 9), (25, 0, 9), (26, 0, 200), (27, 0, 200)] (j_setR (j_new h14 (.inl (0, 200)) 200) m 27 (some (j_z h14))) := AS_fill a14 (by decide) Fl_rf
  have x15 : ∀ j, j < 9 → j_R (j_setR (j_new h14 (.inl (0, 200)) 200) m 27 (some (j_z h14))) (m + 12) j = some (E.1 (39 + j)) := fun j hj => (AS_keep a14 Fl_rf (by omega) (by omega) j).1.trans (x14 j hj)
  have i15 : ∀ j, 1 ≤ j → j < 9 → j_I (j_setR (j_new h14 (.inl (0, 200)) 200) m 27 (some (j_z h14))) (m + 13) j = nI (fld j) := fun j g1 g2 => (AS_keep a14 Fl_rf (by omega) (by omega) j).2.trans (i14 j g1 g2)
  have q15 : Z1 (j_setR (j_new h14 (.inl (0, 200)) 200) m 27 (some (j_z h14))) m := AS_Z a14 Fl_rf (by omega) q14
  generalize j_setR (j_new h14 (.inl (0, 200)) 200) m 27 (some (j_z h14)) = h15 at a15 x15 i15 q15 ⊢
  have y15 : j_c h15 = j_c h + 15 := AS_c a15 (by simp)
  have w15 : j_k h15 = j_k h + 62258 := AS_k a15 (by simp [szs])
  have z15 : j_z h15 = m + 16 := a15.2.2.1
  obtain ⟨b1, b2, b3, b4, b5, b6, b7⟩ := a15
  have g0 := b7 0 _ rfl
  dsimp only [q_rI35, j_wp, j_opB, j_opA, j_nth, j_i1, j_i2, j_l1, j_l2, j_li, j_f1, j_f2, j_d1, j_d2, j_r1, j_ai, j_aii, j_ail, j_aid, j_air, j_st1, j_st2, j_stu, j_kl, j_cond, j_args, j_out, j_few, j_cw, j_nat, j_pad, j_exp, Nat.reduceAdd]
  simp only [b2, g0.1, j_ref, j_ari, j_arb, j_arr, j_len, j_nar, j_oi, j_ol, j_of, j_od, j_or, j_ov, true_and, and_true]
  refine sp_X9_clear hl ⟨by omega, by omega⟩ g0.2.1 (fun h9 f9 v9 => ?_)
  simp only [j_ref, j_ari, j_arb, j_arr, j_len, j_nar, j_oi, j_ol, j_of, j_od, j_or, j_ov, true_and, and_true]
  obtain ⟨c1', c2', c3', c4', c5', c6', c7', c8'⟩ := f9
  have mm : mk h9 m := by
    unfold mk
    rw [c1', c2']
    exact ⟨b2, ⟨(b7 0 _ rfl).1, (b7 0 _ rfl).2.1⟩, ⟨(b7 1 _ rfl).1, (b7 1 _ rfl).2.1⟩, ⟨(b7 2 _ rfl).1, (b7 2 _ rfl).2.1⟩, ⟨(b7 3 _ rfl).1, (b7 3 _ rfl).2.1⟩, ⟨(b7 4 _ rfl).1, (b7 4 _ rfl).2.1⟩, ⟨(b7 5 _ rfl).1, (b7 5 _ rfl).2.1⟩, ⟨(b7 6 _ rfl).1, (b7 6 _ rfl).2.1⟩, ⟨(b7 7 _ rfl).1, (b7 7 _ rfl).2.1⟩, ⟨(b7 8 _ rfl).1, (b7 8 _ rfl).2.1⟩, ⟨(b7 9 _ rfl).1, (b7 9 _ rfl).2.1⟩, ⟨(b7 10 _ rfl).1, (b7 10 _ rfl).2.1⟩, ⟨(b7 11 _ rfl).1, (b7 11 _ rfl).2.1⟩, ⟨(b7 12 _ rfl).1, (b7 12 _ rfl).2.1⟩, ⟨(b7 13 _ rfl).1, (b7 13 _ rfl).2.1⟩, ⟨(b7 14 _ rfl).1, (b7 14 _ rfl).2.1⟩⟩
  refine H h9 ⟨mm, RG_zero v9, ⟨fun k _ => ?_, fun k _ => ?_⟩, ⟨by omega, by omega⟩⟩ ⟨fun j hj => by rw [c2']; exact x15 j hj, fun j g1 g2 => by rw [c7' _ _ (by omega)]; exact i15 j g1 g2⟩ (fun k hk => by rw [c7' _ _ (by omega)]; exact b6 k hk) ⟨by rw [c7' _ _ (by omega)]; exact q15.1, fun k => by rw [c7' _ _ (by omega)]; exact q15.2 k⟩ ?_ (by omega) (by omega) (by omega)
  · rw [c8' _ _ (by omega)]
    exact (b7 5 _ rfl).2.2 k
  · rw [c8' _ _ (by omega)]
    exact (b7 5 _ rfl).2.2 (6 + k)
  · refine ⟨by omega, fun b hb => ?_⟩
    obtain ⟨d1, d2, d3, d4⟩ := b1.2 b hb
    exact ⟨by rw [c1']; exact d1, fun k => by rw [c2']; exact d2 k, fun k => by rw [c3']; exact d3 k, fun y => ⟨fun k => by rw [c7' _ _ (by omega)]; exact (d4 y).1 k, fun k => by rw [c8' _ _ (by omega)]; exact (d4 y).2 k⟩⟩
set_option maxRecDepth 16000 in
theorem ri_flds (hl : l.stackTraces = false) {G : j_G} (c1 : j_c h + 15 ≤ E.2.1) (c2 : j_k h + 62258 ≤ E.2.2) {h12 : j_H} (a12 : AS h m [(0, 0, 4073), (1, 0, 4073), (2, 0, 4073), (3, 0, 4073), (4, 0, 40730), (5, 1, 306), (6, 1, 306), (7, 1, 306), (8, 1, 3060), (12, 0, 40), (14, 0, 800), (24, 5, 9)] h12) (x12 : ∀ j, j < 9 → j_R h12 (m + 12) j = some (E.1 (39 + j))) (q12 : Z1 h12 m) (H : ∀ h', MB E m rZero h' → HCn E h' m → (∀ k, k ≠ 22 → j_I h' m k = 0) → Z1 h' m → FQ nF m h h' → j_z h' = m + 16 → j_c h' = j_c h + 15 → j_k h' = j_k h + 62258 → Q (.inl none) h') : j_wp (j_Met l D bs E (d + 1)) G Q E q_rI23 163 [.ref m] [] h12 := by
  have e9 : Int32.toNatClampNeg 9 = 9 := by decide +kernel
  have e200 : Int32.toNatClampNeg 200 = 200 := by decide +kernel
  have y12 : j_c h12 = j_c h + 12 := AS_c a12 (by simp)
  have w12 : j_k h12 = j_k h + 61849 := AS_k a12 (by simp [szs])
  have z12 : j_z h12 = m + 13 := a12.2.2.1
  have l0 : Fl (j_z h12) (j_new h12 (.inl (0, 9)) 9) (j_new h12 (.inl (0, 9)) 9) := Fl_rf
  have k0 : ∀ j, 1 ≤ j → j < 0 → j_I (j_new h12 (.inl (0, 9)) 9) (j_z h12) j = nI (fld j) := fun j _ hj => absurd hj (Nat.not_lt_zero _)
  have o0 : j_sh (j_new h12 (.inl (0, 9)) 9) (j_z h12) = some (.inl (0, 9)) := by rw [l0.1, nw_sh, if_pos rfl]
  dsimp only [q_rI23, j_wp, j_opB, j_opA, j_nth, j_i1, j_i2, j_l1, j_l2, j_li, j_f1, j_f2, j_d1, j_d2, j_r1, j_ai, j_aii, j_ail, j_aid, j_air, j_st1, j_st2, j_stu, j_kl, j_cond, j_args, j_out, j_few, j_cw, j_nat, j_pad, j_exp, Nat.reduceAdd]
  rw [e9]
  refine ⟨by decide +kernel, by omega, by omega, by omega, ?_⟩
  simp only [o0, j_ref, j_ari, j_arb, j_arr, j_len, j_nar, j_oi, j_ol, j_of, j_od, j_or, j_ov, true_and, and_true]
  refine ⟨show vp_in (nI 0) 9 from vp_in_nI (by omega) (by omega), ?_⟩
  rw [show Int32.toNatClampNeg 0 = 0 from by decide]
  have l1 : Fl (j_z h12) (j_new h12 (.inl (0, 9)) 9) (j_setI (j_new h12 (.inl (0, 9)) 9) (j_z h12) 0 (-1)) := Fl_sI l0
  have k1 : ∀ j, 1 ≤ j → j < 1 → j_I (j_setI (j_new h12 (.inl (0, 9)) 9) (j_z h12) 0 (-1)) (j_z h12) j = nI (fld j) := FillI k0 (fun z => absurd z (by omega))
  generalize j_setI (j_new h12 (.inl (0, 9)) 9) (j_z h12) 0 (-1) = p1 at l1 k1 ⊢
  have o1 : j_sh (p1) (j_z h12) = some (.inl (0, 9)) := by rw [l1.1, nw_sh, if_pos rfl]
  dsimp only [q_rI24, j_wp, j_opB, j_opA, j_nth, j_i1, j_i2, j_l1, j_l2, j_li, j_f1, j_f2, j_d1, j_d2, j_r1, j_ai, j_aii, j_ail, j_aid, j_air, j_st1, j_st2, j_stu, j_kl, j_cond, j_args, j_out, j_few, j_cw, j_nat, j_pad, j_exp, Nat.reduceAdd]
  simp only [o1, j_ref, j_ari, j_arb, j_arr, j_len, j_nar, j_oi, j_ol, j_of, j_od, j_or, j_ov, true_and, and_true]
  refine ⟨show vp_in (nI 1) 9 from vp_in_nI (by omega) (by omega), ?_⟩
  rw [show Int32.toNatClampNeg 1 = 1 from by decide]
  have l2 : Fl (j_z h12) (j_new h12 (.inl (0, 9)) 9) (j_setI (p1) (j_z h12) 1 0) := Fl_sI l1
  have k2 : ∀ j, 1 ≤ j → j < 2 → j_I (j_setI (p1) (j_z h12) 1 0) (j_z h12) j = nI (fld j) := FillI k1 (fun _ => by decide)
  generalize j_setI (p1) (j_z h12) 1 0 = p2 at l2 k2 ⊢
  have o2 : j_sh (p2) (j_z h12) = some (.inl (0, 9)) := by rw [l2.1, nw_sh, if_pos rfl]
  dsimp only [q_rI25, j_wp, j_opB, j_opA, j_nth, j_i1, j_i2, j_l1, j_l2, j_li, j_f1, j_f2, j_d1, j_d2, j_r1, j_ai, j_aii, j_ail, j_aid, j_air, j_st1, j_st2, j_stu, j_kl, j_cond, j_args, j_out, j_few, j_cw, j_nat, j_pad, j_exp, Nat.reduceAdd]
  simp only [o2, j_ref, j_ari, j_arb, j_arr, j_len, j_nar, j_oi, j_ol, j_of, j_od, j_or, j_ov, true_and, and_true]
  refine ⟨show vp_in (nI 2) 9 from vp_in_nI (by omega) (by omega), ?_⟩
  rw [show Int32.toNatClampNeg 2 = 2 from by decide]
  have l3 : Fl (j_z h12) (j_new h12 (.inl (0, 9)) 9) (j_setI (p2) (j_z h12) 2 1) := Fl_sI l2
  have k3 : ∀ j, 1 ≤ j → j < 3 → j_I (j_setI (p2) (j_z h12) 2 1) (j_z h12) j = nI (fld j) := FillI k2 (fun _ => by decide)
  generalize j_setI (p2) (j_z h12) 2 1 = p3 at l3 k3 ⊢
  have o3 : j_sh (p3) (j_z h12) = some (.inl (0, 9)) := by rw [l3.1, nw_sh, if_pos rfl]
  dsimp only [q_rI26, j_wp, j_opB, j_opA, j_nth, j_i1, j_i2, j_l1, j_l2, j_li, j_f1, j_f2, j_d1, j_d2, j_r1, j_ai, j_aii, j_ail, j_aid, j_air, j_st1, j_st2, j_stu, j_kl, j_cond, j_args, j_out, j_few, j_cw, j_nat, j_pad, j_exp, Nat.reduceAdd]
  simp only [o3, j_ref, j_ari, j_arb, j_arr, j_len, j_nar, j_oi, j_ol, j_of, j_od, j_or, j_ov, true_and, and_true]
  refine ⟨show vp_in (nI 3) 9 from vp_in_nI (by omega) (by omega), ?_⟩
  rw [show Int32.toNatClampNeg 3 = 3 from by decide]
  have l4 : Fl (j_z h12) (j_new h12 (.inl (0, 9)) 9) (j_setI (p3) (j_z h12) 3 3) := Fl_sI l3
  have k4 : ∀ j, 1 ≤ j → j < 4 → j_I (j_setI (p3) (j_z h12) 3 3) (j_z h12) j = nI (fld j) := FillI k3 (fun _ => by decide)
  generalize j_setI (p3) (j_z h12) 3 3 = p4 at l4 k4 ⊢
  have o4 : j_sh (p4) (j_z h12) = some (.inl (0, 9)) := by rw [l4.1, nw_sh, if_pos rfl]
  dsimp only [q_rI27, j_wp, j_opB, j_opA, j_nth, j_i1, j_i2, j_l1, j_l2, j_li, j_f1, j_f2, j_d1, j_d2, j_r1, j_ai, j_aii, j_ail, j_aid, j_air, j_st1, j_st2, j_stu, j_kl, j_cond, j_args, j_out, j_few, j_cw, j_nat, j_pad, j_exp, Nat.reduceAdd]
  simp only [o4, j_ref, j_ari, j_arb, j_arr, j_len, j_nar, j_oi, j_ol, j_of, j_od, j_or, j_ov, true_and, and_true]
  refine ⟨show vp_in (nI 4) 9 from vp_in_nI (by omega) (by omega), ?_⟩
  rw [show Int32.toNatClampNeg 4 = 4 from by decide]
  have l5 : Fl (j_z h12) (j_new h12 (.inl (0, 9)) 9) (j_setI (p4) (j_z h12) 4 4) := Fl_sI l4
  have k5 : ∀ j, 1 ≤ j → j < 5 → j_I (j_setI (p4) (j_z h12) 4 4) (j_z h12) j = nI (fld j) := FillI k4 (fun _ => by decide)
  generalize j_setI (p4) (j_z h12) 4 4 = p5 at l5 k5 ⊢
  have o5 : j_sh (p5) (j_z h12) = some (.inl (0, 9)) := by rw [l5.1, nw_sh, if_pos rfl]
  dsimp only [q_rI28, j_wp, j_opB, j_opA, j_nth, j_i1, j_i2, j_l1, j_l2, j_li, j_f1, j_f2, j_d1, j_d2, j_r1, j_ai, j_aii, j_ail, j_aid, j_air, j_st1, j_st2, j_stu, j_kl, j_cond, j_args, j_out, j_few, j_cw, j_nat, j_pad, j_exp, Nat.reduceAdd]
  simp only [o5, j_ref, j_ari, j_arb, j_arr, j_len, j_nar, j_oi, j_ol, j_of, j_od, j_or, j_ov, true_and, and_true]
  refine ⟨show vp_in (nI 5) 9 from vp_in_nI (by omega) (by omega), ?_⟩
  rw [show Int32.toNatClampNeg 5 = 5 from by decide]
  have l6 : Fl (j_z h12) (j_new h12 (.inl (0, 9)) 9) (j_setI (p5) (j_z h12) 5 2) := Fl_sI l5
  have k6 : ∀ j, 1 ≤ j → j < 6 → j_I (j_setI (p5) (j_z h12) 5 2) (j_z h12) j = nI (fld j) := FillI k5 (fun _ => by decide)
  generalize j_setI (p5) (j_z h12) 5 2 = p6 at l6 k6 ⊢
  have o6 : j_sh (p6) (j_z h12) = some (.inl (0, 9)) := by rw [l6.1, nw_sh, if_pos rfl]
  dsimp only [q_rI29, j_wp, j_opB, j_opA, j_nth, j_i1, j_i2, j_l1, j_l2, j_li, j_f1, j_f2, j_d1, j_d2, j_r1, j_ai, j_aii, j_ail, j_aid, j_air, j_st1, j_st2, j_stu, j_kl, j_cond, j_args, j_out, j_few, j_cw, j_nat, j_pad, j_exp, Nat.reduceAdd]
  simp only [o6, j_ref, j_ari, j_arb, j_arr, j_len, j_nar, j_oi, j_ol, j_of, j_od, j_or, j_ov, true_and, and_true]
  refine ⟨show vp_in (nI 6) 9 from vp_in_nI (by omega) (by omega), ?_⟩
  rw [show Int32.toNatClampNeg 6 = 6 from by decide]
  have l7 : Fl (j_z h12) (j_new h12 (.inl (0, 9)) 9) (j_setI (p6) (j_z h12) 6 6) := Fl_sI l6
  have k7 : ∀ j, 1 ≤ j → j < 7 → j_I (j_setI (p6) (j_z h12) 6 6) (j_z h12) j = nI (fld j) := FillI k6 (fun _ => by decide)
  generalize j_setI (p6) (j_z h12) 6 6 = p7 at l7 k7 ⊢
  have o7 : j_sh (p7) (j_z h12) = some (.inl (0, 9)) := by rw [l7.1, nw_sh, if_pos rfl]
  dsimp only [q_rI30, j_wp, j_opB, j_opA, j_nth, j_i1, j_i2, j_l1, j_l2, j_li, j_f1, j_f2, j_d1, j_d2, j_r1, j_ai, j_aii, j_ail, j_aid, j_air, j_st1, j_st2, j_stu, j_kl, j_cond, j_args, j_out, j_few, j_cw, j_nat, j_pad, j_exp, Nat.reduceAdd]
  simp only [o7, j_ref, j_ari, j_arb, j_arr, j_len, j_nar, j_oi, j_ol, j_of, j_od, j_or, j_ov, true_and, and_true]
  refine ⟨show vp_in (nI 7) 9 from vp_in_nI (by omega) (by omega), ?_⟩
  rw [show Int32.toNatClampNeg 7 = 7 from by decide]
  have l8 : Fl (j_z h12) (j_new h12 (.inl (0, 9)) 9) (j_setI (p7) (j_z h12) 7 7) := Fl_sI l7
  have k8 : ∀ j, 1 ≤ j → j < 8 → j_I (j_setI (p7) (j_z h12) 7 7) (j_z h12) j = nI (fld j) := FillI k7 (fun _ => by decide)
  generalize j_setI (p7) (j_z h12) 7 7 = p8 at l8 k8 ⊢
  have o8 : j_sh (p8) (j_z h12) = some (.inl (0, 9)) := by rw [l8.1, nw_sh, if_pos rfl]
  dsimp only [q_rI31, j_wp, j_opB, j_opA, j_nth, j_i1, j_i2, j_l1, j_l2, j_li, j_f1, j_f2, j_d1, j_d2, j_r1, j_ai, j_aii, j_ail, j_aid, j_air, j_st1, j_st2, j_stu, j_kl, j_cond, j_args, j_out, j_few, j_cw, j_nat, j_pad, j_exp, Nat.reduceAdd]
  simp only [o8, j_ref, j_ari, j_arb, j_arr, j_len, j_nar, j_oi, j_ol, j_of, j_od, j_or, j_ov, true_and, and_true]
  refine ⟨show vp_in (nI 8) 9 from vp_in_nI (by omega) (by omega), ?_⟩
  rw [show Int32.toNatClampNeg 8 = 8 from by decide]
  have l9 : Fl (j_z h12) (j_new h12 (.inl (0, 9)) 9) (j_setI (p8) (j_z h12) 8 8) := Fl_sI l8
  have k9 : ∀ j, 1 ≤ j → j < 9 → j_I (j_setI (p8) (j_z h12) 8 8) (j_z h12) j = nI (fld j) := FillI k8 (fun _ => by decide)
  generalize j_setI (p8) (j_z h12) 8 8 = p9 at l9 k9 ⊢
  have sp9 : j_sh p9 m = some (.inr 11) := by rw [l9.1]; exact AS_n a12
  dsimp only [q_rI32, j_wp, j_opB, j_opA, j_nth, j_i1, j_i2, j_l1, j_l2, j_li, j_f1, j_f2, j_d1, j_d2, j_r1, j_ai, j_aii, j_ail, j_aid, j_air, j_st1, j_st2, j_stu, j_kl, j_cond, j_args, j_out, j_few, j_cw, j_nat, j_pad, j_exp, Nat.reduceAdd]
  try simp only [sp9, j_ref, j_ari, j_arb, j_arr, j_len, j_nar, j_oi, j_ol, j_of, j_od, j_or, j_ov, true_and, and_true]
  have a13 : AS h m [(0, 0, 4073), (1, 0, 4073), (2, 0, 4073), (3, 0, 4073), (4, 0, 40730), (5, 1, 306), (6, 1, 306), (7, 1, 306), (8, 1, 3060), (12, 0, 40), (14, 0, 800), (24, 5, 9), (25, 0, 9)] (j_setR p9 m 25 (some (j_z h12))) := AS_fill a12 (by decide) l9
  have x13 : ∀ j, j < 9 → j_R (j_setR p9 m 25 (some (j_z h12))) (m + 12) j = some (E.1 (39 + j)) := fun j hj => (AS_keep a12 l9 (by omega) (by omega) j).1.trans (x12 j hj)
  have i13 : ∀ j, 1 ≤ j → j < 9 → j_I (j_setR p9 m 25 (some (j_z h12))) (m + 13) j = nI (fld j) := fun j g1 g2 => by rw [← z12]; exact k9 j g1 g2
  have q13 : Z1 (j_setR p9 m 25 (some (j_z h12))) m := AS_Z a12 l9 (by omega) q12
  generalize j_setR p9 m 25 (some (j_z h12)) = h13 at a13 x13 i13 q13 ⊢
  have y13 : j_c h13 = j_c h + 13 := AS_c a13 (by simp)
  have w13 : j_k h13 = j_k h + 61858 := AS_k a13 (by simp [szs])
  have z13 : j_z h13 = m + 14 := a13.2.2.1
  exact ri_codes hl c1 c2 a13 x13 i13 q13 H
set_option maxRecDepth 16000 in
theorem ri_names (hl : l.stackTraces = false) {G : j_G} (c1 : j_c h + 15 ≤ E.2.1) (c2 : j_k h + 62258 ≤ E.2.2) (hK : KS E bs h) (hbs : bs ≤ m) {g11 : j_H} (b11 : AS h m [(0, 0, 4073), (1, 0, 4073), (2, 0, 4073), (3, 0, 4073), (4, 0, 40730), (5, 1, 306), (6, 1, 306), (7, 1, 306), (8, 1, 3060), (12, 0, 40), (14, 0, 800)] g11) (q11 : Z1 g11 m) (H : ∀ h', MB E m rZero h' → HCn E h' m → (∀ k, k ≠ 22 → j_I h' m k = 0) → Z1 h' m → FQ nF m h h' → j_z h' = m + 16 → j_c h' = j_c h + 15 → j_k h' = j_k h + 62258 → Q (.inl none) h') : j_wp (j_Met l D bs E (d + 1)) G Q E q_rI12 106 [.ref m] [] g11 := by
  have e9 : Int32.toNatClampNeg 9 = 9 := by decide +kernel
  have e200 : Int32.toNatClampNeg 200 = 200 := by decide +kernel
  have v11 : j_c g11 = j_c h + 11 := AS_c b11 (by simp)
  have u11 : j_k g11 = j_k h + 61840 := AS_k b11 (by simp [szs])
  dsimp only [q_rI12, j_wp, j_opB, j_opA, j_nth, j_i1, j_i2, j_l1, j_l2, j_li, j_f1, j_f2, j_d1, j_d2, j_r1, j_ai, j_aii, j_ail, j_aid, j_air, j_st1, j_st2, j_stu, j_kl, j_cond, j_args, j_out, j_few, j_cw, j_nat, j_pad, j_exp, Nat.reduceAdd]
  rw [e9]
  refine ⟨by decide +kernel, by omega, by omega, by omega, ?_⟩
  have zg : j_z g11 = m + 12 := b11.2.2.1
  have ks : ∀ i z, j_strs[i]? = some z → i < 69 → j_sh (j_new g11 (.inl (5, 9)) 9) (E.1 i) = some (.inr 0) := fun i z hz hi => by
    obtain ⟨k1, k2⟩ := KS_sh hK i hz hi
    rw [nw_sh, if_neg (by omega), (b11.1.2 _ (by omega)).1]
    exact k2
  have f0 : Fl (j_z g11) (j_new g11 (.inl (5, 9)) 9) (j_new g11 (.inl (5, 9)) 9) := Fl_rf
  have r0 : ∀ j, j < 0 → j_R (j_new g11 (.inl (5, 9)) 9) (j_z g11) j = some (E.1 (39 + j)) := fun j hj => absurd hj (Nat.not_lt_zero _)
  have s0 : j_sh (j_new g11 (.inl (5, 9)) 9) (j_z g11) = some (.inl (5, 9)) := by rw [f0.1, nw_sh, if_pos rfl]
  have t0' : j_sh (j_new g11 (.inl (5, 9)) 9) (E.1 39) = some (.inr 0) := by rw [f0.1]; exact ks 39 _ rfl (by omega)
  dsimp only [q_rI13, j_wp, j_opB, j_opA, j_nth, j_i1, j_i2, j_l1, j_l2, j_li, j_f1, j_f2, j_d1, j_d2, j_r1, j_ai, j_aii, j_ail, j_aid, j_air, j_st1, j_st2, j_stu, j_kl, j_cond, j_args, j_out, j_few, j_cw, j_nat, j_pad, j_exp, Nat.reduceAdd]
  simp only [s0, t0', j_ref, j_ari, j_arb, j_arr, j_len, j_nar, j_oi, j_ol, j_of, j_od, j_or, j_ov, true_and, and_true]
  refine ⟨show vp_in (nI 0) 9 from vp_in_nI (by omega) (by omega), ?_⟩
  rw [show Int32.toNatClampNeg 0 = 0 from by decide]
  have f1 : Fl (j_z g11) (j_new g11 (.inl (5, 9)) 9) (j_setR (j_new g11 (.inl (5, 9)) 9) (j_z g11) 0 (some (E.1 39))) := Fl_sR f0
  have r1 : ∀ j, j < 1 → j_R (j_setR (j_new g11 (.inl (5, 9)) 9) (j_z g11) 0 (some (E.1 39))) (j_z g11) j = some (E.1 (39 + j)) := FillR r0
  generalize j_setR (j_new g11 (.inl (5, 9)) 9) (j_z g11) 0 (some (E.1 39)) = n1 at f1 r1 ⊢
  have s1 : j_sh (n1) (j_z g11) = some (.inl (5, 9)) := by rw [f1.1, nw_sh, if_pos rfl]
  have t1' : j_sh (n1) (E.1 40) = some (.inr 0) := by rw [f1.1]; exact ks 40 _ rfl (by omega)
  dsimp only [q_rI14, j_wp, j_opB, j_opA, j_nth, j_i1, j_i2, j_l1, j_l2, j_li, j_f1, j_f2, j_d1, j_d2, j_r1, j_ai, j_aii, j_ail, j_aid, j_air, j_st1, j_st2, j_stu, j_kl, j_cond, j_args, j_out, j_few, j_cw, j_nat, j_pad, j_exp, Nat.reduceAdd]
  simp only [s1, t1', j_ref, j_ari, j_arb, j_arr, j_len, j_nar, j_oi, j_ol, j_of, j_od, j_or, j_ov, true_and, and_true]
  refine ⟨show vp_in (nI 1) 9 from vp_in_nI (by omega) (by omega), ?_⟩
  rw [show Int32.toNatClampNeg 1 = 1 from by decide]
  have f2 : Fl (j_z g11) (j_new g11 (.inl (5, 9)) 9) (j_setR (n1) (j_z g11) 1 (some (E.1 40))) := Fl_sR f1
  have r2 : ∀ j, j < 2 → j_R (j_setR (n1) (j_z g11) 1 (some (E.1 40))) (j_z g11) j = some (E.1 (39 + j)) := FillR r1
  generalize j_setR (n1) (j_z g11) 1 (some (E.1 40)) = n2 at f2 r2 ⊢
  have s2 : j_sh (n2) (j_z g11) = some (.inl (5, 9)) := by rw [f2.1, nw_sh, if_pos rfl]
  have t2' : j_sh (n2) (E.1 41) = some (.inr 0) := by rw [f2.1]; exact ks 41 _ rfl (by omega)
  dsimp only [q_rI15, j_wp, j_opB, j_opA, j_nth, j_i1, j_i2, j_l1, j_l2, j_li, j_f1, j_f2, j_d1, j_d2, j_r1, j_ai, j_aii, j_ail, j_aid, j_air, j_st1, j_st2, j_stu, j_kl, j_cond, j_args, j_out, j_few, j_cw, j_nat, j_pad, j_exp, Nat.reduceAdd]
  simp only [s2, t2', j_ref, j_ari, j_arb, j_arr, j_len, j_nar, j_oi, j_ol, j_of, j_od, j_or, j_ov, true_and, and_true]
  refine ⟨show vp_in (nI 2) 9 from vp_in_nI (by omega) (by omega), ?_⟩
  rw [show Int32.toNatClampNeg 2 = 2 from by decide]
  have f3 : Fl (j_z g11) (j_new g11 (.inl (5, 9)) 9) (j_setR (n2) (j_z g11) 2 (some (E.1 41))) := Fl_sR f2
  have r3 : ∀ j, j < 3 → j_R (j_setR (n2) (j_z g11) 2 (some (E.1 41))) (j_z g11) j = some (E.1 (39 + j)) := FillR r2
  generalize j_setR (n2) (j_z g11) 2 (some (E.1 41)) = n3 at f3 r3 ⊢
  have s3 : j_sh (n3) (j_z g11) = some (.inl (5, 9)) := by rw [f3.1, nw_sh, if_pos rfl]
  have t3' : j_sh (n3) (E.1 42) = some (.inr 0) := by rw [f3.1]; exact ks 42 _ rfl (by omega)
  dsimp only [q_rI16, j_wp, j_opB, j_opA, j_nth, j_i1, j_i2, j_l1, j_l2, j_li, j_f1, j_f2, j_d1, j_d2, j_r1, j_ai, j_aii, j_ail, j_aid, j_air, j_st1, j_st2, j_stu, j_kl, j_cond, j_args, j_out, j_few, j_cw, j_nat, j_pad, j_exp, Nat.reduceAdd]
  simp only [s3, t3', j_ref, j_ari, j_arb, j_arr, j_len, j_nar, j_oi, j_ol, j_of, j_od, j_or, j_ov, true_and, and_true]
  refine ⟨show vp_in (nI 3) 9 from vp_in_nI (by omega) (by omega), ?_⟩
  rw [show Int32.toNatClampNeg 3 = 3 from by decide]
  have f4 : Fl (j_z g11) (j_new g11 (.inl (5, 9)) 9) (j_setR (n3) (j_z g11) 3 (some (E.1 42))) := Fl_sR f3
  have r4 : ∀ j, j < 4 → j_R (j_setR (n3) (j_z g11) 3 (some (E.1 42))) (j_z g11) j = some (E.1 (39 + j)) := FillR r3
  generalize j_setR (n3) (j_z g11) 3 (some (E.1 42)) = n4 at f4 r4 ⊢
  have s4 : j_sh (n4) (j_z g11) = some (.inl (5, 9)) := by rw [f4.1, nw_sh, if_pos rfl]
  have t4' : j_sh (n4) (E.1 43) = some (.inr 0) := by rw [f4.1]; exact ks 43 _ rfl (by omega)
  dsimp only [q_rI17, j_wp, j_opB, j_opA, j_nth, j_i1, j_i2, j_l1, j_l2, j_li, j_f1, j_f2, j_d1, j_d2, j_r1, j_ai, j_aii, j_ail, j_aid, j_air, j_st1, j_st2, j_stu, j_kl, j_cond, j_args, j_out, j_few, j_cw, j_nat, j_pad, j_exp, Nat.reduceAdd]
  simp only [s4, t4', j_ref, j_ari, j_arb, j_arr, j_len, j_nar, j_oi, j_ol, j_of, j_od, j_or, j_ov, true_and, and_true]
  refine ⟨show vp_in (nI 4) 9 from vp_in_nI (by omega) (by omega), ?_⟩
  rw [show Int32.toNatClampNeg 4 = 4 from by decide]
  have f5 : Fl (j_z g11) (j_new g11 (.inl (5, 9)) 9) (j_setR (n4) (j_z g11) 4 (some (E.1 43))) := Fl_sR f4
  have r5 : ∀ j, j < 5 → j_R (j_setR (n4) (j_z g11) 4 (some (E.1 43))) (j_z g11) j = some (E.1 (39 + j)) := FillR r4
  generalize j_setR (n4) (j_z g11) 4 (some (E.1 43)) = n5 at f5 r5 ⊢
  have s5 : j_sh (n5) (j_z g11) = some (.inl (5, 9)) := by rw [f5.1, nw_sh, if_pos rfl]
  have t5' : j_sh (n5) (E.1 44) = some (.inr 0) := by rw [f5.1]; exact ks 44 _ rfl (by omega)
  dsimp only [q_rI18, j_wp, j_opB, j_opA, j_nth, j_i1, j_i2, j_l1, j_l2, j_li, j_f1, j_f2, j_d1, j_d2, j_r1, j_ai, j_aii, j_ail, j_aid, j_air, j_st1, j_st2, j_stu, j_kl, j_cond, j_args, j_out, j_few, j_cw, j_nat, j_pad, j_exp, Nat.reduceAdd]
  simp only [s5, t5', j_ref, j_ari, j_arb, j_arr, j_len, j_nar, j_oi, j_ol, j_of, j_od, j_or, j_ov, true_and, and_true]
  refine ⟨show vp_in (nI 5) 9 from vp_in_nI (by omega) (by omega), ?_⟩
  rw [show Int32.toNatClampNeg 5 = 5 from by decide]
  have f6 : Fl (j_z g11) (j_new g11 (.inl (5, 9)) 9) (j_setR (n5) (j_z g11) 5 (some (E.1 44))) := Fl_sR f5
  have r6 : ∀ j, j < 6 → j_R (j_setR (n5) (j_z g11) 5 (some (E.1 44))) (j_z g11) j = some (E.1 (39 + j)) := FillR r5
  generalize j_setR (n5) (j_z g11) 5 (some (E.1 44)) = n6 at f6 r6 ⊢
  have s6 : j_sh (n6) (j_z g11) = some (.inl (5, 9)) := by rw [f6.1, nw_sh, if_pos rfl]
  have t6' : j_sh (n6) (E.1 45) = some (.inr 0) := by rw [f6.1]; exact ks 45 _ rfl (by omega)
  dsimp only [q_rI19, j_wp, j_opB, j_opA, j_nth, j_i1, j_i2, j_l1, j_l2, j_li, j_f1, j_f2, j_d1, j_d2, j_r1, j_ai, j_aii, j_ail, j_aid, j_air, j_st1, j_st2, j_stu, j_kl, j_cond, j_args, j_out, j_few, j_cw, j_nat, j_pad, j_exp, Nat.reduceAdd]
  simp only [s6, t6', j_ref, j_ari, j_arb, j_arr, j_len, j_nar, j_oi, j_ol, j_of, j_od, j_or, j_ov, true_and, and_true]
  refine ⟨show vp_in (nI 6) 9 from vp_in_nI (by omega) (by omega), ?_⟩
  rw [show Int32.toNatClampNeg 6 = 6 from by decide]
  have f7 : Fl (j_z g11) (j_new g11 (.inl (5, 9)) 9) (j_setR (n6) (j_z g11) 6 (some (E.1 45))) := Fl_sR f6
  have r7 : ∀ j, j < 7 → j_R (j_setR (n6) (j_z g11) 6 (some (E.1 45))) (j_z g11) j = some (E.1 (39 + j)) := FillR r6
  generalize j_setR (n6) (j_z g11) 6 (some (E.1 45)) = n7 at f7 r7 ⊢
  have s7 : j_sh (n7) (j_z g11) = some (.inl (5, 9)) := by rw [f7.1, nw_sh, if_pos rfl]
  have t7' : j_sh (n7) (E.1 46) = some (.inr 0) := by rw [f7.1]; exact ks 46 _ rfl (by omega)
  dsimp only [q_rI20, j_wp, j_opB, j_opA, j_nth, j_i1, j_i2, j_l1, j_l2, j_li, j_f1, j_f2, j_d1, j_d2, j_r1, j_ai, j_aii, j_ail, j_aid, j_air, j_st1, j_st2, j_stu, j_kl, j_cond, j_args, j_out, j_few, j_cw, j_nat, j_pad, j_exp, Nat.reduceAdd]
  simp only [s7, t7', j_ref, j_ari, j_arb, j_arr, j_len, j_nar, j_oi, j_ol, j_of, j_od, j_or, j_ov, true_and, and_true]
  refine ⟨show vp_in (nI 7) 9 from vp_in_nI (by omega) (by omega), ?_⟩
  rw [show Int32.toNatClampNeg 7 = 7 from by decide]
  have f8 : Fl (j_z g11) (j_new g11 (.inl (5, 9)) 9) (j_setR (n7) (j_z g11) 7 (some (E.1 46))) := Fl_sR f7
  have r8 : ∀ j, j < 8 → j_R (j_setR (n7) (j_z g11) 7 (some (E.1 46))) (j_z g11) j = some (E.1 (39 + j)) := FillR r7
  generalize j_setR (n7) (j_z g11) 7 (some (E.1 46)) = n8 at f8 r8 ⊢
  have s8 : j_sh (n8) (j_z g11) = some (.inl (5, 9)) := by rw [f8.1, nw_sh, if_pos rfl]
  have t8' : j_sh (n8) (E.1 47) = some (.inr 0) := by rw [f8.1]; exact ks 47 _ rfl (by omega)
  dsimp only [q_rI21, j_wp, j_opB, j_opA, j_nth, j_i1, j_i2, j_l1, j_l2, j_li, j_f1, j_f2, j_d1, j_d2, j_r1, j_ai, j_aii, j_ail, j_aid, j_air, j_st1, j_st2, j_stu, j_kl, j_cond, j_args, j_out, j_few, j_cw, j_nat, j_pad, j_exp, Nat.reduceAdd]
  simp only [s8, t8', j_ref, j_ari, j_arb, j_arr, j_len, j_nar, j_oi, j_ol, j_of, j_od, j_or, j_ov, true_and, and_true]
  refine ⟨show vp_in (nI 8) 9 from vp_in_nI (by omega) (by omega), ?_⟩
  rw [show Int32.toNatClampNeg 8 = 8 from by decide]
  have f9 : Fl (j_z g11) (j_new g11 (.inl (5, 9)) 9) (j_setR (n8) (j_z g11) 8 (some (E.1 47))) := Fl_sR f8
  have r9 : ∀ j, j < 9 → j_R (j_setR (n8) (j_z g11) 8 (some (E.1 47))) (j_z g11) j = some (E.1 (39 + j)) := FillR r8
  generalize j_setR (n8) (j_z g11) 8 (some (E.1 47)) = n9 at f9 r9 ⊢
  have sm9 : j_sh n9 m = some (.inr 11) := by rw [f9.1]; exact AS_n b11
  dsimp only [q_rI22, j_wp, j_opB, j_opA, j_nth, j_i1, j_i2, j_l1, j_l2, j_li, j_f1, j_f2, j_d1, j_d2, j_r1, j_ai, j_aii, j_ail, j_aid, j_air, j_st1, j_st2, j_stu, j_kl, j_cond, j_args, j_out, j_few, j_cw, j_nat, j_pad, j_exp, Nat.reduceAdd]
  try simp only [sm9, j_ref, j_ari, j_arb, j_arr, j_len, j_nar, j_oi, j_ol, j_of, j_od, j_or, j_ov, true_and, and_true]
  have a12 : AS h m [(0, 0, 4073), (1, 0, 4073), (2, 0, 4073), (3, 0, 4073), (4, 0, 40730), (5, 1, 306), (6, 1, 306), (7, 1, 306), (8, 1, 3060), (12, 0, 40), (14, 0, 800), (24, 5, 9)] (j_setR n9 m 24 (some (j_z g11))) := AS_fill b11 (by decide) f9
  have x12 : ∀ j, j < 9 → j_R (j_setR n9 m 24 (some (j_z g11))) (m + 12) j = some (E.1 (39 + j)) := fun j hj => by rw [jh_R, if_neg (by omega), ← zg]; exact r9 j hj
  have q12 : Z1 (j_setR n9 m 24 (some (j_z g11))) m := AS_Z b11 f9 (by omega) q11
  generalize j_setR n9 m 24 (some (j_z g11)) = h12 at a12 x12 q12 ⊢
  have y12 : j_c h12 = j_c h + 12 := AS_c a12 (by simp)
  have w12 : j_k h12 = j_k h + 61849 := AS_k a12 (by simp [szs])
  have z12 : j_z h12 = m + 13 := a12.2.2.1
  exact ri_flds hl c1 c2 a12 x12 q12 H
set_option maxRecDepth 16000 in
theorem sp_X9_init (hl : l.stackTraces = false) (t1 : j_sh h m = some (.inr 11)) (tz : m + 1 = j_z h) (i0 : ∀ k, j_I h m k = 0) (hK : KS E bs h) (hbs : bs ≤ m) (c1 : j_c h + 15 ≤ E.2.1) (c2 : j_k h + 62258 ≤ E.2.2)
    (H : ∀ h', MB E m rZero h' → HCn E h' m → (∀ k, k ≠ 22 → j_I h' m k = 0) → Z1 h' m → FQ nF m h h' → j_z h' = m + 16 → j_c h' = j_c h + 15 → j_k h' = j_k h + 62258 → Q (.inl none) h') : j_Met l D bs E (d + 2) n_X9_init [.ref m] h Q := by
  have hB : j_bd E h := ⟨by omega, by omega⟩
  refine j_meth hl rfl g_X9_init (Nat.le_of_ble_eq_true rfl) (fun _ => ⟨_, _, rfl, t1⟩) hB.1 hB.2 (fun G hG => ?_)
  refine b_X9_init_0 hG ?_
  rw [show q_X9_init_0 = q_rI0 from rfl]
  have e9 : Int32.toNatClampNeg 9 = 9 := by decide +kernel
  have e40 : Int32.toNatClampNeg 40 = 40 := by decide +kernel
  have e200 : Int32.toNatClampNeg 200 = 200 := by decide +kernel
  have e306 : Int32.toNatClampNeg 306 = 306 := by decide +kernel
  have e800 : Int32.toNatClampNeg 800 = 800 := by decide +kernel
  have e3060 : Int32.toNatClampNeg 3060 = 3060 := by decide +kernel
  have e4073 : Int32.toNatClampNeg 4073 = 4073 := by decide +kernel
  have e40730 : Int32.toNatClampNeg 40730 = 40730 := by decide +kernel
  have a0 : AS h m [] h := AS_0 t1 tz i0
  dsimp only [q_rI0, j_wp, j_opB, j_opA, j_nth, j_i1, j_i2, j_l1, j_l2, j_li, j_f1, j_f2, j_d1, j_d2, j_r1, j_ai, j_aii, j_ail, j_aid, j_air, j_st1, j_st2, j_stu, j_kl, j_cond, j_args, j_out, j_few, j_cw, j_nat, j_pad, j_exp, Nat.reduceAdd]
  rw [e4073]
  refine ⟨by decide +kernel, by omega, by omega, by omega, ?_⟩
  refine ⟨AS_n a0, ?_⟩
  have a1 : AS h m [(0, 0, 4073)] (j_setR (j_new h (.inl (0, 4073)) 4073) m 0 (some (j_z h))) := AS_fill a0 (by decide) Fl_rf
  generalize j_setR (j_new h (.inl (0, 4073)) 4073) m 0 (some (j_z h)) = h1 at a1 ⊢
  have y1 : j_c h1 = j_c h + 1 := AS_c a1 (by simp)
  have w1 : j_k h1 = j_k h + 4073 := AS_k a1 (by simp [szs])
  dsimp only [q_rI1, j_wp, j_opB, j_opA, j_nth, j_i1, j_i2, j_l1, j_l2, j_li, j_f1, j_f2, j_d1, j_d2, j_r1, j_ai, j_aii, j_ail, j_aid, j_air, j_st1, j_st2, j_stu, j_kl, j_cond, j_args, j_out, j_few, j_cw, j_nat, j_pad, j_exp, Nat.reduceAdd]
  rw [e4073]
  refine ⟨by decide +kernel, by omega, by omega, by omega, ?_⟩
  refine ⟨AS_n a1, ?_⟩
  have a2 : AS h m [(0, 0, 4073), (1, 0, 4073)] (j_setR (j_new h1 (.inl (0, 4073)) 4073) m 1 (some (j_z h1))) := AS_fill a1 (by decide) Fl_rf
  generalize j_setR (j_new h1 (.inl (0, 4073)) 4073) m 1 (some (j_z h1)) = h2 at a2 ⊢
  have y2 : j_c h2 = j_c h + 2 := AS_c a2 (by simp)
  have w2 : j_k h2 = j_k h + 8146 := AS_k a2 (by simp [szs])
  dsimp only [q_rI2, j_wp, j_opB, j_opA, j_nth, j_i1, j_i2, j_l1, j_l2, j_li, j_f1, j_f2, j_d1, j_d2, j_r1, j_ai, j_aii, j_ail, j_aid, j_air, j_st1, j_st2, j_stu, j_kl, j_cond, j_args, j_out, j_few, j_cw, j_nat, j_pad, j_exp, Nat.reduceAdd]
  rw [e4073]
  refine ⟨by decide +kernel, by omega, by omega, by omega, ?_⟩
  refine ⟨AS_n a2, ?_⟩
  have a3 : AS h m [(0, 0, 4073), (1, 0, 4073), (2, 0, 4073)] (j_setR (j_new h2 (.inl (0, 4073)) 4073) m 2 (some (j_z h2))) := AS_fill a2 (by decide) Fl_rf
  generalize j_setR (j_new h2 (.inl (0, 4073)) 4073) m 2 (some (j_z h2)) = h3 at a3 ⊢
  have y3 : j_c h3 = j_c h + 3 := AS_c a3 (by simp)
  have w3 : j_k h3 = j_k h + 12219 := AS_k a3 (by simp [szs])
  dsimp only [q_rI3, j_wp, j_opB, j_opA, j_nth, j_i1, j_i2, j_l1, j_l2, j_li, j_f1, j_f2, j_d1, j_d2, j_r1, j_ai, j_aii, j_ail, j_aid, j_air, j_st1, j_st2, j_stu, j_kl, j_cond, j_args, j_out, j_few, j_cw, j_nat, j_pad, j_exp, Nat.reduceAdd]
  rw [e4073]
  refine ⟨by decide +kernel, by omega, by omega, by omega, ?_⟩
  refine ⟨AS_n a3, ?_⟩
  have a4 : AS h m [(0, 0, 4073), (1, 0, 4073), (2, 0, 4073), (3, 0, 4073)] (j_setR (j_new h3 (.inl (0, 4073)) 4073) m 3 (some (j_z h3))) := AS_fill a3 (by decide) Fl_rf
  generalize j_setR (j_new h3 (.inl (0, 4073)) 4073) m 3 (some (j_z h3)) = h4 at a4 ⊢
  have y4 : j_c h4 = j_c h + 4 := AS_c a4 (by simp)
  have w4 : j_k h4 = j_k h + 16292 := AS_k a4 (by simp [szs])
  dsimp only [q_rI4, j_wp, j_opB, j_opA, j_nth, j_i1, j_i2, j_l1, j_l2, j_li, j_f1, j_f2, j_d1, j_d2, j_r1, j_ai, j_aii, j_ail, j_aid, j_air, j_st1, j_st2, j_stu, j_kl, j_cond, j_args, j_out, j_few, j_cw, j_nat, j_pad, j_exp, Nat.reduceAdd]
  rw [e40730]
  refine ⟨by decide +kernel, by omega, by omega, by omega, ?_⟩
  refine ⟨AS_n a4, ?_⟩
  have a5 : AS h m [(0, 0, 4073), (1, 0, 4073), (2, 0, 4073), (3, 0, 4073), (4, 0, 40730)] (j_setR (j_new h4 (.inl (0, 40730)) 40730) m 4 (some (j_z h4))) := AS_fill a4 (by decide) Fl_rf
  generalize j_setR (j_new h4 (.inl (0, 40730)) 40730) m 4 (some (j_z h4)) = h5 at a5 ⊢
  have y5 : j_c h5 = j_c h + 5 := AS_c a5 (by simp)
  have w5 : j_k h5 = j_k h + 57022 := AS_k a5 (by simp [szs])
  dsimp only [q_rI5, j_wp, j_opB, j_opA, j_nth, j_i1, j_i2, j_l1, j_l2, j_li, j_f1, j_f2, j_d1, j_d2, j_r1, j_ai, j_aii, j_ail, j_aid, j_air, j_st1, j_st2, j_stu, j_kl, j_cond, j_args, j_out, j_few, j_cw, j_nat, j_pad, j_exp, Nat.reduceAdd]
  rw [e306]
  refine ⟨by decide +kernel, by omega, by omega, by omega, ?_⟩
  refine ⟨AS_n a5, ?_⟩
  have a6 : AS h m [(0, 0, 4073), (1, 0, 4073), (2, 0, 4073), (3, 0, 4073), (4, 0, 40730), (5, 1, 306)] (j_setR (j_new h5 (.inl (1, 306)) 306) m 5 (some (j_z h5))) := AS_fill a5 (by decide) Fl_rf
  generalize j_setR (j_new h5 (.inl (1, 306)) 306) m 5 (some (j_z h5)) = h6 at a6 ⊢
  have y6 : j_c h6 = j_c h + 6 := AS_c a6 (by simp)
  have w6 : j_k h6 = j_k h + 57328 := AS_k a6 (by simp [szs])
  dsimp only [q_rI6, j_wp, j_opB, j_opA, j_nth, j_i1, j_i2, j_l1, j_l2, j_li, j_f1, j_f2, j_d1, j_d2, j_r1, j_ai, j_aii, j_ail, j_aid, j_air, j_st1, j_st2, j_stu, j_kl, j_cond, j_args, j_out, j_few, j_cw, j_nat, j_pad, j_exp, Nat.reduceAdd]
  rw [e306]
  refine ⟨by decide +kernel, by omega, by omega, by omega, ?_⟩
  refine ⟨AS_n a6, ?_⟩
  have a7 : AS h m [(0, 0, 4073), (1, 0, 4073), (2, 0, 4073), (3, 0, 4073), (4, 0, 40730), (5, 1, 306), (6, 1, 306)] (j_setR (j_new h6 (.inl (1, 306)) 306) m 6 (some (j_z h6))) := AS_fill a6 (by decide) Fl_rf
  generalize j_setR (j_new h6 (.inl (1, 306)) 306) m 6 (some (j_z h6)) = h7 at a7 ⊢
  have y7 : j_c h7 = j_c h + 7 := AS_c a7 (by simp)
  have w7 : j_k h7 = j_k h + 57634 := AS_k a7 (by simp [szs])
  dsimp only [q_rI7, j_wp, j_opB, j_opA, j_nth, j_i1, j_i2, j_l1, j_l2, j_li, j_f1, j_f2, j_d1, j_d2, j_r1, j_ai, j_aii, j_ail, j_aid, j_air, j_st1, j_st2, j_stu, j_kl, j_cond, j_args, j_out, j_few, j_cw, j_nat, j_pad, j_exp, Nat.reduceAdd]
  rw [e306]
  refine ⟨by decide +kernel, by omega, by omega, by omega, ?_⟩
  refine ⟨AS_n a7, ?_⟩
  have a8 : AS h m [(0, 0, 4073), (1, 0, 4073), (2, 0, 4073), (3, 0, 4073), (4, 0, 40730), (5, 1, 306), (6, 1, 306), (7, 1, 306)] (j_setR (j_new h7 (.inl (1, 306)) 306) m 7 (some (j_z h7))) := AS_fill a7 (by decide) Fl_rf
  generalize j_setR (j_new h7 (.inl (1, 306)) 306) m 7 (some (j_z h7)) = h8 at a8 ⊢
  have y8 : j_c h8 = j_c h + 8 := AS_c a8 (by simp)
  have w8 : j_k h8 = j_k h + 57940 := AS_k a8 (by simp [szs])
  dsimp only [q_rI8, j_wp, j_opB, j_opA, j_nth, j_i1, j_i2, j_l1, j_l2, j_li, j_f1, j_f2, j_d1, j_d2, j_r1, j_ai, j_aii, j_ail, j_aid, j_air, j_st1, j_st2, j_stu, j_kl, j_cond, j_args, j_out, j_few, j_cw, j_nat, j_pad, j_exp, Nat.reduceAdd]
  rw [e3060]
  refine ⟨by decide +kernel, by omega, by omega, by omega, ?_⟩
  refine ⟨AS_n a8, ?_⟩
  have a9 : AS h m [(0, 0, 4073), (1, 0, 4073), (2, 0, 4073), (3, 0, 4073), (4, 0, 40730), (5, 1, 306), (6, 1, 306), (7, 1, 306), (8, 1, 3060)] (j_setR (j_new h8 (.inl (1, 3060)) 3060) m 8 (some (j_z h8))) := AS_fill a8 (by decide) Fl_rf
  generalize j_setR (j_new h8 (.inl (1, 3060)) 3060) m 8 (some (j_z h8)) = h9 at a9 ⊢
  have y9 : j_c h9 = j_c h + 9 := AS_c a9 (by simp)
  have w9 : j_k h9 = j_k h + 61000 := AS_k a9 (by simp [szs])
  dsimp only [q_rI9, j_wp, j_opB, j_opA, j_nth, j_i1, j_i2, j_l1, j_l2, j_li, j_f1, j_f2, j_d1, j_d2, j_r1, j_ai, j_aii, j_ail, j_aid, j_air, j_st1, j_st2, j_stu, j_kl, j_cond, j_args, j_out, j_few, j_cw, j_nat, j_pad, j_exp, Nat.reduceAdd]
  rw [e40]
  refine ⟨by decide +kernel, by omega, by omega, by omega, ?_⟩
  refine ⟨AS_n a9, ?_⟩
  have a10 : AS h m [(0, 0, 4073), (1, 0, 4073), (2, 0, 4073), (3, 0, 4073), (4, 0, 40730), (5, 1, 306), (6, 1, 306), (7, 1, 306), (8, 1, 3060), (12, 0, 40)] (j_setR (j_new h9 (.inl (0, 40)) 40) m 12 (some (j_z h9))) := AS_fill a9 (by decide) Fl_rf
  generalize j_setR (j_new h9 (.inl (0, 40)) 40) m 12 (some (j_z h9)) = h10 at a10 ⊢
  have y10 : j_c h10 = j_c h + 10 := AS_c a10 (by simp)
  have w10 : j_k h10 = j_k h + 61040 := AS_k a10 (by simp [szs])
  dsimp only [q_rI10, j_wp, j_opB, j_opA, j_nth, j_i1, j_i2, j_l1, j_l2, j_li, j_f1, j_f2, j_d1, j_d2, j_r1, j_ai, j_aii, j_ail, j_aid, j_air, j_st1, j_st2, j_stu, j_kl, j_cond, j_args, j_out, j_few, j_cw, j_nat, j_pad, j_exp, Nat.reduceAdd]
  rw [e800]
  refine ⟨by decide +kernel, by omega, by omega, by omega, ?_⟩
  refine ⟨AS_n a10, ?_⟩
  have a11 : AS h m [(0, 0, 4073), (1, 0, 4073), (2, 0, 4073), (3, 0, 4073), (4, 0, 40730), (5, 1, 306), (6, 1, 306), (7, 1, 306), (8, 1, 3060), (12, 0, 40), (14, 0, 800)] (j_setR (j_new h10 (.inl (0, 800)) 800) m 14 (some (j_z h10))) := AS_fill a10 (by decide) Fl_rf
  have z10 : j_z h10 = m + 11 := a10.2.2.1
  have t11 : ∀ k, j_I (j_setR (j_new h10 (.inl (0, 800)) 800) m 14 (some (j_z h10))) (m + 11) k = 0 := fun k => by
    show j_I (j_new h10 (.inl (0, 800)) 800) (m + 11) k = 0
    rw [nw_I, if_pos z10.symm]
  generalize j_setR (j_new h10 (.inl (0, 800)) 800) m 14 (some (j_z h10)) = h11 at a11 t11 ⊢
  have y11 : j_c h11 = j_c h + 11 := AS_c a11 (by simp)
  have w11 : j_k h11 = j_k h + 61840 := AS_k a11 (by simp [szs])
  have sE : j_sh h11 m = some (.inr 11) := a11.2.1
  dsimp only [q_rI11, j_wp, j_opB, j_opA, j_nth, j_i1, j_i2, j_l1, j_l2, j_li, j_f1, j_f2, j_d1, j_d2, j_r1, j_ai, j_aii, j_ail, j_aid, j_air, j_st1, j_st2, j_stu, j_kl, j_cond, j_args, j_out, j_few, j_cw, j_nat, j_pad, j_exp, Nat.reduceAdd]
  simp only [sE, j_ref, j_ari, j_arb, j_arr, j_len, j_nar, j_oi, j_ol, j_of, j_od, j_or, j_ov, true_and, and_true]
  have b11 := AS_22 (v := -1) a11
  have q11 : Z1 (j_setI h11 m 22 (-1)) m := ⟨jh_Is _ _ _ _, fun k => by rw [jh_In (by omega)]; exact t11 k⟩
  generalize j_setI h11 m 22 (-1) = g11 at b11 q11 ⊢
  exact ri_names hl c1 c2 hK hbs b11 q11 H
end RIn

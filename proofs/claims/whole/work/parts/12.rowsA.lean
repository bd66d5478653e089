/-! ===== the machine follows: instructions that touch no heap ===== -/
section JInv
theorem j_i1_inv {st : List Value} {k : Int32 → List Value → Prop} (h : j_i1 st k) : ∃ (a : Int32) (r : List Value), st = .int a :: r ∧ k a r := by
  unfold j_i1 at h
  split at h
  · exact ⟨_, _, rfl, h⟩
  · exact h.elim
theorem j_i2_inv {st : List Value} {k : Int32 → Int32 → List Value → Prop} (h : j_i2 st k) : ∃ (a b : Int32) (r : List Value), st = .int b :: .int a :: r ∧ k a b r := by
  unfold j_i2 at h
  split at h
  · exact ⟨_, _, _, rfl, h⟩
  · exact h.elim
theorem j_l1_inv {st : List Value} {k : Int64 → List Value → Prop} (h : j_l1 st k) : ∃ (a : Int64) (r : List Value), st = .long a :: r ∧ k a r := by
  unfold j_l1 at h
  split at h
  · exact ⟨_, _, rfl, h⟩
  · exact h.elim
theorem j_l2_inv {st : List Value} {k : Int64 → Int64 → List Value → Prop} (h : j_l2 st k) : ∃ (a b : Int64) (r : List Value), st = .long b :: .long a :: r ∧ k a b r := by
  unfold j_l2 at h
  split at h
  · exact ⟨_, _, _, rfl, h⟩
  · exact h.elim
theorem j_li_inv {st : List Value} {k : Int64 → Int32 → List Value → Prop} (h : j_li st k) : ∃ (a : Int64) (b : Int32) (r : List Value), st = .int b :: .long a :: r ∧ k a b r := by
  unfold j_li at h
  split at h
  · exact ⟨_, _, _, rfl, h⟩
  · exact h.elim
theorem j_f1_inv {st : List Value} {k : UInt32 → List Value → Prop} (h : j_f1 st k) : ∃ (a : UInt32) (r : List Value), st = .float a :: r ∧ k a r := by
  unfold j_f1 at h
  split at h
  · exact ⟨_, _, rfl, h⟩
  · exact h.elim
theorem j_f2_inv {st : List Value} {k : UInt32 → UInt32 → List Value → Prop} (h : j_f2 st k) : ∃ (a b : UInt32) (r : List Value), st = .float b :: .float a :: r ∧ k a b r := by
  unfold j_f2 at h
  split at h
  · exact ⟨_, _, _, rfl, h⟩
  · exact h.elim
theorem j_d1_inv {st : List Value} {k : UInt64 → List Value → Prop} (h : j_d1 st k) : ∃ (a : UInt64) (r : List Value), st = .double a :: r ∧ k a r := by
  unfold j_d1 at h
  split at h
  · exact ⟨_, _, rfl, h⟩
  · exact h.elim
theorem j_d2_inv {st : List Value} {k : UInt64 → UInt64 → List Value → Prop} (h : j_d2 st k) : ∃ (a b : UInt64) (r : List Value), st = .double b :: .double a :: r ∧ k a b r := by
  unfold j_d2 at h
  split at h
  · exact ⟨_, _, _, rfl, h⟩
  · exact h.elim
theorem j_r1_inv {st : List Value} {k : Nat → List Value → Prop} (h : j_r1 st k) : ∃ (a : Nat) (r : List Value), st = .ref a :: r ∧ k a r := by
  unfold j_r1 at h
  split at h
  · exact ⟨_, _, rfl, h⟩
  · exact h.elim
theorem j_ai_inv {st : List Value} {k : Nat → Int32 → List Value → Prop} (h : j_ai st k) : ∃ (a : Nat) (i : Int32) (r : List Value), st = .int i :: .ref a :: r ∧ k a i r := by
  unfold j_ai at h
  split at h
  · exact ⟨_, _, _, rfl, h⟩
  · exact h.elim
theorem j_aii_inv {st : List Value} {k : Nat → Int32 → Int32 → List Value → Prop} (h : j_aii st k) : ∃ (a : Nat) (i v : Int32) (r : List Value), st = .int v :: .int i :: .ref a :: r ∧ k a i v r := by
  unfold j_aii at h
  split at h
  · exact ⟨_, _, _, _, rfl, h⟩
  · exact h.elim
theorem j_ail_inv {st : List Value} {k : Nat → Int32 → Int64 → List Value → Prop} (h : j_ail st k) : ∃ (a : Nat) (i : Int32) (v : Int64) (r : List Value), st = .long v :: .int i :: .ref a :: r ∧ k a i v r := by
  unfold j_ail at h
  split at h
  · exact ⟨_, _, _, _, rfl, h⟩
  · exact h.elim
theorem j_aid_inv {st : List Value} {k : Nat → Int32 → UInt64 → List Value → Prop} (h : j_aid st k) : ∃ (a : Nat) (i : Int32) (v : UInt64) (r : List Value), st = .double v :: .int i :: .ref a :: r ∧ k a i v r := by
  unfold j_aid at h
  split at h
  · exact ⟨_, _, _, _, rfl, h⟩
  · exact h.elim
theorem j_air_inv {st : List Value} {k : Nat → Int32 → Nat → List Value → Prop} (h : j_air st k) : ∃ (a : Nat) (i : Int32) (v : Nat) (r : List Value), st = .ref v :: .int i :: .ref a :: r ∧ k a i v r := by
  unfold j_air at h
  split at h
  · exact ⟨_, _, _, _, rfl, h⟩
  · exact h.elim
theorem j_ref_inv {o : Option Nat} {k : Nat → Prop} (h : j_ref o k) : ∃ b, o = some b ∧ k b := by
  cases o with
  | none => exact h.elim
  | some b => exact ⟨b, rfl, h⟩
theorem j_ari_inv {o : Option j_S} {k : Nat → Prop} (h : j_ari o k) : ∃ n, (o = some (.inl (0, n)) ∨ o = some (.inl (7, n))) ∧ k n := by
  unfold j_ari at h
  split at h
  · exact ⟨_, Or.inl rfl, h⟩
  · exact ⟨_, Or.inr rfl, h⟩
  · exact h.elim
theorem j_arb_inv {o : Option j_S} {k : Nat → Prop} (h : j_arb o k) : ∃ n, (o = some (.inl (3, n)) ∨ o = some (.inl (8, n))) ∧ k n := by
  unfold j_arb at h
  split at h
  · exact ⟨_, Or.inl rfl, h⟩
  · exact ⟨_, Or.inr rfl, h⟩
  · exact h.elim
theorem j_arr_inv {t : Nat} {o : Option j_S} {k : Nat → Prop} (h : j_arr t o k) : ∃ n, o = some (.inl (t, n)) ∧ k n := by
  unfold j_arr at h
  split at h
  · exact ⟨_, by rw [h.1], h.2⟩
  · exact h.elim
theorem j_len_inv {o : Option j_S} {k : Nat → Prop} (h : j_len o k) : ∃ t n, o = some (.inl (t, n)) ∧ k n := by
  unfold j_len at h
  split at h
  · exact ⟨_, _, rfl, h⟩
  · exact h.elim
theorem j_args_inv : ∀ {n : Nat} {st as : List Value} {k : List Value → List Value → Prop}, j_args n st as k → ∃ us r, st = us.reverse ++ r ∧ us.length = n ∧ k (us ++ as) r := by
  intro n
  induction n with
  | zero => intro st as k h; exact ⟨[], st, rfl, rfl, h⟩
  | succ n ih =>
    intro st as k h
    cases st with
    | nil => exact h.elim
    | cons v st =>
      obtain ⟨us, r, h1, h2, h3⟩ := ih (show j_args n st (v :: as) k from h)
      refine ⟨us ++ [v], r, by rw [h1]; simp, by simp [h2], by simpa using h3⟩
end JInv
/-- what stands beside an instruction is what it means -/
def j_ckA (i : Instr) (n x : Nat) (v : Value) (nL : Nat) : Bool := match i with
  | .iconst k => n == 1 && decide (v = .int (Int32.ofInt k))
  | .bipush k => n == 2 && decide (v = .int (Int8.ofInt k).toInt32)
  | .sipush k => n == 3 && decide (v = .int (Int16.ofInt k).toInt32)
  | .lconst k => n == 1 && decide (v = .long (Int64.ofNat (k : Nat)))
  | .dconst k => n == 1 && decide (k = 0)
  | .fconst k => n == 1 && decide (k = 0)
  | .ldc _ => n == 2
  | .ldc_w _ => n == 3
  | .ldc2_w _ => n == 3
  | .iload k => n == 2 && x == k
  | .iload_n k => n == 1 && x == (k : Nat)
  | .istore k => n == 2 && x == k && decide (x < nL)
  | .istore_n k => n == 1 && x == (k : Nat) && decide (x < nL)
  | .lload k => n == 2 && x == k
  | .lload_n k => n == 1 && x == (k : Nat)
  | .lstore k => n == 2 && x == k && decide (x + 1 < nL)
  | .lstore_n k => n == 1 && x == (k : Nat) && decide (x + 1 < nL)
  | .fload k => n == 2 && x == k
  | .fload_n k => n == 1 && x == (k : Nat)
  | .fstore k => n == 2 && x == k && decide (x < nL)
  | .fstore_n k => n == 1 && x == (k : Nat) && decide (x < nL)
  | .dload k => n == 2 && x == k
  | .dload_n k => n == 1 && x == (k : Nat)
  | .dstore k => n == 2 && x == k && decide (x + 1 < nL)
  | .dstore_n k => n == 1 && x == (k : Nat) && decide (x + 1 < nL)
  | .aload k => n == 2 && x == k
  | .aload_n k => n == 1 && x == (k : Nat)
  | .astore k => n == 2 && x == k && decide (x < nL)
  | .astore_n k => n == 1 && x == (k : Nat) && decide (x < nL)
  | .iinc k z => n == 3 && x == k && decide (x < nL) && decide (v = .int (Int32.ofInt z))
  | _ => n == 1
/-- the words that an instruction without heap needs -/
def j_wdA (own : String) (i : Instr) (y : Nat) (v : Value) : List Cond := match i with
  | .ldc k => (match y, v with
    | 0, .int z => [.constant own k z]
    | _, _ => [])
  | .ldc_w k => (match y, v with
    | 0, .int z => [.constant own k z]
    | _, _ => [])
  | .ldc2_w k => (match v with
    | .long z => [.constantLong own k z]
    | _ => [])
  | _ => []
/-- a String constant's entry is the one that is told; a number's value is told -/
def j_ckS (own : String) (i : Instr) (x y : Nat) (v : Value) : Bool := match i with
  | .ldc k => (match y, v with
    | 0, .int _ => true
    | 0, _ => false
    | _, _ => (match j_strs[x]? with
      | some z => decide (z.1 = own) && z.2.1 == k
      | none => false))
  | .ldc_w k => (match y, v with
    | 0, .int _ => true
    | 0, _ => false
    | _, _ => (match j_strs[x]? with
      | some z => decide (z.1 = own) && z.2.1 == k
      | none => false))
  | .ldc2_w _ => (match v with
    | .long _ => true
    | _ => false)
  | _ => true
section JRowsA
variable {p : Program} {l : Launch} {e : Env} {R : Room} {s : State} {m : MethodId} {args : Array Value} {below : List Frame} {meth : Method} {c : Code}
variable {D : va_G} {bs : Nat} {E : j_E} {h0 : j_H} {d : Nat} {own : String} {cc : ByteArray} {nL : Nat} {ret : Option FieldType} {QQ : State → Prop}
set_option maxHeartbeats 4000000 in
theorem j_okA (X : j_Ctx p l R s m args meth c D bs E h0 d own cc nL ret) {i : Instr} {n x y pc : Nat} {v : Value} {lv st : List Value} {h : j_H} {nx : List Value → List Value → j_H → Prop} (hd : decode cc pc = .ok (i, n)) (hck : j_ckA i n x v nL = true) (hcs : j_ckS own i x y v = true) (hwd : ∀ w ∈ j_wdA own i y v, w ∈ j_tbl)
    (hnx : ∀ lv st h, nx lv st h → j_W p l e R s m args below meth c D bs E h0 nL QQ (pc + n) lv st h) (G : j_opA i x y v lv st h E nx) : j_W p l e R s m args below meth c D bs E h0 nL QQ pc lv st h := by
  obtain ⟨hex, hb, hml, hr, hown, hts, henv, hRm, hlocks, htab, hst, hbs⟩ := X
  cases i
  all_goals try exact False.elim G
  case iconst k =>
    simp only [j_ckA, Bool.and_eq_true, beq_iff_eq, decide_eq_true_eq] at hck
    obtain ⟨rfl, rfl⟩ := hck
    intro ls H locs hl hR hS hc
    exact lv_iconst hex hb hd rfl (hnx _ _ _ G ls H locs hl hR hS hc)
  case bipush k =>
    simp only [j_ckA, Bool.and_eq_true, beq_iff_eq, decide_eq_true_eq] at hck
    obtain ⟨rfl, rfl⟩ := hck
    intro ls H locs hl hR hS hc
    exact lv_bipush hex hb hd rfl (hnx _ _ _ G ls H locs hl hR hS hc)
  case sipush k =>
    simp only [j_ckA, Bool.and_eq_true, beq_iff_eq, decide_eq_true_eq] at hck
    obtain ⟨rfl, rfl⟩ := hck
    intro ls H locs hl hR hS hc
    exact lv_sipush hex hb hd rfl (hnx _ _ _ G ls H locs hl hR hS hc)
  case lconst k =>
    simp only [j_ckA, Bool.and_eq_true, beq_iff_eq, decide_eq_true_eq] at hck
    obtain ⟨rfl, rfl⟩ := hck
    intro ls H locs hl hR hS hc
    exact lv_lconst hex hb hd rfl (hnx _ _ _ G ls H locs hl hR hS hc)
  case dconst k =>
    simp only [j_ckA, Bool.and_eq_true, beq_iff_eq, decide_eq_true_eq] at hck
    obtain ⟨rfl, rfl⟩ := hck
    intro ls H locs hl hR hS hc
    exact lv_dconst0 hex hb hd (hnx _ _ _ G ls H locs hl hR hS hc)
  case fconst k =>
    simp only [j_ckA, Bool.and_eq_true, beq_iff_eq, decide_eq_true_eq] at hck
    obtain ⟨rfl, rfl⟩ := hck
    intro ls H locs hl hR hS hc
    exact lv_fconst0 hex hb hd (hnx _ _ _ G ls H locs hl hR hS hc)
  case ldc k =>
    simp only [j_ckA, beq_iff_eq] at hck
    subst hck
    intro ls H locs hl hR hS hc
    match y, v, hcs, hwd, G with
    | 0, .int z, hcs, hwd, G => exact lv_ldc hex hb hown (hts _ (hwd _ List.mem_cons_self)) hd (hnx _ _ _ G ls H locs hl hR hS hc)
    | y + 1, v, hcs, hwd, G =>
      have hz : ∃ z, j_strs[x]? = some z ∧ z.1 = own ∧ z.2.1 = k := by
        simp only [j_ckS] at hcs
        split at hcs
        · rename_i z hz
          simp only [Bool.and_eq_true, decide_eq_true_eq, beq_iff_eq] at hcs
          exact ⟨z, hz, hcs.1, hcs.2⟩
        · cases hcs
      obtain ⟨z, hz, rfl, rfl⟩ := hz
      have hv := henv.2.1 x z hz
      exact va_ldcS hex hb hown hv hd (hnx _ _ _ G ls H locs hl hR hS hc)
  case ldc_w k =>
    simp only [j_ckA, beq_iff_eq] at hck
    subst hck
    intro ls H locs hl hR hS hc
    match y, v, hcs, hwd, G with
    | 0, .int z, hcs, hwd, G => exact lv_ldcw hex hb hown (hts _ (hwd _ List.mem_cons_self)) hd (hnx _ _ _ G ls H locs hl hR hS hc)
    | y + 1, v, hcs, hwd, G =>
      have hz : ∃ z, j_strs[x]? = some z ∧ z.1 = own ∧ z.2.1 = k := by
        simp only [j_ckS] at hcs
        split at hcs
        · rename_i z hz
          simp only [Bool.and_eq_true, decide_eq_true_eq, beq_iff_eq] at hcs
          exact ⟨z, hz, hcs.1, hcs.2⟩
        · cases hcs
      obtain ⟨z, hz, rfl, rfl⟩ := hz
      have hv := henv.2.1 x z hz
      intro T hT XX
      obtain ⟨t, a1, b1⟩ := hnx _ _ _ G ls H locs hl hR hS hc T hT XX
      exact ⟨t, Stand.ldcStringW XX hex hown (text := z.2.2) (a := E.1 x) hv.1 hv.2 (g := F0 m pc ls st) rfl (by rw [hb]; exact hd) t a1, b1⟩
  case ldc2_w k =>
    simp only [j_ckA, beq_iff_eq] at hck
    subst hck
    intro ls H locs hl hR hS hc
    match v, hcs, hwd, G with
    | .long z, hcs, hwd, G => exact lv_ldc2 hex hb hown (hts _ (hwd _ List.mem_cons_self)) hd (hnx _ _ _ G ls H locs hl hR hS hc)
  case iload k =>
    simp only [j_ckA, Bool.and_eq_true, beq_iff_eq] at hck
    obtain ⟨rfl, rfl⟩ := hck
    intro ls H locs hl hR hS hc
    simp only [j_opA] at G
    split at G
    · rename_i a ha
      exact lv_iload hex hb hd (j_has_at hl ha rfl) (hnx _ _ _ G ls H locs hl hR hS hc)
    · exact G.elim
  case iload_n k =>
    simp only [j_ckA, Bool.and_eq_true, beq_iff_eq] at hck
    obtain ⟨rfl, rfl⟩ := hck
    intro ls H locs hl hR hS hc
    simp only [j_opA] at G
    split at G
    · rename_i a ha
      exact lv_iload_n hex hb hd rfl (j_has_at hl ha rfl) (hnx _ _ _ G ls H locs hl hR hS hc)
    · exact G.elim
  case lload k =>
    simp only [j_ckA, Bool.and_eq_true, beq_iff_eq] at hck
    obtain ⟨rfl, rfl⟩ := hck
    intro ls H locs hl hR hS hc
    simp only [j_opA] at G
    split at G
    · rename_i a ha
      exact lv_lload hex hb hd (j_has_at hl ha rfl) (hnx _ _ _ G ls H locs hl hR hS hc)
    · exact G.elim
  case lload_n k =>
    simp only [j_ckA, Bool.and_eq_true, beq_iff_eq] at hck
    obtain ⟨rfl, rfl⟩ := hck
    intro ls H locs hl hR hS hc
    simp only [j_opA] at G
    split at G
    · rename_i a ha
      exact lv_lload_n hex hb hd rfl (j_has_at hl ha rfl) (hnx _ _ _ G ls H locs hl hR hS hc)
    · exact G.elim
  case fload k =>
    simp only [j_ckA, Bool.and_eq_true, beq_iff_eq] at hck
    obtain ⟨rfl, rfl⟩ := hck
    intro ls H locs hl hR hS hc
    simp only [j_opA] at G
    split at G
    · rename_i a ha
      exact lv_fload hex hb hd (j_has_at hl ha rfl) (hnx _ _ _ G ls H locs hl hR hS hc)
    · exact G.elim
  case fload_n k =>
    simp only [j_ckA, Bool.and_eq_true, beq_iff_eq] at hck
    obtain ⟨rfl, rfl⟩ := hck
    intro ls H locs hl hR hS hc
    simp only [j_opA] at G
    split at G
    · rename_i a ha
      exact lv_fload_n hex hb hd rfl (j_has_at hl ha rfl) (hnx _ _ _ G ls H locs hl hR hS hc)
    · exact G.elim
  case dload k =>
    simp only [j_ckA, Bool.and_eq_true, beq_iff_eq] at hck
    obtain ⟨rfl, rfl⟩ := hck
    intro ls H locs hl hR hS hc
    simp only [j_opA] at G
    split at G
    · rename_i a ha
      exact lv_dload hex hb hd (j_has_at hl ha rfl) (hnx _ _ _ G ls H locs hl hR hS hc)
    · exact G.elim
  case dload_n k =>
    simp only [j_ckA, Bool.and_eq_true, beq_iff_eq] at hck
    obtain ⟨rfl, rfl⟩ := hck
    intro ls H locs hl hR hS hc
    simp only [j_opA] at G
    split at G
    · rename_i a ha
      exact lv_dload_n hex hb hd rfl (j_has_at hl ha rfl) (hnx _ _ _ G ls H locs hl hR hS hc)
    · exact G.elim
  case aload k =>
    simp only [j_ckA, Bool.and_eq_true, beq_iff_eq] at hck
    obtain ⟨rfl, rfl⟩ := hck
    intro ls H locs hl hR hS hc
    simp only [j_opA] at G
    split at G
    · rename_i a ha
      exact lv_aload hex hb hd (j_has_at hl ha rfl) (hnx _ _ _ G ls H locs hl hR hS hc)
    · exact G.elim
  case aload_n k =>
    simp only [j_ckA, Bool.and_eq_true, beq_iff_eq] at hck
    obtain ⟨rfl, rfl⟩ := hck
    intro ls H locs hl hR hS hc
    simp only [j_opA] at G
    split at G
    · rename_i a ha
      exact lv_aload_n hex hb hd rfl (j_has_at hl ha rfl) (hnx _ _ _ G ls H locs hl hR hS hc)
    · exact G.elim
  case istore k =>
    simp only [j_ckA, Bool.and_eq_true, beq_iff_eq, decide_eq_true_eq] at hck
    obtain ⟨⟨rfl, rfl⟩, hn⟩ := hck
    obtain ⟨a, r, rfl, g⟩ := j_i1_inv G
    intro ls H locs hl hR hS hc
    exact lv_istore hex hb hd hl hn rfl (fun ls hl => hnx _ _ _ g ls H locs (j_has_st1 hl) hR hS hc)
  case istore_n k =>
    simp only [j_ckA, Bool.and_eq_true, beq_iff_eq, decide_eq_true_eq] at hck
    obtain ⟨⟨rfl, rfl⟩, hn⟩ := hck
    obtain ⟨a, r, rfl, g⟩ := j_i1_inv G
    intro ls H locs hl hR hS hc
    exact lv_istore_n hex hb hd rfl hl hn rfl (fun ls hl => hnx _ _ _ g ls H locs (j_has_st1 hl) hR hS hc)
  case lstore k =>
    simp only [j_ckA, Bool.and_eq_true, beq_iff_eq, decide_eq_true_eq] at hck
    obtain ⟨⟨rfl, rfl⟩, hn⟩ := hck
    obtain ⟨a, r, rfl, g⟩ := j_l1_inv G
    intro ls H locs hl hR hS hc
    exact lv_lstore hex hb hd hl hn rfl (fun ls hl => hnx _ _ _ g ls H locs (j_has_st2 hl) hR hS hc)
  case lstore_n k =>
    simp only [j_ckA, Bool.and_eq_true, beq_iff_eq, decide_eq_true_eq] at hck
    obtain ⟨⟨rfl, rfl⟩, hn⟩ := hck
    obtain ⟨a, r, rfl, g⟩ := j_l1_inv G
    intro ls H locs hl hR hS hc
    exact lv_lstore_n hex hb hd rfl hl hn rfl (fun ls hl => hnx _ _ _ g ls H locs (j_has_st2 hl) hR hS hc)
  case fstore k =>
    simp only [j_ckA, Bool.and_eq_true, beq_iff_eq, decide_eq_true_eq] at hck
    obtain ⟨⟨rfl, rfl⟩, hn⟩ := hck
    obtain ⟨a, r, rfl, g⟩ := j_f1_inv G
    intro ls H locs hl hR hS hc
    exact lv_fstore hex hb hd hl hn rfl (fun ls hl => hnx _ _ _ g ls H locs (j_has_st1 hl) hR hS hc)
  case fstore_n k =>
    simp only [j_ckA, Bool.and_eq_true, beq_iff_eq, decide_eq_true_eq] at hck
    obtain ⟨⟨rfl, rfl⟩, hn⟩ := hck
    obtain ⟨a, r, rfl, g⟩ := j_f1_inv G
    intro ls H locs hl hR hS hc
    exact lv_fstore_n hex hb hd rfl hl hn rfl (fun ls hl => hnx _ _ _ g ls H locs (j_has_st1 hl) hR hS hc)
  case dstore k =>
    simp only [j_ckA, Bool.and_eq_true, beq_iff_eq, decide_eq_true_eq] at hck
    obtain ⟨⟨rfl, rfl⟩, hn⟩ := hck
    obtain ⟨a, r, rfl, g⟩ := j_d1_inv G
    intro ls H locs hl hR hS hc
    exact lv_dstore hex hb hd hl hn rfl (fun ls hl => hnx _ _ _ g ls H locs (j_has_st2 hl) hR hS hc)
  case dstore_n k =>
    simp only [j_ckA, Bool.and_eq_true, beq_iff_eq, decide_eq_true_eq] at hck
    obtain ⟨⟨rfl, rfl⟩, hn⟩ := hck
    obtain ⟨a, r, rfl, g⟩ := j_d1_inv G
    intro ls H locs hl hR hS hc
    exact lv_dstore_n hex hb hd rfl hl hn rfl (fun ls hl => hnx _ _ _ g ls H locs (j_has_st2 hl) hR hS hc)
  case astore k =>
    simp only [j_ckA, Bool.and_eq_true, beq_iff_eq, decide_eq_true_eq] at hck
    obtain ⟨⟨rfl, rfl⟩, hn⟩ := hck
    obtain ⟨a, r, rfl, g⟩ := j_r1_inv G
    intro ls H locs hl hR hS hc
    exact lv_astore hex hb hd hl hn rfl (fun ls hl => hnx _ _ _ g ls H locs (j_has_st1 hl) hR hS hc)
  case astore_n k =>
    simp only [j_ckA, Bool.and_eq_true, beq_iff_eq, decide_eq_true_eq] at hck
    obtain ⟨⟨rfl, rfl⟩, hn⟩ := hck
    obtain ⟨a, r, rfl, g⟩ := j_r1_inv G
    intro ls H locs hl hR hS hc
    exact lv_astore_n hex hb hd rfl hl hn rfl (fun ls hl => hnx _ _ _ g ls H locs (j_has_st1 hl) hR hS hc)
  case iinc k z =>
    simp only [j_ckA, Bool.and_eq_true, beq_iff_eq, decide_eq_true_eq] at hck
    obtain ⟨⟨⟨rfl, rfl⟩, hn⟩, rfl⟩ := hck
    intro ls H locs hl hR hS hc
    simp only [j_opA] at G
    split at G
    · rename_i a b ha hb9
      cases hb9
      have hm : (x, Value.int a) ∈ j_as 0 lv := j_as_mem.mpr ⟨x, by simp, by rw [← ha]; exact j_nth_get (by rw [ha]; rfl), rfl⟩
      obtain ⟨q, hq⟩ := List.getElem?_of_mem hm
      exact lv_iinc hex hb hd hl hq rfl hn rfl (fun ls hl => hnx _ _ _ G ls H locs (j_has_st1 hl) hR hS hc)
    · exact G.elim
  case iadd =>
    simp only [j_ckA, beq_iff_eq] at hck
    subst hck
    obtain ⟨a, b, r, rfl, g⟩ := j_i2_inv G
    intro ls H locs hl hR hS hc
    exact lv_iadd hex hb hd (hnx _ _ _ g ls H locs hl hR hS hc)
  case isub =>
    simp only [j_ckA, beq_iff_eq] at hck
    subst hck
    obtain ⟨a, b, r, rfl, g⟩ := j_i2_inv G
    intro ls H locs hl hR hS hc
    exact lv_isub hex hb hd (hnx _ _ _ g ls H locs hl hR hS hc)
  case imul =>
    simp only [j_ckA, beq_iff_eq] at hck
    subst hck
    obtain ⟨a, b, r, rfl, g⟩ := j_i2_inv G
    intro ls H locs hl hR hS hc
    exact lv_imul hex hb hd (hnx _ _ _ g ls H locs hl hR hS hc)
  case iand =>
    simp only [j_ckA, beq_iff_eq] at hck
    subst hck
    obtain ⟨a, b, r, rfl, g⟩ := j_i2_inv G
    intro ls H locs hl hR hS hc
    exact lv_iand hex hb hd (hnx _ _ _ g ls H locs hl hR hS hc)
  case ior =>
    simp only [j_ckA, beq_iff_eq] at hck
    subst hck
    obtain ⟨a, b, r, rfl, g⟩ := j_i2_inv G
    intro ls H locs hl hR hS hc
    exact lv_ior hex hb hd (hnx _ _ _ g ls H locs hl hR hS hc)
  case ixor =>
    simp only [j_ckA, beq_iff_eq] at hck
    subst hck
    obtain ⟨a, b, r, rfl, g⟩ := j_i2_inv G
    intro ls H locs hl hR hS hc
    exact lv_ixor hex hb hd (hnx _ _ _ g ls H locs hl hR hS hc)
  case ishl =>
    simp only [j_ckA, beq_iff_eq] at hck
    subst hck
    obtain ⟨a, b, r, rfl, g⟩ := j_i2_inv G
    intro ls H locs hl hR hS hc
    exact lv_ishl hex hb hd (hnx _ _ _ g ls H locs hl hR hS hc)
  case ishr =>
    simp only [j_ckA, beq_iff_eq] at hck
    subst hck
    obtain ⟨a, b, r, rfl, g⟩ := j_i2_inv G
    intro ls H locs hl hR hS hc
    exact lv_ishr hex hb hd (hnx _ _ _ g ls H locs hl hR hS hc)
  case idiv =>
    simp only [j_ckA, beq_iff_eq] at hck
    subst hck
    obtain ⟨a, b, r, rfl, g0, g⟩ := j_i2_inv G
    intro ls H locs hl hR hS hc
    exact lv_idiv hex hb hd g0 (hnx _ _ _ g ls H locs hl hR hS hc)
  case irem =>
    simp only [j_ckA, beq_iff_eq] at hck
    subst hck
    obtain ⟨a, b, r, rfl, g0, g⟩ := j_i2_inv G
    intro ls H locs hl hR hS hc
    exact lv_irem hex hb hd g0 (hnx _ _ _ g ls H locs hl hR hS hc)
  case ineg =>
    simp only [j_ckA, beq_iff_eq] at hck
    subst hck
    obtain ⟨a, r, rfl, g⟩ := j_i1_inv G
    intro ls H locs hl hR hS hc
    exact lv_ineg hex hb hd (hnx _ _ _ g ls H locs hl hR hS hc)
  case ladd =>
    simp only [j_ckA, beq_iff_eq] at hck
    subst hck
    obtain ⟨a, b, r, rfl, g⟩ := j_l2_inv G
    intro ls H locs hl hR hS hc
    exact lv_ladd hex hb hd (hnx _ _ _ g ls H locs hl hR hS hc)
  case lsub =>
    simp only [j_ckA, beq_iff_eq] at hck
    subst hck
    obtain ⟨a, b, r, rfl, g⟩ := j_l2_inv G
    intro ls H locs hl hR hS hc
    exact lv_lsub hex hb hd (hnx _ _ _ g ls H locs hl hR hS hc)
  case lmul =>
    simp only [j_ckA, beq_iff_eq] at hck
    subst hck
    obtain ⟨a, b, r, rfl, g⟩ := j_l2_inv G
    intro ls H locs hl hR hS hc
    exact lv_lmul hex hb hd (hnx _ _ _ g ls H locs hl hR hS hc)
  case land =>
    simp only [j_ckA, beq_iff_eq] at hck
    subst hck
    obtain ⟨a, b, r, rfl, g⟩ := j_l2_inv G
    intro ls H locs hl hR hS hc
    exact lv_land hex hb hd (hnx _ _ _ g ls H locs hl hR hS hc)
  case lor =>
    simp only [j_ckA, beq_iff_eq] at hck
    subst hck
    obtain ⟨a, b, r, rfl, g⟩ := j_l2_inv G
    intro ls H locs hl hR hS hc
    exact lv_lor hex hb hd (hnx _ _ _ g ls H locs hl hR hS hc)
  case lxor =>
    simp only [j_ckA, beq_iff_eq] at hck
    subst hck
    obtain ⟨a, b, r, rfl, g⟩ := j_l2_inv G
    intro ls H locs hl hR hS hc
    exact lv_lxor hex hb hd (hnx _ _ _ g ls H locs hl hR hS hc)
  case ldiv =>
    simp only [j_ckA, beq_iff_eq] at hck
    subst hck
    obtain ⟨a, b, r, rfl, g0, g⟩ := j_l2_inv G
    intro ls H locs hl hR hS hc
    exact lv_ldiv hex hb hd g0 (hnx _ _ _ g ls H locs hl hR hS hc)
  case lneg =>
    simp only [j_ckA, beq_iff_eq] at hck
    subst hck
    obtain ⟨a, r, rfl, g⟩ := j_l1_inv G
    intro ls H locs hl hR hS hc
    exact lv_lneg hex hb hd (hnx _ _ _ g ls H locs hl hR hS hc)
  case lshl =>
    simp only [j_ckA, beq_iff_eq] at hck
    subst hck
    obtain ⟨a, b, r, rfl, g⟩ := j_li_inv G
    intro ls H locs hl hR hS hc
    exact lv_lshl hex hb hd rfl (hnx _ _ _ g ls H locs hl hR hS hc)
  case lushr =>
    simp only [j_ckA, beq_iff_eq] at hck
    subst hck
    obtain ⟨a, b, r, rfl, g⟩ := j_li_inv G
    intro ls H locs hl hR hS hc
    exact lv_lushr hex hb hd rfl (hnx _ _ _ g ls H locs hl hR hS hc)
  case lcmp =>
    simp only [j_ckA, beq_iff_eq] at hck
    subst hck
    obtain ⟨a, b, r, rfl, g⟩ := j_l2_inv G
    intro ls H locs hl hR hS hc
    exact W.lcmp hex hb hd (hnx _ _ _ g ls H locs hl hR hS hc)
  case i2l =>
    simp only [j_ckA, beq_iff_eq] at hck
    subst hck
    obtain ⟨a, r, rfl, g⟩ := j_i1_inv G
    intro ls H locs hl hR hS hc
    exact lv_i2l hex hb hd rfl (hnx _ _ _ g ls H locs hl hR hS hc)
  case l2i =>
    simp only [j_ckA, beq_iff_eq] at hck
    subst hck
    obtain ⟨a, r, rfl, g⟩ := j_l1_inv G
    intro ls H locs hl hR hS hc
    exact lv_l2i hex hb hd rfl (hnx _ _ _ g ls H locs hl hR hS hc)
  case i2b =>
    simp only [j_ckA, beq_iff_eq] at hck
    subst hck
    obtain ⟨a, r, rfl, g⟩ := j_i1_inv G
    intro ls H locs hl hR hS hc
    exact lv_i2b hex hb hd rfl (hnx _ _ _ g ls H locs hl hR hS hc)
  case i2c =>
    simp only [j_ckA, beq_iff_eq] at hck
    subst hck
    obtain ⟨a, r, rfl, g⟩ := j_i1_inv G
    intro ls H locs hl hR hS hc
    exact lv_i2c hex hb hd rfl (hnx _ _ _ g ls H locs hl hR hS hc)
  case i2f =>
    simp only [j_ckA, beq_iff_eq] at hck
    subst hck
    obtain ⟨a, r, rfl, g⟩ := j_i1_inv G
    intro ls H locs hl hR hS hc
    exact lv_i2f hex hb hd (hnx _ _ _ g ls H locs hl hR hS hc)
  case i2d =>
    simp only [j_ckA, beq_iff_eq] at hck
    subst hck
    obtain ⟨a, r, rfl, g⟩ := j_i1_inv G
    intro ls H locs hl hR hS hc
    exact lv_i2d hex hb hd (hnx _ _ _ g ls H locs hl hR hS hc)
  case fdiv =>
    simp only [j_ckA, beq_iff_eq] at hck
    subst hck
    obtain ⟨a, b, r, rfl, g0, g⟩ := j_f2_inv G
    intro ls H locs hl hR hS hc
    exact lv_fdiv hex hb hd g0 (hnx _ _ _ g ls H locs hl hR hS hc)
  case ddiv =>
    simp only [j_ckA, beq_iff_eq] at hck
    subst hck
    obtain ⟨a, b, r, rfl, g0, g⟩ := j_d2_inv G
    intro ls H locs hl hR hS hc
    exact lv_ddiv hex hb hd g0 (hnx _ _ _ g ls H locs hl hR hS hc)
  case f2d =>
    simp only [j_ckA, beq_iff_eq] at hck
    subst hck
    obtain ⟨a, r, rfl, g0, g⟩ := j_f1_inv G
    intro ls H locs hl hR hS hc
    exact lv_f2d hex hb hd g0 (hnx _ _ _ g ls H locs hl hR hS hc)
  case fcmp o =>
    simp only [j_ckA, beq_iff_eq] at hck
    subst hck
    obtain ⟨a, b, r, rfl, g⟩ := j_f2_inv G
    intro ls H locs hl hR hS hc
    exact lv_fcmp hex hb hd (hnx _ _ _ g ls H locs hl hR hS hc)
  case dcmp o =>
    simp only [j_ckA, beq_iff_eq] at hck
    subst hck
    obtain ⟨a, b, r, rfl, g⟩ := j_d2_inv G
    intro ls H locs hl hR hS hc
    exact lv_dcmp hex hb hd (hnx _ _ _ g ls H locs hl hR hS hc)
  case pop =>
    simp only [j_ckA, beq_iff_eq] at hck
    subst hck
    intro ls H locs hl hR hS hc
    simp only [j_opA] at G
    split at G
    · exact lv_pop hex hb hd rfl (hnx _ _ _ G ls H locs hl hR hS hc)
    · exact lv_pop hex hb hd rfl (hnx _ _ _ G ls H locs hl hR hS hc)
    · exact G.elim
  case dup =>
    simp only [j_ckA, beq_iff_eq] at hck
    subst hck
    intro ls H locs hl hR hS hc
    simp only [j_opA] at G
    split at G
    · exact lv_dup hex hb hd rfl (hnx _ _ _ G ls H locs hl hR hS hc)
    · exact lv_dup hex hb hd rfl (hnx _ _ _ G ls H locs hl hR hS hc)
    · exact G.elim
  case dup_x1 =>
    simp only [j_ckA, beq_iff_eq] at hck
    subst hck
    intro ls H locs hl hR hS hc
    simp only [j_opA] at G
    split at G
    · exact lv_dup_x1 hex hb hd rfl rfl (hnx _ _ _ G ls H locs hl hR hS hc)
    · exact G.elim
  case dup2 =>
    simp only [j_ckA, beq_iff_eq] at hck
    subst hck
    intro ls H locs hl hR hS hc
    simp only [j_opA] at G
    split at G
    · exact lv_dup2_11 hex hb hd rfl rfl (hnx _ _ _ G ls H locs hl hR hS hc)
    · exact G.elim
end JRowsA

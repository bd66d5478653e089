/-! ===== members of the machine's own ===== -/
theorem j_arrV {ce : Cell} {n : Nat} {V : Nat → Value} (h1 : j_pl ce) (h2 : ce.slots.size = n) (h3 : ∀ j, j < n → ce.slots[j]? = some (V j)) : ce = arrV ce.cls n V := by
  have hs : ce.slots = (arrV ce.cls n V).slots := by
    apply Array.ext_getElem?
    intro i
    by_cases hi : i < n
    · rw [h3 i hi, arrV_read _ _ hi]
    · rw [Array.getElem?_eq_none (by rw [h2]; omega), Array.getElem?_eq_none (by rw [arrV_size]; omega)]
  obtain ⟨g1, g2, g3⟩ := h1
  cases ce
  simp only [arrV] at hs g1 g2 g3 ⊢
  simp_all
section JRowsD
variable {p : Program} {l : Launch} {e : Env} {R : Room} {s : State} {m : MethodId} {args : Array Value} {below : List Frame} {meth : Method} {c : Code}
variable {D : va_G} {bs : Nat} {E : j_E} {h0 : j_H} {d : Nat} {own : String} {cc : ByteArray} {nL : Nat} {ret : Option FieldType} {QQ : State → Prop}
def j_wdN (own : String) (k : Nat) : Nat → List Cond
  | 0 => [.methodLink own k Lib.Math.min.name, .static Lib.Math.min.name, .initialized "java/lang/Math", .code Lib.Math.min.name Lib.Math.min.code 2 (some .int)]
  | 1 => [.methodLink own k Lib.Math.max.name, .static Lib.Math.max.name, .initialized "java/lang/Math", .code Lib.Math.max.name Lib.Math.max.code 2 (some .int)]
  | 2 => [.methodLink own k Lib.MathLoose.min_long.x, .static Lib.MathLoose.min_long.x, .initialized "java/lang/Math", .code Lib.MathLoose.min_long.x Lib.MathLoose.min_long.code 4 (some .long)]
  | 3 => [.methodLink own k Lib.MathLoose.max_long.x, .static Lib.MathLoose.max_long.x, .initialized "java/lang/Math", .code Lib.MathLoose.max_long.x Lib.MathLoose.max_long.code 4 (some .long)]
  | 4 => [.methodLink own k Lib.MathLoose.abs_long.x, .static Lib.MathLoose.abs_long.x, .initialized "java/lang/Math", .code Lib.MathLoose.abs_long.x Lib.MathLoose.abs_long.code 2 (some .long)]
  | 5 => [.methodLink own k arraycopyName, .native arraycopyName, .static arraycopyName, .initialized "java/lang/System"]
  | 7 => [.methodLink own k arraycopyName, .native arraycopyName, .static arraycopyName, .initialized "java/lang/System"]
  | _ => [.methodLink own k Lib.objectInit, .instanceMethod Lib.objectInit, .code Lib.objectInit ⟨#[0xb1]⟩ 1 none]
theorem j_bud (X : j_Ctx p l R s m args meth c D bs E h0 d own cc nL ret) {h : j_H} (hc : j_cn E h0 h) : 1 ≤ R.frames ∧ 180 ≤ R.locals ∧ j_c h - j_c h0 ≤ R.cells ∧ j_k h - j_k h0 ≤ R.slots := by
  obtain ⟨hex, hb, hml, hr, hown, hts, henv, hRm, hlocks, htab, hst, hbs⟩ := X
  obtain ⟨a1, a2, a3, a4⟩ := hc
  rw [hRm]
  simp only [j_room]
  refine ⟨by omega, by omega, by omega, by omega⟩
theorem j_copy (X : j_Ctx p l R s m args meth c D bs E h0 d own cc nL ret) {pc k a0 a n0 n1 : Nat} {sp dp n : Int32} {lv r : List Value} {h : j_H} (hw : ∀ w ∈ j_wdN own k 5, w ∈ j_tbl) (hcw : j_cw r = true) (hs0 : j_sh h a0 = some (.inl (0, n0))) (hs1 : j_sh h a = some (.inl (0, n1)))
    (h1 : ¬ sp < 0) (h2 : ¬ dp < 0) (h3 : ¬ n < 0) (h4 : sp.toNatClampNeg + n.toNatClampNeg ≤ n0) (h5 : dp.toNatClampNeg + n.toNatClampNeg ≤ n1) (hd : decode cc pc = .ok (.invokestatic k, 3))
    (kk : j_W p l e R s m args below meth c D bs E h0 nL QQ (pc + 3) lv r (j_rowI h a (va_cpy (j_I h a0) (j_I h a) sp.toNatClampNeg dp.toNatClampNeg n.toNatClampNeg))) : j_W p l e R s m args below meth c D bs E h0 nL QQ pc lv (.int n :: .int dp :: .ref a :: .int sp :: .ref a0 :: r) h := by
  have X9 := X
  obtain ⟨hex, hb, hml, hr, hown, hts, henv, hRm, hlocks, htab, hst, hbs⟩ := X
  have nn : ∀ z : Int32, ¬ z < 0 → z.toInt = (z.toNatClampNeg : Int) := by
    intro z hz
    have hz0 : (0 : Int) ≤ z.toInt := by
      have := Int32.not_lt.mp hz
      simpa using Int32.le_iff_toInt_le.mp this
    show z.toInt = ((z.toInt.toNat : Nat) : Int)
    omega
  intro ls H locs hl hR hS hc T hT XX
  obtain ⟨b1, b2, b3, b4⟩ := j_bud X9 hc
  obtain ⟨-, -, c0, p1, p2, -, p4, p5, p6⟩ := j_rep_arr hR hs0
  obtain ⟨gA, gn, c1, q1, q2, -, q4, q5, q6⟩ := j_rep_arr hR hs1
  have e0 := j_arrV (V := fun j => .int (j_I h a0 j)) (p4.2 (by decide)) p5 p6
  have e1 := j_arrV (V := fun j => .int (j_I h a j)) (q4.2 (by decide)) q5 q6
  generalize c0.cls = k0 at e0
  generalize c1.cls = k1 at e1
  subst e0 e1
  obtain ⟨-, kc0, hk0, cm0, hkk0⟩ := id p2
  obtain ⟨-, kc1, hk1, cm1, hkk1⟩ := id q2
  have hcat := j_cat hcw
  have hnw9 : nativeFrameWords "java/lang/System" "arraycopy" 5 ≤ 100 := by decide
  obtain ⟨vm', X', step⟩ := XX.arraycopy hex hown (hts (.methodLink own k arraycopyName) (hw _ (by simp [j_wdN]))) (hts (.native arraycopyName) (hw _ (by simp [j_wdN]))) (hts (.static arraycopyName) (hw _ (by simp [j_wdN]))) (hts (.initialized "java/lang/System") (hw _ (by simp [j_wdN]))) (src := a0) (dst := a) (cs := arrV k0 n0 (fun j => .int (j_I h a0 j))) (cd := arrV k1 n1 (fun j => .int (j_I h a j))) (srcPos := sp) (destPos := dp) (n := n) (by rw [hT]; exact p1) (by rw [hT]; exact q1)
    (fun _ h => by cases h) (fun _ h => by cases h) (fun h => by cases h) (fun h => by cases h) hk0 hk1 hkk0 hkk1 (by simp [j_aty, refKind]) h1 h2 h3
    (by rw [nn sp h1, nn n h3]; show ¬ _ > ((arrV k0 n0 (fun j => .int (j_I h a0 j))).slots.size : Int); rw [arrV_size]; omega)
    (by rw [nn dp h2, nn n h3]; show ¬ _ > ((arrV k1 n1 (fun j => .int (j_I h a j))).slots.size : Int); rw [arrV_size]; omega)
    (fun vm₁ _ i hi => by
      have e : (arrV k0 n0 (fun j => .int (j_I h a0 j))).slots.getD (sp.toNatClampNeg + i) .null = .int (j_I h a0 (sp.toNatClampNeg + i)) := by
        rw [Array.getD_eq_getD_getElem?, arrV_read _ _ (by omega)]
        rfl
      refine ⟨?_, ?_⟩
      · rw [e]
        rfl
      · rw [e]
        exact trivial)
    (g := F0 m pc ls (.int n :: .int dp :: .ref a :: .int sp :: .ref a0 :: r)) rfl (hl.1.trans hml.symm) (rest := r) rfl (by rw [hb]; exact hd) b1 (by show 2 * 0 + _ + (_ + 11) ≤ _; omega)
  have ec : copied (arrV k0 n0 (fun j => .int (j_I h a0 j))) (arrV k1 n1 (fun j => .int (j_I h a j))) sp dp n = arrV k1 n1 (fun j => .int (va_cpy (j_I h a0) (j_I h a) sp.toNatClampNeg dp.toNatClampNeg n.toNatClampNeg j)) := va_copied (fun z => .int z) k0 k1 (j_I h a0) (j_I h a) h4
  rw [ec] at X' step
  have hlt : a < H.size := (Array.getElem?_eq_some_iff.mp q1).1
  generalize hnw : arrV k1 n1 (fun j => .int (va_cpy (j_I h a0) (j_I h a) sp.toNatClampNeg dp.toNatClampNeg n.toNatClampNeg j)) = nw at X' step
  have hheap : ((T.setVm vm').setCell a nw).heap = H.setIfInBounds a nw := by rw [← hT]; rfl
  have oq : ∀ q : Nat, q ≠ a → (H.setIfInBounds a nw)[q]? = H[q]? := fun q hq => by simp [Array.getElem?_setIfInBounds, Ne.symm hq]
  have ha : j_A bs a := gA (by decide)
  have hR' : j_rep D bs s (j_rowI h a (va_cpy (j_I h a0) (j_I h a) sp.toNatClampNeg dp.toNatClampNeg n.toNatClampNeg)) (H.setIfInBounds a nw) := by
    refine j_rep_upd hR rfl rfl hs1 (fun b hb ty j => j_fv_row hb) (by simp) oq ⟨gA, gn, nw, by simp [Array.getElem?_setIfInBounds, hlt], ?_, trivial, ?_, ?_, ?_⟩
    · rw [← hnw]
      exact ⟨fun _ z => (by cases z), kc1, hk1, cm1, hkk1⟩
    · rw [← hnw]
      exact ⟨fun z => (by cases z), fun _ => ⟨rfl, rfl, rfl⟩⟩
    · rw [← hnw]
      exact j_sz_of (arrV_size _ _ _)
    · intro j hj
      rw [← hnw, arrV_read _ _ hj]
      simp [j_fv, j_aty, j_rowI, j_I, j_row]
  obtain ⟨t, a1, b1⟩ := kk ls _ _ hl hR' ⟨by simp; exact hS.1, fun q g1 g2 => by
      rw [oq q (fun e => g2 (by rw [e]; exact ha))]
      exact hS.2.1 q g1 g2, fun q hq => by
      rcases List.mem_append.mp hq with h | h
      · exact hS.2.2 q h
      · obtain ⟨z, -, hz⟩ := List.mem_map.mp h
        rw [← hz]
        exact ha⟩ hc _ hheap X'
  exact ⟨t, step t a1, b1⟩
theorem j_fitB {v : Int32} (h : v.toInt8.toInt32 = v) : fits .byte (.int v) = true := by
  have e : v.toInt8.toInt = v.toInt := by rw [← Int8.toInt_toInt32, h]
  have h1 := Int8.le_toInt v.toInt8
  have h2 := Int8.toInt_lt v.toInt8
  rw [e] at h1 h2
  have a1 : (-128 : Int32) ≤ v := Int32.le_iff_toInt_le.mpr (by rw [show (-128 : Int32).toInt = -128 from rfl]; omega)
  have a2 : v ≤ (127 : Int32) := Int32.le_iff_toInt_le.mpr (by rw [show (127 : Int32).toInt = 127 from rfl]; omega)
  simp [fits, a1, a2]
theorem j_copyB (X : j_Ctx p l R s m args meth c D bs E h0 d own cc nL ret) {pc k a0 a n0 n1 t0 : Nat} {sp dp n : Int32} {lv r : List Value} {h : j_H} (hw : ∀ w ∈ j_wdN own k 7, w ∈ j_tbl) (hcw : j_cw r = true) (ht : t0 = 3 ∨ t0 = 8) (hs0 : j_sh h a0 = some (.inl (t0, n0))) (hs1 : j_sh h a = some (.inl (3, n1)))
    (hfit : ∀ i, i < n.toNatClampNeg → (j_I h a0 (sp.toNatClampNeg + i)).toInt8.toInt32 = j_I h a0 (sp.toNatClampNeg + i))
    (h1 : ¬ sp < 0) (h2 : ¬ dp < 0) (h3 : ¬ n < 0) (h4 : sp.toNatClampNeg + n.toNatClampNeg ≤ n0) (h5 : dp.toNatClampNeg + n.toNatClampNeg ≤ n1) (hd : decode cc pc = .ok (.invokestatic k, 3))
    (kk : j_W p l e R s m args below meth c D bs E h0 nL QQ (pc + 3) lv r (j_rowI h a (va_cpy (j_I h a0) (j_I h a) sp.toNatClampNeg dp.toNatClampNeg n.toNatClampNeg))) : j_W p l e R s m args below meth c D bs E h0 nL QQ pc lv (.int n :: .int dp :: .ref a :: .int sp :: .ref a0 :: r) h := by
  have X9 := X
  obtain ⟨hex, hb, hml, hr, hown, hts, henv, hRm, hlocks, htab, hst, hbs⟩ := X
  have nn : ∀ z : Int32, ¬ z < 0 → z.toInt = (z.toNatClampNeg : Int) := by
    intro z hz
    have hz0 : (0 : Int) ≤ z.toInt := by
      have := Int32.not_lt.mp hz
      simpa using Int32.le_iff_toInt_le.mp this
    show z.toInt = ((z.toInt.toNat : Nat) : Int)
    omega
  intro ls H locs hl hR hS hc T hT XX
  obtain ⟨b1, b2, b3, b4⟩ := j_bud X9 hc
  obtain ⟨-, -, c0, p1, p2, -, p4, p5, p6⟩ := j_rep_arr8 hR hs0
  obtain ⟨gA, gn, c1, q1, q2, -, q4, q5, q6⟩ := j_rep_arr hR hs1
  have eb : j_aty t0 = .byte := by rcases ht with rfl | rfl <;> rfl
  rw [eb] at p2 p6
  have e1 := j_arrV (V := fun j => .int (j_I h a j)) (q4.2 (by decide)) q5 q6
  generalize c1.cls = k1 at e1
  subst e1
  obtain ⟨hst0, kc0, hk0, cm0, hkk0⟩ := id p2
  obtain ⟨-, kc1, hk1, cm1, hkk1⟩ := id q2
  have hcat := j_cat hcw
  have hnw9 : nativeFrameWords "java/lang/System" "arraycopy" 5 ≤ 100 := by decide
  obtain ⟨vm', X', step⟩ := XX.arraycopy hex hown (hts (.methodLink own k arraycopyName) (hw _ (by simp [j_wdN]))) (hts (.native arraycopyName) (hw _ (by simp [j_wdN]))) (hts (.static arraycopyName) (hw _ (by simp [j_wdN]))) (hts (.initialized "java/lang/System") (hw _ (by simp [j_wdN]))) (src := a0) (dst := a) (cs := c0) (cd := arrV k1 n1 (fun j => .int (j_I h a j))) (srcPos := sp) (destPos := dp) (n := n) (by rw [hT]; exact p1) (by rw [hT]; exact q1)
    hst0 (fun _ h => by cases h) p4.1 (fun h => by cases h) hk0 hk1 hkk0 hkk1 (by simp [j_aty, refKind]) h1 h2 h3
    (by rw [nn sp h1, nn n h3]; have := p5.1; omega)
    (by rw [nn dp h2, nn n h3]; show ¬ _ > ((arrV k1 n1 (fun j => .int (j_I h a j))).slots.size : Int); rw [arrV_size]; omega)
    (fun vm₁ _ i hi => by
      have e : c0.slots.getD (sp.toNatClampNeg + i) .null = .int (j_I h a0 (sp.toNatClampNeg + i)) := by
        rw [Array.getD_eq_getD_getElem?, p6 _ (by omega)]
        rfl
      refine ⟨?_, ?_⟩
      · rw [e]
        exact j_fitB (hfit i hi)
      · rw [e]
        exact trivial)
    (g := F0 m pc ls (.int n :: .int dp :: .ref a :: .int sp :: .ref a0 :: r)) rfl (hl.1.trans hml.symm) (rest := r) rfl (by rw [hb]; exact hd) b1 (by show 2 * 0 + _ + (_ + 11) ≤ _; omega)
  have ec : copied c0 (arrV k1 n1 (fun j => .int (j_I h a j))) sp dp n = arrV k1 n1 (fun j => .int (va_cpy (j_I h a0) (j_I h a) sp.toNatClampNeg dp.toNatClampNeg n.toNatClampNeg j)) := va_copiedX (fun z => .int z) c0 k1 (j_I h a0) (j_I h a) (fun j hj => p6 j hj) h4
  rw [ec] at X' step
  have hlt : a < H.size := (Array.getElem?_eq_some_iff.mp q1).1
  generalize hnw : arrV k1 n1 (fun j => .int (va_cpy (j_I h a0) (j_I h a) sp.toNatClampNeg dp.toNatClampNeg n.toNatClampNeg j)) = nw at X' step
  have hheap : ((T.setVm vm').setCell a nw).heap = H.setIfInBounds a nw := by rw [← hT]; rfl
  have oq : ∀ q : Nat, q ≠ a → (H.setIfInBounds a nw)[q]? = H[q]? := fun q hq => by simp [Array.getElem?_setIfInBounds, Ne.symm hq]
  have ha : j_A bs a := gA (by decide)
  have hR' : j_rep D bs s (j_rowI h a (va_cpy (j_I h a0) (j_I h a) sp.toNatClampNeg dp.toNatClampNeg n.toNatClampNeg)) (H.setIfInBounds a nw) := by
    refine j_rep_upd hR rfl rfl hs1 (fun b hb ty j => j_fv_row hb) (by simp) oq ⟨gA, gn, nw, by simp [Array.getElem?_setIfInBounds, hlt], ?_, trivial, ?_, ?_, ?_⟩
    · rw [← hnw]
      exact ⟨fun _ z => (by cases z), kc1, hk1, cm1, hkk1⟩
    · rw [← hnw]
      exact ⟨fun z => (by cases z), fun _ => ⟨rfl, rfl, rfl⟩⟩
    · rw [← hnw]
      exact j_sz_of (arrV_size _ _ _)
    · intro j hj
      rw [← hnw, arrV_read _ _ hj]
      simp [j_fv, j_aty, j_rowI, j_I, j_row]
  obtain ⟨t, a1, b1⟩ := kk ls _ _ hl hR' ⟨by simp; exact hS.1, fun q g1 g2 => by
      rw [oq q (fun e => g2 (by rw [e]; exact ha))]
      exact hS.2.1 q g1 g2, fun q hq => by
      rcases List.mem_append.mp hq with h | h
      · exact hS.2.2 q h
      · obtain ⟨z, -, hz⟩ := List.mem_map.mp h
        rw [← hz]
        exact ha⟩ hc _ hheap X'
  exact ⟨t, step t a1, b1⟩
/-- the members of the machine's own -/
theorem j_okN (X : j_Ctx p l R s m args meth c D bs E h0 d own cc nL ret) {pc k i : Nat} {lv st : List Value} {h : j_H} {nx : List Value → j_H → Prop} (hw : ∀ w ∈ j_wdN own k i, w ∈ j_tbl) (hd : ((i < 6 ∨ i = 7) ∧ decode cc pc = .ok (.invokestatic k, 3)) ∨ (i = 6 ∧ decode cc pc = .ok (.invokespecial k, 3)))
    (hnx : ∀ st h, nx st h → j_W p l e R s m args below meth c D bs E h0 nL QQ (pc + 3) lv st h) (G : j_nat i st h nx) : j_W p l e R s m args below meth c D bs E h0 nL QQ pc lv st h := by
  have X9 := X
  obtain ⟨hex, hb, hml, hr, hown, hts, henv, hRm, hlocks, htab, hst, hbs⟩ := X
  match i, hw, hd, G with
  | 0, hw, hd, G =>
    obtain ⟨a, b, r, rfl, g⟩ := j_i2_inv G
    obtain ⟨g1, g2⟩ := j_few_iff.mp g
    have hcat := j_cat g1
    intro ls H locs hl hR hS hc
    obtain ⟨b1, b2, b3, b4⟩ := j_bud X9 hc
    exact va_mmin hex hb (hml.trans hl.1.symm) hown (hts (.methodLink own k Lib.Math.min.name) (hw _ (by simp [j_wdN]))) (hts (.static Lib.Math.min.name) (hw _ (by simp [j_wdN]))) (hts (.initialized "java/lang/Math") (hw _ (by simp [j_wdN]))) (hts (.code Lib.Math.min.name Lib.Math.min.code 2 (some .int)) (hw _ (by simp [j_wdN]))) b1 (by omega) b3 b4 (hd.resolve_right (fun z => absurd z.1 (by omega))).2 (hnx _ _ g2 ls H locs hl hR hS hc)
  | 1, hw, hd, G =>
    obtain ⟨a, b, r, rfl, g⟩ := j_i2_inv G
    obtain ⟨g1, g2⟩ := j_few_iff.mp g
    have hcat := j_cat g1
    intro ls H locs hl hR hS hc
    obtain ⟨b1, b2, b3, b4⟩ := j_bud X9 hc
    exact va_mmax hex hb (hml.trans hl.1.symm) hown (hts (.methodLink own k Lib.Math.max.name) (hw _ (by simp [j_wdN]))) (hts (.static Lib.Math.max.name) (hw _ (by simp [j_wdN]))) (hts (.initialized "java/lang/Math") (hw _ (by simp [j_wdN]))) (hts (.code Lib.Math.max.name Lib.Math.max.code 2 (some .int)) (hw _ (by simp [j_wdN]))) b1 (by omega) b3 b4 (hd.resolve_right (fun z => absurd z.1 (by omega))).2 (hnx _ _ g2 ls H locs hl hR hS hc)
  | 2, hw, hd, G =>
    obtain ⟨a, b, r, rfl, g⟩ := j_l2_inv G
    obtain ⟨g1, g2⟩ := j_few_iff.mp g
    have hcat := j_cat g1
    intro ls H locs hl hR hS hc
    obtain ⟨b1, b2, b3, b4⟩ := j_bud X9 hc
    exact va_mmin_long hex hb (hml.trans hl.1.symm) hown (hts (.methodLink own k Lib.MathLoose.min_long.x) (hw _ (by simp [j_wdN]))) (hts (.static Lib.MathLoose.min_long.x) (hw _ (by simp [j_wdN]))) (hts (.initialized "java/lang/Math") (hw _ (by simp [j_wdN]))) (hts (.code Lib.MathLoose.min_long.x Lib.MathLoose.min_long.code 4 (some .long)) (hw _ (by simp [j_wdN]))) b1 (by omega) b3 b4 (hd.resolve_right (fun z => absurd z.1 (by omega))).2 (hnx _ _ g2 ls H locs hl hR hS hc)
  | 3, hw, hd, G =>
    obtain ⟨a, b, r, rfl, g⟩ := j_l2_inv G
    obtain ⟨g1, g2⟩ := j_few_iff.mp g
    have hcat := j_cat g1
    intro ls H locs hl hR hS hc
    obtain ⟨b1, b2, b3, b4⟩ := j_bud X9 hc
    exact va_mmax_long hex hb (hml.trans hl.1.symm) hown (hts (.methodLink own k Lib.MathLoose.max_long.x) (hw _ (by simp [j_wdN]))) (hts (.static Lib.MathLoose.max_long.x) (hw _ (by simp [j_wdN]))) (hts (.initialized "java/lang/Math") (hw _ (by simp [j_wdN]))) (hts (.code Lib.MathLoose.max_long.x Lib.MathLoose.max_long.code 4 (some .long)) (hw _ (by simp [j_wdN]))) b1 (by omega) b3 b4 (hd.resolve_right (fun z => absurd z.1 (by omega))).2 (hnx _ _ g2 ls H locs hl hR hS hc)
  | 4, hw, hd, G =>
    obtain ⟨a, r, rfl, g⟩ := j_l1_inv G
    obtain ⟨g1, g2⟩ := j_few_iff.mp g
    have hcat := j_cat g1
    intro ls H locs hl hR hS hc
    obtain ⟨b1, b2, b3, b4⟩ := j_bud X9 hc
    exact va_mabs_long hex hb (hml.trans hl.1.symm) hown (hts (.methodLink own k Lib.MathLoose.abs_long.x) (hw _ (by simp [j_wdN]))) (hts (.static Lib.MathLoose.abs_long.x) (hw _ (by simp [j_wdN]))) (hts (.initialized "java/lang/Math") (hw _ (by simp [j_wdN]))) (hts (.code Lib.MathLoose.abs_long.x Lib.MathLoose.abs_long.code 2 (some .long)) (hw _ (by simp [j_wdN]))) b1 (by omega) b3 b4 (hd.resolve_right (fun z => absurd z.1 (by omega))).2 (hnx _ _ g2 ls H locs hl hR hS hc)
  | 5, hw, hd, G =>
    simp only [j_nat] at G
    split at G
    · rename_i n dp dd sp ss r
      obtain ⟨n0, hs0, G⟩ := j_arr_inv G
      obtain ⟨n1, hs1, G⟩ := j_arr_inv G
      obtain ⟨g1, g2, g3, g4, g5, g6, G⟩ := G
      obtain ⟨g7, g8⟩ := j_few_iff.mp G
      exact j_copy X9 hw g7 hs0 hs1 g1 g2 g3 g4 g5 (hd.resolve_right (fun z => absurd z.1 (by omega))).2 (hnx _ _ g8)
    · exact G.elim
  | 7, hw, hd, G =>
    simp only [j_nat] at G
    split at G
    · rename_i n dp dd sp ss r
      obtain ⟨n0, hs0, G⟩ := j_arb_inv G
      obtain ⟨n1, hs1, G⟩ := j_arr_inv G
      obtain ⟨g1, g2, g3, g4, g5, g9, g6, G⟩ := G
      obtain ⟨g7, g8⟩ := j_few_iff.mp G
      rcases hs0 with hs0 | hs0
      · exact j_copyB X9 hw g7 (Or.inl rfl) hs0 hs1 g9 g1 g2 g3 g4 g5 (hd.resolve_right (fun z => absurd z.1 (by omega))).2 (hnx _ _ g8)
      · exact j_copyB X9 hw g7 (Or.inr rfl) hs0 hs1 g9 g1 g2 g3 g4 g5 (hd.resolve_right (fun z => absurd z.1 (by omega))).2 (hnx _ _ g8)
    · exact G.elim
  | i + 8, hw, hd, G => exact absurd hd (by rintro (⟨z, -⟩ | ⟨z, -⟩) <;> omega)
  | 6, hw, hd, G =>
    obtain ⟨a, r, rfl, g⟩ := j_r1_inv (show j_r1 st _ from G)
    obtain ⟨g1, g2⟩ := j_few_iff.mp g
    have hcat := j_cat g1
    intro ls H locs hl hR hS hc
    obtain ⟨b1, b2, b3, b4⟩ := j_bud X9 hc
    exact W.objInit hex hb hown (hts (.methodLink own k Lib.objectInit) (hw _ (by simp [j_wdN]))) (hts (.instanceMethod Lib.objectInit) (hw _ (by simp [j_wdN]))) (hts (.code Lib.objectInit ⟨#[0xb1]⟩ 1 none) (hw _ (by simp [j_wdN]))) (g := F0 m pc ls (.ref a :: r)) rfl (hl.1.trans hml.symm) rfl (hd.resolve_left (fun z => absurd z.1 (by omega))).2 b1 (by show 2 * 0 + _ + 12 ≤ _; omega) (hnx _ _ g2 ls H locs hl hR hS hc)
end JRowsD

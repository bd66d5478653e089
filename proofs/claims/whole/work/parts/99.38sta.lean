/-! ===== the start: the own heap at the law's entry ===== -/
section Sta
theorem ext_one {args : Array Value} {s : State} {nm ds : String} (hp : (Cond.privateMethod ⟨"java/lang/AbstractStringBuilder", nm, ds⟩).before args s = true) (hi : (Cond.instanceMethod ⟨"java/lang/AbstractStringBuilder", nm, ds⟩).before args s = true) (hsa : (Cond.sameMethod "java/lang/AbstractStringBuilder" "java/lang/AbstractStringBuilder" nm ds).before args s = true) (hsb : (Cond.instantiable "java/lang/StringBuilder" 4).before args s = true) : (Cond.selects "java/lang/StringBuilder" ⟨"java/lang/AbstractStringBuilder", nm, ds⟩ ⟨"java/lang/AbstractStringBuilder", nm, ds⟩).before args s = true := by
  obtain ⟨cB, kB, hcB, -⟩ := Cond.instantiable_spec hsb
  obtain ⟨mk, methM, hnamed, hmethM, -, -⟩ := Cond.instanceMethod_spec hi
  have hfound : s.methodFound? "java/lang/AbstractStringBuilder" nm ds = some mk := State.methodFound?_of_named hnamed ⟨show ("java/lang/AbstractStringBuilder" : String) ≠ "java/lang/invoke/MethodHandle" from by decide, show ("java/lang/AbstractStringBuilder" : String) ≠ "java/lang/invoke/VarHandle" from by decide⟩
  obtain ⟨c, ck, r, h1, h2, h3, h4, h5⟩ := Cond.sameMethod_found hsa
  have hcls : mk.cls = c := Option.some.inj ((findClass_of_methodNamed hnamed).symm.trans h1)
  have hsel : selectMethod {} s.vm cB mk = .method mk := selectMethod_private hmethM (Cond.privateMethod_at hp mk methM hnamed hmethM)
  simp only [Cond.before, Cond.holds, Cond.value, hcB, hfound, hnamed, hsel, hcls, h2]
  simp
  exact h3
theorem tbl_ok {args : Array Value} {s : State} (hts : ∀ w ∈ lw_tbl, w.before args s = true) : ∀ w ∈ j_tbl, w.before args s = true := by
  intro w hw
  rcases List.mem_append.mp hw with hw | hw
  · exact hts w (List.mem_filter.mp hw).1
  · have e : w = Cond.selects "java/lang/StringBuilder" ⟨"java/lang/AbstractStringBuilder", "ensureCapacityInternal", "(I)V"⟩ ⟨"java/lang/AbstractStringBuilder", "ensureCapacityInternal", "(I)V"⟩ ∨ w = Cond.selects "java/lang/StringBuilder" ⟨"java/lang/AbstractStringBuilder", "newCapacity", "(I)I"⟩ ⟨"java/lang/AbstractStringBuilder", "newCapacity", "(I)I"⟩ ∨ w = Cond.selects "java/lang/StringBuilder" ⟨"java/lang/AbstractStringBuilder", "putStringAt", "(ILjava/lang/String;)V"⟩ ⟨"java/lang/AbstractStringBuilder", "putStringAt", "(ILjava/lang/String;)V"⟩ ∨ w = Cond.selects "java/lang/StringBuilder" ⟨"java/lang/AbstractStringBuilder", "inflateIfNeededFor", "(Ljava/lang/String;)V"⟩ ⟨"java/lang/AbstractStringBuilder", "inflateIfNeededFor", "(Ljava/lang/String;)V"⟩ := by
      simpa [j_ext, j_asb] using hw
    rcases e with e | e | e | e <;> rw [e]
    · exact ext_one (hts _ x_p0) (hts _ x_i0) (hts _ x_s0) (hts _ q_sb)
    · exact ext_one (hts _ x_p1) (hts _ x_i1) (hts _ x_s1) (hts _ q_sb)
    · exact ext_one (hts _ x_p2) (hts _ x_i2) (hts _ x_s2) (hts _ q_sb)
    · exact ext_one (hts _ x_p3) (hts _ x_i3) (hts _ x_s3) (hts _ q_sb)
/-- a String constant's cells -/
def strF (args : Array Value) (s : State) (A : Nat → Prop) (z : String × Nat × String) (a v : Nat) : Prop := (Term.string z.1 z.2.1).eval args s none [] s = some (.ref a) ∧ va_O "java/lang/String" a A s s.heap ∧ va_OF "java/lang/String" "coder" "B" (.int 0) a A s s.heap ∧ va_OF "java/lang/String" "value" "[B" (.ref v) a A s s.heap ∧ va_T .byte v (wd z.2.2).length (fun j => .int (Int32.ofNat ((wd z.2.2).getD j 0))) A s s.heap
theorem sE_at {t : Term} {w : List Nat} {j : Nat} (hj : j < w.length) : Cond.eq (.elem t (.int (Int32.ofNat j))) (.int (Int32.ofNat (w.getD j 0))) ∈ sE t w := List.mem_map.mpr ⟨j, List.mem_range.mpr hj, rfl⟩
theorem str_at {args : Array Value} {s : State} {A : Nat → Prop} {z : String × Nat × String} (hs : ∀ w ∈ sW z, w.before args s = true) (hn : (wd z.2.2).length < 1000) (hA : ∀ a : Nat, a < s.heap.size → ¬ A a) : ∃ q : Nat × Nat, strF args s A z q.1 q.2 := by
  obtain ⟨a, c, cA, kA, q1, q2, q3, q4, q5, q6, -⟩ := Cond.exactly_spec (args := args) (first := s) (o := none) (s := s) (idx := []) (t := .string z.1 z.2.1) (cls := "java/lang/String") (hs _ (by simp [sW]))
  obtain ⟨t, ht, hT⟩ := va_Tof (tm := sV z) (ty := .byte) (N := (wd z.2.2).length) (f := fun j => .int (Int32.ofNat ((wd z.2.2).getD j 0))) (A := A) (by omega) (hs _ (by simp [sW])) (va_eqt (hs _ (by simp [sW]))) (fun j hj => va_eqt (hs _ (by
    have := sE_at (t := sV z) hj
    simp only [sW, List.mem_cons]
    exact Or.inr (Or.inr (Or.inr (Or.inr this)))))) hA
  exact ⟨(a, t), q1, ⟨cA, q3, q5, by rw [q6]; exact q2, hA a (Array.getElem?_eq_some_iff.mp q3).1⟩, vk_OFof q1 (va_eqt (hs _ (by simp [sW]))) hA, vk_OFof q1 ht hA, hT⟩
theorem dig_at {args : Array Value} {s : State} {A : Nat → Prop} {t : Term} {f : Nat → Nat} (hs : ∀ w ∈ dW t f, w.before args s = true) (hA : ∀ a : Nat, a < s.heap.size → ¬ A a) : ∃ q : Nat, t.eval args s none [] s = some (.ref q) ∧ va_T .byte q 100 (fun j => .int (Int32.ofNat (((List.range 100).map f).getD j 0))) A s s.heap := by
  refine va_Tof (by omega) (hs _ (by simp [dW])) (va_eqt (hs _ (by simp [dW]))) (fun j hj => va_eqt (hs _ (by
    have := sE_at (t := t) (w := (List.range 100).map f) (j := j) (by simpa using hj)
    simp only [dW, List.mem_cons]
    exact Or.inr (Or.inr this)))) hA
def s_ci (H : Heap) (a k : Nat) : Int32 := match H[a]? with
  | some ce => (match ce.slots[k]? with
    | some (.int v) => v
    | _ => 0)
  | none => 0
def s_cr (H : Heap) (a k : Nat) : Option Nat := match H[a]? with
  | some ce => (match ce.slots[k]? with
    | some (.ref v) => some v
    | _ => none)
  | none => none
def s_ln (H : Heap) (a : Nat) : Option j_S := match H[a]? with
  | some ce => some (.inl (8, ce.slots.size.toInt32.toNatClampNeg))
  | none => none
/-- the own heap: the script, the String constants, their bytes, the digits -/
def s_h (H : Heap) (b L : Nat) (xs : Nat → Int32) (sA vA : List Nat) (iS : Nat → Nat) : j_H := (fun a => if a = b then some (.inl (7, L)) else if a ∈ sA then some (.inr 0) else if a ∈ vA then s_ln H a else none, fun a k => if a = b then xs k else if a ∈ sA then s_ci H a (iS k) else s_ci H a k, fun _ _ => 0, fun a k => if a ∈ sA then s_cr H a (iS k) else none, fun _ _ => 0, H.size, 0, 0)
theorem ci_at {H : Heap} {a k : Nat} {ce : Cell} {v : Int32} (h1 : H[a]? = some ce) (h2 : ce.slots[k]? = some (.int v)) : s_ci H a k = v := by
  unfold s_ci
  rw [h1]
  dsimp only
  rw [h2]
theorem cr_at {H : Heap} {a k v : Nat} {ce : Cell} (h1 : H[a]? = some ce) (h2 : ce.slots[k]? = some (.ref v)) : s_cr H a k = some v := by
  unfold s_cr
  rw [h1]
  dsimp only
  rw [h2]
/-- a String's cell, by the slots of its class -/
theorem str_cell {args : Array Value} {s : State} {A : Nat → Prop} {z : String × Nat × String} {a v : Nat} {cC : ClassId} {iS : Nat → Nat} (hK : u_Kn s RJ0 TJ0 2 cC iS) (h : strF args s A z a v) : ∃ ce : Cell, s.heap[a]? = some ce ∧ ce.cls = cC ∧ ce.vm.isStatics = false ∧ ce.vm ≠ .unknown ∧ ce.slots[iS 0]? = some (.ref v) ∧ ce.slots[iS 1]? = some (.int 0) := by
  obtain ⟨-, ⟨ce, a1, a2, a3, -⟩, ⟨cf, k, i, f, c2, b1, b2, b3, b4, b5, -⟩, ⟨cf', k', i', f', c3, d1, d2, d3, d4, d5, -⟩, -⟩ := h
  cases Option.some.inj (a1.symm.trans b3)
  cases Option.some.inj (a1.symm.trans d3)
  obtain ⟨e1, e2, -⟩ := hK
  obtain ⟨x1, x2, x3, x4, x5, x6⟩ := e1 0 (by decide)
  obtain ⟨y1, y2, y3, y4, y5, y6⟩ := e1 1 (by decide)
  have x5' : s.fieldFound? "java/lang/String" "value" "[B" = some (x1, x2, x3, x4) := x5
  have y5' : s.fieldFound? "java/lang/String" "coder" "B" = some (y1, y2, y3, y4) := y5
  cases Option.some.inj (x5'.symm.trans d1)
  cases Option.some.inj (y5'.symm.trans b1)
  refine ⟨ce, a1, ?_, a2, b4, by rw [← x6]; exact d5, by rw [← y6]; exact b5⟩
  exact Option.some.inj (a3.symm.trans e2)
theorem no_arr {s : State} {ce : Cell} {cC : ClassId} {ty : FieldType} (hK : ClassAt s RJ0 cC) (h1 : ce.cls = cC) (h2 : s.isArrayOf ce ty) : False := by
  obtain ⟨-, kC, k1, k2⟩ := hK
  obtain ⟨-, k, g1, comp, g2⟩ := h2
  rw [h1] at g1
  cases Option.some.inj (k1.symm.trans g1)
  rw [k2] at g2
  cases g2
theorem no_both {s : State} {ce : Cell} (h1 : s.isArrayOf ce .int) (h2 : s.isArrayOf ce .byte) : False := by
  obtain ⟨-, k, g1, comp, g2⟩ := h1
  obtain ⟨-, k', g1', comp', g2'⟩ := h2
  cases Option.some.inj (g1.symm.trans g1')
  rw [g2] at g2'
  cases g2'
theorem t_len {s : State} {A : Nat → Prop} {v N : Nat} {f : Nat → Value} (hN : N < 2 ^ 31) (h : va_T .byte v N f A s s.heap) : s_ln s.heap v = some (.inl (8, N)) := by
  obtain ⟨ce, c1, c2, c3, c4, c5, -⟩ := h
  unfold s_ln
  rw [c1]
  dsimp only
  rw [c5, show (Int32.ofNat N).toNatClampNeg = N from nI_clamp hN]
end Sta

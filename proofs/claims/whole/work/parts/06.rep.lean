/-! ===== the own heap and the machine's ===== -/
/-- the classes, by number -/
abbrev j_cl : List vw_C := [(RJ0, TJ0, 2), (RJ4, TJ4, 4), (RX0, TX0, 3), (RX1, TX1, 17), (RX2, TX2, 2), (RX3, TX3, 2), (RX4, TX4, 3), (RX5, TX5, 7), (RX6, TX6, 2), (RX7, TX7, 8), (RX8, TX8, 10), (RX9, TX9, 29)]
def j_ty : Nat → Nat → FieldType
  | 0 => tyJ0
  | 1 => tyJ4
  | 2 => tyX0
  | 3 => tyX1
  | 4 => tyX2
  | 5 => tyX3
  | 6 => tyX4
  | 7 => tyX5
  | 8 => tyX6
  | 9 => tyX7
  | 10 => tyX8
  | _ => tyX9
def j_aty : Nat → FieldType
  | 0 => .int
  | 1 => .long
  | 2 => .double
  | 3 => .byte
  | 4 => .object "PacketScheduler$Link"
  | 5 => .object "java/lang/String"
  | 7 => .int
  | _ => .byte
/-- what a field or a place of type ty holds -/
def j_fv (h : j_H) (a : Nat) (ty : FieldType) (k : Nat) : Value := match ty with
  | .long => .long (j_L h a k)
  | .double => .double (j_D h a k)
  | .object _ => va_rf (j_R h a k)
  | .array _ => va_rf (j_R h a k)
  | _ => .int (j_I h a k)
def j_ra (U : State) (cell : Cell) : FieldType → Prop
  | .object C => ∃ (kA : Class) (comp : ClassId), U.vm.classes[cell.cls]? = some kA ∧ kA.kind = .array comp (.object C) ∧ U.vm.findClass C = some comp
  | _ => True
/-- a plain cell -/
def j_pl (ce : Cell) : Prop := ce.vm = .none ∧ ce.monitor = {} ∧ ce.hash = none
/-- an array's size; of a constant's (8) less is known -/
def j_sz (n t k : Nat) : Prop := n ≤ k ∧ k.toInt32 = nI n ∧ (t ≠ 8 → k = n)
theorem j_sz_of {n t k : Nat} (e : k = n) : j_sz n t k := ⟨by omega, by rw [e]; rfl, fun _ => e⟩
/-- an object of the class no. c; of a String (0) less is known: it may be a constant -/
def j_OB (c o : Nat) (cC : ClassId) (N : Nat) (iS : Nat → Nat) (H : Heap) (V : Nat → Value) : Prop :=
  ∃ cell : Cell, H[o]? = some cell ∧ cell.cls = cC ∧ (cell.vm.isStatics = false ∧ cell.vm ≠ .unknown ∧ (c ≠ 0 → cell.vm = .none)) ∧ ∀ k, k < N → cell.slots[iS k]? = some (V k)
theorem j_OB_of {c o : Nat} {cC : ClassId} {N : Nat} {iS : Nat → Nat} {H : Heap} {V : Nat → Value} (h : t_OB o cC N iS H V) : j_OB c o cC N iS H V := by
  obtain ⟨ce, q1, q2, q3, q4⟩ := h
  exact ⟨ce, q1, q2, ⟨by rw [q3]; rfl, by rw [q3]; exact (fun z => by cases z), fun _ => q3⟩, q4⟩
def j_at (D : va_G) (bs : Nat) (U : State) (h : j_H) (H : Heap) (a : Nat) : j_S → Prop
  | .inr c => (c ≠ 0 → bs ≤ a) ∧ ∃ r : vw_C, j_cl[c]? = some r ∧ j_OB c a (D.1 c) r.2.2 (D.2 c) H (fun k => j_fv h a (j_ty c k) k)
  | .inl (t, n) => (t < 7 → bs ≤ a) ∧ n < 2 ^ 31 ∧ ∃ cell : Cell, H[a]? = some cell ∧ U.isArrayOf cell (j_aty t) ∧ j_ra U cell (j_aty t) ∧ (cell.vm ≠ .unknown ∧ (t < 7 → j_pl cell)) ∧ j_sz n t cell.slots.size ∧ ∀ j, j < n → cell.slots[j]? = some (j_fv h a (j_aty t) j)
def j_rep (D : va_G) (bs : Nat) (U : State) (h : j_H) (H : Heap) : Prop := H.size = j_z h ∧ bs ≤ j_z h ∧ ∀ (a : Nat) (s : j_S), j_sh h a = some s → j_at D bs U h H a s
theorem j_ra_moved {u U : State} (hvm : u.vm.Alike U.vm) {cell : Cell} {ty : FieldType} (h : j_ra u cell ty) : j_ra U cell ty := by
  cases ty with
  | object C =>
    obtain ⟨kA, comp, h1, h2, h3⟩ := h
    obtain ⟨k', hk', he⟩ := hvm.2.2 _ _ h1
    exact ⟨k', comp, hk', by rw [he]; exact h2, by rw [hvm.findClass]; exact h3⟩
  | _ => exact trivial
theorem j_at_moved {D : va_G} {bs : Nat} {u U : State} {h : j_H} {H : Heap} {a : Nat} {s : j_S} (hvm : u.vm.Alike U.vm) (h1 : j_at D bs u h H a s) : j_at D bs U h H a s := by
  match s, h1 with
  | .inr c, h1 => exact h1
  | .inl (t, n), h1 =>
    obtain ⟨g0, g1, cell, g2, g3, g4, g5⟩ := h1
    exact ⟨g0, g1, cell, g2, State.isArrayOf_alike hvm g3, j_ra_moved hvm g4, g5⟩
theorem j_rep_moved {D : va_G} {bs : Nat} {u U : State} {h : j_H} {H : Heap} (hvm : u.vm.Alike U.vm) (h1 : j_rep D bs u h H) : j_rep D bs U h H := ⟨h1.1, h1.2.1, fun a s q => j_at_moved hvm (h1.2.2 a s q)⟩
theorem j_at_lt {D : va_G} {bs : Nat} {u : State} {h : j_H} {H : Heap} {a : Nat} {s : j_S} (h1 : j_at D bs u h H a s) : a < H.size := by
  match s, h1 with
  | .inr c, ⟨_, r, _, ce, q, _⟩ => exact (Array.getElem?_eq_some_iff.mp q).1
  | .inl (t, n), ⟨_, _, ce, q, _⟩ => exact (Array.getElem?_eq_some_iff.mp q).1
theorem j_at_kept {D : va_G} {bs : Nat} {U : State} {h h' : j_H} {H H' : Heap} {a : Nat} {s : j_S} (hq : H'[a]? = H[a]?) (hv : ∀ ty k, j_fv h' a ty k = j_fv h a ty k) (h1 : j_at D bs U h H a s) : j_at D bs U h' H' a s := by
  match s, h1 with
  | .inr c, ⟨g0, r, g1, ce, q1, q2, q3, q4⟩ => exact ⟨g0, r, g1, ce, by rw [hq]; exact q1, q2, q3, fun k hk => (q4 k hk).trans (congrArg some (hv (j_ty c k) k).symm)⟩
  | .inl (t, n), ⟨g0, g1, ce, g2, g3, g4, g5, g6, g7⟩ => exact ⟨g0, g1, ce, by rw [hq]; exact g2, g3, g4, g5, g6, fun j hj => by rw [hv]; exact g7 j hj⟩
/-- one cell has changed -/
theorem j_rep_upd {D : va_G} {bs : Nat} {U : State} {h h' : j_H} {H H' : Heap} {a : Nat} {s : j_S} (hR : j_rep D bs U h H) (hs : j_sh h' = j_sh h) (hz : j_z h' = j_z h) (hsa : j_sh h a = some s)
    (hv : ∀ b, b ≠ a → ∀ ty k, j_fv h' b ty k = j_fv h b ty k) (hn : H'.size = H.size) (hq : ∀ q, q ≠ a → H'[q]? = H[q]?) (ha : j_at D bs U h' H' a s) : j_rep D bs U h' H' := by
  refine ⟨by rw [hn, hz]; exact hR.1, by rw [hz]; exact hR.2.1, fun b t hb => ?_⟩
  rw [hs] at hb
  by_cases e : b = a
  · subst e
    cases Option.some.inj (hb.symm.trans hsa)
    exact ha
  · exact j_at_kept (hq b e) (hv b e) (hR.2.2 b t hb)
theorem j_fv_I {h : j_H} {a k b j : Nat} {v : Int32} {ty : FieldType} (e : b ≠ a) : j_fv (j_setI h a k v) b ty j = j_fv h b ty j := by
  cases ty <;> simp [j_fv, j_setI, j_L, j_D, j_R, j_I, j_up, e]
theorem j_fv_L {h : j_H} {a k b j : Nat} {v : Int64} {ty : FieldType} (e : b ≠ a) : j_fv (j_setL h a k v) b ty j = j_fv h b ty j := by
  cases ty <;> simp [j_fv, j_setL, j_L, j_D, j_R, j_I, j_up, e]
theorem j_fv_R {h : j_H} {a k b j : Nat} {v : Option Nat} {ty : FieldType} (e : b ≠ a) : j_fv (j_setR h a k v) b ty j = j_fv h b ty j := by
  cases ty <;> simp [j_fv, j_setR, j_L, j_D, j_R, j_I, j_up, e]
theorem j_fv_D {h : j_H} {a k b j : Nat} {v : UInt64} {ty : FieldType} (e : b ≠ a) : j_fv (j_setD h a k v) b ty j = j_fv h b ty j := by
  cases ty <;> simp [j_fv, j_setD, j_L, j_D, j_R, j_I, j_up, e]
theorem j_fv_row {h : j_H} {a b j : Nat} {g : Nat → Int32} {ty : FieldType} (e : b ≠ a) : j_fv (j_rowI h a g) b ty j = j_fv h b ty j := by
  cases ty <;> simp [j_fv, j_rowI, j_L, j_D, j_R, j_I, j_row, e]
theorem j_fv_new {h : j_H} {b j n : Nat} {s : j_S} {ty : FieldType} (e : b ≠ j_z h) : j_fv (j_new h s n) b ty j = j_fv h b ty j := by
  cases ty <;> simp [j_fv, j_new, j_L, j_D, j_R, j_I, j_row, e]
theorem j_fv_new0 {h : j_H} {j n : Nat} {s : j_S} {ty : FieldType} (hf : ty ≠ .float) : j_fv (j_new h s n) (j_z h) ty j = defaultValue ty := by
  cases ty <;> first | rfl | (simp [j_fv, j_new, j_L, j_D, j_R, j_I, j_row, defaultValue, va_rf]; done) | exact absurd rfl hf
/-! the objects: a field's value, a field written -/
theorem j_rep_obj {D : va_G} {bs : Nat} {U : State} {h : j_H} {H : Heap} {a c : Nat} (hR : j_rep D bs U h H) (hs : j_sh h a = some (.inr c)) : ∃ r : vw_C, j_cl[c]? = some r ∧ j_OB c a (D.1 c) r.2.2 (D.2 c) H (fun k => j_fv h a (j_ty c k) k) := (hR.2.2 a _ hs).2
theorem j_rep_arr8 {D : va_G} {bs : Nat} {U : State} {h : j_H} {H : Heap} {a t n : Nat} (hR : j_rep D bs U h H) (hs : j_sh h a = some (.inl (t, n))) : (t < 7 → bs ≤ a) ∧ n < 2 ^ 31 ∧ ∃ ce : Cell, H[a]? = some ce ∧ U.isArrayOf ce (j_aty t) ∧ j_ra U ce (j_aty t) ∧ (ce.vm ≠ .unknown ∧ (t < 7 → j_pl ce)) ∧ j_sz n t ce.slots.size ∧ ∀ j, j < n → ce.slots[j]? = some (j_fv h a (j_aty t) j) := hR.2.2 a _ hs
theorem j_rep_arr {D : va_G} {bs : Nat} {U : State} {h : j_H} {H : Heap} {a t n : Nat} (hR : j_rep D bs U h H) (hs : j_sh h a = some (.inl (t, n))) (h8 : t ≠ 8 := by decide) : (t < 7 → bs ≤ a) ∧ n < 2 ^ 31 ∧ ∃ ce : Cell, H[a]? = some ce ∧ U.isArrayOf ce (j_aty t) ∧ j_ra U ce (j_aty t) ∧ (ce.vm ≠ .unknown ∧ (t < 7 → j_pl ce)) ∧ ce.slots.size = n ∧ ∀ j, j < n → ce.slots[j]? = some (j_fv h a (j_aty t) j) := by
  obtain ⟨a1, a2, ce, a3, a4, a5, a6, a7, a8⟩ := j_rep_arr8 hR hs
  exact ⟨a1, a2, ce, a3, a4, a5, a6, a7.2.2 h8, a8⟩
/-- a field of an object has been written: the new value is w -/
theorem j_rep_put {D : va_G} {bs : Nat} {U : State} {h h' : j_H} {H H' : Heap} {a c k : Nat} {r : vw_C} {ce : Cell} {w : Value} (hR : j_rep D bs U h H) (hs : j_sh h a = some (.inr c)) (hr : j_cl[c]? = some r) (hk : k < r.2.2) (hap : ∀ x y, x < r.2.2 → y < r.2.2 → x ≠ y → D.2 c x ≠ D.2 c y)
    (q1 : H[a]? = some ce) (q2 : ce.cls = D.1 c) (q3 : ce.vm = .none) (q4 : ∀ j, j < r.2.2 → ce.slots[D.2 c j]? = some (j_fv h a (j_ty c j) j))
    (e1 : H'[a]? = some (ce.setSlot (D.2 c k) w)) (e2 : H'.size = H.size) (e3 : ∀ q, q ≠ a → H'[q]? = H[q]?)
    (hs' : j_sh h' = j_sh h) (hz' : j_z h' = j_z h) (hv : ∀ b, b ≠ a → ∀ ty j, j_fv h' b ty j = j_fv h b ty j) (hvk : j_fv h' a (j_ty c k) k = w) (hvj : ∀ j, j ≠ k → j_fv h' a (j_ty c j) j = j_fv h a (j_ty c j) j) : j_rep D bs U h' H' := by
  refine j_rep_upd hR hs' hz' hs hv e2 e3 ⟨(hR.2.2 a _ hs).1, r, hr, j_OB_of (t_OB.to (V := updV (fun j => j_fv h a (j_ty c j) j) k w) ⟨_, e1, q2, q3, t_set q4 hap hk w⟩ (fun j _ => ?_))⟩
  by_cases e : j = k
  · subst e
    simp [updV, hvk]
  · simp [updV, e, hvj j e]
/-- a place of an array has been written -/
theorem j_rep_ast {D : va_G} {bs : Nat} {U : State} {h h' : j_H} {H H' : Heap} {a t n i : Nat} {ce : Cell} {w : Value} (hR : j_rep D bs U h H) (hs : j_sh h a = some (.inl (t, n))) (hi : i < n)
    (q2 : U.isArrayOf ce (j_aty t)) (q3 : j_ra U ce (j_aty t)) (q4 : ce.vm ≠ .unknown ∧ (t < 7 → j_pl ce)) (q5 : ce.slots.size = n) (q6 : ∀ j, j < n → ce.slots[j]? = some (j_fv h a (j_aty t) j))
    (e1 : H'[a]? = some (ce.setSlot i w)) (e2 : H'.size = H.size) (e3 : ∀ q, q ≠ a → H'[q]? = H[q]?)
    (hs' : j_sh h' = j_sh h) (hz' : j_z h' = j_z h) (hv : ∀ b, b ≠ a → ∀ ty j, j_fv h' b ty j = j_fv h b ty j) (hvk : j_fv h' a (j_aty t) i = w) (hvj : ∀ j, j ≠ i → j_fv h' a (j_aty t) j = j_fv h a (j_aty t) j) : j_rep D bs U h' H' := by
  have g := j_rep_arr8 hR hs
  refine j_rep_upd hR hs' hz' hs hv e2 e3 ⟨g.1, g.2.1, ce.setSlot i w, e1, q2, q3, q4, j_sz_of (by simp [Cell.setSlot, q5]), fun j hj => ?_⟩
  by_cases e : j = i
  · subst e
    simp [Cell.setSlot, Array.getElem?_setIfInBounds, q5, hj, hvk]
  · simp only [Cell.setSlot, Array.getElem?_setIfInBounds]
    rw [if_neg (Ne.symm e), hvj j e]
    exact q6 j hj
/-- a new cell -/
theorem j_rep_new {D : va_G} {bs : Nat} {U : State} {h : j_H} {H H' : Heap} {s : j_S} {n : Nat} (hR : j_rep D bs U h H) (e2 : H'.size = j_z h + 1) (e3 : ∀ q, q < j_z h → H'[q]? = H[q]?) (ha : j_at D bs U (j_new h s n) H' (j_z h) s) : j_rep D bs U (j_new h s n) H' := by
  refine ⟨e2, Nat.le_succ_of_le hR.2.1, fun b t hb => ?_⟩
  by_cases e : b = j_z h
  · subst e
    have : s = t := by simpa [j_sh, j_new] using hb
    subst this
    exact ha
  · have hb' : j_sh h b = some t := by simpa [j_sh, j_new, e] using hb
    have h1 := hR.2.2 b t hb'
    have hl : b < j_z h := by rw [← hR.1]; exact j_at_lt h1
    exact j_at_kept (e3 b hl) (fun ty k => j_fv_new e) h1

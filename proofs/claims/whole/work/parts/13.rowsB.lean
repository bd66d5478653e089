/-! ===== the machine follows: fields ===== -/
/-- the classes' tables: words, types, names -/
def j_clok (c : Nat) (r : vw_C) : Prop := (∀ w ∈ u_ws r.1 r.2.1 r.2.2, w ∈ j_tbl) ∧ (∀ k, k < r.2.2 → parseFieldDescriptor (r.2.1 k).2.2.1 = some (j_ty c k)) ∧ ∀ a, a < r.2.2 → ∀ b, b < r.2.2 → a ≠ b → (r.2.1 a).2.1 ≠ (r.2.1 b).2.1
theorem j_narrow {ty : FieldType} {k : Nat} {n : Int32} (hk : (ty = .int ∧ k = 0) ∨ (ty = .boolean ∧ k = 1) ∨ (ty = .byte ∧ k = 2) ∨ (ty = .char ∧ k = 3)) (h : j_nar k n) : narrow ty (.int n) = .int n ∧ fits ty (.int n) = true := by
  rcases hk with ⟨rfl, rfl⟩ | ⟨rfl, rfl⟩ | ⟨rfl, rfl⟩ | ⟨rfl, rfl⟩
  · exact ⟨rfl, rfl⟩
  · rcases h with rfl | rfl <;> exact ⟨rfl, rfl⟩
  · have h : n.toInt8.toInt32 = n := h
    constructor
    · rw [← h]; exact pk_nb n
    · rw [← h]; exact pk_fb n
  · have h : (n.toUInt32 % 65536).toInt32 = n := h
    constructor
    · rw [← h]; exact pk_nc n
    · rw [← h]; exact pk_fc n
section JRowsB
variable {p : Program} {l : Launch} {e : Env} {R : Room} {s : State} {m : MethodId} {args : Array Value} {below : List Frame} {meth : Method} {c : Code}
variable {D : va_G} {bs : Nat} {E : j_E} {h0 : j_H} {d : Nat} {own : String} {cc : ByteArray} {nL : Nat} {ret : Option FieldType} {QQ : State → Prop}
/-- a field is read: the value is what the own heap says -/
theorem j_getf (X : j_Ctx p l R s m args meth c D bs E h0 d own cc nL ret) {pc x y idx a : Nat} {lv r : List Value} {h : j_H} {cr : vw_C} {v : Value} (hcr : j_cl[x]? = some cr) (hok : j_clok x cr) (hy : y < cr.2.2) (hlk : Cond.fieldLink own idx (cr.2.1 y).1 (cr.2.1 y).2.1 (cr.2.1 y).2.2.1 ∈ j_tbl) (hsh : j_sh h a = some (.inr x)) (hv : j_fv h a (j_ty x y) y = v)
    (hd : decode cc pc = .ok (.getfield idx, 3)) (k : j_W p l e R s m args below meth c D bs E h0 nL QQ (pc + 3) lv (v :: r) h) : j_W p l e R s m args below meth c D bs E h0 nL QQ pc lv (.ref a :: r) h := by
  obtain ⟨hex, hb, hml, hr, hown, hts, henv, hRm, hlocks, htab, hst, hbs⟩ := X
  intro ls H locs hl hR hS hc
  obtain ⟨r2, hr2, ce, q1, q2, q3, q4⟩ := j_rep_obj hR hsh
  cases Option.some.inj (hcr.symm.trans hr2)
  obtain ⟨hSl, hfc, kC, hkC, hkind⟩ := henv.1.1 x _ hcr
  obtain ⟨cf, kf, fi, f, hi, hsl⟩ := hSl y hy
  have hstt := (u_facts hfc hkC (u_lays hts hok.1 hy) hi).1
  exact W.getf hex hb hown (hts _ hlk) hi hstt q1 q3.2.1 (by rw [hsl, q4 y hy]; show some (j_fv h a (j_ty x y) y) = some v; rw [hv]) (g := F0 m pc ls (.ref a :: r)) rfl rfl hd (k ls H locs hl hR hS hc)
/-- a field is written -/
theorem j_putf (X : j_Ctx p l R s m args meth c D bs E h0 d own cc nL ret) {ini : Bool} (hini : ini = true → meth.name = "<init>") {pc x y idx a : Nat} {lv r : List Value} {h h' : j_H} {cr : vw_C} {v : Value} (hx0 : x ≠ 0) (hcr : j_cl[x]? = some cr) (hok : j_clok x cr) (hy : y < cr.2.2) (hlk : Cond.fieldLink own idx (cr.2.1 y).1 (cr.2.1 y).2.1 (cr.2.1 y).2.2.1 ∈ j_tbl) (hfin : (cr.2.1 y).2.2.2 = false ∨ (ini = true ∧ (cr.2.1 y).1 = own))
    (hsh : j_sh h a = some (.inr x)) (hn : narrow (j_ty x y) v = v) (hf : fits (j_ty x y) v = true) (hd : decode cc pc = .ok (.putfield idx, 3))
    (hs' : j_sh h' = j_sh h) (hz' : j_z h' = j_z h) (hc' : j_c h' = j_c h) (hk' : j_k h' = j_k h) (hv : ∀ b, b ≠ a → ∀ ty j, j_fv h' b ty j = j_fv h b ty j) (hvk : j_fv h' a (j_ty x y) y = v) (hvj : ∀ j, j ≠ y → j_fv h' a (j_ty x j) j = j_fv h a (j_ty x j) j)
    (k : j_W p l e R s m args below meth c D bs E h0 nL QQ (pc + 3) lv r h') : j_W p l e R s m args below meth c D bs E h0 nL QQ pc lv (v :: .ref a :: r) h := by
  obtain ⟨hex, hb, hml, hr, hown, hts, henv, hRm, hlocks, htab, hst, hbs⟩ := X
  intro ls H locs hl hR hS hc
  obtain ⟨r2, hr2, ce, q1, q2, q3, q4⟩ := j_rep_obj hR hsh
  cases Option.some.inj (hcr.symm.trans hr2)
  have hap := va_apart (own := own) hts hok.1 (j_ty x) hok.2.1 hok.2.2 henv.1 hcr
  obtain ⟨hSl, hfc, kC, hkC, hkind⟩ := henv.1.1 x _ hcr
  obtain ⟨cf, kf, fi, f, hi, hsl⟩ := hSl y hy
  have hlay := hts _ (hok.1 _ (u_in_lay hy))
  have hstt := (u_facts hfc hkC (u_lays hts hok.1 hy) hi).1
  have hA : j_A bs a := (hR.2.2 a _ hsh).1 hx0
  have cont : ∀ H' : Heap, H'[a]? = some (ce.setSlot f.slot v) → H'.size = H.size → (∀ q, q ≠ a → H'[q]? = H[q]?) → W p l e R s m args below meth c H' (locs ++ [⟨a, f.slot⟩]) (j_c h - j_c h0) (j_k h - j_k h0) QQ (F0 m (pc + 3) ls r) := by
    intro H' e1 e2 e3
    rw [hsl] at e1
    have hR' := j_rep_put hR hsh hcr hy hap q1 q2 (q3.2.2 hx0) q4 e1 e2 e3 hs' hz' hv hvk hvj
    have kk := k ls H' (locs ++ [⟨a, f.slot⟩]) hl hR' (hS.put e2 e3 hA) (by unfold j_cn at hc ⊢; rw [hc', hk']; exact hc)
    rw [hc', hk'] at kk
    exact kk
  unfold u_lay at hlay
  by_cases hfl : (cr.2.1 y).2.2.2 = true
  · rw [if_pos hfl] at hlay
    obtain ⟨hi1, hdecl⟩ : ini = true ∧ (cr.2.1 y).1 = own := hfin.resolve_left (by rw [hfl]; decide)
    have hcf : m.cls = cf := by
      obtain ⟨_, _, c', _, _, _, -, -, hf', -, -, -, hown2, -⟩ := Cond.laysFinal_spec hlay
      have e1 : c' = cf := by have := hi.symm.trans hf'; simp at this; exact this.1.symm
      rw [hdecl] at hown2
      rw [← e1]; exact Option.some.inj (hown.symm.trans hown2)
    have h6 := u_fits hfc hkC hkind (Or.inr hlay) hi (hok.2.1 y hy) hn hf
    exact W.putFinK hex hb hown (hts _ hlk) hi hstt hcf (hini hi1) (by rw [q2]; exact h6) q1 (q3.2.2 hx0) (by rw [hsl]; exact k2_hasslot (q4 y hy)) (g := F0 m pc ls (v :: .ref a :: r)) rfl rfl hd cont
  · rw [if_neg hfl] at hlay
    have h6 := u_store hfc hkC hkind hlay hi (hok.2.1 y hy) hn hf
    exact W.putK hex hb (f := f) ⟨hown, hts _ hlk, ⟨_, _, _, hi⟩, hstt⟩ (by rw [q2]; exact h6) q1 (q3.2.2 hx0) (by rw [hsl]; exact k2_hasslot (q4 y hy)) (g := F0 m pc ls (v :: .ref a :: r)) rfl rfl hd cont
theorem j_lt {i : Int32} {n : Nat} (h : vp_in i n) : i.toNatClampNeg < n := Nat.not_le.mp fun q => h (Or.inr q)
/-- arrays: a place is read -/
theorem j_iald (X : j_Ctx p l R s m args meth c D bs E h0 d own cc nL ret) {pc a n t : Nat} {i : Int32} {lv r : List Value} {h : j_H} (ht : t = 0 ∨ t = 7) (hsh : j_sh h a = some (.inl (t, n))) (hin : vp_in i n) (hd : decode cc pc = .ok (.iaload, 1))
    (k : j_W p l e R s m args below meth c D bs E h0 nL QQ (pc + 1) lv (.int (j_I h a i.toNatClampNeg) :: r) h) : j_W p l e R s m args below meth c D bs E h0 nL QQ pc lv (.int i :: .ref a :: r) h := by
  obtain ⟨hex, hb, -⟩ := X
  intro ls H locs hl hR hS hc
  obtain ⟨-, -, ce, c1, c2, -, c4, c5, c6⟩ := j_rep_arr8 hR hsh
  have ha : j_aty t = .int := by rcases ht with rfl | rfl <;> rfl
  rw [ha] at c2 c6
  exact W.iald (v := .int (j_I h a i.toNatClampNeg)) hex hb c1 c2 c4.1 (fun z => hin (z.imp_right (fun y => Nat.le_trans c5.1 y))) (c6 _ (j_lt hin)) (g := F0 m pc ls (.int i :: .ref a :: r)) rfl rfl hd (k ls H locs hl hR hS hc)
theorem j_bald (X : j_Ctx p l R s m args meth c D bs E h0 d own cc nL ret) {pc a n t : Nat} {i : Int32} {lv r : List Value} {h : j_H} (ht : t = 3 ∨ t = 8) (hsh : j_sh h a = some (.inl (t, n))) (hin : vp_in i n) (hd : decode cc pc = .ok (.baload, 1))
    (k : j_W p l e R s m args below meth c D bs E h0 nL QQ (pc + 1) lv (.int (j_I h a i.toNatClampNeg) :: r) h) : j_W p l e R s m args below meth c D bs E h0 nL QQ pc lv (.int i :: .ref a :: r) h := by
  obtain ⟨hex, hb, -⟩ := X
  intro ls H locs hl hR hS hc
  obtain ⟨-, -, ce, c1, c2, -, c4, c5, c6⟩ := j_rep_arr8 hR hsh
  have ha : j_aty t = .byte := by rcases ht with rfl | rfl <;> rfl
  rw [ha] at c2 c6
  exact W.bald (v := .int (j_I h a i.toNatClampNeg)) hex hb c1 c2 c4.1 (fun z => hin (z.imp_right (fun y => Nat.le_trans c5.1 y))) (c6 _ (j_lt hin)) (g := F0 m pc ls (.int i :: .ref a :: r)) rfl rfl hd (k ls H locs hl hR hS hc)
theorem j_lald (X : j_Ctx p l R s m args meth c D bs E h0 d own cc nL ret) {pc a n : Nat} {i : Int32} {lv r : List Value} {h : j_H} (hsh : j_sh h a = some (.inl (1, n))) (hin : vp_in i n) (hd : decode cc pc = .ok (.laload, 1))
    (k : j_W p l e R s m args below meth c D bs E h0 nL QQ (pc + 1) lv (.long (j_L h a i.toNatClampNeg) :: r) h) : j_W p l e R s m args below meth c D bs E h0 nL QQ pc lv (.int i :: .ref a :: r) h := by
  obtain ⟨hex, hb, -⟩ := X
  intro ls H locs hl hR hS hc
  obtain ⟨-, -, ce, c1, c2, -, c4, c5, c6⟩ := j_rep_arr hR hsh
  exact W.lald (v := .long (j_L h a i.toNatClampNeg)) hex hb c1 c2 c4.1 (by rw [c5]; exact hin) (c6 _ (j_lt hin)) (g := F0 m pc ls (.int i :: .ref a :: r)) rfl rfl hd (k ls H locs hl hR hS hc)
theorem j_dald (X : j_Ctx p l R s m args meth c D bs E h0 d own cc nL ret) {pc a n : Nat} {i : Int32} {lv r : List Value} {h : j_H} (hsh : j_sh h a = some (.inl (2, n))) (hin : vp_in i n) (hd : decode cc pc = .ok (.daload, 1))
    (k : j_W p l e R s m args below meth c D bs E h0 nL QQ (pc + 1) lv (.double (j_D h a i.toNatClampNeg) :: r) h) : j_W p l e R s m args below meth c D bs E h0 nL QQ pc lv (.int i :: .ref a :: r) h := by
  obtain ⟨hex, hb, -⟩ := X
  intro ls H locs hl hR hS hc
  obtain ⟨-, -, ce, c1, c2, -, c4, c5, c6⟩ := j_rep_arr hR hsh
  exact W.dald (v := .double (j_D h a i.toNatClampNeg)) hex hb c1 c2 c4.1 (by rw [c5]; exact hin) (c6 _ (j_lt hin)) (g := F0 m pc ls (.int i :: .ref a :: r)) rfl rfl hd (k ls H locs hl hR hS hc)
theorem j_aald (X : j_Ctx p l R s m args meth c D bs E h0 d own cc nL ret) {pc a n t : Nat} {i : Int32} {lv r : List Value} {h : j_H} {C : String} (ht : j_aty t = .object C) (hsh : j_sh h a = some (.inl (t, n))) (hin : vp_in i n) (hd : decode cc pc = .ok (.aaload, 1))
    (k : j_W p l e R s m args below meth c D bs E h0 nL QQ (pc + 1) lv (va_rf (j_R h a i.toNatClampNeg) :: r) h) : j_W p l e R s m args below meth c D bs E h0 nL QQ pc lv (.int i :: .ref a :: r) h := by
  obtain ⟨hex, hb, -⟩ := X
  intro ls H locs hl hR hS hc
  obtain ⟨-, -, ce, c1, c2, -, c4, c5, c6⟩ := j_rep_arr8 hR hsh
  rw [ht] at c2 c6
  exact W.aald (v := va_rf (j_R h a i.toNatClampNeg)) hex hb c1 c2 rfl c4.1 (fun z => hin (z.imp_right (fun y => Nat.le_trans c5.1 y))) (c6 _ (j_lt hin)) (g := F0 m pc ls (.int i :: .ref a :: r)) rfl rfl hd (k ls H locs hl hR hS hc)
theorem j_alen (X : j_Ctx p l R s m args meth c D bs E h0 d own cc nL ret) {pc a n t : Nat} {lv r : List Value} {h : j_H} (hsh : j_sh h a = some (.inl (t, n))) (hd : decode cc pc = .ok (.arraylength, 1))
    (k : j_W p l e R s m args below meth c D bs E h0 nL QQ (pc + 1) lv (.int (nI n) :: r) h) : j_W p l e R s m args below meth c D bs E h0 nL QQ pc lv (.ref a :: r) h := by
  obtain ⟨hex, hb, -⟩ := X
  intro ls H locs hl hR hS hc
  obtain ⟨-, -, ce, c1, c2, -, c4, c5, c6⟩ := j_rep_arr8 hR hsh
  exact W.alen (n := nI n) hex hb c1 c2 c5.2.1 (g := F0 m pc ls (.ref a :: r)) rfl rfl hd (k ls H locs hl hR hS hc)
/-- a place has been written: what goes on -/
theorem j_goes {pc a n t i : Nat} {ls : Array Slot} {lv r : List Value} {h h' : j_H} {H : Heap} {locs : List Loc} {ce : Cell} {w : Value} (ht : t < 7) (hl : lv_has ls nL (j_as 0 lv)) (hR : j_rep D bs s h H) (hS : va_S (j_A bs) s.heap H locs) (hc : j_cn E h0 h) (hsh : j_sh h a = some (.inl (t, n))) (hi : i < n)
    (q2 : s.isArrayOf ce (j_aty t)) (q3 : j_ra s ce (j_aty t)) (q4 : ce.vm ≠ .unknown ∧ (t < 7 → j_pl ce)) (q5 : ce.slots.size = n) (q6 : ∀ j, j < n → ce.slots[j]? = some (j_fv h a (j_aty t) j))
    (hs' : j_sh h' = j_sh h) (hz' : j_z h' = j_z h) (hc' : j_c h' = j_c h) (hk' : j_k h' = j_k h) (hv : ∀ b, b ≠ a → ∀ ty j, j_fv h' b ty j = j_fv h b ty j) (hvk : j_fv h' a (j_aty t) i = w) (hvj : ∀ j, j ≠ i → j_fv h' a (j_aty t) j = j_fv h a (j_aty t) j)
    (k : j_W p l e R s m args below meth c D bs E h0 nL QQ pc lv r h') : ∀ H' : Heap, H'[a]? = some (ce.setSlot i w) → H'.size = H.size → (∀ q, q ≠ a → H'[q]? = H[q]?) → W p l e R s m args below meth c H' (locs ++ [⟨a, i⟩]) (j_c h - j_c h0) (j_k h - j_k h0) QQ (F0 m pc ls r) := by
  intro H' e1 e2 e3
  have hR' := j_rep_ast hR hsh hi q2 q3 q4 q5 q6 e1 e2 e3 hs' hz' hv hvk hvj
  have kk := k ls H' (locs ++ [⟨a, i⟩]) hl hR' (hS.put e2 e3 ((j_rep_arr8 hR hsh).1 ht)) (by unfold j_cn at hc ⊢; rw [hc', hk']; exact hc)
  rw [hc', hk'] at kk
  exact kk
theorem j_iast (X : j_Ctx p l R s m args meth c D bs E h0 d own cc nL ret) {pc a n : Nat} {i w : Int32} {lv r : List Value} {h : j_H} (hsh : j_sh h a = some (.inl (0, n))) (hin : vp_in i n) (hd : decode cc pc = .ok (.iastore, 1))
    (k : j_W p l e R s m args below meth c D bs E h0 nL QQ (pc + 1) lv r (j_setI h a i.toNatClampNeg w)) : j_W p l e R s m args below meth c D bs E h0 nL QQ pc lv (.int w :: .int i :: .ref a :: r) h := by
  obtain ⟨hex, hb, -⟩ := X
  intro ls H locs hl hR hS hc
  obtain ⟨-, -, ce, c1, c2, c3, c4, c5, c6⟩ := j_rep_arr hR hsh
  exact W.iast hex hb c1 c2 c4.1 (by rw [c5]; exact hin) (g := F0 m pc ls (.int w :: .int i :: .ref a :: r)) rfl rfl hd (j_goes (h' := j_setI h a i.toNatClampNeg w) (by decide) hl hR hS hc hsh (j_lt hin) c2 c3 c4 c5 c6 rfl rfl rfl rfl (fun b hb ty j => j_fv_I hb) (by simp [j_fv, j_aty, j_setI, j_I, j_up]) (fun j hj => by simp [j_fv, j_aty, j_setI, j_I, j_up, hj]) k)
theorem j_bast (X : j_Ctx p l R s m args meth c D bs E h0 d own cc nL ret) {pc a n : Nat} {i w : Int32} {lv r : List Value} {h : j_H} (hsh : j_sh h a = some (.inl (3, n))) (hin : vp_in i n) (hd : decode cc pc = .ok (.bastore, 1))
    (k : j_W p l e R s m args below meth c D bs E h0 nL QQ (pc + 1) lv r (j_setI h a i.toNatClampNeg w.toInt8.toInt32)) : j_W p l e R s m args below meth c D bs E h0 nL QQ pc lv (.int w :: .int i :: .ref a :: r) h := by
  obtain ⟨hex, hb, -⟩ := X
  intro ls H locs hl hR hS hc
  obtain ⟨-, -, ce, c1, c2, c3, c4, c5, c6⟩ := j_rep_arr hR hsh
  exact W.bast hex hb c1 c2 c4.1 (by rw [c5]; exact hin) (g := F0 m pc ls (.int w :: .int i :: .ref a :: r)) rfl rfl hd (j_goes (h' := j_setI h a i.toNatClampNeg w.toInt8.toInt32) (by decide) hl hR hS hc hsh (j_lt hin) c2 c3 c4 c5 c6 rfl rfl rfl rfl (fun b hb ty j => j_fv_I hb) (by rw [narrow_byte]; simp [j_fv, j_aty, j_setI, j_I, j_up]) (fun j hj => by simp [j_fv, j_aty, j_setI, j_I, j_up, hj]) k)
theorem j_last (X : j_Ctx p l R s m args meth c D bs E h0 d own cc nL ret) {pc a n : Nat} {i : Int32} {w : Int64} {lv r : List Value} {h : j_H} (hsh : j_sh h a = some (.inl (1, n))) (hin : vp_in i n) (hd : decode cc pc = .ok (.lastore, 1))
    (k : j_W p l e R s m args below meth c D bs E h0 nL QQ (pc + 1) lv r (j_setL h a i.toNatClampNeg w)) : j_W p l e R s m args below meth c D bs E h0 nL QQ pc lv (.long w :: .int i :: .ref a :: r) h := by
  obtain ⟨hex, hb, -⟩ := X
  intro ls H locs hl hR hS hc
  obtain ⟨-, -, ce, c1, c2, c3, c4, c5, c6⟩ := j_rep_arr hR hsh
  exact W.last hex hb c1 c2 c4.1 (by rw [c5]; exact hin) (g := F0 m pc ls (.long w :: .int i :: .ref a :: r)) rfl rfl hd (j_goes (h' := j_setL h a i.toNatClampNeg w) (by decide) hl hR hS hc hsh (j_lt hin) c2 c3 c4 c5 c6 rfl rfl rfl rfl (fun b hb ty j => j_fv_L hb) (by simp [j_fv, j_aty, j_setL, j_L, j_up]) (fun j hj => by simp [j_fv, j_aty, j_setL, j_L, j_up, hj]) k)
theorem j_dast (X : j_Ctx p l R s m args meth c D bs E h0 d own cc nL ret) {pc a n : Nat} {i : Int32} {w : UInt64} {lv r : List Value} {h : j_H} (hsh : j_sh h a = some (.inl (2, n))) (hin : vp_in i n) (hd : decode cc pc = .ok (.dastore, 1))
    (k : j_W p l e R s m args below meth c D bs E h0 nL QQ (pc + 1) lv r (j_setD h a i.toNatClampNeg w)) : j_W p l e R s m args below meth c D bs E h0 nL QQ pc lv (.double w :: .int i :: .ref a :: r) h := by
  obtain ⟨hex, hb, -⟩ := X
  intro ls H locs hl hR hS hc
  obtain ⟨-, -, ce, c1, c2, c3, c4, c5, c6⟩ := j_rep_arr hR hsh
  exact W.dast hex hb c1 c2 c4.1 (by rw [c5]; exact hin) (g := F0 m pc ls (.double w :: .int i :: .ref a :: r)) rfl rfl hd (j_goes (h' := j_setD h a i.toNatClampNeg w) (by decide) hl hR hS hc hsh (j_lt hin) c2 c3 c4 c5 c6 rfl rfl rfl rfl (fun b hb ty j => j_fv_D hb) (by simp [j_fv, j_aty, j_setD, j_D, j_up]) (fun j hj => by simp [j_fv, j_aty, j_setD, j_D, j_up, hj]) k)
theorem j_aast (X : j_Ctx p l R s m args meth c D bs E h0 d own cc nL ret) {pc a n t w y : Nat} {i : Int32} {lv r : List Value} {h : j_H} {cr : vw_C} (ht7 : t < 7) (hcr : j_cl[y]? = some cr) (ht : j_aty t = .object cr.1) (hsh : j_sh h a = some (.inl (t, n))) (hin : vp_in i n) (hw : j_sh h w = some (.inr y)) (hd : decode cc pc = .ok (.aastore, 1))
    (k : j_W p l e R s m args below meth c D bs E h0 nL QQ (pc + 1) lv r (j_setR h a i.toNatClampNeg (some w))) : j_W p l e R s m args below meth c D bs E h0 nL QQ pc lv (.ref w :: .int i :: .ref a :: r) h := by
  obtain ⟨hex, hb, hml, hr, hown, hts, henv, hRm, hlocks, htab, hst, hbs⟩ := X
  intro ls H locs hl hR hS hc
  obtain ⟨-, -, ce, c1, c2, c3, c4, c5, c6⟩ := j_rep_arr hR hsh (by omega)
  obtain ⟨r2, hr2, cw, w1, w2, w3, w4⟩ := j_rep_obj hR hw
  cases Option.some.inj (hcr.symm.trans hr2)
  obtain ⟨-, hfc, kC, hkC, hkind⟩ := henv.1.1 y _ hcr
  have c3' := c3
  rw [ht] at c3'
  obtain ⟨kA, comp, k1, k2, k3⟩ := c3'
  have hcomp : comp = D.1 y := Option.some.inj (k3.symm.trans hfc)
  subst hcomp
  exact W.aast hex hb c1 (fun q => c2.1 q) c4.1 k1 k2 rfl hkC ⟨fun z => hin (Or.inl z), by rw [c5]; exact j_lt hin⟩ w1 (fun q z => by
    have y := w3.1
    rw [z] at y
    cases y) (by rw [w2]; exact hkC) (by rw [w2]; exact va_asg _ _) (g := F0 m pc ls (.ref w :: .int i :: .ref a :: r)) rfl rfl hd (j_goes (h' := j_setR h a i.toNatClampNeg (some w)) ht7 hl hR hS hc hsh (j_lt hin) c2 c3 c4 c5 c6 rfl rfl rfl rfl (fun b hb ty j => j_fv_R hb) (by simp [ht, j_fv, j_setR, j_R, j_up, va_rf]) (fun j hj => by simp [ht, j_fv, j_setR, j_R, j_up, hj]) k)
end JRowsB

/-! ===== the machine follows: new cells, ends, members of the machine's own, throws ===== -/
section JRowsC
variable {p : Program} {l : Launch} {e : Env} {R : Room} {s : State} {m : MethodId} {args : Array Value} {below : List Frame} {meth : Method} {c : Code}
variable {D : va_G} {bs : Nat} {E : j_E} {h0 : j_H} {d : Nat} {own : String} {cc : ByteArray} {nL : Nat} {ret : Option FieldType} {QQ : State → Prop}
theorem j_newgo {pc n : Nat} {ls : Array Slot} {lv st : List Value} {h : j_H} {sp : j_S} {H H' : Heap} {locs : List Loc} (hl : lv_has ls nL (j_as 0 lv)) (hR : j_rep D bs s h H) (hS : va_S (j_A bs) s.heap H locs) (hc : j_cn E h0 h) (hc1 : j_c h + 1 ≤ E.2.1) (hc2 : j_k h + n ≤ E.2.2)
    (z1 : H'.size = j_z h + 1) (o1 : ∀ q, q < j_z h → H'[q]? = H[q]?) (ha : j_at D bs s (j_new h sp n) H' (j_z h) sp) (k : j_W p l e R s m args below meth c D bs E h0 nL QQ pc lv st (j_new h sp n)) : W p l e R s m args below meth c H' locs (j_c h - j_c h0 + 1) (j_k h - j_k h0 + n) QQ (F0 m pc ls st) := by
  obtain ⟨a1, a2, a3, a4⟩ := hc
  have hS' : va_S (j_A bs) s.heap H' locs := ⟨Nat.le_trans hS.1 (by rw [z1, hR.1]; omega), fun q g1 g2 => (o1 q (by rw [← hR.1]; exact Nat.lt_of_lt_of_le g1 hS.1)).trans (hS.2.1 q g1 g2), hS.2.2⟩
  have kk := k ls H' locs hl (j_rep_new hR z1 o1 ha) hS' ⟨Nat.le_succ_of_le a1, hc1, Nat.le_trans a3 (Nat.le_add_right _ _), hc2⟩
  have e1 : j_c (j_new h sp n) - j_c h0 = j_c h - j_c h0 + 1 := by show j_c h + 1 - j_c h0 = _; omega
  have e2 : j_k (j_new h sp n) - j_k h0 = j_k h - j_k h0 + n := by show j_k h + n - j_k h0 = _; omega
  rw [e1, e2] at kk
  exact kk
theorem j_newc (X : j_Ctx p l R s m args meth c D bs E h0 d own cc nL ret) {pc x idx n : Nat} {lv st : List Value} {h : j_H} {cr : vw_C} (hcr : j_cl[x]? = some cr) (hok : j_clok x cr) (hn : cr.2.2 = n) (hnf : ∀ j, j < n → j_ty x j ≠ .float)
    (w1 : Cond.classLink own idx cr.1 ∈ j_tbl) (w2 : Cond.instantiable cr.1 n ∈ j_tbl) (w3 : Cond.initialized cr.1 ∈ j_tbl) (hc1 : j_c h + 1 ≤ E.2.1) (hc2 : j_k h + n ≤ E.2.2) (hd : decode cc pc = .ok (.new idx, 3))
    (k : j_W p l e R s m args below meth c D bs E h0 nL QQ (pc + 3) lv (.ref (j_z h) :: st) (j_new h (.inr x) n)) : j_W p l e R s m args below meth c D bs E h0 nL QQ pc lv st h := by
  obtain ⟨hex, hb, hml, hr, hown, hts, henv, hRm, hlocks, htab, hst, hbs⟩ := X
  intro ls H locs hl hR hS hc
  subst hn
  have hKn := henv.1.1 x _ hcr
  have hc' := hc
  obtain ⟨a1, a2, a3, a4⟩ := hc'
  refine W.newcK hex hb hown (hts _ w1) (hts _ w2) (hts _ w3) (g := F0 m pc ls st) rfl hd (by rw [hRm]; simp only [j_room]; omega) (by rw [hRm]; simp only [j_room]; omega) hKn.2.1 hR.1 fun H1 kC hkC e1 z1 o1 => ?_
  exact j_newgo (sp := .inr x) hl hR hS hc hc1 hc2 z1 o1 ⟨fun _ => hR.2.1, cr, hcr, j_OB_of ((u_born (j_ty x) hts hok.1 hKn hkC e1 hok.2.1).to (fun j hj => (j_fv_new0 (hnf j hj)).symm))⟩ k
theorem j_newa (X : j_Ctx p l R s m args meth c D bs E h0 d own cc nL ret) {pc t : Nat} {aty : ArrayType} {n : Int32} {lv r : List Value} {h : j_H} (ht : j_aty t = newarray.typeOf aty) (hnf : newarray.typeOf aty ≠ .float) (w1 : Cond.arrayClass (newarray.typeOf aty) ∈ j_tbl)
    (hn : ¬ n < 0) (hn2 : n.toNatClampNeg ≤ 1000000) (hc1 : j_c h + 1 ≤ E.2.1) (hc2 : j_k h + n.toNatClampNeg ≤ E.2.2) (hd : decode cc pc = .ok (.newarray aty, 2))
    (k : j_W p l e R s m args below meth c D bs E h0 nL QQ (pc + 2) lv (.ref (j_z h) :: r) (j_new h (.inl (t, n.toNatClampNeg)) n.toNatClampNeg)) : j_W p l e R s m args below meth c D bs E h0 nL QQ pc lv (.int n :: r) h := by
  obtain ⟨hex, hb, hml, hr, hown, hts, henv, hRm, hlocks, htab, hst, hbs⟩ := X
  intro ls H locs hl hR hS hc
  have hc' := hc
  obtain ⟨a1, a2, a3, a4⟩ := hc'
  have hby : componentBytes (newarray.typeOf aty) ≤ 8 := by cases aty <;> decide
  refine W.newaK hex hb (hts _ w1) (g := F0 m pc ls (.int n :: r)) rfl hd rfl hn rfl (Nat.le_trans (Nat.mul_le_mul hn2 hby) (by decide)) (by rw [hRm]; simp only [j_room]; omega) (by rw [hRm]; simp only [j_room]; omega) hR.1 fun H1 cA e1 z1 o1 hArr => ?_
  refine j_newgo (sp := .inl (t, n.toNatClampNeg)) hl hR hS hc hc1 hc2 z1 o1 ⟨fun _ => hR.2.1, by omega, _, e1, by rw [ht]; exact hArr _ _, ?_, ⟨fun z => (by cases z), fun _ => ⟨rfl, rfl, rfl⟩⟩, j_sz_of (arrV_size _ _ _), fun j hj => by rw [arrV_read _ _ hj, ht, j_fv_new0 hnf]⟩ k
  rw [ht]
  cases aty <;> exact trivial
theorem j_anew (X : j_Ctx p l R s m args meth c D bs E h0 d own cc nL ret) {pc t idx : Nat} {C : String} {n : Int32} {lv r : List Value} {h : j_H} (ht : j_aty t = .object C) (w1 : Cond.classLink own idx C ∈ j_tbl) (w2 : va_AO C s)
    (hn : ¬ n < 0) (hn2 : n.toNatClampNeg ≤ 1000000) (hc1 : j_c h + 1 ≤ E.2.1) (hc2 : j_k h + n.toNatClampNeg ≤ E.2.2) (hd : decode cc pc = .ok (.anewarray idx, 3))
    (k : j_W p l e R s m args below meth c D bs E h0 nL QQ (pc + 3) lv (.ref (j_z h) :: r) (j_new h (.inl (t, n.toNatClampNeg)) n.toNatClampNeg)) : j_W p l e R s m args below meth c D bs E h0 nL QQ pc lv (.int n :: r) h := by
  obtain ⟨hex, hb, hml, hr, hown, hts, henv, hRm, hlocks, htab, hst, hbs⟩ := X
  intro ls H locs hl hR hS hc
  have hc' := hc
  obtain ⟨a1, a2, a3, a4⟩ := hc'
  refine W.anew hex hb hown (hts _ w1) (va_AO.use w2) (g := F0 m pc ls (.int n :: r)) rfl hd rfl hn (by omega) (by rw [hRm]; simp only [j_room]; omega) (by rw [hRm]; simp only [j_room]; omega) fun cA kA comp f1 f2 f3 f4 => ?_
  have hz := hR.1
  show W p l e R s m args below meth c _ locs _ _ QQ (F0 m (pc + 3) ls (.ref H.size :: r))
  rw [hz]
  refine j_newgo (sp := .inl (t, n.toNatClampNeg)) hl hR hS hc hc1 hc2 (by simp [hz]) (fun q hq => by rw [Array.getElem?_push]; rw [if_neg (by omega)]) ⟨fun _ => hR.2.1, by omega, _, by rw [← hz, Array.getElem?_push_size], ?_, ?_, ⟨fun z => (by cases z), fun _ => ⟨rfl, rfl, rfl⟩⟩, j_sz_of (by simp), fun j hj => ?_⟩ k
  · rw [ht]
    exact ⟨fun q z => (by cases z), kA, f2, comp, f3⟩
  · rw [ht]
    exact ⟨kA, comp, f2, f3, f4⟩
  · rw [ht, j_fv_new0 (by intro z; cases z)]
    simp [hj, defaultValue]
/-! the ends -/
theorem j_iret (X : j_Ctx p l R s m args meth c D bs E h0 d own cc nL ret) {pc k : Nat} {lv : List Value} {h : j_H} {v : Int32} {ty : FieldType} {post : j_O → j_H → Prop} (hret : ret = some ty) (hk : (ty = .int ∧ k = 0) ∨ (ty = .boolean ∧ k = 1) ∨ (ty = .byte ∧ k = 2) ∨ (ty = .char ∧ k = 3)) (hn : j_nar k v) (hp : post (.inl (some (.int v))) h) (hd : decode cc pc = .ok (.ireturn, 1)) :
    j_W p l e R s m args below meth c D bs E h0 nL (j_MQ below D bs E h0 post args s) pc lv [.int v] h := by
  obtain ⟨hex, hb, hml, hr, hown, hts, henv, hRm, hlocks, htab, hst, hbs⟩ := X
  intro ls H locs hl hR hS hc
  refine j_Wimp (j_fin hR hS hc hp) (W.zret hex hb (hr.trans hret) (j_narrow hk hn).1 (fun t g1 g2 => ⟨rfl, g1, g2⟩) (fun q hq => hS.2.2 q hq) hd hlocks)
theorem j_lret (X : j_Ctx p l R s m args meth c D bs E h0 d own cc nL ret) {pc : Nat} {lv : List Value} {h : j_H} {v : Int64} {post : j_O → j_H → Prop} (hret : ret = some .long) (hp : post (.inl (some (.long v))) h) (hd : decode cc pc = .ok (.lreturn, 1)) :
    j_W p l e R s m args below meth c D bs E h0 nL (j_MQ below D bs E h0 post args s) pc lv [.long v] h := by
  obtain ⟨hex, hb, hml, hr, hown, hts, henv, hRm, hlocks, htab, hst, hbs⟩ := X
  intro ls H locs hl hR hS hc
  refine j_Wimp (j_fin hR hS hc hp) (W.lret hex hb (hr.trans hret) (fun t g1 g2 => ⟨rfl, g1, g2⟩) (fun q hq => hS.2.2 q hq) hd hlocks)
theorem j_fret (X : j_Ctx p l R s m args meth c D bs E h0 d own cc nL ret) {pc : Nat} {lv : List Value} {h : j_H} {v : UInt32} {post : j_O → j_H → Prop} (hret : ret = some .float) (hp : post (.inl (some (.float v))) h) (hd : decode cc pc = .ok (.freturn, 1)) :
    j_W p l e R s m args below meth c D bs E h0 nL (j_MQ below D bs E h0 post args s) pc lv [.float v] h := by
  obtain ⟨hex, hb, hml, hr, hown, hts, henv, hRm, hlocks, htab, hst, hbs⟩ := X
  intro ls H locs hl hR hS hc
  refine j_Wimp (j_fin hR hS hc hp) (W.fret hex hb (hr.trans hret) (fun t g1 g2 => ⟨rfl, g1, g2⟩) (fun q hq => hS.2.2 q hq) hd hlocks)
theorem j_dret (X : j_Ctx p l R s m args meth c D bs E h0 d own cc nL ret) {pc : Nat} {lv : List Value} {h : j_H} {v : UInt64} {post : j_O → j_H → Prop} (hret : ret = some .double) (hp : post (.inl (some (.double v))) h) (hd : decode cc pc = .ok (.dreturn, 1)) :
    j_W p l e R s m args below meth c D bs E h0 nL (j_MQ below D bs E h0 post args s) pc lv [.double v] h := by
  obtain ⟨hex, hb, hml, hr, hown, hts, henv, hRm, hlocks, htab, hst, hbs⟩ := X
  intro ls H locs hl hR hS hc
  refine j_Wimp (j_fin hR hS hc hp) (W.dret hex hb (hr.trans hret) (fun t g1 g2 => ⟨rfl, g1, g2⟩) (fun q hq => hS.2.2 q hq) hd hlocks)
theorem j_aret (X : j_Ctx p l R s m args meth c D bs E h0 d own cc nL ret) {pc v : Nat} {lv : List Value} {h : j_H} {rt : FieldType} {post : j_O → j_H → Prop} (hret : ret = some rt) (hrt : (∃ n, rt = .object n) ∨ ∃ t, rt = .array t) (hp : post (.inl (some (.ref v))) h) (hd : decode cc pc = .ok (.areturn, 1)) :
    j_W p l e R s m args below meth c D bs E h0 nL (j_MQ below D bs E h0 post args s) pc lv [.ref v] h := by
  obtain ⟨hex, hb, hml, hr, hown, hts, henv, hRm, hlocks, htab, hst, hbs⟩ := X
  intro ls H locs hl hR hS hc
  refine j_Wimp (j_fin hR hS hc hp) (W.aret hex hb (hr.trans hret) hrt (Or.inr ⟨v, rfl⟩) (fun t g1 g2 => ⟨rfl, g1, g2⟩) (fun q hq => hS.2.2 q hq) hd hlocks)
theorem j_vret (X : j_Ctx p l R s m args meth c D bs E h0 d own cc nL ret) {pc : Nat} {lv : List Value} {h : j_H} {post : j_O → j_H → Prop} (hret : ret = none) (hp : post (.inl none) h) (hd : decode cc pc = .ok (.return_, 1)) :
    j_W p l e R s m args below meth c D bs E h0 nL (j_MQ below D bs E h0 post args s) pc lv [] h := by
  obtain ⟨hex, hb, hml, hr, hown, hts, henv, hRm, hlocks, htab, hst, hbs⟩ := X
  intro ls H locs hl hR hS hc
  refine j_Wimp (j_fin hR hS hc hp) (W.vret hex hb (hr.trans hret) (fun t g1 g2 => ⟨rfl, g1, g2⟩) (fun q hq => hS.2.2 q hq) hd hlocks)
end JRowsC

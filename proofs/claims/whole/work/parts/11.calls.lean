/-! ===== calls in a body ===== -/
section JCall
variable {p : Program} {l : Launch} {e : Env} {R : Room} {s : State} {m : MethodId} {args : Array Value} {below : List Frame} {meth : Method} {c : Code}
variable {D : va_G} {bs : Nat} {E : j_E} {h0 : j_H} {d : Nat} {own : String} {cc : ByteArray} {nL : Nat} {ret : Option FieldType}
theorem j_after (X : j_Ctx p l R s m args meth c D bs E h0 d own cc nL ret) {Q PP : j_O → j_H → Prop} {h : j_H} {H : Heap} {locs : List Loc} {ls : Array Slot} {lv st0 rest : List Value} {pc : Nat} {a : Array Value} (hl : lv_has ls nL (j_as 0 lv)) (hS : va_S (j_A bs) s.heap H locs) (hcn : j_cn E h0 h)
    (hk : ∀ v h', PP (.inl v) h' → j_W p l e R s m args below meth c D bs E h0 nL (j_MQ below D bs E h0 Q args s) (pc + 3) lv (v.toList ++ rest) h') (hx : ∀ x h', PP (.inr x) h' → Q (.inr x) h')
    {T : State} (hT : T.heap = H)
    (hd : (∃ (v : Option Value) (vm₁ : Vm) (B : Pt), s.WarmedH vm₁ ∧ Stand p l e R s m args below meth c B.U B.locs B.cells B.slots ∧ j_Pst (j_QR D bs E h PP) (j_A bs) ⟨T.setVm vm₁, locs, j_c h - j_c h0, j_k h - j_k h0⟩ a v B ∧
        ∀ target, Steps p.tables e below (B.U.setTop { F0 m pc ls st0 with pc := (F0 m pc ls st0).pc + 3, stack := v.toList ++ rest }) target → Steps p.tables e below (T.setTop (F0 m pc ls st0)) target) ∨
      (∃ (q : Addr) (vm₁ : Vm) (B : Pt), s.WarmedH vm₁ ∧ Stand p l e R s m args below meth c B.U B.locs B.cells B.slots ∧ j_PsX (j_XC D bs E h PP) (j_A bs) ⟨T.setVm vm₁, locs, j_c h - j_c h0, j_k h - j_k h0⟩ a q B ∧
        Steps p.tables e below (T.setTop (F0 m pc ls st0)) ((B.U.setTop { F0 m pc ls st0 with stack := rest }).pushFrame (.throwing q)))) :
    ∃ t, Steps p.tables e below (T.setTop (F0 m pc ls st0)) t ∧ j_MQ below D bs E h0 Q args s t := by
  obtain ⟨hex, hb, hml, hr, hown, hts, henv, hRm, hlocks, htab, hst, hbs⟩ := X
  rcases hd with ⟨v, vm₁, ⟨U', l2, c2, s2⟩, hW₁, X', ⟨g', mk, t, L, mc, ms, e1, e2, ⟨h', hp, hrp, hF, hcn', hm1, hm2⟩, h1, hL, h2, h3⟩, st⟩ | ⟨q, vm₁, ⟨U', l2, c2, s2⟩, hW₁, X', ⟨g', mk, t, L, Z, ce, mc, ms, e1, e2, ⟨x, h', hZ, hp, hrp, hF, hcn', hm1, hm2⟩, hce, hcv, hcl, h1, hL, h2, h3⟩, st⟩
  · dsimp only [Pt.U, Pt.locs, Pt.cells, Pt.slots] at X' e1 e2 h1 h2 h3 st
    subst h1
    have k3 := (vx_keep (st₀ := (T.setVm vm₁).calling g' mk a) (t := t) (T' := U') (H := H) (A0 := j_A bs) (A1 := j_A bs) (free := j_A bs) hT e1 hS (fun _ _ z => z) (fun _ z => z) hL hF).2.2
    have hc2 : c2 = j_c h' - j_c h0 := by obtain ⟨a1, a2, a3, a4⟩ := hcn; obtain ⟨b1, b2, b3, b4⟩ := hcn'; omega
    have hs2 : s2 = j_k h' - j_k h0 := by obtain ⟨a1, a2, a3, a4⟩ := hcn; obtain ⟨b1, b2, b3, b4⟩ := hcn'; omega
    subst hc2; subst hs2
    have hal : t.vm.Alike s.vm := by rw [← e2]; exact X'.warmed.alike.symm
    obtain ⟨t2, a1, b1⟩ := hk v h' hp ls U'.heap (locs ++ L) hl (by rw [e1]; exact j_rep_moved hal hrp) k3 ⟨Nat.le_trans hcn.1 hcn'.1, hcn'.2.1, Nat.le_trans hcn.2.2.1 hcn'.2.2.1, hcn'.2.2.2⟩ U' rfl X'
    exact ⟨t2, st t2 a1, b1⟩
  · dsimp only [Pt.U, Pt.locs, Pt.cells, Pt.slots] at X' e1 e2 h1 h2 h3 st hcl
    subst h1
    have k3 := (vx_keep (st₀ := (T.setVm vm₁).calling g' mk a) (t := t) (T' := U') (H := H) (A0 := j_A bs) (A1 := j_A bs) (free := j_A bs) hT e1 hS (fun _ _ z => z) (fun _ z => z) hL hF).2.2
    have hc2 : c2 = j_c h' - j_c h0 := by obtain ⟨a1, a2, a3, a4⟩ := hcn; obtain ⟨b1, b2, b3, b4⟩ := hcn'; omega
    have hs2 : s2 = j_k h' - j_k h0 := by obtain ⟨a1, a2, a3, a4⟩ := hcn; obtain ⟨b1, b2, b3, b4⟩ := hcn'; omega
    subst hc2; subst hs2
    have hal : t.vm.Alike s.vm := by rw [← e2]; exact X'.warmed.alike.symm
    have hrp' : j_rep D bs s h' U'.heap := by rw [e1]; exact j_rep_moved hal hrp
    have hcn2 : j_cn E h0 h' := ⟨Nat.le_trans hcn.1 hcn'.1, hcn'.2.1, Nat.le_trans hcn.2.2.1 hcn'.2.2.1, hcn'.2.2.2⟩
    have ko := vx_out (p := p) (l := l) (e := e) (R := R) (s := s) (m := m) (args := args) (below := below) (meth := meth) (c := c) (H := U'.heap) (locs := locs ++ L) (cells := j_c h' - j_c h0) (slots := j_k h' - j_k h0) (free := j_A bs) (ls := ls) (rest := rest) (pc := pc) (E := Z) (ce := ce) (q := q) (mc := j_c h' - j_c h0) (ms := j_k h' - j_k h0)
      (Qc := fun _ _ _ _ => False) (XC := fun Z' _ t' => Z' = Z ∧ t'.heap = U'.heap ∧ s.vm.Alike t'.vm) (fun z hz => absurd hz (htab z)) hlocks (by rw [e1]; exact hce) hcv (vx_cls hW₁ hcl) (fun t' g1 g2 => ⟨rfl, g1, g2⟩) (fun z hz => k3.2.2 z hz) (Nat.le_refl _) (Nat.le_refl _)
    obtain ⟨t2, a1, o, b1, b2, b3⟩ := ko U' rfl X'
    refine ⟨t2, st.trans a1, o, b1, b2, Or.inr ?_⟩
    rcases b3 with ⟨ff, -⟩ | ⟨q2, rfl, E2, ce2, L2, ⟨rfl, g1, g2⟩, g3, g4, g5, g6, g7, g8⟩
    · exact ff.elim
    · exact ⟨q2, _, _, E2, ce2, L2, rfl, ⟨x, h', hZ, hx _ _ hp, by rw [g1]; exact j_rep_moved g2 hrp', ⟨by rw [g1]; exact k3.1, fun z z1 z2 => by rw [g1]; exact k3.2.1 z z1 z2⟩, hcn2, rfl, rfl⟩, g3, g4, g5, g6, g7, g8⟩
/-- what a call in the body needs, by the words -/
theorem j_bk (X : j_Ctx p l R s m args meth c D bs E h0 d own cc nL ret) {PP : j_O → j_H → Prop} {h : j_H} {as : List Value} {mi : j_Mi} (hM : MetFree l mi.1 (headSpec (Cond.code mi.1 mi.2.1 mi.2.2.1 mi.2.2.2.1 :: j_tbl) (j_room d E h)) (j_Pc D bs E as h) (fun _ _ _ _ _ => True) (j_QQ (j_QR D bs E h PP) (j_XC D bs E h PP) (j_A bs)))
    (hmx : mi.2.2.1 ≤ 45) (hc : Cond.code mi.1 mi.2.1 mi.2.2.1 mi.2.2.2.1 ∈ j_tbl) (hi : Cond.initialized mi.1.cls ∈ j_tbl) :
    vx_Back l R p e below s args mi.1 3 8 (j_Pre R (j_room d E h) (j_Pc D bs E as h)) (j_Pst (j_QR D bs E h PP) (j_A bs)) (j_PsX (j_XC D bs E h PP) (j_A bs)) := by
  obtain ⟨hex, hb, hml, hr, hown, hts, henv, hRm, hlocks, htab, hst, hbs⟩ := X
  refine j_back (bytes := mi.2.1) (maxL := mi.2.2.1) (ret := mi.2.2.2.1) hM j_Pc_blind ?_ ?_ ?_ List.mem_cons_self ?_
  · rw [hRm]; simp only [j_room]; omega
  · rw [hRm]; simp only [j_room]; omega
  · intro w hw a' U hW
    rcases List.mem_cons.mp hw with rfl | hw
    · exact word_at hW (j_tbl_good hc) (hts _ hc)
    · exact word_at hW (j_tbl_good hw) (hts _ hw)
  · intro a' U hW
    exact word_at hW (j_tbl_good hi) (hts _ hi)
theorem j_pre (X : j_Ctx p l R s m args meth c D bs E h0 d own cc nL ret) {h : j_H} {as : List Value} {H : Heap} {locs : List Loc} (hR : j_rep D bs s h H) (hS : va_S (j_A bs) s.heap H locs) (hcn : j_cn E h0 h) {T : State} (hT : T.heap = H) (vm₁ : Vm) (hW : s.WarmedH vm₁) :
    j_Pre R (j_room d E h) (j_Pc D bs E as h) ⟨T.setVm vm₁, locs, j_c h - j_c h0, j_k h - j_k h0⟩ as.toArray := by
  obtain ⟨hex, hb, hml, hr, hown, hts, henv, hRm, hlocks, htab, hst, hbs⟩ := X
  obtain ⟨a1, a2, a3, a4⟩ := hcn
  refine ⟨?_, ?_, rfl, ?_, ?_⟩
  · rw [hRm]
    show (j_c h - j_c h0) + (E.2.1 - j_c h) ≤ E.2.1 - j_c h0
    omega
  · rw [hRm]
    show (j_k h - j_k h0) + (E.2.2 - j_k h) ≤ E.2.2 - j_k h0
    omega
  · refine j_env_moved (U := T.setVm vm₁) henv hW (fun a ha hn => ?_)
    show T.heap[a]? = _
    rw [hT]
    exact hS.2.1 a ha hn
  · show j_rep D bs (T.setVm vm₁) h T.heap
    rw [hT]
    exact j_rep_moved hW.alike hR
theorem j_cat {r : List Value} (h : j_cw r = true) : (r.map fun v => v.category).sum ≤ 8 := by
  have hc : ∀ v : Value, v.category ≤ 2 := fun v => by cases v <;> simp [Value.category]
  match r, h with
  | [], _ => simp
  | [a], _ => have := hc a; simp; omega
  | [a, b], _ => have := hc a; have := hc b; simp; omega
  | [a, b, x], _ => have := hc a; have := hc b; have := hc x; simp; omega
  | [a, b, x, y], _ => have := hc a; have := hc b; have := hc x; have := hc y; simp; omega
  | _ :: _ :: _ :: _ :: _ :: _, h => cases h
theorem j_few_iff {r : List Value} {P : Prop} : j_few r P ↔ j_cw r = true ∧ P := by
  unfold j_few
  cases j_cw r <;> simp
/-- the words of a virtual call hold, the receiver is of the method's class -/
theorem j_callV (X : j_Ctx p l R s m args meth c D bs E h0 d own cc nL ret) {Q PP : j_O → j_H → Prop} {h : j_H} {lv As rest : List Value} {pc k idx a : Nat} {mi : j_Mi} {r : vw_C} (hC : j_Met l D bs E d k (.ref a :: As) h PP) (hmi : j_mt[k]? = some mi) (hcl : j_cl[mi.2.2.2.2]? = some r)
    (hmx : mi.2.2.1 ≤ 45) (hc : Cond.code mi.1 mi.2.1 mi.2.2.1 mi.2.2.2.1 ∈ j_tbl) (hi : Cond.initialized mi.1.cls ∈ j_tbl) (hlk : Cond.methodLink own idx mi.1 ∈ j_tbl) (hin : Cond.instanceMethod mi.1 ∈ j_tbl) (hse : Cond.selects r.1 mi.1 mi.1 ∈ j_tbl) (hy : mi.1.cls ≠ "java/lang/invoke/MethodHandle" ∧ mi.1.cls ≠ "java/lang/invoke/VarHandle")
    (hn : ∀ sig, parseMethodDescriptor mi.1.desc = some sig → As.length = sig.parameters.length) (hw : j_cw rest = true) (hdg : decode cc pc = .ok (.invokevirtual idx, 3))
    (hk : ∀ v h', PP (.inl v) h' → j_W p l e R s m args below meth c D bs E h0 nL (j_MQ below D bs E h0 Q args s) (pc + 3) lv (v.toList ++ rest) h') (hx : ∀ x h', PP (.inr x) h' → Q (.inr x) h') :
    j_W p l e R s m args below meth c D bs E h0 nL (j_MQ below D bs E h0 Q args s) pc lv (As.reverse ++ .ref a :: rest) h := by
  intro ls H locs hl hR hS hcn T hT XX
  obtain ⟨mi', hmi', hrc, -, -, hM⟩ := hC
  cases Option.some.inj (hmi.symm.trans hmi')
  have hlt : mi.2.2.2.2 < 90 := by
    have := (List.getElem?_eq_some_iff.mp hcl).1
    simp at this
    omega
  obtain ⟨a', r', e1, hsh⟩ := hrc hlt
  have ea : a = a' := by cases e1; rfl
  subst ea
  have hb' := j_bk (e := e) (below := below) X hM hmx hc hi
  obtain ⟨r2, hr2, ce, q1, q2, q3, q4⟩ := j_rep_obj hR hsh
  cases Option.some.inj (hcl.symm.trans hr2)
  have X' := X
  obtain ⟨hex, hb, hml, hr, hown, hts, henv, hRm, hlocks, htab, hst, hbs⟩ := X'
  obtain ⟨-, hfc, -⟩ := henv.1.1 _ _ hcl
  refine j_after X hl hS hcn hk hx hT (vx_callV XX hex (C := r.1) (bytes := mi.2.1) (maxL := mi.2.2.1) (ret := mi.2.2.2.1) hown (hts _ hlk) (hts _ hin) (hts _ hse) (hts _ hc) hy hb' (b := a) (cellB := ce) (by rw [hT]; exact q1) q3.1 (by rw [q2]; exact hfc) rfl (hl.1.trans hml.symm) (argsL := As) (rest := rest) hn rfl ?_ (by rw [hb]; exact hdg) (fun vm₁ hW => j_pre X hR hS hcn hT vm₁ hW))
  show 2 * 0 + _ ≤ 8
  have := j_cat hw
  omega
/-- super.m -/
theorem j_callU (X : j_Ctx p l R s m args meth c D bs E h0 d own cc nL ret) {Q PP : j_O → j_H → Prop} {h : j_H} {lv As rest : List Value} {pc k idx a : Nat} {mi : j_Mi} {r : vw_C} (hC : j_Met l D bs E d k (.ref a :: As) h PP) (hmi : j_mt[k]? = some mi) (hcl : j_cl[mi.2.2.2.2]? = some r)
    (hmx : mi.2.2.1 ≤ 45) (hc : Cond.code mi.1 mi.2.1 mi.2.2.1 mi.2.2.2.1 ∈ j_tbl) (hi : Cond.initialized mi.1.cls ∈ j_tbl) (hlk : Cond.methodLink own idx mi.1 ∈ j_tbl) (hin : Cond.instanceMethod mi.1 ∈ j_tbl) (hsa : Cond.sameMethod mi.1.cls mi.1.cls mi.1.name mi.1.desc ∈ j_tbl) (hsu : Cond.superclass own mi.1.cls ∈ j_tbl) (hno : mi.1.name ≠ "<init>")
    (hn : ∀ sig, parseMethodDescriptor mi.1.desc = some sig → As.length = sig.parameters.length) (hw : j_cw rest = true) (hdg : decode cc pc = .ok (.invokespecial idx, 3))
    (hk : ∀ v h', PP (.inl v) h' → j_W p l e R s m args below meth c D bs E h0 nL (j_MQ below D bs E h0 Q args s) (pc + 3) lv (v.toList ++ rest) h') (hx : ∀ x h', PP (.inr x) h' → Q (.inr x) h') :
    j_W p l e R s m args below meth c D bs E h0 nL (j_MQ below D bs E h0 Q args s) pc lv (As.reverse ++ .ref a :: rest) h := by
  intro ls H locs hl hR hS hcn T hT XX
  obtain ⟨mi', hmi', hrc, -, -, hM⟩ := hC
  cases Option.some.inj (hmi.symm.trans hmi')
  have hlt : mi.2.2.2.2 < 90 := by
    have := (List.getElem?_eq_some_iff.mp hcl).1
    simp at this
    omega
  obtain ⟨a', r', e1, hsh⟩ := hrc hlt
  have ea : a = a' := by cases e1; rfl
  subst ea
  have hb' := j_bk (e := e) (below := below) X hM hmx hc hi
  obtain ⟨r2, hr2, ce, q1, q2, q3, q4⟩ := j_rep_obj hR hsh
  cases Option.some.inj (hcl.symm.trans hr2)
  have X' := X
  obtain ⟨hex, hb, hml, hr, hown, hts, henv, hRm, hlocks, htab, hst, hbs⟩ := X'
  obtain ⟨-, hfc, kB, hkB, -⟩ := henv.1.1 _ _ hcl
  refine j_after X hl hS hcn hk hx hT (vx_callSU XX hex (bytes := mi.2.1) (maxL := mi.2.2.1) (ret := mi.2.2.2.1) hown (hts _ hlk) (hts _ hsa) (hts _ hsu) (hts _ hin) (hts _ hc) hno hb' (b := a) (cellB := ce) (by rw [hT]; exact q1) q3.1 (kB := kB) (by rw [q2]; exact hkB) rfl (hl.1.trans hml.symm) (argsL := As) (rest := rest) hn rfl ?_ (by rw [hb]; exact hdg) (fun vm₁ hW => j_pre X hR hS hcn hT vm₁ hW))
  show 2 * 0 + _ ≤ 8
  have := j_cat hw
  omega
theorem j_callS (X : j_Ctx p l R s m args meth c D bs E h0 d own cc nL ret) {Q PP : j_O → j_H → Prop} {h : j_H} {lv As rest : List Value} {pc k idx : Nat} {mi : j_Mi} (hC : j_Met l D bs E d k As h PP) (hmi : j_mt[k]? = some mi)
    (hmx : mi.2.2.1 ≤ 45) (hc : Cond.code mi.1 mi.2.1 mi.2.2.1 mi.2.2.2.1 ∈ j_tbl) (hi : Cond.initialized mi.1.cls ∈ j_tbl) (hlk : Cond.methodLink own idx mi.1 ∈ j_tbl) (hin : Cond.static mi.1 ∈ j_tbl) (hy : mi.1.cls ≠ "java/lang/invoke/MethodHandle" ∧ mi.1.cls ≠ "java/lang/invoke/VarHandle")
    (hn : ∀ sig, parseMethodDescriptor mi.1.desc = some sig → As.length = sig.parameters.length) (hw : j_cw rest = true) (hdg : decode cc pc = .ok (.invokestatic idx, 3))
    (hk : ∀ v h', PP (.inl v) h' → j_W p l e R s m args below meth c D bs E h0 nL (j_MQ below D bs E h0 Q args s) (pc + 3) lv (v.toList ++ rest) h') (hx : ∀ x h', PP (.inr x) h' → Q (.inr x) h') :
    j_W p l e R s m args below meth c D bs E h0 nL (j_MQ below D bs E h0 Q args s) pc lv (As.reverse ++ rest) h := by
  intro ls H locs hl hR hS hcn T hT XX
  obtain ⟨mi', hmi', -, -, -, hM⟩ := hC
  cases Option.some.inj (hmi.symm.trans hmi')
  have hb' := j_bk (e := e) (below := below) X hM hmx hc hi
  have X' := X
  obtain ⟨hex, hb, hml, hr, hown, hts, henv, hRm, hlocks, htab, hst, hbs⟩ := X'
  refine j_after X hl hS hcn hk hx hT (vx_callS XX hex (bytes := mi.2.1) (maxL := mi.2.2.1) (ret := mi.2.2.2.1) hown (hts _ hlk) (hts _ hin) (hts _ hi) (hts _ hc) hy hb' rfl (hl.1.trans hml.symm) (argsL := As) (rest := rest) hn rfl ?_ (by rw [hb]; exact hdg) (fun vm₁ hW => j_pre X hR hS hcn hT vm₁ hW))
  show 2 * 0 + _ ≤ 8
  have := j_cat hw
  omega
theorem j_callI (X : j_Ctx p l R s m args meth c D bs E h0 d own cc nL ret) {Q PP : j_O → j_H → Prop} {h : j_H} {lv As rest : List Value} {pc k idx a : Nat} {mi : j_Mi} (hC : j_Met l D bs E d k (.ref a :: As) h PP) (hmi : j_mt[k]? = some mi) (hret : mi.2.2.2.1 = none) (hy1 : mi.1.name = "<init>")
    (hmx : mi.2.2.1 ≤ 45) (hc : Cond.code mi.1 mi.2.1 mi.2.2.1 mi.2.2.2.1 ∈ j_tbl) (hi : Cond.initialized mi.1.cls ∈ j_tbl) (hlk : Cond.methodLink own idx mi.1 ∈ j_tbl) (hin : Cond.instanceMethod mi.1 ∈ j_tbl) (hy : mi.1.cls ≠ "java/lang/invoke/MethodHandle" ∧ mi.1.cls ≠ "java/lang/invoke/VarHandle")
    (hn : ∀ sig, parseMethodDescriptor mi.1.desc = some sig → As.length = sig.parameters.length) (hw : j_cw rest = true) (hdg : decode cc pc = .ok (.invokespecial idx, 3))
    (hk : ∀ v h', PP (.inl v) h' → j_W p l e R s m args below meth c D bs E h0 nL (j_MQ below D bs E h0 Q args s) (pc + 3) lv (v.toList ++ rest) h') (hx : ∀ x h', PP (.inr x) h' → Q (.inr x) h') :
    j_W p l e R s m args below meth c D bs E h0 nL (j_MQ below D bs E h0 Q args s) pc lv (As.reverse ++ .ref a :: rest) h := by
  intro ls H locs hl hR hS hcn T hT XX
  obtain ⟨mi', hmi', -, -, -, hM⟩ := hC
  cases Option.some.inj (hmi.symm.trans hmi')
  have hb' := j_bk (e := e) (below := below) X hM hmx hc hi
  have X' := X
  obtain ⟨hex, hb, hml, hr, hown, hts, henv, hRm, hlocks, htab, hst, hbs⟩ := X'
  refine j_after X hl hS hcn hk hx hT (vx_callI XX hex (bytes := mi.2.1) (maxL := mi.2.2.1) hown hy1 (hts _ hlk) (hts _ hin) (by rw [← hret]; exact hts _ hc) hy hb' rfl (hl.1.trans hml.symm) (a := a) (argsL := As) (rest := rest) hn rfl ?_ (by rw [hb]; exact hdg) (fun vm₁ hW => j_pre X hR hS hcn hT vm₁ hW))
  show 2 * 0 + _ ≤ 8
  have := j_cat hw
  omega
end JCall

/-! ===== the law's method: its blocks, and its calls of wrappers ===== -/
/-- a call of a wrapper: its pc, its entry, how many arguments, the wrapper -/
abbrev j_Site : Type := Nat × Nat × Nat × j_Wi
def j_sok (own : String) (cc : ByteArray) (z : j_Site) : Prop := decode cc z.1 = .ok (.invokestatic z.2.1, 3) ∧ z.2.2.2.2.2.1 ≤ 45 ∧ Cond.codeWith z.2.2.2.1 z.2.2.2.2.1 z.2.2.2.2.2.1 (some .int) z.2.2.2.2.2.2 ∈ j_tbl ∧ Cond.initialized z.2.2.2.1.cls ∈ j_tbl ∧ Cond.methodLink own z.2.1 z.2.2.2.1 ∈ j_tbl ∧ Cond.static z.2.2.2.1 ∈ j_tbl ∧ (z.2.2.2.1.cls ≠ "java/lang/invoke/MethodHandle" ∧ z.2.2.2.1.cls ≠ "java/lang/invoke/VarHandle") ∧ ∀ sig, parseMethodDescriptor z.2.2.2.1.desc = some sig → z.2.2.1 = sig.parameters.length
def j_clS (l : Launch) (D : va_G) (bs : Nat) (E : j_E) (d : Nat) (sites : List j_Site) (G : j_G) : Prop := ∀ z ∈ sites, ∀ (lv As rest : List Value) (h : j_H), As.length = z.2.2.1 → j_cw rest = true → j_MetW l D bs E d z.2.2.2 As h (fun o h' => match o with
    | .inl (some v) => G (z.1 + 3) lv (v :: rest) h'
    | _ => False) → G z.1 lv (As.reverse ++ rest) h
section JLaw
variable {p : Program} {l : Launch} {e : Env} {R : Room} {s : State} {m : MethodId} {args : Array Value} {below : List Frame} {meth : Method} {c : Code}
variable {D : va_G} {bs : Nat} {E : j_E} {h0 : j_H} {d : Nat} {own : String} {cc : ByteArray} {nL : Nat} {ret : Option FieldType}
theorem j_bkW (X : j_Ctx p l R s m args meth c D bs E h0 d own cc nL ret) {PP : j_O → j_H → Prop} {h : j_H} {as : List Value} {w : j_Wi} (hM : MetFree l w.1 (headSpec (Cond.codeWith w.1 w.2.1 w.2.2.1 (some .int) w.2.2.2 :: j_tbl) (j_room d E h)) (j_PcW D bs E as h) (fun _ _ _ _ _ => True) (j_QQ (j_QR D bs E h PP) (j_XC D bs E h PP) (j_A bs)))
    (hmx : w.2.2.1 ≤ 45) (hc : Cond.codeWith w.1 w.2.1 w.2.2.1 (some .int) w.2.2.2 ∈ j_tbl) (hi : Cond.initialized w.1.cls ∈ j_tbl) :
    vx_Back l R p e below s args w.1 3 8 (j_Pre R (j_room d E h) (j_PcW D bs E as h)) (j_Pst (j_QR D bs E h PP) (j_A bs)) (j_PsX (j_XC D bs E h PP) (j_A bs)) := by
  obtain ⟨hex, hb, hml, hr, hown, hts, henv, hRm, hlocks, htab, hst, hbs⟩ := X
  refine j_backW (hh := w.2.2.2) (bytes := w.2.1) (maxL := w.2.2.1) (ret := some .int) hM j_PcW_blind ?_ ?_ ?_ List.mem_cons_self ?_
  · rw [hRm]; simp only [j_room]; omega
  · rw [hRm]; simp only [j_room]; omega
  · intro w' hw a' U hW
    rcases List.mem_cons.mp hw with rfl | hw
    · exact word_at hW (j_tbl_good hc) (hts _ hc)
    · exact word_at hW (j_tbl_good hw) (hts _ hw)
  · intro a' U hW
    exact word_at hW (j_tbl_good hi) (hts _ hi)
theorem j_callSW (X : j_Ctx p l R s m args meth c D bs E h0 d own cc nL ret) {Q PP : j_O → j_H → Prop} {h : j_H} {lv As rest : List Value} {pc idx : Nat} {w : j_Wi} (hnc : j_NC s) (hC : j_MetW l D bs E d w As h PP)
    (hmx : w.2.2.1 ≤ 45) (hc : Cond.codeWith w.1 w.2.1 w.2.2.1 (some .int) w.2.2.2 ∈ j_tbl) (hi : Cond.initialized w.1.cls ∈ j_tbl) (hlk : Cond.methodLink own idx w.1 ∈ j_tbl) (hin : Cond.static w.1 ∈ j_tbl) (hy : w.1.cls ≠ "java/lang/invoke/MethodHandle" ∧ w.1.cls ≠ "java/lang/invoke/VarHandle")
    (hn : ∀ sig, parseMethodDescriptor w.1.desc = some sig → As.length = sig.parameters.length) (hw : j_cw rest = true) (hdg : decode cc pc = .ok (.invokestatic idx, 3))
    (hk : ∀ v h', PP (.inl v) h' → j_W p l e R s m args below meth c D bs E h0 nL (j_MQ below D bs E h0 Q args s) (pc + 3) lv (v.toList ++ rest) h') (hx : ∀ x h', PP (.inr x) h' → Q (.inr x) h') :
    j_W p l e R s m args below meth c D bs E h0 nL (j_MQ below D bs E h0 Q args s) pc lv (As.reverse ++ rest) h := by
  intro ls H locs hl hR hS hcn T hT XX
  obtain ⟨-, -, hM⟩ := hC
  have hb' := j_bkW (e := e) (below := below) X hM hmx hc hi
  have X' := X
  obtain ⟨hex, hb, hml, hr, hown, hts, henv, hRm, hlocks, htab, hst, hbs⟩ := X'
  refine j_after X hl hS hcn hk hx hT (vx_callSX XX hex (hh := w.2.2.2) (bytes := w.2.1) (maxL := w.2.2.1) (ret := some .int) hown (hts _ hlk) (hts _ hin) (hts _ hi) (hts _ hc) hy hb' rfl (hl.1.trans hml.symm) (argsL := As) (rest := rest) hn rfl ?_ (by rw [hb]; exact hdg) (fun vm₁ hW => by
    obtain ⟨q1, q2, q3⟩ := j_pre (as := As) X hR hS hcn hT vm₁ hW
    exact ⟨q1, q2, q3, va_Nc.moved (u := s) (U := T.setVm vm₁) hW.alike hnc⟩))
  show 2 * 0 + _ ≤ 8
  have := j_cat hw
  omega
end JLaw
theorem j_lawm {l : Launch} {D : va_G} {bs : Nat} {E : j_E} {d : Nat} {as : List Value} {h : j_H} {post : j_O → j_H → Prop} {mi : j_Mi} {bl : List (Nat × List j_N)} {sites : List j_Site} (hl : l.stackTraces = false) (HT : j_ThrowOk l D bs E) (hcl : ∀ (c : Nat) (r : vw_C), j_cl[c]? = some r → j_clok c r)
    (hg : j_good mi bl) (hs : ∀ z ∈ sites, j_sok mi.1.cls mi.2.1 z) (hlen : (lg_sl as).length ≤ mi.2.2.1) (hc1 : j_c h ≤ E.2.1) (hc2 : j_k h ≤ E.2.2)
    (H : ∀ G : j_G, j_clo (j_Met l D bs E d) E post bl G → j_clS l D bs E d sites G → G 0 (j_pad mi.2.2.1 (j_exp as)) [] h) : MetFree l mi.1 (headSpec (Cond.code mi.1 mi.2.1 mi.2.2.1 mi.2.2.2.1 :: j_tbl) (j_room (d + 1) E h)) (j_PcW D bs E as h) (fun _ _ _ _ _ => True) (j_QQ (j_QR D bs E h post) (j_XC D bs E h post) (j_A bs)) := by
  refine MetFree.of_bodyS (code := mi.2.1) (maxLocals := mi.2.2.1) (ret := mi.2.2.2.1) hg.1 ?_ ?_
  · intro args s m hp hn
    obtain ⟨meth, c, h1, h2, h3, h4, h5, h6, -, -⟩ := Cond.code_spec hn (atoms_spec (ws := Cond.code mi.1 mi.2.1 mi.2.2.1 mi.2.2.2.1 :: j_tbl) hp _ List.mem_cons_self)
    exact ⟨meth, c, h1, h2, h3, h4, h5, h6⟩
  · intro p e s m args below meth c s₁ B hml hP _
    obtain ⟨⟨rfl, henv, hR⟩, hnc⟩ := hP
    have hh0 : s₁.heap = s.heap := by rw [B.state]; rfl
    have hts0 := atoms_spec (ws := Cond.code mi.1 mi.2.1 mi.2.2.1 mi.2.2.2.1 :: j_tbl) B.pre
    have htab : ∀ x ∈ c.exceptionTable.toList, False := by
      obtain ⟨meth9, c9, h1, h2, -, -, -, -, h7, -⟩ := Cond.code_spec B.named (hts0 _ List.mem_cons_self)
      cases Option.some.inj (h1.symm.trans B.method)
      cases Option.some.inj (h2.symm.trans (Stand.of_body B).code)
      intro x hx
      rw [Array.isEmpty_iff.mp h7] at hx
      cases hx
    have X : j_Ctx p l (j_room (d + 1) E h) s m as.toArray meth c D bs E h d mi.1.cls mi.2.1 mi.2.2.1 mi.2.2.2.1 := ⟨B.exec, B.bytes, hml, B.returns, findClass_of_methodNamed B.named, fun w hw => hts0 w (List.mem_cons_of_mem _ hw), henv, rfl, B.notSynchronized, htab, hl, by rw [hR.1]; exact hR.2.1⟩
    have hini : (mi.1.name == "<init>") = true → meth.name = "<init>" := fun z => (name_of_methodNamed B.named B.method).1.trans (by simpa using z)
    have K := H (j_W p l e (j_room (d + 1) E h) s m as.toArray below meth c D bs E h mi.2.2.1 (j_MQ below D bs E h post as.toArray s)) (fun b hb lv st h' g => j_sound X HT hini hcl b.2 b.1 lv st h' (hg.2.1 b hb) (hg.2.2 b hb) g) (fun z hz lv As rest h' hn hw hC => by
      obtain ⟨k1, k2, k3, k4, k5, k6, k7, k8⟩ := hs z hz
      exact j_callSW X hnc hC k2 k3 k4 k5 k6 k7 (fun sig e => hn.trans (k8 sig e)) hw k1 (fun v h2 g9 => by
        cases v with
        | none => exact g9.elim
        | some v => exact g9) (fun x h2 g9 => g9.elim))
    have hl0 := lv_entry as (n := mi.2.2.1) hlen
    have K2 := K _ s.heap [] (j_ent hl0) hR va_S.rf ⟨Nat.le_refl _, hc1, Nat.le_refl _, hc2⟩
    rw [Nat.sub_self, Nat.sub_self] at K2
    have K3 : W p l e (j_room (d + 1) E h) s m as.toArray below meth c s.heap [] 0 0 (j_MQ below D bs E h post as.toArray s) (entryFrame m as.toArray mi.2.2.1) := by
      rw [lg_entry_eq]
      exact K2
    obtain ⟨t, a1, o, b1, b2, b3⟩ := K3 s₁ hh0 (Stand.of_body B)
    exact ⟨t, o, a1, b1, b2, b3⟩

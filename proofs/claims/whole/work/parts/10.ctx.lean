section VXIA
variable {p : Program} {l : Launch} {e : Env} {R : Room} {s : State} {m : MethodId} {args : Array Value} {below : List Frame} {meth : Method} {c : Code} {T : State} {locs : List Loc} {cells slots : Nat}
theorem vx_callI (X : Stand p l e R s m args below meth c T locs cells slots) (hexec : p.tables.exec = Jvm.exec) {own : String} {index : Nat} {y : MethodName} {bytes : ByteArray} {maxL : Nat}
    (hown : s.vm.findClass own = some m.cls) (hy1 : y.name = "<init>") (hlink : (Cond.methodLink own index y).before args s = true) (hinst : (Cond.instanceMethod y).before args s = true)
    (hcode : (Cond.code y bytes maxL none).before args s = true) (hy : y.cls ≠ "java/lang/invoke/MethodHandle" ∧ y.cls ≠ "java/lang/invoke/VarHandle")
    {W9 : Nat} {Pre : Pt → Array Value → Prop} {Post : Pt → Array Value → Option Value → Pt → Prop} {PostX : Pt → Array Value → Addr → Pt → Prop} (hK : vx_Back l R p e below s args y 3 W9 Pre Post PostX)
    {g : JFrame} (hg : g.method = m) (hsize : g.locals.size = c.maxLocals) {a : Addr} {argsL rest : List Value} (hlen : ∀ sig, parseMethodDescriptor y.desc = some sig → argsL.length = sig.parameters.length)
    (hstack : g.stack = argsL.reverse ++ .ref a :: rest) (hW : 2 * g.monitorRoom + (rest.map fun v => v.category).sum ≤ W9) (hdg : decode c.code g.pc = .ok (.invokespecial index, 3))
    (hpre : ∀ vm₁, s.WarmedH vm₁ → Pre ⟨T.setVm vm₁, locs, cells, slots⟩ (Value.ref a :: argsL).toArray) :
    (∃ (v : Option Value) (vm₁ : Vm) (B : Pt), s.WarmedH vm₁ ∧ Stand p l e R s m args below meth c B.U B.locs B.cells B.slots ∧ Post ⟨T.setVm vm₁, locs, cells, slots⟩ (Value.ref a :: argsL).toArray v B ∧
      ∀ target, Steps p.tables e below (B.U.setTop { g with pc := g.pc + 3, stack := v.toList ++ rest }) target → Steps p.tables e below (T.setTop g) target) ∨
    (∃ (q : Addr) (vm₁ : Vm) (B : Pt), s.WarmedH vm₁ ∧ Stand p l e R s m args below meth c B.U B.locs B.cells B.slots ∧ PostX ⟨T.setVm vm₁, locs, cells, slots⟩ (Value.ref a :: argsL).toArray q B ∧
      Steps p.tables e below (T.setTop g) ((B.U.setTop { g with stack := rest }).pushFrame (.throwing q))) := by
  subst hg
  have hpl : e.platform.magicAccessors = ({} : Platform).magicAccessors := by rw [X.admits.platform]
  obtain ⟨mk, methM, cM, kP, vm₁, hnamed, hmethM, hcodeM, -, hlocalsM, -, hkP, -, hW₁, hstep₁⟩ := Steps.initColdArgs (e := e) X.here hexec X.warmed hpl hown hy1 hy hlink hinst hcode (f := g) rfl hlen hstack hdg
  have X₁ := X.noted hW₁
  rcases hK g.method meth c ⟨T.setVm vm₁, locs, cells, slots⟩ { g with stack := rest } (.invokespecial index) mk (Value.ref a :: argsL).toArray X₁ rfl hsize hdg hW (X₁.named hnamed) (hpre vm₁ X₁.warmed) with ⟨v, B, X', hpost, hsteps⟩ | ⟨q, B, X', hpost, hsteps⟩
  · exact Or.inl ⟨v, vm₁, B, X₁.warmed, X', hpost, fun target h => hstep₁ _ fun acts => by rw [doInvoke_state]; exact hsteps.trans h⟩
  · exact Or.inr ⟨q, vm₁, B, X₁.warmed, X', hpost, hstep₁ _ fun acts => by rw [doInvoke_state]; exact hsteps⟩
theorem vx_callSU {T : State} {locs : List Loc} {cells slots : Nat} (X : Stand p l e R s m args below meth c T locs cells slots) (hexec : p.tables.exec = Jvm.exec) {own : String} {index : Nat} {y : MethodName} {bytes : ByteArray} {maxL : Nat} {ret : Option FieldType}
    (hown : s.vm.findClass own = some m.cls) (hlink : (Cond.methodLink own index y).before args s = true) (hsame : (Cond.sameMethod y.cls y.cls y.name y.desc).before args s = true) (hsup : (Cond.superclass own y.cls).before args s = true)
    (hinst : (Cond.instanceMethod y).before args s = true) (hcode : (Cond.code y bytes maxL ret).before args s = true) (hno : y.name ≠ "<init>")
    {W : Nat} {Pre : Pt → Array Value → Prop} {Post : Pt → Array Value → Option Value → Pt → Prop} {PostX : Pt → Array Value → Addr → Pt → Prop} (hK : vx_Back l R p e below s args y 3 W Pre Post PostX)
    {b : Addr} {cellB : Cell} {kB : Class} (hcell : T.heap[b]? = some cellB) (hobj : cellB.vm.isStatics = false) (hkB : s.vm.classes[cellB.cls]? = some kB)
    {g : JFrame} (hg : g.method = m) (hsize : g.locals.size = c.maxLocals) {argsL rest : List Value} (hlen : ∀ sig, parseMethodDescriptor y.desc = some sig → argsL.length = sig.parameters.length)
    (hstack : g.stack = argsL.reverse ++ .ref b :: rest) (hW : 2 * g.monitorRoom + (rest.map fun v => v.category).sum ≤ W) (hdg : decode c.code g.pc = .ok (.invokespecial index, 3))
    (hpre : ∀ vm₁, s.WarmedH vm₁ → Pre ⟨T.setVm vm₁, locs, cells, slots⟩ (Value.ref b :: argsL).toArray) :
    (∃ (v : Option Value) (vm₁ : Vm) (B : Pt), s.WarmedH vm₁ ∧ Stand p l e R s m args below meth c B.U B.locs B.cells B.slots ∧ Post ⟨T.setVm vm₁, locs, cells, slots⟩ (Value.ref b :: argsL).toArray v B ∧
      ∀ target, Steps p.tables e below (B.U.setTop { g with pc := g.pc + 3, stack := v.toList ++ rest }) target → Steps p.tables e below (T.setTop g) target) ∨
    (∃ (q : Addr) (vm₁ : Vm) (B : Pt), s.WarmedH vm₁ ∧ Stand p l e R s m args below meth c B.U B.locs B.cells B.slots ∧ PostX ⟨T.setVm vm₁, locs, cells, slots⟩ (Value.ref b :: argsL).toArray q B ∧
      Steps p.tables e below (T.setTop g) ((B.U.setTop { g with stack := rest }).pushFrame (.throwing q))) := by
  obtain ⟨mk, methM, hnamed, hmethM, hstM, habM⟩ := Cond.instanceMethod_spec hinst
  obtain ⟨methM', cM, hmethM', -, -, -, -, -, -, hsigM⟩ := Cond.code_spec hnamed hcode
  cases hmethM.symm.trans hmethM'
  obtain ⟨ps, dk, kp, hps, hdk, hkp, hsuper, -, -, hnid⟩ := Cond.superclass_spec hown hsup
  have hn : s.methodNamed? ⟨y.cls, y.name, y.desc⟩ = some mk := hnamed
  have hpm : ps = mk.cls := Option.some.inj (hps.symm.trans (findClass_of_methodNamed hnamed))
  have hsub : s.vm.isSubclass ps mk.cls = true := by rw [hpm]; simp [Vm.isSubclass, Vm.isSubclassAux]
  obtain ⟨vm₁, X₁, hstep₁⟩ := X.invokespecialUp hexec hown hlink hsame hn hmethM hstM habM hno hdk hnid hps hsuper hsub (a := b) (cell := cellB) hcell
    (fun z h => by rw [h] at hobj; cases hobj) hkB (g := g) hg (argsL := argsL) (rest := rest) (hlen _ hsigM) hstack hdg
  rcases hK m meth c ⟨T.setVm vm₁, locs, cells, slots⟩ { g with stack := rest } (.invokespecial index) mk (Value.ref b :: argsL).toArray X₁ hg hsize hdg hW (X₁.named hnamed) (hpre vm₁ X₁.warmed) with ⟨v, B, X', hpost, hsteps⟩ | ⟨q, B, X', hpost, hsteps⟩
  · exact Or.inl ⟨v, vm₁, B, X₁.warmed, X', hpost, fun target h => hstep₁ _ (by rw [doInvoke_state]; exact hsteps.trans h)⟩
  · exact Or.inr ⟨q, vm₁, B, X₁.warmed, X', hpost, hstep₁ _ (by rw [doInvoke_state]; exact hsteps)⟩
end VXIA
/-! ===== the contract of a method no. k, at a heap ===== -/
/-- private methods of AbstractStringBuilder, met by a StringBuilder: they select themselves -/
def j_asb : List (String × String) := [("ensureCapacityInternal", "(I)V"), ("newCapacity", "(I)I"), ("putStringAt", "(ILjava/lang/String;)V"), ("inflateIfNeededFor", "(Ljava/lang/String;)V")]
def j_ext : List Cond := j_asb.map (fun q => Cond.selects "java/lang/StringBuilder" ⟨"java/lang/AbstractStringBuilder", q.1, q.2⟩ ⟨"java/lang/AbstractStringBuilder", q.1, q.2⟩)
/-- the words that last -/
def j_tbl : List Cond := lw_tbl.filter goodWord ++ j_ext
theorem j_tbl_good {w : Cond} (h : w ∈ j_tbl) : (w.onTables && w.keeps) = true ∨ ∃ ty, w = .arrayClass ty := by
  rcases List.mem_append.mp h with h | h
  · exact good_of_word (List.mem_filter.mp h).2
  · obtain ⟨q, -, rfl⟩ := List.mem_map.mp h
    exact Or.inl rfl
def j_A (bs : Nat) : Nat → Prop := fun q => bs ≤ q
def j_exn : Nat → String
  | 0 => "java/util/NoSuchElementException"
  | _ => "java/lang/IllegalArgumentException"
def j_room (d : Nat) (E : j_E) (h : j_H) : Room := { frames := d + 8, cells := E.2.1 - j_c h, slots := E.2.2 - j_k h, locals := 64 * d + 120 }
/-- the JDK's constants: 0 String.COMPACT_STRINGS, 1 and 2 Integer's digits, 3 the maker of index exceptions -/
def j_stn : Nat → String × String × String
  | 0 => ("java/lang/String", "COMPACT_STRINGS", "Z")
  | 1 => ("java/lang/Integer", "DigitOnes", "[B")
  | 2 => ("java/lang/Integer", "DigitTens", "[B")
  | _ => ("jdk/internal/util/Preconditions", "SIOOBE_FORMATTER", "Ljava/util/function/BiFunction;")
def j_sta (bs : Nat) (E : j_E) (U : State) (H : Heap) : Prop := va_Z (j_stn 0).1 (j_stn 0).2.1 (j_stn 0).2.2 (.int 1) (j_A bs) U H ∧ va_Z (j_stn 1).1 (j_stn 1).2.1 (j_stn 1).2.2 (.ref (E.1 200)) (j_A bs) U H ∧ va_Z (j_stn 2).1 (j_stn 2).2.1 (j_stn 2).2.2 (.ref (E.1 201)) (j_A bs) U H ∧ va_Zq (j_stn 3).1 (j_stn 3).2.1 (j_stn 3).2.2 (j_A bs) U H
theorem j_sta_moved {bs : Nat} {E : j_E} {u U : State} {H : Heap} (hvm : u.vm.Alike U.vm) (h : j_sta bs E u H) : j_sta bs E U H := ⟨va_Z.moved hvm h.1, va_Z.moved hvm h.2.1, va_Z.moved hvm h.2.2.1, va_Zq.moved hvm h.2.2.2⟩
theorem j_sta_kept {bs : Nat} {E : j_E} {U : State} {H H1 : Heap} (h : j_sta bs E U H) (hq : ∀ a : Nat, a < H.size → ¬ j_A bs a → H1[a]? = H[a]?) : j_sta bs E U H1 := ⟨va_Z.kept h.1 hq, va_Z.kept h.2.1 hq, va_Z.kept h.2.2.1 hq, va_Zq.kept h.2.2.2 hq⟩
def j_env (D : va_G) (bs : Nat) (E : j_E) (U : State) : Prop := va_K D j_cl [] U ∧ (∀ (i : Nat) (z : String × Nat × String), j_strs[i]? = some z → vk_R z.1 z.2.1 z.2.2 (E.1 i) U) ∧ vx_Zq Bundle.tN "UNASSIGNED_STACK" Bundle.steD (j_A bs) U U.heap ∧ vx_Zq Bundle.tN "SUPPRESSED_SENTINEL" Bundle.listD (j_A bs) U U.heap ∧ va_AO "PacketScheduler$Link" U ∧ va_AO "java/lang/String" U ∧ j_sta bs E U U.heap
theorem j_env_moved {D : va_G} {bs : Nat} {E : j_E} {u U : State} (h : j_env D bs E u) (hW : u.WarmedH U.vm) (hk : ∀ a : Nat, a < u.heap.size → ¬ j_A bs a → U.heap[a]? = u.heap[a]?) : j_env D bs E U :=
  ⟨va_K.moved hW.alike h.1, fun i z hz => vk_R.warm hW (h.2.1 i z hz), (h.2.2.1.moved hW.alike).kept hk, (h.2.2.2.1.moved hW.alike).kept hk, h.2.2.2.2.1.moved hW.alike, h.2.2.2.2.2.1.moved hW.alike, j_sta_kept (j_sta_moved hW.alike h.2.2.2.2.2.2) hk⟩
def j_cn (E : j_E) (h0 h : j_H) : Prop := j_c h0 ≤ j_c h ∧ j_c h ≤ E.2.1 ∧ j_k h0 ≤ j_k h ∧ j_k h ≤ E.2.2
def j_Pc (D : va_G) (bs : Nat) (E : j_E) (as : List Value) (h : j_H) : Array Value → State → Prop := fun v U => v = as.toArray ∧ j_env D bs E U ∧ j_rep D bs U h U.heap
def j_QR (D : va_G) (bs : Nat) (E : j_E) (h : j_H) (post : j_O → j_H → Prop) : Array Value → State → Option Value → State → Nat → Nat → Prop := fun _ st v t mc ms => ∃ h' : j_H, post (.inl v) h' ∧ j_rep D bs t h' t.heap ∧ va_F (j_A bs) st t ∧ j_cn E h h' ∧ mc = j_c h' - j_c h ∧ ms = j_k h' - j_k h
def j_XC (D : va_G) (bs : Nat) (E : j_E) (h : j_H) (post : j_O → j_H → Prop) : String → State → State → Nat → Nat → Prop := fun X st t mc ms => ∃ (x : Nat) (h' : j_H), X = j_exn x ∧ post (.inr x) h' ∧ j_rep D bs t h' t.heap ∧ va_F (j_A bs) st t ∧ j_cn E h h' ∧ mc = j_c h' - j_c h ∧ ms = j_k h' - j_k h
abbrev j_Mi : Type := MethodName × ByteArray × Nat × Option FieldType × Nat
def j_Met (l : Launch) (D : va_G) (bs : Nat) (E : j_E) (d : Nat) : j_Cal := fun k as h post => ∃ mi : j_Mi, j_mt[k]? = some mi ∧ (mi.2.2.2.2 < 90 → ∃ (a : Nat) (r : List Value), as = .ref a :: r ∧ j_sh h a = some (.inr mi.2.2.2.2)) ∧ j_c h ≤ E.2.1 ∧ j_k h ≤ E.2.2 ∧
  MetFree l mi.1 (headSpec (Cond.code mi.1 mi.2.1 mi.2.2.1 mi.2.2.2.1 :: j_tbl) (j_room d E h)) (j_Pc D bs E as h) (fun _ _ _ _ _ => True) (j_QQ (j_QR D bs E h post) (j_XC D bs E h post) (j_A bs))
theorem j_Pc_blind {D : va_G} {bs : Nat} {E : j_E} {as : List Value} {h : j_H} : FrameBlind (j_Pc D bs E as h) := by
  intro a U g mk q
  obtain ⟨q1, ⟨q2, q3, q4, q5, q7, q8, q9⟩, q6⟩ := q
  exact ⟨q1, ⟨va_K.moved (u := U) (U := U.calling g mk a) (Vm.Alike.refl U.vm) q2, fun i z hz => vk_R.same (u := U) rfl (q3 i z hz), vx_Zq.moved (u := U) (U := U.calling g mk a) (Vm.Alike.refl U.vm) q4, vx_Zq.moved (u := U) (U := U.calling g mk a) (Vm.Alike.refl U.vm) q5, va_AO.moved (u := U) (U := U.calling g mk a) (Vm.Alike.refl U.vm) q7, va_AO.moved (u := U) (U := U.calling g mk a) (Vm.Alike.refl U.vm) q8, j_sta_moved (u := U) (U := U.calling g mk a) (Vm.Alike.refl U.vm) q9⟩, j_rep_moved (u := U) (Vm.Alike.refl U.vm) q6⟩
theorem j_QQ_mono {D : va_G} {bs : Nat} {E : j_E} {h : j_H} {P Q : j_O → j_H → Prop} (hPQ : ∀ o h', P o h' → Q o h') {a : Array Value} {st t : State} {o : Outcome} (q : j_QQ (j_QR D bs E h P) (j_XC D bs E h P) (j_A bs) a st o t) : j_QQ (j_QR D bs E h Q) (j_XC D bs E h Q) (j_A bs) a st o t := by
  rcases q with ⟨v, mc, ms, L, q1, ⟨h', g1, g2⟩, q2⟩ | ⟨q, mc, ms, X, ce, L, q1, ⟨x, h', g0, g1, g2⟩, q2⟩
  · exact Or.inl ⟨v, mc, ms, L, q1, ⟨h', hPQ _ _ g1, g2⟩, q2⟩
  · exact Or.inr ⟨q, mc, ms, X, ce, L, q1, ⟨x, h', g0, hPQ _ _ g1, g2⟩, q2⟩
/-! ===== a method's body ===== -/
section JBody
variable {p : Program} {l : Launch} {e : Env} {R : Room} {s : State} {m : MethodId} {args : Array Value} {below : List Frame} {meth : Method} {c : Code}
variable {D : va_G} {bs : Nat} {E : j_E} {h0 : j_H} {d : Nat} {own : String} {cc : ByteArray} {nL : Nat} {ret : Option FieldType}
/-- what holds in the body: nothing of it changes -/
def j_Ctx (p : Program) (l : Launch) (R : Room) (s : State) (m : MethodId) (args : Array Value) (meth : Method) (c : Code) (D : va_G) (bs : Nat) (E : j_E) (h0 : j_H) (d : Nat) (own : String) (cc : ByteArray) (nL : Nat) (ret : Option FieldType) : Prop :=
  p.tables.exec = Jvm.exec ∧ c.code = cc ∧ c.maxLocals = nL ∧ meth.sig.returnType = ret ∧ s.vm.findClass own = some m.cls ∧ (∀ w ∈ j_tbl, w.before args s = true) ∧ j_env D bs E s ∧ R = j_room (d + 1) E h0 ∧ meth.locks = false ∧ (∀ x ∈ c.exceptionTable.toList, False) ∧ l.stackTraces = false ∧ bs ≤ s.heap.size
def j_W (p : Program) (l : Launch) (e : Env) (R : Room) (s : State) (m : MethodId) (args : Array Value) (below : List Frame) (meth : Method) (c : Code) (D : va_G) (bs : Nat) (E : j_E) (h0 : j_H) (nL : Nat) (QQ : State → Prop) : j_G := fun pc lv st h =>
  ∀ (ls : Array Slot) (H : Heap) (locs : List Loc), lv_has ls nL (j_as 0 lv) → j_rep D bs s h H → va_S (j_A bs) s.heap H locs → j_cn E h0 h → W p l e R s m args below meth c H locs (j_c h - j_c h0) (j_k h - j_k h0) QQ (F0 m pc ls st)
/-- what the body owes at its end -/
def j_MQ (below : List Frame) (D : va_G) (bs : Nat) (E : j_E) (h0 : j_H) (post : j_O → j_H → Prop) (args : Array Value) (s : State) : State → Prop := fun t => ∃ o, t.status = .running ∧ Ended t below o ∧ j_QQ (j_QR D bs E h0 post) (j_XC D bs E h0 post) (j_A bs) args s o t
theorem j_Wimp {H : Heap} {locs : List Loc} {cells slots : Nat} {Q Q' : State → Prop} {g : JFrame} (h : ∀ t, Q t → Q' t) (k : W p l e R s m args below meth c H locs cells slots Q g) : W p l e R s m args below meth c H locs cells slots Q' g := by
  intro T hT X
  obtain ⟨t, a, b⟩ := k T hT X
  exact ⟨t, a, h t b⟩
/-- the end by a return: what the row gives is what the body owes -/
theorem j_fin {post : j_O → j_H → Prop} {h : j_H} {H : Heap} {locs : List Loc} {v : Option Value} (hR : j_rep D bs s h H) (hS : va_S (j_A bs) s.heap H locs) (hc : j_cn E h0 h) (hp : post (.inl v) h) (t : State)
    (q : MQ below (fun _ _ o t => o = .returned v ∧ t.heap = H ∧ s.WarmedH t.vm) args s (j_c h - j_c h0) (j_k h - j_k h0) (j_A bs) t) : j_MQ below D bs E h0 post args s t := by
  obtain ⟨o, q1, q2, ⟨rfl, q3, q4⟩, L, q5, q6⟩ := q
  exact ⟨_, q1, q2, Or.inl ⟨v, _, _, L, rfl, ⟨h, hp, by rw [q3]; exact j_rep_moved q4.alike hR, hS.F q3, hc, rfl, rfl⟩, q5, q6⟩⟩
end JBody

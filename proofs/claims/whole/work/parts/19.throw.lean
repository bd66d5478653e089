/-! ===== throws: 'throw new E("text")' where E's constructor calls its superclass's by the entry ix (follows vx_ctorMadeS and vx_throwS of the kit's text, the first constructor's bytes being given) ===== -/
section JXC
/-- follows the library's chainS, the first class's entry and bytes being given -/
def jx_chainA (X : String) (ix : Nat) (rx : ByteArray) : List String → List Cond
  | [] => Bundle.passSAtoms X Bundle.tN ix rx
  | Y :: r => Bundle.passSAtoms X Y ix rx ++ Bundle.chainSAtoms Y r
theorem jx_chain {args : Array Value} {s : State} {pl : Platform} (hpl : pl.magicAccessors = ({} : Platform).magicAccessors) {top : MethodId} (htop : s.methodNamed? (Bundle.initS Bundle.tN) = some top)
    {ix : Nat} {rx : ByteArray} (x0 : decode rx 0 = .ok (.aload_n 0, 1)) (x1 : decode rx 1 = .ok (.aload_n 1, 1)) (x2 : decode rx 2 = .ok (.invokespecial ix, 3)) (x5 : decode rx 5 = .ok (.return_, 1))
    (names : List String) (X : String) (hX : Bundle.fit X = true) (hn : ∀ n ∈ names, Bundle.fit n = true) (h : ∀ c ∈ jx_chainA X ix rx names, c.before args s = true) :
      ∃ (P1 : PassC) (Ps : List PassC), Ps.length = names.length ∧ P1.LinksS pl s ∧ (∀ P, P ∈ Ps → P.LinksS pl s) ∧ s.methodNamed? (Bundle.initS X) = some P1.m ∧
        P1.sup = firstOf top (Ps.map (·.toPassT)) ∧ PassesOn top (Ps.map (·.toPassT)) := by
  cases names with
  | nil =>
    obtain ⟨P, L, hm, hs⟩ := PassC.ofS_atoms (args := args) (s := s) hpl (X := X) (Y := Bundle.tN) (Bundle.fit_spec hX).1 (by decide) x0 x1 x2 x5 h
    exact ⟨P, [], rfl, L, (fun _ hP => by cases hP), hm, Option.some.inj (hs.symm.trans htop), trivial⟩
  | cons Y r =>
    obtain ⟨P, L, hm, hs⟩ := PassC.ofS_atoms (args := args) (s := s) hpl (X := X) (Y := Y) (Bundle.fit_spec hX).1 (Bundle.fit_spec (hn Y List.mem_cons_self)).2 x0 x1 x2 x5 (fun c hc => h c (List.mem_append_left _ hc))
    obtain ⟨P', Ps, hlen, L', hL, hm', hsup, hpass⟩ := Bundle.chainS (args := args) hpl htop r Y (hn Y List.mem_cons_self) (fun n hn' => hn n (List.mem_cons_of_mem _ hn')) (fun c hc => h c (List.mem_append_right _ hc))
    refine ⟨P, P' :: Ps, by simp [hlen], L, fun Q hQ => ?_, hm, Option.some.inj (hs.symm.trans hm'), hsup, hpass⟩
    rcases List.mem_cons.mp hQ with rfl | hQ
    · exact L'
    · exact hL Q hQ
def jx_own (own : String) (ic : Nat) (X : String) (ix : Nat) (rx : ByteArray) (names : List String) : List Cond :=
  Bundle.throwableAtoms ++ Bundle.throwableSAtoms ++ jx_chainA X ix rx names ++
  [.methodLink own ic (Bundle.initS X), .instantiable X 6, .castable X X, .selects X Bundle.tFill0 Bundle.tFill0, .selects X Bundle.tFill Bundle.tFill,
   .lays X Bundle.tN "cause" "Ljava/lang/Throwable;", .lays X Bundle.tN "stackTrace" Bundle.steD, .lays X Bundle.tN "suppressedExceptions" Bundle.listD, .lays X Bundle.tN "detailMessage" "Ljava/lang/String;",
   .isRef (.static Bundle.tN "UNASSIGNED_STACK" Bundle.steD), .isRef (.static Bundle.tN "SUPPRESSED_SENTINEL" Bundle.listD),
   .fieldLink Bundle.tN 198 Bundle.tN "backtrace" "Ljava/lang/Object;", .lays Bundle.tN Bundle.tN "backtrace" "Ljava/lang/Object;", .lays X Bundle.tN "backtrace" "Ljava/lang/Object;"]
variable {p : Program} {l : Launch} {e : Env} {R : Room} {s : State} {m₀ : MethodId} {args : Array Value} {below : List Frame} {meth : Method} {c : Code} {W : State} {locs : List Loc} {cells slots : Nat}
set_option maxHeartbeats 1000000 in
theorem jx_ctorMade (X : Stand p l e R s m₀ args below meth c W locs cells slots) (hexec : p.tables.exec = Jvm.exec) (htr : e.platform.stackTraces = false) {own cls : String} {names : List String} {ic : Nat}
    {ix : Nat} {rx : ByteArray} (x0 : decode rx 0 = .ok (.aload_n 0, 1)) (x1 : decode rx 1 = .ok (.aload_n 1, 1)) (x2 : decode rx 2 = .ok (.invokespecial ix, 3)) (x5 : decode rx 5 = .ok (.return_, 1))
    (hown : s.vm.findClass own = some m₀.cls) (hcls : Bundle.fit cls = true) (hnames : ∀ n ∈ names, Bundle.fit n = true)
    (h : ∀ a ∈ jx_own own ic cls ix rx names, a.before args s = true)
    (hlocs : ∀ x ∈ locs, ∀ cell, s.heap[x.base]? = some cell → cell.vm.isStatics = false)
    {a : Addr} {cX : ClassId} {kX : Class} (hfoundX : s.vm.findClass cls = some cX) (hkX : s.vm.classes[cX]? = some kX) (hcell : W.heap[a]? = some (freshCell cX kX)) (hnew : s.heap.size ≤ a)
    {msg : Value} (hmsg : msg.isRef = true)
    {g : JFrame} (hg : g.method = m₀) (hsize : g.locals.size = c.maxLocals) {rest : List Value} (hstack : g.stack = msg :: .ref a :: .ref a :: rest)
    (hd6 : decode c.code g.pc = .ok (.invokespecial ic, 3))
    (hRframes : names.length + 3 < R.frames) (hRlocals : 2 * g.monitorRoom + ((Value.ref a :: rest).map fun v => v.category).sum + (13 * (names.length + 1) + 42) ≤ R.locals) :
    ∃ (V : State) (ce : Cell) (L : List Loc), Stand p l e R s m₀ args below meth c (V.setCell a ce) (locs ++ L) cells slots ∧ (∀ y ∈ L, y.base = a) ∧ a < V.heap.size ∧ ce.cls = cX ∧ ce.vm = .none ∧
      ∀ target, Steps p.tables e below ((V.setCell a ce).setTop { g with stack := .ref a :: rest, pc := g.pc + 3 }) target → Steps p.tables e below (W.setTop g) target := by
  have howns : e.platform.frameOwnsMonitors = true := by rw [X.admits.platform]
  have hfin : e.platform.finalization = false := by rw [X.admits.platform]
  have hpl : e.platform.magicAccessors = ({} : Platform).magicAccessors := by rw [X.admits.platform]
  have a' : ∀ x, x ∈ jx_own own ic cls ix rx names → x.holds args s none s [] = true := fun x hx => h x hx
  obtain ⟨T, Z0, L, -, Y⟩ := ThrowableC.of_atoms (args := args) howns hfin hpl (fun x hx => h x (by simp [jx_own, hx]))
  obtain ⟨Z, M, LZ, LM, hnZ⟩ := Init0T.ofS_atoms (args := args) hpl L Y (fun x hx => h x (by simp [jx_own, hx]))
  obtain ⟨P1, Ps, hlen, L1, hL, hP1m, hlink1, hlink⟩ := jx_chain (args := args) hpl hnZ x0 x1 x2 x5 names cls hcls hnames (fun x hx => h x (by simp [jx_own, hx]))
  have hfound : s.vm.findClass cls = some P1.m.cls := findClass_of_methodNamed hP1m
  cases Option.some.inj (hfoundX.symm.trans hfound)
  obtain ⟨c1, kX', hc1, hk, hord, -, -, hn6⟩ := Cond.instantiable_spec (a' (.instantiable cls 6) (by simp [jx_own]))
  cases Option.some.inj (hc1.symm.trans hfound)
  cases Option.some.inj (hkX.symm.trans hk)
  have hsel0 : selectMethod e.platform s.vm P1.m.cls T.fill0 = .method T.fill0 := by
    obtain ⟨c2, r2, m2, q1, q2, q3, q4, -⟩ := Cond.selects_spec (a' (.selects cls Bundle.tFill0 Bundle.tFill0) (by simp [jx_own]))
    cases Option.some.inj (q1.symm.trans hfound)
    cases Option.some.inj (q2.symm.trans (State.methodFound?_of_named Y.fill0 (by decide)))
    cases Option.some.inj (q3.symm.trans Y.fill0)
    rw [Launch.admits_selectMethod X.admits]; exact q4
  have hselF : selectMethod e.platform s.vm P1.m.cls T.fill = .method T.fill := by
    obtain ⟨c2, r2, m2, q1, q2, q3, q4, -⟩ := Cond.selects_spec (a' (.selects cls Bundle.tFill Bundle.tFill) (by simp [jx_own]))
    cases Option.some.inj (q1.symm.trans hfound)
    cases Option.some.inj (q2.symm.trans (State.methodFound?_of_named Y.fill (by decide)))
    cases Option.some.inj (q3.symm.trans Y.fill)
    rw [Launch.admits_selectMethod X.admits]; exact q4
  obtain ⟨cellS0, hcS0, hiss⟩ := Y.statics
  obtain ⟨u0, hu0⟩ := Cond.staticRefV Y.unassigned L.unassignedStatic L.statics hcS0 hiss (a' (.isRef (.static Bundle.tN "UNASSIGNED_STACK" Bundle.steD)) (by simp [jx_own]))
  obtain ⟨sen, hsen⟩ := Cond.staticRefV Y.sentinel L.sentinelStatic L.statics hcS0 hiss (a' (.isRef (.static Bundle.tN "SUPPRESSED_SENTINEL" Bundle.listD)) (by simp [jx_own]))
  obtain ⟨ci198, i198, fB, hk198, hg198, ha198, hsB, -, hnB, htB, hffB⟩ := Cond.ownField (t := .object "java/lang/Object") Y.found L.cls (by decide +kernel) (a' (.fieldLink Bundle.tN 198 Bundle.tN "backtrace" "Ljava/lang/Object;") (by simp [jx_own])) (a' (.lays Bundle.tN Bundle.tN "backtrace" "Ljava/lang/Object;") (by simp [jx_own])) e.platform hpl
  obtain ⟨cellS, hcS', heS, -, hkeep⟩ := X.same.2.2.2.2.2 T.aS cellS0 hcS0
  have hcellS : W.heap[T.aS]? = some cellS := hcS'
  have hout' : ∀ i, (⟨T.aS, i⟩ : Loc) ∉ locs := fun i hmem => by
    have := hlocs _ hmem cellS0 hcS0
    rw [hiss] at this; cases this
  have hknownS : cellS.vm ≠ .unknown := by
    rw [heS]; intro hu
    rw [show cellS0.vm = .unknown from hu] at hiss
    cases hiss
  have hneS : T.aS ≠ a := Nat.ne_of_lt (Nat.lt_of_lt_of_le (Array.getElem?_eq_some_iff.mp hcS0).1 hnew)
  obtain ⟨iM, hffM⟩ := Y.msg
  obtain ⟨tyC, dC, hdC, hdnC⟩ := Cond.laysAt hfound hk Y.cause (a' (.lays cls Bundle.tN "cause" "Ljava/lang/Throwable;") (by simp [jx_own]))
  obtain ⟨tyS, dS, hdS, hdnS⟩ := Cond.laysAt hfound hk Y.stack (a' (.lays cls Bundle.tN "stackTrace" Bundle.steD) (by simp [jx_own]))
  obtain ⟨tyP, dP, hdP, hdnP⟩ := Cond.laysAt hfound hk Y.supp (a' (.lays cls Bundle.tN "suppressedExceptions" Bundle.listD) (by simp [jx_own]))
  obtain ⟨tyM, dM, hdM, hdnM⟩ := Cond.laysAt hfound hk hffM (a' (.lays cls Bundle.tN "detailMessage" "Ljava/lang/String;") (by simp [jx_own]))
  obtain ⟨tyB, dB, hdB, hdnB⟩ := Cond.laysAt hfound hk hffB (a' (.lays cls Bundle.tN "backtrace" "Ljava/lang/Object;") (by simp [jx_own]))
  have bC := Cond.laysApart hdB hdC hdnB hdnC (by rw [hnB, Y.causeName]; decide)
  have bS := Cond.laysApart hdB hdS hdnB hdnS (by rw [hnB, Y.stackName]; decide)
  have bP := Cond.laysApart hdB hdP hdnB hdnP (by rw [hnB, Y.suppName]; decide)
  have hskip : SkipFacts T e.platform s (fun u => u) u0 ((preparedCellV T.toThrowableT (freshCell P1.m.cls kX) a u0 sen).withEntry W.cur) :=
    ⟨{ ci198 := ci198, i198 := i198, fBack := fB }, ⟨hk198, hg198, ha198, hsB⟩, by
      have := fresh_default (c := P1.m.cls) tyB
      rw [htB] at this
      simpa [preparedCellV, Cell.setSlot, Cell.withEntry, Array.getElem?_setIfInBounds, bC, bS, bP, bC.symm, bS.symm, bP.symm, defaultValue] using this, fun _ _ => rfl⟩
  obtain ⟨tm, methC, cdC, kC, vm₁, hnC, -, -, -, -, -, -, -, hW₁, st1⟩ := Steps.initColdS (tb := p.tables) (e := e) (below := below) (s := s) (U := W) X.here hexec X.warmed hpl hown (t := Bundle.initS cls) rfl rfl (Bundle.fit_spec hcls).2
    (a' (.methodLink own ic (Bundle.initS cls)) (by simp [jx_own])) (h (.instanceMethod (Bundle.initS cls)) (by cases names <;> simp [jx_own, jx_chainA, Bundle.passSAtoms])) (bytes := rx) (maxL := 2) (h (.code (Bundle.initS cls) rx 2 none) (by cases names <;> simp [jx_own, jx_chainA, Bundle.passSAtoms]))
    (f := g) hg (a := a) (msg := msg) (rest := .ref a :: rest) hstack hd6
  cases Option.some.inj (hnC.symm.trans hP1m)
  have X₁ := X.noted hW₁
  obtain ⟨vm₂, X₂, st2⟩ := X₁.ctorMessageOffV hexec (g := { g with stack := .ref a :: rest }) hg hsize T L Z LZ M LM (P1 :: Ps)
    (fun P hP => by rcases List.mem_cons.mp hP with rfl | hP; exact L1; exact hL P hP) ⟨hlink1, hlink⟩ (u0 := u0) (sen := sen) (self := a) hmsg (cell := freshCell P1.m.cls kX) (cellS := cellS)
    hcell (fun _ => by simp) (by simp) rfl rfl hsel0 hselF hcellS hneS hknownS (by rw [hkeep _ (hout' _)]; exact hu0) (by rw [hkeep _ (hout' _)]; exact hsen)
    (Takes.of_laid hk hord tyC (by rw [Y.causeType]; rfl)) (Takes.of_laid hk hord tyS (by rw [Y.stackType]; exact fits_refV_array _ u0)) (Takes.of_laid hk hord tyP (by rw [Y.suppType]; exact fits_refV_object _ sen))
    (Takes.of_laid hk hord tyM (by rw [Y.msgType]; exact fits_refV_object _ ⟨msg, hmsg⟩)) Y.objLocals hskip htr [] hd6
    (by simp only [List.length_cons, hlen]; omega) (by simp only [List.length_cons, hlen]; exact hRlocals)
  have hlt : a < ((W.setVm vm₁).setVm vm₂).heap.size := (Array.getElem?_eq_some_iff.mp hcell).1
  refine ⟨(W.setVm vm₁).setVm vm₂, _, _, X₂, fun y hy => ?_, hlt, rfl, rfl, fun target hwalk => st1 _ (fun acts => ?_)⟩
  · simp only [List.mem_cons, List.not_mem_nil, or_false] at hy
    rcases hy with rfl | rfl | rfl | rfl | rfl <;> rfl
  · rw [doInvoke_state]
    exact st2 _ hwalk
end JXC
section JXT
variable {p : Program} {l : Launch} {e : Env} {R : Room} {s : State} {m : MethodId} {args : Array Value} {below : List Frame} {meth : Method} {c : Code}
variable {D : va_G} {bs : Nat} {E : j_E} {h0 : j_H} {d : Nat} {own : String} {cc : ByteArray} {nL : Nat} {ret : Option FieldType} {Q : j_O → j_H → Prop}
def jx_nc (cls : String) (w : Cond) : Bool := vx_no w && !decide (w = .castable cls cls) && !decide (w = .declares (Bundle.initS Bundle.tN)) && !decide (w = .declares (Bundle.initS "java/lang/Exception")) && !decide (w = .declares (Bundle.initS "java/lang/RuntimeException"))
theorem jx_decl {s : State} {args : Array Value} {y : MethodName} {b : ByteArray} {n : Nat} {r : Option FieldType} (h1 : (Cond.instanceMethod y).before args s = true) (h2 : (Cond.code y b n r).before args s = true) : (Cond.declares y).before args s = true := by
  obtain ⟨mk, methM, hnamed, hmethM, hstM, habM⟩ := Cond.instanceMethod_spec h1
  obtain ⟨methM', cM, hmethM', -, -, -, -, -, -, hsigM⟩ := Cond.code_spec hnamed h2
  cases hmethM.symm.trans hmethM'
  simp [Cond.before, Cond.holds, Cond.value, hnamed, hmethM, hstM, hsigM]
theorem j_rep_thr {U : State} {h : j_H} {H H' : Heap} (hR : j_rep D bs U h H) (h1 : H.size ≤ H'.size) (h2 : ∀ q, q < H.size → H'[q]? = H[q]?) : j_rep D bs U (j_thr h H'.size) H' := by
  refine ⟨rfl, ?_, fun a s hs => ?_⟩
  · show bs ≤ H'.size
    have := hR.2.1
    rw [← hR.1] at this
    omega
  · have g := hR.2.2 a s hs
    exact j_at_kept (h2 a (j_at_lt g)) (fun ty k => by cases ty <;> rfl) g
theorem jx_athrow {T2 U s' : State} {R' : Room} {L : List Loc} {k n pc : Nat} {q : Addr} {ls : Array Slot} {st : List Value} (X : Stand p l e R' s' m args below meth c T2 L k n) (hexec : p.tables.exec = Jvm.exec) (hdg' : decode c.code pc = .ok (.athrow, 1)) (st3 : Steps p.tables e below ((T2.setTop (F0 m pc ls st)).pushFrame (.throwing q)) U) : Steps p.tables e below (T2.setTop (F0 m pc ls (.ref q :: st))) U := by
  jvm_step X.here [X.here.top, hexec, hdg', athrow.wp_sem]
  exact st3
/-- the steps up to the throw, by one of two ways to push the text -/
theorem jx_throw (X : j_Ctx p l R s m args meth c D bs E h0 d own cc nL ret) {pc pi ik ic is x ix sa : Nat} {rx : ByteArray} {cls text : String} {lv st : List Value} {h : j_H} (x0 : decode rx 0 = .ok (.aload_n 0, 1)) (x1 : decode rx 1 = .ok (.aload_n 1, 1)) (x2 : decode rx 2 = .ok (.invokespecial ix, 3)) (x5 : decode rx 5 = .ok (.return_, 1))
    (hcls : Bundle.fit cls = true) (hxn : cls = j_exn x) (w1 : Cond.classLink own ik cls ∈ j_tbl) (w2 : Cond.initialized cls ∈ j_tbl) (w3 : ∀ w ∈ (jx_own own ic cls ix rx ["java/lang/RuntimeException", "java/lang/Exception"]).filter (jx_nc cls), w ∈ j_tbl) (hstr : vk_R own is text sa s)
    (d0 : decode cc pc = .ok (.new ik, 3)) (d3 : decode cc (pc + 3) = .ok (.dup, 1)) (d4 : (decode cc (pc + 4) = .ok (.ldc is, 2) ∧ pi = pc + 6) ∨ (decode cc (pc + 4) = .ok (.ldc_w is, 3) ∧ pi = pc + 7)) (d6 : decode cc pi = .ok (.invokespecial ic, 3)) (d9 : decode cc (pi + 3) = .ok (.athrow, 1))
    (hc1 : j_c h + 1 ≤ E.2.1) (hc2 : j_k h + 6 ≤ E.2.2) (hQ : ∀ z, j_z h ≤ z → Q (.inr x) (j_thr h z)) (hcw : j_cw st = true) : j_W p l e R s m args below meth c D bs E h0 nL (j_MQ below D bs E h0 Q args s) pc lv st h := by
  have X9 := X
  obtain ⟨hex, hb, hml, hr, hown, hts, henv, hRm, hlocks, htab, hst, hbs⟩ := X
  intro ls H locs hl hR hS hc T hT XX
  have hc9 := hc
  obtain ⟨a1, a2, a3, a4⟩ := hc9
  have hcat := j_cat hcw
  have htr : e.platform.stackTraces = false := (show e.platform.stackTraces = l.stackTraces by rw [XX.admits.platform]).trans hst
  have Y := vx_rebase XX (R' := { frames := R.frames, locals := R.locals, cells := 1, slots := 6 }) (Nat.le_refl _) (Nat.le_refl _) (by show (j_c h - j_c h0) + 1 ≤ R.cells; rw [hRm]; simp only [j_room]; omega) (by show (j_k h - j_k h0) + 6 ≤ R.slots; rw [hRm]; simp only [j_room]; omega)
  obtain ⟨s', hA⟩ : ∃ z, z = (T.setVm s.vm).setFrames (.invoking m args :: below) := ⟨_, rfl⟩
  rw [← hA] at Y
  have hvm : s'.vm = s.vm := by rw [hA]; rfl
  have hhp : s'.heap = H := by rw [hA]; exact hT
  have hW0 : s.WarmedH s'.vm := by rw [hvm]; exact State.WarmedH.refl s
  have hwd : ∀ w ∈ j_tbl, w.before args s' = true := fun w hw => word_at hW0 (j_tbl_good hw) (hts w hw)
  have hU' : vx_Zq Bundle.tN "UNASSIGNED_STACK" Bundle.steD (j_A bs) s' s'.heap := by rw [hhp]; exact vx_Zq.moved hW0.alike (henv.2.2.1.kept hS.2.1)
  have hN' : vx_Zq Bundle.tN "SUPPRESSED_SENTINEL" Bundle.listD (j_A bs) s' s'.heap := by rw [hhp]; exact vx_Zq.moved hW0.alike (henv.2.2.2.1.kept hS.2.1)
  have hins : (Cond.instantiable cls 6).before args s' = true := hwd _ (w3 _ (List.mem_filter.mpr ⟨by simp [jx_own], by simp [jx_nc, vx_no]⟩))
  have hcast : (Cond.castable cls cls).before args s' = true := by
    obtain ⟨cC, kC, hfc, -⟩ := Cond.instantiable_spec hins
    simp [Cond.before, Cond.holds, Cond.value, hfc, va_asg]
  have hin : ∀ w ∈ jx_own own ic cls ix rx ["java/lang/RuntimeException", "java/lang/Exception"], jx_nc cls w = true → w.before args s' = true := fun w g1 g2 => hwd w (w3 w (List.mem_filter.mpr ⟨g1, g2⟩))
  have hd1 : (Cond.declares (Bundle.initS Bundle.tN)).before args s' = true := jx_decl (hin (.instanceMethod (Bundle.initS Bundle.tN)) (by simp [jx_own, Bundle.throwableSAtoms]) (by simp [jx_nc, vx_no])) (hin (.code (Bundle.initS Bundle.tN) LibCode.Throwable.InitS.code 2 none) (by simp [jx_own, Bundle.throwableSAtoms]) (by simp [jx_nc, vx_no]))
  have hd2 : (Cond.declares (Bundle.initS "java/lang/Exception")).before args s' = true := jx_decl (hin (.instanceMethod (Bundle.initS "java/lang/Exception")) (by simp [jx_own, jx_chainA, Bundle.chainSAtoms, Bundle.passSAtoms]) (by simp [jx_nc, vx_no])) (hin (.code (Bundle.initS "java/lang/Exception") Bundle.six 2 none) (by simp [jx_own, jx_chainA, Bundle.chainSAtoms, Bundle.passSAtoms]) (by simp [jx_nc, vx_no]))
  have hd3 : (Cond.declares (Bundle.initS "java/lang/RuntimeException")).before args s' = true := jx_decl (hin (.instanceMethod (Bundle.initS "java/lang/RuntimeException")) (by simp [jx_own, jx_chainA, Bundle.chainSAtoms, Bundle.passSAtoms]) (by simp [jx_nc, vx_no])) (hin (.code (Bundle.initS "java/lang/RuntimeException") Bundle.six 2 none) (by simp [jx_own, jx_chainA, Bundle.chainSAtoms, Bundle.passSAtoms]) (by simp [jx_nc, vx_no]))
  have hw : ∀ w ∈ jx_own own ic cls ix rx ["java/lang/RuntimeException", "java/lang/Exception"], w.before args s' = true := vx_own (fun w hw => by
    obtain ⟨g1, g2⟩ := List.mem_filter.mp hw
    by_cases e1 : w = .castable cls cls
    · rw [e1]; exact hcast
    · by_cases e2 : w = .declares (Bundle.initS Bundle.tN)
      · rw [e2]; exact hd1
      · by_cases e3 : w = .declares (Bundle.initS "java/lang/Exception")
        · rw [e3]; exact hd2
        · by_cases e4 : w = .declares (Bundle.initS "java/lang/RuntimeException")
          · rw [e4]; exact hd3
          · exact hin w g1 (by simp [jx_nc, g2, e1, e2, e3, e4])) (vx_isRefq hU'.1) (vx_isRefq hN'.1) hU'.2.word hN'.2.word
  have hown' : s'.vm.findClass own = some m.cls := by rw [hvm]; exact hown
  obtain ⟨vm₁, cX, kX, hfX, hkX, -, -, X₁, st1⟩ := Y.newCold hex (own := own) (C := cls) (index := ik) (n := 6) hown' (hwd _ w1) hins (hwd _ w2)
    (g := F0 m pc ls st) rfl (by rw [hb]; exact d0) (Nat.le_refl _) (Nat.le_refl _)
  generalize hT1 : (T.setVm vm₁).pushCell { cls := cX, slots := kX.instanceTypes.map defaultValue, vm := .none } = T1 at X₁ st1
  have hcellA : T1.heap[T.heap.size]? = some (freshCell cX kX) := by rw [← hT1]; exact State.heap_pushCell_size _ _
  have d3' : decode c.code (pc + 3) = .ok (.dup, 1) := by rw [hb]; exact d3
  have hstr' : vk_R own is text sa s' := vk_R.warm hW0 hstr
  have hcatr : (Value.ref T.heap.size).category = 1 := rfl
  obtain ⟨V, ce, L2, X2, hL2, hlt, hcc, hcv, st2⟩ := jx_ctorMade X₁ hex htr x0 x1 x2 x5 (own := own) (cls := cls) (names := ["java/lang/RuntimeException", "java/lang/Exception"]) (ic := ic) hown' hcls (by decide) hw (fun x hx => nomatch hx) hfX hkX hcellA (by rw [hhp, hT]; exact Nat.le_refl _) (msg := .ref sa) rfl
    (g := { method := m, pc := pi, locals := ls, stack := .ref sa :: .ref T.heap.size :: .ref T.heap.size :: st, locked := none }) rfl (hl.1.trans hml.symm) (rest := st) rfl
    (by rw [hb]; exact d6) (by show 2 + 3 < R.frames; rw [hRm]; simp only [j_room]; omega) (by show 2 * 0 + _ + (13 * (2 + 1) + 42) ≤ R.locals; rw [hRm]; simp only [j_room, List.map_cons, List.sum_cons, hcatr]; omega)
  have hkX' : V.heap.size = V.heap.size := rfl
  obtain ⟨st3, hrun, hend, hW, hsm⟩ := X2.leaveThrown T.heap.size (g := F0 m (pi + 3) ls st) rfl rfl rfl (fun x hx => absurd hx (htab x)) hlocks
  have hce : ((V.setCell T.heap.size ce).setFrames (.throwing T.heap.size :: below)).heap[T.heap.size]? = some ce := by
    show (V.heap.setIfInBounds T.heap.size ce)[T.heap.size]? = some ce
    simp [Array.getElem?_setIfInBounds, hlt]
  generalize hU : (V.setCell T.heap.size ce).setFrames (.throwing T.heap.size :: below) = U at st3 hrun hend hW hsm hce
  obtain ⟨f1, f2⟩ := vx_frame hsm
  rw [hhp] at f1 f2
  have f3 : ∀ q, q < H.size → U.heap[q]? = H[q]? := fun q hq => f2 q hq (fun z hz => by
    have hz' : z ∈ L2 := by simpa using hz
    rw [hL2 z hz', hT]
    exact Nat.ne_of_gt hq)
  have hWs : s.WarmedH U.vm := State.WarmedH.trans hW0 hW
  have hall : s.sameButNew ({ U with vm := s.vm } : State) (locs ++ L2) (j_c h - j_c h0 + 1) (j_k h - j_k h0 + 6) := by
    subst hA
    obtain ⟨e1, e2⟩ := hsm
    rw [State.setFrames_setFrames] at e1
    have h2 : (T.setVm s.vm).sameButNew ({ U with vm := s.vm } : State) ([] ++ L2) (0 + 1) (0 + 6) := ⟨e1, e2⟩
    exact XX.same.trans h2
  have hcl : s.vm.findClass cls = some ce.cls := by rw [← hvm, hcc]; exact hfX
  have hz : j_z h ≤ U.heap.size := by rw [← hR.1]; exact f1
  refine ⟨U, ?_, .threw T.heap.size, hrun, hend, Or.inr ⟨T.heap.size, j_c h - j_c h0 + 1, j_k h - j_k h0 + 6, cls, ce, locs ++ L2, rfl, ⟨x, j_thr h U.heap.size, hxn, hQ _ hz, j_rep_moved hWs.alike (j_rep_thr hR f1 f3), ⟨Nat.le_trans hS.1 f1, fun q g1 g2 => (f3 q (Nat.lt_of_lt_of_le g1 hS.1)).trans (hS.2.1 q g1 g2)⟩, ⟨Nat.le_succ_of_le a1, hc1, Nat.le_trans a3 (Nat.le_add_right _ _), hc2⟩, ?_, ?_⟩, hce, hcv, hcl, hWs, hall, fun z hz => ?_⟩⟩
  · refine st1 _ ?_
    show Steps p.tables e below (T1.setTop { method := m, pc := pc + 3, locals := ls, stack := .ref T.heap.size :: st, locked := none }) _
    jvm_step X₁.here [X₁.here.top, hex, d3', Value.category]
    have hrest : Steps p.tables e below (T1.setTop { method := m, pc := pi, locals := ls, stack := .ref sa :: .ref T.heap.size :: .ref T.heap.size :: st, locked := none }) U := by
      refine st2 _ ?_
      have hd9 : decode c.code (pi + 3) = .ok (.athrow, 1) := by rw [hb]; exact d9
      show Steps p.tables e below ((V.setCell T.heap.size ce).setTop { method := m, pc := pi + 3, locals := ls, stack := .ref T.heap.size :: st, locked := none }) _
      exact jx_athrow X2 hex hd9 st3
    rcases d4 with ⟨d4, rfl⟩ | ⟨d4, rfl⟩
    · exact X₁.ldcString hex (own := own) (text := text) (index := is) (a := sa) hown' hstr'.1 hstr'.2
        (g := { method := m, pc := pc + 4, locals := ls, stack := .ref T.heap.size :: .ref T.heap.size :: st, locked := none }) rfl (by rw [hb]; exact d4) _ hrest
    · exact Stand.ldcStringW X₁ hex (own := own) (text := text) (index := is) (a := sa) hown' hstr'.1 hstr'.2
        (g := { method := m, pc := pc + 4, locals := ls, stack := .ref T.heap.size :: .ref T.heap.size :: st, locked := none }) rfl (by rw [hb]; exact d4) _ hrest
  · show _ = j_c h + 1 - j_c h0
    omega
  · show _ = j_k h + 6 - j_k h0
    omega
  · rcases List.mem_append.mp hz with g | g
    · exact hS.2.2 z g
    · rw [hL2 z g]
      show bs ≤ T.heap.size
      rw [hT, hR.1]
      exact hR.2.1
end JXT

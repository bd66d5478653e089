/-! ===== methods with a table of handlers: the law's wrappers ===== -/
section JPayW
variable {l : Launch} {R : Room} {p : Program} {e : Env} {below : List Frame} {s : State} {sargs : Array Value} {y : MethodName} {len W9 : Nat}
/-- follows j_back, for a method with handlers -/
theorem j_backW {hh : List (Nat × Nat × Nat × Nat)} {ws : List Cond} {rm : Room} {Pc : Array Value → State → Prop} {QR : Array Value → State → Option Value → State → Nat → Nat → Prop} {XC : String → State → State → Nat → Nat → Prop} {free : Addr → Prop} {bytes : ByteArray} {maxL : Nat} {ret : Option FieldType}
    (hM : MetFree l y (headSpec ws rm) Pc (fun _ _ _ _ _ => True) (j_QQ QR XC free)) (hblind : FrameBlind Pc)
    (hframes : rm.frames + 1 ≤ R.frames) (hlocals : W9 + (maxL + 11) + rm.locals ≤ R.locals)
    (hws : ∀ w ∈ ws, ∀ a' U, s.WarmedH U.vm → w.before a' U = true) (hcode : Cond.codeWith y bytes maxL ret hh ∈ ws) (hinit : ∀ a' U, s.WarmedH U.vm → (Cond.initialized y.cls).before a' U = true) :
    vx_Back l R p e below s sargs y len W9 (j_Pre R rm Pc) (j_Pst QR free) (j_PsX XC free) := by
  intro m meth c A g ig mk a X hg hsize hdg hW hn hp
  have h1 : (headSpec ws rm).pre.before a A.U = true := atoms_intro fun w hw => hws w hw _ _ X.warmed
  have h2 : (Cond.codeWith y bytes maxL ret hh).before a A.U = true := hws _ hcode _ _ X.warmed
  have h3 : (Cond.initialized y.cls).before a A.U = true := hinit _ _ X.warmed
  have h4 : A.cells + (headSpec ws rm).room.cells ≤ R.cells := hp.1
  have h5 : A.slots + (headSpec ws rm).room.slots ≤ R.slots := hp.2.1
  have hPc : Pc a (A.U.calling g mk a) := hblind _ _ _ _ hp.2.2
  obtain ⟨U, Ls, c0, s0⟩ := A
  dsimp only [Pt.U, Pt.locs, Pt.cells, Pt.slots] at h1 h2 h3 h4 h5 X hn hPc ⊢
  obtain ⟨m9, methY, cY, hn9, hmY, hcY, -, hlY, -⟩ := Cond.codeWith_spec h2
  cases Option.some.inj (hn9.symm.trans hn)
  obtain ⟨kY, hkY, -⟩ := className_of_methodNamed hn
  have hinitY : kY.init = .initialized := Cond.initialized_spec (findClass_of_methodNamed hn) hkY h3
  have h : At U g.method c below := by rw [hg]; exact X.here
  have hlocals9 : W9 + (maxL + 11) + (headSpec ws rm).room.locals ≤ R.locals := hlocals
  have happ : (headSpec ws rm).appliesLoose y e.platform (U.calling g mk a) = true :=
    Spec.appliesLoose_calling (g := g) h hdg hn hkY hinitY
      (X.room_calling (g := g) (R' := (headSpec ws rm).room) hsize hmY hcY hframes (by rw [hlY]; omega) h4 h5) h1
  obtain ⟨mid, hmid⟩ := h.above
  have hfr : (U.setTop g).frames = (.java g :: mid) ++ below := by rw [State.frames_setTop' g h.top, hmid]; rfl
  obtain ⟨o, s₂, hsteps, -, hend, hq⟩ := Steps.callFree hM p X.admits X.cas X.clock (acts := []) hfr happ hPc trivial
  have hq' : j_QQ QR XC free a (U.calling g mk a) o s₂ := hq
  rw [State.frames_setTop' g h.top] at hend
  obtain ⟨g₀, hg0⟩ := Option.isSome_iff_exists.mp h.top
  obtain ⟨r, hr⟩ := State.topJava?_eq_some.mp hg0
  have hr' : (({ U with heap := s₂.heap, slotsUsed := s₂.slotsUsed } : State).setVm s₂.vm).frames = .java g₀ :: r := hr
  rcases hq' with ⟨v, mc, ms, L, rfl, hqc, hfe, hL⟩ | ⟨q, mc, ms, E, ce, L, rfl, hx, hce, hcv, hcl, hW₂, hsm, hL⟩
  · obtain ⟨-, hW₂, e2, q2, q3, q4, q5, q6⟩ := id hfe
    have e3 : s₂ = ({ (U.calling g mk a).setFrames s₂.frames with heap := s₂.heap, slotsUsed := s₂.slotsUsed } : State).setVm s₂.vm := by
      have : s₂ = ({ s₂ with vm := (U.calling g mk a).vm } : State).setVm s₂.vm := rfl
      rw [e2] at this
      exact this
    obtain ⟨c₂, i₂, len₂, hc₂, hd₂, hf₂⟩ := hend
    have hW' : U.WarmedH s₂.vm := hW₂
    have hcc : c₂ = c := by
      have h1 : s₂.code? g.method = U.code? g.method := by
        rw [State.code?_eq, State.code?_eq, hW'.alike.method?]
      exact Option.some.inj (hc₂.symm.trans (h1.trans h.code))
    subst hcc
    have hlen : len₂ = len := by rw [hdg] at hd₂; cases hd₂; rfl
    subst hlen
    have hs₂ : s₂ = (({ U with heap := s₂.heap, slotsUsed := s₂.slotsUsed } : State).setVm s₂.vm).setTop { g with pc := g.pc + len₂, stack := v.toList ++ g.stack } := by
      refine e3.trans ?_
      rw [hf₂, State.calling_eq h.top, State.setFrames_setFrames, State.setTop_of_frames _ hr', hr]
      rfl
    have hsame : U.sameButNew ({ U with heap := s₂.heap, slotsUsed := s₂.slotsUsed } : State) L mc ms := by
      refine ⟨?_, q2, q3, q4, q5, q6⟩
      obtain ⟨t, ht, -⟩ := State.frames_cons hr
      show ({ U with heap := s₂.heap, slotsUsed := s₂.slotsUsed } : State) = { U.setFrames U.frames with heap := s₂.heap, slotsUsed := s₂.slotsUsed }
      rw [State.setFrames_self ht]
    subst hg
    refine Or.inl ⟨v, ⟨(({ U with heap := s₂.heap, slotsUsed := s₂.slotsUsed } : State).setVm s₂.vm), Ls ++ L, c0 + mc, s0 + ms⟩,
      ⟨X.admits, X.cas, X.clock, X.frames, X.room, X.hears, X.method, X.code, (X.here.setHeapUsed s₂.heap s₂.slotsUsed).setVm hW'.alike, X.tail, State.WarmedH.trans X.warmed hW', X.limits, X.bytes, X.same.trans (hsame.setVm s.vm)⟩,
      ⟨g, mk, s₂, L, mc, ms, rfl, rfl, hqc, rfl, hL, rfl, rfl⟩, ?_⟩
    show Steps p.tables e below _ ((({ U with heap := s₂.heap, slotsUsed := s₂.slotsUsed } : State).setVm s₂.vm).setTop { g with pc := g.pc + len₂, stack := v.toList ++ g.stack })
    rw [← hs₂]
    exact hsteps
  · obtain ⟨e2, q2, q3, q4, q5, q6⟩ := id hsm
    have e3 : s₂ = ({ (U.calling g mk a).setFrames s₂.frames with heap := s₂.heap, slotsUsed := s₂.slotsUsed } : State).setVm s₂.vm := by
      have : s₂ = ({ s₂ with vm := (U.calling g mk a).vm } : State).setVm s₂.vm := rfl
      rw [e2] at this
      exact this
    have hf₂ : s₂.frames = .throwing q :: .java g :: U.frames.tail := hend
    have hW' : U.WarmedH s₂.vm := hW₂
    have hs₂ : s₂ = ((({ U with heap := s₂.heap, slotsUsed := s₂.slotsUsed } : State).setVm s₂.vm).setTop g).pushFrame (.throwing q) := by
      refine e3.trans ?_
      rw [hf₂, State.calling_eq h.top, State.setFrames_setFrames, State.pushFrame, State.frames_setTop _ hr', State.setTop_of_frames _ hr', State.setFrames_setFrames, hr]
      rfl
    have hsame : U.sameButNew ({ U with heap := s₂.heap, slotsUsed := s₂.slotsUsed } : State) L mc ms := by
      refine ⟨?_, q2, q3, q4, q5, q6⟩
      obtain ⟨t, ht, -⟩ := State.frames_cons hr
      show ({ U with heap := s₂.heap, slotsUsed := s₂.slotsUsed } : State) = { U.setFrames U.frames with heap := s₂.heap, slotsUsed := s₂.slotsUsed }
      rw [State.setFrames_self ht]
    subst hg
    refine Or.inr ⟨q, ⟨(({ U with heap := s₂.heap, slotsUsed := s₂.slotsUsed } : State).setVm s₂.vm), Ls ++ L, c0 + mc, s0 + ms⟩,
      ⟨X.admits, X.cas, X.clock, X.frames, X.room, X.hears, X.method, X.code, (X.here.setHeapUsed s₂.heap s₂.slotsUsed).setVm hW'.alike, X.tail, State.WarmedH.trans X.warmed hW', X.limits, X.bytes, X.same.trans (hsame.setVm s.vm)⟩,
      ⟨g, mk, s₂, L, E, ce, mc, ms, rfl, rfl, hx, hce, hcv, hcl, rfl, hL, rfl, rfl⟩, ?_⟩
    show Steps p.tables e below _ (((({ U with heap := s₂.heap, slotsUsed := s₂.slotsUsed } : State).setVm s₂.vm).setTop g).pushFrame (.throwing q))
    rw [← hs₂]
    exact hsteps
end JPayW
/-- an IllegalArgumentException is no NoSuchElementException -/
def j_NC (U : State) : Prop := va_Nc "java/lang/IllegalArgumentException" "java/util/NoSuchElementException" U
/-- the exception no. x, thrown at pc, is caught and goes on at t -/
def j_ct (hh : List (Nat × Nat × Nat × Nat)) (pc x t : Nat) : Prop := ∃ (pre : List ExceptionTableEntry) (r : ExceptionTableEntry) (suf : List ExceptionTableEntry), tableOf hh = pre ++ r :: suf ∧ (∀ z ∈ pre, z.catchType ≠ 0 ∧ Cond.classLink RL z.catchType "java/util/NoSuchElementException" ∈ j_tbl ∧ x ≠ 0) ∧ covers r pc = true ∧ r.catchType ≠ 0 ∧ Cond.classLink RL r.catchType (j_exn x) ∈ j_tbl ∧ Cond.instantiable (j_exn x) 6 ∈ j_tbl ∧ r.handlerPc = t
/-- what may stand in a wrapper beside its call -/
def j_ckW (nL : Nat) (i : Instr) (n pc x : Nat) (v : Value) : Bool := match i with
  | .iconst k => n == 1 && decide (v = .int (Int32.ofInt k))
  | .lconst k => n == 1 && decide (v = .long (Int64.ofNat (k : Nat)))
  | .aload k => n == 2 && x == k
  | .aload_n k => n == 1 && x == (k : Nat)
  | .iload k => n == 2 && x == k
  | .iload_n k => n == 1 && x == (k : Nat)
  | .astore k => n == 2 && x == k && decide (x < nL)
  | .astore_n k => n == 1 && x == (k : Nat) && decide (x < nL)
  | .i2l => n == 1
  | .f2d => n == 1
  | .lastore => n == 1
  | .dastore => n == 1
  | .goto o => n == 3 && decide ((pc : Int) + o = (x : Int))
  | .ifCond .eq o => n == 3 && decide ((pc : Int) + o = (x : Int))
  | .ireturn => n == 1 && x == 0
  | _ => false
def j_ckLW (nL : Nat) (cc : ByteArray) : List j_N → Nat → Bool
  | [], _ => true
  | (i, n, x, _, v) :: is, pc => decide (decode cc pc = .ok (i, n)) && j_ckW nL i n pc x v && j_ckLW nL cc is (pc + n)
section JWr
variable {p : Program} {l : Launch} {e : Env} {R : Room} {s : State} {m : MethodId} {args : Array Value} {below : List Frame} {meth : Method} {c : Code}
variable {D : va_G} {bs : Nat} {E : j_E} {h0 : j_H} {d : Nat} {cc : ByteArray} {nL : Nat} {hh : List (Nat × Nat × Nat × Nat)}
/-- what holds in a wrapper's body -/
def j_Cw (p : Program) (l : Launch) (R : Room) (s : State) (m : MethodId) (args : Array Value) (meth : Method) (c : Code) (D : va_G) (bs : Nat) (E : j_E) (h0 : j_H) (d : Nat) (cc : ByteArray) (nL : Nat) (hh : List (Nat × Nat × Nat × Nat)) : Prop :=
  p.tables.exec = Jvm.exec ∧ c.code = cc ∧ c.maxLocals = nL ∧ meth.sig.returnType = some .int ∧ s.vm.findClass RL = some m.cls ∧ (∀ w ∈ j_tbl, w.before args s = true) ∧ j_env D bs E s ∧ R = j_room (d + 1) E h0 ∧ meth.locks = false ∧ c.exceptionTable.toList = tableOf hh ∧ j_NC s ∧ bs ≤ s.heap.size
set_option maxHeartbeats 4000000 in
theorem j_okW (X : j_Cw p l R s m args meth c D bs E h0 d cc nL hh) {C : j_Cal} {Q : j_O → j_H → Prop} {i : Instr} {n x y pc : Nat} {v : Value} {lv st : List Value} {h : j_H} {nx : List Value → List Value → j_H → Prop} (hd : decode cc pc = .ok (i, n)) (hck : j_ckW nL i n pc x v = true)
    (hnx : ∀ lv st h, nx lv st h → j_W p l e R s m args below meth c D bs E h0 nL (j_MQ below D bs E h0 Q args s) (pc + n) lv st h)
    (G : j_opB C (j_W p l e R s m args below meth c D bs E h0 nL (j_MQ below D bs E h0 Q args s)) Q i pc x y v lv st h E nx) : j_W p l e R s m args below meth c D bs E h0 nL (j_MQ below D bs E h0 Q args s) pc lv st h := by
  obtain ⟨hex, hb, hml, hr, hown, hts, henv, hRm, hlocks, htab, hnc, hbs⟩ := X
  cases i
  all_goals try exact absurd (show false = true from hck) (by decide)
  case iconst k =>
    simp only [j_ckW, Bool.and_eq_true, beq_iff_eq, decide_eq_true_eq] at hck
    obtain ⟨rfl, rfl⟩ := hck
    intro ls H locs hl hR hS hc
    exact lv_iconst hex hb hd rfl (hnx _ _ _ G ls H locs hl hR hS hc)
  case lconst k =>
    simp only [j_ckW, Bool.and_eq_true, beq_iff_eq, decide_eq_true_eq] at hck
    obtain ⟨rfl, rfl⟩ := hck
    intro ls H locs hl hR hS hc
    exact lv_lconst hex hb hd rfl (hnx _ _ _ G ls H locs hl hR hS hc)
  case iload k =>
    simp only [j_ckW, Bool.and_eq_true, beq_iff_eq] at hck
    obtain ⟨rfl, rfl⟩ := hck
    intro ls H locs hl hR hS hc
    simp only [j_opB, j_opA] at G
    split at G
    · rename_i a ha
      exact lv_iload hex hb hd (j_has_at hl ha rfl) (hnx _ _ _ G ls H locs hl hR hS hc)
    · exact G.elim
  case iload_n k =>
    simp only [j_ckW, Bool.and_eq_true, beq_iff_eq] at hck
    obtain ⟨rfl, rfl⟩ := hck
    intro ls H locs hl hR hS hc
    simp only [j_opB, j_opA] at G
    split at G
    · rename_i a ha
      exact lv_iload_n hex hb hd rfl (j_has_at hl ha rfl) (hnx _ _ _ G ls H locs hl hR hS hc)
    · exact G.elim
  case aload k =>
    simp only [j_ckW, Bool.and_eq_true, beq_iff_eq] at hck
    obtain ⟨rfl, rfl⟩ := hck
    intro ls H locs hl hR hS hc
    simp only [j_opB, j_opA] at G
    split at G
    · rename_i a ha
      exact lv_aload hex hb hd (j_has_at hl ha rfl) (hnx _ _ _ G ls H locs hl hR hS hc)
    · exact G.elim
  case aload_n k =>
    simp only [j_ckW, Bool.and_eq_true, beq_iff_eq] at hck
    obtain ⟨rfl, rfl⟩ := hck
    intro ls H locs hl hR hS hc
    simp only [j_opB, j_opA] at G
    split at G
    · rename_i a ha
      exact lv_aload_n hex hb hd rfl (j_has_at hl ha rfl) (hnx _ _ _ G ls H locs hl hR hS hc)
    · exact G.elim
  case astore k =>
    simp only [j_ckW, Bool.and_eq_true, beq_iff_eq, decide_eq_true_eq] at hck
    obtain ⟨⟨rfl, rfl⟩, hn⟩ := hck
    obtain ⟨a, r, rfl, g⟩ := j_r1_inv G
    intro ls H locs hl hR hS hc
    exact lv_astore hex hb hd hl hn rfl (fun ls hl => hnx _ _ _ g ls H locs (j_has_st1 hl) hR hS hc)
  case astore_n k =>
    simp only [j_ckW, Bool.and_eq_true, beq_iff_eq, decide_eq_true_eq] at hck
    obtain ⟨⟨rfl, rfl⟩, hn⟩ := hck
    obtain ⟨a, r, rfl, g⟩ := j_r1_inv G
    intro ls H locs hl hR hS hc
    exact lv_astore_n hex hb hd rfl hl hn rfl (fun ls hl => hnx _ _ _ g ls H locs (j_has_st1 hl) hR hS hc)
  case i2l =>
    simp only [j_ckW, beq_iff_eq] at hck
    subst hck
    obtain ⟨a, r, rfl, g⟩ := j_i1_inv G
    intro ls H locs hl hR hS hc
    exact lv_i2l hex hb hd rfl (hnx _ _ _ g ls H locs hl hR hS hc)
  case f2d =>
    simp only [j_ckW, beq_iff_eq] at hck
    subst hck
    obtain ⟨a, r, rfl, g0, g⟩ := j_f1_inv G
    intro ls H locs hl hR hS hc
    exact lv_f2d hex hb hd g0 (hnx _ _ _ g ls H locs hl hR hS hc)
  case lastore =>
    simp only [j_ckW, beq_iff_eq] at hck
    subst hck
    obtain ⟨a, i, w, r, rfl, g⟩ := j_ail_inv G
    obtain ⟨k, h1, h2, g⟩ := j_arr_inv g
    intro ls H locs hl hR hS hc
    obtain ⟨-, -, ce, c1, c2, c3, c4, c5, c6⟩ := j_rep_arr hR h1
    exact W.last hex hb c1 c2 c4.1 (by rw [c5]; exact h2) (g := F0 m pc ls (.long w :: .int i :: .ref a :: r)) rfl rfl hd (j_goes (h' := j_setL h a i.toNatClampNeg w) (by decide) hl hR hS hc h1 (j_lt h2) c2 c3 c4 c5 c6 rfl rfl rfl rfl (fun b hb ty j => j_fv_L hb) (by simp [j_fv, j_aty, j_setL, j_L, j_up]) (fun j hj => by simp [j_fv, j_aty, j_setL, j_L, j_up, hj]) (hnx _ _ _ g))
  case dastore =>
    simp only [j_ckW, beq_iff_eq] at hck
    subst hck
    obtain ⟨a, i, w, r, rfl, g⟩ := j_aid_inv G
    obtain ⟨k, h1, h2, g⟩ := j_arr_inv g
    intro ls H locs hl hR hS hc
    obtain ⟨-, -, ce, c1, c2, c3, c4, c5, c6⟩ := j_rep_arr hR h1
    exact W.dast hex hb c1 c2 c4.1 (by rw [c5]; exact h2) (g := F0 m pc ls (.double w :: .int i :: .ref a :: r)) rfl rfl hd (j_goes (h' := j_setD h a i.toNatClampNeg w) (by decide) hl hR hS hc h1 (j_lt h2) c2 c3 c4 c5 c6 rfl rfl rfl rfl (fun b hb ty j => j_fv_D hb) (by simp [j_fv, j_aty, j_setD, j_D, j_up]) (fun j hj => by simp [j_fv, j_aty, j_setD, j_D, j_up, hj]) (hnx _ _ _ g))
  case goto o =>
    simp only [j_ckW, Bool.and_eq_true, beq_iff_eq, decide_eq_true_eq] at hck
    obtain ⟨rfl, ht⟩ := hck
    intro ls H locs hl hR hS hc
    exact lv_goto hex hb hd ht (G ls H locs hl hR hS hc)
  case ifCond cd o =>
    cases cd
    all_goals try exact absurd (show false = true from hck) (by decide)
    simp only [j_ckW, Bool.and_eq_true, beq_iff_eq, decide_eq_true_eq] at hck
    obtain ⟨rfl, ht⟩ := hck
    obtain ⟨a, r, rfl, g⟩ := j_i1_inv G
    intro ls H locs hl hR hS hc
    have g2 := j_br (pc := 0) (n := 0) (x := 0) (o := 0) (fun g => g ls H locs hl hR hS hc) (fun g => hnx _ _ _ g ls H locs hl hR hS hc) g
    exact lv_if_eq hex hb hd ht g2.1 g2.2
  case ireturn =>
    simp only [j_ckW, Bool.and_eq_true, beq_iff_eq] at hck
    obtain ⟨rfl, rfl⟩ := hck
    simp only [j_opB] at G
    split at G
    · rename_i v
      intro ls H locs hl hR hS hc
      exact j_Wimp (j_fin hR hS hc G.2) (W.zret hex hb hr (j_narrow (Or.inl ⟨rfl, rfl⟩) G.1).1 (fun t g1 g2 => ⟨rfl, g1, g2⟩) (fun q hq => hS.2.2 q hq) hd hlocks)
    · exact G.elim
theorem j_sndW (X : j_Cw p l R s m args meth c D bs E h0 d cc nL hh) {C : j_Cal} {Q : j_O → j_H → Prop} : ∀ (is : List j_N) (pc : Nat) (lv st : List Value) (h : j_H), j_ckLW nL cc is pc = true →
      j_wp C (j_W p l e R s m args below meth c D bs E h0 nL (j_MQ below D bs E h0 Q args s)) Q E is pc lv st h → j_W p l e R s m args below meth c D bs E h0 nL (j_MQ below D bs E h0 Q args s) pc lv st h := by
  intro is
  induction is with
  | nil => intro pc lv st h _ G; exact G
  | cons a is ih =>
    obtain ⟨i, n, x, y, v⟩ := a
    intro pc lv st h hck G
    simp only [j_ckLW, Bool.and_eq_true, decide_eq_true_eq] at hck
    obtain ⟨⟨hd, h1⟩, h3⟩ := hck
    exact j_okW X hd h1 (fun lv st h g => ih _ _ _ _ h3 g) G
theorem j_afterW (X : j_Cw p l R s m args meth c D bs E h0 d cc nL hh) {Q PP : j_O → j_H → Prop} {h : j_H} {H : Heap} {locs : List Loc} {ls : Array Slot} {lv st0 rest : List Value} {pc : Nat} {a : Array Value} (hl : lv_has ls nL (j_as 0 lv)) (hS : va_S (j_A bs) s.heap H locs) (hcn : j_cn E h0 h)
    (hk : ∀ v h', PP (.inl v) h' → j_W p l e R s m args below meth c D bs E h0 nL (j_MQ below D bs E h0 Q args s) (pc + 3) lv (v.toList ++ rest) h') (hx : ∀ x h', PP (.inr x) h' → ∃ t, j_ct hh pc x t ∧ ∀ q, j_W p l e R s m args below meth c D bs E h0 nL (j_MQ below D bs E h0 Q args s) t lv [.ref q] h')
    {T : State} (hT : T.heap = H)
    (hd : (∃ (v : Option Value) (vm₁ : Vm) (B : Pt), s.WarmedH vm₁ ∧ Stand p l e R s m args below meth c B.U B.locs B.cells B.slots ∧ j_Pst (j_QR D bs E h PP) (j_A bs) ⟨T.setVm vm₁, locs, j_c h - j_c h0, j_k h - j_k h0⟩ a v B ∧
        ∀ target, Steps p.tables e below (B.U.setTop { F0 m pc ls st0 with pc := (F0 m pc ls st0).pc + 3, stack := v.toList ++ rest }) target → Steps p.tables e below (T.setTop (F0 m pc ls st0)) target) ∨
      (∃ (q : Addr) (vm₁ : Vm) (B : Pt), s.WarmedH vm₁ ∧ Stand p l e R s m args below meth c B.U B.locs B.cells B.slots ∧ j_PsX (j_XC D bs E h PP) (j_A bs) ⟨T.setVm vm₁, locs, j_c h - j_c h0, j_k h - j_k h0⟩ a q B ∧
        Steps p.tables e below (T.setTop (F0 m pc ls st0)) ((B.U.setTop { F0 m pc ls st0 with stack := rest }).pushFrame (.throwing q)))) :
    ∃ t, Steps p.tables e below (T.setTop (F0 m pc ls st0)) t ∧ j_MQ below D bs E h0 Q args s t := by
  obtain ⟨hex, hb, hml, hr, hown, hts, henv, hRm, hlocks, htab, hnc, hbs⟩ := X
  rcases hd with ⟨v, vm₁, ⟨U', l2, c2, s2⟩, hW₁, X', ⟨g', mk, t, L, mc, ms, e1, e2, ⟨h', hp, hrp, hF, hcn', hm1, hm2⟩, h1, hL, h2, h3⟩, st⟩ | ⟨q, vm₁, ⟨U', l2, c2, s2⟩, hW₁, X', ⟨g', mk, t, L, Z, ce, mc, ms, e1, e2, ⟨x, h', hZ, hp, hrp, hF, hcn', hm1, hm2⟩, hce, hcv, hcl, h1, hL, h2, h3⟩, st⟩
  · dsimp only [Pt.U, Pt.locs, Pt.cells, Pt.slots] at X' e1 e2 h1 h2 h3 st
    subst h1
    have k3 := (vx_keep (st₀ := (T.setVm vm₁).calling g' mk a) (t := t) (T' := U') (H := H) (A0 := j_A bs) (A1 := j_A bs) (free := j_A bs) hT e1 hS (fun _ _ z => z) (fun _ z => z) hL hF).2.2
    have hc2 : c2 = j_c h' - j_c h0 := by obtain ⟨a1, a2, a3, a4⟩ := hcn; obtain ⟨b1, b2, b3, b4⟩ := hcn'; omega
    have hs2 : s2 = j_k h' - j_k h0 := by obtain ⟨a1, a2, a3, a4⟩ := hcn; obtain ⟨b1, b2, b3, b4⟩ := hcn'; omega
    subst hc2; subst hs2
    have hal : t.vm.Alike s.vm := by rw [← e2]; exact X'.warmed.alike.symm
    obtain ⟨t2, a1, b1⟩ := hk v h' hp ls U'.heap (locs ++ L) hl (by rw [e1]; exact j_rep_moved hal hrp) k3 ⟨Nat.le_trans hcn.1 hcn'.1, hcn'.2.1, Nat.le_trans hcn.2.2.1 hcn'.2.2.1, hcn'.2.2.2⟩ U' rfl X'
    exact ⟨t2, st t2 a1, b1⟩
  · dsimp only [Pt.U, Pt.locs, Pt.cells, Pt.slots] at X' e1 e2 h1 h2 h3 st hcl
    subst h1
    have k3 := (vx_keep (st₀ := (T.setVm vm₁).calling g' mk a) (t := t) (T' := U') (H := H) (A0 := j_A bs) (A1 := j_A bs) (free := j_A bs) hT e1 hS (fun _ _ z => z) (fun _ z => z) hL hF).2.2
    have hc2 : c2 = j_c h' - j_c h0 := by obtain ⟨a1, a2, a3, a4⟩ := hcn; obtain ⟨b1, b2, b3, b4⟩ := hcn'; omega
    have hs2 : s2 = j_k h' - j_k h0 := by obtain ⟨a1, a2, a3, a4⟩ := hcn; obtain ⟨b1, b2, b3, b4⟩ := hcn'; omega
    subst hc2; subst hs2
    have hal : t.vm.Alike s.vm := by rw [← e2]; exact X'.warmed.alike.symm
    have hrp' : j_rep D bs s h' U'.heap := by rw [e1]; exact j_rep_moved hal hrp
    have hcn2 : j_cn E h0 h' := ⟨Nat.le_trans hcn.1 hcn'.1, hcn'.2.1, Nat.le_trans hcn.2.2.1 hcn'.2.2.1, hcn'.2.2.2⟩
    obtain ⟨tg, ⟨pre, rr, suf, g1, g2, g3, g4, g5, g6, rfl⟩, g8⟩ := hx x h' hp
    have kk := g8 q ls U'.heap (locs ++ L) hl hrp' k3 hcn2
    have ko := vx_catch (p := p) (l := l) (e := e) (R := R) (s := s) (m := m) (args := args) (below := below) (meth := meth) (c := c) (H := U'.heap) (locs := locs ++ L) (cells := j_c h' - j_c h0) (slots := j_k h' - j_k h0) (ls := ls) (rest := rest) (pc := pc) (E := Z) (ce := ce) (q := q) (name := j_exn x) hown pre rr suf (htab.trans g1)
      (fun z hz => by
        obtain ⟨y1, y2, y3⟩ := g2 z hz
        refine Or.inr ⟨y1, _, hts _ y2, ?_⟩
        rw [hZ]
        cases x with
        | zero => exact absurd rfl y3
        | succ x => exact hnc) g3 g4 (hts _ g5) (by
        rw [hZ]
        obtain ⟨cC, kC, hfc, -⟩ := Cond.instantiable_spec (hts _ g6)
        simp [Cond.before, Cond.holds, Cond.value, hfc, va_asg]) (by rw [e1]; exact hce) hcv (vx_cls hW₁ hcl) kk
    obtain ⟨t2, a1, b1⟩ := ko U' rfl X'
    exact ⟨t2, st.trans a1, b1⟩
theorem j_bkw (X : j_Cw p l R s m args meth c D bs E h0 d cc nL hh) {PP : j_O → j_H → Prop} {h : j_H} {as : List Value} {mi : j_Mi} (hM : MetFree l mi.1 (headSpec (Cond.code mi.1 mi.2.1 mi.2.2.1 mi.2.2.2.1 :: j_tbl) (j_room d E h)) (j_Pc D bs E as h) (fun _ _ _ _ _ => True) (j_QQ (j_QR D bs E h PP) (j_XC D bs E h PP) (j_A bs)))
    (hmx : mi.2.2.1 ≤ 45) (hc : Cond.code mi.1 mi.2.1 mi.2.2.1 mi.2.2.2.1 ∈ j_tbl) (hi : Cond.initialized mi.1.cls ∈ j_tbl) :
    vx_Back l R p e below s args mi.1 3 8 (j_Pre R (j_room d E h) (j_Pc D bs E as h)) (j_Pst (j_QR D bs E h PP) (j_A bs)) (j_PsX (j_XC D bs E h PP) (j_A bs)) := by
  obtain ⟨hex, hb, hml, hr, hown, hts, henv, hRm, hlocks, htab, hnc, hbs⟩ := X
  refine j_back (bytes := mi.2.1) (maxL := mi.2.2.1) (ret := mi.2.2.2.1) hM j_Pc_blind ?_ ?_ ?_ List.mem_cons_self ?_
  · rw [hRm]; simp only [j_room]; omega
  · rw [hRm]; simp only [j_room]; omega
  · intro w hw a' U hW
    rcases List.mem_cons.mp hw with rfl | hw
    · exact word_at hW (j_tbl_good hc) (hts _ hc)
    · exact word_at hW (j_tbl_good hw) (hts _ hw)
  · intro a' U hW
    exact word_at hW (j_tbl_good hi) (hts _ hi)
theorem j_prew (X : j_Cw p l R s m args meth c D bs E h0 d cc nL hh) {h : j_H} {as : List Value} {H : Heap} {locs : List Loc} (hR : j_rep D bs s h H) (hS : va_S (j_A bs) s.heap H locs) (hcn : j_cn E h0 h) {T : State} (hT : T.heap = H) (vm₁ : Vm) (hW : s.WarmedH vm₁) :
    j_Pre R (j_room d E h) (j_Pc D bs E as h) ⟨T.setVm vm₁, locs, j_c h - j_c h0, j_k h - j_k h0⟩ as.toArray := by
  obtain ⟨hex, hb, hml, hr, hown, hts, henv, hRm, hlocks, htab, hnc, hbs⟩ := X
  obtain ⟨a1, a2, a3, a4⟩ := hcn
  refine ⟨?_, ?_, rfl, ?_, ?_⟩
  · rw [hRm]
    show (j_c h - j_c h0) + (E.2.1 - j_c h) ≤ E.2.1 - j_c h0
    omega
  · rw [hRm]
    show (j_k h - j_k h0) + (E.2.2 - j_k h) ≤ E.2.2 - j_k h0
    omega
  · refine j_env_moved (U := T.setVm vm₁) henv hW (fun a ha hn => ?_)
    show T.heap[a]? = _
    rw [hT]
    exact hS.2.1 a ha hn
  · show j_rep D bs (T.setVm vm₁) h T.heap
    rw [hT]
    exact j_rep_moved hW.alike hR
theorem j_callW (X : j_Cw p l R s m args meth c D bs E h0 d cc nL hh) {Q PP : j_O → j_H → Prop} {h : j_H} {lv As rest : List Value} {pc k idx a : Nat} {mi : j_Mi} {r : vw_C} (hC : j_Met l D bs E d k (.ref a :: As) h PP) (hmi : j_mt[k]? = some mi) (hcl : j_cl[mi.2.2.2.2]? = some r)
    (hmx : mi.2.2.1 ≤ 45) (hc : Cond.code mi.1 mi.2.1 mi.2.2.1 mi.2.2.2.1 ∈ j_tbl) (hi : Cond.initialized mi.1.cls ∈ j_tbl) (hlk : Cond.methodLink RL idx mi.1 ∈ j_tbl) (hin : Cond.instanceMethod mi.1 ∈ j_tbl) (hse : Cond.selects r.1 mi.1 mi.1 ∈ j_tbl) (hy : mi.1.cls ≠ "java/lang/invoke/MethodHandle" ∧ mi.1.cls ≠ "java/lang/invoke/VarHandle")
    (hn : ∀ sig, parseMethodDescriptor mi.1.desc = some sig → As.length = sig.parameters.length) (hw : j_cw rest = true) (hdg : decode cc pc = .ok (.invokevirtual idx, 3))
    (hk : ∀ v h', PP (.inl v) h' → j_W p l e R s m args below meth c D bs E h0 nL (j_MQ below D bs E h0 Q args s) (pc + 3) lv (v.toList ++ rest) h') (hx : ∀ x h', PP (.inr x) h' → ∃ t, j_ct hh pc x t ∧ ∀ q, j_W p l e R s m args below meth c D bs E h0 nL (j_MQ below D bs E h0 Q args s) t lv [.ref q] h') :
    j_W p l e R s m args below meth c D bs E h0 nL (j_MQ below D bs E h0 Q args s) pc lv (As.reverse ++ .ref a :: rest) h := by
  intro ls H locs hl hR hS hcn T hT XX
  obtain ⟨mi', hmi', hrc, -, -, hM⟩ := hC
  cases Option.some.inj (hmi.symm.trans hmi')
  have hlt : mi.2.2.2.2 < 90 := by
    have := (List.getElem?_eq_some_iff.mp hcl).1
    simp at this
    omega
  obtain ⟨a', r', e1, hsh⟩ := hrc hlt
  have ea : a = a' := by cases e1; rfl
  subst ea
  have hb' := j_bkw (e := e) (below := below) X hM hmx hc hi
  obtain ⟨r2, hr2, ce, q1, q2, q3, q4⟩ := j_rep_obj hR hsh
  cases Option.some.inj (hcl.symm.trans hr2)
  have X' := X
  obtain ⟨hex, hb, hml, hr, hown, hts, henv, hRm, hlocks, htab, hnc, hbs⟩ := X'
  obtain ⟨-, hfc, -⟩ := henv.1.1 _ _ hcl
  refine j_afterW X hl hS hcn hk hx hT (vx_callV XX hex (C := r.1) (bytes := mi.2.1) (maxL := mi.2.2.1) (ret := mi.2.2.2.1) hown (hts _ hlk) (hts _ hin) (hts _ hse) (hts _ hc) hy hb' (b := a) (cellB := ce) (by rw [hT]; exact q1) q3.1 (by rw [q2]; exact hfc) rfl (hl.1.trans hml.symm) (argsL := As) (rest := rest) hn rfl ?_ (by rw [hb]; exact hdg) (fun vm₁ hW => j_prew X hR hS hcn hT vm₁ hW))
  show 2 * 0 + _ ≤ 8
  have := j_cat hw
  omega
end JWr
/-- a wrapper: its name, code, locals, handlers -/
abbrev j_Wi : Type := MethodName × ByteArray × Nat × List (Nat × Nat × Nat × Nat)
def j_PcW (D : va_G) (bs : Nat) (E : j_E) (as : List Value) (h : j_H) : Array Value → State → Prop := fun v U => j_Pc D bs E as h v U ∧ j_NC U
theorem j_PcW_blind {D : va_G} {bs : Nat} {E : j_E} {as : List Value} {h : j_H} : FrameBlind (j_PcW D bs E as h) := by
  intro a U g mk q
  exact ⟨j_Pc_blind _ _ _ _ q.1, va_Nc.moved (u := U) (U := U.calling g mk a) (Vm.Alike.refl U.vm) q.2⟩
def j_MetW (l : Launch) (D : va_G) (bs : Nat) (E : j_E) (d : Nat) (w : j_Wi) (as : List Value) (h : j_H) (post : j_O → j_H → Prop) : Prop := j_c h ≤ E.2.1 ∧ j_k h ≤ E.2.2 ∧
  MetFree l w.1 (headSpec (Cond.codeWith w.1 w.2.1 w.2.2.1 (some .int) w.2.2.2 :: j_tbl) (j_room d E h)) (j_PcW D bs E as h) (fun _ _ _ _ _ => True) (j_QQ (j_QR D bs E h post) (j_XC D bs E h post) (j_A bs))
/-- a wrapper's blocks and its one call are in order -/
def j_goodW (w : j_Wi) (bl : List (Nat × List j_N)) (pc idx k : Nat) (mi : j_Mi) : Prop := plainName w.1.cls = true ∧ w.1.cls = RL ∧ (∀ b ∈ bl, j_ckLW w.2.2.1 w.2.1 b.2 b.1 = true) ∧ decode w.2.1 pc = .ok (.invokevirtual idx, 3) ∧ j_mt[k]? = some mi ∧ j_ok2 mi = true ∧ mi.2.2.2.2 = 10 ∧ ∀ z ∈ [Cond.code mi.1 mi.2.1 mi.2.2.1 mi.2.2.2.1, .initialized mi.1.cls, .methodLink RL idx mi.1, .instanceMethod mi.1, .selects RX8 mi.1 mi.1], z ∈ j_tbl
/-- closed under a wrapper's blocks and its call -/
def j_cloW (C : j_Cal) (E : j_E) (Q : j_O → j_H → Prop) (w : j_Wi) (bl : List (Nat × List j_N)) (pc k n : Nat) (G : j_G) : Prop := (∀ b ∈ bl, ∀ lv st h, j_wp C G Q E b.2 b.1 lv st h → G b.1 lv st h) ∧
  ∀ (lv As rest : List Value) (a : Nat) (h : j_H), As.length = n → j_cw rest = true → C k (.ref a :: As) h (fun o h' => match o with
    | .inl v => G (pc + 3) lv (v.toList ++ rest) h'
    | .inr x => ∃ t, j_ct w.2.2.2 pc x t ∧ ∀ q, G t lv [.ref q] h') → G pc lv (As.reverse ++ .ref a :: rest) h
theorem j_methW {l : Launch} {D : va_G} {bs : Nat} {E : j_E} {d k pc idx n : Nat} {as : List Value} {h : j_H} {post : j_O → j_H → Prop} {w : j_Wi} {mi : j_Mi} {bl : List (Nat × List j_N)} (hg : j_goodW w bl pc idx k mi) (hnp : j_np mi n = true) (hlen : (lg_sl as).length ≤ w.2.2.1) (hc1 : j_c h ≤ E.2.1) (hc2 : j_k h ≤ E.2.2)
    (H : ∀ G : j_G, j_cloW (j_Met l D bs E d) E post w bl pc k n G → G 0 (j_pad w.2.2.1 (j_exp as)) [] h) : j_MetW l D bs E (d + 1) w as h post := by
  obtain ⟨g1, g2, g3, g4, g5, g6, g7, g8⟩ := hg
  refine ⟨hc1, hc2, ?_⟩
  refine MetFree.of_bodyS (code := w.2.1) (maxLocals := w.2.2.1) (ret := some .int) g1 ?_ ?_
  · intro args s m hp hn
    obtain ⟨m9, meth, c, hn9, h1, h2, h3, h4, -, h5, h6, -⟩ := Cond.codeWith_spec (atoms_spec (ws := Cond.codeWith w.1 w.2.1 w.2.2.1 (some .int) w.2.2.2 :: j_tbl) hp _ List.mem_cons_self)
    cases hn.symm.trans hn9
    exact ⟨meth, c, h1, h2, h3, h4, h5, h6⟩
  · intro p e s m args below meth c s₁ B hml hP _
    obtain ⟨⟨rfl, henv, hR⟩, hnc⟩ := hP
    have hh0 : s₁.heap = s.heap := by rw [B.state]; rfl
    have hts0 := atoms_spec (ws := Cond.codeWith w.1 w.2.1 w.2.2.1 (some .int) w.2.2.2 :: j_tbl) B.pre
    have htab := vx_table (x := w.1) B (hts0 _ List.mem_cons_self)
    have hown : s.vm.findClass RL = some m.cls := by rw [← g2]; exact findClass_of_methodNamed B.named
    have X : j_Cw p l (j_room (d + 1) E h) s m as.toArray meth c D bs E h d w.2.1 w.2.2.1 w.2.2.2 := ⟨B.exec, B.bytes, hml, B.returns, hown, fun w hw => hts0 w (List.mem_cons_of_mem _ hw), henv, rfl, B.notSynchronized, htab, hnc, by rw [hR.1]; exact hR.2.1⟩
    have K := H (j_W p l e (j_room (d + 1) E h) s m as.toArray below meth c D bs E h w.2.2.1 (j_MQ below D bs E h post as.toArray s)) ⟨fun b hb lv st h' g => j_sndW X b.2 b.1 lv st h' (g3 b hb) g, fun lv As rest a h' hn hw hC => by
      refine j_callW X hC g5 (r := (RX8, TX8, 10)) (by rw [g7]; rfl) (j_ok2_spec g6).1 (g8 _ (by simp)) (g8 _ (by simp)) (g8 (.methodLink RL idx mi.1) (by simp)) (g8 _ (by simp)) (g8 _ (by simp)) (j_ok2_spec g6).2 (fun sig hs => by rw [hn]; exact j_np_spec hnp sig hs) hw g4 (fun v h2 g9 => g9) (fun x h2 g9 => g9)⟩
    have hl0 := lv_entry as (n := w.2.2.1) hlen
    have K2 := K _ s.heap [] (j_ent hl0) hR va_S.rf ⟨Nat.le_refl _, hc1, Nat.le_refl _, hc2⟩
    rw [Nat.sub_self, Nat.sub_self] at K2
    have K3 : W p l e (j_room (d + 1) E h) s m as.toArray below meth c s.heap [] 0 0 (j_MQ below D bs E h post as.toArray s) (entryFrame m as.toArray w.2.2.1) := by
      rw [lg_entry_eq]
      exact K2
    obtain ⟨t, a1, o, b1, b2, b3⟩ := K3 s₁ hh0 (Stand.of_body B)
    exact ⟨t, o, a1, b1, b2, b3⟩

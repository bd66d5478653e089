/-! ===== a method by its blocks ===== -/
def j_exp : List Value → List Value
  | [] => []
  | .long a :: vs => .long a :: j_u :: j_exp vs
  | .double a :: vs => .double a :: j_u :: j_exp vs
  | .int a :: vs => .int a :: j_exp vs
  | .float a :: vs => .float a :: j_exp vs
  | .null :: vs => .null :: j_exp vs
  | .ref a :: vs => .ref a :: j_exp vs
  | .retAddr a :: vs => .retAddr a :: j_exp vs
def j_pad : Nat → List Value → List Value
  | 0, _ => []
  | n + 1, [] => j_u :: j_pad n []
  | n + 1, v :: vs => v :: j_pad n vs
theorem j_pad_get {n : Nat} : ∀ {vs : List Value} {j : Nat} {w : Value}, (j_pad n vs)[j]? = some w → j_ks w = true → vs[j]? = some w := by
  induction n with
  | zero => intro vs j w h; simp [j_pad] at h
  | succ n ih =>
    intro vs j w h hk
    cases vs with
    | nil =>
      cases j with
      | zero =>
        have e : j_u = w := by simpa [j_pad] using h
        subst e
        cases hk
      | succ j => exact absurd (ih (vs := []) (j := j) (by simpa [j_pad] using h) hk) (by simp)
    | cons v vs =>
      cases j with
      | zero => simpa [j_pad] using h
      | succ j => simpa using ih (vs := vs) (j := j) (by simpa [j_pad] using h) hk
theorem j_exp_args {vs : List Value} : ∀ {k j : Nat} {w : Value}, (j_exp vs)[j]? = some w → j_ks w = true → (k + j, w) ∈ lv_args k vs := by
  induction vs with
  | nil => intro k j w h; simp [j_exp] at h
  | cons v vs ih =>
    intro k j w h hk
    have two : ∀ {u : Value}, u.category = 2 → (u :: j_u :: j_exp vs)[j]? = some w → (k + j, w) ∈ lv_args k (u :: vs) := by
      intro u hu h
      simp only [lv_args, hu, if_true]
      match j, h with
      | 0, h =>
        have e : u = w := by simpa using h
        rw [e]; exact List.mem_cons_self
      | 1, h =>
        have e : j_u = w := by simpa using h
        subst e; cases hk
      | j + 2, h =>
        have := ih (k := k + 2) (j := j) (by simpa using h) hk
        rw [show k + (j + 2) = k + 2 + j by omega]
        exact List.mem_cons_of_mem _ this
    have one : ∀ {u : Value}, u.category ≠ 2 → (u :: j_exp vs)[j]? = some w → (k + j, w) ∈ lv_args k (u :: vs) := by
      intro u hu h
      simp only [lv_args, hu, if_false]
      match j, h with
      | 0, h =>
        have e : u = w := by simpa using h
        rw [e]; exact List.mem_cons_self
      | j + 1, h =>
        have := ih (k := k + 1) (j := j) (by simpa using h) hk
        rw [show k + (j + 1) = k + 1 + j by omega]
        exact List.mem_cons_of_mem _ this
    cases v <;> simp only [j_exp] at h
    · exact one (by simp [Value.category]) h
    · exact two rfl h
    · exact one (by simp [Value.category]) h
    · exact two rfl h
    · exact one (by simp [Value.category]) h
    · exact one (by simp [Value.category]) h
    · exact one (by simp [Value.category]) h
theorem j_ent {n : Nat} {vs : List Value} {ls : Array Slot} (h : lv_has ls n (lv_args 0 vs)) : lv_has ls n (j_as 0 (j_pad n (j_exp vs))) := by
  refine j_has_sub h (fun q hq => ?_)
  obtain ⟨j, h1, h2, h3⟩ := j_as_mem.mp hq
  have := j_exp_args (k := 0) (j_pad_get h2 h3) h3
  rw [show q = (0 + j, q.2) from Prod.ext h1 rfl]
  exact this
/-- a throw's five instructions -/
def j_thw (own : String) (idx ic x is : Nat) : Bool := decide (own = RX8) && ((x == 0 && idx == 151 && ic == 155) || (x == 1 && idx == 197 && ic == 201)) && j_strs.any (fun z => decide (z.1 = own) && z.2.1 == is)
def j_thL (own : String) (cc : ByteArray) (pc idx x ic is : Nat) : Prop := j_thw own idx ic x is = true ∧ decode cc (pc + 3) = .ok (.dup, 1) ∧ ((decode cc (pc + 4) = .ok (.ldc is, 2) ∧ decode cc (pc + 6) = .ok (.invokespecial ic, 3) ∧ decode cc (pc + 9) = .ok (.athrow, 1)) ∨ (decode cc (pc + 4) = .ok (.ldc_w is, 3) ∧ decode cc (pc + 7) = .ok (.invokespecial ic, 3) ∧ decode cc (pc + 10) = .ok (.athrow, 1)))
def j_ckT (own : String) (cc : ByteArray) (pc idx x : Nat) : Bool := match decode cc (pc + 4) with
  | .ok (.ldc is, 2) => (match decode cc (pc + 6) with
    | .ok (.invokespecial ic, 3) => j_thw own idx ic x is && decide (decode cc (pc + 3) = .ok (.dup, 1)) && decide (decode cc (pc + 9) = .ok (.athrow, 1))
    | _ => false)
  | .ok (.ldc_w is, 3) => (match decode cc (pc + 7) with
    | .ok (.invokespecial ic, 3) => j_thw own idx ic x is && decide (decode cc (pc + 3) = .ok (.dup, 1)) && decide (decode cc (pc + 10) = .ok (.athrow, 1))
    | _ => false)
  | _ => false
theorem j_ckT_spec {own : String} {cc : ByteArray} {pc idx x : Nat} (h : j_ckT own cc pc idx x = true) : ∃ ic is, j_thL own cc pc idx x ic is := by
  unfold j_ckT at h
  split at h
  · rename_i is e1
    split at h
    · rename_i ic e2
      simp only [Bool.and_eq_true, decide_eq_true_eq] at h
      exact ⟨ic, is, h.1.1, h.1.2, Or.inl ⟨e1, e2, h.2⟩⟩
    · cases h
  · rename_i is e1
    split at h
    · rename_i ic e2
      simp only [Bool.and_eq_true, decide_eq_true_eq] at h
      exact ⟨ic, is, h.1.1, h.1.2, Or.inr ⟨e1, e2, h.2⟩⟩
    · cases h
  · cases h
def j_ckTh (own : String) (cc : ByteArray) (i : Instr) (pc x : Nat) (v : Value) : Bool := match i, v with
  | .new _, .ref _ => true
  | .new idx, _ => j_ckT own cc pc idx x
  | _, _ => true
def j_ckL (own : String) (ini : Bool) (ret : Option FieldType) (nL : Nat) (cc : ByteArray) : List j_N → Nat → Bool
  | [], _ => true
  | (i, n, x, y, v) :: is, pc => decide (decode cc pc = .ok (i, n)) && j_ckB own ini ret nL i n pc x y v && j_ckTh own cc i pc x v && j_ckL own ini ret nL cc is (pc + n)
def j_wdL (own : String) : List j_N → List Cond
  | [] => []
  | (i, _, x, y, v) :: is => j_wdB own i x y v ++ j_wdL own is
/-- what is owed of throws -/
def j_ThrowOk (l : Launch) (D : va_G) (bs : Nat) (E : j_E) : Prop := ∀ (p : Program) (e : Env) (R : Room) (s : State) (m : MethodId) (args : Array Value) (below : List Frame) (meth : Method) (c : Code) (h0 : j_H) (d : Nat) (own : String) (cc : ByteArray) (nL : Nat) (ret : Option FieldType) (Q : j_O → j_H → Prop) (pc idx x ic is : Nat) (lv st : List Value) (h : j_H),
  j_Ctx p l R s m args meth c D bs E h0 d own cc nL ret → decode cc pc = .ok (.new idx, 3) → j_thL own cc pc idx x ic is → j_c h + 1 ≤ E.2.1 → j_k h + 6 ≤ E.2.2 → (∀ z, j_z h ≤ z → Q (.inr x) (j_thr h z)) → j_cw st = true → j_W p l e R s m args below meth c D bs E h0 nL (j_MQ below D bs E h0 Q args s) pc lv st h
section JSound
variable {p : Program} {l : Launch} {e : Env} {R : Room} {s : State} {m : MethodId} {args : Array Value} {below : List Frame} {meth : Method} {c : Code}
variable {D : va_G} {bs : Nat} {E : j_E} {h0 : j_H} {d : Nat} {own : String} {cc : ByteArray} {nL : Nat} {ret : Option FieldType} {Q : j_O → j_H → Prop}
theorem j_sound (X : j_Ctx p l R s m args meth c D bs E h0 d own cc nL ret) (HT : j_ThrowOk l D bs E) {ini : Bool} (hini : ini = true → meth.name = "<init>") (hcl : ∀ (c : Nat) (r : vw_C), j_cl[c]? = some r → j_clok c r) :
    ∀ (is : List j_N) (pc : Nat) (lv st : List Value) (h : j_H), j_ckL own ini ret nL cc is pc = true → (∀ w ∈ j_wdL own is, w ∈ j_tbl) →
      j_wp (j_Met l D bs E d) (j_W p l e R s m args below meth c D bs E h0 nL (j_MQ below D bs E h0 Q args s)) Q E is pc lv st h → j_W p l e R s m args below meth c D bs E h0 nL (j_MQ below D bs E h0 Q args s) pc lv st h := by
  intro is
  induction is with
  | nil => intro pc lv st h _ _ G; exact G
  | cons a is ih =>
    obtain ⟨i, n, x, y, v⟩ := a
    intro pc lv st h hck hwd G
    simp only [j_ckL, Bool.and_eq_true, decide_eq_true_eq] at hck
    obtain ⟨⟨⟨hd, h1⟩, h2⟩, h3⟩ := hck
    simp only [j_wdL] at hwd
    refine j_okB X hini hcl hd h1 (fun w hw => hwd w (List.mem_append_left _ hw)) (fun idx hi hv hw g1 g2 g3 => ?_) (fun lv st h g => ih _ _ _ _ h3 (fun w hw => hwd w (List.mem_append_right _ hw)) g) G
    subst hi
    have h4 : j_ckT own cc pc idx x = true := by
      revert h2
      cases v <;> first | exact absurd rfl (hv _) | exact id
    obtain ⟨ic, is', h5⟩ := j_ckT_spec h4
    have hn : n = 3 := by
      simp only [j_ckB, Bool.and_eq_true, beq_iff_eq] at h1
      exact h1.1
    subst hn
    exact HT p e R s m args below meth c h0 d own cc nL ret Q pc idx x ic is' lv st h X hd h5 g1 g2 g3 hw
end JSound
/-- the blocks of a method are in order: each decodes to what is told, and its words are among the tables' -/
def j_good (mi : j_Mi) (bl : List (Nat × List j_N)) : Prop := plainName mi.1.cls = true ∧ (∀ b ∈ bl, j_ckL mi.1.cls (mi.1.name == "<init>") mi.2.2.2.1 mi.2.2.1 mi.2.1 b.2 b.1 = true) ∧ ∀ b ∈ bl, ∀ w ∈ j_wdL mi.1.cls b.2, w ∈ j_tbl
/-- closed under the method's blocks -/
def j_clo (C : j_Cal) (E : j_E) (Q : j_O → j_H → Prop) (bl : List (Nat × List j_N)) (G : j_G) : Prop := ∀ b ∈ bl, ∀ lv st h, j_wp C G Q E b.2 b.1 lv st h → G b.1 lv st h
theorem j_method {l : Launch} {D : va_G} {bs : Nat} {E : j_E} {d k : Nat} {as : List Value} {h : j_H} {post : j_O → j_H → Prop} {mi : j_Mi} {bl : List (Nat × List j_N)} (hl : l.stackTraces = false) (HT : j_ThrowOk l D bs E) (hcl : ∀ (c : Nat) (r : vw_C), j_cl[c]? = some r → j_clok c r)
    (hmi : j_mt[k]? = some mi) (hg : j_good mi bl) (hlen : (lg_sl as).length ≤ mi.2.2.1) (hrc : mi.2.2.2.2 < 90 → ∃ (a : Nat) (r : List Value), as = .ref a :: r ∧ j_sh h a = some (.inr mi.2.2.2.2)) (hc1 : j_c h ≤ E.2.1) (hc2 : j_k h ≤ E.2.2)
    (H : ∀ G : j_G, j_clo (j_Met l D bs E d) E post bl G → G 0 (j_pad mi.2.2.1 (j_exp as)) [] h) : j_Met l D bs E (d + 1) k as h post := by
  refine ⟨mi, hmi, hrc, hc1, hc2, ?_⟩
  refine MetFree.of_bodyS (code := mi.2.1) (maxLocals := mi.2.2.1) (ret := mi.2.2.2.1) hg.1 ?_ ?_
  · intro args s m hp hn
    obtain ⟨meth, c, h1, h2, h3, h4, h5, h6, -, -⟩ := Cond.code_spec hn (atoms_spec (ws := Cond.code mi.1 mi.2.1 mi.2.2.1 mi.2.2.2.1 :: j_tbl) hp _ List.mem_cons_self)
    exact ⟨meth, c, h1, h2, h3, h4, h5, h6⟩
  · intro p e s m args below meth c s₁ B hml hP _
    obtain ⟨rfl, henv, hR⟩ := hP
    have hh0 : s₁.heap = s.heap := by rw [B.state]; rfl
    have hts0 := atoms_spec (ws := Cond.code mi.1 mi.2.1 mi.2.2.1 mi.2.2.2.1 :: j_tbl) B.pre
    have htab : ∀ x ∈ c.exceptionTable.toList, False := by
      obtain ⟨meth9, c9, h1, h2, -, -, -, -, h7, -⟩ := Cond.code_spec B.named (hts0 _ List.mem_cons_self)
      cases Option.some.inj (h1.symm.trans B.method)
      cases Option.some.inj (h2.symm.trans (Stand.of_body B).code)
      intro x hx
      rw [Array.isEmpty_iff.mp h7] at hx
      cases hx
    have X : j_Ctx p l (j_room (d + 1) E h) s m as.toArray meth c D bs E h d mi.1.cls mi.2.1 mi.2.2.1 mi.2.2.2.1 := ⟨B.exec, B.bytes, hml, B.returns, findClass_of_methodNamed B.named, fun w hw => hts0 w (List.mem_cons_of_mem _ hw), henv, rfl, B.notSynchronized, htab, hl, by rw [hR.1]; exact hR.2.1⟩
    have hini : (mi.1.name == "<init>") = true → meth.name = "<init>" := fun z => (name_of_methodNamed B.named B.method).1.trans (by simpa using z)
    have K := H (j_W p l e (j_room (d + 1) E h) s m as.toArray below meth c D bs E h mi.2.2.1 (j_MQ below D bs E h post as.toArray s)) (fun b hb lv st h' g => j_sound X HT hini hcl b.2 b.1 lv st h' (hg.2.1 b hb) (hg.2.2 b hb) g)
    have hl0 := lv_entry as (n := mi.2.2.1) hlen
    have K2 := K _ s.heap [] (j_ent hl0) hR va_S.rf ⟨Nat.le_refl _, hc1, Nat.le_refl _, hc2⟩
    rw [Nat.sub_self, Nat.sub_self] at K2
    have K3 : W p l e (j_room (d + 1) E h) s m as.toArray below meth c s.heap [] 0 0 (j_MQ below D bs E h post as.toArray s) (entryFrame m as.toArray mi.2.2.1) := by
      rw [lg_entry_eq]
      exact K2
    obtain ⟨t, a1, o, b1, b2, b3⟩ := K3 s₁ hh0 (Stand.of_body B)
    exact ⟨t, o, a1, b1, b2, b3⟩

/-! ===== methods of the JDK: no row for them among the natives ===== -/
def j_goodF (mi : j_Mi) (bl : List (Nat × List j_N)) : Prop := plainFor mi.1 = true ∧ (∀ b ∈ bl, j_ckL mi.1.cls (mi.1.name == "<init>") mi.2.2.2.1 mi.2.2.1 mi.2.1 b.2 b.1 = true) ∧ ∀ b ∈ bl, ∀ w ∈ j_wdL mi.1.cls b.2, w ∈ j_tbl
theorem j_methodF {l : Launch} {D : va_G} {bs : Nat} {E : j_E} {d k : Nat} {as : List Value} {h : j_H} {post : j_O → j_H → Prop} {mi : j_Mi} {bl : List (Nat × List j_N)} (hl : l.stackTraces = false) (HT : j_ThrowOk l D bs E) (hcl : ∀ (c : Nat) (r : vw_C), j_cl[c]? = some r → j_clok c r)
    (hmi : j_mt[k]? = some mi) (hg : j_goodF mi bl) (hlen : (lg_sl as).length ≤ mi.2.2.1) (hrc : mi.2.2.2.2 < 90 → ∃ (a : Nat) (r : List Value), as = .ref a :: r ∧ j_sh h a = some (.inr mi.2.2.2.2)) (hc1 : j_c h ≤ E.2.1) (hc2 : j_k h ≤ E.2.2)
    (H : ∀ G : j_G, j_clo (j_Met l D bs E d) E post bl G → G 0 (j_pad mi.2.2.1 (j_exp as)) [] h) : j_Met l D bs E (d + 1) k as h post := by
  refine ⟨mi, hmi, hrc, hc1, hc2, ?_⟩
  refine MetFree.of_bodySF (code := mi.2.1) (maxLocals := mi.2.2.1) (ret := mi.2.2.2.1) hg.1 ?_ ?_
  · intro args s m hp hn
    obtain ⟨meth, c, h1, h2, h3, h4, h5, h6, -, -⟩ := Cond.code_spec hn (atoms_spec (ws := Cond.code mi.1 mi.2.1 mi.2.2.1 mi.2.2.2.1 :: j_tbl) hp _ List.mem_cons_self)
    exact ⟨meth, c, h1, h2, h3, h4, h5, h6⟩
  · intro p e s m args below meth c s₁ B hml hP _
    obtain ⟨rfl, henv, hR⟩ := hP
    have hh0 : s₁.heap = s.heap := by rw [B.state]; rfl
    have hts0 := atoms_spec (ws := Cond.code mi.1 mi.2.1 mi.2.2.1 mi.2.2.2.1 :: j_tbl) B.pre
    have htab : ∀ x ∈ c.exceptionTable.toList, False := by
      obtain ⟨meth9, c9, h1, h2, -, -, -, -, h7, -⟩ := Cond.code_spec B.named (hts0 _ List.mem_cons_self)
      cases Option.some.inj (h1.symm.trans B.method)
      cases Option.some.inj (h2.symm.trans (Stand.of_body B).code)
      intro x hx
      rw [Array.isEmpty_iff.mp h7] at hx
      cases hx
    have X : j_Ctx p l (j_room (d + 1) E h) s m as.toArray meth c D bs E h d mi.1.cls mi.2.1 mi.2.2.1 mi.2.2.2.1 := ⟨B.exec, B.bytes, hml, B.returns, findClass_of_methodNamed B.named, fun w hw => hts0 w (List.mem_cons_of_mem _ hw), henv, rfl, B.notSynchronized, htab, hl, by rw [hR.1]; exact hR.2.1⟩
    have hini : (mi.1.name == "<init>") = true → meth.name = "<init>" := fun z => (name_of_methodNamed B.named B.method).1.trans (by simpa using z)
    have K := H (j_W p l e (j_room (d + 1) E h) s m as.toArray below meth c D bs E h mi.2.2.1 (j_MQ below D bs E h post as.toArray s)) (fun b hb lv st h' g => j_sound X HT hini hcl b.2 b.1 lv st h' (hg.2.1 b hb) (hg.2.2 b hb) g)
    have hl0 := lv_entry as (n := mi.2.2.1) hlen
    have K2 := K _ s.heap [] (j_ent hl0) hR va_S.rf ⟨Nat.le_refl _, hc1, Nat.le_refl _, hc2⟩
    rw [Nat.sub_self, Nat.sub_self] at K2
    have K3 : W p l e (j_room (d + 1) E h) s m as.toArray below meth c s.heap [] 0 0 (j_MQ below D bs E h post as.toArray s) (entryFrame m as.toArray mi.2.2.1) := by
      rw [lg_entry_eq]
      exact K2
    obtain ⟨t, a1, o, b1, b2, b3⟩ := K3 s₁ hh0 (Stand.of_body B)
    exact ⟨t, o, a1, b1, b2, b3⟩
/-- a method of the table, by its blocks: no premise left but the launch's -/
theorem j_methF {l : Launch} {D : va_G} {bs : Nat} {E : j_E} {d k : Nat} {as : List Value} {h : j_H} {post : j_O → j_H → Prop} {mi : j_Mi} {bl : List (Nat × List j_N)} (hl : l.stackTraces = false)
    (hmi : j_mt[k]? = some mi) (hg : j_goodF mi bl) (hlen : (lg_sl as).length ≤ mi.2.2.1) (hrc : mi.2.2.2.2 < 90 → ∃ (a : Nat) (r : List Value), as = .ref a :: r ∧ j_sh h a = some (.inr mi.2.2.2.2)) (hc1 : j_c h ≤ E.2.1) (hc2 : j_k h ≤ E.2.2)
    (H : ∀ G : j_G, j_clo (j_Met l D bs E d) E post bl G → G 0 (j_pad mi.2.2.1 (j_exp as)) [] h) : j_Met l D bs E (d + 1) k as h post := j_methodF hl (j_throwok l D bs E) j_clall hmi hg hlen hrc hc1 hc2 H
/-! ===== JDK: floorMod, compare ===== -/
abbrev n_J6_compare_7cf53 : Nat := 278
def q_J6_compare_7cf53_0 : List j_N := [(.iload_n 0, 1, 0, 0, .null), (.iload_n 1, 1, 1, 0, .null), (.if_icmp .ge 7, 3, 9, 0, .null), (.iconst (-1), 1, 0, 0, .int (-1)), (.goto 13, 3, 19, 0, .null)]
def q_J6_compare_7cf53_9 : List j_N := [(.iload_n 0, 1, 0, 0, .null), (.iload_n 1, 1, 1, 0, .null), (.if_icmp .ne 7, 3, 18, 0, .null), (.iconst 0, 1, 0, 0, .int (0)), (.goto 4, 3, 19, 0, .null)]
def q_J6_compare_7cf53_18 : List j_N := [(.iconst 1, 1, 0, 0, .int (1))]
def q_J6_compare_7cf53_19 : List j_N := [(.ireturn, 1, 0, 0, .null)]
def m_J6_compare_7cf53 : List (Nat × List j_N) := [(0, q_J6_compare_7cf53_0), (9, q_J6_compare_7cf53_9), (18, q_J6_compare_7cf53_18), (19, q_J6_compare_7cf53_19)]
theorem b_J6_compare_7cf53_0 {C : j_Cal} {E : j_E} {Q : j_O → j_H → Prop} {G : j_G} (hG : j_clo C E Q m_J6_compare_7cf53 G) {lv st : List Value} {h : j_H} (H : j_wp C G Q E q_J6_compare_7cf53_0 0 lv st h) : G 0 lv st h := hG (0, q_J6_compare_7cf53_0) (List.mem_of_getElem? (i := 0) rfl) lv st h H
theorem b_J6_compare_7cf53_9 {C : j_Cal} {E : j_E} {Q : j_O → j_H → Prop} {G : j_G} (hG : j_clo C E Q m_J6_compare_7cf53 G) {lv st : List Value} {h : j_H} (H : j_wp C G Q E q_J6_compare_7cf53_9 9 lv st h) : G 9 lv st h := hG (9, q_J6_compare_7cf53_9) (List.mem_of_getElem? (i := 1) rfl) lv st h H
theorem b_J6_compare_7cf53_18 {C : j_Cal} {E : j_E} {Q : j_O → j_H → Prop} {G : j_G} (hG : j_clo C E Q m_J6_compare_7cf53 G) {lv st : List Value} {h : j_H} (H : j_wp C G Q E q_J6_compare_7cf53_18 18 lv st h) : G 18 lv st h := hG (18, q_J6_compare_7cf53_18) (List.mem_of_getElem? (i := 2) rfl) lv st h H
theorem b_J6_compare_7cf53_19 {C : j_Cal} {E : j_E} {Q : j_O → j_H → Prop} {G : j_G} (hG : j_clo C E Q m_J6_compare_7cf53 G) {lv st : List Value} {h : j_H} (H : j_wp C G Q E q_J6_compare_7cf53_19 19 lv st h) : G 19 lv st h := hG (19, q_J6_compare_7cf53_19) (List.mem_of_getElem? (i := 3) rfl) lv st h H
abbrev n_J9_floorMod_7cf53 : Nat := 279
def q_J9_floorMod_7cf53_0 : List j_N := [(.iload_n 0, 1, 0, 0, .null), (.iload_n 1, 1, 1, 0, .null), (.irem, 1, 0, 0, .null), (.istore_n 2, 1, 2, 0, .null), (.iload_n 0, 1, 0, 0, .null), (.iload_n 1, 1, 1, 0, .null), (.ixor, 1, 0, 0, .null), (.ifCond .ge 11, 3, 18, 0, .null), (.iload_n 2, 1, 2, 0, .null), (.ifCond .eq 7, 3, 18, 0, .null), (.iload_n 2, 1, 2, 0, .null), (.iload_n 1, 1, 1, 0, .null), (.iadd, 1, 0, 0, .null), (.ireturn, 1, 0, 0, .null)]
def q_J9_floorMod_7cf53_18 : List j_N := [(.iload_n 2, 1, 2, 0, .null), (.ireturn, 1, 0, 0, .null)]
def m_J9_floorMod_7cf53 : List (Nat × List j_N) := [(0, q_J9_floorMod_7cf53_0), (18, q_J9_floorMod_7cf53_18)]
theorem b_J9_floorMod_7cf53_0 {C : j_Cal} {E : j_E} {Q : j_O → j_H → Prop} {G : j_G} (hG : j_clo C E Q m_J9_floorMod_7cf53 G) {lv st : List Value} {h : j_H} (H : j_wp C G Q E q_J9_floorMod_7cf53_0 0 lv st h) : G 0 lv st h := hG (0, q_J9_floorMod_7cf53_0) (List.mem_of_getElem? (i := 0) rfl) lv st h H
theorem b_J9_floorMod_7cf53_18 {C : j_Cal} {E : j_E} {Q : j_O → j_H → Prop} {G : j_G} (hG : j_clo C E Q m_J9_floorMod_7cf53 G) {lv st : List Value} {h : j_H} (H : j_wp C G Q E q_J9_floorMod_7cf53_18 18 lv st h) : G 18 lv st h := hG (18, q_J9_floorMod_7cf53_18) (List.mem_of_getElem? (i := 1) rfl) lv st h H
abbrev i_J6_compare_7cf53 : j_Mi := (yJ6_compare_7cf53, cJ6_compare_7cf53, 2, (some .int), 99)
theorem w_J6_compare_7cf53 : ∀ b ∈ m_J6_compare_7cf53, j_wdL yJ6_compare_7cf53.cls b.2 = [] := by decide +kernel
theorem g_J6_compare_7cf53   : j_goodF i_J6_compare_7cf53 m_J6_compare_7cf53 := ⟨by decide +kernel, by decide +kernel, fun b hb w hw => by
  have e : w ∈ ([] : List Cond) := w_J6_compare_7cf53 b hb ▸ hw
  exact absurd e List.not_mem_nil⟩
abbrev i_J9_floorMod_7cf53 : j_Mi := (yJ9_floorMod_7cf53, cJ9_floorMod_7cf53, 3, (some .int), 99)
theorem w_J9_floorMod_7cf53 : ∀ b ∈ m_J9_floorMod_7cf53, j_wdL yJ9_floorMod_7cf53.cls b.2 = [] := by decide +kernel
theorem g_J9_floorMod_7cf53   : j_goodF i_J9_floorMod_7cf53 m_J9_floorMod_7cf53 := ⟨by decide +kernel, by decide +kernel, fun b hb w hw => by
  have e : w ∈ ([] : List Cond) := w_J9_floorMod_7cf53 b hb ▸ hw
  exact absurd e List.not_mem_nil⟩

/-! ===== methods of the JDK: no row for them among the natives ===== -/
def j_goodF (mi : j_Mi) (bl : List (Nat × List j_N)) : Prop := plainFor mi.1 = true ∧ (∀ b ∈ bl, j_ckL mi.1.cls (mi.1.name == "<init>") mi.2.2.2.1 mi.2.2.1 mi.2.1 b.2 b.1 = true) ∧ ∀ b ∈ bl, ∀ w ∈ j_wdL mi.1.cls b.2, w ∈ j_tbl
theorem j_methodF {l : Launch} {D : va_G} {bs : Nat} {E : j_E} {d k : Nat} {as : List Value} {h : j_H} {post : j_O → j_H → Prop} {mi : j_Mi} {bl : List (Nat × List j_N)} (hl : l.stackTraces = false) (HT : j_ThrowOk l D bs E) (hcl : ∀ (c : Nat) (r : vw_C), j_cl[c]? = some r → j_clok c r)
    (hmi : j_mt[k]? = some mi) (hg : j_goodF mi bl) (hlen : (lg_sl as).length ≤ mi.2.2.1) (hrc : mi.2.2.2.2 < 90 → ∃ (a : Nat) (r : List Value), as = .ref a :: r ∧ j_sh h a = some (.inr mi.2.2.2.2)) (hc1 : j_c h ≤ E.2.1) (hc2 : j_k h ≤ E.2.2)
    (H : ∀ G : j_G, j_clo (j_Met l D bs E d) E post bl G → G 0 (j_pad mi.2.2.1 (j_exp as)) [] h) : j_Met l D bs E (d + 1) k as h post := by
  refine ⟨mi, hmi, hrc, hc1, hc2, ?_⟩
  refine MetFree.of_bodySF (code := mi.2.1) (maxLocals := mi.2.2.1) (ret := mi.2.2.2.1) hg.1 ?_ ?_
  · intro args s m hp hn
    obtain ⟨meth, c, h1, h2, h3, h4, h5, h6, -, -⟩ := Cond.code_spec hn (atoms_spec (ws := Cond.code mi.1 mi.2.1 mi.2.2.1 mi.2.2.2.1 :: j_tbl) hp _ List.mem_cons_self)
    exact ⟨meth, c, h1, h2, h3, h4, h5, h6⟩
  · intro p e s m args below meth c s₁ B hml hP _
    obtain ⟨rfl, henv, hR⟩ := hP
    have hh0 : s₁.heap = s.heap := by rw [B.state]; rfl
    have hts0 := atoms_spec (ws := Cond.code mi.1 mi.2.1 mi.2.2.1 mi.2.2.2.1 :: j_tbl) B.pre
    have htab : ∀ x ∈ c.exceptionTable.toList, False := by
      obtain ⟨meth9, c9, h1, h2, -, -, -, -, h7, -⟩ := Cond.code_spec B.named (hts0 _ List.mem_cons_self)
      cases Option.some.inj (h1.symm.trans B.method)
      cases Option.some.inj (h2.symm.trans (Stand.of_body B).code)
      intro x hx
      rw [Array.isEmpty_iff.mp h7] at hx
      cases hx
    have X : j_Ctx p l (j_room (d + 1) E h) s m as.toArray meth c D bs E h d mi.1.cls mi.2.1 mi.2.2.1 mi.2.2.2.1 := ⟨B.exec, B.bytes, hml, B.returns, findClass_of_methodNamed B.named, fun w hw => hts0 w (List.mem_cons_of_mem _ hw), henv, rfl, B.notSynchronized, htab, hl, by rw [hR.1]; exact hR.2.1⟩
    have hini : (mi.1.name == "<init>") = true → meth.name = "<init>" := fun z => (name_of_methodNamed B.named B.method).1.trans (by simpa using z)
    have K := H (j_W p l e (j_room (d + 1) E h) s m as.toArray below meth c D bs E h mi.2.2.1 (j_MQ below D bs E h post as.toArray s)) (fun b hb lv st h' g => j_sound X HT hini hcl b.2 b.1 lv st h' (hg.2.1 b hb) (hg.2.2 b hb) g)
    have hl0 := lv_entry as (n := mi.2.2.1) hlen
    have K2 := K _ s.heap [] (j_ent hl0) hR va_S.rf ⟨Nat.le_refl _, hc1, Nat.le_refl _, hc2⟩
    rw [Nat.sub_self, Nat.sub_self] at K2
    have K3 : W p l e (j_room (d + 1) E h) s m as.toArray below meth c s.heap [] 0 0 (j_MQ below D bs E h post as.toArray s) (entryFrame m as.toArray mi.2.2.1) := by
      rw [lg_entry_eq]
      exact K2
    obtain ⟨t, a1, o, b1, b2, b3⟩ := K3 s₁ hh0 (Stand.of_body B)
    exact ⟨t, o, a1, b1, b2, b3⟩
/-- a method of the table, by its blocks: no premise left but the launch's -/
theorem j_methF {l : Launch} {D : va_G} {bs : Nat} {E : j_E} {d k : Nat} {as : List Value} {h : j_H} {post : j_O → j_H → Prop} {mi : j_Mi} {bl : List (Nat × List j_N)} (hl : l.stackTraces = false)
    (hmi : j_mt[k]? = some mi) (hg : j_goodF mi bl) (hlen : (lg_sl as).length ≤ mi.2.2.1) (hrc : mi.2.2.2.2 < 90 → ∃ (a : Nat) (r : List Value), as = .ref a :: r ∧ j_sh h a = some (.inr mi.2.2.2.2)) (hc1 : j_c h ≤ E.2.1) (hc2 : j_k h ≤ E.2.2)
    (H : ∀ G : j_G, j_clo (j_Met l D bs E d) E post bl G → G 0 (j_pad mi.2.2.1 (j_exp as)) [] h) : j_Met l D bs E (d + 1) k as h post := j_methodF hl (j_throwok l D bs E) j_clall hmi hg hlen hrc hc1 hc2 H
/-! ===== JDK: floorMod, compare ===== -/
abbrev n_J5_init_d00df : Nat := 261
abbrev n_J5_length_8abf5 : Nat := 262
abbrev n_J5_ensureCapacityInternal_d00df : Nat := 263
abbrev n_J5_newCapacity_0f7a4 : Nat := 264
abbrev n_J5_inflate_da8c8 : Nat := 265
abbrev n_J5_setLength_d00df : Nat := 266
abbrev n_J5_charAt_5068e : Nat := 267
abbrev n_J5_append_cf1ce : Nat := 268
abbrev n_J5_appendNull_278bc : Nat := 269
abbrev n_J5_append_3fe6f : Nat := 270
abbrev n_J5_append_c97b9 : Nat := 271
abbrev n_J5_getValue_6d5f1 : Nat := 272
abbrev n_J5_isLatin1_aae02 : Nat := 273
abbrev n_J5_inflateIfNeededFor_a7421 : Nat := 274
abbrev n_J5_putStringAt_47b60 : Nat := 275
abbrev n_J6_getChars_ba4f3 : Nat := 276
abbrev n_J6_stringSize_0f7a4 : Nat := 277
abbrev n_J6_compare_7cf53 : Nat := 278
abbrev n_J9_floorMod_7cf53 : Nat := 279
abbrev n_J9_abs_067f4 : Nat := 280
abbrev n_J9_max_7cf53 : Nat := 281
abbrev n_J9_max_f86c9 : Nat := 282
abbrev n_J9_min_7cf53 : Nat := 283
abbrev n_J9_min_f86c9 : Nat := 284
abbrev n_J0_init_81219 : Nat := 285
abbrev n_J0_length_8abf5 : Nat := 286
abbrev n_J0_charAt_5068e : Nat := 287
abbrev n_J0_getBytes_840e7 : Nat := 288
abbrev n_J0_init_db425 : Nat := 289
abbrev n_J0_coder_7d493 : Nat := 290
abbrev n_J0_isLatin1_aae02 : Nat := 291
abbrev n_J0_checkIndex_df160 : Nat := 292
abbrev n_J0_checkBoundsOffCount_cabcc : Nat := 293
abbrev n_J0_checkBoundsBeginEnd_23922 : Nat := 294
abbrev n_J4_init_da8c8 : Nat := 295
abbrev n_J4_append_15ec4 : Nat := 296
abbrev n_J4_append_cf468 : Nat := 297
abbrev n_J4_append_bf812 : Nat := 298
abbrev n_J4_toString_0e30d : Nat := 299
abbrev n_J4_charAt_5068e : Nat := 300
abbrev n_J4_setLength_d00df : Nat := 301
abbrev n_J4_length_8abf5 : Nat := 302
abbrev n_J1_charAt_3b067 : Nat := 303
abbrev n_J1_canEncode_fc78d : Nat := 304
abbrev n_J1_fillNull_b72d1 : Nat := 305
abbrev n_J1_inflate_0e8fd : Nat := 306
abbrev n_J2_newBytesFor_77867 : Nat := 307
abbrev n_J2_newBytesLength_0f7a4 : Nat := 308
abbrev n_J2_putChar_b72d1 : Nat := 309
abbrev n_J2_getChar_3b067 : Nat := 310
abbrev n_J2_length_9d52b : Nat := 311
abbrev n_J2_coderFromArrayLen_85cad : Nat := 312
abbrev n_J2_compress_39247 : Nat := 313
abbrev n_J2_compress_5af95 : Nat := 314
abbrev n_J2_fillNull_b72d1 : Nat := 315
abbrev n_J2_putCharSB_b72d1 : Nat := 316
abbrev n_J2_getChars_46870 : Nat := 317
abbrev n_J2_putCharsAt_cd4e5 : Nat := 318
abbrev n_J2_charAt_3b067 : Nat := 319
abbrev n_J2_inflate_0e8fd : Nat := 320
abbrev n_J2_getChars_ba4f3 : Nat := 321
abbrev n_J2_checkIndex_2214a : Nat := 322
abbrev n_J2_checkBoundsBeginEnd_d044e : Nat := 323
abbrev n_J2_checkBoundsOffCount_d044e : Nat := 324
abbrev n_J7_rangeCheck_23922 : Nat := 325
abbrev n_J7_fill_eb02e : Nat := 326
abbrev n_J7_copyOf_9075b : Nat := 327
abbrev n_J7_checkLength_df160 : Nat := 328
abbrev n_J7_copyOfRange_39247 : Nat := 329
abbrev n_J7_copyOfRangeByte_39247 : Nat := 330
abbrev n_J8_newLength_cabcc : Nat := 331
abbrev n_J8_hugeLength_7cf53 : Nat := 332
def q_J6_compare_7cf53_0 : List j_N := [(.iload_n 0, 1, 0, 0, .null), (.iload_n 1, 1, 1, 0, .null), (.if_icmp .ge 7, 3, 9, 0, .null), (.iconst (-1), 1, 0, 0, .int (-1)), (.goto 13, 3, 19, 0, .null)]
def q_J6_compare_7cf53_9 : List j_N := [(.iload_n 0, 1, 0, 0, .null), (.iload_n 1, 1, 1, 0, .null), (.if_icmp .ne 7, 3, 18, 0, .null), (.iconst 0, 1, 0, 0, .int (0)), (.goto 4, 3, 19, 0, .null)]
def q_J6_compare_7cf53_18 : List j_N := [(.iconst 1, 1, 0, 0, .int (1))]
def q_J6_compare_7cf53_19 : List j_N := [(.ireturn, 1, 0, 0, .null)]
def m_J6_compare_7cf53 : List (Nat × List j_N) := [(0, q_J6_compare_7cf53_0), (9, q_J6_compare_7cf53_9), (18, q_J6_compare_7cf53_18), (19, q_J6_compare_7cf53_19)]
theorem b_J6_compare_7cf53_0 {C : j_Cal} {E : j_E} {Q : j_O → j_H → Prop} {G : j_G} (hG : j_clo C E Q m_J6_compare_7cf53 G) {lv st : List Value} {h : j_H} (H : j_wp C G Q E q_J6_compare_7cf53_0 0 lv st h) : G 0 lv st h := hG (0, q_J6_compare_7cf53_0) (List.mem_of_getElem? (i := 0) rfl) lv st h H
theorem b_J6_compare_7cf53_9 {C : j_Cal} {E : j_E} {Q : j_O → j_H → Prop} {G : j_G} (hG : j_clo C E Q m_J6_compare_7cf53 G) {lv st : List Value} {h : j_H} (H : j_wp C G Q E q_J6_compare_7cf53_9 9 lv st h) : G 9 lv st h := hG (9, q_J6_compare_7cf53_9) (List.mem_of_getElem? (i := 1) rfl) lv st h H
theorem b_J6_compare_7cf53_18 {C : j_Cal} {E : j_E} {Q : j_O → j_H → Prop} {G : j_G} (hG : j_clo C E Q m_J6_compare_7cf53 G) {lv st : List Value} {h : j_H} (H : j_wp C G Q E q_J6_compare_7cf53_18 18 lv st h) : G 18 lv st h := hG (18, q_J6_compare_7cf53_18) (List.mem_of_getElem? (i := 2) rfl) lv st h H
theorem b_J6_compare_7cf53_19 {C : j_Cal} {E : j_E} {Q : j_O → j_H → Prop} {G : j_G} (hG : j_clo C E Q m_J6_compare_7cf53 G) {lv st : List Value} {h : j_H} (H : j_wp C G Q E q_J6_compare_7cf53_19 19 lv st h) : G 19 lv st h := hG (19, q_J6_compare_7cf53_19) (List.mem_of_getElem? (i := 3) rfl) lv st h H
def q_J9_floorMod_7cf53_0 : List j_N := [(.iload_n 0, 1, 0, 0, .null), (.iload_n 1, 1, 1, 0, .null), (.irem, 1, 0, 0, .null), (.istore_n 2, 1, 2, 0, .null), (.iload_n 0, 1, 0, 0, .null), (.iload_n 1, 1, 1, 0, .null), (.ixor, 1, 0, 0, .null), (.ifCond .ge 11, 3, 18, 0, .null), (.iload_n 2, 1, 2, 0, .null), (.ifCond .eq 7, 3, 18, 0, .null), (.iload_n 2, 1, 2, 0, .null), (.iload_n 1, 1, 1, 0, .null), (.iadd, 1, 0, 0, .null), (.ireturn, 1, 0, 0, .null)]
def q_J9_floorMod_7cf53_18 : List j_N := [(.iload_n 2, 1, 2, 0, .null), (.ireturn, 1, 0, 0, .null)]
def m_J9_floorMod_7cf53 : List (Nat × List j_N) := [(0, q_J9_floorMod_7cf53_0), (18, q_J9_floorMod_7cf53_18)]
theorem b_J9_floorMod_7cf53_0 {C : j_Cal} {E : j_E} {Q : j_O → j_H → Prop} {G : j_G} (hG : j_clo C E Q m_J9_floorMod_7cf53 G) {lv st : List Value} {h : j_H} (H : j_wp C G Q E q_J9_floorMod_7cf53_0 0 lv st h) : G 0 lv st h := hG (0, q_J9_floorMod_7cf53_0) (List.mem_of_getElem? (i := 0) rfl) lv st h H
theorem b_J9_floorMod_7cf53_18 {C : j_Cal} {E : j_E} {Q : j_O → j_H → Prop} {G : j_G} (hG : j_clo C E Q m_J9_floorMod_7cf53 G) {lv st : List Value} {h : j_H} (H : j_wp C G Q E q_J9_floorMod_7cf53_18 18 lv st h) : G 18 lv st h := hG (18, q_J9_floorMod_7cf53_18) (List.mem_of_getElem? (i := 1) rfl) lv st h H
abbrev i_J6_compare_7cf53 : j_Mi := (yJ6_compare_7cf53, cJ6_compare_7cf53, 2, (some .int), 99)
theorem w_J6_compare_7cf53 : ∀ b ∈ m_J6_compare_7cf53, j_wdL yJ6_compare_7cf53.cls b.2 = [] := by decide +kernel
theorem g_J6_compare_7cf53   : j_goodF i_J6_compare_7cf53 m_J6_compare_7cf53 := ⟨by decide +kernel, by decide +kernel, fun b hb w hw => by
  have e : w ∈ ([] : List Cond) := w_J6_compare_7cf53 b hb ▸ hw
  exact absurd e List.not_mem_nil⟩
abbrev i_J9_floorMod_7cf53 : j_Mi := (yJ9_floorMod_7cf53, cJ9_floorMod_7cf53, 3, (some .int), 99)
theorem w_J9_floorMod_7cf53 : ∀ b ∈ m_J9_floorMod_7cf53, j_wdL yJ9_floorMod_7cf53.cls b.2 = [] := by decide +kernel
theorem g_J9_floorMod_7cf53   : j_goodF i_J9_floorMod_7cf53 m_J9_floorMod_7cf53 := ⟨by decide +kernel, by decide +kernel, fun b hb w hw => by
  have e : w ∈ ([] : List Cond) := w_J9_floorMod_7cf53 b hb ▸ hw
  exact absurd e List.not_mem_nil⟩

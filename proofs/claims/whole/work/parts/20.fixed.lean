/-! ===== what the tables say of throws and of the classes ===== -/
def jx_rx : ByteArray := ⟨#[0x2a, 0x2b, 0xb7, 0x00, 0x0d, 0xb1]⟩
theorem jx_w0 : ∀ w ∈ (jx_own RX8 155 "java/util/NoSuchElementException" 13 jx_rx ["java/lang/RuntimeException", "java/lang/Exception"]).filter (jx_nc "java/util/NoSuchElementException"), w ∈ j_tbl := by decide +kernel
theorem jx_w1 : ∀ w ∈ (jx_own RX8 201 "java/lang/IllegalArgumentException" 7 Bundle.six ["java/lang/RuntimeException", "java/lang/Exception"]).filter (jx_nc "java/lang/IllegalArgumentException"), w ∈ j_tbl := by decide +kernel
theorem jx_w2 : ∀ w ∈ [Cond.classLink RX8 151 "java/util/NoSuchElementException", .initialized "java/util/NoSuchElementException", .classLink RX8 197 "java/lang/IllegalArgumentException", .initialized "java/lang/IllegalArgumentException"], w ∈ j_tbl := by decide +kernel
theorem jx_str {D : va_G} {bs : Nat} {E : j_E} {s : State} {own : String} {is : Nat} (henv : j_env D bs E s) (h : j_strs.any (fun z => decide (z.1 = own) && z.2.1 == is) = true) : ∃ text sa, vk_R own is text sa s := by
  obtain ⟨z, hz, h1⟩ := List.any_eq_true.mp h
  simp only [Bool.and_eq_true, decide_eq_true_eq, beq_iff_eq] at h1
  obtain ⟨rfl, rfl⟩ := h1
  obtain ⟨i, hi⟩ := List.getElem?_of_mem hz
  exact ⟨_, _, henv.2.1 i z hi⟩
theorem j_throwok (l : Launch) (D : va_G) (bs : Nat) (E : j_E) : j_ThrowOk l D bs E := by
  intro p e R s m args below meth c h0 d own cc nL ret Q pc idx x ic is lv st h X hd hT hc1 hc2 hQ hcw
  obtain ⟨h1, h2, h3⟩ := hT
  simp only [j_thw, Bool.and_eq_true, Bool.or_eq_true, decide_eq_true_eq, beq_iff_eq] at h1
  obtain ⟨⟨rfl, h4⟩, h5⟩ := h1
  have henv := X.2.2.2.2.2.2.1
  obtain ⟨text, sa, hstr⟩ := jx_str henv h5
  rcases h4 with ⟨⟨rfl, rfl⟩, rfl⟩ | ⟨⟨rfl, rfl⟩, rfl⟩
  · rcases h3 with ⟨g1, g2, g3⟩ | ⟨g1, g2, g3⟩
    · exact jx_throw X (pi := pc + 6) (rx := jx_rx) (ix := 13) (cls := "java/util/NoSuchElementException") (by decide +kernel) (by decide +kernel) (by decide +kernel) (by decide +kernel) (by decide +kernel) rfl (jx_w2 _ (by simp)) (jx_w2 _ (by simp)) jx_w0 hstr hd h2 (Or.inl ⟨g1, rfl⟩) g2 g3 hc1 hc2 hQ hcw
    · exact jx_throw X (pi := pc + 7) (rx := jx_rx) (ix := 13) (cls := "java/util/NoSuchElementException") (by decide +kernel) (by decide +kernel) (by decide +kernel) (by decide +kernel) (by decide +kernel) rfl (jx_w2 _ (by simp)) (jx_w2 _ (by simp)) jx_w0 hstr hd h2 (Or.inr ⟨g1, rfl⟩) g2 g3 hc1 hc2 hQ hcw
  · rcases h3 with ⟨g1, g2, g3⟩ | ⟨g1, g2, g3⟩
    · exact jx_throw X (pi := pc + 6) (rx := Bundle.six) (ix := 7) (cls := "java/lang/IllegalArgumentException") (by decide +kernel) (by decide +kernel) (by decide +kernel) (by decide +kernel) (by decide +kernel) rfl (jx_w2 _ (by simp)) (jx_w2 _ (by simp)) jx_w1 hstr hd h2 (Or.inl ⟨g1, rfl⟩) g2 g3 hc1 hc2 hQ hcw
    · exact jx_throw X (pi := pc + 7) (rx := Bundle.six) (ix := 7) (cls := "java/lang/IllegalArgumentException") (by decide +kernel) (by decide +kernel) (by decide +kernel) (by decide +kernel) (by decide +kernel) rfl (jx_w2 _ (by simp)) (jx_w2 _ (by simp)) jx_w1 hstr hd h2 (Or.inr ⟨g1, rfl⟩) g2 g3 hc1 hc2 hQ hcw
theorem j_u0 : ∀ w ∈ u_ws RJ0 TJ0 2, w ∈ j_tbl := by decide +kernel
theorem j_u1 : ∀ w ∈ u_ws RJ4 TJ4 4, w ∈ j_tbl := by decide +kernel
theorem j_u2 : ∀ w ∈ u_ws RX0 TX0 3, w ∈ j_tbl := by decide +kernel
theorem j_u3 : ∀ w ∈ u_ws RX1 TX1 17, w ∈ j_tbl := by decide +kernel
theorem j_u4 : ∀ w ∈ u_ws RX2 TX2 2, w ∈ j_tbl := by decide +kernel
theorem j_u5 : ∀ w ∈ u_ws RX3 TX3 2, w ∈ j_tbl := by decide +kernel
theorem j_u6 : ∀ w ∈ u_ws RX4 TX4 3, w ∈ j_tbl := by decide +kernel
theorem j_u7 : ∀ w ∈ u_ws RX5 TX5 7, w ∈ j_tbl := by decide +kernel
theorem j_u8 : ∀ w ∈ u_ws RX6 TX6 2, w ∈ j_tbl := by decide +kernel
theorem j_u9 : ∀ w ∈ u_ws RX7 TX7 8, w ∈ j_tbl := by decide +kernel
theorem j_u10 : ∀ w ∈ u_ws RX8 TX8 10, w ∈ j_tbl := by decide +kernel
theorem j_u11 : ∀ w ∈ u_ws RX9 TX9 29, w ∈ j_tbl := by decide +kernel
theorem j_clall : ∀ (c : Nat) (r : vw_C), j_cl[c]? = some r → j_clok c r := by
  intro c r h
  match c, h with
  | 0, h => cases h; exact ⟨j_u0, fun k hk => tyJ0_ok k (Nat.lt_trans hk (by decide)), fun a ha b hb => nmJ0 a (Nat.lt_trans ha (by decide)) b (Nat.lt_trans hb (by decide))⟩
  | 1, h => cases h; exact ⟨j_u1, tyJ4_ok, nmJ4⟩
  | 2, h => cases h; exact ⟨j_u2, tyX0_ok, nmX0⟩
  | 3, h => cases h; exact ⟨j_u3, tyX1_ok, nmX1⟩
  | 4, h => cases h; exact ⟨j_u4, tyX2_ok, nmX2⟩
  | 5, h => cases h; exact ⟨j_u5, tyX3_ok, nmX3⟩
  | 6, h => cases h; exact ⟨j_u6, tyX4_ok, nmX4⟩
  | 7, h => cases h; exact ⟨j_u7, tyX5_ok, nmX5⟩
  | 8, h => cases h; exact ⟨j_u8, tyX6_ok, nmX6⟩
  | 9, h => cases h; exact ⟨j_u9, tyX7_ok, nmX7⟩
  | 10, h => cases h; exact ⟨j_u10, tyX8_ok, nmX8⟩
  | 11, h => cases h; exact ⟨j_u11, tyX9_ok, nmX9⟩
  | c + 12, h => simp at h
theorem j_in {ws : List Cond} {ps : List Nat} (hp : ws = ps.filterMap (fun i => lw_tbl[i]?)) (hg : ws.all goodWord = true) : ∀ w ∈ ws, w ∈ j_tbl := by
  intro w hw
  have h1 := List.all_eq_true.mp hg w hw
  rw [hp] at hw
  obtain ⟨i, -, hi⟩ := List.mem_filterMap.mp hw
  exact List.mem_append_left _ (List.mem_filter.mpr ⟨List.mem_of_getElem? hi, h1⟩)
/-- a method of the table, by its blocks: no premise left but the launch's -/
theorem j_meth {l : Launch} {D : va_G} {bs : Nat} {E : j_E} {d k : Nat} {as : List Value} {h : j_H} {post : j_O → j_H → Prop} {mi : j_Mi} {bl : List (Nat × List j_N)} (hl : l.stackTraces = false)
    (hmi : j_mt[k]? = some mi) (hg : j_good mi bl) (hlen : (lg_sl as).length ≤ mi.2.2.1) (hrc : mi.2.2.2.2 < 90 → ∃ (a : Nat) (r : List Value), as = .ref a :: r ∧ j_sh h a = some (.inr mi.2.2.2.2)) (hc1 : j_c h ≤ E.2.1) (hc2 : j_k h ≤ E.2.2)
    (H : ∀ G : j_G, j_clo (j_Met l D bs E d) E post bl G → G 0 (j_pad mi.2.2.1 (j_exp as)) [] h) : j_Met l D bs E (d + 1) k as h post := j_method hl (j_throwok l D bs E) j_clall hmi hg hlen hrc hc1 hc2 H

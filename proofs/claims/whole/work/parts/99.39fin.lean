/-! ===== the start, whole ===== -/
section Stb
theorem s_cls {args : Array Value} {s : State} (hts : ∀ w ∈ lw_tbl, w.before args s = true) : ∃ D : va_G, va_K D j_cl [] s := by
  have hj := tbl_ok hts
  have kn : ∀ (c : Nat) (r : vw_C), j_cl[c]? = some r → ∃ (cC : ClassId) (iS : Nat → Nat), u_Kn s r.1 r.2.1 r.2.2 cC iS := by
    intro c r h
    match c, h with
    | 0, h => cases h; exact u_known hj (j_clall 0 _ rfl).1 (hts _ k_0)
    | 1, h => cases h; exact u_known hj (j_clall 1 _ rfl).1 (hts _ k_1)
    | 2, h => cases h; exact u_known hj (j_clall 2 _ rfl).1 (hts _ k_2)
    | 3, h => cases h; exact u_known hj (j_clall 3 _ rfl).1 (hts _ k_3)
    | 4, h => cases h; exact u_known hj (j_clall 4 _ rfl).1 (hts _ k_4)
    | 5, h => cases h; exact u_known hj (j_clall 5 _ rfl).1 (hts _ k_5)
    | 6, h => cases h; exact u_known hj (j_clall 6 _ rfl).1 (hts _ k_6)
    | 7, h => cases h; exact u_known hj (j_clall 7 _ rfl).1 (hts _ k_7)
    | 8, h => cases h; exact u_known hj (j_clall 8 _ rfl).1 (hts _ k_8)
    | 9, h => cases h; exact u_known hj (j_clall 9 _ rfl).1 (hts _ k_9)
    | 10, h => cases h; exact u_known hj (j_clall 10 _ rfl).1 (hts _ k_10)
    | 11, h => cases h; exact u_known hj (j_clall 11 _ rfl).1 (hts _ k_11)
    | c + 12, h => simp at h
  obtain ⟨c0, i0, -⟩ := kn 0 _ rfl
  have kn2 : ∀ c : Nat, ∃ q : ClassId × (Nat → Nat), ∀ r, j_cl[c]? = some r → u_Kn s r.1 r.2.1 r.2.2 q.1 q.2 := by
    intro c
    cases hr : j_cl[c]? with
    | none => exact ⟨(c0, i0), fun r h => by cases h⟩
    | some r =>
      obtain ⟨cC, iS, h⟩ := kn c r hr
      exact ⟨(cC, iS), fun r' e => by cases e; exact h⟩
  obtain ⟨f, hf⟩ := Classical.axiomOfChoice kn2
  exact ⟨(fun c => (f c).1, fun c => (f c).2), fun c q hq => hf c q hq, fun k q h => by simp at h⟩
theorem s_strs {args : Array Value} {s : State} {A : Nat → Prop} (hp : ∀ w ∈ s_P, w.before args s = true) (hA : ∀ a : Nat, a < s.heap.size → ¬ A a) : ∃ ad : Nat → Nat × Nat, ∀ i z, j_strs[i]? = some z → strF args s A z (ad i).1 (ad i).2 := by
  have st : ∀ i : Nat, ∃ q : Nat × Nat, ∀ z, j_strs[i]? = some z → strF args s A z q.1 q.2 := by
    intro i
    cases hz : j_strs[i]? with
    | none => exact ⟨(0, 0), fun z h => by cases h⟩
    | some z =>
      have hm : z ∈ j_strs := List.mem_of_getElem? hz
      obtain ⟨q, hq⟩ := str_at (fun w hw => hp w (s_in z hm w hw)) (s_wd z hm).1 hA
      exact ⟨q, fun z' e => by cases e; exact hq⟩
  exact Classical.axiomOfChoice st
theorem s_start {args : Array Value} {s : State} {b Lx : Nat} {xs : Nat → Int32} (hts : ∀ w ∈ lw_tbl, w.before args s = true) (hp : ∀ w ∈ s_P, w.before args s = true) (hX : va_X b Lx xs s s.heap) (hb : b < s.heap.size) (hL : Lx ≤ 3072) : ∃ (D : va_G) (E : j_E) (h0 : j_H), E.2.1 = 601024 ∧ E.2.2 = 7293034 ∧ j_env D s.heap.size E s ∧ j_rep D s.heap.size s h0 s.heap ∧ j_z h0 = s.heap.size ∧ j_c h0 = 0 ∧ j_k h0 = 0 ∧ KS E s.heap.size h0 ∧ DG E h0 ∧ E.1 200 < s.heap.size ∧ E.1 201 < s.heap.size ∧ j_sh h0 b = some (.inl (7, Lx)) ∧ ∀ i, i < Lx → j_I h0 b i = xs i := by
  have hA : ∀ a : Nat, a < s.heap.size → ¬ j_A s.heap.size a := fun a ha z => absurd z (Nat.not_le.mpr ha)
  obtain ⟨D, hK⟩ := s_cls hts
  obtain ⟨ad, had⟩ := s_strs hp hA
  obtain ⟨g1, e1, T1⟩ := dig_at (A := j_A s.heap.size) (fun w hw => hp w (d_on w hw)) hA
  obtain ⟨g2, e2, T2⟩ := dig_at (A := j_A s.heap.size) (fun w hw => hp w (d_te w hw)) hA
  have hK0 : u_Kn s RJ0 TJ0 2 (D.1 0) (D.2 0) := hK.1 0 _ rfl
  obtain ⟨scr, r1, r2, r3, r4, r5⟩ := hX
  have hlen : j_strs.length = 69 := rfl
  have sat : ∀ i, i < 69 → ∃ z, j_strs[i]? = some z := fun i hi => ⟨_, List.getElem?_eq_getElem (by rw [hlen]; exact hi)⟩
  generalize hsA : (List.range 69).map (fun i => (ad i).1) = sA
  generalize hvA : ((List.range 69).map (fun i => (ad i).2)) ++ [g1, g2] = vA
  have inS : ∀ a, a ∈ sA ↔ ∃ i, i < 69 ∧ (ad i).1 = a := fun a => by rw [← hsA]; simp
  have inV : ∀ a, a ∈ vA → (∃ i, i < 69 ∧ (ad i).2 = a) ∨ a = g1 ∨ a = g2 := fun a ha => by
    rw [← hvA] at ha
    rcases List.mem_append.mp ha with g | g
    · obtain ⟨i, hi, e⟩ := List.mem_map.mp g
      exact Or.inl ⟨i, List.mem_range.mp hi, e⟩
    · simpa using Or.inr g
  have vIn : ∀ i, i < 69 → (ad i).2 ∈ vA := fun i hi => by
    rw [← hvA]
    exact List.mem_append_left _ (List.mem_map.mpr ⟨i, List.mem_range.mpr hi, rfl⟩)
  have g1In : g1 ∈ vA := by rw [← hvA]; simp
  have g2In : g2 ∈ vA := by rw [← hvA]; simp
  have arrV' : ∀ a, a ∈ vA → ∃ (N : Nat) (f : Nat → Int32), N < 2 ^ 31 ∧ va_T .byte a N (fun j => .int (f j)) (j_A s.heap.size) s s.heap := fun a ha => by
    rcases inV a ha with ⟨i, hi, e⟩ | e | e
    · obtain ⟨z, hz⟩ := sat i hi
      have hn := (s_wd z (List.mem_of_getElem? hz)).1
      rw [← e]
      exact ⟨(wd z.2.2).length, _, by omega, (had i z hz).2.2.2.2⟩
    · rw [e]; exact ⟨100, _, by omega, T1⟩
    · rw [e]; exact ⟨100, _, by omega, T2⟩
  have strC : ∀ a, a ∈ sA → ∃ (v : Nat) (ce : Cell), s.heap[a]? = some ce ∧ ce.cls = D.1 0 ∧ ce.vm.isStatics = false ∧ ce.vm ≠ .unknown ∧ ce.slots[D.2 0 0]? = some (.ref v) ∧ ce.slots[D.2 0 1]? = some (.int 0) := fun a ha => by
    obtain ⟨i, hi, e⟩ := (inS a).mp ha
    obtain ⟨z, hz⟩ := sat i hi
    rw [← e]
    exact ⟨_, str_cell hK0 (had i z hz)⟩
  have nSb : b ∉ sA := fun z => by
    obtain ⟨v, ce, c1, c2, -⟩ := strC b z
    cases Option.some.inj (r1.symm.trans c1)
    exact no_arr hK0.2 c2 r2
  have nVb : ∀ a, a ∈ vA → a ≠ b := fun a ha e => by
    obtain ⟨N, f, hN, ce, c1, c2, -⟩ := arrV' a ha
    rw [e] at c1
    cases Option.some.inj (r1.symm.trans c1)
    exact no_both r2 c2
  have nVS : ∀ a, a ∈ vA → a ∉ sA := fun a ha z => by
    obtain ⟨N, f, hN, ce, c1, c2, -⟩ := arrV' a ha
    obtain ⟨v, ce', d1, d2, -⟩ := strC a z
    cases Option.some.inj (c1.symm.trans d1)
    exact no_arr hK0.2 d2 c2
  have shV : ∀ a, a ∈ vA → ∀ {N : Nat} {f : Nat → Value}, N < 2 ^ 31 → va_T .byte a N f (j_A s.heap.size) s s.heap → j_sh (s_h s.heap b Lx xs sA vA (D.2 0)) a = some (.inl (8, N)) := fun a ha N f hN hT => by
    show (if a = b then some (.inl (7, Lx)) else if a ∈ sA then some (.inr 0) else if a ∈ vA then s_ln s.heap a else none) = _
    rw [if_neg (nVb a ha), if_neg (nVS a ha), if_pos ha]
    exact t_len hN hT
  have iV : ∀ a, a ∈ vA → ∀ k, j_I (s_h s.heap b Lx xs sA vA (D.2 0)) a k = s_ci s.heap a k := fun a ha k => by
    show (if a = b then xs k else if a ∈ sA then s_ci s.heap a (D.2 0 k) else s_ci s.heap a k) = _
    rw [if_neg (nVb a ha), if_neg (nVS a ha)]
  have iT : ∀ a, a ∈ vA → ∀ {N : Nat} {f : Nat → Int32}, va_T .byte a N (fun j => .int (f j)) (j_A s.heap.size) s s.heap → ∀ k, k < N → j_I (s_h s.heap b Lx xs sA vA (D.2 0)) a k = f k := fun a ha N f hT k hk => by
    obtain ⟨ce, c1, c2, c3, c4, c5, c6, -⟩ := hT
    rw [iV a ha k]
    exact ci_at c1 (c6 k hk)
  have iS : ∀ a, a ∈ sA → ∀ k, j_I (s_h s.heap b Lx xs sA vA (D.2 0)) a k = s_ci s.heap a (D.2 0 k) := fun a ha k => by
    show (if a = b then xs k else if a ∈ sA then s_ci s.heap a (D.2 0 k) else s_ci s.heap a k) = _
    rw [if_neg (show ¬ a = b from fun z => nSb (z ▸ ha)), if_pos ha]
  have rS : ∀ a, a ∈ sA → ∀ k, j_R (s_h s.heap b Lx xs sA vA (D.2 0)) a k = s_cr s.heap a (D.2 0 k) := fun a ha k => by
    show (if a ∈ sA then s_cr s.heap a (D.2 0 k) else none) = _
    rw [if_pos ha]
  have shS : ∀ a, a ∈ sA → j_sh (s_h s.heap b Lx xs sA vA (D.2 0)) a = some (.inr 0) := fun a ha => by
    show (if a = b then some (.inl (7, Lx)) else if a ∈ sA then some (.inr 0) else if a ∈ vA then s_ln s.heap a else none) = _
    rw [if_neg (show ¬ a = b from fun z => nSb (z ▸ ha)), if_pos ha]
  have rep : j_rep D s.heap.size s (s_h s.heap b Lx xs sA vA (D.2 0)) s.heap := by
    refine ⟨rfl, Nat.le_refl _, fun a sp hsp => ?_⟩
    by_cases hab : a = b
    · subst hab
      have e : j_sh (s_h s.heap a Lx xs sA vA (D.2 0)) a = some (.inl (7, Lx)) := by
        show (if a = a then some (.inl (7, Lx)) else if a ∈ sA then some (.inr 0) else if a ∈ vA then s_ln s.heap a else none) = _
        rw [if_pos rfl]
      cases Option.some.inj (e.symm.trans hsp)
      refine ⟨fun z => absurd z (by decide), by omega, scr, r1, r2, trivial, ⟨r3, fun z => absurd z (by decide)⟩, j_sz_of r4, fun j hj => ?_⟩
      rw [r5 j hj]
      show some (Value.int (xs j)) = some (Value.int (if a = a then xs j else _))
      rw [if_pos rfl]
    · by_cases haS : a ∈ sA
      · cases Option.some.inj ((shS a haS).symm.trans hsp)
        obtain ⟨v, ce, c1, c2, c3, c4, c5, c6⟩ := strC a haS
        refine ⟨fun z => absurd rfl z, _, rfl, ce, c1, c2, ⟨c3, c4, fun z => absurd rfl z⟩, fun k hk => ?_⟩
        have hk2 : k = 0 ∨ k = 1 := by
          have : k < 2 := hk
          omega
        rcases hk2 with rfl | rfl
        · rw [c5]
          show some (Value.ref v) = some (va_rf (j_R (s_h s.heap b Lx xs sA vA (D.2 0)) a 0))
          rw [rS a haS, cr_at c1 c5]
          rfl
        · rw [c6]
          show some (Value.int 0) = some (Value.int (j_I (s_h s.heap b Lx xs sA vA (D.2 0)) a 1))
          rw [iS a haS, ci_at c1 c6]
      · by_cases haV : a ∈ vA
        · obtain ⟨N, f, hN, hT⟩ := arrV' a haV
          cases Option.some.inj ((shV a haV hN hT).symm.trans hsp)
          obtain ⟨ce, c1, c2, c3, c4, c5, c6, -⟩ := id hT
          refine ⟨fun z => absurd z (by decide), hN, ce, c1, c2, trivial, ⟨c3, fun z => absurd z (by decide)⟩, ⟨c4, c5, fun z => absurd rfl z⟩, fun j hj => ?_⟩
          rw [c6 j hj]
          show some (Value.int (f j)) = some (Value.int (j_I (s_h s.heap b Lx xs sA vA (D.2 0)) a j))
          rw [iT a haV hT j hj]
        · have e : j_sh (s_h s.heap b Lx xs sA vA (D.2 0)) a = none := by
            show (if a = b then some (.inl (7, Lx)) else if a ∈ sA then some (.inr 0) else if a ∈ vA then s_ln s.heap a else none) = _
            rw [if_neg hab, if_neg haS, if_neg haV]
          rw [e] at hsp
          cases hsp
  have lt1 : ∀ {a N : Nat} {f : Nat → Value}, va_T .byte a N f (j_A s.heap.size) s s.heap → a < s.heap.size := fun hT => by
    obtain ⟨ce, c1, -⟩ := hT
    exact (Array.getElem?_eq_some_iff.mp c1).1
  refine ⟨D, (fun i => if i = 200 then g1 else if i = 201 then g2 else (ad i).1, 601024, 7293034), s_h s.heap b Lx xs sA vA (D.2 0), rfl, rfl, ⟨hK, fun i z hz => ?_, ?_, ?_, va_AO.of (hts _ q_o1), va_AO.of (hts _ q_o2), ?_⟩, rep, rfl, rfl, rfl, fun i z hz hi => ?_, ?_, ?_, ?_, ?_, fun i hi => ?_⟩
  · have hi : i < 69 := by
      have := (List.getElem?_eq_some_iff.mp hz).1
      rw [hlen] at this
      exact this
    have hm : z ∈ j_strs := List.mem_of_getElem? hz
    show vk_R z.1 z.2.1 z.2.2 (if i = 200 then g1 else if i = 201 then g2 else (ad i).1) s
    rw [if_neg (by omega), if_neg (by omega)]
    exact vk_R.of (A := args) (hts _ (s_rf z hm)) (had i z hz).1
  · exact vx_Zqof (hts _ q_us) (hts _ q_th) (hp _ p_us) hA
  · exact vx_Zqof (hts _ q_su) (hts _ q_th) (hp _ p_su) hA
  · exact ⟨va_Zof (hts _ q_cs) (hts _ q_st) (va_eqt (hp _ p_cs)) hA, va_Zref (hts _ q_d1) (hts _ q_in) e1 hA, va_Zref (hts _ q_d2) (hts _ q_in) e2 hA, va_Zqof (hts _ q_si) (hts _ q_pr) (hp _ p_si) hA⟩
  · have hm : z ∈ j_strs := List.mem_of_getElem? hz
    obtain ⟨w1, w2⟩ := s_wd z hm
    have haS : (ad i).1 ∈ sA := (inS _).mpr ⟨i, hi, rfl⟩
    have hF := had i z hz
    obtain ⟨ce, c1, c2, c3, c4, c5, c6⟩ := str_cell hK0 hF
    have hT := hF.2.2.2.2
    show (if i = 200 then g1 else if i = 201 then g2 else (ad i).1) < s.heap.size ∧ kst _ (if i = 200 then g1 else if i = 201 then g2 else (ad i).1) (wd z.2.2) ∧ ∀ b', j_R _ (if i = 200 then g1 else if i = 201 then g2 else (ad i).1) 0 = some b' → b' < s.heap.size
    rw [if_neg (show ¬ i = 200 by omega), if_neg (show ¬ i = 201 by omega)]
    have r0 : j_R (s_h s.heap b Lx xs sA vA (D.2 0)) (ad i).1 0 = some (ad i).2 := by rw [rS _ haS, cr_at c1 c5]
    refine ⟨(Array.getElem?_eq_some_iff.mp c1).1, ⟨shS _ haS, by rw [iS _ haS, ci_at c1 c6], w1, fun k hk => ?_, (ad i).2, r0, shV _ (vIn i hi) (by omega) hT, fun k hk => iT _ (vIn i hi) hT k hk⟩, fun b' hb' => ?_⟩
    · rw [List.getD_eq_getElem?_getD, List.getElem?_eq_getElem hk]
      exact w2 _ (List.getElem_mem hk)
    · rw [r0] at hb'
      cases hb'
      exact lt1 hT
  · refine ⟨shV g1 g1In (by omega) T1, shV g2 g2In (by omega) T2, fun k hk => ⟨?_, ?_⟩, lt1 T1, lt1 T2⟩
    · refine (iT g1 g1In T1 k hk).trans ?_
      rw [List.getD_eq_getElem?_getD, List.getElem?_map, List.getElem?_range hk]
      rfl
    · refine (iT g2 g2In T2 k hk).trans ?_
      rw [List.getD_eq_getElem?_getD, List.getElem?_map, List.getElem?_range hk]
      rfl
  · exact lt1 T1
  · exact lt1 T2
  · show (if b = b then some (.inl (7, Lx)) else if b ∈ sA then some (.inr 0) else if b ∈ vA then s_ln s.heap b else none) = _
    rw [if_pos rfl]
  · show (if b = b then xs i else if b ∈ sA then s_ci s.heap b (D.2 0 i) else s_ci s.heap b i) = _
    rw [if_pos rfl]
end Stb

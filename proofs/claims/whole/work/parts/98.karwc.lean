section KAw
variable {nf np ns c : Nat} {L : Lnk} {M : Rf}
theorem kc_arr (h : kI nf np ns c L M) (ho : kO nf ns L M) (hd : kD ns c L M) (hnp : np < 100) {f z : Nat} (hf : f < nf) (z1 : 1 ≤ z) (z2 : z ≤ 1500) (a b d : Int32) :
    kI nf (np + 1) ns c (lArr L nf f np (nI z) a b d) (rArr (rForgive M nf ns f) f np a b d (nI z)) ∧ kO nf ns (lArr L nf f np (nI z) a b d) (rArr (rForgive M nf ns f) f np a b d (nI z)) ∧ kD ns c (lArr L nf f np (nI z) a b d) (rArr (rForgive M nf ns f) f np a b d (nI z)) ∧ rW (rArr (rForgive M nf ns f) f np a b d (nI z)) = rW M ∧ rU (rArr (rForgive M nf ns f) f np a b d (nI z)) = rU M ∧ (∀ k, k ≠ 2 → rX (rArr (rForgive M nf ns f) f np a b d (nI z)) k = rX M k) := by
  obtain ⟨q, sf, hst, hz⟩ := h
  obtain ⟨L1, M1, eL1, eM1, hs1, k1, k2, k3, k4, k5, k6, k7⟩ := kc_raise hst ho hf
  have eA : lArr L nf f np (nI z) a b d = lsP (lsP (lsP (lAdd0 L1 f np (nI z)) np 6 a) np 7 b) np 8 d := by
    unfold lArr lAdd
    rw [eL1]
  rw [eA, eM1]
  have hb := hst.1
  obtain ⟨Lb, ⟨c1, c2, c3, c4⟩, c5, ⟨q0, q1, q2, q3, q4, q5, q6, q7, q8, q10⟩, d1, d2, d3, d4, d5, d6, d7, d8, d9, d10⟩ := kc_lAdd L1 f np (nI z) a b d
  obtain ⟨M10, e0, m1, m2, m3, m4, m5, m6, m7, m8, m9, n0, n1, n2, n3, n4, n5, n6, n7, n8⟩ := kc_rArr M1 f np a b d (nI z)
  rw [e0]
  generalize lsP (lsP (lsP (lAdd0 L1 f np (nI z)) np 6 a) np 7 b) np 8 d = R at d1 d2 d3 d4 d5 d6 d7 d8 d9 d10 ⊢
  have x9 : lX L1 9 = nI np := hs1.2.1.2.2.1.1
  have y2 : rX M1 2 = nI np := hs1.2.1.2.2.1.2
  have e11 : lX L1 11 = rX M1 4 := by rw [hs1.2.1.2.2.2.2.1.1, hs1.2.1.2.2.2.2.1.2]
  have hnew : kSt nf (np + 1) ns c q (up1 sf np 9) Lb M10 := kc_newp hs1 hnp hf z1 z2 (by rw [c1, x9, nI_1]) c2 c3 c4 c5 (fun k hk => by
    match k, hk with
    | 0, _ => rw [q0, n0]
    | 1, _ => rw [q1, n1]
    | 2, _ => rw [q2, n2, e11]
    | 3, _ => rw [q3, n3]
    | 4, _ => rw [q4, n4]
    | 5, _ => rw [q5, n5]
    | 6, _ => rw [q6, n6]
    | 7, _ => rw [q7, n7]
    | 8, _ => rw [q8, n8]) q10 (by rw [m1, y2, nI_1]) m2 m3 m4 m5 m6 m9 n0 n1
  have hfin := kc_end hnew (f := f) (p := np) hf (by omega) n0 (by rw [u1_s]) d1 d2 d3 d4 d5 d6 d7 d8 d9 d10
  have hPe : rP (rPutEnd M10 f np) = rP M10 := rfl
  have hSe : rS (rPutEnd M10 f np) = rS M := by rw [← k5, ← m4]; rfl
  have hXe : rX (rPutEnd M10 f np) = rX M10 := rfl
  have hX1 : ∀ k, k ≠ 2 → rX (rPutEnd M10 f np) k = rX M k := fun k hk => by rw [hXe, m1, u1_n hk, k3]
  have hXR : ∀ k, k ≠ 9 → k ≠ 13 → lX R k = lX L k := fun k h1 h2 => by rw [d1, u1_n h2, c1, u1_n h1, k1]
  refine ⟨⟨_, _, hfin, fun x hx => ?_⟩, fun g hg => ?_, ?_, by rw [← k6, ← m7]; rfl, by rw [← k7, ← m8]; rfl, hX1⟩
  · rw [hPe]
    by_cases e : x = np
    · rw [e, n3, u1_s]; exact ⟨rfl, by omega⟩
    · rw [m9 x 3 e, k4, u1_n e, u1_n e]; exact hz x (by omega)
  · rw [d2 g 16 (by omega), c2, k2 g, ho g hg, hSe, hPe]
    refine congrArg nI (kc_su_cg (fun x _ hx => ?_))
    obtain ⟨p, hp, e⟩ := hst.2.2.2.2.2.2.1.2.1 x (by omega)
    rw [e, show tn (nI p) = p from nI_clamp (by omega), m9 p 0 (by omega), k4]
  · obtain ⟨dl, tm, fo, y1, y2, y3, y4, y5, y6, y7⟩ := hd
    refine ⟨dl, tm, fo, by rw [hX1 7 (by omega)]; exact y1, by rw [hX1 8 (by omega)]; exact y2, by rw [hSe]; exact y3, y4, by rw [hXR 15 (by omega) (by omega)]; exact y5, by rw [hSe]; exact y6, fun m hm => ?_⟩
    rw [hSe, hX1 8 (by omega), hXR 16 (by omega) (by omega)]; exact y7 m hm
end KAw

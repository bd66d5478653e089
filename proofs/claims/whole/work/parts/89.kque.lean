/-! ===== class and reference held together: queues and states change ===== -/
section KQue
variable {nf np ns c : Nat} {q : Nat → List Nat} {sf : Nat → Nat} {L : Lnk} {M : Rf}
theorem kc_nf {a b : Nat} (ha : a < 100) (hb : b < 100) (h : a ≠ b) : ¬ nI a = nI b := fun e => h ((nI_eq (by omega) (by omega)).mp e)
theorem kc_can {a b d : Int32} (h : a + b = d + b) : a = d := by
  have := congrArg (fun x => x - b) h
  simpa [Int32.add_sub_cancel] using this
/-- a queue changes by one packet -/
theorem kc_que (h : kSt nf np ns c q sf L M) {f p v : Nat} {d : Int32} {l' : List Nat} {L' : Lnk} {M' : Rf} (hf : f < nf) (hpf : rP M p 0 = nI f) (hv : (sf p = 0 ∧ v = 9) ∨ (sf p = 9 ∧ v = 0))
    (eX : lX L' = up1 (lX L) 13 (lX L 13 + d)) (eF : ∀ g k, ¬ (g = f ∧ (k = 7 ∨ k = 8 ∨ k = 17 ∨ k = 18)) → lF L' g k = lF L g k) (e7 : lF L' f 7 = lF L f 7 + d) (e8 : lF L' f 8 = lF L f 8 + d * lP L p 1) (e17 : lF L' f 17 = kc_hd l') (e18 : lF L' f 18 = kc_ls l')
    (eP : ∀ x k, k ≠ 9 → lP L' x k = lP L x k) (eC : kc_ch (lP L') l') (eD : ∀ g, g < nf → g ≠ f → kc_ch (lP L') (q g)) (eS : lS L' = lS L) (eV : lV L' = lV L)
    (rx : rX M' = rX M) (rp : rP M' = rP M) (rs : rS M' = rS M) (rv : rV M' = rV M) (rc : rC M' = rC M) (rf : ∀ g k, ¬ (g = f ∧ k = 7) → rF M' g k = rF M g k) (r7 : rF M' f 7 = nI l'.length) (rq : ∀ g, g ≠ f → ∀ x, rQ M' g x = rQ M g x) (rq2 : ∀ i v, l'[i]? = some v → rQ M' f i = nI v)
    (nd : l'.Nodup) (hm : ∀ x, x ∈ l' ↔ x < np ∧ rP M x 0 = nI f ∧ up1 sf p v x = 0) (hl : nI l'.length = nI (q f).length + d) (hb : kc_by (lP L) l' = kc_by (lP L) (q f) + d * lP L p 1) :
    kSt nf np ns c (fun g => if g = f then l' else q g) (up1 sf p v) L' M' := by
  obtain ⟨g0, gX, gF, gV, gP, gS, gT, gQ, gN, gL⟩ := h
  have s2 : ∀ x, up1 sf p v x = 2 ↔ sf x = 2 := fun x => by
    by_cases e : x = p
    · rw [e, u1_s]; omega
    · rw [u1_n e]
  have s3 : ∀ x, up1 sf p v x = 3 ↔ sf x = 3 := fun x => by
    by_cases e : x = p
    · rw [e, u1_s]; omega
    · rw [u1_n e]
  refine ⟨g0, ?_, fun g k hg hk => ?_, ?_, fun x k hx hk => ?_, ?_, ?_, fun g hg => ?_, ⟨?_, ?_, fun g hg => ?_⟩, fun x hx => ?_⟩
  · rw [eX, rx]; exact gX
  · have no := kc_fc_no hk
    by_cases e : g = f ∧ k = 7
    · obtain ⟨rfl, rfl⟩ := e
      show lF L' g 7 = _
      rw [e7, r7, hl, ← (gQ g hg).1.1]
      have := gF g 7 hg (by omega)
      rw [← this]; rfl
    · have e2 : kc_fc k = 7 → k = 7 := fun z => kc_fc_inj hk (by omega) z
      rw [eF g _ (by omega), rf g k e]
      exact gF g k hg hk
  · rw [eV, rv]; exact gV
  · rw [eP x k (by omega), rp]; exact gP x k hx hk
  · rw [eS, rs, rc]; exact gS
  · obtain ⟨t1, t2, t3⟩ := gT
    rw [rp, rs]
    refine ⟨t1, t2, fun g hg => ?_⟩
    rw [rf g 0 (by omega), rf g 6 (by omega)]; exact t3 g hg
  · dsimp only
    by_cases e : g = f
    · subst e
      rw [if_pos rfl, rp]
      exact ⟨⟨r7, rq2⟩, ⟨e17, e18, eC⟩, nd, hm⟩
    · have z := gQ g hg
      rw [if_neg e, rp, rf g 7 (by omega), eF g 17 (by omega), eF g 18 (by omega)]
      refine ⟨⟨z.1.1, fun i v hv => by rw [rq g e]; exact z.1.2 i v hv⟩, ⟨z.2.1.1, z.2.1.2.1, eD g hg e⟩, z.2.2.1, fun x => ?_⟩
      by_cases ex : x = p
      · subst ex
        have z2 := z.2.2.2 x
        have z3 : ¬ rP M x 0 = nI g := by rw [hpf]; exact kc_nf (by omega) (by omega) (Ne.symm e)
        rw [u1_s]
        exact ⟨fun y => absurd (z2.mp y).2.1 z3, fun y => absurd y.2.1 z3⟩
      · rw [u1_n ex]; exact z.2.2.2 x
  · rw [eX, u1_s, gN.1]
    have k1 := kc_su_up (g := fun g => (q g).length) (g' := fun g => (if g = f then l' else q g).length) (j := f) (k := nf) (i := 0) (by omega) (by omega) (fun x hx => by rw [if_neg hx])
    try dsimp only at k1
    rw [if_pos rfl] at k1
    have k2 : nI (kc_su (fun g => (if g = f then l' else q g).length) nf 0) + nI (q f).length = nI (kc_su (fun g => (q g).length) nf 0) + d + nI (q f).length := by
      rw [nI_add, k1, ← nI_add, hl, Int32.add_assoc, Int32.add_comm d]
    exact (kc_can k2).symm
  · rw [eX, u1_n (by omega)]
    simp only [s2]; exact gN.2.1
  · have z := gN.2.2 g hg
    rw [rp]
    simp only [s2, s3]
    rw [eF g 14 (by omega), rf g 9 (by omega)]
    refine ⟨?_, z.2⟩
    by_cases e : g = f
    · subst e
      rw [if_pos rfl, kc_by_cg (P := lP L) (fun x _ => eP x 1 (by omega)), e8, hb, z.1]
    · rw [if_neg e, kc_by_cg (P := lP L) (fun x _ => eP x 1 (by omega)), eF g 8 (by omega)]; exact z.1
  · rw [eP x 10 (by omega), rs]; exact gL x hx
theorem kc_mem (h : kSt nf np ns c q sf L M) {f p : Nat} (hf : f < nf) (hp : p < np) (hpf : rP M p 0 = nI f) (h0 : sf p = 0) : p ∈ q f := by
  obtain ⟨g0, gX, gF, gV, gP, gS, gT, gQ, gN, gL⟩ := h
  exact ((gQ f hf).2.2.2 p).mpr ⟨hp, hpf, h0⟩
theorem kc_dis (h : kSt nf np ns c q sf L M) {f g x : Nat} (hf : f < nf) (hg : g < nf) (hne : g ≠ f) (h1 : x ∈ q f) (h2 : x ∈ q g) : False := by
  obtain ⟨g0, gX, gF, gV, gP, gS, gT, gQ, gN, gL⟩ := h
  have a := (((gQ f hf).2.2.2 x).mp h1).2.1
  have b := (((gQ g hg).2.2.2 x).mp h2).2.1
  exact kc_nf (by omega) (by omega) hne (b.symm.trans a)
/-- a packet leaves its queue -/
theorem kc_leave (h : kSt nf np ns c q sf L M) {f p : Nat} (hf : f < nf) (hp : p < np) (hpf : rP M p 0 = nI f) (h0 : sf p = 0) :
    kSt nf np ns c (fun g => if g = f then (q f).filter (fun v => decide (v ≠ p)) else q g) (up1 sf p 9) (lLeave L f p) (rTake M f p) := by
  have hmem := kc_mem h hf hp hpf h0
  have hin := fun {x : Nat} (hx : x ∈ q f) => kc_in h hf hx
  have hlen := kc_ql h hf
  have hdis := fun {g x : Nat} (hg : g < nf) (hne : g ≠ f) (h1 : x ∈ q f) (h2 : x ∈ q g) => kc_dis h hf hg hne h1 h2
  obtain ⟨⟨b1, b2, b3⟩, gX, gF, gV, gP, gS, gT, gQ, gN, gL⟩ := id h
  obtain ⟨⟨z7, zq⟩, ⟨z17, z18, zc⟩, znd, zm⟩ := gQ f hf
  obtain ⟨l1, l2, eq⟩ := List.append_of_mem hmem
  have hnd := List.nodup_append.mp (eq ▸ znd)
  have hnd2 := List.nodup_cons.mp hnd.2.1
  have p1 : p ∉ l1 := fun z => hnd.2.2 p z p (by simp) rfl
  have nd : (l1 ++ l2).Nodup := List.nodup_append.mpr ⟨hnd.1, hnd2.2, fun x hx y hy => hnd.2.2 x hx y (by simp [hy])⟩
  have efil : (q f).filter (fun v => decide (v ≠ p)) = l1 ++ l2 := by
    rw [eq, List.filter_append, List.filter_cons]
    rw [List.filter_eq_self.mpr (fun x hx => by
      have : x ≠ p := fun e => p1 (e ▸ hx)
      simpa using this), List.filter_eq_self.mpr (fun x hx => by
      have : x ≠ p := fun e => hnd2.1 (e ▸ hx)
      simpa using this)]
    simp
  have in1 : ∀ x ∈ l1, x < 100 := fun x hx => hin (by rw [eq]; simp [hx])
  have in2 : ∀ x ∈ l2, x < 100 := fun x hx => hin (by rw [eq]; simp [hx])
  have ll : l1.length < 100 := by
    have : (q f).length = l1.length + (l2.length + 1) := by rw [eq]; simp
    omega
  rw [eq] at zc
  have wk : lWalk L p 100 (-1) (lF L f 17) = kc_ls l1 := by
    rw [z17, eq, kc_walk (by omega) zc p1 (fun x hx => by have := in1 x hx; omega) ll]
    by_cases e : l1 = []
    · rw [if_pos e, e]; rfl
    · rw [if_neg e]
  have zz : lP L p 9 = kc_hd l2 := (kc_ch_r zc).1
  have c2 : kc_ch (lP L) l2 := (kc_ch_r zc).2
  -- the class's state ahead of the counting
  have hL2 : ∃ L2, lLeave L f p = lCount L2 f p (-1) ∧ lX L2 = lX L ∧ lS L2 = lS L ∧ lV L2 = lV L ∧ (∀ g k, ¬ (g = f ∧ (k = 17 ∨ k = 18)) → lF L2 g k = lF L g k) ∧ lF L2 f 17 = kc_hd (l1 ++ l2) ∧ lF L2 f 18 = kc_ls (l1 ++ l2) ∧ (∀ x k, k ≠ 9 → lP L2 x k = lP L x k) ∧ kc_ch (lP L2) (l1 ++ l2) ∧ ∀ g, g < nf → g ≠ f → kc_ch (lP L2) (q g) := by
    refine ⟨_, rfl, ?_⟩
    rw [wk, zz]
    rcases List.eq_nil_or_concat l1 with e | ⟨l0, b, e⟩
    · subst e
      rw [if_pos (show kc_ls [] = -1 from rfl)]
      by_cases e2 : l2 = []
      · subst e2
        rw [if_pos (show kc_hd [] = -1 from rfl)]
        refine ⟨rfl, rfl, rfl, fun g k hk => ?_, ?_, ?_, fun x k _ => rfl, trivial, fun g hg _ => (gQ g hg).2.1.2.2⟩
        · show j_up (j_up (lF L) f 17 _) f 18 _ g k = _
          rw [ju_n (by omega), ju_n (by omega)]
        · show j_up (j_up (lF L) f 17 _) f 18 _ f 17 = _
          rw [ju_n (by omega), ju_s]; rfl
        · show j_up (j_up (lF L) f 17 _) f 18 _ f 18 = _
          rw [ju_s]; rfl
      · rw [if_neg (fun z => e2 ((kc_hd_m1 (fun x hx => by have := in2 x hx; omega)).mp z))]
        refine ⟨rfl, rfl, rfl, fun g k hk => ?_, ?_, ?_, fun x k _ => rfl, c2, fun g hg _ => (gQ g hg).2.1.2.2⟩
        · show j_up (lF L) f 17 _ g k = _
          rw [ju_n (by omega)]
        · show j_up (lF L) f 17 _ f 17 = _
          rw [ju_s]; rfl
        · show j_up (lF L) f 17 _ f 18 = _
          rw [ju_n (by omega), z18, eq]
          exact (kc_ls_app (m := p :: l2) (by simp) []).trans (by
            cases l2 with
            | nil => exact absurd rfl e2
            | cons a r => rfl)
    · have eb : l1 = l0 ++ [b] := by rw [e, List.concat_eq_append]
      have hls : kc_ls l1 = nI b := by rw [eb, kc_ls_app (by simp)]; rfl
      have hb100 : b < 100 := in1 b (by rw [eb]; simp)
      have hbn : ¬ nI b = -1 := nI_ne1 (by omega)
      rw [hls, if_neg hbn, show (nI b).toNatClampNeg = b from nI_clamp (by omega)]
      have b0 : b ∉ l0 := by
        intro z
        have := (List.nodup_append.mp (eb ▸ hnd.1)).2.2 b z b (by simp)
        exact this rfl
      have b2' : b ∉ l2 := fun z => (List.nodup_append.mp nd).2.2 b (by rw [eb]; simp) b z rfl
      have hch : kc_ch (j_up (lP L) b 9 (kc_hd l2)) (l1 ++ l2) := by
        rw [eb]
        have zc' : kc_ch (lP L) (l0 ++ b :: p :: l2) := by rw [eb] at zc; simpa using zc
        have := kc_ch_rm zc' b0 b2'
        simpa using this
      have hoth : ∀ g, g < nf → g ≠ f → kc_ch (j_up (lP L) b 9 (kc_hd l2)) (q g) := fun g hg hne => kc_ch_cg (P := lP L) (fun x hx => by
        have : x ≠ b := fun z => hdis hg hne (by rw [eq, eb]; simp) (z ▸ hx)
        rw [ju_n (by omega)]) (gQ g hg).2.1.2.2
      by_cases e2 : l2 = []
      · rw [if_pos (by rw [e2]; rfl)]
        refine ⟨rfl, rfl, rfl, fun g k hk => ?_, ?_, ?_, fun x k hk => ?_, hch, hoth⟩
        · show j_up (lF L) f 18 _ g k = _
          rw [ju_n (by omega)]
        · show j_up (lF L) f 18 _ f 17 = _
          rw [ju_n (by omega), z17, eq, kc_hd_app (by rw [eb]; simp), kc_hd_app (by rw [eb]; simp)]
        · show j_up (lF L) f 18 _ f 18 = _
          rw [ju_s, e2, List.append_nil, hls]
        · show j_up (lP L) b 9 _ x k = _
          rw [ju_n (by omega)]
      · rw [if_neg (fun z => e2 ((kc_hd_m1 (fun x hx => by have := in2 x hx; omega)).mp z))]
        refine ⟨rfl, rfl, rfl, fun g k hk => rfl, ?_, ?_, fun x k hk => ?_, hch, hoth⟩
        · show lF L f 17 = _
          rw [z17, eq, kc_hd_app (by rw [eb]; simp), kc_hd_app (by rw [eb]; simp)]
        · show lF L f 18 = _
          rw [z18, eq, kc_ls_app (by simp), kc_ls_app e2]
          cases l2 with
          | nil => exact absurd rfl e2
          | cons a r => rfl
        · show j_up (lP L) b 9 _ x k = _
          rw [ju_n (by omega)]
  obtain ⟨L2, eL, k1, k2, k3, k4, k5, k6, k7, k8, k9⟩ := hL2
  -- the reference
  have hl31 : tn (rF M f 7) = (q f).length := by rw [z7]; exact nI_clamp (by omega)
  obtain ⟨Q', t1, t2, t3⟩ := kc_take (f := f) (p := p) (by omega) (q f) 0 0 M [] (fun x hx => by have := hin hx; omega) rfl (Nat.le_refl _) (fun x v hv => by rw [Nat.zero_add]; exact zq x v hv) (fun x v hv => by simp at hv)
  rw [List.nil_append] at t1 t3
  have eM : rTake M f p = rsF (kc_sQ M Q') f 7 (nI ((q f).filter (fun v => decide (v ≠ p))).length) := by
    unfold rTake
    rw [hl31, t1]
    unfold rTakeE
    dsimp only
    rw [Int32.add_comm, Int32.sub_add_cancel]
  rw [eL, eM]
  refine kc_que h (d := -1) hf hpf (Or.inl ⟨h0, rfl⟩) ?_ (fun g k hk => ?_) ?_ ?_ ?_ ?_ (fun x k hk => ?_) ?_ k9 k2 k3 rfl rfl rfl rfl rfl (fun g k hk => ?_) ?_ t2 t3 ?_ (fun x => ?_) ?_ ?_
  · show up1 (lX L2) 13 (lX L2 13 + -1) = _
    rw [k1]
  · show j_up (j_up (lF L2) f 7 _) f 8 _ g k = _
    rw [ju_n (by omega), ju_n (by omega), k4 g k (by omega)]
  · show j_up (j_up (lF L2) f 7 (lF L2 f 7 + -1)) f 8 _ f 7 = _
    rw [ju_n (by omega), ju_s, k4 f 7 (by omega)]
  · show j_up (j_up (lF L2) f 7 _) f 8 (j_up (lF L2) f 7 _ f 8 + -1 * lP L2 p 1) f 8 = _
    rw [ju_s, ju_n (by omega), k4 f 8 (by omega), k7 p 1 (by omega)]
  · show j_up (j_up (lF L2) f 7 _) f 8 _ f 17 = _
    rw [ju_n (by omega), ju_n (by omega), k5, efil]
  · show j_up (j_up (lF L2) f 7 _) f 8 _ f 18 = _
    rw [ju_n (by omega), ju_n (by omega), k6, efil]
  · exact k7 x k hk
  · rw [efil]; exact k8
  · show j_up (rF M) f 7 _ g k = _
    rw [ju_n hk]
  · show j_up (rF M) f 7 _ f 7 = _
    rw [ju_s]
  · rw [efil]; exact nd
  · rw [List.mem_filter, decide_eq_true_eq]
    by_cases e : x = p
    · subst e
      rw [u1_s]
      exact ⟨fun z => absurd rfl z.2, fun z => absurd z.2.2 (by omega)⟩
    · rw [u1_n e, zm x]
      exact ⟨fun z => z.1, fun z => ⟨z, e⟩⟩
  · rw [efil, eq]
    have : (l1 ++ p :: l2).length = (l1 ++ l2).length + 1 := by simp; omega
    rw [this, pk_m1]
  · rw [efil, eq, kc_by_app, kc_by_app]
    show _ = kc_by (lP L) l1 + (lP L p 1 + kc_by (lP L) l2) + -1 * lP L p 1
    have e1 : (-1 : Int32) * lP L p 1 = - lP L p 1 := by rw [Int32.neg_mul, Int32.one_mul]
    rw [e1, Int32.add_comm (lP L p 1), ← Int32.add_assoc, Int32.add_assoc, Int32.add_right_neg, Int32.add_zero]
/-- a packet joins its queue's head -/
theorem kc_head (h : kSt nf np ns c q sf L M) {f p : Nat} (hf : f < nf) (hp : p < np) (hpf : rP M p 0 = nI f) (h9 : sf p = 9) :
    kSt nf np ns c (fun g => if g = f then p :: q f else q g) (up1 sf p 0) (lJoinHead L f p) (rPutHead M f p) := by
  have hin := fun {x : Nat} (hx : x ∈ q f) => kc_in h hf hx
  have hlen := kc_ql h hf
  obtain ⟨⟨b1, b2, b3⟩, gX, gF, gV, gP, gS, gT, gQ, gN, gL⟩ := id h
  obtain ⟨⟨z7, zq⟩, ⟨z17, z18, zc⟩, znd, zm⟩ := gQ f hf
  have hno : p ∉ q f := fun z => absurd ((zm p).mp z).2.2 (by omega)
  have hnoG : ∀ g, g < nf → p ∉ q g := fun g hg z => absurd (((gQ g hg).2.2.2 p).mp z).2.2 (by omega)
  have hL3 : ∃ L3, lJoinHead L f p = lCount L3 f p 1 ∧ lX L3 = lX L ∧ lS L3 = lS L ∧ lV L3 = lV L ∧ (∀ g k, ¬ (g = f ∧ (k = 17 ∨ k = 18)) → lF L3 g k = lF L g k) ∧ lF L3 f 17 = nI p ∧ lF L3 f 18 = kc_ls (p :: q f) ∧ lP L3 = j_up (lP L) p 9 (kc_hd (q f)) := by
    refine ⟨_, rfl, ?_⟩
    have e18 : lF (lsF (lsP L p 9 (lF L f 17)) f 17 (nI p)) f 18 = kc_ls (q f) := by
      show j_up (lF L) f 17 (nI p) f 18 = _
      rw [ju_n (by omega)]; exact z18
    rw [e18]
    by_cases e : q f = []
    · rw [if_pos (by rw [e]; rfl)]
      refine ⟨rfl, rfl, rfl, fun g k hk => ?_, ?_, ?_, ?_⟩
      · show j_up (j_up (lF L) f 17 _) f 18 _ g k = _
        rw [ju_n (by omega), ju_n (by omega)]
      · show j_up (j_up (lF L) f 17 _) f 18 _ f 17 = _
        rw [ju_n (by omega), ju_s]
      · show j_up (j_up (lF L) f 17 _) f 18 _ f 18 = _
        rw [ju_s, e]; rfl
      · show j_up (lP L) p 9 (lF L f 17) = _
        rw [z17]
    · rw [if_neg (fun z => e ((kc_ls_m1 (fun x hx => by have := hin hx; omega)).mp z))]
      refine ⟨rfl, rfl, rfl, fun g k hk => ?_, ?_, ?_, ?_⟩
      · show j_up (lF L) f 17 _ g k = _
        rw [ju_n (by omega)]
      · show j_up (lF L) f 17 _ f 17 = _
        rw [ju_s]
      · show j_up (lF L) f 17 _ f 18 = _
        rw [ju_n (by omega), z18]
        cases e4 : q f with
        | nil => exact absurd e4 e
        | cons a r => rfl
      · show j_up (lP L) p 9 (lF L f 17) = _
        rw [z17]
  obtain ⟨L3, eL, k1, k2, k3, k4, k5, k6, k7⟩ := hL3
  have hl31 : tn (rF M f 7) = (q f).length := by rw [z7]; exact nI_clamp (by omega)
  obtain ⟨Q', t1, t2⟩ := kc_shift (f := f) (q f).length M
  have eM : rPutHead M f p = rsF (rsQ (kc_sQ M Q') f 0 (nI p)) f 7 (nI (p :: q f).length) := by
    unfold rPutHead
    rw [hl31, t1]
    unfold rPutE
    have : rF (rsQ (kc_sQ M Q') f 0 (nI p)) f 7 = nI (q f).length := z7
    rw [this, nI_1]; rfl
  rw [eL, eM]
  refine kc_que h (d := 1) hf hpf (Or.inr ⟨h9, rfl⟩) ?_ (fun g k hk => ?_) ?_ ?_ ?_ ?_ (fun x k hk => ?_) ?_ (fun g hg hne => ?_) k2 k3 rfl rfl rfl rfl rfl (fun g k hk => ?_) ?_ (fun g hne x => ?_) (fun i v hv => ?_) ?_ (fun x => ?_) ?_ ?_
  · show up1 (lX L3) 13 (lX L3 13 + 1) = _
    rw [k1]
  · show j_up (j_up (lF L3) f 7 _) f 8 _ g k = _
    rw [ju_n (by omega), ju_n (by omega), k4 g k (by omega)]
  · show j_up (j_up (lF L3) f 7 (lF L3 f 7 + 1)) f 8 _ f 7 = _
    rw [ju_n (by omega), ju_s, k4 f 7 (by omega)]
  · show j_up (j_up (lF L3) f 7 _) f 8 (j_up (lF L3) f 7 _ f 8 + 1 * lP L3 p 1) f 8 = _
    rw [ju_s, ju_n (by omega), k4 f 8 (by omega), k7, ju_n (by omega)]
  · show j_up (j_up (lF L3) f 7 _) f 8 _ f 17 = _
    rw [ju_n (by omega), ju_n (by omega), k5]; rfl
  · show j_up (j_up (lF L3) f 7 _) f 8 _ f 18 = _
    rw [ju_n (by omega), ju_n (by omega), k6]
  · show lP L3 x k = _
    rw [k7, ju_n (by omega)]
  · show kc_ch (lP L3) (p :: q f)
    rw [k7]
    refine ⟨by rw [ju_s], kc_ch_cg (P := lP L) (fun x hx => ?_) zc⟩
    have : x ≠ p := fun e => hno (e ▸ hx)
    rw [ju_n (by omega)]
  · show kc_ch (lP L3) (q g)
    rw [k7]
    refine kc_ch_cg (P := lP L) (fun x hx => ?_) (gQ g hg).2.1.2.2
    have : x ≠ p := fun e => hnoG g hg (e ▸ hx)
    rw [ju_n (by omega)]
  · show j_up (rF M) f 7 _ g k = _
    rw [ju_n hk]
  · show j_up (rF M) f 7 _ f 7 = _
    rw [ju_s]
  · show j_up Q' f 0 (nI p) g x = _
    rw [ju_n (by omega), t2, if_neg (by omega)]
  · show j_up Q' f 0 (nI p) f i = _
    cases i with
    | zero =>
      have : p = v := by simpa using hv
      rw [ju_s, this]
    | succ i =>
      have hv2 : (q f)[i]? = some v := by simpa using hv
      have hi : i < (q f).length := (List.getElem?_eq_some_iff.mp hv2).1
      rw [ju_n (by omega), t2, if_pos (by omega), Nat.add_sub_cancel]
      exact zq i v hv2
  · exact List.nodup_cons.mpr ⟨hno, znd⟩
  · rw [List.mem_cons]
    by_cases e : x = p
    · subst e
      rw [u1_s]
      exact ⟨fun _ => ⟨hp, hpf, rfl⟩, fun _ => Or.inl rfl⟩
    · rw [u1_n e, zm x]
      exact ⟨fun z => z.elim (fun y => absurd y e) id, Or.inr⟩
  · rw [nI_1]; rfl
  · show lP L p 1 + kc_by (lP L) (q f) = kc_by (lP L) (q f) + 1 * lP L p 1
    rw [Int32.one_mul, Int32.add_comm]
end KQue

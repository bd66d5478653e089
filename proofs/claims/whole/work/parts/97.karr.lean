/-! ===== class and reference held together: an arrival ===== -/
section KAr
variable {nf np ns c : Nat} {q : Nat → List Nat} {sf : Nat → Nat} {L L' : Lnk} {M M' : Rf}
theorem kc_low {f : Nat} (h : kSt nf np ns c q sf L M) (ho : kO nf ns L M) (hf : f < nf) : ∀ (k g : Nat) (b : Int32) (a : Int64) (fd : Bool), g + k ≤ nf → ((b = -1 ∧ fd = false) ∨ ∃ x, x < nf ∧ b = nI x ∧ fd = true ∧ a = rV M x) →
    (lPick (lV L) (fun g => decide (¬ nI g = nI f) && lBusy L g) k g b = -1 ∧ (rLow M ns f k g a fd).2 = false) ∨ ∃ x, x < nf ∧ lPick (lV L) (fun g => decide (¬ nI g = nI f) && lBusy L g) k g b = nI x ∧ (rLow M ns f k g a fd).2 = true ∧ (rLow M ns f k g a fd).1 = rV M x := by
  have hb := h.1
  have gV := h.2.2.2.1
  intro k
  induction k with
  | zero =>
    intro g b a fd _ hi
    rcases hi with ⟨z1, z2⟩ | ⟨x, x1, x2, x3, x4⟩
    · exact Or.inl ⟨z1, z2⟩
    · exact Or.inr ⟨x, x1, x2, x3, x4⟩
  | succ k ih =>
    intro g b a fd hg hi
    have hby := kc_busy h ho (f := g) (by omega)
    show (lPick (lV L) (fun g => decide (¬ nI g = nI f) && lBusy L g) k (g + 1) (if (decide (¬ nI g = nI f) && lBusy L g) = true ∧ (b = -1 ∨ lV L g < lV L b.toNatClampNeg) then nI g else b) = -1 ∧ (if nI g = nI f ∨ rIdle M ns g = true then rLow M ns f k (g + 1) a fd else rLow M ns f k (g + 1) (if fd = true then (if rV M g < a then rV M g else a) else rV M g) true).2 = false) ∨ ∃ x, x < nf ∧ lPick (lV L) (fun g => decide (¬ nI g = nI f) && lBusy L g) k (g + 1) (if (decide (¬ nI g = nI f) && lBusy L g) = true ∧ (b = -1 ∨ lV L g < lV L b.toNatClampNeg) then nI g else b) = nI x ∧ (if nI g = nI f ∨ rIdle M ns g = true then rLow M ns f k (g + 1) a fd else rLow M ns f k (g + 1) (if fd = true then (if rV M g < a then rV M g else a) else rV M g) true).2 = true ∧ (if nI g = nI f ∨ rIdle M ns g = true then rLow M ns f k (g + 1) a fd else rLow M ns f k (g + 1) (if fd = true then (if rV M g < a then rV M g else a) else rV M g) true).1 = rV M x
    rw [hby]
    by_cases g1 : nI g = nI f ∨ rIdle M ns g = true
    · have n1 : ¬ (decide (¬ nI g = nI f) && !rIdle M ns g) = true := by
        rcases g1 with z | z <;> simp [z]
      rw [if_neg (fun z => n1 z.1), if_pos g1]
      exact ih (g + 1) b a fd (by omega) hi
    · have y1 : (decide (¬ nI g = nI f) && !rIdle M ns g) = true := by
        have z1 : ¬ nI g = nI f := fun z => g1 (Or.inl z)
        have z2 : rIdle M ns g = false := Bool.eq_false_iff.mpr (fun z => g1 (Or.inr z))
        simp [z1, z2]
      rw [if_neg g1]
      refine ih (g + 1) _ _ true (by omega) (Or.inr ?_)
      rcases hi with ⟨z1, z2⟩ | ⟨x, x1, x2, x3, x4⟩
      · rw [if_pos ⟨y1, Or.inl z1⟩, z2, if_neg (by decide)]
        exact ⟨g, by omega, rfl, rfl, rfl⟩
      · rw [x3, if_pos rfl, x2, show (nI x).toNatClampNeg = x from nI_clamp (by omega), gV g (by omega), gV x x1, x4]
        by_cases g2 : rV M g < rV M x
        · rw [if_pos ⟨y1, Or.inr g2⟩, if_pos g2]
          exact ⟨g, by omega, rfl, rfl, rfl⟩
        · rw [if_neg (fun z => z.2.elim (fun w => nI_ne1 (by omega) w) g2), if_neg g2]
          exact ⟨x, x1, rfl, rfl, rfl⟩
/-- a flow that was idle is raised -/
theorem kc_raise (h : kSt nf np ns c q sf L M) (ho : kO nf ns L M) {f : Nat} (hf : f < nf) :
    ∃ L1 M1, (if lBusy L f = true then L else lRaise L nf f) = L1 ∧ rForgive M nf ns f = M1 ∧ kSt nf np ns c q sf L1 M1 ∧ lX L1 = lX L ∧ (∀ g, lF L1 g 16 = lF L g 16) ∧ rX M1 = rX M ∧ rP M1 = rP M ∧ rS M1 = rS M ∧ rW M1 = rW M ∧ rU M1 = rU M := by
  have hb := h.1
  have hby := kc_busy h ho hf
  unfold rForgive
  by_cases g1 : rIdle M ns f = true
  · rw [hby, g1, if_neg (by decide)]
    unfold lRaise
    dsimp only
    have key := kc_low h ho hf nf 0 (-1) 0 false (by omega) (Or.inl ⟨rfl, rfl⟩)
    have eL : lLeast L nf (nI f) = lPick (lV L) (fun g => decide (¬ nI g = nI f) && lBusy L g) nf 0 (-1) := rfl
    rw [← eL] at key
    rcases key with ⟨k1, k2⟩ | ⟨x, x1, k1, k2, k3⟩
    · rw [if_pos k1, k2, if_neg (fun z => absurd z.1 (by decide))]
      exact ⟨L, M, rfl, rfl, h, rfl, fun _ => rfl, rfl, rfl, rfl, rfl, rfl⟩
    · rw [k1, if_neg (nI_ne1 (by omega)), show (nI x).toNatClampNeg = x from nI_clamp (by omega)]
      obtain ⟨w, w1, w2, w3⟩ := (h.2.2.2.2.2.2.1.2.2 f hf).1
      have e2 : lF L f 2 = rF M f 2 := h.2.2.1 f 2 hf (by omega)
      have e0 : lF L f 0 = rF M f 0 := h.2.2.1 f 0 hf (by omega)
      have eu : lUnit L f = nI (720720 / w) := by
        unfold lUnit
        rw [e0, w3]; exact kc_unit w1 w2
      have hk : 720720 / w ≤ 720720 := Nat.div_le_self _ _
      have efl : lV L x - (lF L f 2).toInt64 * (lUnit L f).toInt64 = rFloor M nf ns f := by
        unfold rFloor
        rw [k3, h.2.2.2.1 x x1, eu, e2, nI_l (by omega), kc_mulU _ w1 w2, w3, nI_l (n := w) (by omega)]
      rw [efl, h.2.2.2.1 f hf]
      by_cases g2 : rV M f < rFloor M nf ns f
      · rw [if_pos g2, if_pos ⟨k2, rfl, g2⟩]
        have e15 : lF (lsV L f (rFloor M nf ns f)) f 15 = rF M f 13 := h.2.2.1 f 13 hf (by omega)
        rw [e15]
        refine ⟨_, _, rfl, rfl, kc_F (kc_V h (f := f) (rFloor M nf ns f)) (f := f) (k := 13) (by omega) (by omega) _, rfl, fun g => ?_, rfl, rfl, rfl, rfl, rfl⟩
        show j_up (lF L) f 15 _ g 16 = _
        rw [ju_n (by omega)]
      · rw [if_neg g2, if_neg (fun z => g2 z.2.2)]
        exact ⟨L, M, rfl, rfl, h, rfl, fun _ => rfl, rfl, rfl, rfl, rfl, rfl⟩
  · rw [hby, Bool.eq_false_iff.mpr g1, if_pos (by decide), if_neg (fun z => absurd z.2.1 (by decide))]
    exact ⟨L, M, rfl, rfl, h, rfl, fun _ => rfl, rfl, rfl, rfl, rfl, rfl⟩
theorem kc_lat_no {T : Nat → Nat → Int32} {p : Nat} : ∀ {n : Nat}, (∀ m, m < n → ¬ T m 0 = nI p) → kc_lat T p n = -1 := by
  intro n
  induction n with
  | zero => intro _; rfl
  | succ n ih =>
    intro h
    show (if T n 0 = nI p then nI n else kc_lat T p n) = -1
    rw [if_neg (h n (by omega)), ih (fun m hm => h m (by omega))]
/-- a new packet, in no queue yet -/
theorem kc_newp (h : kSt nf np ns c q sf L M) (hnp : np < 100) {f z : Nat} (hf : f < nf) (z1 : 1 ≤ z) (z2 : z ≤ 1500) (ex : lX L' = up1 (lX L) 9 (nI (np + 1))) (eF : lF L' = lF L) (eV : lV L' = lV L) (eS : lS L' = lS L) (p1 : ∀ x k, x ≠ np → lP L' x k = lP L x k) (p2 : ∀ k, k < 9 → lP L' np k = rP M' np k) (p10 : lP L' np 10 = -1)
    (ey : rX M' = up1 (rX M) 2 (nI (np + 1))) (rf : rF M' = rF M) (rq : rQ M' = rQ M) (rs : rS M' = rS M) (rv : rV M' = rV M) (rc : rC M' = rC M) (r1 : ∀ x k, x ≠ np → rP M' x k = rP M x k) (r0 : rP M' np 0 = nI f) (rz : rP M' np 1 = nI z) : kSt nf (np + 1) ns c q (up1 sf np 9) L' M' := by
  obtain ⟨g0, ⟨a1, a2, a3, a4, a5, a6⟩, gF, gV, gP, gS, ⟨b1, b2, b3⟩, gQ, gN, gL⟩ := h
  have sfx : ∀ x, x < np → up1 sf np 9 x = sf x := fun x hx => u1_n (by omega)
  refine ⟨by omega, ⟨?_, ?_, ⟨by rw [ex, u1_s], by rw [ey, u1_s]⟩, ?_, ?_, ?_⟩, by rw [eF, rf]; exact gF, by rw [eV, rv]; exact gV, fun x k hx hk => ?_, by rw [eS, rs, rc]; exact gS, ⟨fun x hx => ?_, fun m hm => ?_, by rw [rf]; exact b3⟩, fun g hg => ?_, ⟨?_, ?_, fun g hg => ?_⟩, fun x hx => ?_⟩
  · rw [ex, ey]; exact a1
  · rw [ex, ey]; exact a2
  · rw [ex, ey]; exact a4
  · rw [ex, ey]; exact a5
  · rw [ex, ey]; exact a6
  · by_cases e : x = np
    · rw [e]; exact p2 k hk
    · rw [p1 x k e, r1 x k e]; exact gP x k (by omega) hk
  · by_cases e : x = np
    · rw [e]; exact ⟨⟨f, hf, r0⟩, z, z1, z2, rz⟩
    · rw [r1 x 0 e, r1 x 1 e]; exact b1 x (by omega)
  · rw [rs]
    obtain ⟨p, hp, e⟩ := b2 m hm
    exact ⟨p, by omega, e⟩
  · have y := gQ g hg
    rw [rf, rq, eF]
    refine ⟨y.1, ⟨y.2.1.1, y.2.1.2.1, kc_ch_cg (P := lP L) (fun x hx => ?_) y.2.1.2.2⟩, y.2.2.1, fun x => ?_⟩
    · have := ((y.2.2.2 x).mp hx).1
      exact p1 x 9 (by omega)
    · by_cases e : x = np
      · subst e
        rw [u1_s]
        exact ⟨fun w => absurd ((y.2.2.2 x).mp w).1 (by omega), fun w => absurd w.2.2 (by omega)⟩
      · rw [u1_n e, r1 x 0 e, y.2.2.2 x]
        exact ⟨fun w => ⟨by omega, w.2⟩, fun w => ⟨by omega, w.2⟩⟩
  · rw [ex]; exact gN.1
  · rw [ex, kc_su_sn, Nat.zero_add, u1_s, if_neg (by omega)]
    rw [kc_su_cg (g := fun p => if up1 sf np 9 p = 2 then 1 else 0) (g' := fun p => if sf p = 2 then 1 else 0) (fun x _ hx => by rw [sfx x (by omega)])]
    exact gN.2.1
  · have y := gN.2.2 g hg
    refine ⟨?_, ?_, ?_⟩
    · rw [eF, kc_by_cg (P := lP L) (fun x hx => by
        have := (((gQ g hg).2.2.2 x).mp hx).1
        exact p1 x 1 (by omega))]
      exact y.1
    · rw [eF, kc_su_sn, Nat.zero_add, u1_s, if_neg (by omega)]
      rw [kc_su_cg (g := fun p => if rP M' p 0 = nI g ∧ up1 sf np 9 p = 3 then 1 else 0) (g' := fun p => if rP M p 0 = nI g ∧ sf p = 3 then 1 else 0) (fun x _ hx => by rw [sfx x (by omega), r1 x 0 (by omega)])]
      exact y.2.1
    · rw [rf, kc_su_sn, Nat.zero_add, u1_s, if_neg (by omega)]
      rw [kc_su_cg (g := fun p => if rP M' p 0 = nI g ∧ up1 sf np 9 p = 2 then tn (rP M' p 1) else 0) (g' := fun p => if rP M p 0 = nI g ∧ sf p = 2 then tn (rP M p 1) else 0) (fun x _ hx => by rw [sfx x (by omega), r1 x 0 (by omega), r1 x 1 (by omega)])]
      exact y.2.2
  · rw [rs]
    by_cases e : x = np
    · rw [e, p10, kc_lat_no (fun m hm => ?_)]
      obtain ⟨p, hp, e2⟩ := b2 m hm
      rw [e2]
      exact kc_nf (by omega) (by omega) (by omega)
    · rw [p1 x 10 e]; exact gL x (by omega)
/-- a packet joins its queue's end; the class's state may have other columns of the packet set since -/
theorem kc_end (h : kSt nf np ns c q sf L M) {f p : Nat} (hf : f < nf) (hp : p < np) (hpf : rP M p 0 = nI f) (h9 : sf p = 9) (eX : lX L' = up1 (lX L) 13 (lX L 13 + 1)) (eF : ∀ g k, ¬ (g = f ∧ (k = 7 ∨ k = 8 ∨ k = 17 ∨ k = 18)) → lF L' g k = lF L g k) (e7 : lF L' f 7 = lF L f 7 + 1) (e8 : lF L' f 8 = lF L f 8 + 1 * lP L p 1) (e17 : lF L' f 17 = if lF L f 18 = -1 then nI p else lF L f 17) (e18 : lF L' f 18 = nI p)
    (eP : ∀ x k, k ≠ 9 → lP L' x k = lP L x k) (e9 : ∀ x, lP L' x 9 = if lF L f 18 = -1 then (if x = p then -1 else lP L x 9) else (if x = (lF L f 18).toNatClampNeg then nI p else if x = p then -1 else lP L x 9)) (eS : lS L' = lS L) (eV : lV L' = lV L) : kSt nf np ns c (fun g => if g = f then q f ++ [p] else q g) (up1 sf p 0) L' (rPutEnd M f p) := by
  have hin := fun {x : Nat} (hx : x ∈ q f) => kc_in h hf hx
  have hlen := kc_ql h hf
  have hdis := fun {g x : Nat} (hg : g < nf) (hne : g ≠ f) (h1 : x ∈ q f) (h2 : x ∈ q g) => kc_dis h hf hg hne h1 h2
  obtain ⟨⟨b1, b2, b3⟩, gX, gF, gV, gP, gS, gT, gQ, gN, gL⟩ := id h
  obtain ⟨⟨z7, zq⟩, ⟨z17, z18, zc⟩, znd, zm⟩ := gQ f hf
  have hno : p ∉ q f := fun z => absurd ((zm p).mp z).2.2 (by omega)
  have hnoG : ∀ g, g < nf → p ∉ q g := fun g hg z => absurd (((gQ g hg).2.2.2 p).mp z).2.2 (by omega)
  have hl31 : tn (rF M f 7) = (q f).length := by rw [z7]; exact nI_clamp (by omega)
  have eM : rPutEnd M f p = rsF (rsQ M f (q f).length (nI p)) f 7 (nI (q f ++ [p]).length) := by
    unfold rPutEnd rPutE
    rw [hl31]
    have : rF (rsQ M f (q f).length (nI p)) f 7 = nI (q f).length := z7
    rw [this, nI_1, List.length_append]; rfl
  rw [eM]
  refine kc_que h (d := 1) hf hpf (Or.inr ⟨h9, rfl⟩) eX eF e7 e8 ?_ ?_ eP ?_ (fun g hg hne => ?_) eS eV rfl rfl rfl rfl rfl (fun g k hk => ?_) ?_ (fun g hne x => ?_) (fun i v hv => ?_) ?_ (fun x => ?_) ?_ ?_
  · rw [e17, z18, z17]
    by_cases e : q f = []
    · rw [if_pos (by rw [e]; rfl), e]; rfl
    · rw [if_neg (fun z => e ((kc_ls_m1 (fun x hx => by have := hin hx; omega)).mp z)), kc_hd_app e]
  · rw [e18, kc_ls_app (by simp)]; rfl
  · rcases List.eq_nil_or_concat (q f) with e | ⟨l0, b, e⟩
    · rw [e]
      refine ⟨?_, trivial⟩
      rw [e9, z18, e, if_pos (show kc_ls [] = -1 from rfl), if_pos rfl]; rfl
    · rw [List.concat_eq_append] at e
      have hb100 : b < 100 := hin (by rw [e]; simp)
      have hls : lF L f 18 = nI b := by rw [z18, e, kc_ls_app (by simp)]; rfl
      have nb : ¬ nI b = -1 := nI_ne1 (by omega)
      have bp : p ≠ b := fun z => hno (by rw [e, z]; simp)
      have b0 : b ∉ l0 := fun z => (List.nodup_append.mp (e ▸ znd)).2.2 b z b (by simp) rfl
      have p0 : p ∉ l0 := fun z => hno (by rw [e]; simp [z])
      have c1 := kc_ch_add (P := j_up (lP L) p 9 (-1)) (b := b) (p := p) (l0 := l0) (kc_ch_cg (P := lP L) (fun x hx => by
        have : x ≠ p := fun z => hno (by rw [e]; exact z ▸ hx)
        rw [ju_n (by omega)]) (e ▸ zc)) b0 p0 bp (by rw [ju_s])
      rw [e, List.append_assoc]
      refine kc_ch_cg (P := j_up (j_up (lP L) p 9 (-1)) b 9 (nI p)) (fun x _ => ?_) c1
      rw [e9, hls, if_neg nb, show (nI b).toNatClampNeg = b from nI_clamp (by omega)]
      by_cases y : x = b
      · rw [if_pos y, y, ju_s]
      · rw [if_neg y, ju_n (by omega)]
        by_cases y2 : x = p
        · rw [if_pos y2, y2, ju_s]
        · rw [if_neg y2, ju_n (by omega)]
  · refine kc_ch_cg (P := lP L) (fun x hx => ?_) (gQ g hg).2.1.2.2
    have hxp : x ≠ p := fun e => hnoG g hg (e ▸ hx)
    rw [e9]
    by_cases nz : lF L f 18 = -1
    · rw [if_pos nz, if_neg hxp]
    · rw [if_neg nz, if_neg, if_neg hxp]
      intro ez
      rcases List.eq_nil_or_concat (q f) with e | ⟨l0, b, e⟩
      · exact nz (by rw [z18, e]; rfl)
      · rw [List.concat_eq_append] at e
        have hb100 : b < 100 := hin (by rw [e]; simp)
        rw [z18, e, kc_ls_app (by simp)] at ez
        have ez2 : x = b := ez.trans (nI_clamp (by omega))
        exact hdis hg hne (by rw [e]; simp) (ez2 ▸ hx)
  · show j_up (rF M) f 7 _ g k = _
    rw [ju_n hk]
  · show j_up (rF M) f 7 _ f 7 = _
    rw [ju_s]
  · show j_up (rQ M) f (q f).length (nI p) g x = _
    rw [ju_n (by omega)]
  · show j_up (rQ M) f (q f).length (nI p) f i = _
    by_cases e : i = (q f).length
    · subst e
      rw [List.getElem?_append_right (Nat.le_refl _), Nat.sub_self] at hv
      have : p = v := by simpa using hv
      rw [ju_s, this]
    · have hlt : i < (q f ++ [p]).length := (List.getElem?_eq_some_iff.mp hv).1
      rw [List.length_append] at hlt
      have hlt2 : i < (q f).length := by simp at hlt; omega
      rw [List.getElem?_append_left hlt2] at hv
      rw [ju_n (by omega)]
      exact zq i v hv
  · exact List.nodup_append.mpr ⟨znd, by simp, fun x hx y hy => by
      have : y = p := by simpa using hy
      exact fun z => hno (by rw [← this, ← z]; exact hx)⟩
  · rw [List.mem_append, List.mem_singleton]
    by_cases e : x = p
    · subst e
      rw [u1_s]
      exact ⟨fun _ => ⟨hp, hpf, rfl⟩, fun _ => Or.inr rfl⟩
    · rw [u1_n e, zm x]
      exact ⟨fun z => z.elim id (fun y => absurd y e), Or.inl⟩
  · rw [List.length_append, nI_1]; rfl
  · rw [kc_by_app]
    show _ + (lP L p 1 + 0) = _
    rw [Int32.add_zero, Int32.one_mul]
end KAr

/-! ===== class and reference held together: what is answered ===== -/
section KAn
variable {nf np c : Nat} {L : Lnk} {C : Lk4} {M : Rf}
theorem ki_nn (b u : Nat) : (0 : Int) ≤ (b : Int) * (u : Int) := Int.mul_nonneg (Int.natCast_nonneg _) (Int.natCast_nonneg _)
def kLd (M : Rf) (f g uf ug r : Nat) : Int := (tn (rW M r f) : Int) * (uf : Int) - (tn (rW M r g) : Int) * (ug : Int)
theorem ka_unit (h : kFu nf np c L M) {f : Nat} (hf : f < nf) : ∃ w, 1 ≤ w ∧ w ≤ 16 ∧ rF M f 0 = nI w ∧ lUnit L f = nI (720720 / w) := by
  obtain ⟨ns, ⟨q, sf, hst, _⟩, _⟩ := h
  obtain ⟨w, w1, w2, w3⟩ := (hst.2.2.2.2.2.2.1.2.2 f hf).1
  refine ⟨w, w1, w2, w3, ?_⟩
  have e0 : lF L f 0 = rF M f 0 := hst.2.2.1 f 0 hf (by omega)
  unfold lUnit
  rw [e0, w3]; exact kc_unit w1 w2
theorem ka_bt (h : kWb nf (rW M)) {r f : Nat} (hr : r < 128) (hf : f < nf) : rW M r f = nI (tn (rW M r f)) ∧ tn (rW M r f) ≤ 150000 := by
  obtain ⟨b, b1, b2⟩ := h r f hr hf
  rw [b2, show tn (nI b) = b from nI_clamp (by omega)]
  exact ⟨rfl, b1⟩
theorem ka_ldb {f g uf ug r : Nat} (h : kWb nf (rW M)) (hr : r < 128) (hf : f < nf) (hg : g < nf) (h1 : uf ≤ 720720) (h2 : ug ≤ 720720) : -(2 ^ 50) ≤ kLd M f g uf ug r ∧ kLd M f g uf ug r ≤ 2 ^ 50 := by
  have a := (ka_bt h hr hf).2
  have b := (ka_bt h hr hg).2
  have m1 := (ki_mul a h1).2
  have m2 := (ki_mul b h2).2
  have p1 : (0 : Int) ≤ (tn (rW M r f) : Int) * (uf : Int) := ki_nn _ _
  have p2 : (0 : Int) ≤ (tn (rW M r g) : Int) * (ug : Int) := ki_nn _ _
  unfold kLd
  omega
theorem ka_norm {w f : Nat} (hW : kWb nf (rW M)) (h1 : 1 ≤ w) (h2 : w ≤ 16) (e : rF M f 0 = nI w) (hf : f < nf) (s t : Nat) : (rNorm M f s t).toInt = (tn (rW M (t % 128) f) : Int) * ((720720 / w : Nat) : Int) - (tn (rW M (s % 128) f) : Int) * ((720720 / w : Nat) : Int) := by
  obtain ⟨x1, x2⟩ := ka_bt hW (r := t % 128) (by omega) hf
  obtain ⟨y1, y2⟩ := ka_bt hW (r := s % 128) (by omega) hf
  generalize tn (rW M (t % 128) f) = x at x1 x2
  generalize tn (rW M (s % 128) f) = y at y1 y2
  have hk : 720720 / w ≤ 720720 := Nat.div_le_self _ _
  unfold rNorm
  rw [x1, y1, e, nI_l (n := w) (by omega), ← kc_mulU _ h1 h2]
  generalize 720720 / w = u at hk ⊢
  rw [Int64.toInt_mul, pk_lT (by omega), Int32.toInt_toInt64, pk_sub_toInt (by omega) (by omega), Int.sub_mul]
  have m1 := (ki_mul x2 hk).2
  have m2 := (ki_mul y2 hk).2
  have p1 : (0 : Int) ≤ (x : Int) * (u : Int) := ki_nn _ _
  have p2 : (0 : Int) ≤ (y : Int) * (u : Int) := ki_nn _ _
  generalize (x : Int) * (u : Int) = a at m1 p1
  generalize (y : Int) * (u : Int) = b at m2 p2
  exact Int.bmod_eq_of_le (by omega) (by omega)
theorem kz_1 {a b d e : Int} (h1 : 0 ≤ a ∧ a ≤ 150000 * 720720) (h2 : 0 ≤ b ∧ b ≤ 150000 * 720720) (h3 : 0 ≤ d ∧ d ≤ 150000 * 720720) (h4 : 0 ≤ e ∧ e ≤ 150000 * 720720) : (((a - b) - (d - e)).natAbs : Int) = (((b - e) - (a - d)).natAbs : Int) ∧ (-(2 ^ 61) ≤ a - b ∧ a - b ≤ 2 ^ 61) ∧ (-(2 ^ 61) ≤ d - e ∧ d - e ≤ 2 ^ 61) ∧ -(2 ^ 62) ≤ (a - b) - (d - e) ∧ (a - b) - (d - e) ≤ 2 ^ 62 := by omega
theorem ka_dif {wf wg f g : Nat} (hW : kWb nf (rW M)) (f1 : 1 ≤ wf) (f2 : wf ≤ 16) (ef : rF M f 0 = nI wf) (hf : f < nf) (g1 : 1 ≤ wg) (g2 : wg ≤ 16) (eg : rF M g 0 = nI wg) (hg : g < nf) (s t : Nat) : (rDif M f g s t).toInt = ((kLd M f g (720720 / wf) (720720 / wg) (s % 128) - kLd M f g (720720 / wf) (720720 / wg) (t % 128)).natAbs : Int) := by
  have n1 := ka_norm hW f1 f2 ef hf s t
  have n2 := ka_norm hW g1 g2 eg hg s t
  have hk1 : 720720 / wf ≤ 720720 := Nat.div_le_self _ _
  have hk2 : 720720 / wg ≤ 720720 := Nat.div_le_self _ _
  generalize 720720 / wf = uf at n1 hk1 ⊢
  generalize 720720 / wg = ug at n2 hk2 ⊢
  have q1 := (ki_mul (ka_bt hW (r := t % 128) (by omega) hf).2 hk1).2
  have q2 := (ki_mul (ka_bt hW (r := s % 128) (by omega) hf).2 hk1).2
  have q3 := (ki_mul (ka_bt hW (r := t % 128) (by omega) hg).2 hk2).2
  have q4 := (ki_mul (ka_bt hW (r := s % 128) (by omega) hg).2 hk2).2
  have p1 : (0 : Int) ≤ (tn (rW M (t % 128) f) : Int) * (uf : Int) := ki_nn _ _
  have p2 : (0 : Int) ≤ (tn (rW M (s % 128) f) : Int) * (uf : Int) := ki_nn _ _
  have p3 : (0 : Int) ≤ (tn (rW M (t % 128) g) : Int) * (ug : Int) := ki_nn _ _
  have p4 : (0 : Int) ≤ (tn (rW M (s % 128) g) : Int) * (ug : Int) := ki_nn _ _
  obtain ⟨z1, z2, z3, z4⟩ := kz_1 ⟨p1, q1⟩ ⟨p2, q2⟩ ⟨p3, q3⟩ ⟨p4, q4⟩
  unfold rDif kLd
  have es : (rNorm M f s t - rNorm M g s t).toInt = (rNorm M f s t).toInt - (rNorm M g s t).toInt := ki_sub (by rw [n1]; exact z2) (by rw [n2]; exact z3)
  rw [ki_abs (by rw [es, n1, n2]; exact z4), es, n1, n2]
  exact z1
/-- a record of the class -/
theorem ka_row (h : kCp nf np c C M) : ∃ t, t < 128 ∧ (0 < C.2.1 → C.2.2.1 = nI t) ∧ C.2.1 = min c 128 ∧ ∀ a, a < min c 128 → (∀ f, f < nf → C.2.2.2 (rr t a) f = rW M ((c - 1 - a) % 128) f) ∧ C.2.2.2 (rr t a) 6 = rW M ((c - 1 - a) % 128) 6 := by
  obtain ⟨_, ⟨h0, _, _, _, _, t, t1, t2, t3⟩, _⟩ := h
  exact ⟨t, t1, t2, h0, t3⟩
theorem ka_lead (h : kCp nf np c C M) {t f g wf wg a : Nat} (hr : ∀ x, x < nf → C.2.2.2 (rr t a) x = rW M ((c - 1 - a) % 128) x) (hf : f < nf) (hg : g < nf) (f1 : 1 ≤ wf) (f2 : wf ≤ 16) (ef : lUnit C.1 f = nI (720720 / wf)) (g1 : 1 ≤ wg) (g2 : wg ≤ 16) (eg : lUnit C.1 g = nI (720720 / wg)) : (lLead C.1 C.2.2.2 t f g a).toInt = kLd M f g (720720 / wf) (720720 / wg) ((c - 1 - a) % 128) := by
  have hW := h.2.2
  obtain ⟨x1, x2⟩ := ka_bt hW (r := (c - 1 - a) % 128) (by omega) hf
  obtain ⟨y1, y2⟩ := ka_bt hW (r := (c - 1 - a) % 128) (by omega) hg
  have hk1 : 720720 / wf ≤ 720720 := Nat.div_le_self _ _
  have hk2 : 720720 / wg ≤ 720720 := Nat.div_le_self _ _
  unfold lLead kLd
  rw [hr f hf, hr g hg, ef, eg]
  generalize 720720 / wf = uf at hk1 ⊢
  generalize 720720 / wg = ug at hk2 ⊢
  generalize tn (rW M ((c - 1 - a) % 128) f) = x at x1 x2 ⊢
  generalize tn (rW M ((c - 1 - a) % 128) g) = y at y1 y2 ⊢
  rw [x1, y1]
  obtain ⟨m1, m2⟩ := ki_mul x2 hk1
  obtain ⟨m3, m4⟩ := ki_mul y2 hk2
  have p1 : (0 : Int) ≤ (x : Int) * (uf : Int) := ki_nn _ _
  have p2 : (0 : Int) ≤ (y : Int) * (ug : Int) := ki_nn _ _
  rw [ki_sub (by omega) (by omega), m1, m3]
theorem ka_lAll {R : Nat → Nat → Int32} {t f g : Nat} : ∀ (k i : Nat), lAll R t f g k i = true ↔ ∀ x, i ≤ x → x < i + k → lBoth (R (rr t x) 6) f g = true := by
  intro k
  induction k with
  | zero => intro i; exact ⟨fun _ x a b => by omega, fun _ => rfl⟩
  | succ k ih =>
    intro i
    unfold lAll
    by_cases e : lBoth (R (rr t i) 6) f g = true
    · rw [if_pos e, ih]
      exact ⟨fun z x a b => by
        by_cases y : x = i
        · rw [y]; exact e
        · exact z x (by omega) (by omega), fun z x a b => z x (by omega) (by omega)⟩
    · rw [if_neg e]
      exact ⟨fun z => absurd z (by decide), fun z => absurd (z i (by omega) (by omega)) e⟩
theorem ka_rAll {f g : Nat} : ∀ (k i : Nat), rAll M f g k i = true ↔ ∀ x, i ≤ x → x < i + k → rAct M f g x = true := by
  intro k
  induction k with
  | zero => intro i; exact ⟨fun _ x a b => by omega, fun _ => rfl⟩
  | succ k ih =>
    intro i
    unfold rAll
    by_cases e : rAct M f g i = true
    · rw [if_pos e, ih]
      exact ⟨fun z x a b => by
        by_cases y : x = i
        · rw [y]; exact e
        · exact z x (by omega) (by omega), fun z x a b => z x (by omega) (by omega)⟩
    · rw [if_neg e]
      exact ⟨fun z => absurd z (by decide), fun z => absurd (z i (by omega) (by omega)) e⟩
theorem ka_act {t f g a : Nat} {R : Nat → Nat → Int32} (hr : R (rr t a) 6 = rW M ((c - 1 - a) % 128) 6) : lBoth (R (rr t a) 6) f g = rAct M f g (c - 1 - a) := by
  rw [hr, kb_both]; rfl
theorem ka_audit (h : kCp nf np c C M) {t : Nat} (ht : ∀ a, a < min c 128 → (∀ f, f < nf → C.2.2.2 (rr t a) f = rW M ((c - 1 - a) % 128) f) ∧ C.2.2.2 (rr t a) 6 = rW M ((c - 1 - a) % 128) 6) (hk : C.2.1 = min c 128) {f g : Nat} (hf : f < nf) (hg : g < nf) (ag : Nat) : lDiff C.1 C.2.2.2 C.2.1 t f g ag = rAudit M c f g ag := by
  unfold lDiff rAudit
  rw [hk]
  by_cases g1 : ag < min c 128
  · rw [if_pos g1, if_neg (show ¬ (c = 0 ∨ c - 1 - (c - 128) < ag) by omega)]
    have hall : lAll C.2.2.2 t f g (ag + 1) 0 = true ↔ rAll M f g (ag + 1) (c - 1 - ag) = true := by
      rw [ka_lAll, ka_rAll]
      constructor
      · intro z x x1 x2
        have := z (c - 1 - x) (by omega) (by omega)
        rw [ka_act (ht (c - 1 - x) (by omega)).2, show c - 1 - (c - 1 - x) = x by omega] at this
        exact this
      · intro z x x1 x2
        rw [ka_act (ht x (by omega)).2]
        exact z (c - 1 - x) (by omega) (by omega)
    by_cases g2 : lAll C.2.2.2 t f g (ag + 1) 0 = true
    · rw [if_pos g2, if_pos (hall.mp g2)]
      obtain ⟨wf, f1, f2, f3, f4⟩ := ka_unit h.1 hf
      obtain ⟨wg, g1', g2', g3, g4⟩ := ka_unit h.1 hg
      have d := ka_dif h.2.2 f1 f2 f3 hf g1' g2' g3 hg (c - 1 - ag) (c - 1)
      have l0 := ka_lead h (t := t) (a := 0) (ht 0 (by omega)).1 hf hg f1 f2 f4 g1' g2' g4
      have l1 := ka_lead h (t := t) (a := ag) (ht ag g1).1 hf hg f1 f2 f4 g1' g2' g4
      have hk1 : 720720 / wf ≤ 720720 := Nat.div_le_self _ _
      have hk2 : 720720 / wg ≤ 720720 := Nat.div_le_self _ _
      have b0 := ka_ldb (M := M) h.2.2 (r := (c - 1 - 0) % 128) (by omega) hf hg hk1 hk2
      have b1 := ka_ldb (M := M) h.2.2 (r := (c - 1 - ag) % 128) (by omega) hf hg hk1 hk2
      apply Int64.toInt_inj.mp
      have es : (lLead C.1 C.2.2.2 t f g 0 - lLead C.1 C.2.2.2 t f g ag).toInt = (lLead C.1 C.2.2.2 t f g 0).toInt - (lLead C.1 C.2.2.2 t f g ag).toInt := ki_sub (by omega) (by omega)
      rw [d, ki_abs (by omega), es, l0, l1, Nat.sub_zero]
      omega
    · rw [if_neg g2, if_neg (fun z => g2 (hall.mpr z))]
  · rw [if_neg g1, if_pos (show c = 0 ∨ c - 1 - (c - 128) < ag by omega)]
theorem ka_pair (h : kCp nf np c C M) {t : Nat} (ht : ∀ a, a < min c 128 → (∀ f, f < nf → C.2.2.2 (rr t a) f = rW M ((c - 1 - a) % 128) f) ∧ C.2.2.2 (rr t a) 6 = rW M ((c - 1 - a) % 128) 6) (hk : C.2.1 = min c 128) {f g : Nat} (hf : f < nf) (hg : g < nf) : lGreat C.1 C.2.2.2 t f g C.2.1 0 0 0 0 false = rWOf M f g (c - (c - 128)) (c - 128) (c - 128) 0 := by
  obtain ⟨wf, f1, f2, f3, f4⟩ := ka_unit h.1 hf
  obtain ⟨wg, g1', g2', g3, g4⟩ := ka_unit h.1 hg
  have hk1 : 720720 / wf ≤ 720720 := Nat.div_le_self _ _
  have hk2 : 720720 / wg ≤ 720720 := Nat.div_le_self _ _
  have A := km_great (L := C.1) (R := C.2.2.2) (t := t) (f := f) (g := g) (N := min c 128) (act := fun a => rAct M f g (c - 1 - a)) (ld := fun a => kLd M f g (720720 / wf) (720720 / wg) ((c - 1 - a) % 128)) (fun x hx => ka_act (ht x hx).2) (fun x hx => ka_lead h (ht x hx).1 hf hg f1 f2 f4 g1' g2' g4) (fun x _ => ka_ldb h.2.2 (by omega) hf hg hk1 hk2) (min c 128) 0 0 0 0 false (by omega) km_0 (show (0 : Int) ≤ 2 ^ 52 by omega) (fun _ => Or.inl rfl) (fun z => by cases z)
  have B := km_of (M := M) (f := f) (g := g) (T0 := c - 128) (N := min c 128) (act := fun x => rAct M f g (c - 128 + x)) (ld := fun x => kLd M f g (720720 / wf) (720720 / wg) ((c - 128 + x) % 128)) (fun x _ => rfl) (fun x y _ _ => ka_dif h.2.2 f1 f2 f3 hf g1' g2' g3 hg _ _) (min c 128) 0 0 0 (by omega) km_0 (Nat.le_refl _) (fun x a b => by omega) (Or.inl rfl)
  rw [Nat.add_zero] at B
  have B2 := km_rev (N := min c 128) (act := fun a => rAct M f g (c - 1 - a)) (ld := fun a => kLd M f g (720720 / wf) (720720 / wg) ((c - 1 - a) % 128)) (km_cg (fun x hx => by
    show rAct M f g (c - 128 + x) = rAct M f g (c - 1 - (min c 128 - 1 - x))
    rw [show c - 128 + x = c - 1 - (min c 128 - 1 - x) by omega]) (fun x hx => by
    show kLd M f g (720720 / wf) (720720 / wg) ((c - 128 + x) % 128) = kLd M f g (720720 / wf) (720720 / wg) ((c - 1 - (min c 128 - 1 - x)) % 128)
    rw [show c - 128 + x = c - 1 - (min c 128 - 1 - x) by omega]) B)
  rw [hk, show c - (c - 128) = min c 128 by omega]
  exact Int64.toInt_inj.mp (km_eq A B2)
theorem ka_worst (h : kCp nf np c C M) {t : Nat} (ht : ∀ a, a < min c 128 → (∀ f, f < nf → C.2.2.2 (rr t a) f = rW M ((c - 1 - a) % 128) f) ∧ C.2.2.2 (rr t a) 6 = rW M ((c - 1 - a) % 128) 6) (hk : C.2.1 = min c 128) : cWa C.1 C.2.2.2 t C.2.1 nf nf 0 0 = rWa M c nf nf 0 0 := by
  have hb : ∀ (a k b : Nat) (w : Int64), a < nf → b + k ≤ nf → cWb C.1 C.2.2.2 t C.2.1 a k b w = rWb M c a k b w := by
    intro a k
    induction k with
    | zero => intro b w _ _; rfl
    | succ k ih =>
      intro b w ha hb
      unfold cWb rWb
      rw [ka_pair h ht hk ha (show b < nf by omega)]
      exact ih (b + 1) _ ha (by omega)
  have hA : ∀ (k a : Nat) (w : Int64), a + k ≤ nf → cWa C.1 C.2.2.2 t C.2.1 nf k a w = rWa M c nf k a w := by
    intro k
    induction k with
    | zero => intro a w _; rfl
    | succ k ih =>
      intro a w ha
      unfold cWa rWa
      rw [hb a _ _ _ (by omega) (by omega)]
      exact ih (a + 1) _ (by omega)
  exact hA nf 0 0 (by omega)
end KAn

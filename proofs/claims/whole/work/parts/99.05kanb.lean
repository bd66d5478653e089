/-! ===== class and reference held together: what is answered, on ===== -/
section KAb
variable {nf np ns c : Nat} {L : Lnk} {M : Rf} {S : Sup}
theorem kd_bytes {P Q : Nat → Nat → Int32} {f : Nat} : ∀ (l : List Nat) (i : Nat) (b : Int32), (∀ x ∈ l, x < 2 ^ 31) → (∀ x v, l[x]? = some v → Q f (i + x) = nI v) → rBytesG P Q f l.length i b = b + kc_by P l := by
  intro l
  induction l with
  | nil => intro i b _ _; show b = b + 0; rw [Int32.add_zero]
  | cons a l ih =>
    intro i b hx hq
    have e0 : Q f i = nI a := hq 0 a rfl
    show rBytesG P Q f l.length (i + 1) (b + P (tn (Q f i)) 1) = b + (P a 1 + kc_by P l)
    rw [e0, show tn (nI a) = a from nI_clamp (hx a (by simp)), ih (i + 1) _ (fun x h => hx x (by simp [h])) (fun x v h => by
      have := hq (x + 1) v (by simpa using h)
      rw [show i + 1 + x = i + (x + 1) by omega]; exact this), Int32.add_assoc]
theorem kd_drop {P : Nat → Nat → Int32} {v : Int32} : ∀ (k i : Nat) (b : Int32), rDropG P v k i b = b + nI (kc_su (fun p => if P p 0 = v ∧ P p 3 = 3 then 1 else 0) k i) := by
  intro k
  induction k with
  | zero => intro i b; show b = b + nI 0; rw [show nI 0 = (0 : Int32) from rfl, Int32.add_zero]
  | succ k ih =>
    intro i b
    show rDropG P v k (i + 1) (b + (if P i 0 = v ∧ P i 3 = 3 then 1 else 0)) = b + nI ((if P i 0 = v ∧ P i 3 = 3 then 1 else 0) + kc_su (fun p => if P p 0 = v ∧ P p 3 = 3 then 1 else 0) k (i + 1))
    rw [ih, ← nI_add, Int32.add_assoc]
    congr 2
    split <;> rfl
theorem kd_deliv {P : Nat → Nat → Int32} : ∀ (k i : Nat) (b : Int32), rDelivG P k i b = b + nI (kc_su (fun p => if P p 3 = 2 then 1 else 0) k i) := by
  intro k
  induction k with
  | zero => intro i b; show b = b + nI 0; rw [show nI 0 = (0 : Int32) from rfl, Int32.add_zero]
  | succ k ih =>
    intro i b
    show rDelivG P k (i + 1) (b + (if P i 3 = 2 then 1 else 0)) = b + nI ((if P i 3 = 2 then 1 else 0) + kc_su (fun p => if P p 3 = 2 then 1 else 0) k (i + 1))
    rw [ih, ← nI_add, Int32.add_assoc]
    congr 2
    split <;> rfl
theorem kd_st {sf : Nat → Nat} (hz : kZ np sf M) {p k : Nat} (hp : p < np) (hk : k ≤ 3) {v : Int32} (hv : v = nI k) : rP M p 3 = v ↔ sf p = k := by
  obtain ⟨z1, z2⟩ := hz p hp
  rw [z1, hv]; exact nI_eq (by omega) (by omega)
theorem ka_deliv (h : kFu nf np c L M) : lX L 14 = rDeliv M np 0 0 := by
  obtain ⟨ns, ⟨q, sf, hst, hz⟩, _⟩ := h
  unfold rDeliv
  rw [kd_deliv, Int32.zero_add, hst.2.2.2.2.2.2.2.2.1.2.1]
  refine congrArg nI (kc_su_cg (fun x _ hx => ?_))
  have := kd_st hz (p := x) (k := 2) (by omega) (by omega) (v := 2) rfl
  simp only [this]
theorem ka_bytes (h : kFu nf np c L M) {f : Nat} (hf : f < nf) : lF L f 8 = rBytes M f (tn (rF M f 7)) 0 0 ∧ ∃ n, n ≤ np ∧ rF M f 7 = nI n ∧ rQok M f n := by
  obtain ⟨ns, ⟨q, sf, hst, hz⟩, _⟩ := h
  have hb := hst.1
  have hl := kc_ql hst hf
  have hin := fun {x : Nat} (hx : x ∈ q f) => kc_in hst hf hx
  obtain ⟨⟨z7, zq⟩, _, _, zm⟩ := hst.2.2.2.2.2.2.2.1 f hf
  refine ⟨?_, (q f).length, hl, z7, fun i hi => ?_⟩
  · unfold rBytes
    rw [z7, show tn (nI (q f).length) = (q f).length from nI_clamp (by omega), kd_bytes (q f) 0 0 (fun x hx => by have := hin hx; omega) (fun x v hv => by rw [Nat.zero_add]; exact zq x v hv), Int32.zero_add, (hst.2.2.2.2.2.2.2.2.1.2.2 f hf).1]
    exact kc_by_cg (fun x hx => hst.2.2.2.2.1 x 1 ((zm x).mp hx).1 (by omega))
  · have e : (q f)[i]? = some (q f)[i] := List.getElem?_eq_getElem hi
    exact ⟨(q f)[i], hin (List.getElem_mem hi), zq i _ e⟩
theorem ka_flow (h : kFu nf np c L M) {f k : Nat} (hf : f < nf) (hk : k < 16) : lF L f k = rProp M np f k := by
  have h8 := (ka_bytes h hf).1
  obtain ⟨ns, ⟨q, sf, hst, hz⟩, _⟩ := h
  have gF := hst.2.2.1
  unfold rProp
  match k, hk with
  | 0, _ => exact gF f 0 hf (by omega)
  | 1, _ => exact gF f 1 hf (by omega)
  | 2, _ => exact gF f 2 hf (by omega)
  | 3, _ => exact gF f 3 hf (by omega)
  | 4, _ => exact gF f 4 hf (by omega)
  | 5, _ => exact gF f 5 hf (by omega)
  | 6, _ => exact gF f 6 hf (by omega)
  | 7, _ => exact gF f 7 hf (by omega)
  | 8, _ => exact h8
  | 9, _ => exact gF f 8 hf (by omega)
  | 10, _ => exact gF f 9 hf (by omega)
  | 11, _ => exact gF f 10 hf (by omega)
  | 12, _ => exact gF f 11 hf (by omega)
  | 13, _ => exact gF f 12 hf (by omega)
  | 14, _ =>
    have e := (hst.2.2.2.2.2.2.2.2.1.2.2 f hf).2.1
    show lF L f 14 = rDrop M (nI f) np 0 0
    unfold rDrop
    rw [kd_drop, Int32.zero_add, e]
    refine congrArg nI (kc_su_cg (fun x _ hx => ?_))
    have := kd_st hz (p := x) (k := 3) (by omega) (by omega) (v := 3) rfl
    simp only [this]
  | 15, _ => exact gF f 13 hf (by omega)
  | k + 16, hk => omega
theorem ka_queued (h : kFu nf np c L M) {f i : Nat} (hf : f < nf) (hi : i < 2 ^ 31) : (nI i < lF L f 7 → lNthOk L i (lF L f 17)) ∧ (if nI i < lF L f 7 then lNth L i (lF L f 17) else -1) = (if nI i < rF M f 7 then rQ M f i else -1) := by
  obtain ⟨ns, ⟨q, sf, hst, hz⟩, _⟩ := h
  have hb := hst.1
  have hl := kc_ql hst hf
  have hin := fun {x : Nat} (hx : x ∈ q f) => kc_in hst hf hx
  obtain ⟨⟨z7, zq⟩, ⟨z17, _, zc⟩, _, _⟩ := hst.2.2.2.2.2.2.2.1 f hf
  have e7 : lF L f 7 = rF M f 7 := hst.2.2.1 f 7 hf (by omega)
  rw [e7, z7, z17]
  by_cases g : i < (q f).length
  · have g' : nI i < nI (q f).length := nI_lt g (by omega)
    have e : (q f)[i]? = some (q f)[i] := List.getElem?_eq_getElem g
    obtain ⟨n1, n2⟩ := kc_nth (L := L) zc (fun x hx => hin hx) e
    rw [if_pos g', if_pos g', n2]
    exact ⟨fun _ => n1, (zq i _ e).symm⟩
  · have g' : ¬ nI i < nI (q f).length := nI_nlt (by omega) (by omega)
    rw [if_neg g', if_neg g']
    exact ⟨fun z => absurd z g', rfl⟩
theorem ka_out (h : kO nf ns L M) {f : Nat} (hf : f < nf) : lF L f 16 = rOut M (nI f) ns 0 0 := by
  unfold rOut
  rw [kc_rOut, Int32.zero_add]; exact h f hf
/-! the spread -/
theorem ka_max {V : Nat → Int64} {L : Lnk} {ok : Nat → Bool} {N : Nat} (hV : ∀ x, x < N → lV L x = V x) (hb : ∀ x, x < N → lBusy L x = ok x) : ∀ (k f : Nat) (v : Int64), f + k ≤ N → v.toInt ≤ (cMax L k f v).toInt ∧ (∀ x, f ≤ x → x < f + k → ok x = true → (V x).toInt ≤ (cMax L k f v).toInt) ∧ (cMax L k f v = v ∨ ∃ x, f ≤ x ∧ x < f + k ∧ ok x = true ∧ cMax L k f v = V x) := by
  intro k
  induction k with
  | zero => intro f v _; exact ⟨Int.le_refl _, fun x a b => by omega, Or.inl rfl⟩
  | succ k ih =>
    intro f v hf
    unfold cMax
    rw [hb f (by omega), hV f (by omega)]
    obtain ⟨a1, a2, a3⟩ := ih (f + 1) (if ok f = true then lmax v (V f) else v) (by omega)
    generalize cMax L k (f + 1) (if ok f = true then lmax v (V f) else v) = R at a1 a2 a3 ⊢
    by_cases g : ok f = true
    · rw [if_pos g] at a1 a3
      have em := ki_max v (V f)
      refine ⟨by omega, fun x x1 x2 x3 => ?_, ?_⟩
      · by_cases e : x = f
        · rw [e]; omega
        · exact a2 x (by omega) (by omega) x3
      · rcases a3 with z | ⟨x, x1, x2, x3, x4⟩
        · unfold lmax at z
          split at z
          · exact Or.inl z
          · exact Or.inr ⟨f, Nat.le_refl _, by omega, g, z⟩
        · exact Or.inr ⟨x, by omega, by omega, x3, x4⟩
    · rw [if_neg g] at a1 a3
      refine ⟨a1, fun x x1 x2 x3 => ?_, ?_⟩
      · by_cases e : x = f
        · rw [e] at x3; exact absurd x3 g
        · exact a2 x (by omega) (by omega) x3
      · rcases a3 with z | ⟨x, x1, x2, x3, x4⟩
        · exact Or.inl z
        · exact Or.inr ⟨x, by omega, by omega, x3, x4⟩
theorem ka_most {V : Nat → Int64} {ok : Nat → Bool} {N : Nat} (hN : N < 2 ^ 31) : ∀ (k f : Nat) (b : Int32), f + k ≤ N → (b = -1 ∨ ∃ x, x < N ∧ b = nI x ∧ ok x = true) → (rMost V ok k f b = -1 ∧ b = -1 ∧ ∀ x, f ≤ x → x < f + k → ok x = false) ∨ ∃ y, y < N ∧ rMost V ok k f b = nI y ∧ ok y = true ∧ (∀ x, b = nI x → x < N → (V x).toInt ≤ (V y).toInt) ∧ ∀ x, f ≤ x → x < f + k → ok x = true → (V x).toInt ≤ (V y).toInt := by
  intro k
  induction k with
  | zero =>
    intro f b _ hb
    rcases hb with z | ⟨x, x1, x2, x3⟩
    · exact Or.inl ⟨z, z, fun x h1 h2 => by omega⟩
    · refine Or.inr ⟨x, x1, x2, x3, fun x' e h' => ?_, fun x' h1 h2 => by omega⟩
      have : x = x' := (nI_eq (by omega) (by omega)).mp (x2.symm.trans e)
      rw [this]; exact Int.le_refl _
  | succ k ih =>
    intro f b hf hb
    have h1 := ih (f + 1) (if ok f = true ∧ (b = -1 ∨ V b.toNatClampNeg < V f) then nI f else b) (by omega) (by
      split
      · rename_i g
        exact Or.inr ⟨f, by omega, rfl, g.1⟩
      · exact hb)
    show (rMost V ok k (f + 1) (if ok f = true ∧ (b = -1 ∨ V b.toNatClampNeg < V f) then nI f else b) = -1 ∧ b = -1 ∧ ∀ x, f ≤ x → x < f + (k + 1) → ok x = false) ∨ ∃ y, y < N ∧ rMost V ok k (f + 1) (if ok f = true ∧ (b = -1 ∨ V b.toNatClampNeg < V f) then nI f else b) = nI y ∧ ok y = true ∧ (∀ x, b = nI x → x < N → (V x).toInt ≤ (V y).toInt) ∧ ∀ x, f ≤ x → x < f + (k + 1) → ok x = true → (V x).toInt ≤ (V y).toInt
    rcases h1 with ⟨a1, a2, a3⟩ | ⟨y, y1, y2, y3, y4, y5⟩
    · have hb1 : b = -1 := by
        split at a2
        · exact absurd a2 (nI_ne1 (by omega))
        · exact a2
      refine Or.inl ⟨a1, hb1, fun x x1 x2 => ?_⟩
      by_cases e : x = f
      · subst e
        by_cases g : ok x = true
        · rw [if_pos ⟨g, Or.inl hb1⟩] at a2
          exact absurd a2 (nI_ne1 (by omega))
        · exact Bool.eq_false_iff.mpr g
      · exact a3 x (by omega) (by omega)
    · refine Or.inr ⟨y, y1, y2, y3, fun x e hx => ?_, fun x x1 x2 x3 => ?_⟩
      · by_cases g : ok f = true ∧ (b = -1 ∨ V b.toNatClampNeg < V f)
        · rw [if_pos g] at y4
          have z := y4 f rfl (by omega)
          rcases g.2 with w | w
          · exact absurd (e.symm.trans w) (nI_ne1 (by omega))
          · rw [e, show (nI x).toNatClampNeg = x from nI_clamp (by omega), Int64.lt_iff_toInt_lt] at w
            omega
        · rw [if_neg g] at y4
          exact y4 x e hx
      · by_cases e : x = f
        · subst e
          by_cases g : ok x = true ∧ (b = -1 ∨ V b.toNatClampNeg < V x)
          · rw [if_pos g] at y4
            exact y4 x rfl (by omega)
          · rw [if_neg g] at y4
            have nb : ¬ b = -1 := fun w => g ⟨x3, Or.inl w⟩
            have nv : ¬ V b.toNatClampNeg < V x := fun w => g ⟨x3, Or.inr w⟩
            rcases hb with w | ⟨z, z1, z2, z3⟩
            · exact absurd w nb
            · have := y4 z z2 z1
              rw [z2, show (nI z).toNatClampNeg = z from nI_clamp (by omega), Int64.lt_iff_toInt_lt] at nv
              omega
        · exact y5 x (by omega) (by omega) x3
theorem ka_spread (h : kI nf np ns c L M) (ho : kO nf ns L M) : cSpread L nf = rSpread M nf ns := by
  obtain ⟨q, sf, hst, hz⟩ := h
  have hb := hst.1
  have gV := hst.2.2.2.1
  have hby : ∀ x, x < nf → lBusy L x = rUse M ns x := fun x hx => kc_busy hst ho hx
  have eL : lLeast L nf (-1) = lPick (rV M) (rUse M ns) nf 0 (-1) := by
    unfold lLeast
    refine kc_pick_cg (N := nf) (by omega) gV (fun x hx => ?_) nf 0 (-1) (by omega) (Or.inl rfl)
    have : ¬ nI x = -1 := nI_ne1 (by omega)
    rw [hby x hx]
    simp [this]
  unfold cSpread rSpread
  rw [eL]
  rcases kc_pick_ok (V := rV M) (ok := rUse M ns) (N := nf) (by omega) nf 0 (-1) (by omega) (Or.inl rfl) with ⟨a1, _, _⟩ | ⟨y, y1, y2, y3⟩
  · rw [if_pos a1, if_pos a1]
  · rw [y2, if_neg (nI_ne1 (by omega)), if_neg (nI_ne1 (by omega)), show tn (nI y) = y from nI_clamp (by omega), gV y y1]
    obtain ⟨m1, m2, m3⟩ := ka_max (V := rV M) (L := L) (ok := rUse M ns) (N := nf) gV hby nf 0 (rV M y) (by omega)
    rcases ka_most (V := rV M) (ok := rUse M ns) (N := nf) (by omega) nf 0 (-1) (by omega) (Or.inl rfl) with ⟨_, _, a3⟩ | ⟨z, z1, z2, z3, _, z5⟩
    · exact absurd y3 (by rw [a3 y (by omega) (by omega)]; decide)
    · rw [z2, show tn (nI z) = z from nI_clamp (by omega)]
      have e : cMax L nf 0 (rV M y) = rV M z := by
        apply Int64.toInt_inj.mp
        have u1 := m2 z (by omega) (by omega) z3
        rcases m3 with w | ⟨x, x1, x2, x3, x4⟩
        · have := z5 y (by omega) (by omega) y3
          rw [w] at u1 ⊢; omega
        · have := z5 x x1 x2 x3
          rw [x4] at u1 ⊢; omega
      rw [e]
/-! shares and delays -/
theorem ka_sum (h : kFu nf np c L M) : ∀ (k f : Nat) (b : Int32), f + k ≤ nf → cSumF L k f b = rSumF M k f b := by
  intro k
  induction k with
  | zero => intro f b _; rfl
  | succ k ih =>
    intro f b hf
    unfold cSumF rSumF
    obtain ⟨x, _, x2, x3⟩ := kc_bytes h (f := f) (by omega)
    rw [x2, x3]
    exact ih (f + 1) _ (by omega)
theorem ka_sumN (h : kFu nf np c L M) : ∀ (k f n : Nat), f + k ≤ nf → ∃ m, m ≤ n + 150000 * k ∧ rSumF M k f (nI n) = nI m := by
  intro k
  induction k with
  | zero => intro f n _; exact ⟨n, by omega, rfl⟩
  | succ k ih =>
    intro f n hf
    unfold rSumF
    obtain ⟨x, x1, x2, _⟩ := kc_bytes h (f := f) (by omega)
    obtain ⟨m, m1, m2⟩ := ih (f + 1) (n + x) (by omega)
    rw [x2, nI_add]
    exact ⟨m, by omega, m2⟩
theorem ka_del (h : kFu nf np c L M) (v : Int32) : ∀ (k p : Nat) (a b : Int32), p + k ≤ np → rDelG (lP L) v k p a b = rDelG (rP M) v k p a b := by
  intro k
  induction k with
  | zero => intro p a b _; rfl
  | succ k ih =>
    intro p a b hp
    unfold rDelG
    rw [kc_fuP h (p := p) (k := 0) (by omega) (by omega), kc_fuP h (p := p) (k := 3) (by omega) (by omega), kc_fuP h (p := p) (k := 5) (by omega) (by omega), kc_fuP h (p := p) (k := 2) (by omega) (by omega)]
    split
    · exact ih _ _ _ (by omega)
    · exact ih _ _ _ (by omega)
theorem ka_delN {P : Nat → Nat → Int32} (v : Int32) : ∀ (k p : Nat) (a : Int32) (n : Nat), ∃ m, m ≤ n + k ∧ (rDelG P v k p a (nI n)).2 = nI m := by
  intro k
  induction k with
  | zero => intro p a n; exact ⟨n, by omega, rfl⟩
  | succ k ih =>
    intro p a n
    unfold rDelG
    split
    · obtain ⟨m, m1, m2⟩ := ih (p + 1) (a + (P p 5 - P p 2)) (n + 1)
      rw [nI_1]
      exact ⟨m, by omega, m2⟩
    · obtain ⟨m, m1, m2⟩ := ih (p + 1) a n
      exact ⟨m, by omega, m2⟩
/-! the rules -/
def kRu (S : Sup) (M : Rf) : Prop := (sN S ≤ 6 ∧ sM S ≤ 12) ∧ rX M 0 = nI (sN S) ∧ rX M 1 = nI (sM S) ∧ (∀ r k, r < sM S → k < 7 → rU M r k = sR S r k) ∧ kSu S
theorem ka_for (h : kRu S M) (a b d : Int32) : ∀ (k r : Nat), r + k ≤ sM S → sFor S a b d k r = rFor M a b d k r ∧ (rFor M a b d k r = -1 ∨ ∃ f, f < sN S ∧ rFor M a b d k r = nI f) := by
  obtain ⟨⟨hN, _⟩, h0, _, hU, hs⟩ := h
  intro k
  induction k with
  | zero =>
    intro r _
    show (if 0 < sN S then (0 : Int32) else -1) = (if rX M 0 = 0 then -1 else 0) ∧ ((if rX M 0 = 0 then (-1 : Int32) else 0) = -1 ∨ ∃ f, f < sN S ∧ (if rX M 0 = 0 then (-1 : Int32) else 0) = nI f)
    rw [h0]
    by_cases g : 0 < sN S
    · rw [if_pos g, if_neg (nI_ne0 g (by omega))]
      exact ⟨rfl, Or.inr ⟨0, g, rfl⟩⟩
    · rw [if_neg g, if_pos (by rw [show sN S = 0 by omega]; rfl)]
      exact ⟨rfl, Or.inl rfl⟩
  | succ k ih =>
    intro r hr
    have e : ∀ k, k < 7 → rU M r k = sR S r k := fun k hk => hU r k (by omega) hk
    have m : (sIn S r 0 a && sIn S r 2 b && sIn S r 4 d) = (rMat M r 0 a && rMat M r 1 b && rMat M r 2 d) := by
      unfold sIn rMat rIn
      rw [e (2 * 0) (by omega), e (2 * 0 + 1) (by omega), e (2 * 1) (by omega), e (2 * 1 + 1) (by omega), e (2 * 2) (by omega), e (2 * 2 + 1) (by omega)]
    unfold sFor rFor
    rw [m, e 6 (by omega)]
    split
    · obtain ⟨f, f1, f2⟩ := hs r (by omega)
      exact ⟨rfl, Or.inr ⟨f, f1, f2⟩⟩
    · exact ih (r + 1) (by omega)
end KAb

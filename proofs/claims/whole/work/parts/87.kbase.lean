/-! ===== class and reference held together: sums, lists, queues ===== -/
def kc_su (g : Nat → Nat) : Nat → Nat → Nat
  | 0, _ => 0
  | k + 1, i => g i + kc_su g k (i + 1)
theorem kc_su_cg {g g' : Nat → Nat} : ∀ {k i : Nat}, (∀ x, i ≤ x → x < i + k → g x = g' x) → kc_su g k i = kc_su g' k i := by
  intro k
  induction k with
  | zero => intro i _; rfl
  | succ k ih =>
    intro i h
    show g i + kc_su g k (i + 1) = g' i + kc_su g' k (i + 1)
    rw [h i (by omega) (by omega), ih (fun x h1 h2 => h x (by omega) (by omega))]
theorem kc_su_sn {g : Nat → Nat} : ∀ {k i : Nat}, kc_su g (k + 1) i = kc_su g k i + g (i + k) := by
  intro k
  induction k with
  | zero => intro i; show g i + 0 = 0 + g (i + 0); simp
  | succ k ih =>
    intro i
    show g i + kc_su g (k + 1) (i + 1) = g i + kc_su g k (i + 1) + g (i + (k + 1))
    rw [ih, show i + 1 + k = i + (k + 1) by omega]; omega
theorem kc_su_up {g g' : Nat → Nat} {j : Nat} : ∀ {k i : Nat}, i ≤ j → j < i + k → (∀ x, x ≠ j → g' x = g x) → kc_su g' k i + g j = kc_su g k i + g' j := by
  intro k
  induction k with
  | zero => intro i h1 h2; omega
  | succ k ih =>
    intro i h1 h2 h
    show g' i + kc_su g' k (i + 1) + g j = g i + kc_su g k (i + 1) + g' j
    by_cases e : i = j
    · subst e
      rw [kc_su_cg (g := g') (g' := g) (k := k) (i := i + 1) (fun x h3 _ => h x (by omega))]; omega
    · have := ih (i := i + 1) (by omega) (by omega) h
      rw [h i e]; omega
theorem kc_su_le {g : Nat → Nat} {B : Nat} : ∀ {k i : Nat}, (∀ x, i ≤ x → x < i + k → g x ≤ B) → kc_su g k i ≤ B * k := by
  intro k
  induction k with
  | zero => intro i _; exact Nat.zero_le _
  | succ k ih =>
    intro i h
    show g i + kc_su g k (i + 1) ≤ B * (k + 1)
    have h1 := h i (by omega) (by omega)
    have h2 := ih (i := i + 1) (fun x a b => h x (by omega) (by omega))
    rw [Nat.mul_succ]; omega
theorem kc_su_ge {g : Nat → Nat} {j : Nat} : ∀ {k i : Nat}, i ≤ j → j < i + k → g j ≤ kc_su g k i := by
  intro k
  induction k with
  | zero => intro i h1 h2; omega
  | succ k ih =>
    intro i h1 h2
    show g j ≤ g i + kc_su g k (i + 1)
    by_cases e : i = j
    · subst e; omega
    · have := ih (i := i + 1) (by omega) (by omega); omega
theorem kc_su_0 {g : Nat → Nat} : ∀ {k i : Nat}, (∀ x, i ≤ x → x < i + k → g x = 0) → kc_su g k i = 0 := by
  intro k i h
  have := kc_su_le (g := g) (B := 0) (k := k) (i := i) (fun x a b => by rw [h x a b]; exact Nat.le_refl 0)
  omega
theorem kc_su_pos {g : Nat → Nat} : ∀ {k i : Nat}, 0 < kc_su g k i → ∃ x, i ≤ x ∧ x < i + k ∧ 0 < g x := by
  intro k
  induction k with
  | zero => intro i h; exact absurd h (by show ¬ 0 < 0; omega)
  | succ k ih =>
    intro i h
    by_cases e : 0 < g i
    · exact ⟨i, by omega, by omega, e⟩
    · have h2 : 0 < kc_su g k (i + 1) := by
        have h3 : 0 < g i + kc_su g k (i + 1) := h
        omega
      obtain ⟨x, a, b, c⟩ := ih h2
      exact ⟨x, by omega, by omega, c⟩
/-! ===== a queue as a list, and as the class has it ===== -/
def kc_hd : List Nat → Int32
  | [] => -1
  | p :: _ => nI p
def kc_ls : List Nat → Int32
  | [] => -1
  | [p] => nI p
  | _ :: p :: r => kc_ls (p :: r)
def kc_ch (P : Nat → Nat → Int32) : List Nat → Prop
  | [] => True
  | p :: r => P p 9 = kc_hd r ∧ kc_ch P r
def kc_by (P : Nat → Nat → Int32) : List Nat → Int32
  | [] => 0
  | p :: r => P p 1 + kc_by P r
theorem kc_ls_app {m : List Nat} (hm : m ≠ []) : ∀ l : List Nat, kc_ls (l ++ m) = kc_ls m := by
  intro l
  induction l with
  | nil => rfl
  | cons a l ih =>
    cases e : l ++ m with
    | nil => exact absurd (List.append_eq_nil_iff.mp e).2 hm
    | cons b r =>
      show kc_ls (a :: (l ++ m)) = _
      rw [e]
      show kc_ls (b :: r) = _
      rw [← e]; exact ih
theorem kc_hd_mid (l : List Nat) (b : Nat) (r s : List Nat) : kc_hd (l ++ b :: r) = kc_hd (l ++ b :: s) := by
  cases l <;> rfl
theorem kc_hd_app {l : List Nat} (hl : l ≠ []) (r : List Nat) : kc_hd (l ++ r) = kc_hd l := by
  cases l with
  | nil => exact absurd rfl hl
  | cons a l => rfl
theorem kc_ls_m1 {l : List Nat} (h : ∀ x ∈ l, x < 2 ^ 31) : kc_ls l = -1 ↔ l = [] := by
  constructor
  · intro e
    rcases List.eq_nil_or_concat l with z | ⟨m, b, z⟩
    · exact z
    · rw [z, List.concat_eq_append, kc_ls_app (by simp)] at e
      exact absurd e (nI_ne1 (h b (by rw [z]; simp)))
  · intro e; rw [e]; rfl
theorem kc_hd_m1 {l : List Nat} (h : ∀ x ∈ l, x < 2 ^ 31) : kc_hd l = -1 ↔ l = [] := by
  cases l with
  | nil => exact ⟨fun _ => rfl, fun _ => rfl⟩
  | cons a l => exact ⟨fun e => absurd e (nI_ne1 (h a (by simp))), fun e => by cases e⟩
theorem kc_ch_cg {P P' : Nat → Nat → Int32} : ∀ {l : List Nat}, (∀ x ∈ l, P' x 9 = P x 9) → kc_ch P l → kc_ch P' l := by
  intro l
  induction l with
  | nil => intro _ _; trivial
  | cons a l ih =>
    intro h c
    exact ⟨by rw [h a (by simp)]; exact c.1, ih (fun x hx => h x (by simp [hx])) c.2⟩
theorem kc_by_cg {P P' : Nat → Nat → Int32} : ∀ {l : List Nat}, (∀ x ∈ l, P' x 1 = P x 1) → kc_by P' l = kc_by P l := by
  intro l
  induction l with
  | nil => intro _; rfl
  | cons a l ih =>
    intro h
    show P' a 1 + kc_by P' l = P a 1 + kc_by P l
    rw [h a (by simp), ih (fun x hx => h x (by simp [hx]))]
theorem kc_by_app {P : Nat → Nat → Int32} : ∀ {l m : List Nat}, kc_by P (l ++ m) = kc_by P l + kc_by P m := by
  intro l
  induction l with
  | nil => intro m; show kc_by P m = 0 + kc_by P m; rw [Int32.zero_add]
  | cons a l ih =>
    intro m
    show P a 1 + kc_by P (l ++ m) = P a 1 + kc_by P l + kc_by P m
    rw [ih, Int32.add_assoc]
theorem kc_ch_r {P : Nat → Nat → Int32} : ∀ {l m : List Nat}, kc_ch P (l ++ m) → kc_ch P m := by
  intro l
  induction l with
  | nil => intro m h; exact h
  | cons a l ih => intro m h; exact ih h.2
theorem kc_ch_rm {P : Nat → Nat → Int32} {b p : Nat} {l2 : List Nat} : ∀ {l0 : List Nat}, kc_ch P (l0 ++ b :: p :: l2) → b ∉ l0 → b ∉ l2 → kc_ch (j_up P b 9 (kc_hd l2)) (l0 ++ b :: l2) := by
  intro l0
  induction l0 with
  | nil =>
    intro h _ h2
    exact ⟨by simp [j_up], kc_ch_cg (fun x hx => by
      have : x ≠ b := fun e => h2 (e ▸ hx)
      simp [j_up, this]) h.2.2⟩
  | cons a l ih =>
    intro h h1 h2
    have hab : a ≠ b := fun e => h1 (by simp [e])
    refine ⟨?_, ih h.2 (fun z => h1 (by simp [z])) h2⟩
    have e : j_up P b 9 (kc_hd l2) a 9 = P a 9 := by simp [j_up, hab]
    rw [e, h.1]; exact kc_hd_mid l b _ _
theorem kc_ch_add {P : Nat → Nat → Int32} {b p : Nat} : ∀ {l0 : List Nat}, kc_ch P (l0 ++ [b]) → b ∉ l0 → p ∉ l0 → p ≠ b → P p 9 = -1 → kc_ch (j_up P b 9 (nI p)) (l0 ++ [b, p]) := by
  intro l0
  induction l0 with
  | nil =>
    intro _ _ _ hpb hp
    refine ⟨by simp [j_up, kc_hd], ?_, trivial⟩
    simp [j_up, hpb, kc_hd, hp]
  | cons a l ih =>
    intro h h1 h2 hpb hp
    have hab : a ≠ b := fun e => h1 (by simp [e])
    refine ⟨?_, ih h.2 (fun z => h1 (by simp [z])) (fun z => h2 (by simp [z])) hpb hp⟩
    have e : j_up P b 9 (nI p) a 9 = P a 9 := by simp [j_up, hab]
    rw [e, h.1]; exact kc_hd_mid l b _ _
theorem kc_walk {L : Lnk} {p : Nat} {l2 : List Nat} (hp : p < 2 ^ 31) : ∀ {l1 : List Nat} {n : Nat} {b : Int32}, kc_ch (lP L) (l1 ++ p :: l2) → p ∉ l1 → (∀ x ∈ l1, x < 2 ^ 31) → l1.length < n → lWalk L p n b (kc_hd (l1 ++ p :: l2)) = if l1 = [] then b else kc_ls l1 := by
  intro l1
  induction l1 with
  | nil =>
    intro n b _ _ _ hn
    obtain ⟨k, rfl⟩ : ∃ k, n = k + 1 := ⟨n - 1, by have : ([] : List Nat).length < n := hn; simp at this; omega⟩
    show (if nI p = nI p then b else _) = _
    rw [if_pos rfl, if_pos rfl]
  | cons a l ih =>
    intro n b hc hp1 hx hn
    obtain ⟨k, rfl⟩ : ∃ k, n = k + 1 := ⟨n - 1, by simp at hn; omega⟩
    have ha : a < 2 ^ 31 := hx a (by simp)
    have hap : ¬ nI a = nI p := fun e => hp1 (by simp [(nI_eq ha hp).mp e])
    show (if nI a = nI p then b else lWalk L p k (nI a) (lP L (nI a).toNatClampNeg 9)) = _
    have hc1 : lP L a 9 = kc_hd (l ++ p :: l2) := hc.1
    rw [if_neg hap, nI_clamp ha, hc1, if_neg (by simp), ih hc.2 (fun z => hp1 (by simp [z])) (fun x h => hx x (by simp [h])) (by simp at hn; omega)]
    cases l with
    | nil => rfl
    | cons c l => rw [if_neg (by simp)]; rfl
theorem kc_lOk {L : Lnk} {p : Nat} {l2 : List Nat} : ∀ {l1 : List Nat} {n : Nat}, kc_ch (lP L) (l1 ++ p :: l2) → (∀ x ∈ l1, x < 100) → lOk L p n (kc_hd (l1 ++ p :: l2)) := by
  intro l1
  induction l1 with
  | nil =>
    intro n _ _
    cases n with
    | zero => trivial
    | succ n => exact Or.inl rfl
  | cons a l ih =>
    intro n hc hx
    cases n with
    | zero => trivial
    | succ n =>
      refine Or.inr ⟨a, hx a (by simp), rfl, ?_⟩
      rw [hc.1]
      exact ih hc.2 (fun x h => hx x (by simp [h]))
theorem kc_nth {L : Lnk} : ∀ {i : Nat} {l : List Nat} {v : Nat}, kc_ch (lP L) l → (∀ x ∈ l, x < 100) → l[i]? = some v → lNthOk L i (kc_hd l) ∧ lNth L i (kc_hd l) = nI v := by
  intro i
  induction i with
  | zero =>
    intro l v _ _ h
    cases l with
    | nil => cases h
    | cons a l =>
      have : a = v := by simpa using h
      exact ⟨trivial, by rw [this]; rfl⟩
  | succ i ih =>
    intro l v hc hx h
    cases l with
    | nil => cases h
    | cons a l =>
      have ha : a < 100 := hx a (by simp)
      have h2 : l[i]? = some v := by simpa using h
      obtain ⟨g1, g2⟩ := ih hc.2 (fun x h => hx x (by simp [h])) h2
      refine ⟨⟨a, ha, rfl, by rw [hc.1]; exact g1⟩, ?_⟩
      show lNth L i (lP L (tn (nI a)) 9) = nI v
      rw [show tn (nI a) = a from nI_clamp (by omega), hc.1]
      exact g2
theorem kc_len : ∀ {n : Nat} {l : List Nat}, l.Nodup → (∀ x ∈ l, x < n) → l.length ≤ n := by
  intro n
  induction n with
  | zero =>
    intro l _ h
    cases l with
    | nil => exact Nat.le_refl 0
    | cons a l => exact absurd (h a (by simp)) (by omega)
  | succ n ih =>
    intro l hl h
    by_cases e : n ∈ l
    · obtain ⟨a, b, rfl⟩ := List.append_of_mem e
      have h1 := List.nodup_append.mp hl
      have h2 := List.nodup_cons.mp h1.2.1
      have h3 : (a ++ b).Nodup := List.nodup_append.mpr ⟨h1.1, h2.2, fun x hx y hy => h1.2.2 x hx y (by simp [hy])⟩
      have h4 := ih h3 (fun x hx => by
        rcases List.mem_append.mp hx with z | z
        · have q1 := h x (by simp [z])
          have q2 : x ≠ n := h1.2.2 x z n (by simp)
          omega
        · have q1 := h x (by simp [z])
          have q2 : x ≠ n := fun e => h2.1 (e ▸ z)
          omega)
      simp at h4 ⊢; omega
    · have := ih hl (fun x hx => by
        have q1 := h x hx
        have q2 : x ≠ n := fun z => e (z ▸ hx)
        omega)
      omega
/-! ===== the reference's queue ===== -/
def kc_sQ (M : Rf) (Q : Nat → Nat → Int32) : Rf := (M.1, M.2.1, Q, M.2.2.2)
theorem kc_take {f p : Nat} (hp : p < 2 ^ 31) : ∀ (lst : List Nat) (i j : Nat) (M : Rf) (dn : List Nat), (∀ x ∈ lst, x < 2 ^ 31) → dn.length = j → j ≤ i → (∀ x v, lst[x]? = some v → rQ M f (i + x) = nI v) → (∀ x v, dn[x]? = some v → rQ M f x = nI v) →
    ∃ Q', rTakeL f (nI p) lst.length i j M = (kc_sQ M Q', (dn ++ lst.filter (fun v => decide (v ≠ p))).length) ∧ (∀ r, r ≠ f → ∀ x, Q' r x = rQ M r x) ∧ ∀ x v, (dn ++ lst.filter (fun v => decide (v ≠ p)))[x]? = some v → Q' f x = nI v := by
  intro lst
  induction lst with
  | nil =>
    intro i j M dn _ hj _ _ h2
    refine ⟨rQ M, ?_, fun r _ x => rfl, fun x v h => h2 x v (by simpa using h)⟩
    show (M, j) = _
    simp [hj, kc_sQ, rQ]
  | cons a l ih =>
    intro i j M dn hx hj hji h1 h2
    have ha : a < 2 ^ 31 := hx a (by simp)
    have hq : rQ M f i = nI a := h1 0 a rfl
    by_cases e : a = p
    · subst e
      have e1 : rTakeL f (nI a) (a :: l).length i j M = rTakeL f (nI a) l.length (i + 1) j M := by
        show (if rQ M f i = nI a then _ else _) = _
        rw [if_pos hq]
      obtain ⟨Q', g1, g2, g3⟩ := ih (i + 1) j M dn (fun x h => hx x (by simp [h])) hj (by omega) (fun x v h => by
        have := h1 (x + 1) v (by simpa using h)
        rw [show i + 1 + x = i + (x + 1) by omega]; exact this) h2
      have ef : (a :: l).filter (fun v => decide (v ≠ a)) = l.filter (fun v => decide (v ≠ a)) := by simp
      rw [ef]
      exact ⟨Q', e1.trans g1, g2, g3⟩
    · have hne : ¬ rQ M f i = nI p := by rw [hq]; exact fun z => e ((nI_eq ha hp).mp z)
      have e1 : rTakeL f (nI p) (a :: l).length i j M = rTakeL f (nI p) l.length (i + 1) (j + 1) (rsQ M f j (rQ M f i)) := by
        show (if rQ M f i = nI p then _ else _) = _
        rw [if_neg hne]
      obtain ⟨Q', g1, g2, g3⟩ := ih (i + 1) (j + 1) (rsQ M f j (rQ M f i)) (dn ++ [a]) (fun x h => hx x (by simp [h])) (by simp [hj]) (by omega) (fun x v h => by
        have := h1 (x + 1) v (by simpa using h)
        have e2 : rQ (rsQ M f j (rQ M f i)) f (i + 1 + x) = rQ M f (i + 1 + x) := by
          show j_up _ _ _ _ _ _ = _
          rw [j_up, if_neg (by omega)]; rfl
        rw [e2, show i + 1 + x = i + (x + 1) by omega]; exact this) (fun x v h => by
        show j_up (rQ M) f j (rQ M f i) f x = nI v
        by_cases z : x = j
        · subst z
          have : a = v := by
            rw [List.getElem?_append_right (by omega), hj] at h
            simpa using h
          rw [j_up, if_pos ⟨rfl, rfl⟩, hq, this]
        · rw [j_up, if_neg (by omega)]
          refine h2 x v ?_
          have hlt : x < (dn ++ [a]).length := (List.getElem?_eq_some_iff.mp h).1
          rw [List.getElem?_append_left (by simp at hlt; omega)] at h
          exact h)
      have ef : dn ++ (a :: l).filter (fun v => decide (v ≠ p)) = (dn ++ [a]) ++ l.filter (fun v => decide (v ≠ p)) := by simp [e]
      rw [ef]
      refine ⟨Q', e1.trans g1, fun r hr x => ?_, g3⟩
      rw [g2 r hr x]
      show j_up _ _ _ _ _ _ = _
      rw [j_up, if_neg (fun z => hr z.1)]; rfl
theorem kc_shift {f : Nat} : ∀ (k : Nat) (M : Rf), ∃ Q', rShift f k M = kc_sQ M Q' ∧ ∀ r x, Q' r x = if r = f ∧ 1 ≤ x ∧ x ≤ k then rQ M f (x - 1) else rQ M r x := by
  intro k
  induction k with
  | zero =>
    intro M
    refine ⟨rQ M, rfl, fun r x => ?_⟩
    rw [if_neg (by omega)]
  | succ k ih =>
    intro M
    obtain ⟨Q', g1, g2⟩ := ih (rsQ M f (k + 1) (rQ M f k))
    refine ⟨Q', g1, fun r x => ?_⟩
    rw [g2 r x]
    have e : ∀ r x, rQ (rsQ M f (k + 1) (rQ M f k)) r x = if r = f ∧ x = k + 1 then rQ M f k else rQ M r x := fun _ _ => rfl
    by_cases h1 : r = f ∧ 1 ≤ x ∧ x ≤ k
    · rw [if_pos h1, if_pos (by omega), e, if_neg (by omega)]
    · rw [if_neg h1, e]
      by_cases h2 : r = f ∧ x = k + 1
      · rw [if_pos h2, if_pos (by omega), h2.2, Nat.add_sub_cancel]
      · rw [if_neg h2, if_neg (by omega)]

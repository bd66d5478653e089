/-! ===== locals ===== -/
def j_as : Nat → List Value → List (Nat × Value)
  | _, [] => []
  | i, .retAddr _ :: vs => j_as (i + 1) vs
  | i, .int a :: vs => (i, .int a) :: j_as (i + 1) vs
  | i, .long a :: vs => (i, .long a) :: j_as (i + 1) vs
  | i, .float a :: vs => (i, .float a) :: j_as (i + 1) vs
  | i, .double a :: vs => (i, .double a) :: j_as (i + 1) vs
  | i, .null :: vs => (i, .null) :: j_as (i + 1) vs
  | i, .ref a :: vs => (i, .ref a) :: j_as (i + 1) vs
def j_ks : Value → Bool
  | .retAddr _ => false
  | _ => true
theorem j_as_cons {i : Nat} {v : Value} {vs : List Value} (hv : j_ks v = true) : j_as i (v :: vs) = (i, v) :: j_as (i + 1) vs := by
  cases v <;> first | rfl | cases hv
theorem j_as_u {i : Nat} {v : Value} {vs : List Value} (hv : j_ks v = false) : j_as i (v :: vs) = j_as (i + 1) vs := by
  cases v <;> first | rfl | cases hv
theorem j_as_mem {vs : List Value} : ∀ {k : Nat} {q : Nat × Value}, q ∈ j_as k vs ↔ ∃ j, q.1 = k + j ∧ vs[j]? = some q.2 ∧ j_ks q.2 = true := by
  induction vs with
  | nil => intro k q; simp [j_as]
  | cons v vs ih =>
    intro k q
    by_cases hv : j_ks v = true
    · rw [j_as_cons hv, List.mem_cons, ih]
      constructor
      · rintro (rfl | ⟨j, h1, h2, h3⟩)
        · exact ⟨0, rfl, rfl, hv⟩
        · exact ⟨j + 1, by omega, h2, h3⟩
      · rintro ⟨j, h1, h2, h3⟩
        cases j with
        | zero =>
          left
          have e : v = q.2 := by simpa using h2
          exact Prod.ext (by simpa using h1) e.symm
        | succ j => exact Or.inr ⟨j, by omega, by simpa using h2, h3⟩
    · have hv' : j_ks v = false := by cases h : j_ks v <;> simp_all
      rw [j_as_u hv', ih]
      constructor
      · rintro ⟨j, h1, h2, h3⟩
        exact ⟨j + 1, by omega, h2, h3⟩
      · rintro ⟨j, h1, h2, h3⟩
        cases j with
        | zero =>
          have e : v = q.2 := by simpa using h2
          rw [← e, hv'] at h3
          cases h3
        | succ j => exact ⟨j, by omega, by simpa using h2, h3⟩
theorem j_has_sub {ls : Array Slot} {n : Nat} {l l' : List (Nat × Value)} (h : lv_has ls n l) (hs : ∀ q ∈ l', q ∈ l) : lv_has ls n l' := ⟨h.1, h.2.1, fun q hq => h.2.2 q (hs q hq)⟩
theorem j_nth_get {vs : List Value} : ∀ {i : Nat}, j_ks (j_nth vs i) = true → vs[i]? = some (j_nth vs i) := by
  induction vs with
  | nil => intro i h; cases h
  | cons v vs ih =>
    intro i h
    cases i with
    | zero => rfl
    | succ i => exact ih h
/-- a local read -/
theorem j_has_at {ls : Array Slot} {n : Nat} {vs : List Value} (h : lv_has ls n (j_as 0 vs)) {i : Nat} {v : Value} (hv : j_nth vs i = v) (hk : j_ks v = true) : ls[i]? = some (.val v) := by
  subst hv
  exact h.2.2 (i, j_nth vs i) (j_as_mem.mpr ⟨i, by simp, j_nth_get hk, hk⟩)
theorem j_kl_ks {w : Value} (h : j_ks (j_kl w) = true) : j_kl w = w ∧ w.category ≠ 2 := by
  cases w <;> simp_all [j_kl, j_ks, j_u, Value.category]
theorem j_st1_get {vs : List Value} : ∀ {i j : Nat} {v w : Value}, (j_st1 vs i v)[j]? = some w → j_ks w = true → (j = i ∧ w = v) ∨ (j ≠ i ∧ vs[j]? = some w ∧ ¬ (j + 1 = i ∧ w.category = 2)) := by
  induction vs with
  | nil => intro i j v w h; simp [j_st1] at h
  | cons u vs ih =>
    intro i j v w h hw
    match i, vs, j, h with
    | 0, vs, 0, h => exact Or.inl ⟨rfl, by simpa [j_st1] using h.symm⟩
    | 0, vs, j + 1, h => exact Or.inr ⟨by omega, by simpa [j_st1] using h, by omega⟩
    | 1, [], 0, h =>
      have e : j_kl u = w := by simpa [j_st1] using h
      have g := j_kl_ks (w := u) (by rw [e]; exact hw)
      rw [g.1] at e
      subst e
      exact Or.inr ⟨by omega, rfl, fun q => g.2 q.2⟩
    | 1, [], j + 1, h => simp [j_st1] at h
    | 1, _ :: vs, 0, h =>
      have e : j_kl u = w := by simpa [j_st1] using h
      have g := j_kl_ks (w := u) (by rw [e]; exact hw)
      rw [g.1] at e
      subst e
      exact Or.inr ⟨by omega, rfl, fun q => g.2 q.2⟩
    | 1, _ :: vs, 1, h => exact Or.inl ⟨rfl, by simpa [j_st1] using h.symm⟩
    | 1, _ :: vs, j + 2, h => exact Or.inr ⟨by omega, by simpa [j_st1] using h, by omega⟩
    | i + 2, vs, 0, h => exact Or.inr ⟨by omega, by simpa [j_st1] using h, by omega⟩
    | i + 2, vs, j + 1, h =>
      have h2 : (j_st1 vs (i + 1) v)[j]? = some w := by simpa [j_st1] using h
      rcases ih h2 hw with ⟨e1, e2⟩ | ⟨e1, e2, e3⟩
      · exact Or.inl ⟨by omega, e2⟩
      · exact Or.inr ⟨by omega, by simpa using e2, fun q => e3 ⟨by omega, q.2⟩⟩
theorem j_stu_get {vs : List Value} : ∀ {i j : Nat} {w : Value}, (j_stu vs i)[j]? = some w → j_ks w = true → j ≠ i ∧ vs[j]? = some w := by
  induction vs with
  | nil => intro i j w h; simp [j_stu] at h
  | cons u vs ih =>
    intro i j w h hw
    match i, j, h with
    | 0, 0, h =>
      have e : j_u = w := by simpa [j_stu] using h
      subst e
      cases hw
    | 0, j + 1, h => exact ⟨by omega, by simpa [j_stu] using h⟩
    | i + 1, 0, h => exact ⟨by omega, by simpa [j_stu] using h⟩
    | i + 1, j + 1, h =>
      have g := ih (i := i) (j := j) (by simpa [j_stu] using h) hw
      exact ⟨by omega, by simpa using g.2⟩
/-- a local written, of one word -/
theorem j_has_st1 {ls : Array Slot} {n i : Nat} {vs : List Value} {v : Value} (h : lv_has ls n ((i, v) :: (j_as 0 vs).filter (fun q => !(q.1 == i) && !(q.1 + 1 == i && q.2.category == 2)))) : lv_has ls n (j_as 0 (j_st1 vs i v)) := by
  refine j_has_sub h (fun q hq => ?_)
  obtain ⟨j, h1, h2, h3⟩ := j_as_mem.mp hq
  rcases j_st1_get h2 h3 with ⟨e1, e2⟩ | ⟨e1, e2, e3⟩
  · have : q = (i, v) := Prod.ext (by omega) e2
    rw [this]
    exact List.mem_cons_self
  · refine List.mem_cons_of_mem _ (List.mem_filter.mpr ⟨j_as_mem.mpr ⟨j, h1, e2, h3⟩, ?_⟩)
    have a1 : (q.1 == i) = false := by simp; omega
    have a2 : (q.1 + 1 == i && q.2.category == 2) = false := by
      by_cases z : q.1 + 1 = i
      · have : ¬ q.2.category = 2 := fun t => e3 ⟨by omega, t⟩
        simp [this]
      · simp [z]
    simp [a1, a2]
theorem j_has_st2 {ls : Array Slot} {n i : Nat} {vs : List Value} {v : Value} (h : lv_has ls n ((i, v) :: (j_as 0 vs).filter (fun q => !(q.1 == i) && (!(q.1 == i + 1) && !(q.1 + 1 == i && q.2.category == 2))))) : lv_has ls n (j_as 0 (j_st2 vs i v)) := by
  refine j_has_sub h (fun q hq => ?_)
  obtain ⟨j, h1, h2, h3⟩ := j_as_mem.mp hq
  obtain ⟨e0, h2⟩ := j_stu_get h2 h3
  rcases j_st1_get h2 h3 with ⟨e1, e2⟩ | ⟨e1, e2, e3⟩
  · have : q = (i, v) := Prod.ext (by omega) e2
    rw [this]
    exact List.mem_cons_self
  · refine List.mem_cons_of_mem _ (List.mem_filter.mpr ⟨j_as_mem.mpr ⟨j, h1, e2, h3⟩, ?_⟩)
    have a1 : (q.1 == i) = false := by simp; omega
    have a3 : (q.1 == i + 1) = false := by simp; omega
    have a2 : (q.1 + 1 == i && q.2.category == 2) = false := by
      by_cases z : q.1 + 1 = i
      · have : ¬ q.2.category = 2 := fun t => e3 ⟨by omega, t⟩
        simp [this]
      · simp [z]
    simp [a1, a2, a3]
/-- less is known of the locals -/
def j_le : List Value → List Value → Prop
  | [], [] => True
  | v :: vs, w :: ws => (w = v ∨ j_ks w = false) ∧ j_le vs ws
  | _, _ => False
theorem j_le_get {vs : List Value} : ∀ {ws : List Value} {j : Nat} {w : Value}, j_le vs ws → ws[j]? = some w → j_ks w = true → vs[j]? = some w := by
  induction vs with
  | nil =>
    intro ws j w h hw
    cases ws with
    | nil => simp at hw
    | cons a b => exact absurd h (by simp [j_le])
  | cons v vs ih =>
    intro ws j w h hw hk
    cases ws with
    | nil => simp at hw
    | cons a b =>
      cases j with
      | zero =>
        have e : a = w := by simpa using hw
        subst e
        rcases h.1 with q | q
        · rw [q]; rfl
        · rw [q] at hk; cases hk
      | succ j => exact ih h.2 (by simpa using hw) hk
theorem j_has_le {ls : Array Slot} {n : Nat} {vs ws : List Value} (h : lv_has ls n (j_as 0 vs)) (hl : j_le vs ws) : lv_has ls n (j_as 0 ws) := by
  refine j_has_sub h (fun q hq => ?_)
  obtain ⟨j, h1, h2, h3⟩ := j_as_mem.mp hq
  exact j_as_mem.mpr ⟨j, h1, j_le_get hl h2 h3, h3⟩

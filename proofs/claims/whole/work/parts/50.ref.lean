/-! ===== the reference: its state as plain functions =====
numbers, flows, queues, rules, packets, transmissions, records; virtual times, charges -/
abbrev Rf : Type := (Nat → Int32) × (Nat → Nat → Int32) × (Nat → Nat → Int32) × (Nat → Nat → Int32) × (Nat → Nat → Int32) × (Nat → Nat → Int32) × (Nat → Nat → Int32) × (Nat → Int64) × (Nat → Int64)
def rX (M : Rf) : Nat → Int32 := M.1
def rF (M : Rf) : Nat → Nat → Int32 := M.2.1
def rQ (M : Rf) : Nat → Nat → Int32 := M.2.2.1
def rU (M : Rf) : Nat → Nat → Int32 := M.2.2.2.1
def rP (M : Rf) : Nat → Nat → Int32 := M.2.2.2.2.1
def rS (M : Rf) : Nat → Nat → Int32 := M.2.2.2.2.2.1
def rW (M : Rf) : Nat → Nat → Int32 := M.2.2.2.2.2.2.1
def rV (M : Rf) : Nat → Int64 := M.2.2.2.2.2.2.2.1
def rC (M : Rf) : Nat → Int64 := M.2.2.2.2.2.2.2.2
def rsX (M : Rf) (k : Nat) (v : Int32) : Rf := (up1 M.1 k v, M.2)
def rsF (M : Rf) (r k : Nat) (v : Int32) : Rf := (M.1, j_up M.2.1 r k v, M.2.2)
def rsQ (M : Rf) (r k : Nat) (v : Int32) : Rf := (M.1, M.2.1, j_up M.2.2.1 r k v, M.2.2.2)
def rsU (M : Rf) (r k : Nat) (v : Int32) : Rf := (M.1, M.2.1, M.2.2.1, j_up M.2.2.2.1 r k v, M.2.2.2.2)
def rsP (M : Rf) (r k : Nat) (v : Int32) : Rf := (M.1, M.2.1, M.2.2.1, M.2.2.2.1, j_up M.2.2.2.2.1 r k v, M.2.2.2.2.2)
def rsS (M : Rf) (r k : Nat) (v : Int32) : Rf := (M.1, M.2.1, M.2.2.1, M.2.2.2.1, M.2.2.2.2.1, j_up M.2.2.2.2.2.1 r k v, M.2.2.2.2.2.2)
def rsW (M : Rf) (r k : Nat) (v : Int32) : Rf := (M.1, M.2.1, M.2.2.1, M.2.2.2.1, M.2.2.2.2.1, M.2.2.2.2.2.1, j_up M.2.2.2.2.2.2.1 r k v, M.2.2.2.2.2.2.2)
def rsV (M : Rf) (k : Nat) (v : Int64) : Rf := (M.1, M.2.1, M.2.2.1, M.2.2.2.1, M.2.2.2.2.1, M.2.2.2.2.2.1, M.2.2.2.2.2.2.1, up1 M.2.2.2.2.2.2.2.1 k v, M.2.2.2.2.2.2.2.2)
def rsC (M : Rf) (k : Nat) (v : Int64) : Rf := (M.1, M.2.1, M.2.2.1, M.2.2.2.1, M.2.2.2.2.1, M.2.2.2.2.2.1, M.2.2.2.2.2.2.1, M.2.2.2.2.2.2.2.1, up1 M.2.2.2.2.2.2.2.2 k v)
/-- a row of 4073 ints holds the state -/
def RG (g : Nat → Int32) (M : Rf) : Prop := (∀ k, k < 9 → g k = rX M k) ∧ (∀ r k, r < 6 → k < 14 → g (9 + 14 * r + k) = rF M r k) ∧ (∀ r k, r < 6 → k < 100 → g (93 + 100 * r + k) = rQ M r k) ∧ (∀ r k, r < 12 → k < 7 → g (693 + 7 * r + k) = rU M r k) ∧ (∀ r k, r < 100 → k < 9 → g (777 + 9 * r + k) = rP M r k) ∧ (∀ r k, r < 300 → k < 5 → g (1677 + 5 * r + k) = rS M r k) ∧ (∀ r k, r < 128 → k < 7 → g (3177 + 7 * r + k) = rW M r k)
def RGV (g : Nat → Int64) (M : Rf) : Prop := (∀ k, k < 6 → g k = rV M k) ∧ ∀ k, k < 300 → g (6 + k) = rC M k
theorem RG_X {g : Nat → Int32} {M : Rf} (h : RG g M) {k : Nat} (hk : k < 9) (v : Int32) : RG (up1 g k v) (rsX M k v) := by
  obtain ⟨h0, h1, h2, h3, h4, h5, h6⟩ := h
  refine ⟨fun j g1 => ?_, fun r' j g1 g2 => ?_, fun r' j g1 g2 => ?_, fun r' j g1 g2 => ?_, fun r' j g1 g2 => ?_, fun r' j g1 g2 => ?_, fun r' j g1 g2 => ?_⟩
  · by_cases e : j = k
    · subst e; simp [up1, rX, rsX]
    · rw [up1, if_neg e, h0 j g1]; simp [up1, rX, rsX, e]
  · rw [up1, if_neg (by omega)]; exact h1 r' j g1 g2
  · rw [up1, if_neg (by omega)]; exact h2 r' j g1 g2
  · rw [up1, if_neg (by omega)]; exact h3 r' j g1 g2
  · rw [up1, if_neg (by omega)]; exact h4 r' j g1 g2
  · rw [up1, if_neg (by omega)]; exact h5 r' j g1 g2
  · rw [up1, if_neg (by omega)]; exact h6 r' j g1 g2
theorem RG_F {g : Nat → Int32} {M : Rf} (h : RG g M) {r k : Nat} (hr : r < 6) (hk : k < 14) (v : Int32) : RG (up1 g (9 + 14 * r + k) v) (rsF M r k v) := by
  obtain ⟨h0, h1, h2, h3, h4, h5, h6⟩ := h
  refine ⟨fun j g1 => ?_, fun r' j g1 g2 => ?_, fun r' j g1 g2 => ?_, fun r' j g1 g2 => ?_, fun r' j g1 g2 => ?_, fun r' j g1 g2 => ?_, fun r' j g1 g2 => ?_⟩
  · rw [up1, if_neg (by omega)]; exact h0 j g1
  · by_cases e : r' = r ∧ j = k
    · obtain ⟨rfl, rfl⟩ := e; simp [up1, rF, rsF, j_up]
    · rw [up1, if_neg (by omega), h1 r' j g1 g2]; simp [rF, rsF, j_up, e]
  · rw [up1, if_neg (by omega)]; exact h2 r' j g1 g2
  · rw [up1, if_neg (by omega)]; exact h3 r' j g1 g2
  · rw [up1, if_neg (by omega)]; exact h4 r' j g1 g2
  · rw [up1, if_neg (by omega)]; exact h5 r' j g1 g2
  · rw [up1, if_neg (by omega)]; exact h6 r' j g1 g2
theorem RG_Q {g : Nat → Int32} {M : Rf} (h : RG g M) {r k : Nat} (hr : r < 6) (hk : k < 100) (v : Int32) : RG (up1 g (93 + 100 * r + k) v) (rsQ M r k v) := by
  obtain ⟨h0, h1, h2, h3, h4, h5, h6⟩ := h
  refine ⟨fun j g1 => ?_, fun r' j g1 g2 => ?_, fun r' j g1 g2 => ?_, fun r' j g1 g2 => ?_, fun r' j g1 g2 => ?_, fun r' j g1 g2 => ?_, fun r' j g1 g2 => ?_⟩
  · rw [up1, if_neg (by omega)]; exact h0 j g1
  · rw [up1, if_neg (by omega)]; exact h1 r' j g1 g2
  · by_cases e : r' = r ∧ j = k
    · obtain ⟨rfl, rfl⟩ := e; simp [up1, rQ, rsQ, j_up]
    · rw [up1, if_neg (by omega), h2 r' j g1 g2]; simp [rQ, rsQ, j_up, e]
  · rw [up1, if_neg (by omega)]; exact h3 r' j g1 g2
  · rw [up1, if_neg (by omega)]; exact h4 r' j g1 g2
  · rw [up1, if_neg (by omega)]; exact h5 r' j g1 g2
  · rw [up1, if_neg (by omega)]; exact h6 r' j g1 g2
theorem RG_U {g : Nat → Int32} {M : Rf} (h : RG g M) {r k : Nat} (hr : r < 12) (hk : k < 7) (v : Int32) : RG (up1 g (693 + 7 * r + k) v) (rsU M r k v) := by
  obtain ⟨h0, h1, h2, h3, h4, h5, h6⟩ := h
  refine ⟨fun j g1 => ?_, fun r' j g1 g2 => ?_, fun r' j g1 g2 => ?_, fun r' j g1 g2 => ?_, fun r' j g1 g2 => ?_, fun r' j g1 g2 => ?_, fun r' j g1 g2 => ?_⟩
  · rw [up1, if_neg (by omega)]; exact h0 j g1
  · rw [up1, if_neg (by omega)]; exact h1 r' j g1 g2
  · rw [up1, if_neg (by omega)]; exact h2 r' j g1 g2
  · by_cases e : r' = r ∧ j = k
    · obtain ⟨rfl, rfl⟩ := e; simp [up1, rU, rsU, j_up]
    · rw [up1, if_neg (by omega), h3 r' j g1 g2]; simp [rU, rsU, j_up, e]
  · rw [up1, if_neg (by omega)]; exact h4 r' j g1 g2
  · rw [up1, if_neg (by omega)]; exact h5 r' j g1 g2
  · rw [up1, if_neg (by omega)]; exact h6 r' j g1 g2
theorem RG_P {g : Nat → Int32} {M : Rf} (h : RG g M) {r k : Nat} (hr : r < 100) (hk : k < 9) (v : Int32) : RG (up1 g (777 + 9 * r + k) v) (rsP M r k v) := by
  obtain ⟨h0, h1, h2, h3, h4, h5, h6⟩ := h
  refine ⟨fun j g1 => ?_, fun r' j g1 g2 => ?_, fun r' j g1 g2 => ?_, fun r' j g1 g2 => ?_, fun r' j g1 g2 => ?_, fun r' j g1 g2 => ?_, fun r' j g1 g2 => ?_⟩
  · rw [up1, if_neg (by omega)]; exact h0 j g1
  · rw [up1, if_neg (by omega)]; exact h1 r' j g1 g2
  · rw [up1, if_neg (by omega)]; exact h2 r' j g1 g2
  · rw [up1, if_neg (by omega)]; exact h3 r' j g1 g2
  · by_cases e : r' = r ∧ j = k
    · obtain ⟨rfl, rfl⟩ := e; simp [up1, rP, rsP, j_up]
    · rw [up1, if_neg (by omega), h4 r' j g1 g2]; simp [rP, rsP, j_up, e]
  · rw [up1, if_neg (by omega)]; exact h5 r' j g1 g2
  · rw [up1, if_neg (by omega)]; exact h6 r' j g1 g2
theorem RG_S {g : Nat → Int32} {M : Rf} (h : RG g M) {r k : Nat} (hr : r < 300) (hk : k < 5) (v : Int32) : RG (up1 g (1677 + 5 * r + k) v) (rsS M r k v) := by
  obtain ⟨h0, h1, h2, h3, h4, h5, h6⟩ := h
  refine ⟨fun j g1 => ?_, fun r' j g1 g2 => ?_, fun r' j g1 g2 => ?_, fun r' j g1 g2 => ?_, fun r' j g1 g2 => ?_, fun r' j g1 g2 => ?_, fun r' j g1 g2 => ?_⟩
  · rw [up1, if_neg (by omega)]; exact h0 j g1
  · rw [up1, if_neg (by omega)]; exact h1 r' j g1 g2
  · rw [up1, if_neg (by omega)]; exact h2 r' j g1 g2
  · rw [up1, if_neg (by omega)]; exact h3 r' j g1 g2
  · rw [up1, if_neg (by omega)]; exact h4 r' j g1 g2
  · by_cases e : r' = r ∧ j = k
    · obtain ⟨rfl, rfl⟩ := e; simp [up1, rS, rsS, j_up]
    · rw [up1, if_neg (by omega), h5 r' j g1 g2]; simp [rS, rsS, j_up, e]
  · rw [up1, if_neg (by omega)]; exact h6 r' j g1 g2
theorem RG_W {g : Nat → Int32} {M : Rf} (h : RG g M) {r k : Nat} (hr : r < 128) (hk : k < 7) (v : Int32) : RG (up1 g (3177 + 7 * r + k) v) (rsW M r k v) := by
  obtain ⟨h0, h1, h2, h3, h4, h5, h6⟩ := h
  refine ⟨fun j g1 => ?_, fun r' j g1 g2 => ?_, fun r' j g1 g2 => ?_, fun r' j g1 g2 => ?_, fun r' j g1 g2 => ?_, fun r' j g1 g2 => ?_, fun r' j g1 g2 => ?_⟩
  · rw [up1, if_neg (by omega)]; exact h0 j g1
  · rw [up1, if_neg (by omega)]; exact h1 r' j g1 g2
  · rw [up1, if_neg (by omega)]; exact h2 r' j g1 g2
  · rw [up1, if_neg (by omega)]; exact h3 r' j g1 g2
  · rw [up1, if_neg (by omega)]; exact h4 r' j g1 g2
  · rw [up1, if_neg (by omega)]; exact h5 r' j g1 g2
  · by_cases e : r' = r ∧ j = k
    · obtain ⟨rfl, rfl⟩ := e; simp [up1, rW, rsW, j_up]
    · rw [up1, if_neg (by omega), h6 r' j g1 g2]; simp [rW, rsW, j_up, e]
theorem RG_cp {g g' : Nat → Int32} {M : Rf} (h : RG g M) (e : ∀ k, k < 4073 → g' k = g k) : RG g' M := by
  obtain ⟨h0, h1, h2, h3, h4, h5, h6⟩ := h
  refine ⟨fun j g1 => ?_, fun r' j g1 g2 => ?_, fun r' j g1 g2 => ?_, fun r' j g1 g2 => ?_, fun r' j g1 g2 => ?_, fun r' j g1 g2 => ?_, fun r' j g1 g2 => ?_⟩
  · rw [e _ (by omega)]; exact h0 j g1
  · rw [e _ (by omega)]; exact h1 r' j g1 g2
  · rw [e _ (by omega)]; exact h2 r' j g1 g2
  · rw [e _ (by omega)]; exact h3 r' j g1 g2
  · rw [e _ (by omega)]; exact h4 r' j g1 g2
  · rw [e _ (by omega)]; exact h5 r' j g1 g2
  · rw [e _ (by omega)]; exact h6 r' j g1 g2
theorem RG_sV {g : Nat → Int32} {M : Rf} (h : RG g M) (k : Nat) (v : Int64) : RG g (rsV M k v) := h
theorem RG_sC {g : Nat → Int32} {M : Rf} (h : RG g M) (k : Nat) (v : Int64) : RG g (rsC M k v) := h
theorem RGV_V {g : Nat → Int64} {M : Rf} (h : RGV g M) {k : Nat} (hk : k < 6) (v : Int64) : RGV (up1 g k v) (rsV M k v) := by
  refine ⟨fun j g1 => ?_, fun j g1 => ?_⟩
  · by_cases e : j = k
    · subst e; simp [up1, rV, rsV]
    · rw [up1, if_neg e, h.1 j g1]; simp [up1, rV, rsV, e]
  · rw [up1, if_neg (by omega)]; exact h.2 j g1
theorem RGV_C {g : Nat → Int64} {M : Rf} (h : RGV g M) {k : Nat} (hk : k < 300) (v : Int64) : RGV (up1 g (6 + k) v) (rsC M k v) := by
  refine ⟨fun j g1 => ?_, fun j g1 => ?_⟩
  · rw [up1, if_neg (by omega)]; exact h.1 j g1
  · by_cases e : j = k
    · subst e; simp [up1, rC, rsC]
    · rw [up1, if_neg (by omega), h.2 j g1]; simp [up1, rC, rsC, e]
theorem RGV_cp {g g' : Nat → Int64} {M : Rf} (h : RGV g M) (e : ∀ k, k < 306 → g' k = g k) : RGV g' M :=
  ⟨fun j g1 => by rw [e _ (by omega)]; exact h.1 j g1, fun j g1 => by rw [e _ (by omega)]; exact h.2 j g1⟩
/-- the reference's object at m, its arrays behind it -/
def mk (h : j_H) (m : Nat) : Prop := j_sh h m = some (.inr 11) ∧ (j_R h m 0 = some (m + 1) ∧ j_sh h (m + 1) = some (.inl (0, 4073))) ∧ (j_R h m 1 = some (m + 2) ∧ j_sh h (m + 2) = some (.inl (0, 4073))) ∧ (j_R h m 2 = some (m + 3) ∧ j_sh h (m + 3) = some (.inl (0, 4073))) ∧ (j_R h m 3 = some (m + 4) ∧ j_sh h (m + 4) = some (.inl (0, 4073))) ∧ (j_R h m 4 = some (m + 5) ∧ j_sh h (m + 5) = some (.inl (0, 40730))) ∧ (j_R h m 5 = some (m + 6) ∧ j_sh h (m + 6) = some (.inl (1, 306))) ∧ (j_R h m 6 = some (m + 7) ∧ j_sh h (m + 7) = some (.inl (1, 306))) ∧ (j_R h m 7 = some (m + 8) ∧ j_sh h (m + 8) = some (.inl (1, 306))) ∧ (j_R h m 8 = some (m + 9) ∧ j_sh h (m + 9) = some (.inl (1, 3060))) ∧ (j_R h m 12 = some (m + 10) ∧ j_sh h (m + 10) = some (.inl (0, 40))) ∧ (j_R h m 14 = some (m + 11) ∧ j_sh h (m + 11) = some (.inl (0, 800))) ∧ (j_R h m 24 = some (m + 12) ∧ j_sh h (m + 12) = some (.inl (5, 9))) ∧ (j_R h m 25 = some (m + 13) ∧ j_sh h (m + 13) = some (.inl (0, 9))) ∧ (j_R h m 26 = some (m + 14) ∧ j_sh h (m + 14) = some (.inl (0, 200))) ∧ (j_R h m 27 = some (m + 15) ∧ j_sh h (m + 15) = some (.inl (0, 200)))
section Mk
variable {h h' : j_H} {m : Nat}
theorem mk_sh (s : mk h m) : j_sh h m = some (.inr 11) := s.1
theorem mk_r0 (s : mk h m) : j_R h m 0 = some (m + 1) := s.2.1.1
theorem mk_a0 (s : mk h m) : j_sh h (m + 1) = some (.inl (0, 4073)) := s.2.1.2
theorem mk_r1 (s : mk h m) : j_R h m 1 = some (m + 2) := s.2.2.1.1
theorem mk_a1 (s : mk h m) : j_sh h (m + 2) = some (.inl (0, 4073)) := s.2.2.1.2
theorem mk_r2 (s : mk h m) : j_R h m 2 = some (m + 3) := s.2.2.2.1.1
theorem mk_a2 (s : mk h m) : j_sh h (m + 3) = some (.inl (0, 4073)) := s.2.2.2.1.2
theorem mk_r3 (s : mk h m) : j_R h m 3 = some (m + 4) := s.2.2.2.2.1.1
theorem mk_a3 (s : mk h m) : j_sh h (m + 4) = some (.inl (0, 4073)) := s.2.2.2.2.1.2
theorem mk_r4 (s : mk h m) : j_R h m 4 = some (m + 5) := s.2.2.2.2.2.1.1
theorem mk_a4 (s : mk h m) : j_sh h (m + 5) = some (.inl (0, 40730)) := s.2.2.2.2.2.1.2
theorem mk_r5 (s : mk h m) : j_R h m 5 = some (m + 6) := s.2.2.2.2.2.2.1.1
theorem mk_a5 (s : mk h m) : j_sh h (m + 6) = some (.inl (1, 306)) := s.2.2.2.2.2.2.1.2
theorem mk_r6 (s : mk h m) : j_R h m 6 = some (m + 7) := s.2.2.2.2.2.2.2.1.1
theorem mk_a6 (s : mk h m) : j_sh h (m + 7) = some (.inl (1, 306)) := s.2.2.2.2.2.2.2.1.2
theorem mk_r7 (s : mk h m) : j_R h m 7 = some (m + 8) := s.2.2.2.2.2.2.2.2.1.1
theorem mk_a7 (s : mk h m) : j_sh h (m + 8) = some (.inl (1, 306)) := s.2.2.2.2.2.2.2.2.1.2
theorem mk_r8 (s : mk h m) : j_R h m 8 = some (m + 9) := s.2.2.2.2.2.2.2.2.2.1.1
theorem mk_a8 (s : mk h m) : j_sh h (m + 9) = some (.inl (1, 3060)) := s.2.2.2.2.2.2.2.2.2.1.2
theorem mk_r12 (s : mk h m) : j_R h m 12 = some (m + 10) := s.2.2.2.2.2.2.2.2.2.2.1.1
theorem mk_a12 (s : mk h m) : j_sh h (m + 10) = some (.inl (0, 40)) := s.2.2.2.2.2.2.2.2.2.2.1.2
theorem mk_r14 (s : mk h m) : j_R h m 14 = some (m + 11) := s.2.2.2.2.2.2.2.2.2.2.2.1.1
theorem mk_a14 (s : mk h m) : j_sh h (m + 11) = some (.inl (0, 800)) := s.2.2.2.2.2.2.2.2.2.2.2.1.2
theorem mk_r24 (s : mk h m) : j_R h m 24 = some (m + 12) := s.2.2.2.2.2.2.2.2.2.2.2.2.1.1
theorem mk_a24 (s : mk h m) : j_sh h (m + 12) = some (.inl (5, 9)) := s.2.2.2.2.2.2.2.2.2.2.2.2.1.2
theorem mk_r25 (s : mk h m) : j_R h m 25 = some (m + 13) := s.2.2.2.2.2.2.2.2.2.2.2.2.2.1.1
theorem mk_a25 (s : mk h m) : j_sh h (m + 13) = some (.inl (0, 9)) := s.2.2.2.2.2.2.2.2.2.2.2.2.2.1.2
theorem mk_r26 (s : mk h m) : j_R h m 26 = some (m + 14) := s.2.2.2.2.2.2.2.2.2.2.2.2.2.2.1.1
theorem mk_a26 (s : mk h m) : j_sh h (m + 14) = some (.inl (0, 200)) := s.2.2.2.2.2.2.2.2.2.2.2.2.2.2.1.2
theorem mk_r27 (s : mk h m) : j_R h m 27 = some (m + 15) := s.2.2.2.2.2.2.2.2.2.2.2.2.2.2.2.1
theorem mk_a27 (s : mk h m) : j_sh h (m + 15) = some (.inl (0, 200)) := s.2.2.2.2.2.2.2.2.2.2.2.2.2.2.2.2
theorem mk_FA {A : Nat → Prop} (s : mk h m) (hF : FA A h h') : mk h' m := by unfold mk at *; rw [hF.1, hF.2.1]; exact s
end Mk
theorem jI_row (h : j_H) (a i : Nat) (v : Int32) : j_I (j_setI h a i v) a = up1 (j_I h a) i v := by
  funext j
  simp [jh_I, up1]
theorem jI_off {h : j_H} {a b i : Nat} {v : Int32} (e : b ≠ a) : j_I (j_setI h a i v) b = j_I h b := by
  funext j
  simp [jh_I, e]
theorem jL_row (h : j_H) (a i : Nat) (v : Int64) : j_L (j_setL h a i v) a = up1 (j_L h a) i v := by
  funext j
  simp [jh_L, up1]
theorem jL_off {h : j_H} {a b i : Nat} {v : Int64} (e : b ≠ a) : j_L (j_setL h a i v) b = j_L h b := by
  funext j
  simp [jh_L, e]
theorem FA_I {A : Nat → Prop} {h0 h : j_H} {b k : Nat} {v : Int32} (hF : FA A h0 h) (hb : A b) : FA A h0 (j_setI h b k v) := by
  obtain ⟨f1, f2, f3, f4, f5, f6, f7, f8⟩ := hF
  exact ⟨f1, f2, f3, f4, f5, f6, fun b' k' g => by rw [jh_In (fun z => g (by rw [z.1]; exact hb))]; exact f7 b' k' g, f8⟩
theorem FA_L {A : Nat → Prop} {h0 h : j_H} {b k : Nat} {v : Int64} (hF : FA A h0 h) (hb : A b) : FA A h0 (j_setL h b k v) := by
  obtain ⟨f1, f2, f3, f4, f5, f6, f7, f8⟩ := hF
  exact ⟨f1, f2, f3, f4, f5, f6, f7, fun b' k' g => by rw [jh_Ln (fun z => g (by rw [z.1]; exact hb))]; exact f8 b' k' g⟩
/-- the cells that the traffic of the reference changes -/
def tA (m : Nat) : Nat → Prop := fun b => b = m + 1 ∨ b = m + 6
/-- the reference at m holds M; since h0 only its two rows have changed; there is room -/
def ME (E : j_E) (h0 : j_H) (m : Nat) (M : Rf) (h : j_H) : Prop := mk h m ∧ RG (j_I h (m + 1)) M ∧ RGV (j_L h (m + 6)) M ∧ FA (tA m) h0 h ∧ j_bd E h
section Mq
variable {l : Launch} {D : va_G} {bs : Nat} {E : j_E} {h0 h : j_H} {m : Nat} {M : Rf} {d : Nat} {Q : j_O → j_H → Prop}
theorem ME_m (s : ME E h0 m M h) : mk h m := s.1
theorem ME_b (s : ME E h0 m M h) : j_bd E h := s.2.2.2.2
theorem ME_sh (s : ME E h0 m M h) : j_sh h m = some (.inr 11) := mk_sh s.1
theorem ME_r0 (s : ME E h0 m M h) : j_R h m 0 = some (m + 1) := mk_r0 s.1
theorem ME_a0 (s : ME E h0 m M h) : j_sh h (m + 1) = some (.inl (0, 4073)) := mk_a0 s.1
theorem ME_r5 (s : ME E h0 m M h) : j_R h m 5 = some (m + 6) := mk_r5 s.1
theorem ME_a5 (s : ME E h0 m M h) : j_sh h (m + 6) = some (.inl (1, 306)) := mk_a5 s.1
theorem ME_gX (s : ME E h0 m M h) {k : Nat} (hk : k < 9) : j_I h (m + 1) k = rX M k := s.2.1.1 k hk
theorem ME_x0 (s : ME E h0 m M h) : j_I h (m + 1) (Int32.toNatClampNeg 0) = rX M 0 := ME_gX s (k := 0) (by omega)
theorem ME_x1 (s : ME E h0 m M h) : j_I h (m + 1) (Int32.toNatClampNeg 1) = rX M 1 := ME_gX s (k := 1) (by omega)
theorem ME_x2 (s : ME E h0 m M h) : j_I h (m + 1) (Int32.toNatClampNeg 2) = rX M 2 := ME_gX s (k := 2) (by omega)
theorem ME_x3 (s : ME E h0 m M h) : j_I h (m + 1) (Int32.toNatClampNeg 3) = rX M 3 := ME_gX s (k := 3) (by omega)
theorem ME_x4 (s : ME E h0 m M h) : j_I h (m + 1) (Int32.toNatClampNeg 4) = rX M 4 := ME_gX s (k := 4) (by omega)
theorem ME_x5 (s : ME E h0 m M h) : j_I h (m + 1) (Int32.toNatClampNeg 5) = rX M 5 := ME_gX s (k := 5) (by omega)
theorem ME_x6 (s : ME E h0 m M h) : j_I h (m + 1) (Int32.toNatClampNeg 6) = rX M 6 := ME_gX s (k := 6) (by omega)
theorem ME_x7 (s : ME E h0 m M h) : j_I h (m + 1) (Int32.toNatClampNeg 7) = rX M 7 := ME_gX s (k := 7) (by omega)
theorem ME_x8 (s : ME E h0 m M h) : j_I h (m + 1) (Int32.toNatClampNeg 8) = rX M 8 := ME_gX s (k := 8) (by omega)
theorem ME_X (s : ME E h0 m M h) {k : Nat} (hk : k < 9) (v : Int32) : ME E h0 m (rsX M k v) (j_setI h (m + 1) k v) := ⟨s.1, by rw [jI_row]; exact RG_X s.2.1 hk v, s.2.2.1, FA_I s.2.2.2.1 (Or.inl rfl), s.2.2.2.2⟩
theorem ME_gF (s : ME E h0 m M h) {r k : Nat} (hr : r < 6) (hk : k < 14) : j_I h (m + 1) (9 + 14 * r + k) = rF M r k := s.2.1.2.1 r k hr hk
theorem ME_F (s : ME E h0 m M h) {r k : Nat} (hr : r < 6) (hk : k < 14) (v : Int32) : ME E h0 m (rsF M r k v) (j_setI h (m + 1) (9 + 14 * r + k) v) := ⟨s.1, by rw [jI_row]; exact RG_F s.2.1 hr hk v, s.2.2.1, FA_I s.2.2.2.1 (Or.inl rfl), s.2.2.2.2⟩
theorem ME_gQ (s : ME E h0 m M h) {r k : Nat} (hr : r < 6) (hk : k < 100) : j_I h (m + 1) (93 + 100 * r + k) = rQ M r k := s.2.1.2.2.1 r k hr hk
theorem ME_Q (s : ME E h0 m M h) {r k : Nat} (hr : r < 6) (hk : k < 100) (v : Int32) : ME E h0 m (rsQ M r k v) (j_setI h (m + 1) (93 + 100 * r + k) v) := ⟨s.1, by rw [jI_row]; exact RG_Q s.2.1 hr hk v, s.2.2.1, FA_I s.2.2.2.1 (Or.inl rfl), s.2.2.2.2⟩
theorem ME_gU (s : ME E h0 m M h) {r k : Nat} (hr : r < 12) (hk : k < 7) : j_I h (m + 1) (693 + 7 * r + k) = rU M r k := s.2.1.2.2.2.1 r k hr hk
theorem ME_U (s : ME E h0 m M h) {r k : Nat} (hr : r < 12) (hk : k < 7) (v : Int32) : ME E h0 m (rsU M r k v) (j_setI h (m + 1) (693 + 7 * r + k) v) := ⟨s.1, by rw [jI_row]; exact RG_U s.2.1 hr hk v, s.2.2.1, FA_I s.2.2.2.1 (Or.inl rfl), s.2.2.2.2⟩
theorem ME_gP (s : ME E h0 m M h) {r k : Nat} (hr : r < 100) (hk : k < 9) : j_I h (m + 1) (777 + 9 * r + k) = rP M r k := s.2.1.2.2.2.2.1 r k hr hk
theorem ME_P (s : ME E h0 m M h) {r k : Nat} (hr : r < 100) (hk : k < 9) (v : Int32) : ME E h0 m (rsP M r k v) (j_setI h (m + 1) (777 + 9 * r + k) v) := ⟨s.1, by rw [jI_row]; exact RG_P s.2.1 hr hk v, s.2.2.1, FA_I s.2.2.2.1 (Or.inl rfl), s.2.2.2.2⟩
theorem ME_gS (s : ME E h0 m M h) {r k : Nat} (hr : r < 300) (hk : k < 5) : j_I h (m + 1) (1677 + 5 * r + k) = rS M r k := s.2.1.2.2.2.2.2.1 r k hr hk
theorem ME_S (s : ME E h0 m M h) {r k : Nat} (hr : r < 300) (hk : k < 5) (v : Int32) : ME E h0 m (rsS M r k v) (j_setI h (m + 1) (1677 + 5 * r + k) v) := ⟨s.1, by rw [jI_row]; exact RG_S s.2.1 hr hk v, s.2.2.1, FA_I s.2.2.2.1 (Or.inl rfl), s.2.2.2.2⟩
theorem ME_gW (s : ME E h0 m M h) {r k : Nat} (hr : r < 128) (hk : k < 7) : j_I h (m + 1) (3177 + 7 * r + k) = rW M r k := s.2.1.2.2.2.2.2.2 r k hr hk
theorem ME_W (s : ME E h0 m M h) {r k : Nat} (hr : r < 128) (hk : k < 7) (v : Int32) : ME E h0 m (rsW M r k v) (j_setI h (m + 1) (3177 + 7 * r + k) v) := ⟨s.1, by rw [jI_row]; exact RG_W s.2.1 hr hk v, s.2.2.1, FA_I s.2.2.2.1 (Or.inl rfl), s.2.2.2.2⟩
theorem ME_gV (s : ME E h0 m M h) {k : Nat} (hk : k < 6) : j_L h (m + 6) k = rV M k := s.2.2.1.1 k hk
theorem ME_gC (s : ME E h0 m M h) {k : Nat} (hk : k < 300) : j_L h (m + 6) (6 + k) = rC M k := s.2.2.1.2 k hk
theorem ME_V (s : ME E h0 m M h) {k : Nat} (hk : k < 6) (v : Int64) : ME E h0 m (rsV M k v) (j_setL h (m + 6) k v) := ⟨s.1, s.2.1, by rw [jL_row]; exact RGV_V s.2.2.1 hk v, FA_L s.2.2.2.1 (Or.inr rfl), s.2.2.2.2⟩
theorem ME_C (s : ME E h0 m M h) {k : Nat} (hk : k < 300) (v : Int64) : ME E h0 m (rsC M k v) (j_setL h (m + 6) (6 + k) v) := ⟨s.1, s.2.1, by rw [jL_row]; exact RGV_C s.2.2.1 hk v, FA_L s.2.2.2.1 (Or.inr rfl), s.2.2.2.2⟩
theorem r_ixF {f k : Nat} : (9 : Int32) + 14 * nI f + nI k = nI (9 + 14 * f + k) := by
  show nI 9 + nI 14 * nI f + nI k = _
  rw [pk_mul, nI_add, nI_add]
theorem r_ixQ {f k : Nat} : (93 : Int32) + 100 * nI f + nI k = nI (93 + 100 * f + k) := by
  show nI 93 + nI 100 * nI f + nI k = _
  rw [pk_mul, nI_add, nI_add]
theorem r_ixP {f k : Nat} : (777 : Int32) + 9 * nI f + nI k = nI (777 + 9 * f + k) := by
  show nI 777 + nI 9 * nI f + nI k = _
  rw [pk_mul, nI_add, nI_add]
theorem r_ixS {f k : Nat} : (1677 : Int32) + 5 * nI f + nI k = nI (1677 + 5 * f + k) := by
  show nI 1677 + nI 5 * nI f + nI k = _
  rw [pk_mul, nI_add, nI_add]
theorem r_ixC {k : Nat} : (6 : Int32) + nI k = nI (6 + k) := by
  show nI 6 + nI k = _
  rw [nI_add]
theorem sp_X9_ofFlow (hl : l.stackTraces = false) (s : ME E h0 m M h) {f k : Nat} (hf : f < 6) (hk : k < 14) (H : Q (.inl (some (.int (rF M f k)))) h) : j_Met l D bs E (d + 1) n_X9_ofFlow [.ref m, .int (nI f), .int (nI k)] h Q := by
  have hB := ME_b s
  refine j_meth hl rfl g_X9_ofFlow (Nat.le_of_ble_eq_true rfl) (fun _ => ⟨_, _, rfl, (ME_sh s)⟩) hB.1 hB.2 (fun G hG => ?_)
  refine b_X9_ofFlow_0 hG ?_
  dsimp only [q_X9_ofFlow_0, j_wp, j_opB, j_opA, j_nth, j_i1, j_i2, j_l1, j_l2, j_li, j_f1, j_f2, j_d1, j_d2, j_r1, j_ai, j_aii, j_ail, j_aid, j_air, j_st1, j_st2, j_stu, j_kl, j_cond, j_args, j_out, j_few, j_cw, j_nat, j_pad, j_exp, Nat.reduceAdd]
  simp only [ME_sh s, ME_r0 s, ME_a0 s, ME_r5 s, ME_a5 s, j_ref, j_ari, j_arb, j_arr, j_len, j_nar, j_oi, j_ol, j_of, j_od, j_or, j_ov, true_and, and_true, r_ixF]
  refine ⟨vp_in_nI (by omega) (by omega), ?_⟩
  rw [nI_clamp (by omega), ME_gF s hf hk]
  exact H
theorem sp_X9_ofPacket (hl : l.stackTraces = false) (s : ME E h0 m M h) {f k : Nat} (hf : f < 100) (hk : k < 9) (H : Q (.inl (some (.int (rP M f k)))) h) : j_Met l D bs E (d + 1) n_X9_ofPacket [.ref m, .int (nI f), .int (nI k)] h Q := by
  have hB := ME_b s
  refine j_meth hl rfl g_X9_ofPacket (Nat.le_of_ble_eq_true rfl) (fun _ => ⟨_, _, rfl, (ME_sh s)⟩) hB.1 hB.2 (fun G hG => ?_)
  refine b_X9_ofPacket_0 hG ?_
  dsimp only [q_X9_ofPacket_0, j_wp, j_opB, j_opA, j_nth, j_i1, j_i2, j_l1, j_l2, j_li, j_f1, j_f2, j_d1, j_d2, j_r1, j_ai, j_aii, j_ail, j_aid, j_air, j_st1, j_st2, j_stu, j_kl, j_cond, j_args, j_out, j_few, j_cw, j_nat, j_pad, j_exp, Nat.reduceAdd]
  simp only [ME_sh s, ME_r0 s, ME_a0 s, ME_r5 s, ME_a5 s, j_ref, j_ari, j_arb, j_arr, j_len, j_nar, j_oi, j_ol, j_of, j_od, j_or, j_ov, true_and, and_true, r_ixP]
  refine ⟨vp_in_nI (by omega) (by omega), ?_⟩
  rw [nI_clamp (by omega), ME_gP s hf hk]
  exact H
theorem sp_X9_ofSending (hl : l.stackTraces = false) (s : ME E h0 m M h) {f k : Nat} (hf : f < 300) (hk : k < 5) (H : Q (.inl (some (.int (rS M f k)))) h) : j_Met l D bs E (d + 1) n_X9_ofSending [.ref m, .int (nI f), .int (nI k)] h Q := by
  have hB := ME_b s
  refine j_meth hl rfl g_X9_ofSending (Nat.le_of_ble_eq_true rfl) (fun _ => ⟨_, _, rfl, (ME_sh s)⟩) hB.1 hB.2 (fun G hG => ?_)
  refine b_X9_ofSending_0 hG ?_
  dsimp only [q_X9_ofSending_0, j_wp, j_opB, j_opA, j_nth, j_i1, j_i2, j_l1, j_l2, j_li, j_f1, j_f2, j_d1, j_d2, j_r1, j_ai, j_aii, j_ail, j_aid, j_air, j_st1, j_st2, j_stu, j_kl, j_cond, j_args, j_out, j_few, j_cw, j_nat, j_pad, j_exp, Nat.reduceAdd]
  simp only [ME_sh s, ME_r0 s, ME_a0 s, ME_r5 s, ME_a5 s, j_ref, j_ari, j_arb, j_arr, j_len, j_nar, j_oi, j_ol, j_of, j_od, j_or, j_ov, true_and, and_true, r_ixS]
  refine ⟨vp_in_nI (by omega) (by omega), ?_⟩
  rw [nI_clamp (by omega), ME_gS s hf hk]
  exact H
theorem sp_X9_inQueue (hl : l.stackTraces = false) (s : ME E h0 m M h) {f k : Nat} (hf : f < 6) (hk : k < 100) (H : Q (.inl (some (.int (rQ M f k)))) h) : j_Met l D bs E (d + 1) n_X9_inQueue [.ref m, .int (nI f), .int (nI k)] h Q := by
  have hB := ME_b s
  refine j_meth hl rfl g_X9_inQueue (Nat.le_of_ble_eq_true rfl) (fun _ => ⟨_, _, rfl, (ME_sh s)⟩) hB.1 hB.2 (fun G hG => ?_)
  refine b_X9_inQueue_0 hG ?_
  dsimp only [q_X9_inQueue_0, j_wp, j_opB, j_opA, j_nth, j_i1, j_i2, j_l1, j_l2, j_li, j_f1, j_f2, j_d1, j_d2, j_r1, j_ai, j_aii, j_ail, j_aid, j_air, j_st1, j_st2, j_stu, j_kl, j_cond, j_args, j_out, j_few, j_cw, j_nat, j_pad, j_exp, Nat.reduceAdd]
  simp only [ME_sh s, ME_r0 s, ME_a0 s, ME_r5 s, ME_a5 s, j_ref, j_ari, j_arb, j_arr, j_len, j_nar, j_oi, j_ol, j_of, j_od, j_or, j_ov, true_and, and_true, r_ixQ]
  refine ⟨vp_in_nI (by omega) (by omega), ?_⟩
  rw [nI_clamp (by omega), ME_gQ s hf hk]
  exact H
theorem sp_X9_addToFlow (hl : l.stackTraces = false) (s : ME E h0 m M h) {f k : Nat} {v : Int32} (hf : f < 6) (hk : k < 14) (H : ∀ h', ME E h0 m (rsF M f k (rF M f k + v)) h' → Q (.inl none) h') : j_Met l D bs E (d + 1) n_X9_addToFlow [.ref m, .int (nI f), .int (nI k), .int v] h Q := by
  have hB := ME_b s
  refine j_meth hl rfl g_X9_addToFlow (Nat.le_of_ble_eq_true rfl) (fun _ => ⟨_, _, rfl, (ME_sh s)⟩) hB.1 hB.2 (fun G hG => ?_)
  refine b_X9_addToFlow_0 hG ?_
  dsimp only [q_X9_addToFlow_0, j_wp, j_opB, j_opA, j_nth, j_i1, j_i2, j_l1, j_l2, j_li, j_f1, j_f2, j_d1, j_d2, j_r1, j_ai, j_aii, j_ail, j_aid, j_air, j_st1, j_st2, j_stu, j_kl, j_cond, j_args, j_out, j_few, j_cw, j_nat, j_pad, j_exp, Nat.reduceAdd]
  simp only [ME_sh s, ME_r0 s, ME_a0 s, ME_r5 s, ME_a5 s, j_ref, j_ari, j_arb, j_arr, j_len, j_nar, j_oi, j_ol, j_of, j_od, j_or, j_ov, true_and, and_true, r_ixF]
  refine ⟨vp_in_nI (by omega) (by omega), vp_in_nI (by omega) (by omega), ?_⟩
  rw [nI_clamp (by omega), ME_gF s hf hk]
  exact H _ (ME_F s hf hk _)
theorem sp_X9_putPacket (hl : l.stackTraces = false) (s : ME E h0 m M h) {f k : Nat} {v : Int32} (hf : f < 100) (hk : k < 9) (H : ∀ h', ME E h0 m (rsP M f k v) h' → Q (.inl none) h') : j_Met l D bs E (d + 1) n_X9_putPacket [.ref m, .int (nI f), .int (nI k), .int v] h Q := by
  have hB := ME_b s
  refine j_meth hl rfl g_X9_putPacket (Nat.le_of_ble_eq_true rfl) (fun _ => ⟨_, _, rfl, (ME_sh s)⟩) hB.1 hB.2 (fun G hG => ?_)
  refine b_X9_putPacket_0 hG ?_
  dsimp only [q_X9_putPacket_0, j_wp, j_opB, j_opA, j_nth, j_i1, j_i2, j_l1, j_l2, j_li, j_f1, j_f2, j_d1, j_d2, j_r1, j_ai, j_aii, j_ail, j_aid, j_air, j_st1, j_st2, j_stu, j_kl, j_cond, j_args, j_out, j_few, j_cw, j_nat, j_pad, j_exp, Nat.reduceAdd]
  simp only [ME_sh s, ME_r0 s, ME_a0 s, ME_r5 s, ME_a5 s, j_ref, j_ari, j_arb, j_arr, j_len, j_nar, j_oi, j_ol, j_of, j_od, j_or, j_ov, true_and, and_true, r_ixP]
  refine ⟨vp_in_nI (by omega) (by omega), ?_⟩
  rw [nI_clamp (by omega)]
  exact H _ (ME_P s hf hk _)
theorem sp_X9_putSending (hl : l.stackTraces = false) (s : ME E h0 m M h) {f k : Nat} {v : Int32} (hf : f < 300) (hk : k < 5) (H : ∀ h', ME E h0 m (rsS M f k v) h' → Q (.inl none) h') : j_Met l D bs E (d + 1) n_X9_putSending [.ref m, .int (nI f), .int (nI k), .int v] h Q := by
  have hB := ME_b s
  refine j_meth hl rfl g_X9_putSending (Nat.le_of_ble_eq_true rfl) (fun _ => ⟨_, _, rfl, (ME_sh s)⟩) hB.1 hB.2 (fun G hG => ?_)
  refine b_X9_putSending_0 hG ?_
  dsimp only [q_X9_putSending_0, j_wp, j_opB, j_opA, j_nth, j_i1, j_i2, j_l1, j_l2, j_li, j_f1, j_f2, j_d1, j_d2, j_r1, j_ai, j_aii, j_ail, j_aid, j_air, j_st1, j_st2, j_stu, j_kl, j_cond, j_args, j_out, j_few, j_cw, j_nat, j_pad, j_exp, Nat.reduceAdd]
  simp only [ME_sh s, ME_r0 s, ME_a0 s, ME_r5 s, ME_a5 s, j_ref, j_ari, j_arb, j_arr, j_len, j_nar, j_oi, j_ol, j_of, j_od, j_or, j_ov, true_and, and_true, r_ixS]
  refine ⟨vp_in_nI (by omega) (by omega), ?_⟩
  rw [nI_clamp (by omega)]
  exact H _ (ME_S s hf hk _)
end Mq

/-! ===== class and reference held together: the relation ===== -/
/-- the class's column of a flow for the reference's column k -/
def kc_fc (k : Nat) : Nat := if k ≤ 7 then k else if k ≤ 12 then k + 1 else 15
theorem kc_fc_inj {a b : Nat} (ha : a < 14) (hb : b < 14) (e : kc_fc a = kc_fc b) : a = b := by
  unfold kc_fc at e
  split at e <;> split at e <;> (try split at e) <;> (try split at e) <;> omega
theorem kc_fc_no {k : Nat} (hk : k < 14) : kc_fc k ≠ 8 ∧ kc_fc k ≠ 14 ∧ kc_fc k ≠ 16 ∧ kc_fc k ≠ 17 ∧ kc_fc k ≠ 18 ∧ kc_fc k < 19 := by
  unfold kc_fc
  split
  · omega
  · split <;> omega
theorem ju_s {α : Type} (f : Nat → Nat → α) (a k : Nat) (v : α) : j_up f a k v a k = v := by simp [j_up]
theorem ju_n {α : Type} {f : Nat → Nat → α} {a k : Nat} {v : α} {b j : Nat} (h : ¬ (b = a ∧ j = k)) : j_up f a k v b j = f b j := by rw [j_up, if_neg h]
theorem u1_s {α : Type} (f : Nat → α) (k : Nat) (v : α) : up1 f k v k = v := by simp [up1]
theorem u1_n {α : Type} {f : Nat → α} {k : Nat} {v : α} {j : Nat} (h : ¬ j = k) : up1 f k v j = f j := by rw [up1, if_neg h]
def kc_lat (T : Nat → Nat → Int32) (p : Nat) : Nat → Int32
  | 0 => -1
  | n + 1 => if T n 0 = nI p then nI n else kc_lat T p n
theorem kc_lat_cg {T T' : Nat → Nat → Int32} {p : Nat} : ∀ {n : Nat}, (∀ m, m < n → T' m 0 = T m 0) → kc_lat T' p n = kc_lat T p n := by
  intro n
  induction n with
  | zero => intro _; rfl
  | succ n ih =>
    intro h
    show (if T' n 0 = nI p then nI n else kc_lat T' p n) = (if T n 0 = nI p then nI n else kc_lat T p n)
    rw [h n (by omega), ih (fun m hm => h m (by omega))]
def kX (nf np ns c : Nat) (x y : Nat → Int32) : Prop := (x 5 = nI nf ∧ y 0 = nI nf) ∧ (x 6 = y 6 ∧ x 7 = y 7 ∧ x 8 = y 8) ∧ (x 9 = nI np ∧ y 2 = nI np) ∧ (x 10 = nI ns ∧ y 3 = nI ns) ∧ (x 11 = nI c ∧ y 4 = nI c) ∧ x 12 = y 5
def kF (nf : Nat) (F G : Nat → Nat → Int32) : Prop := ∀ f k, f < nf → k < 14 → F f (kc_fc k) = G f k
def kV (nf : Nat) (V W : Nat → Int64) : Prop := ∀ f, f < nf → V f = W f
def kP (np : Nat) (P R : Nat → Nat → Int32) : Prop := ∀ p k, p < np → k < 9 → P p k = R p k
def kS (ns : Nat) (S T : Nat → Nat → Int32) (C : Nat → Int64) : Prop := ∀ n, n < ns → (∀ k, k < 5 → S n k = T n k) ∧ (S n 5).toInt64 = C n
def kT (nf np ns : Nat) (G R T : Nat → Nat → Int32) : Prop := (∀ p, p < np → (∃ f, f < nf ∧ R p 0 = nI f) ∧ ∃ z, 1 ≤ z ∧ z ≤ 1500 ∧ R p 1 = nI z) ∧ (∀ n, n < ns → ∃ p, p < np ∧ T n 0 = nI p) ∧ ∀ f, f < nf → (∃ w, 1 ≤ w ∧ w ≤ 16 ∧ G f 0 = nI w) ∧ ∃ z, z ≤ 200 ∧ G f 6 = nI z
def kQ (nf np : Nat) (q : Nat → List Nat) (sf : Nat → Nat) (F P G R Qr : Nat → Nat → Int32) : Prop := ∀ f, f < nf → (G f 7 = nI (q f).length ∧ ∀ i v, (q f)[i]? = some v → Qr f i = nI v) ∧ (F f 17 = kc_hd (q f) ∧ F f 18 = kc_ls (q f) ∧ kc_ch P (q f)) ∧ (q f).Nodup ∧ ∀ p, p ∈ q f ↔ p < np ∧ R p 0 = nI f ∧ sf p = 0
def kN (nf np : Nat) (q : Nat → List Nat) (sf : Nat → Nat) (x : Nat → Int32) (F P G R : Nat → Nat → Int32) : Prop := x 13 = nI (kc_su (fun f => (q f).length) nf 0) ∧ x 14 = nI (kc_su (fun p => if sf p = 2 then 1 else 0) np 0) ∧ ∀ f, f < nf → F f 8 = kc_by P (q f) ∧ F f 14 = nI (kc_su (fun p => if R p 0 = nI f ∧ sf p = 3 then 1 else 0) np 0) ∧ G f 9 = nI (kc_su (fun p => if R p 0 = nI f ∧ sf p = 2 then tn (R p 1) else 0) np 0)
def kL (np ns : Nat) (P T : Nat → Nat → Int32) : Prop := ∀ p, p < np → P p 10 = kc_lat T p ns
def kSt (nf np ns c : Nat) (q : Nat → List Nat) (sf : Nat → Nat) (L : Lnk) (M : Rf) : Prop :=
  (nf ≤ 6 ∧ np ≤ 100 ∧ ns ≤ 300) ∧ kX nf np ns c (lX L) (rX M) ∧ kF nf (lF L) (rF M) ∧ kV nf (lV L) (rV M) ∧ kP np (lP L) (rP M) ∧ kS ns (lS L) (rS M) (rC M) ∧ kT nf np ns (rF M) (rP M) (rS M) ∧ kQ nf np q sf (lF L) (lP L) (rF M) (rP M) (rQ M) ∧ kN nf np q sf (lX L) (lF L) (lP L) (rF M) (rP M) ∧ kL np ns (lP L) (rS M)
section KSt
variable {nf np ns c : Nat} {q : Nat → List Nat} {sf : Nat → Nat} {L : Lnk} {M : Rf}
theorem kc_in (h : kSt nf np ns c q sf L M) {f : Nat} (hf : f < nf) {x : Nat} (hx : x ∈ q f) : x < 100 := by
  obtain ⟨⟨_, h2, _⟩, _, _, _, _, _, _, hq, _, _⟩ := h
  have := (((hq f hf).2.2.2 x).mp hx).1
  omega
theorem kc_ql (h : kSt nf np ns c q sf L M) {f : Nat} (hf : f < nf) : (q f).length ≤ np := by
  obtain ⟨_, _, _, _, _, _, _, hq, _, _⟩ := h
  exact kc_len (hq f hf).2.2.1 (fun x hx => (((hq f hf).2.2.2 x).mp hx).1)
/-- a transmission's column 1 to 4 -/
theorem kc_S (h : kSt nf np ns c q sf L M) {n k : Nat} (hk : k < 5) (h0 : k ≠ 0) (v : Int32) : kSt nf np ns c q sf (lsS L n k v) (rsS M n k v) := by
  obtain ⟨g0, gX, gF, gV, gP, gS, ⟨t1, t2, t3⟩, gQ, gN, gL⟩ := h
  refine ⟨g0, gX, gF, gV, gP, fun m hm => ⟨fun j hj => ?_, ?_⟩, ⟨t1, fun m hm => ?_, t3⟩, gQ, gN, fun p hp => ?_⟩
  · show j_up (lS L) n k v m j = j_up (rS M) n k v m j
    by_cases e : m = n ∧ j = k
    · rw [e.1, e.2, ju_s, ju_s]
    · rw [ju_n e, ju_n e]; exact (gS m hm).1 j hj
  · show (j_up (lS L) n k v m 5).toInt64 = _
    rw [ju_n (by omega)]; exact (gS m hm).2
  · show ∃ p, p < np ∧ j_up (rS M) n k v m 0 = nI p
    rw [ju_n (by omega)]; exact t2 m hm
  · rw [show rS (rsS M n k v) = j_up (rS M) n k v from rfl, kc_lat_cg (T := rS M) (fun m _ => ju_n (by omega))]
    exact gL p hp
theorem kc_F16 (h : kSt nf np ns c q sf L M) {f : Nat} (v : Int32) : kSt nf np ns c q sf (lsF L f 16 v) M := by
  obtain ⟨g0, gX, gF, gV, gP, gS, gT, gQ, gN, gL⟩ := h
  refine ⟨g0, gX, fun g k hg hk => ?_, gV, gP, gS, gT, fun g hg => ?_, ⟨gN.1, gN.2.1, fun g hg => ?_⟩, gL⟩
  · show j_up (lF L) f 16 v g (kc_fc k) = _
    rw [ju_n (by have := kc_fc_no hk; omega)]; exact gF g k hg hk
  · have z := gQ g hg
    refine ⟨z.1, ⟨?_, ?_, z.2.1.2.2⟩, z.2.2⟩
    · show j_up (lF L) f 16 v g 17 = _
      rw [ju_n (by omega)]; exact z.2.1.1
    · show j_up (lF L) f 16 v g 18 = _
      rw [ju_n (by omega)]; exact z.2.1.2.1
  · have z := gN.2.2 g hg
    refine ⟨?_, ?_, z.2.2⟩
    · show j_up (lF L) f 16 v g 8 = _
      rw [ju_n (by omega)]; exact z.1
    · show j_up (lF L) f 16 v g 14 = _
      rw [ju_n (by omega)]; exact z.2.1
/-- a flow's column: the reference's k, not 0, 6, 7, 9 -/
theorem kc_F (h : kSt nf np ns c q sf L M) {f k : Nat} (hk : k < 14) (h0 : k ≠ 0 ∧ k ≠ 6 ∧ k ≠ 7 ∧ k ≠ 9) (v : Int32) : kSt nf np ns c q sf (lsF L f (kc_fc k) v) (rsF M f k v) := by
  obtain ⟨g0, gX, gF, gV, gP, gS, ⟨t1, t2, t3⟩, gQ, gN, gL⟩ := h
  have no := kc_fc_no hk
  refine ⟨g0, gX, fun g j hg hj => ?_, gV, gP, gS, ⟨t1, t2, fun g hg => ?_⟩, fun g hg => ?_, ⟨gN.1, gN.2.1, fun g hg => ?_⟩, gL⟩
  · show j_up (lF L) f (kc_fc k) v g (kc_fc j) = j_up (rF M) f k v g j
    by_cases e : g = f ∧ j = k
    · rw [e.1, e.2, ju_s, ju_s]
    · rw [ju_n e, ju_n (fun z => e ⟨z.1, kc_fc_inj hj hk z.2⟩)]; exact gF g j hg hj
  · have z := t3 g hg
    refine ⟨?_, ?_⟩
    · show ∃ w, 1 ≤ w ∧ w ≤ 16 ∧ j_up (rF M) f k v g 0 = nI w
      rw [ju_n (by omega)]; exact z.1
    · show ∃ w, w ≤ 200 ∧ j_up (rF M) f k v g 6 = nI w
      rw [ju_n (by omega)]; exact z.2
  · have z := gQ g hg
    refine ⟨⟨?_, z.1.2⟩, ⟨?_, ?_, z.2.1.2.2⟩, z.2.2⟩
    · show j_up (rF M) f k v g 7 = _
      rw [ju_n (by omega)]; exact z.1.1
    · show j_up (lF L) f (kc_fc k) v g 17 = _
      rw [ju_n (by omega)]; exact z.2.1.1
    · show j_up (lF L) f (kc_fc k) v g 18 = _
      rw [ju_n (by omega)]; exact z.2.1.2.1
  · have z := gN.2.2 g hg
    refine ⟨?_, ?_, ?_⟩
    · show j_up (lF L) f (kc_fc k) v g 8 = _
      rw [ju_n (by omega)]; exact z.1
    · show j_up (lF L) f (kc_fc k) v g 14 = _
      rw [ju_n (by omega)]; exact z.2.1
    · show j_up (rF M) f k v g 9 = _
      rw [ju_n (by omega)]; exact z.2.2
/-- a flow's weight -/
theorem kc_W (h : kSt nf np ns c q sf L M) {f w : Nat} (h1 : 1 ≤ w) (h2 : w ≤ 16) : kSt nf np ns c q sf (lsF L f 0 (nI w)) (rsF M f 0 (nI w)) := by
  obtain ⟨g0, gX, gF, gV, gP, gS, ⟨t1, t2, t3⟩, gQ, gN, gL⟩ := h
  refine ⟨g0, gX, fun g j hg hj => ?_, gV, gP, gS, ⟨t1, t2, fun g hg => ?_⟩, fun g hg => ?_, ⟨gN.1, gN.2.1, fun g hg => ?_⟩, gL⟩
  · show j_up (lF L) f (kc_fc 0) (nI w) g (kc_fc j) = j_up (rF M) f 0 (nI w) g j
    by_cases e : g = f ∧ j = 0
    · rw [e.1, e.2, ju_s, ju_s]
    · rw [ju_n e, ju_n (fun z => e ⟨z.1, kc_fc_inj hj (by omega) z.2⟩)]; exact gF g j hg hj
  · have z := t3 g hg
    refine ⟨?_, ?_⟩
    · show ∃ w', 1 ≤ w' ∧ w' ≤ 16 ∧ j_up (rF M) f 0 (nI w) g 0 = nI w'
      by_cases e : g = f
      · rw [e, ju_s]; exact ⟨w, h1, h2, rfl⟩
      · rw [ju_n (by omega)]; exact z.1
    · show ∃ w', w' ≤ 200 ∧ j_up (rF M) f 0 (nI w) g 6 = nI w'
      rw [ju_n (by omega)]; exact z.2
  · have z := gQ g hg
    refine ⟨⟨?_, z.1.2⟩, ⟨?_, ?_, z.2.1.2.2⟩, z.2.2⟩
    · show j_up (rF M) f 0 (nI w) g 7 = _
      rw [ju_n (by omega)]; exact z.1.1
    · show j_up (lF L) f 0 (nI w) g 17 = _
      rw [ju_n (by omega)]; exact z.2.1.1
    · show j_up (lF L) f 0 (nI w) g 18 = _
      rw [ju_n (by omega)]; exact z.2.1.2.1
  · have z := gN.2.2 g hg
    refine ⟨?_, ?_, ?_⟩
    · show j_up (lF L) f 0 (nI w) g 8 = _
      rw [ju_n (by omega)]; exact z.1
    · show j_up (lF L) f 0 (nI w) g 14 = _
      rw [ju_n (by omega)]; exact z.2.1
    · show j_up (rF M) f 0 (nI w) g 9 = _
      rw [ju_n (by omega)]; exact z.2.2
theorem kc_V (h : kSt nf np ns c q sf L M) {f : Nat} (v : Int64) : kSt nf np ns c q sf (lsV L f v) (rsV M f v) := by
  obtain ⟨g0, gX, gF, gV, g⟩ := h
  refine ⟨g0, gX, gF, fun x hx => ?_, g⟩
  show up1 (lV L) f v x = up1 (rV M) f v x
  by_cases e : x = f
  · rw [e, u1_s, u1_s]
  · rw [u1_n e, u1_n e]; exact gV x hx
/-- a packet's column 2 to 8 -/
theorem kc_P (h : kSt nf np ns c q sf L M) {p k : Nat} (hk : k < 9) (h0 : k ≠ 0 ∧ k ≠ 1) (v : Int32) : kSt nf np ns c q sf (lsP L p k v) (rsP M p k v) := by
  obtain ⟨g0, gX, gF, gV, gP, gS, ⟨t1, t2, t3⟩, gQ, gN, gL⟩ := h
  have e0 : ∀ x, j_up (rP M) p k v x 0 = rP M x 0 := fun x => ju_n (by omega)
  have e1 : ∀ x, j_up (rP M) p k v x 1 = rP M x 1 := fun x => ju_n (by omega)
  refine ⟨g0, gX, gF, gV, fun x j hx hj => ?_, gS, ⟨fun x hx => ?_, t2, t3⟩, fun g hg => ?_, ⟨gN.1, gN.2.1, fun g hg => ?_⟩, fun x hx => ?_⟩
  · show j_up (lP L) p k v x j = j_up (rP M) p k v x j
    by_cases e : x = p ∧ j = k
    · rw [e.1, e.2, ju_s, ju_s]
    · rw [ju_n e, ju_n e]; exact gP x j hx hj
  · show (∃ f, f < nf ∧ j_up (rP M) p k v x 0 = nI f) ∧ ∃ z, 1 ≤ z ∧ z ≤ 1500 ∧ j_up (rP M) p k v x 1 = nI z
    rw [e0, e1]; exact t1 x hx
  · have z := gQ g hg
    refine ⟨z.1, ⟨z.2.1.1, z.2.1.2.1, kc_ch_cg (P := lP L) (fun x _ => ?_) z.2.1.2.2⟩, z.2.2.1, fun x => ?_⟩
    · show j_up (lP L) p k v x 9 = _
      exact ju_n (by omega)
    · show x ∈ q g ↔ x < np ∧ j_up (rP M) p k v x 0 = nI g ∧ sf x = 0
      rw [e0]; exact z.2.2.2 x
  · have z := gN.2.2 g hg
    refine ⟨?_, ?_, ?_⟩
    · rw [show lP (lsP L p k v) = j_up (lP L) p k v from rfl, kc_by_cg (P := lP L) (fun x _ => ju_n (by omega))]; exact z.1
    · rw [show rP (rsP M p k v) = j_up (rP M) p k v from rfl]; simp only [e0]; exact z.2.1
    · rw [show rP (rsP M p k v) = j_up (rP M) p k v from rfl]; simp only [e0, e1]; exact z.2.2
  · show j_up (lP L) p k v x 10 = _
    rw [ju_n (by omega)]; exact gL x hx
/-- the credit -/
theorem kc_X12 (h : kSt nf np ns c q sf L M) (v : Int32) : kSt nf np ns c q sf (lsX L 12 v) (rsX M 5 v) := by
  obtain ⟨g0, ⟨x1, x2, x3, x4, x5, x6⟩, gF, gV, gP, gS, gT, gQ, gN, gL⟩ := h
  exact ⟨g0, ⟨x1, x2, x3, x4, x5, by show up1 (lX L) 12 v 12 = up1 (rX M) 5 v 5; rw [u1_s, u1_s]⟩, gF, gV, gP, gS, gT, gQ, gN, gL⟩
/-- the class's two own numbers -/
theorem kc_X15 (h : kSt nf np ns c q sf L M) (v : Int32) : kSt nf np ns c q sf (lsX L 15 v) M := h
theorem kc_X16 (h : kSt nf np ns c q sf L M) (v : Int32) : kSt nf np ns c q sf (lsX L 16 v) M := h
/-- the clock -/
theorem kc_X11 (h : kSt nf np ns c q sf L M) : kSt nf np ns (c + 1) q sf (lsX L 11 (lX L 11 + 1)) (rsX M 4 (rX M 4 + 1)) := by
  obtain ⟨g0, ⟨x1, x2, x3, x4, x5, x6⟩, gF, gV, gP, gS, gT, gQ, gN, gL⟩ := h
  refine ⟨g0, ⟨x1, x2, x3, x4, ⟨?_, ?_⟩, x6⟩, gF, gV, gP, gS, gT, gQ, gN, gL⟩
  · show up1 (lX L) 11 (lX L 11 + 1) 11 = _
    rw [u1_s, x5.1, nI_1]
  · show up1 (rX M) 4 (rX M 4 + 1) 4 = _
    rw [u1_s, x5.2, nI_1]
/-- another name for a packet's state -/
theorem kc_sf (h : kSt nf np ns c q sf L M) {p v : Nat} (h0 : sf p = 0 ↔ v = 0) (h2 : sf p = 2 ↔ v = 2) (h3 : sf p = 3 ↔ v = 3) : kSt nf np ns c q (up1 sf p v) L M := by
  obtain ⟨g0, gX, gF, gV, gP, gS, gT, gQ, gN, gL⟩ := h
  have e0 : ∀ x, up1 sf p v x = 0 ↔ sf x = 0 := fun x => by
    by_cases e : x = p
    · rw [e, u1_s]; exact h0.symm
    · rw [u1_n e]
  have e2 : ∀ x, up1 sf p v x = 2 ↔ sf x = 2 := fun x => by
    by_cases e : x = p
    · rw [e, u1_s]; exact h2.symm
    · rw [u1_n e]
  have e3 : ∀ x, up1 sf p v x = 3 ↔ sf x = 3 := fun x => by
    by_cases e : x = p
    · rw [e, u1_s]; exact h3.symm
    · rw [u1_n e]
  refine ⟨g0, gX, gF, gV, gP, gS, gT, fun g hg => ?_, ?_, gL⟩
  · have z := gQ g hg
    exact ⟨z.1, z.2.1, z.2.2.1, fun x => by rw [e0]; exact z.2.2.2 x⟩
  · unfold kN
    simp only [e2, e3]
    exact gN
end KSt

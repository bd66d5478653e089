/-! ===== class and reference leave each other alone ===== -/
section CaW
variable {l : Launch} {D : va_G} {bs : Nat} {E : j_E} {h h' h'' : j_H} {x zb m : Nat} {V : Ps} {A : Nat → Prop}
theorem FG_fq (f : FG A h h') (hA : ∀ c, A c → bs ≤ c) (hz : bs ≤ j_z h) : FQ nF bs h h' := ⟨Nat.le_trans hz f.1, fun b hb => by
  obtain ⟨a1, a2, a3, a4, a5⟩ := f.2 b (by omega) (fun z => absurd (hA b z) (by omega))
  exact ⟨a1, a2, a3, fun _ => ⟨a4, a5⟩⟩⟩
theorem KS_FG (k : KS E bs h) (f : FG A h h') (hA : ∀ c, A c → bs ≤ c) (hz : bs ≤ j_z h) : KS E bs h' := KS_FQ k (FG_fq f hA hz) (fun b e => e.elim) (Nat.le_refl _)
/-- the reference at m and the class at x lie apart -/
def apart (x zb m : Nat) : Prop := (m + 16 ≤ x ∨ x + 51 ≤ m) ∧ m + 16 ≤ zb
theorem mk_sm (k : mk h m) (g : ∀ c, m ≤ c → c < m + 16 → sm h h' c) : mk h' m := by
  have g0 := g m (by omega) (by omega)
  obtain ⟨k0, ⟨p1, q1⟩, ⟨p2, q2⟩, ⟨p3, q3⟩, ⟨p4, q4⟩, ⟨p5, q5⟩, ⟨p6, q6⟩, ⟨p7, q7⟩, ⟨p8, q8⟩, ⟨p9, q9⟩, ⟨p10, q10⟩, ⟨p11, q11⟩, ⟨p12, q12⟩, ⟨p13, q13⟩, ⟨p14, q14⟩, ⟨p15, q15⟩⟩ := k
  exact ⟨by rw [g0.1]; exact k0, ⟨by rw [g0.2.1]; exact p1, by rw [(g (m + 1) (by omega) (by omega)).1]; exact q1⟩, ⟨by rw [g0.2.1]; exact p2, by rw [(g (m + 2) (by omega) (by omega)).1]; exact q2⟩, ⟨by rw [g0.2.1]; exact p3, by rw [(g (m + 3) (by omega) (by omega)).1]; exact q3⟩, ⟨by rw [g0.2.1]; exact p4, by rw [(g (m + 4) (by omega) (by omega)).1]; exact q4⟩, ⟨by rw [g0.2.1]; exact p5, by rw [(g (m + 5) (by omega) (by omega)).1]; exact q5⟩, ⟨by rw [g0.2.1]; exact p6, by rw [(g (m + 6) (by omega) (by omega)).1]; exact q6⟩, ⟨by rw [g0.2.1]; exact p7, by rw [(g (m + 7) (by omega) (by omega)).1]; exact q7⟩, ⟨by rw [g0.2.1]; exact p8, by rw [(g (m + 8) (by omega) (by omega)).1]; exact q8⟩, ⟨by rw [g0.2.1]; exact p9, by rw [(g (m + 9) (by omega) (by omega)).1]; exact q9⟩, ⟨by rw [g0.2.1]; exact p10, by rw [(g (m + 10) (by omega) (by omega)).1]; exact q10⟩, ⟨by rw [g0.2.1]; exact p11, by rw [(g (m + 11) (by omega) (by omega)).1]; exact q11⟩, ⟨by rw [g0.2.1]; exact p12, by rw [(g (m + 12) (by omega) (by omega)).1]; exact q12⟩, ⟨by rw [g0.2.1]; exact p13, by rw [(g (m + 13) (by omega) (by omega)).1]; exact q13⟩, ⟨by rw [g0.2.1]; exact p14, by rw [(g (m + 14) (by omega) (by omega)).1]; exact q14⟩, ⟨by rw [g0.2.1]; exact p15, by rw [(g (m + 15) (by omega) (by omega)).1]; exact q15⟩⟩
theorem MB_FG {M : Rf} (s : MB E m M h) {g0 : j_H} (f : FG (psA g0 x zb) h h') (ap : apart x zb m) (hz : m + 16 ≤ j_z h) (hB : j_bd E h') : MB E m M h' := by
  obtain ⟨ap1, ap2⟩ := ap
  have g : ∀ c, m ≤ c → c < m + 16 → sm h h' c := fun c c1 c2 => f.2 c (by omega) (fun z => by rcases z with z | ⟨z, _⟩ <;> omega)
  exact ⟨mk_sm s.1 g, RG_cp s.2.1 (fun k _ => (g (m + 1) (by omega) (by omega)).2.2.2.1 k), RGV_cp s.2.2.1 (fun k _ => (g (m + 6) (by omega) (by omega)).2.2.2.2 k), hB⟩
theorem HCn_FG (c : HCn E h m) {g0 : j_H} (f : FG (psA g0 x zb) h h') (ap : apart x zb m) (hz : m + 16 ≤ j_z h) : HCn E h' m := by
  obtain ⟨ap1, ap2⟩ := ap
  have g : ∀ c, m ≤ c → c < m + 16 → sm h h' c := fun c c1 c2 => f.2 c (by omega) (fun z => by rcases z with z | ⟨z, _⟩ <;> omega)
  exact ⟨fun j hj => by rw [(g (m + 12) (by omega) (by omega)).2.1]; exact c.1 j hj, fun j h1 h2 => by rw [(g (m + 13) (by omega) (by omega)).2.2.2.1]; exact c.2 j h1 h2⟩
theorem PS_rf (p : PS h x zb V) (f : FG A h h') (hA : ∀ c, A c → (m ≤ c ∧ c < m + 16)) (ap : apart x zb m) : PS h' x zb V := by
  obtain ⟨q1, q2⟩ := PS_z p
  have qu := PS_u p
  have z := f.1
  obtain ⟨ap1, ap2⟩ := ap
  have g : ∀ c, c < j_z h → ¬ (m ≤ c ∧ c < m + 16) → sm h h' c := fun c c1 c2 => f.2 c c1 (fun z => c2 (hA c z))
  have e1 : px h' x (vU V) (vW V) := px_sm (PS_x p) (g x (by omega) (by omega))
  have e2 : j_I h' x 9 = vHs V := ((g x (by omega) (by omega)).2.2.2.1 9).trans (PS_9 p)
  have eC : LkAt h' (x + 8) (vC V) := LkAt_sm (PS_C p) (fun c c1 c2 => g c (by omega) (by omega))
  have eT : LkAt h' (x + 24) (vT V) := LkAt_sm (PS_T p) (fun c c1 c2 => g c (by omega) (by omega))
  have eN : LkAt h' (x + 35) (vN V) := LkAt_sm (PS_N p) (fun c c1 c2 => g c (by omega) (by omega))
  have eS : SK h' (vU V) (vS V) := SK_sm (PS_S p) (fun c c1 c2 => g c (by omega) (by omega))
  have eZ : SK h' (vW V) (vZ V) := SK_sm (PS_W p) (fun c c1 c2 => g c (by omega) (by omega))
  have eH : HI h' (x + 46) zb (vCt V) (vLt V) (vAd V) (vA V) := HI_sm (PS_H p) z (g _ (by omega) (by omega)) (g _ (by omega) (by omega)) (fun c c1 c2 _ => g c c2 (by omega))
  have eB : TX h' (x + 1) (vB V) (vSz V) (vLen V) (vTk V) := TX_sm (PS_B p) (g _ (by omega) (by omega)) (g _ (by omega) (by omega))
  exact ⟨e1, e2, eC, eT, eN, eS, eZ, eH, eB, qu, q1⟩
theorem rdr_FG (r : rdr h x) (f : FG A h h') (hA : ¬ A (x + 48)) (hz : x + 48 < j_z h) : rdr h' x := by
  obtain ⟨a1, a2, a3, a4, a5⟩ := f.2 (x + 48) hz hA
  exact ⟨by rw [a1]; exact r.1, by rw [a2]; exact r.2.1, by rw [a2]; exact r.2.2⟩
end CaW

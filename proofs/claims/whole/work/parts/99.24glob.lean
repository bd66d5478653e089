/-! ===== class and reference in one heap ===== -/
section Glb
variable {l : Launch} {D : va_G} {bs : Nat} {E : j_E} {h h' h'' : j_H} {d : Nat} {Q : j_O → j_H → Prop} {x sc Ls zb y b cap n : Nat} {xs : Nat → Int32} {V V' : Ps} {M : Rf} {U : Nat → Rf} {uc : Nat} {Sn : Option Rf} {w F : List Nat} {A : Nat → Prop} {B : Nat → Int32} {sz : Nat} {ep : Int32}
/-- a builder at y, its bytes at b, the letters w -/
def BB (h : j_H) (y b cap : Nat) (w : List Nat) : Prop := (j_sh h y = some (.inr 1) ∧ j_I h y 1 = 0 ∧ j_R h y 0 = some b ∧ j_sh h b = some (.inl (3, cap)) ∧ j_I h y 3 = nI w.length ∧ w.length ≤ cap ∧ (cap = 16 ∨ cap = 34) ∧ (∀ i, i < cap → (j_I h b i).toInt8.toInt32 = j_I h b i) ∧ y ≠ b ∧ y < j_z h ∧ b < j_z h) ∧ ∀ i, i < w.length → j_I h b i = nI (w.getD i 0)
theorem BB_SX (s : BB h y b cap w) (c1 : j_c h + sb1 cap ≤ E.2.1) (c2 : j_k h + 34 * sb1 cap ≤ E.2.2) : SX E h y b (j_c h + sb1 cap) (j_k h + 34 * sb1 cap) w h := by
  obtain ⟨⟨s1, s2, s3, s4, s5, s6, s7, s8, s9, s10, s11⟩, s12⟩ := s
  exact ⟨b, cap, fun i => j_I h b i, ⟨s1, s2, s3, s4, s5, s6, s7, fun i hi => ⟨rfl, s8 i hi⟩, s9, s10, s11, rfl, rfl, c1, c2⟩, s12, FG_rf, Or.inl rfl⟩
theorem SX_BB {h0 : j_H} {b0 C K : Nat} (s : SX E h0 y b0 C K w h) : ∃ b cap, BB h y b cap w ∧ (b = b0 ∨ j_z h0 ≤ b) ∧ j_c h + sb1 cap = C ∧ j_k h + 34 * sb1 cap = K ∧ FG (sbA y b0) h0 h := by
  obtain ⟨b, cap, f, ⟨s1, s2, s3, s4, s5, s6, s7, s8, s9, s10, s11, s12, s13, -, -⟩, s14, s15, s16⟩ := s
  refine ⟨b, cap, ⟨⟨s1, s2, s3, s4, s5, s6, s7, fun i hi => ?_, s9, s10, s11⟩, fun i hi => ?_⟩, s16, s12, s13, s15⟩
  · rw [(s8 i hi).1]; exact (s8 i hi).2
  · rw [(s8 i (by omega)).1]; exact s14 i hi
theorem BB_sm (s : BB h y b cap w) (hz : j_z h ≤ j_z h') (g1 : sm h h' y) (g2 : sm h h' b) : BB h' y b cap w := by
  obtain ⟨⟨s1, s2, s3, s4, s5, s6, s7, s8, s9, s10, s11⟩, s12⟩ := s
  exact ⟨⟨by rw [g1.1]; exact s1, by rw [g1.2.2.2.1]; exact s2, by rw [g1.2.1]; exact s3, by rw [g2.1]; exact s4, by rw [g1.2.2.2.1]; exact s5, s6, s7, fun i hi => by rw [g2.2.2.2.1]; exact s8 i hi, s9, by omega, by omega⟩, fun i hi => by rw [g2.2.2.2.1]; exact s12 i hi⟩
theorem PS_mid (p : PS h x zb V) (f : FG A h h') (hA : ∀ c, A c → x + 51 ≤ c ∧ c < zb) : PS h' x zb V := by
  obtain ⟨q1, q2⟩ := PS_z p
  have qu := PS_u p
  have z := f.1
  have g : ∀ c, c < j_z h → ¬ (x + 51 ≤ c ∧ c < zb) → sm h h' c := fun c c1 c2 => f.2 c c1 (fun z => c2 (hA c z))
  have e1 : px h' x (vU V) (vW V) := px_sm (PS_x p) (g x (by omega) (by omega))
  have e2 : j_I h' x 9 = vHs V := ((g x (by omega) (by omega)).2.2.2.1 9).trans (PS_9 p)
  have eC : LkAt h' (x + 8) (vC V) := LkAt_sm (PS_C p) (fun c c1 c2 => g c (by omega) (by omega))
  have eT : LkAt h' (x + 24) (vT V) := LkAt_sm (PS_T p) (fun c c1 c2 => g c (by omega) (by omega))
  have eN : LkAt h' (x + 35) (vN V) := LkAt_sm (PS_N p) (fun c c1 c2 => g c (by omega) (by omega))
  have eS : SK h' (vU V) (vS V) := SK_sm (PS_S p) (fun c c1 c2 => g c (by omega) (by omega))
  have eZ : SK h' (vW V) (vZ V) := SK_sm (PS_W p) (fun c c1 c2 => g c (by omega) (by omega))
  have eH : HI h' (x + 46) zb (vCt V) (vLt V) (vAd V) (vA V) := HI_sm (PS_H p) z (g _ (by omega) (by omega)) (g _ (by omega) (by omega)) (fun c c1 c2 _ => g c c2 (by omega))
  have eB : TX h' (x + 1) (vB V) (vSz V) (vLen V) (vTk V) := TX_sm (PS_B p) (g _ (by omega) (by omega)) (g _ (by omega) (by omega))
  exact ⟨e1, e2, eC, eT, eN, eS, eZ, eH, eB, qu, q1⟩
/-- the builder's writes leave the rest of the class alone: no cell of a link is a byte array -/
theorem PS_bld (p : PS h x zb V) (f : FG (sbA (x + 49) b) h h') (hb : b = x + 50 ∨ (zb ≤ b ∧ j_sh h b = some (.inl (3, cap)))) : PS h' x zb V := by
  obtain ⟨q1, q2⟩ := PS_z p
  have qu := PS_u p
  have z := f.1
  have g : ∀ c, c < j_z h → ¬ (c = x + 49 ∨ c = b) → sm h h' c := f.2
  have gl : ∀ c, c < x + 49 → sm h h' c := fun c hc => g c (by omega) (by omega)
  have e1 : px h' x (vU V) (vW V) := px_sm (PS_x p) (gl x (by omega))
  have e2 : j_I h' x 9 = vHs V := ((gl x (by omega)).2.2.2.1 9).trans (PS_9 p)
  have eC : LkAt h' (x + 8) (vC V) := LkAt_sm (PS_C p) (fun c c1 c2 => gl c (by omega))
  have eT : LkAt h' (x + 24) (vT V) := LkAt_sm (PS_T p) (fun c c1 c2 => gl c (by omega))
  have eN : LkAt h' (x + 35) (vN V) := LkAt_sm (PS_N p) (fun c c1 c2 => gl c (by omega))
  have eS : SK h' (vU V) (vS V) := SK_sm (PS_S p) (fun c c1 c2 => gl c (by omega))
  have eZ : SK h' (vW V) (vZ V) := SK_sm (PS_W p) (fun c c1 c2 => gl c (by omega))
  have eH : HI h' (x + 46) zb (vCt V) (vLt V) (vAd V) (vA V) := HI_sm (PS_H p) z (gl _ (by omega)) (gl _ (by omega)) (fun c c1 c2 e => g c c2 (fun q => by
    rcases q with q | q
    · omega
    · obtain ⟨i, b', i1, i2, i3, i4⟩ := e
      have k := ((PS_H p).2.2.2.2 i i1).2 b' i2
      rcases hb with hb | ⟨hb, hs⟩
      · omega
      · exact LkAt_nb k.2.1 i3 i4 cap (by rw [q]; exact hs)))
  have eB : TX h' (x + 1) (vB V) (vSz V) (vLen V) (vTk V) := TX_sm (PS_B p) (gl _ (by omega)) (gl _ (by omega))
  exact ⟨e1, e2, eC, eT, eN, eS, eZ, eH, eB, qu, q1⟩
/-- nothing is kept yet: the links may begin later -/
theorem PS_zb (p : PS h x zb V) (h0 : vAd V = fun _ => none) {zc : Nat} (h1 : zb ≤ zc) (h2 : zc ≤ j_z h) : PS h x zc V := by
  obtain ⟨q1, q2⟩ := PS_z p
  obtain ⟨p1, p2, p3, p4, p5, p6, p7, ⟨i1, i2, i3, i4, i5⟩, p9, p10, p11⟩ := p
  refine ⟨p1, p2, p3, p4, p5, p6, p7, ⟨i1, i2, i3, ⟨by omega, h2⟩, fun i hi => ⟨(i5 i hi).1, fun b hb => ?_⟩⟩, p9, p10, by omega⟩
  rw [h0] at hb
  cases hb
theorem FG_FM {G : Nat → Prop} {m : Nat} (f : FM A m G h h') (hA : ∀ c, A c → m ≤ c ∧ c < m + 16) : FG (fun c => m ≤ c ∧ c < m + 16) h h' := by
  obtain ⟨f1, f2, f3, f4, f5, f6, f7, f8⟩ := f
  exact ⟨by rw [f4]; exact Nat.le_refl _, fun c _ z => ⟨by rw [f1], fun k => by rw [f2], fun k => by rw [f3], fun k => f7 c k (fun q => z (hA c q)) (fun q => z (by omega)), fun k => f8 c k (fun q => z (hA c q))⟩⟩
theorem FG_thr {z : Nat} (hz : j_z h ≤ z) : FG (fun _ => False) h (j_thr h z) := ⟨hz, fun _ _ _ => ⟨rfl, fun _ => rfl, fun _ => rfl, fun _ => rfl, fun _ => rfl⟩⟩
theorem FG_sL {q k : Nat} {v : Int64} : FG (fun c => c = q) h (j_setL h q k v) := ⟨Nat.le_refl _, fun c _ z => ⟨rfl, fun _ => rfl, fun _ => rfl, fun _ => rfl, fun j => by
  show (if c = q ∧ j = k then v else j_L h c j) = _
  rw [if_neg (fun e => z e.1)]⟩⟩
theorem FG_sD {q k : Nat} {v : UInt64} : FG (fun c => c = q) h (j_setD h q k v) := ⟨Nat.le_refl _, fun c _ z => ⟨rfl, fun _ => rfl, fun j => by
  show (if c = q ∧ j = k then v else j_D h c j) = _
  rw [if_neg (fun e => z e.1)], fun _ => rfl, fun _ => rfl⟩⟩
/-- the class's half -/
def CH (x : Nat) (V : Ps) (w : List Nat) (b cap : Nat) (h : j_H) : Prop := PS h x (x + 69) V ∧ rdr h x ∧ BB h (x + 49) b cap w ∧ (b = x + 50 ∨ x + 69 ≤ b)
/-- the reference's half -/
def RH (E : j_E) (m : Nat) (M : Rf) (U : Nat → Rf) (uc : Nat) (Sn : Option Rf) (B : Nat → Int32) (sz : Nat) (ep : Int32) (F : List Nat) (h : j_H) : Prop := MB E m M h ∧ HU h m U uc ∧ HS h m Sn ∧ HT h m B sz ep ∧ HF h m F ∧ HCn E h m
/-- constants, the law's two cells, its script -/
def CO (E : j_E) (bs x sc Ls : Nat) (xs : Nat → Int32) (h : j_H) : Prop := KS E bs h ∧ (DG E h ∧ E.1 200 < bs ∧ E.1 201 < bs) ∧ bs ≤ x ∧ (j_sh h (x + 67) = some (.inl (1, 1)) ∧ j_sh h (x + 68) = some (.inl (2, 1))) ∧ (sc < bs ∧ j_sh h sc = some (.inl (7, Ls)) ∧ ∀ i, i < Ls → j_I h sc i = xs i) ∧ x + 69 ≤ j_z h
theorem CO_fg (c : CO E bs x sc Ls xs h) (f : FG A h h') (hA : ∀ a, A a → x ≤ a) (s1 : j_sh h' (x + 67) = j_sh h (x + 67)) (s2 : j_sh h' (x + 68) = j_sh h (x + 68)) : CO E bs x sc Ls xs h' := by
  obtain ⟨c1, ⟨⟨d1, d2, d3, d4, d5⟩, c3, c4⟩, c5, ⟨c6, c7⟩, ⟨c8, c9, c10⟩, c11⟩ := c
  have hz := f.1
  have g : ∀ a, a < bs → sm h h' a := fun a ha => f.2 a (by omega) (fun z => absurd (hA a z) (by omega))
  refine ⟨KS_FG c1 f (fun a z => Nat.le_trans c5 (hA a z)) (by omega), ⟨⟨by rw [(g _ c3).1]; exact d1, by rw [(g _ c4).1]; exact d2, fun k hk => ⟨by rw [(g _ c3).2.2.2.1]; exact (d3 k hk).1, by rw [(g _ c4).2.2.2.1]; exact (d3 k hk).2⟩, by omega, by omega⟩, c3, c4⟩, c5, ⟨by rw [s1]; exact c6, by rw [s2]; exact c7⟩, ⟨c8, by rw [(g _ c8).1]; exact c9, fun i hi => by rw [(g _ c8).2.2.2.1]; exact c10 i hi⟩, by omega⟩
theorem RH_fg {m : Nat} (r : RH E m M U uc Sn B sz ep F h) (f : FG A h h') (hz : m + 16 ≤ j_z h) (hA : ∀ a, A a → ¬ (m ≤ a ∧ a < m + 16)) (hB : j_bd E h') : RH E m M U uc Sn B sz ep F h' := by
  obtain ⟨r1, r2, r3, r4, r5, r6⟩ := r
  have g : ∀ c, m ≤ c → c < m + 16 → sm h h' c := fun c c1 c2 => f.2 c (by omega) (fun z => hA c z ⟨c1, c2⟩)
  have g0 := g m (by omega) (by omega)
  refine ⟨⟨mk_sm r1.1 g, RG_cp r1.2.1 (fun k _ => (g (m + 1) (by omega) (by omega)).2.2.2.1 k), RGV_cp r1.2.2.1 (fun k _ => (g (m + 6) (by omega) (by omega)).2.2.2.2 k), hB⟩, ⟨by rw [g0.2.2.2.1]; exact r2.1, r2.2.1, fun i hi => RW_eq (r2.2.2 i hi) (fun k _ => (g (m + 5) (by omega) (by omega)).2.2.2.1 _) (fun k _ => (g (m + 9) (by omega) (by omega)).2.2.2.2 _)⟩, ⟨by rw [g0.2.2.2.1]; exact r3.1, fun K e => ⟨RG_cp (r3.2 K e).1 (fun k _ => (g (m + 4) (by omega) (by omega)).2.2.2.1 k), RGV_cp (r3.2 K e).2 (fun k _ => (g (m + 8) (by omega) (by omega)).2.2.2.2 k)⟩⟩, ⟨fun i hi => by rw [(g (m + 11) (by omega) (by omega)).2.2.2.1]; exact r4.1 i hi, ⟨by rw [g0.2.2.2.1]; exact r4.2.1.1, r4.2.1.2⟩, by rw [g0.2.2.2.1]; exact r4.2.2⟩, ⟨by rw [g0.2.2.2.1]; exact r5.1, r5.2.1, fun i hi => by rw [(g (m + 10) (by omega) (by omega)).2.2.2.1]; exact r5.2.2 i hi⟩, ⟨fun j hj => by rw [(g (m + 12) (by omega) (by omega)).2.1]; exact r6.1 j hj, fun j h1 h2 => by rw [(g (m + 13) (by omega) (by omega)).2.2.2.1]; exact r6.2 j h1 h2⟩⟩
theorem CH_fg (c : CH x V w b cap h) (f : FG A h h') (hA : ∀ a, A a → x + 51 ≤ a ∧ a < x + 69) : CH x V w b cap h' := by
  obtain ⟨c1, c2, c3, c4⟩ := c
  have hz := (PS_z c1).2
  have b1 := c3.1.2.2.2.2.2.2.2.2.2.2
  refine ⟨PS_mid c1 f hA, rdr_FG c2 f (fun z => absurd (hA _ z) (by omega)) (by omega), BB_sm c3 f.1 (f.2 _ (by omega) (fun z => absurd (hA _ z) (by omega))) (f.2 _ b1 (fun z => absurd (hA _ z) (by omega))), c4⟩
/-- a call of the class: its half has changed, the rest is as it was -/
theorem st_cls (c : CH x V w b cap h) (r : RH E (x + 51) M U uc Sn B sz ep F h) (o : CO E bs x sc Ls xs h) (f : FG (psA h x (x + 69)) h h') (p : PS h' x (x + 69) V') (hB : j_bd E h') : CH x V' w b cap h' ∧ RH E (x + 51) M U uc Sn B sz ep F h' ∧ CO E bs x sc Ls xs h' := by
  obtain ⟨c1, c2, c3, c4⟩ := c
  have hz := (PS_z c1).2
  have b1 := c3.1.2.2.2.2.2.2.2.2.2.2
  have b4 := c3.1.2.2.2.1
  have no : ∀ a, x + 48 ≤ a → a < x + 69 → ¬ psA h x (x + 69) a := fun a a1 a2 z => by rcases z with z | ⟨z, _⟩ <;> omega
  have nb : ¬ psA h x (x + 69) b := fun z => by
    rcases z with z | ⟨z1, z2⟩
    · omega
    · exact z2 cap b4
  refine ⟨⟨p, rdr_FG c2 f (no _ (by omega) (by omega)) (by omega), BB_sm c3 f.1 (f.2 _ (by omega) (no _ (by omega) (by omega))) (f.2 _ b1 nb), c4⟩, RH_fg r f (by omega) (fun a z q => no a (by omega) (by omega) z) hB, CO_fg o f (fun a z => by rcases z with z | ⟨z, _⟩ <;> omega) (f.2 _ (by omega) (no _ (by omega) (by omega))).1 (f.2 _ (by omega) (no _ (by omega) (by omega))).1⟩
/-- a call of the reference -/
theorem st_ref {G : Nat → Prop} (c : CH x V w b cap h) (o : CO E bs x sc Ls xs h) (f : FM A (x + 51) G h h') (hA : ∀ a, A a → x + 51 ≤ a ∧ a < x + 67) : CH x V w b cap h' ∧ CO E bs x sc Ls xs h' ∧ sm h h' (x + 67) ∧ sm h h' (x + 68) ∧ j_c h' = j_c h ∧ j_k h' = j_k h := by
  have hz := (PS_z c.1).2
  have g := FG_FM f (fun a z => by have := hA a z; omega)
  have g7 := g.2 (x + 67) (by omega) (by omega)
  have g8 := g.2 (x + 68) (by omega) (by omega)
  exact ⟨CH_fg c g (fun a z => by omega), CO_fg o g (fun a z => by omega) g7.1 g8.1, g7, g8, f.2.2.2.2.1, f.2.2.2.2.2.1⟩
/-- the law's two cells have been written -/
def OW (x : Nat) (h h' : j_H) : Prop := FG (fun a => a = x + 67 ∨ a = x + 68) h h' ∧ j_sh h' (x + 67) = j_sh h (x + 67) ∧ j_sh h' (x + 68) = j_sh h (x + 68) ∧ j_c h' = j_c h ∧ j_k h' = j_k h
theorem OW_rf : OW x h h := ⟨FG_rf, rfl, rfl, rfl, rfl⟩
theorem OW_tr (a : OW x h h') (c : OW x h' h'') : OW x h h'' := ⟨FG_tr a.1 c.1, c.2.1.trans a.2.1, c.2.2.1.trans a.2.2.1, c.2.2.2.1.trans a.2.2.2.1, c.2.2.2.2.trans a.2.2.2.2⟩
theorem OW_L {k : Nat} {v : Int64} : OW x h (j_setL h (x + 67) k v) := ⟨FG_mono FG_sL (fun a _ z => Or.inl z), rfl, rfl, rfl, rfl⟩
theorem OW_D {k : Nat} {v : UInt64} : OW x h (j_setD h (x + 68) k v) := ⟨FG_mono FG_sD (fun a _ z => Or.inr z), rfl, rfl, rfl, rfl⟩
theorem st_out (c : CH x V w b cap h) (r : RH E (x + 51) M U uc Sn B sz ep F h) (o : CO E bs x sc Ls xs h) (f : OW x h h') : CH x V w b cap h' ∧ RH E (x + 51) M U uc Sn B sz ep F h' ∧ CO E bs x sc Ls xs h' := by
  obtain ⟨f1, f2, f3, f4, f5⟩ := f
  have hz := (PS_z c.1).2
  exact ⟨CH_fg c f1 (fun a z => by omega), RH_fg r f1 (by omega) (fun a z => by omega) ⟨by rw [f4]; exact r.1.2.2.2.1, by rw [f5]; exact r.1.2.2.2.2⟩, CO_fg o f1 (fun a z => by omega) f2 f3⟩
theorem st_thr {z : Nat} (c : CH x V w b cap h) (r : RH E (x + 51) M U uc Sn B sz ep F h) (o : CO E bs x sc Ls xs h) (hz : j_z h ≤ z) (hr : rm E h) : CH x V w b cap (j_thr h z) ∧ RH E (x + 51) M U uc Sn B sz ep F (j_thr h z) ∧ CO E bs x sc Ls xs (j_thr h z) := by
  have f := FG_thr hz
  have h2 := (PS_z c.1).2
  exact ⟨CH_fg c f (fun a z => z.elim), RH_fg r f (by omega) (fun a z => z.elim) hr, CO_fg o f (fun a z => z.elim) rfl rfl⟩
/-- room for n calls more -/
def RM (E : j_E) (h : j_H) (ad : Nat → Option Nat) (cap n : Nat) : Prop := j_c h + 11 * nnF ad 10 + sb1 cap + 203 * n ≤ E.2.1 ∧ j_k h + 3944 * nnF ad 10 + 34 * sb1 cap + 410 * n ≤ E.2.2
/-- between two calls of the law: n calls are left -/
def JJ (E : j_E) (bs x sc Ls : Nat) (xs : Nat → Int32) (n : Nat) (h : j_H) : Prop := ∃ V M U uc Sn w b cap, CH x V w b cap h ∧ RH E (x + 51) M U uc Sn (vB V) (vSz V) (tkA (vTk V)) w h ∧ CO E bs x sc Ls xs h ∧ kAm V M U uc Sn ∧ ((∀ i, i < w.length → w.getD i 0 < 128) ∧ w.length ≤ 34) ∧ RM E h (vAd V) cap n
/-- the reference's answer is v (P v), it has told c, and all is as it was between two calls -/
def AQ (E : j_E) (bs x sc Ls : Nat) (xs : Nat → Int32) (n : Nat) (c : Int32) (P : Value → Prop) (h : j_H) : j_O → j_H → Prop := fun o h' => ∃ v, o = .inl (some v) ∧ P v ∧ j_I h' (x + 51) 10 = c ∧ JJ E bs x sc Ls xs n h' ∧ sm h h' (x + 67) ∧ sm h h' (x + 68)
/-- the class has answered; now the reference's method no. km will -/
def AN (l : Launch) (D : va_G) (E : j_E) (bs x sc Ls : Nat) (xs : Nat → Int32) (n d km : Nat) (as : List Value) (c : Int32) (P : Value → Prop) (h : j_H) : Prop := (j_sh h (x + 67) = some (.inl (1, 1)) ∧ j_sh h (x + 68) = some (.inl (2, 1))) ∧ (j_bd E h ∧ CO E bs x sc Ls xs h) ∧ ∀ h2, OW x h h2 → j_Met l D bs E d km (.ref (x + 51) :: as) h2 (AQ E bs x sc Ls xs n c P h2)
theorem AN_ow {km : Nat} {as : List Value} {c : Int32} {P : Value → Prop} (a : AN l D E bs x sc Ls xs n d km as c P h) (f : OW x h h') : AN l D E bs x sc Ls xs n d km as c P h' := ⟨⟨by rw [f.2.1]; exact a.1.1, by rw [f.2.2.1]; exact a.1.2⟩, ⟨⟨by rw [f.2.2.2.1]; exact a.2.1.1.1, by rw [f.2.2.2.2]; exact a.2.1.1.2⟩, CO_fg a.2.1.2 f.1 (fun q z => by omega) f.2.1 f.2.2.1⟩, fun h2 g => a.2.2 h2 (OW_tr f g)⟩
/-- the reference only looks -/
theorem an_look {km : Nat} {as : List Value} {c : Int32} {P : Value → Prop} (g1 : CH x V w b cap h) (g2 : RH E (x + 51) M U uc Sn (vB V) (vSz V) (tkA (vTk V)) w h) (g3 : CO E bs x sc Ls xs h) (k : kAm V M U uc Sn) (hw : (∀ i, i < w.length → w.getD i 0 < 128) ∧ w.length ≤ 34) (r : RM E h (vAd V) cap n)
    (H : ∀ (h2 : j_H) (Q : j_O → j_H → Prop), RH E (x + 51) M U uc Sn (vB V) (vSz V) (tkA (vTk V)) w h2 → CO E bs x sc Ls xs h2 → (∀ v, P v → Q (.inl (some v)) (j_setI h2 (x + 51) 10 c)) → j_Met l D bs E d km (.ref (x + 51) :: as) h2 Q) : AN l D E bs x sc Ls xs n d km as c P h := by
  refine ⟨g3.2.2.2.1, ⟨g2.1.2.2.2, g3⟩, fun h2 f => ?_⟩
  obtain ⟨c2, r2, o2⟩ := st_out g1 g2 g3 f
  refine H h2 _ r2 o2 (fun v hv => ?_)
  have fm : FM (fun _ => False) (x + 51) (fun k => k = 10) h2 (j_setI h2 (x + 51) 10 c) := FM_I FM_rf rfl
  obtain ⟨c3, o3, e7, e8, -, -⟩ := st_ref c2 o2 fm (fun a z => z.elim)
  obtain ⟨q1, q2, q3, q4, q5, q6⟩ := r2
  refine ⟨v, rfl, hv, jh_Is _ _ _ _, ⟨V, M, U, uc, Sn, w, b, cap, c3, ⟨MB_I q1 c, HU_I q2 (by decide), HS_FM q3 fm id (by decide) id id, HT_FM q4 fm id id (by decide) (by decide), HF_FM q5 fm id id (by decide), ?_⟩, o3, k, hw, ?_⟩, e7, e8⟩
  · exact ⟨q6.1, fun j h1 h3 => by rw [jh_In (by omega)]; exact q6.2 j h1 h3⟩
  · exact ⟨by show j_c h2 + _ + _ + _ ≤ _; rw [f.2.2.2.1]; exact r.1, by show j_k h2 + _ + _ + _ ≤ _; rw [f.2.2.2.2]; exact r.2⟩
/-- the reference changes its half -/
theorem an_step {km : Nat} {as : List Value} {c : Int32} {P : Value → Prop} (g1 : CH x V w b cap h) (g2 : RH E (x + 51) M U uc Sn B sz ep F h) (g3 : CO E bs x sc Ls xs h) (hw : (∀ i, i < w.length → w.getD i 0 < 128) ∧ w.length ≤ 34) (r : RM E h (vAd V) cap n)
    (H : ∀ (h2 : j_H) (Q : j_O → j_H → Prop), RH E (x + 51) M U uc Sn B sz ep F h2 → CO E bs x sc Ls xs h2 → (∀ v h3 A G M' U' uc' Sn', P v → j_I h3 (x + 51) 10 = c → FM A (x + 51) G h2 h3 → (∀ a, A a → x + 51 ≤ a ∧ a < x + 67) → RH E (x + 51) M' U' uc' Sn' (vB V) (vSz V) (tkA (vTk V)) w h3 → kAm V M' U' uc' Sn' → Q (.inl (some v)) h3) → j_Met l D bs E d km (.ref (x + 51) :: as) h2 Q) : AN l D E bs x sc Ls xs n d km as c P h := by
  refine ⟨g3.2.2.2.1, ⟨g2.1.2.2.2, g3⟩, fun h2 f => ?_⟩
  obtain ⟨c2, r2, o2⟩ := st_out g1 g2 g3 f
  refine H h2 _ r2 o2 (fun v h3 A G M' U' uc' Sn' hv h10 fm hA r3 k3 => ?_)
  obtain ⟨c3, o3, e7, e8, ec, ek⟩ := st_ref c2 o2 fm hA
  refine ⟨v, rfl, hv, h10, ⟨V, M', U', uc', Sn', w, b, cap, c3, r3, o3, k3, hw, ?_⟩, e7, e8⟩
  exact ⟨by rw [ec, f.2.2.2.1]; exact r.1, by rw [ek, f.2.2.2.2]; exact r.2⟩
theorem RM_less (r : RM E h (vAd V) cap (n + 1)) : RM E h (vAd V) cap n ∧ rm E h := ⟨⟨by have := r.1; omega, by have := r.2; omega⟩, by have := r.1; omega, by have := r.2; omega⟩
theorem RM_thr {z : Nat} (r : RM E h (vAd V) cap (n + 1)) : RM E (j_thr h z) (vAd V) cap n := ⟨by show j_c h + 1 + _ + _ + _ ≤ _; have := r.1; omega, by show j_k h + 6 + _ + _ + _ ≤ _; have := r.2; omega⟩
theorem RM_same {ad : Nat → Option Nat} (r : RM E h ad cap (n + 1)) (e1 : j_c h' = j_c h) (e2 : j_k h' = j_k h) : RM E h' ad cap n := ⟨by have := r.1; omega, by have := r.2; omega⟩
end Glb

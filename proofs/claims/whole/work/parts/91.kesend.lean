section KSend
variable {nf np ns c : Nat} {q : Nat → List Nat} {sf : Nat → Nat} {L : Lnk} {M : Rf}
theorem kc_send0 {L0 : Lnk} {M0 R : Rf} {f p : Nat} (h3 : kSt nf np ns c q sf L0 (rsX M0 5 (rX M0 5 - rP M0 p 1))) (hs : ns < 300) (hf : f < nf) (hp : p < np)
    (m1 : rF R = j_up (rF M0) f 8 (rF M0 f 8 + 1)) (m2 : rP R = j_up (j_up (rP M0) p 3 1) p 4 (rP M0 p 4 + 1)) (m3 : rV R = up1 (rV M0) f (rV M0 f + (rP M0 p 1).toInt64 * 720720 / (rF M0 f 0).toInt64)) (m4 : rC R = up1 (rC M0) ns ((rP M0 p 1).toInt64 * 720720 / (rF M0 f 0).toInt64)) (m5 : rQ R = rQ M0) (m6 : ∀ m k, m ≠ ns → rS R m k = rS M0 m k) (m7 : rS R ns 0 = nI p) (m8 : rS R ns 1 = rX M0 4) (m9 : rS R ns 2 = kc_at (rF M0 f 4) (rF M0 f 8 + 1) (rF M0 f 5) (rF M0 f 6) (rX M0 4) (rX M0 7)) (m10 : rS R ns 3 = 0) (m11 : rS R ns 4 = 1) (m12 : ∀ k, k ≠ 3 → k ≠ 5 → rX R k = rX M0 k) (m13 : rX R 3 = rX M0 3 + 1) (m14 : rX R 5 = rX M0 5 - rP M0 p 1) : kSt nf np (ns + 1) c q sf (lSend L0 ns f p) R := by
  obtain ⟨l1, l2, l3, ⟨l4, l5, l6, l7, l8, l9, l10⟩, l11, l12, _⟩ := kc_lSend L0 ns f p
  generalize lSend L0 ns f p = R' at l1 l2 l3 l4 l5 l6 l7 l8 l9 l10 l11 l12 ⊢
  have eF : ∀ k, k < 14 → lF L0 f (kc_fc k) = rF M0 f k := fun k hk => h3.2.2.1 f k hf hk
  have eP : ∀ k, k < 9 → lP L0 p k = rP M0 p k := fun k hk => h3.2.2.2.2.1 p k hp hk
  have eV : lV L0 f = rV M0 f := h3.2.2.2.1 f hf
  have eX := h3.2.1
  have e10 : lX L0 10 = nI ns := eX.2.2.2.1.1
  have e3 : rX M0 3 = nI ns := eX.2.2.2.1.2
  have e11 : lX L0 11 = rX M0 4 := by rw [eX.2.2.2.2.1.1]; exact eX.2.2.2.2.1.2.symm
  have e7 : lX L0 7 = rX M0 7 := eX.2.1.2.1
  obtain ⟨⟨w, w1, w2, w3⟩, _⟩ := h3.2.2.2.2.2.2.1.2.2 f hf
  have w3' : rF M0 f 0 = nI w := w3
  obtain ⟨_, z, z1, z2, z3⟩ := h3.2.2.2.2.2.2.1.1 p hp
  have z3' : rP M0 p 1 = nI z := z3
  have ech : (lP L0 p 1 * lUnit L0 f).toInt64 = (rP M0 p 1).toInt64 * 720720 / (rF M0 f 0).toInt64 := by
    have y1 : lP L0 p 1 = nI z := (eP 1 (by omega)).trans z3'
    have y2 : lF L0 f 0 = nI w := (eF 0 (by omega)).trans w3'
    have y3 : lUnit L0 f = nI (720720 / w) := by
      unfold lUnit
      rw [y2]; exact kc_unit w1 w2
    rw [y1, y3, w3', z3']
    exact kc_charge z2 w1 w2
  have e9 : lF L0 f 9 = rF M0 f 8 := eF 8 (by omega)
  have e4 : lP L0 p 4 = rP M0 p 4 := eP 4 (by omega)
  have f4 : lF L0 f 4 = rF M0 f 4 := eF 4 (by omega)
  have f5 : lF L0 f 5 = rF M0 f 5 := eF 5 (by omega)
  have f6 : lF L0 f 6 = rF M0 f 6 := eF 6 (by omega)
  have l10' : (lS R' ns 5).toInt64 = (rP M0 p 1).toInt64 * 720720 / (rF M0 f 0).toInt64 := by rw [l10, ech]
  rw [ech] at l3
  generalize (rP M0 p 1).toInt64 * 720720 / (rF M0 f 0).toInt64 = ch at m3 m4 l3 l10'
  clear ech
  have h4 := kc_V (kc_F16 (kc_F (kc_P (kc_P h3 (p := p) (k := 3) (by omega) (by omega) 1) (p := p) (k := 4) (by omega) (by omega) (rP M0 p 4 + 1)) (f := f) (k := 8) (by omega) (by omega) (rF M0 f 8 + 1)) (f := f) (lF L0 f 16 + 1)) (f := f) (rV M0 f + ch)
  refine kc_push h4 hs (p := p) hp (fun k k1 k2 => l11 k k1 k2) (by rw [l12, nI_1]) (fun k k1 => ?_) (by rw [m13, e3, nI_1]) ?_ ?_ ?_ m1 m3 m2 m5 (fun m k hm => l4 m k hm) (fun m k hm => m6 m k hm) (fun m hm => ?_) (fun k hk => ?_) ?_ m7
  · show rX R k = up1 (rX M0) 5 (rX M0 5 - rP M0 p 1) k
    by_cases e : k = 5
    · rw [e, u1_s, m14]
    · rw [u1_n e, m12 k k1 e]
  · rw [l1, e9]; rfl
  · rw [l3, eV]; rfl
  · rw [l2, e4]; rfl
  · rw [m4, u1_n hm]; rfl
  · match k, hk with
    | 0, _ => rw [l5, m7]
    | 1, _ => rw [l6, m8, e11]
    | 2, _ => rw [l7, m9, e9, f4, f5, f6, e11, e7]
    | 3, _ => rw [l8, m10]
    | 4, _ => rw [l9, m11]
  · rw [l10', m4, u1_s]
theorem kc_send (h : kSt nf np ns c q sf L M) (hz : kZ np sf M) (hs : ns < 300) {f p : Nat} (hf : f < nf) (hp : p < np) (hpf : rP M p 0 = nI f) (h0 : sf p = 0) :
    ∃ q' sf', kSt nf np (ns + 1) c q' sf' (lSend1 L ns f p) (rSend M f p ns) ∧ kZ np sf' (rSend M f p ns) := by
  have h2 := kc_leave (kc_X12 h (lX L 12 - lP L p 1)) hf hp hpf h0
  rw [kc_takeX] at h2
  obtain ⟨Q', w0, eM0⟩ := kc_rTake M f p
  have ePM : rP (rTake M f p) = rP M := by rw [eM0]; rfl
  have eXM : rX (rTake M f p) = rX M := by rw [eM0]; rfl
  have ev : lX L 12 - lP L p 1 = rX (rTake M f p) 5 - rP (rTake M f p) p 1 := by
    rw [ePM, eXM, h.2.1.2.2.2.2.2, h.2.2.2.2.1 p 1 hp (by omega)]
  obtain ⟨M0, eM, m1, m2, m3, m4, m5, _, _, ⟨m6, m7, m8, m9, m10, m11⟩, m12, m13, m14⟩ := kc_rSend M f p ns
  have e1 : lSend1 L ns f p = lSend (lLeave (lsX L 12 (lX L 12 - lP L p 1)) f p) ns f p := rfl
  rw [e1]
  rw [← eM] at h2 ePM ev
  have h2' : kSt nf np ns c (fun g => if g = f then (q f).filter (fun v => decide (v ≠ p)) else q g) (up1 sf p 9) (lLeave (lsX L 12 (lX L 12 - lP L p 1)) f p) (rsX M0 5 (rX M0 5 - rP M0 p 1)) := by
    rw [← ev]; exact h2
  generalize lLeave (lsX L 12 (lX L 12 - lP L p 1)) f p = L0 at h2' ⊢
  have h3 : kSt nf np ns c _ (up1 (up1 sf p 9) p 1) L0 (rsX M0 5 (rX M0 5 - rP M0 p 1)) := kc_sf h2' (by rw [u1_s]; omega) (by rw [u1_s]; omega) (by rw [u1_s]; omega)
  refine ⟨_, _, kc_send0 h3 hs hf hp m1 m2 m3 m4 m5 m6 m7 m8 m9 m10 m11 m12 m13 m14, fun x hx => ?_⟩
  rw [m2, ju_n (by omega)]
  by_cases e : x = p
  · rw [e, ju_s, u1_s]; exact ⟨rfl, by omega⟩
  · rw [ju_n (by omega), u1_n e, u1_n e, ePM]; exact hz x hx
end KSend

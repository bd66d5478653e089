section KSend
variable {nf np ns c : Nat} {q : Nat → List Nat} {sf : Nat → Nat} {L : Lnk} {M : Rf}
theorem kc_takeLX (f : Nat) (p v : Int32) : ∀ (k i j : Nat) (M : Rf), rTakeL f p k i j (rsX M 5 v) = (rsX (rTakeL f p k i j M).1 5 v, (rTakeL f p k i j M).2) := by
  intro k
  induction k with
  | zero => intro i j M; rfl
  | succ k ih =>
    intro i j M
    show (if rQ M f i = p then rTakeL f p k (i + 1) j (rsX M 5 v) else rTakeL f p k (i + 1) (j + 1) (rsX (rsQ M f j (rQ M f i)) 5 v)) = (rsX (if rQ M f i = p then rTakeL f p k (i + 1) j M else rTakeL f p k (i + 1) (j + 1) (rsQ M f j (rQ M f i))).1 5 v, (if rQ M f i = p then rTakeL f p k (i + 1) j M else rTakeL f p k (i + 1) (j + 1) (rsQ M f j (rQ M f i))).2)
    split
    · exact ih _ _ _
    · exact ih _ _ _
theorem kc_takeX (M : Rf) (v : Int32) (f p : Nat) : rTake (rsX M 5 v) f p = rsX (rTake M f p) 5 v := by
  unfold rTake
  rw [show rF (rsX M 5 v) = rF M from rfl, kc_takeLX]; rfl
theorem kc_push (h : kSt nf np ns c q sf L M) (hs : ns < 300) {p : Nat} (hp : p < np) {L' : Lnk} {M' : Rf}
    (x1 : ∀ k, k ≠ 10 → k ≠ 16 → lX L' k = lX L k) (x2 : lX L' 10 = nI (ns + 1)) (y1 : ∀ k, k ≠ 3 → rX M' k = rX M k) (y2 : rX M' 3 = nI (ns + 1)) (eF : lF L' = lF L) (eV : lV L' = lV L) (eP : lP L' = j_up (lP L) p 10 (nI ns)) (rf : rF M' = rF M) (rv : rV M' = rV M) (rp : rP M' = rP M) (rq : rQ M' = rQ M)
    (s1 : ∀ m k, m ≠ ns → lS L' m k = lS L m k) (t1 : ∀ m k, m ≠ ns → rS M' m k = rS M m k) (c1 : ∀ m, m ≠ ns → rC M' m = rC M m) (s2 : ∀ k, k < 5 → lS L' ns k = rS M' ns k) (s3 : (lS L' ns 5).toInt64 = rC M' ns) (t0 : rS M' ns 0 = nI p) : kSt nf np (ns + 1) c q sf L' M' := by
  obtain ⟨g0, ⟨a1, a2, a3, a4, a5, a6⟩, gF, gV, gP, gS, ⟨b1, b2, b3⟩, gQ, gN, gL⟩ := h
  refine ⟨by omega, ⟨?_, ?_, ?_, ⟨x2, y2⟩, ?_, ?_⟩, ?_, ?_, fun x k hx hk => ?_, fun m hm => ?_, ⟨?_, fun m hm => ?_, ?_⟩, fun g hg => ?_, ⟨?_, ?_, fun g hg => ?_⟩, fun x hx => ?_⟩
  · rw [x1 5 (by omega) (by omega), y1 0 (by omega)]; exact a1
  · rw [x1 6 (by omega) (by omega), x1 7 (by omega) (by omega), x1 8 (by omega) (by omega), y1 6 (by omega), y1 7 (by omega), y1 8 (by omega)]; exact a2
  · rw [x1 9 (by omega) (by omega), y1 2 (by omega)]; exact a3
  · rw [x1 11 (by omega) (by omega), y1 4 (by omega)]; exact a5
  · rw [x1 12 (by omega) (by omega), y1 5 (by omega)]; exact a6
  · rw [eF, rf]; exact gF
  · rw [eV, rv]; exact gV
  · rw [eP, rp, ju_n (by omega)]; exact gP x k hx hk
  · by_cases e : m = ns
    · rw [e]; exact ⟨s2, s3⟩
    · refine ⟨fun k hk => ?_, ?_⟩
      · rw [s1 m k e, t1 m k e]; exact (gS m (by omega)).1 k hk
      · rw [s1 m 5 e, c1 m e]; exact (gS m (by omega)).2
  · rw [rp]; exact b1
  · by_cases e : m = ns
    · rw [e]; exact ⟨p, hp, t0⟩
    · rw [t1 m 0 e]; exact b2 m (by omega)
  · rw [rf]; exact b3
  · have z := gQ g hg
    rw [rf, rp, rq, eF]
    refine ⟨z.1, ⟨z.2.1.1, z.2.1.2.1, kc_ch_cg (P := lP L) (fun x _ => ?_) z.2.1.2.2⟩, z.2.2⟩
    rw [eP, ju_n (by omega)]
  · rw [x1 13 (by omega) (by omega)]; exact gN.1
  · rw [x1 14 (by omega) (by omega)]; exact gN.2.1
  · have z := gN.2.2 g hg
    rw [eF, rf, rp, kc_by_cg (P := lP L) (fun x _ => by rw [eP, ju_n (by omega)])]
    exact z
  · rw [eP]
    show _ = (if rS M' ns 0 = nI x then nI ns else kc_lat (rS M') x ns)
    rw [t0]
    by_cases e : x = p
    · rw [e, ju_s, if_pos rfl]
    · rw [ju_n (by omega), if_neg (kc_nf (by omega) (by omega) (Ne.symm e)), kc_lat_cg (T := rS M) (fun m hm => t1 m 0 (by omega))]
      exact gL x hx
end KSend

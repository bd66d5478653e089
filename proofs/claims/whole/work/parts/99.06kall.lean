/-! ===== class and reference held together: all of the state ===== -/
section KAl
variable {V : Ps} {M M' : Rf} {U : Nat → Rf} {uc : Nat} {Sn : Option Rf} {S : Sup} {C C' Z : Lk4} {np ns c : Nat}
def kLk (S : Sup) (C : Lk4) (M : Rf) : Prop := (∃ np c, c ≤ 1000000 ∧ kCp (sN S) np c C M) ∧ kRu S M
def kAl (V : Ps) (M : Rf) (U : Nat → Rf) (uc : Nat) (Sn : Option Rf) : Prop := kLk (vS V) (vC V) M ∧ (vCt V = uc ∧ vLt V < 10 ∧ uc ≤ 10) ∧ (∀ j, j < uc → (∃ b, vAd V ((vLt V + 10 - j) % 10) = some b) ∧ kLk (vS V) (vA V ((vLt V + 10 - j) % 10)) (U (uc - 1 - j))) ∧ vHs V = (if Sn.isSome = true then 1 else 0) ∧ ∀ K, Sn = some K → kLk (vS V) (vN V) K
theorem kl_N (h : kLk S C M) : ∃ np ns c, c ≤ 1000000 ∧ LkN C (sN S) np ns ∧ kCp (sN S) np c C M ∧ kI (sN S) np ns c C.1 M ∧ kO (sN S) ns C.1 M ∧ kD ns c C.1 M ∧ lX C.1 11 = nI c ∧ rX M 0 = nI (sN S) ∧ rX M 2 = nI np ∧ rX M 3 = nI ns ∧ rX M 4 = nI c := by
  obtain ⟨⟨np, c, hc, hk⟩, _⟩ := h
  obtain ⟨⟨ns, i1, i2, i3⟩, ⟨r1, r2⟩, _⟩ := id hk
  obtain ⟨q, sf, hst, hz⟩ := id i1
  have hb := hst.1
  obtain ⟨x1, x2, x3, x4, x5, x6⟩ := hst.2.1
  exact ⟨np, ns, c, hc, ⟨hb.1, hb.2.1, hb.2.2, by rw [r1]; omega, x1.1, x3.1, x4.1⟩, hk, i1, i2, i3, x5.1, x1.2, x3.2, x4.2, x5.2⟩
theorem kl_same {np' ns' : Nat} (h : LkN C (sN S) np ns) (h' : LkN C (sN S) np' ns') : np' = np ∧ ns' = ns := by
  obtain ⟨a1, a2, a3, a4, a5, a6, a7⟩ := h
  obtain ⟨b1, b2, b3, b4, b5, b6, b7⟩ := h'
  exact ⟨(nI_eq (by omega) (by omega)).mp (b6.symm.trans a6), (nI_eq (by omega) (by omega)).mp (b7.symm.trans a7)⟩
theorem kl_cp (h : kLk S C M) (hN : LkN C (sN S) np ns) (Z : Lk4) : kLk S (lkCp Z C (sN S) np ns) M := by
  obtain ⟨np', ns', c, hc, hN', ⟨h1, h2, h3⟩, _⟩ := kl_N h
  obtain ⟨e1, e2⟩ := kl_same hN hN'
  subst e1 e2
  refine ⟨⟨np', c, hc, kc_fuC h1 hN.2.2.2.2.2.2 hN.2.2.1 Z.1, kr_copy h2, h3⟩, h.2⟩
theorem kl_C (h : kAl V M U uc Sn) (hC : kLk (vS V) C' M') : kAl (psC V C') M' U uc Sn := ⟨hC, h.2⟩
theorem kl_T (h : kAl V M U uc Sn) : kAl (psT V C') M U uc Sn := h
theorem kl_B (h : kAl V M U uc Sn) {B : Nat → Int32} {sz len : Nat} {tk : Tk} : kAl (psB V B sz len tk) M U uc Sn := h
theorem kl_Z (h : kAl V M U uc Sn) {B : Nat → Int32} {sz len : Nat} {tk : Tk} {Y : Sup} : kAl (psZ V B sz len tk Y) M U uc Sn := h
/-- an operation is remembered -/
theorem kl_keep (h : kAl V M U uc Sn) (hN : LkN (vC V) (sN (vS V)) np ns) (b : Nat) (Z : Lk4) : kAl (psK V b Z (sN (vS V)) np ns) M (rRem U uc M) (min (uc + 1) 10) Sn := by
  obtain ⟨h1, ⟨h2, h3, h3'⟩, h4, h5, h6⟩ := h
  have hnx : nxt (vLt V) = (vLt V + 1) % 10 := by
    unfold nxt
    split <;> omega
  refine ⟨h1, ⟨?_, ?_, by omega⟩, fun j hj => ?_, h5, h6⟩
  · show min (vCt V + 1) 10 = _
    rw [h2]
  · show nxt (vLt V) < 10
    omega
  · show (∃ b', (if (nxt (vLt V) + 10 - j) % 10 = nxt (vLt V) then some b else vAd V ((nxt (vLt V) + 10 - j) % 10)) = some b') ∧ kLk (vS V) (if (nxt (vLt V) + 10 - j) % 10 = nxt (vLt V) then lkCp Z (vC V) (sN (vS V)) np ns else vA V ((nxt (vLt V) + 10 - j) % 10)) (rRem U uc M (min (uc + 1) 10 - 1 - j))
    rw [hnx]
    cases j with
    | zero =>
      rw [if_pos (by omega), if_pos (by omega)]
      refine ⟨⟨b, rfl⟩, ?_⟩
      have e : rRem U uc M (min (uc + 1) 10 - 1 - 0) = M := by
        unfold rRem
        by_cases g : uc = 10
        · rw [if_pos g]
          show (if min (uc + 1) 10 - 1 - 0 = 9 then M else _) = M
          rw [if_pos (by omega)]
        · rw [if_neg g]
          show (if min (uc + 1) 10 - 1 - 0 = uc then M else _) = M
          rw [if_pos (by omega)]
      rw [e]
      exact kl_cp h1 hN Z
    | succ j =>
      rw [if_neg (by omega), if_neg (by omega), show ((vLt V + 1) % 10 + 10 - (j + 1)) % 10 = (vLt V + 10 - j) % 10 by omega]
      have e : rRem U uc M (min (uc + 1) 10 - 1 - (j + 1)) = U (uc - 1 - j) := by
        unfold rRem
        by_cases g : uc = 10
        · rw [if_pos g]
          show (if min (uc + 1) 10 - 1 - (j + 1) = 9 then M else U (min (uc + 1) 10 - 1 - (j + 1) + 1)) = _
          rw [if_neg (by omega), show min (uc + 1) 10 - 1 - (j + 1) + 1 = uc - 1 - j by omega]
        · rw [if_neg g]
          show (if min (uc + 1) 10 - 1 - (j + 1) = uc then M else U (min (uc + 1) 10 - 1 - (j + 1))) = _
          rw [if_neg (by omega), show min (uc + 1) 10 - 1 - (j + 1) = uc - 1 - j by omega]
      rw [e]
      exact h4 j (by omega)
/-- an operation is taken back -/
theorem kl_undo (h : kAl V M U uc Sn) {n : Nat} (e : uc = n + 1) : ∃ np ns, (∃ b, vAd V (vLt V) = some b) ∧ LkN (vA V (vLt V)) (sN (vS V)) np ns ∧ kAl (psH (psC V (lkCp (vC V) (vA V (vLt V)) (sN (vS V)) np ns)) (vCt V - 1) (prv (vLt V)) (vAd V) (vA V)) (U n) U n Sn := by
  obtain ⟨h1, ⟨h2, h3, h3'⟩, h4, h5, h6⟩ := h
  obtain ⟨a1, a2⟩ := h4 0 (by omega)
  rw [show (vLt V + 10 - 0) % 10 = vLt V by omega] at a1 a2
  rw [show uc - 1 - 0 = n by omega] at a2
  obtain ⟨np, ns, c, _, hN, _⟩ := kl_N a2
  have hpv : prv (vLt V) = (vLt V + 9) % 10 := by
    unfold prv
    split <;> omega
  refine ⟨np, ns, a1, hN, kl_cp a2 hN (vC V), ⟨?_, ?_, by omega⟩, fun j hj => ?_, h5, h6⟩
  · show vCt V - 1 = n
    omega
  · show prv (vLt V) < 10
    omega
  · show (∃ b', vAd V ((prv (vLt V) + 10 - j) % 10) = some b') ∧ kLk (vS V) (vA V ((prv (vLt V) + 10 - j) % 10)) (U (n - 1 - j))
    have z := h4 (j + 1) (by omega)
    rw [hpv, show ((vLt V + 9) % 10 + 10 - j) % 10 = (vLt V + 10 - (j + 1)) % 10 by omega, show n - 1 - j = uc - 1 - (j + 1) by omega]
    exact z
/-- a snapshot -/
theorem kl_save (h : kAl V M U uc Sn) (hN : LkN (vC V) (sN (vS V)) np ns) : kAl (psI (psN V (lkCp (vN V) (vC V) (sN (vS V)) np ns)) 1) M U uc (some M) := by
  obtain ⟨h1, h2, h4, h5, h6⟩ := h
  refine ⟨h1, h2, h4, rfl, fun K e => ?_⟩
  have : M = K := Option.some.inj e
  subst this
  exact kl_cp h1 hN (vN V)
theorem kl_rest (h : kAl V M U uc Sn) {K : Rf} (e : Sn = some K) : ∃ np ns, LkN (vN V) (sN (vS V)) np ns ∧ kAl (psH (psC V (lkCp (vC V) (vN V) (sN (vS V)) np ns)) 0 (vLt V) (vAd V) (vA V)) K U 0 Sn := by
  obtain ⟨h1, ⟨h2, h3, h3'⟩, h4, h5, h6⟩ := h
  obtain ⟨np, ns, c, _, hN, _⟩ := kl_N (h6 K e)
  exact ⟨np, ns, hN, kl_cp (h6 K e) hN (vC V), ⟨rfl, h3, by omega⟩, fun j hj => absurd hj (by omega), h5, h6⟩
/-- a text is loaded -/
theorem kl_load {L : Lnk} {R : Nat → Nat → Int32} {Y : Sup} (hS : kSo Y) (hU : kSu Y) (hN : sN Y ≤ 6) (hM : sM Y ≤ 12) (hL : rLoaded Y M) : kLk Y (lBegin Y L, 0, -1, R) M := by
  have hF := kc_begin (L := L) hS hN hL
  obtain ⟨⟨⟨x0, x1, _⟩, _, _, u1, _, _, _, w1⟩, _⟩ := hL
  refine ⟨⟨0, 0, by omega, hF, ⟨rfl, Nat.zero_le _, fun _ => (by decide : (-1 : Int32) + 1 = nI 0), Nat.zero_le _, Nat.zero_le _, 0, by omega, fun z => absurd z (by show ¬ 0 < 0; omega), fun a ha => absurd ha (by omega)⟩, fun r f hr hf => ⟨0, by omega, w1 r f⟩⟩, ⟨hN, hM⟩, x0, x1, u1, hU⟩
/-- another weight -/
theorem kl_weight (h : kLk S C M) {f w : Nat} (hf : f < sN S) (h1 : 1 ≤ w) (h2 : w ≤ 16) : kLk S (lsF C.1 f 0 (nI w), C.2) (rsF M f 0 (nI w)) := by
  obtain ⟨⟨np, c, hc, k1, k2, k3⟩, k4⟩ := h
  exact ⟨⟨np, c, hc, kc_fuW k1 h1 h2, k2, k3⟩, k4⟩
/-- an arrival -/
theorem kl_arr (h : kLk S C M) (hN : LkN C (sN S) np ns) (hnp : np < 100) {f z : Nat} (hf : f < sN S) (z1 : 1 ≤ z) (z2 : z ≤ 1500) (a b d : Int32) : kLk S (lArr C.1 (sN S) f np (nI z) a b d, C.2) (rArr (rForgive M (sN S) ns f) f np a b d (nI z)) := by
  obtain ⟨np', ns', c, hc, hN', ⟨_, k2, k3⟩, i1, i2, i3, _⟩ := kl_N h
  obtain ⟨e1, e2⟩ := kl_same hN hN'
  subst e1 e2
  obtain ⟨a1, a2, a3, a4, a5, a6⟩ := kc_arr i1 i2 i3 hnp hf z1 z2 a b d
  obtain ⟨r1, r2, r3, r4, r5⟩ := h.2
  refine ⟨⟨np' + 1, c, hc, ⟨ns', a1, a2, a3⟩, by rw [a4]; exact k2, by rw [a4]; exact k3⟩, r1, by rw [a6 0 (by omega)]; exact r2, by rw [a6 1 (by omega)]; exact r3, by rw [a5]; exact r4, r5⟩
/-- a run -/
theorem kl_run (h : kLk S C M) {k : Nat} (hk : k ≤ 500) (hle : ¬ 1000000 < lX C.1 11 + nI k) : kLk S (cRun (sN S) k C) (rTicks (sN S) k M) := by
  obtain ⟨np, ns, c, hc, hN, hcp, i1, i2, i3, e11, _⟩ := kl_N h
  rw [e11, nI_add] at hle
  have hck : c + k ≤ 1000000 := by
    rcases Nat.lt_or_ge 1000000 (c + k) with z | z
    · exact absurd (show (1000000 : Int32) < nI (c + k) from nI_lt (a := 1000000) z (by omega)) hle
    · exact z
  obtain ⟨a1, a2, a3⟩ := kc_runs hcp k (by omega)
  obtain ⟨r1, r2, r3, r4, r5⟩ := h.2
  refine ⟨⟨np, c + k, hck, a1⟩, r1, ?_, by rw [a3]; exact r3, by rw [a2]; exact r4, r5⟩
  obtain ⟨⟨ns', ⟨q, sf, hst, _⟩, _⟩, _⟩ := a1
  exact hst.2.1.1.2
end KAl

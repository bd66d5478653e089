/-! ===== the law: what its cases need ===== -/
section LHe
variable {l : Launch} {D : va_G} {bs : Nat} {E : j_E} {h h' : j_H} {d n x sc Ls : Nat} {xs : Nat → Int32} {Q : j_O → j_H → Prop}
theorem j_Met_mono {k : Nat} {as : List Value} {P : j_O → j_H → Prop} (h1 : j_Met l D bs E d k as h P) (hPQ : ∀ o h', P o h' → Q o h') : j_Met l D bs E d k as h Q := by
  obtain ⟨mi, a, b, c, e, hM⟩ := h1
  refine ⟨mi, a, b, c, e, ?_⟩
  intro p e ha hcs hk s m args below hfr happ hP hK
  obtain ⟨n, o, q1, q2, q3, q4⟩ := hM p e ha hcs hk s m args below hfr happ hP hK
  exact ⟨n, o, q1, q2, q3, j_QQ_mono hPQ q4⟩
theorem j_roomy {s : State} {pl : Platform} {r r' : Room} (hf : r.frames ≤ r'.frames) (hl : r.locals ≤ r'.locals) (hc : r.cells ≤ r'.cells) (hs : r.slots ≤ r'.slots) (h : s.hasRoom pl r' = true) : s.hasRoom pl r = true := by
  simp only [State.hasRoom, Bool.and_eq_true, decide_eq_true_eq] at h ⊢
  obtain ⟨⟨⟨⟨h0, h1, h2, h3, h4, h5⟩, h6⟩, h7⟩, h8⟩ := h
  exact ⟨⟨⟨⟨by omega, by omega, by omega, by omega, by omega, h5⟩, by omega⟩, by omega⟩, h8⟩
theorem j_respec {x : MethodName} {S S' : Spec} {P : Array Value → State → Prop} {K : Program → Env → List Frame → State → Array Value → Prop} {Q : Array Value → State → Outcome → State → Prop}
    (h : MetFree l x S P K Q) (hpre : ∀ a s, S'.pre.before a s = true → S.pre.before a s = true) (hf : S.room.frames ≤ S'.room.frames) (hl : S.room.locals ≤ S'.room.locals) (hc : S.room.cells ≤ S'.room.cells) (hs : S.room.slots ≤ S'.room.slots) : MetFree l x S' P K Q := by
  intro p e ha hcs hk s m args below hfr happ hP hK
  obtain ⟨a1, a2, a3, a4, a5, a6, a7, a8⟩ := (Spec.appliesLoose_iff hfr).mp happ
  exact h p e ha hcs hk s m args below hfr ((Spec.appliesLoose_iff hfr).mpr ⟨a1, a2, a3, a4, a5, a6, j_roomy hf hl hc hs a7, hpre _ _ a8⟩) hP hK
theorem j_Met_up {k : Nat} {as : List Value} (h1 : j_Met l D bs E d k as h Q) : j_Met l D bs E (d + 1) k as h Q := by
  obtain ⟨mi, a, b, c, e, hM⟩ := h1
  refine ⟨mi, a, b, c, e, j_respec hM (fun _ _ z => z) ?_ ?_ (Nat.le_refl _) (Nat.le_refl _)⟩
  · show d + 8 ≤ d + 1 + 8
    omega
  · show 64 * d + 120 ≤ 64 * (d + 1) + 120
    omega
theorem an_use {km : Nat} {as : List Value} {c : Int32} {P : Value → Prop} (a : AN l D E bs x sc Ls xs n d km as c P h) (H : ∀ v h3, P v → j_I h3 (x + 51) 10 = c → JJ E bs x sc Ls xs n h3 → sm h h3 (x + 67) → sm h h3 (x + 68) → Q (.inl (some v)) h3) : j_Met l D bs E d km (.ref (x + 51) :: as) h Q := j_Met_mono (a.2.2 h OW_rf) (fun o h3 ⟨v, e, p, q, r, s, t⟩ => by
  subst e
  exact H v h3 p q r s t)
theorem an_useU {km : Nat} {as : List Value} {c : Int32} {P : Value → Prop} (a : AN l D E bs x sc Ls xs n d km as c P h) (H : ∀ v h3, P v → j_I h3 (x + 51) 10 = c → JJ E bs x sc Ls xs n h3 → sm h h3 (x + 67) → sm h h3 (x + 68) → Q (.inl (some v)) h3) : j_Met l D bs E (d + 1) km (.ref (x + 51) :: as) h Q := j_Met_up (an_use a H)
theorem jj_thr (hl : l.stackTraces = false) {c : Int32} (j : JJ E bs x sc Ls xs n h) (e : j_I h (x + 51) 10 = c) (H : Q (.inl (some (.int c))) h) : j_Met l D bs E (d + 1) n_X9_thrown [.ref (x + 51)] h Q := by
  obtain ⟨V, M, U, uc, Sn, w, b, cap, g1, g2, -⟩ := j
  exact sp_X9_thrown hl g2.1.1 g2.1.2.2.2 (by rw [e]; exact H)
theorem jj_co (j : JJ E bs x sc Ls xs n h) : CO E bs x sc Ls xs h := by
  obtain ⟨V, M, U, uc, Sn, w, b, cap, g1, g2, g3, -⟩ := j
  exact g3
theorem jj_out (j : JJ E bs x sc Ls xs n h) : j_sh h (x + 67) = some (.inl (1, 1)) ∧ j_sh h (x + 68) = some (.inl (2, 1)) := (jj_co j).2.2.2.1
theorem jj_less (j : JJ E bs x sc Ls xs (n + 1) h) : JJ E bs x sc Ls xs n h := by
  obtain ⟨V, M, U, uc, Sn, w, b, cap, g1, g2, g3, g4, g5, r⟩ := j
  exact ⟨V, M, U, uc, Sn, w, b, cap, g1, g2, g3, g4, g5, (RM_less r).1⟩
theorem co_sh (c : CO E bs x sc Ls xs h) : j_sh h sc = some (.inl (7, Ls)) := c.2.2.2.2.1.2.1
theorem co_at (c : CO E bs x sc Ls xs h) {i : Nat} (hi : i < Ls) : j_I h sc i = xs i := c.2.2.2.2.1.2.2 i hi
theorem ck_at {i k : Nat} (hi : i + k < 2 ^ 31) : Int32.toNatClampNeg (nI i + nI k) = i + k := by rw [nI_add]; exact nI_clamp hi
theorem vk_at {i k : Nat} (hi : i + k < Ls) (hL : Ls < 2 ^ 31) : vp_in (nI i + nI k) Ls := by rw [nI_add]; exact vp_in_nI hi hL
theorem lg_self (a : Int64) : lg_cmp a a = 0 := by
  unfold lg_cmp
  rw [if_neg (show ¬ a < a from Int64.lt_irrefl), if_pos rfl]
theorem f6_self {r : UInt64} (h : vf_n64 r) : Op.cmpValue (FP.dcmp r r) .l = 0 := by
  obtain ⟨e1, e2, e3, e4, e5⟩ := f6_q
  have hn : r.toNat < 18446744073709551616 := UInt64.toNat_lt r
  have h2 : r.toNat % 9223372036854775808 ≤ 9218868437227405312 := by
    unfold vf_n64 at h
    rw [UInt64.le_iff_toNat_le, UInt64.toNat_and, show (0x7fffffffffffffff : UInt64).toNat = 2 ^ 63 - 1 from by decide, Nat.and_two_pow_sub_one_eq_mod] at h
    exact h
  have hd : Jvm.FP.Core.decode Jvm.FP.Core.b64 r.toNat ≠ .nan := by
    unfold Jvm.FP.Core.decode
    by_cases k1 : Jvm.FP.Core.fieldE Jvm.FP.Core.b64 r.toNat = Jvm.FP.Core.b64.exps - 1
    · rw [if_pos k1]
      have k2 : Jvm.FP.Core.fieldT Jvm.FP.Core.b64 r.toNat = 0 := by
        unfold Jvm.FP.Core.fieldE at k1
        unfold Jvm.FP.Core.fieldT
        rw [e3, e4] at k1
        rw [e3]
        omega
      rw [if_pos k2]
      intro z
      cases z
    · rw [if_neg k1]
      split <;> intro z <;> cases z
  show Op.cmpValue (Jvm.FP.Core.order (Jvm.FP.Core.decode Jvm.FP.Core.b64 r.toNat) (Jvm.FP.Core.decode Jvm.FP.Core.b64 r.toNat)) .l = 0
  generalize Jvm.FP.Core.decode Jvm.FP.Core.b64 r.toNat = dd at hd ⊢
  cases dd with
  | nan => exact absurd rfl hd
  | inf s =>
    show Op.cmpValue (some (compare (Jvm.FP.Core.signed s 1) (Jvm.FP.Core.signed s 1))) .l = 0
    rw [show compare (Jvm.FP.Core.signed s 1) (Jvm.FP.Core.signed s 1) = .eq from by simp]
    rfl
  | fin s c q =>
    show Op.cmpValue (some (compare (Jvm.FP.Core.signed s (Jvm.FP.Core.inUnits c q (min q q))) (Jvm.FP.Core.signed s (Jvm.FP.Core.inUnits c q (min q q))))) .l = 0
    rw [show compare (Jvm.FP.Core.signed s (Jvm.FP.Core.inUnits c q (min q q))) (Jvm.FP.Core.signed s (Jvm.FP.Core.inUnits c q (min q q))) = .eq from by simp]
    rfl
/-- the law's locals in its loop -/
abbrev lw (sc x i : Nat) (u v w : Value) : List Value := [.ref sc, .ref x, .ref (x + 51), .ref (x + 67), .ref (x + 68), .int (nI i), u, v, w]
def lpost : j_O → j_H → Prop := fun o _ => o = .inl (some (.int 1))
end LHe

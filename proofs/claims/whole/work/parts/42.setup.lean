/-! ===== Setup: reading a text ===== -/
/-- flows, rules, the three numbers (4 rate, 5 delay, 6 timeout), the flows' rows, the rules' rows -/
abbrev Sup : Type := Nat × Nat × (Nat → Int32) × (Nat → Nat → Int32) × (Nat → Nat → Int32)
def sN (S : Sup) : Nat := S.1
def sM (S : Sup) : Nat := S.2.1
def sX (S : Sup) : Nat → Int32 := S.2.2.1
def sF (S : Sup) : Nat → Nat → Int32 := S.2.2.2.1
def sR (S : Sup) : Nat → Nat → Int32 := S.2.2.2.2
def ssN (S : Sup) (n : Nat) : Sup := (n, S.2)
def ssM (S : Sup) (n : Nat) : Sup := (S.1, n, S.2.2)
def ssX (S : Sup) (k : Nat) (v : Int32) : Sup := (S.1, S.2.1, up1 S.2.2.1 k v, S.2.2.2)
def ssF (S : Sup) (r k : Nat) (v : Int32) : Sup := (S.1, S.2.1, S.2.2.1, j_up S.2.2.2.1 r k v, S.2.2.2.2)
def ssR (S : Sup) (r k : Nat) (v : Int32) : Sup := (S.1, S.2.1, S.2.2.1, S.2.2.2.1, j_up S.2.2.2.2 r k v)
/-- a text's letters -/
def wd (s : String) : List Nat := s.toList.map Char.toNat
section Set1
variable (B : Nat → Int32) (len : Nat)
def sReset (S : Sup) : Sup := ssX (ssX (ssX (ssM (ssN S 0) 0) 4 1000) 5 2) 6 5
def sSetting (p : Tk) (most : Int32) : Int32 × Tk :=
  let t := tTake B len (tNext B len p) 1 most
  (t.1, tSign B len t.2 59)
def sOption (p : Tk) (S : Sup) : Tk × Sup :=
  if tIsW B p (wd "burst") = true then
    let t := tTake B len (tNext B len p) 0 20000
    (t.2, ssF S (sN S) 2 t.1)
  else if tIsW B p (wd "retries") = true then
    let t := tTake B len (tNext B len p) 0 9
    (t.2, ssF S (sN S) 3 t.1)
  else if tIsW B p (wd "loss") = true then
    let t := tTake B len (tNext B len p) 2 99
    (t.2, ssF S (sN S) 4 t.1)
  else if tIsW B p (wd "late") = true then
    let t := tTake B len (tNext B len p) 2 99
    let t2 := tTake B len t.2 1 200
    (t2.2, ssF (ssF S (sN S) 5 t.1) (sN S) 6 t2.1)
  else (tFail p 1, S)
def sOptions : Nat → Tk → Sup → Tk × Sup
  | 0, p, S => (p, S)
  | k + 1, p, S => if tkK p = 2 then sOptions k (sOption B len p S).1 (sOption B len p S).2 else (p, S)
def sFlow0 (p : Tk) (S : Sup) : Tk × Sup :=
  let t := tTake B len (tNext B len p) 1 16
  let S1 := ssF S (sN S) 0 t.1
  let t2 := tTake B len t.2 1 60000
  (t2.2, ssF (ssF (ssF (ssF (ssF (ssF S1 (sN S) 1 t2.1) (sN S) 2 0) (sN S) 3 3) (sN S) 4 0) (sN S) 5 0) (sN S) 6 0)
def sFlow (p : Tk) (S : Sup) : Tk × Sup :=
  if sN S < 6 then
    let z := sFlow0 B len p S
    let y := sOptions B len 800 z.1 z.2
    (tSign B len y.1 59, ssN y.2 (sN y.2 + 1))
  else (tFail p 3, S)
def sCond (p : Tk) (S : Sup) : Tk × Sup :=
  let c : Nat := if tIsW B p (wd "target") = true then 2 else if tIsW B p (wd "port") = true then 4 else 0
  let p1 := if tIsW B p (wd "target") = true then p else if tIsW B p (wd "port") = true then p else if tIsW B p (wd "source") = true then p else tFail p 1
  let t := tTake B len (tNext B len p1) 0 255
  let S1 := ssR S (sM S) c t.1
  let t2 := tTake B len t.2 t.1 255
  (t2.2, ssR S1 (sM S) (c + 1) t2.1)
def sConds : Nat → Tk → Sup → Tk × Sup
  | 0, p, S => (p, S)
  | k + 1, p, S => if tkK p = 2 then (if tIsW B p (wd "to") = true then (p, S) else sConds k (sCond B len p S).1 (sCond B len p S).2) else (p, S)
def sRule0 (S : Sup) : Sup := ssR (ssR (ssR (ssR (ssR (ssR S (sM S) 0 0) (sM S) 1 255) (sM S) 2 0) (sM S) 3 255) (sM S) 4 0) (sM S) 5 255
def sRule (p : Tk) (S : Sup) : Tk × Sup :=
  if sM S < 12 then
    let y := sConds B len 800 (tNext B len p) (sRule0 S)
    let t := tTake B len (tWord B len y.1 (wd "to")) 0 (nI (sN y.2) - 1)
    let S1 := ssR y.2 (sM y.2) 6 t.1
    (tSign B len t.2 59, ssM S1 (sM S1 + 1))
  else (tFail p 3, S)
def sClause (p : Tk) (S : Sup) : Tk × Sup :=
  if tIsW B p (wd "flow") = true then sFlow B len p S
  else if tIsW B p (wd "rule") = true then sRule B len p S
  else if tIsW B p (wd "link") = true then ((sSetting B len p 9000).2, ssX S 4 (sSetting B len p 9000).1)
  else if tIsW B p (wd "delay") = true then ((sSetting B len p 50).2, ssX S 5 (sSetting B len p 50).1)
  else if tIsW B p (wd "timeout") = true then ((sSetting B len p 200).2, ssX S 6 (sSetting B len p 200).1)
  else (tFail p 1, S)
def sRead : Nat → Tk → Sup → Tk × Sup
  | 0, p, S => (p, S)
  | k + 1, p, S => if tkK p = 0 ∨ tkK p = 5 then (p, S) else sRead k (sClause B len p S).1 (sClause B len p S).2
end Set1
section Set2
variable {l : Launch} {D : va_G} {bs : Nat} {E : j_E} {h0 h : j_H} {x u : Nat} {d : Nat} {Q : j_O → j_H → Prop} {B : Nat → Int32} {sz len : Nat} {p : Tk} {S : Sup}
/-- a setup at u: flows u+1 (u+2), rules u+3 (u+4) -/
def SK (h : j_H) (u : Nat) (S : Sup) : Prop := j_sh h u = some (.inr 7) ∧ j_R h u 0 = some (u + 1) ∧ j_R h u 1 = some (u + 3) ∧ TB h (u + 1) (u + 2) 7 42 ∧ TB h (u + 3) (u + 4) 7 84 ∧ j_I h u 2 = nI (sN S) ∧ sN S ≤ 6 ∧ j_I h u 3 = nI (sM S) ∧ sM S ≤ 12 ∧ (∀ k, 4 ≤ k → k < 7 → j_I h u k = sX S k) ∧ (∀ r k, r < 6 → k < 7 → j_I h (u + 2) (r * 7 + k) = sF S r k) ∧ ∀ r k, r < 12 → k < 7 → j_I h (u + 4) (r * 7 + k) = sR S r k
theorem SK_sh (s : SK h u S) : j_sh h u = some (.inr 7) := s.1
theorem SK_r0 (s : SK h u S) : j_R h u 0 = some (u + 1) := s.2.1
theorem SK_r1 (s : SK h u S) : j_R h u 1 = some (u + 3) := s.2.2.1
theorem SK_tF (s : SK h u S) : TB h (u + 1) (u + 2) 7 42 := s.2.2.2.1
theorem SK_tR (s : SK h u S) : TB h (u + 3) (u + 4) 7 84 := s.2.2.2.2.1
theorem SK_2 (s : SK h u S) : j_I h u 2 = nI (sN S) := s.2.2.2.2.2.1
theorem SK_n (s : SK h u S) : sN S ≤ 6 := s.2.2.2.2.2.2.1
theorem SK_3 (s : SK h u S) : j_I h u 3 = nI (sM S) := s.2.2.2.2.2.2.2.1
theorem SK_m (s : SK h u S) : sM S ≤ 12 := s.2.2.2.2.2.2.2.2.1
theorem SK_x (s : SK h u S) {k : Nat} (h1 : 4 ≤ k) (h2 : k < 7) : j_I h u k = sX S k := s.2.2.2.2.2.2.2.2.2.1 k h1 h2
theorem SK_f (s : SK h u S) {r k : Nat} (h1 : r < 6) (h2 : k < 7) : j_I h (u + 2) (r * 7 + k) = sF S r k := s.2.2.2.2.2.2.2.2.2.2.1 r k h1 h2
theorem SK_r (s : SK h u S) {r k : Nat} (h1 : r < 12) (h2 : k < 7) : j_I h (u + 4) (r * 7 + k) = sR S r k := s.2.2.2.2.2.2.2.2.2.2.2 r k h1 h2
theorem SK_sN (s : SK h u S) {n : Nat} (hn : n ≤ 6) : SK (j_setI h u 2 (nI n)) u (ssN S n) := by
  obtain ⟨s1, s2, s3, s4, s5, s6, s7, s8, s9, s10, s11, s12⟩ := s
  refine ⟨s1, s2, s3, TB_setI s4 (by omega), TB_setI s5 (by omega), jh_Is _ _ _ _, hn, ?_, s9, fun k g1 g2 => ?_, fun r k g1 g2 => ?_, fun r k g1 g2 => ?_⟩
  · rw [jh_In (by omega)]; exact s8
  · rw [jh_In (by omega)]; exact s10 k g1 g2
  · rw [jh_In (by omega)]; exact s11 r k g1 g2
  · rw [jh_In (by omega)]; exact s12 r k g1 g2
theorem SK_sM (s : SK h u S) {n : Nat} (hn : n ≤ 12) : SK (j_setI h u 3 (nI n)) u (ssM S n) := by
  obtain ⟨s1, s2, s3, s4, s5, s6, s7, s8, s9, s10, s11, s12⟩ := s
  refine ⟨s1, s2, s3, TB_setI s4 (by omega), TB_setI s5 (by omega), ?_, s7, jh_Is _ _ _ _, hn, fun k g1 g2 => ?_, fun r k g1 g2 => ?_, fun r k g1 g2 => ?_⟩
  · rw [jh_In (by omega)]; exact s6
  · rw [jh_In (by omega)]; exact s10 k g1 g2
  · rw [jh_In (by omega)]; exact s11 r k g1 g2
  · rw [jh_In (by omega)]; exact s12 r k g1 g2
theorem SK_sX (s : SK h u S) {k : Nat} {v : Int32} (h1 : 4 ≤ k) : SK (j_setI h u k v) u (ssX S k v) := by
  obtain ⟨s1, s2, s3, s4, s5, s6, s7, s8, s9, s10, s11, s12⟩ := s
  refine ⟨s1, s2, s3, TB_setI s4 (by omega), TB_setI s5 (by omega), ?_, s7, ?_, s9, fun j g1 g2 => ?_, fun r j g1 g2 => ?_, fun r j g1 g2 => ?_⟩
  · rw [jh_In (by omega)]; exact s6
  · rw [jh_In (by omega)]; exact s8
  · rw [jh_I]
    by_cases e : j = k
    · subst e; simp [sX, ssX, up1]
    · rw [if_neg (by simp [e]), s10 j g1 g2]; simp [sX, ssX, up1, e]
  · rw [jh_In (by omega)]; exact s11 r j g1 g2
  · rw [jh_In (by omega)]; exact s12 r j g1 g2
theorem SK_sF (s : SK h u S) {r k : Nat} {v : Int32} (hr : r < 6) (hk : k < 7) : SK (j_setI h (u + 2) (r * 7 + k) v) u (ssF S r k v) := by
  obtain ⟨s1, s2, s3, s4, s5, s6, s7, s8, s9, s10, s11, s12⟩ := s
  refine ⟨s1, s2, s3, TB_setI s4 (by omega), TB_setI s5 (by omega), ?_, s7, ?_, s9, fun j g1 g2 => ?_, fun r' j g1 g2 => ?_, fun r' j g1 g2 => ?_⟩
  · rw [jh_In (by omega)]; exact s6
  · rw [jh_In (by omega)]; exact s8
  · rw [jh_In (by omega)]; exact s10 j g1 g2
  · rw [jh_I]
    by_cases e : r' = r ∧ j = k
    · obtain ⟨rfl, rfl⟩ := e; simp [sF, ssF, j_up]
    · rw [if_neg (by omega), s11 r' j g1 g2]; simp [sF, ssF, j_up, e]
  · rw [jh_In (by omega)]; exact s12 r' j g1 g2
theorem SK_sR (s : SK h u S) {r k : Nat} {v : Int32} (hr : r < 12) (hk : k < 7) : SK (j_setI h (u + 4) (r * 7 + k) v) u (ssR S r k v) := by
  obtain ⟨s1, s2, s3, s4, s5, s6, s7, s8, s9, s10, s11, s12⟩ := s
  refine ⟨s1, s2, s3, TB_setI s4 (by omega), TB_setI s5 (by omega), ?_, s7, ?_, s9, fun j g1 g2 => ?_, fun r' j g1 g2 => ?_, fun r' j g1 g2 => ?_⟩
  · rw [jh_In (by omega)]; exact s6
  · rw [jh_In (by omega)]; exact s8
  · rw [jh_In (by omega)]; exact s10 j g1 g2
  · rw [jh_In (by omega)]; exact s11 r' j g1 g2
  · rw [jh_I]
    by_cases e : r' = r ∧ j = k
    · obtain ⟨rfl, rfl⟩ := e; simp [sR, ssR, j_up]
    · rw [if_neg (by omega), s12 r' j g1 g2]; simp [sR, ssR, j_up, e]
/-- only numbers in the cells A have changed -/
def FA (A : Nat → Prop) (h h' : j_H) : Prop := j_sh h' = j_sh h ∧ j_R h' = j_R h ∧ j_D h' = j_D h ∧ j_z h' = j_z h ∧ j_c h' = j_c h ∧ j_k h' = j_k h ∧ (∀ b k, ¬ A b → j_I h' b k = j_I h b k) ∧ ∀ b k, ¬ A b → j_L h' b k = j_L h b k
theorem FA_rf {A : Nat → Prop} : FA A h h := ⟨rfl, rfl, rfl, rfl, rfl, rfl, fun _ _ _ => rfl, fun _ _ _ => rfl⟩
theorem FA_tr {A : Nat → Prop} {h' h'' : j_H} (h1 : FA A h h') (h2 : FA A h' h'') : FA A h h'' := by
  obtain ⟨f1, f2, f3, f4, f5, f6, f7, f8⟩ := h1
  obtain ⟨g1, g2, g3, g4, g5, g6, g7, g8⟩ := h2
  exact ⟨g1.trans f1, g2.trans f2, g3.trans f3, g4.trans f4, g5.trans f5, g6.trans f6, fun b k z => (g7 b k z).trans (f7 b k z), fun b k z => (g8 b k z).trans (f8 b k z)⟩
theorem FA_Fr {A : Nat → Prop} {lo hi : Nat} {h' : j_H} (hF : Fr lo hi h h') (hA : ∀ b, lo ≤ b → b < hi → A b) : FA A h h' := by
  obtain ⟨f1, f2, f3, f4, f5, f6, f7, f8⟩ := hF
  exact ⟨f1, f2, f3, f4, f5, f6, fun b k z => f7 b k (Nat.lt_or_ge b lo |>.imp id (fun g => Nat.le_of_not_lt (fun g2 => z (hA b g g2)))), fun b k z => f8 b k (Nat.lt_or_ge b lo |>.imp id (fun g => Nat.le_of_not_lt (fun g2 => z (hA b g g2))))⟩
theorem FA_mono {A A' : Nat → Prop} {h' : j_H} (hF : FA A h h') (hA : ∀ b, A b → A' b) : FA A' h h' := by
  obtain ⟨f1, f2, f3, f4, f5, f6, f7, f8⟩ := hF
  exact ⟨f1, f2, f3, f4, f5, f6, fun b k z => f7 b k (fun y => z (hA b y)), fun b k z => f8 b k (fun y => z (hA b y))⟩
theorem FA_bd {A : Nat → Prop} {h' : j_H} (hF : FA A h h') (hB : j_bd E h) : j_bd E h' := by
  obtain ⟨f1, f2, f3, f4, f5, f6, f7, f8⟩ := hF
  unfold j_bd
  rw [f5, f6]
  exact hB
theorem TB_FA {A : Nat → Prop} {h' : j_H} {t c w n : Nat} (hT : TB h t c w n) (hF : FA A h h') (h1 : ¬ A t) : TB h' t c w n := by
  obtain ⟨t1, t2, t3, t4, t5⟩ := hT
  obtain ⟨f1, f2, f3, f4, f5, f6, f7, f8⟩ := hF
  exact ⟨by rw [f1]; exact t1, by rw [f7 _ _ h1]; exact t2, by rw [f2]; exact t3, by rw [f1]; exact t4, t5⟩
theorem SK_FA {A : Nat → Prop} {h' : j_H} (s : SK h u S) (hF : FA A h h') (hA : ∀ b, u ≤ b → b < u + 5 → ¬ A b) : SK h' u S := by
  obtain ⟨s1, s2, s3, s4, s5, s6, s7, s8, s9, s10, s11, s12⟩ := s
  have f := hF
  obtain ⟨f1, f2, f3, f4, f5, f6, f7, f8⟩ := hF
  refine ⟨by rw [f1]; exact s1, by rw [f2]; exact s2, by rw [f2]; exact s3, TB_FA s4 f (hA _ (by omega) (by omega)), TB_FA s5 f (hA _ (by omega) (by omega)), ?_, s7, ?_, s9, fun j g1 g2 => ?_, fun r' j g1 g2 => ?_, fun r' j g1 g2 => ?_⟩
  · rw [f7 _ _ (hA _ (by omega) (by omega))]; exact s6
  · rw [f7 _ _ (hA _ (by omega) (by omega))]; exact s8
  · rw [f7 _ _ (hA _ (by omega) (by omega))]; exact s10 j g1 g2
  · rw [f7 _ _ (hA _ (by omega) (by omega))]; exact s11 r' j g1 g2
  · rw [f7 _ _ (hA _ (by omega) (by omega))]; exact s12 r' j g1 g2
theorem TX_FA {A : Nat → Prop} {h' : j_H} (t : TX h x B sz len p) (hF : FA A h h') (hA : ¬ A x) (hA1 : ¬ A (x + 1)) : TX h' x B sz len p := by
  obtain ⟨t1, t2, t3, t4, t5, t6, t7, t8, t9, t10, t11, t12, t13⟩ := t
  obtain ⟨f1, f2, f3, f4, f5, f6, f7, f8⟩ := hF
  refine ⟨by rw [f1]; exact t1, by rw [f2]; exact t2, by rw [f1]; exact t3, fun i hi => by rw [f7 _ _ hA1]; exact t4 i hi, ?_, t6, ?_, t8, ?_, ?_, ?_, ?_, ?_⟩
  all_goals (rw [f7 _ _ hA]; assumption)
/-- the constants' texts -/
def KS (E : j_E) (bs : Nat) (h : j_H) : Prop := ∀ (i : Nat) (z : String × Nat × String), j_strs[i]? = some z → i < 69 → E.1 i < bs ∧ kst h (E.1 i) (wd z.2.2) ∧ ∀ b, j_R h (E.1 i) 0 = some b → b < bs
theorem KS_FA {A : Nat → Prop} {h' : j_H} (k : KS E bs h) (hF : FA A h h') (hA : ∀ b, A b → bs ≤ b) : KS E bs h' := by
  intro i z hz hi
  obtain ⟨k1, ⟨k2, k3, k4, k5, b, k6, k7, k8⟩, k9⟩ := k i z hz hi
  obtain ⟨f1, f2, f3, f4, f5, f6, f7, f8⟩ := hF
  have hb := k9 b k6
  have n1 : ¬ A (E.1 i) := fun y => by have := hA _ y; omega
  have n2 : ¬ A b := fun y => by have := hA _ y; omega
  exact ⟨k1, ⟨by rw [f1]; exact k2, by rw [f7 _ _ n1]; exact k3, k4, k5, b, by rw [f2]; exact k6, by rw [f1]; exact k7, fun j hj => by rw [f7 _ _ n2]; exact k8 j hj⟩, fun b' hb' => k9 b' (by rw [f2] at hb'; exact hb')⟩
theorem KS_at (k : KS E bs h) (i : Nat) {z : String × Nat × String} (hz : j_strs[i]? = some z) (hi : i < 69) : kst h (E.1 i) (wd z.2.2) := (k i z hz hi).2.1
def pA (x u : Nat) : Nat → Prop := fun b => b = x ∨ (u ≤ b ∧ b < u + 5)
/-- a text at x that is being read into a setup at u -/
def PT (E : j_E) (bs : Nat) (h0 : j_H) (x u : Nat) (B : Nat → Int32) (sz len : Nat) (p : Tk) (S : Sup) (h : j_H) : Prop := TX h x B sz len p ∧ SK h u S ∧ FA (pA x u) h0 h ∧ j_bd E h ∧ KS E bs h ∧ tkOk len p ∧ (u + 5 ≤ x ∨ x + 2 ≤ u) ∧ bs ≤ x ∧ bs ≤ u
theorem PT_t {p' : Tk} {h' : j_H} (s : PT E bs h0 x u B sz len p S h) (t : TX h' x B sz len p') (f : Fr x (x + 1) h h') (ok : tkOk len p') : PT E bs h0 x u B sz len p' S h' := by
  obtain ⟨s1, s2, s3, s4, s5, s6, s7, s8, s9⟩ := s
  have f' : FA (fun b => b = x) h h' := FA_Fr f (fun b g1 g2 => by omega)
  exact ⟨t, SK_FA s2 f' (fun b g1 g2 => by omega), FA_tr s3 (FA_mono f' (fun b e => Or.inl e)), Fr_bd f s4, KS_FA s5 f' (fun b e => by omega), ok, s7, s8, s9⟩
theorem PT_s {S' : Sup} {h' : j_H} (s : PT E bs h0 x u B sz len p S h) (k : SK h' u S') (f : Fr u (u + 5) h h') : PT E bs h0 x u B sz len p S' h' := by
  obtain ⟨s1, s2, s3, s4, s5, s6, s7, s8, s9⟩ := s
  have f' : FA (fun b => u ≤ b ∧ b < u + 5) h h' := FA_Fr f (fun b g1 g2 => ⟨g1, g2⟩)
  exact ⟨TX_FA s1 f' (by omega) (by omega), k, FA_tr s3 (FA_mono f' (fun b e => Or.inr e)), Fr_bd f s4, KS_FA s5 f' (fun b e => by omega), s6, s7, s8, s9⟩
theorem PT_X (s : PT E bs h0 x u B sz len p S h) {k : Nat} {v : Int32} (h1 : 4 ≤ k) : PT E bs h0 x u B sz len p (ssX S k v) (j_setI h u k v) := PT_s s (SK_sX s.2.1 h1) (Fr_I Fr_rf (by omega) (by omega))
theorem PT_N (s : PT E bs h0 x u B sz len p S h) {n : Nat} (hn : n ≤ 6) : PT E bs h0 x u B sz len p (ssN S n) (j_setI h u 2 (nI n)) := PT_s s (SK_sN s.2.1 hn) (Fr_I Fr_rf (by omega) (by omega))
theorem PT_M (s : PT E bs h0 x u B sz len p S h) {n : Nat} (hn : n ≤ 12) : PT E bs h0 x u B sz len p (ssM S n) (j_setI h u 3 (nI n)) := PT_s s (SK_sM s.2.1 hn) (Fr_I Fr_rf (by omega) (by omega))
theorem sf_set (hl : l.stackTraces = false) (s : PT E bs h0 x u B sz len p S h) {r k : Nat} {v : Int32} (hr : r < 6) (hk : k < 7) (H : ∀ h', PT E bs h0 x u B sz len p (ssF S r k v) h' → Q (.inl none) h') : j_Met l D bs E (d + 1) n_X6_set [.ref (u + 1), .int (nI r), .int (nI k), .int v] h Q :=
  sp_X6_set hl s.2.2.2.1 (SK_tF s.2.1) hk (by omega) (H _ (PT_s s (SK_sF s.2.1 hr hk) (Fr_I Fr_rf (by omega) (by omega))))
theorem sr_set (hl : l.stackTraces = false) (s : PT E bs h0 x u B sz len p S h) {r k : Nat} {v : Int32} (hr : r < 12) (hk : k < 7) (H : ∀ h', PT E bs h0 x u B sz len p (ssR S r k v) h' → Q (.inl none) h') : j_Met l D bs E (d + 1) n_X6_set [.ref (u + 3), .int (nI r), .int (nI k), .int v] h Q :=
  sp_X6_set hl s.2.2.2.1 (SK_tR s.2.1) hk (by omega) (H _ (PT_s s (SK_sR s.2.1 hr hk) (Fr_I Fr_rf (by omega) (by omega))))
theorem pt_next (hl : l.stackTraces = false) (s : PT E bs h0 x u B sz len p S h) (H : ∀ h', PT E bs h0 x u B sz len (tNext B len p) S h' → Q (.inl none) h') : j_Met l D bs E (d + 2) n_X7_next [.ref x] h Q :=
  sp_X7_next hl s.1 s.2.2.2.1 s.2.2.2.2.2.1 (fun h' t f => H h' (PT_t s t f (tNext_ok s.2.2.2.2.2.1)))
theorem pt_fail (hl : l.stackTraces = false) (s : PT E bs h0 x u B sz len p S h) {c : Int32} (H : ∀ h', PT E bs h0 x u B sz len (tFail p c) S h' → Q (.inl none) h') : j_Met l D bs E (d + 1) n_X7_fail [.ref x, .int c] h Q :=
  sp_X7_fail hl s.1 s.2.2.2.1 s.2.2.2.2.2.1 (fun h' t f => H h' (PT_t s t f (tFail_ok s.2.2.2.2.2.1)))
theorem pt_take (hl : l.stackTraces = false) (s : PT E bs h0 x u B sz len p S h) {lo hi : Int32} (H : ∀ h', PT E bs h0 x u B sz len (tTake B len p lo hi).2 S h' → Q (.inl (some (.int (tTake B len p lo hi).1))) h') : j_Met l D bs E (d + 3) n_X7_takeNumber [.ref x, .int lo, .int hi] h Q :=
  sp_X7_takeNumber hl s.1 s.2.2.2.1 s.2.2.2.2.2.1 (fun h' t f => H h' (PT_t s t f (tTake_ok s.2.2.2.2.2.1)))
theorem pt_sign (hl : l.stackTraces = false) (s : PT E bs h0 x u B sz len p S h) {c : Nat} (H : ∀ h', PT E bs h0 x u B sz len (tSign B len p c) S h' → Q (.inl none) h') : j_Met l D bs E (d + 3) n_X7_takeSign [.ref x, .int (nI c)] h Q :=
  sp_X7_takeSign hl s.1 s.2.2.2.1 s.2.2.2.2.2.1 (fun h' t f => H h' (PT_t s t f (tSign_ok s.2.2.2.2.2.1)))
theorem pt_word (hl : l.stackTraces = false) (hJ : JS l D bs E) (s : PT E bs h0 x u B sz len p S h) (i : Nat) {z : String × Nat × String} (hz : j_strs[i]? = some z) (hi : i < 69) (H : ∀ h', PT E bs h0 x u B sz len (tWord B len p (wd z.2.2)) S h' → Q (.inl none) h') : j_Met l D bs E (d + 5) n_X7_takeWord [.ref x, .ref (E.1 i)] h Q :=
  sp_X7_takeWord hl hJ s.1 s.2.2.2.1 s.2.2.2.2.2.1 (KS_at s.2.2.2.2.1 i hz hi) (fun h' t f => H h' (PT_t s t f (tWord_ok s.2.2.2.2.2.1)))
theorem pt_isW (hl : l.stackTraces = false) (hJ : JS l D bs E) (s : PT E bs h0 x u B sz len p S h) (i : Nat) {z : String × Nat × String} (hz : j_strs[i]? = some z) (hi : i < 69) (H : Q (.inl (some (.int (if tIsW B p (wd z.2.2) = true then 1 else 0)))) h) : j_Met l D bs E (d + 4) n_X7_isWord [.ref x, .ref (E.1 i)] h Q :=
  sp_X7_isWord hl hJ s.1 s.2.2.2.1 s.2.2.2.2.2.1 (KS_at s.2.2.2.2.1 i hz hi) H
theorem sp_X5_reset (hl : l.stackTraces = false) (s : SK h u S) (hB : j_bd E h) (H : ∀ h', SK h' u (sReset S) → Fr u (u + 5) h h' → Q (.inl none) h') : j_Met l D bs E (d + 1) n_X5_reset [.ref u] h Q := by
  refine j_meth hl rfl g_X5_reset (Nat.le_of_ble_eq_true rfl) (fun _ => ⟨_, _, rfl, s.1⟩) hB.1 hB.2 (fun G hG => ?_)
  refine b_X5_reset_0 hG ?_
  dsimp only [q_X5_reset_0, j_wp, j_opB, j_opA, j_nth, j_i1, j_i2, j_l1, j_l2, j_li, j_f1, j_f2, j_d1, j_d2, j_r1, j_ai, j_aii, j_ail, j_aid, j_air, j_st1, j_st2, j_stu, j_kl, j_cond, j_args, j_out, j_few, j_cw, j_nat, j_pad, j_exp, Nat.reduceAdd]
  simp only [SK_sh s, j_ref, j_ari, j_arb, j_arr, j_len, j_nar, j_oi, j_ol, j_of, j_od, j_or, j_ov, true_and, and_true]
  have s1 := SK_sN s (n := 0) (by omega)
  rw [nI_0] at s1
  simp only [SK_sh s1, j_ref, j_ari, j_arb, j_arr, j_len, j_nar, j_oi, j_ol, j_of, j_od, j_or, j_ov, true_and, and_true]
  have s2 := SK_sM s1 (n := 0) (by omega)
  rw [nI_0] at s2
  simp only [SK_sh s2, j_ref, j_ari, j_arb, j_arr, j_len, j_nar, j_oi, j_ol, j_of, j_od, j_or, j_ov, true_and, and_true]
  have s3 := SK_sX s2 (k := 4) (v := 1000) (by omega)
  simp only [SK_sh s3, j_ref, j_ari, j_arb, j_arr, j_len, j_nar, j_oi, j_ol, j_of, j_od, j_or, j_ov, true_and, and_true]
  have s4 := SK_sX s3 (k := 5) (v := 2) (by omega)
  simp only [SK_sh s4, j_ref, j_ari, j_arb, j_arr, j_len, j_nar, j_oi, j_ol, j_of, j_od, j_or, j_ov, true_and, and_true]
  have s5 := SK_sX s4 (k := 6) (v := 5) (by omega)
  exact H _ s5 (Fr_I (Fr_I (Fr_I (Fr_I (Fr_I Fr_rf (by omega) (by omega)) (by omega) (by omega)) (by omega) (by omega)) (by omega) (by omega)) (by omega) (by omega))
theorem sp_X5_readSetting (hl : l.stackTraces = false) (s : PT E bs h0 x u B sz len p S h) {most : Int32} (H : ∀ h', PT E bs h0 x u B sz len (sSetting B len p most).2 S h' → Q (.inl (some (.int (sSetting B len p most).1))) h') : j_Met l D bs E (d + 4) n_X5_readSetting [.ref u, .ref x, .int most] h Q := by
  have hB := s.2.2.2.1
  dsimp only [sSetting] at H
  refine j_meth hl rfl g_X5_readSetting (Nat.le_of_ble_eq_true rfl) (fun _ => ⟨_, _, rfl, s.2.1.1⟩) hB.1 hB.2 (fun G hG => ?_)
  refine b_X5_readSetting_0 hG ?_
  dsimp only [q_X5_readSetting_0, j_wp, j_opB, j_opA, j_nth, j_i1, j_i2, j_l1, j_l2, j_li, j_f1, j_f2, j_d1, j_d2, j_r1, j_ai, j_aii, j_ail, j_aid, j_air, j_st1, j_st2, j_stu, j_kl, j_cond, j_args, j_out, j_few, j_cw, j_nat, j_pad, j_exp, Nat.reduceAdd]
  refine pt_next hl s (fun h1 s1 => ?_)
  simp only [j_ref, j_ari, j_arb, j_arr, j_len, j_nar, j_oi, j_ol, j_of, j_od, j_or, j_ov, true_and, and_true]
  refine pt_take hl s1 (fun h2 s2 => ?_)
  simp only [j_ref, j_ari, j_arb, j_arr, j_len, j_nar, j_oi, j_ol, j_of, j_od, j_or, j_ov, true_and, and_true, j_st1]
  refine pt_sign hl s2 (c := 59) (fun h3 s3 => ?_)
  simp only [j_ref, j_ari, j_arb, j_arr, j_len, j_nar, j_oi, j_ol, j_of, j_od, j_or, j_ov, true_and, and_true]
  exact H h3 s3

theorem sp_X5_readOption (hl : l.stackTraces = false) (hJ : JS l D bs E) (s : PT E bs h0 x u B sz len p S h) (hn : sN S < 6) (H : ∀ h', PT E bs h0 x u B sz len (sOption B len p S).1 (sOption B len p S).2 h' → Q (.inl none) h') : j_Met l D bs E (d + 5) n_X5_readOption [.ref u, .ref x] h Q := by
  have hB := s.2.2.2.1
  unfold sOption at H
  refine j_meth hl rfl g_X5_readOption (Nat.le_of_ble_eq_true rfl) (fun _ => ⟨_, _, rfl, s.2.1.1⟩) hB.1 hB.2 (fun G hG => ?_)
  refine b_X5_readOption_0 hG ?_
  dsimp only [q_X5_readOption_0, j_wp, j_opB, j_opA, j_nth, j_i1, j_i2, j_l1, j_l2, j_li, j_f1, j_f2, j_d1, j_d2, j_r1, j_ai, j_aii, j_ail, j_aid, j_air, j_st1, j_st2, j_stu, j_kl, j_cond, j_args, j_out, j_few, j_cw, j_nat, j_pad, j_exp, Nat.reduceAdd]
  refine pt_isW hl hJ s 17 rfl (by omega) ?_
  simp only [j_ref, j_ari, j_arb, j_arr, j_len, j_nar, j_oi, j_ol, j_of, j_od, j_or, j_ov, true_and, and_true]
  by_cases g17 : tIsW B p (wd "burst") = true
  · simp only [g17, if_true] at H ⊢
    rw [if_neg (by decide)]
    refine pt_next hl s (fun h1 s1 => ?_)
    simp only [SK_sh s1.2.1, SK_r0 s1.2.1, SK_2 s1.2.1, j_ref, j_ari, j_arb, j_arr, j_len, j_nar, j_oi, j_ol, j_of, j_od, j_or, j_ov, true_and, and_true]
    refine pt_take hl s1 (fun h2 s2 => ?_)
    simp only [j_ref, j_ari, j_arb, j_arr, j_len, j_nar, j_oi, j_ol, j_of, j_od, j_or, j_ov, true_and, and_true]
    refine sf_set hl s2 hn (k := 2) (by omega) (fun h3 s3 => ?_)
    simp only [j_ref, j_ari, j_arb, j_arr, j_len, j_nar, j_oi, j_ol, j_of, j_od, j_or, j_ov, true_and, and_true]
    refine b_X5_readOption_167 hG ?_
    dsimp only [q_X5_readOption_167, j_wp, j_opB, j_opA, j_nth, j_i1, j_i2, j_l1, j_l2, j_li, j_f1, j_f2, j_d1, j_d2, j_r1, j_ai, j_aii, j_ail, j_aid, j_air, j_st1, j_st2, j_stu, j_kl, j_cond, j_args, j_out, j_few, j_cw, j_nat, j_pad, j_exp, Nat.reduceAdd]
    exact H h3 s3
  · simp only [g17, if_false, Bool.false_eq_true, if_true] at H ⊢
    refine b_X5_readOption_36 hG ?_
    dsimp only [q_X5_readOption_36, j_wp, j_opB, j_opA, j_nth, j_i1, j_i2, j_l1, j_l2, j_li, j_f1, j_f2, j_d1, j_d2, j_r1, j_ai, j_aii, j_ail, j_aid, j_air, j_st1, j_st2, j_stu, j_kl, j_cond, j_args, j_out, j_few, j_cw, j_nat, j_pad, j_exp, Nat.reduceAdd]
    refine pt_isW hl hJ s 18 rfl (by omega) ?_
    simp only [j_ref, j_ari, j_arb, j_arr, j_len, j_nar, j_oi, j_ol, j_of, j_od, j_or, j_ov, true_and, and_true]
    by_cases g18 : tIsW B p (wd "retries") = true
    · simp only [g18, if_true] at H ⊢
      rw [if_neg (by decide)]
      refine pt_next hl s (fun h1 s1 => ?_)
      simp only [SK_sh s1.2.1, SK_r0 s1.2.1, SK_2 s1.2.1, j_ref, j_ari, j_arb, j_arr, j_len, j_nar, j_oi, j_ol, j_of, j_od, j_or, j_ov, true_and, and_true]
      refine pt_take hl s1 (fun h2 s2 => ?_)
      simp only [j_ref, j_ari, j_arb, j_arr, j_len, j_nar, j_oi, j_ol, j_of, j_od, j_or, j_ov, true_and, and_true]
      refine sf_set hl s2 hn (k := 3) (by omega) (fun h3 s3 => ?_)
      simp only [j_ref, j_ari, j_arb, j_arr, j_len, j_nar, j_oi, j_ol, j_of, j_od, j_or, j_ov, true_and, and_true]
      refine b_X5_readOption_167 hG ?_
      dsimp only [q_X5_readOption_167, j_wp, j_opB, j_opA, j_nth, j_i1, j_i2, j_l1, j_l2, j_li, j_f1, j_f2, j_d1, j_d2, j_r1, j_ai, j_aii, j_ail, j_aid, j_air, j_st1, j_st2, j_stu, j_kl, j_cond, j_args, j_out, j_few, j_cw, j_nat, j_pad, j_exp, Nat.reduceAdd]
      exact H h3 s3
    · simp only [g18, if_false, Bool.false_eq_true, if_true] at H ⊢
      refine b_X5_readOption_71 hG ?_
      dsimp only [q_X5_readOption_71, j_wp, j_opB, j_opA, j_nth, j_i1, j_i2, j_l1, j_l2, j_li, j_f1, j_f2, j_d1, j_d2, j_r1, j_ai, j_aii, j_ail, j_aid, j_air, j_st1, j_st2, j_stu, j_kl, j_cond, j_args, j_out, j_few, j_cw, j_nat, j_pad, j_exp, Nat.reduceAdd]
      refine pt_isW hl hJ s 19 rfl (by omega) ?_
      simp only [j_ref, j_ari, j_arb, j_arr, j_len, j_nar, j_oi, j_ol, j_of, j_od, j_or, j_ov, true_and, and_true]
      by_cases g19 : tIsW B p (wd "loss") = true
      · simp only [g19, if_true] at H ⊢
        rw [if_neg (by decide)]
        refine pt_next hl s (fun h1 s1 => ?_)
        simp only [SK_sh s1.2.1, SK_r0 s1.2.1, SK_2 s1.2.1, j_ref, j_ari, j_arb, j_arr, j_len, j_nar, j_oi, j_ol, j_of, j_od, j_or, j_ov, true_and, and_true]
        refine pt_take hl s1 (fun h2 s2 => ?_)
        simp only [j_ref, j_ari, j_arb, j_arr, j_len, j_nar, j_oi, j_ol, j_of, j_od, j_or, j_ov, true_and, and_true]
        refine sf_set hl s2 hn (k := 4) (by omega) (fun h3 s3 => ?_)
        simp only [j_ref, j_ari, j_arb, j_arr, j_len, j_nar, j_oi, j_ol, j_of, j_od, j_or, j_ov, true_and, and_true]
        refine b_X5_readOption_167 hG ?_
        dsimp only [q_X5_readOption_167, j_wp, j_opB, j_opA, j_nth, j_i1, j_i2, j_l1, j_l2, j_li, j_f1, j_f2, j_d1, j_d2, j_r1, j_ai, j_aii, j_ail, j_aid, j_air, j_st1, j_st2, j_stu, j_kl, j_cond, j_args, j_out, j_few, j_cw, j_nat, j_pad, j_exp, Nat.reduceAdd]
        exact H h3 s3
      · simp only [g19, if_false, Bool.false_eq_true, if_true] at H ⊢
        refine b_X5_readOption_106 hG ?_
        dsimp only [q_X5_readOption_106, j_wp, j_opB, j_opA, j_nth, j_i1, j_i2, j_l1, j_l2, j_li, j_f1, j_f2, j_d1, j_d2, j_r1, j_ai, j_aii, j_ail, j_aid, j_air, j_st1, j_st2, j_stu, j_kl, j_cond, j_args, j_out, j_few, j_cw, j_nat, j_pad, j_exp, Nat.reduceAdd]
        refine pt_isW hl hJ s 20 rfl (by omega) ?_
        simp only [j_ref, j_ari, j_arb, j_arr, j_len, j_nar, j_oi, j_ol, j_of, j_od, j_or, j_ov, true_and, and_true]
        by_cases g20 : tIsW B p (wd "late") = true
        · simp only [g20, if_true] at H ⊢
          rw [if_neg (by decide)]
          refine pt_next hl s (fun h1 s1 => ?_)
          simp only [SK_sh s1.2.1, SK_r0 s1.2.1, SK_2 s1.2.1, j_ref, j_ari, j_arb, j_arr, j_len, j_nar, j_oi, j_ol, j_of, j_od, j_or, j_ov, true_and, and_true]
          refine pt_take hl s1 (fun h2 s2 => ?_)
          simp only [j_ref, j_ari, j_arb, j_arr, j_len, j_nar, j_oi, j_ol, j_of, j_od, j_or, j_ov, true_and, and_true]
          refine sf_set hl s2 hn (k := 5) (by omega) (fun h3 s3 => ?_)
          simp only [SK_sh s3.2.1, SK_r0 s3.2.1, SK_2 s3.2.1, j_ref, j_ari, j_arb, j_arr, j_len, j_nar, j_oi, j_ol, j_of, j_od, j_or, j_ov, true_and, and_true]
          refine pt_take hl s3 (fun h4 s4 => ?_)
          simp only [j_ref, j_ari, j_arb, j_arr, j_len, j_nar, j_oi, j_ol, j_of, j_od, j_or, j_ov, true_and, and_true]
          refine sf_set hl s4 (r := sN S) hn (k := 6) (by omega) (fun h5 s5 => ?_)
          simp only [j_ref, j_ari, j_arb, j_arr, j_len, j_nar, j_oi, j_ol, j_of, j_od, j_or, j_ov, true_and, and_true]
          refine b_X5_readOption_167 hG ?_
          dsimp only [q_X5_readOption_167, j_wp, j_opB, j_opA, j_nth, j_i1, j_i2, j_l1, j_l2, j_li, j_f1, j_f2, j_d1, j_d2, j_r1, j_ai, j_aii, j_ail, j_aid, j_air, j_st1, j_st2, j_stu, j_kl, j_cond, j_args, j_out, j_few, j_cw, j_nat, j_pad, j_exp, Nat.reduceAdd]
          exact H h5 s5
        · simp only [g20, if_false, Bool.false_eq_true, if_true] at H ⊢
          refine b_X5_readOption_162 hG ?_
          dsimp only [q_X5_readOption_162, j_wp, j_opB, j_opA, j_nth, j_i1, j_i2, j_l1, j_l2, j_li, j_f1, j_f2, j_d1, j_d2, j_r1, j_ai, j_aii, j_ail, j_aid, j_air, j_st1, j_st2, j_stu, j_kl, j_cond, j_args, j_out, j_few, j_cw, j_nat, j_pad, j_exp, Nat.reduceAdd]
          refine pt_fail hl s (fun h1 s1 => ?_)
          simp only [j_ref, j_ari, j_arb, j_arr, j_len, j_nar, j_oi, j_ol, j_of, j_od, j_or, j_ov, true_and, and_true]
          refine b_X5_readOption_167 hG ?_
          dsimp only [q_X5_readOption_167, j_wp, j_opB, j_opA, j_nth, j_i1, j_i2, j_l1, j_l2, j_li, j_f1, j_f2, j_d1, j_d2, j_r1, j_ai, j_aii, j_ail, j_aid, j_air, j_st1, j_st2, j_stu, j_kl, j_cond, j_args, j_out, j_few, j_cw, j_nat, j_pad, j_exp, Nat.reduceAdd]
          exact H h1 s1
theorem sOption_N {B : Nat → Int32} {len : Nat} {p : Tk} {S : Sup} : sN (sOption B len p S).2 = sN S ∧ sM (sOption B len p S).2 = sM S := by
  unfold sOption
  split
  · exact ⟨rfl, rfl⟩
  · split
    · exact ⟨rfl, rfl⟩
    · split
      · exact ⟨rfl, rfl⟩
      · split <;> exact ⟨rfl, rfl⟩
theorem sOptions_N {B : Nat → Int32} {len : Nat} : ∀ {k : Nat} {p : Tk} {S : Sup}, sN (sOptions B len k p S).2 = sN S ∧ sM (sOptions B len k p S).2 = sM S := by
  intro k
  induction k with
  | zero => intro p S; exact ⟨rfl, rfl⟩
  | succ k ih =>
    intro p S
    unfold sOptions
    split
    · have := ih (p := (sOption B len p S).1) (S := (sOption B len p S).2)
      have h2 := sOption_N (B := B) (len := len) (p := p) (S := S)
      exact ⟨this.1.trans h2.1, this.2.trans h2.2⟩
    · exact ⟨rfl, rfl⟩
set_option maxRecDepth 8000 in
theorem sp_X5_readFlow (hl : l.stackTraces = false) (hJ : JS l D bs E) (s : PT E bs h0 x u B sz len p S h) (H : ∀ h', PT E bs h0 x u B sz len (sFlow B len p S).1 (sFlow B len p S).2 h' → Q (.inl none) h') : j_Met l D bs E (d + 6) n_X5_readFlow [.ref u, .ref x] h Q := by
  have hB := s.2.2.2.1
  have hn6 := SK_n s.2.1
  unfold sFlow at H
  refine j_meth hl rfl g_X5_readFlow (Nat.le_of_ble_eq_true rfl) (fun _ => ⟨_, _, rfl, s.2.1.1⟩) hB.1 hB.2 (fun G hG => ?_)
  have loop : ∀ (k i : Nat) (p1 : Tk) (S1 : Sup) (h1 : j_H), i + k = 800 → sN S1 < 6 → PT E bs h0 x u B sz len p1 S1 h1 → (∀ h', PT E bs h0 x u B sz len (tSign B len (sOptions B len k p1 S1).1 59) (ssN (sOptions B len k p1 S1).2 (sN (sOptions B len k p1 S1).2 + 1)) h' → Q (.inl none) h') → G 125 [.ref u, .ref x, .int (nI i)] [] h1 := by
    intro k
    have fin : ∀ (p1 : Tk) (S1 : Sup) (h1 : j_H) (i : Nat), sN S1 < 6 → PT E bs h0 x u B sz len p1 S1 h1 → (∀ h', PT E bs h0 x u B sz len (tSign B len p1 59) (ssN S1 (sN S1 + 1)) h' → Q (.inl none) h') → G 151 [.ref u, .ref x, .int (nI i)] [] h1 := by
      intro p1 S1 h1 i hn s1 H
      refine b_X5_readFlow_151 hG ?_
      dsimp only [q_X5_readFlow_151, j_wp, j_opB, j_opA, j_nth, j_i1, j_i2, j_l1, j_l2, j_li, j_f1, j_f2, j_d1, j_d2, j_r1, j_ai, j_aii, j_ail, j_aid, j_air, j_st1, j_st2, j_stu, j_kl, j_cond, j_args, j_out, j_few, j_cw, j_nat, j_pad, j_exp, Nat.reduceAdd]
      refine pt_sign hl s1 (c := 59) (fun h2 s2 => ?_)
      simp only [SK_sh s2.2.1, SK_2 s2.2.1, j_ref, j_ari, j_arb, j_arr, j_len, j_nar, j_oi, j_ol, j_of, j_od, j_or, j_ov, true_and, and_true]
      rw [nI_1]
      exact H _ (PT_N s2 (by omega))
    induction k with
    | zero =>
      intro i p1 S1 h1 hi hn s1 H
      have e : i = 800 := by omega
      subst e
      refine b_X5_readFlow_125 hG ?_
      dsimp only [q_X5_readFlow_125, j_wp, j_opB, j_opA, j_nth, j_i1, j_i2, j_l1, j_l2, j_li, j_f1, j_f2, j_d1, j_d2, j_r1, j_ai, j_aii, j_ail, j_aid, j_air, j_st1, j_st2, j_stu, j_kl, j_cond, j_args, j_out, j_few, j_cw, j_nat, j_pad, j_exp, Nat.reduceAdd]
      rw [if_neg (show ¬ nI 800 < 800 by decide)]
      exact fin p1 S1 h1 800 hn s1 H
    | succ k ih =>
      intro i p1 S1 h1 hi hn s1 H
      have hk1 := s1.2.2.2.2.2.1.1
      unfold sOptions at H
      refine b_X5_readFlow_125 hG ?_
      dsimp only [q_X5_readFlow_125, j_wp, j_opB, j_opA, j_nth, j_i1, j_i2, j_l1, j_l2, j_li, j_f1, j_f2, j_d1, j_d2, j_r1, j_ai, j_aii, j_ail, j_aid, j_air, j_st1, j_st2, j_stu, j_kl, j_cond, j_args, j_out, j_few, j_cw, j_nat, j_pad, j_exp, Nat.reduceAdd]
      rw [if_pos (show nI i < 800 from nI_lt (b := 800) (by omega) (by omega))]
      simp only [TX_sh s1.1, TX_3 s1.1, j_ref, j_ari, j_arb, j_arr, j_len, j_nar, j_oi, j_ol, j_of, j_od, j_or, j_ov, true_and, and_true]
      by_cases g : tkK p1 = 2
      · rw [if_pos g] at H
        rw [if_pos (show nI (tkK p1) = 2 by rw [g]; decide)]
        refine sp_X5_readOption hl hJ s1 hn (fun h2 s2 => ?_)
        simp only [j_ref, j_ari, j_arb, j_arr, j_len, j_nar, j_oi, j_ol, j_of, j_od, j_or, j_ov, true_and, and_true]
        rw [nI_1]
        exact ih (i + 1) _ _ h2 (by omega) (by rw [sOption_N.1]; exact hn) s2 H
      · rw [if_neg g] at H
        rw [if_neg (show ¬ nI (tkK p1) = 2 from fun z => g ((nI_eq (by omega) (by omega)).mp (show nI (tkK p1) = nI 2 from z)))]
        exact fin p1 S1 h1 i hn s1 H
  refine b_X5_readFlow_0 hG ?_
  dsimp only [q_X5_readFlow_0, j_wp, j_opB, j_opA, j_nth, j_i1, j_i2, j_l1, j_l2, j_li, j_f1, j_f2, j_d1, j_d2, j_r1, j_ai, j_aii, j_ail, j_aid, j_air, j_st1, j_st2, j_stu, j_kl, j_cond, j_args, j_out, j_few, j_cw, j_nat, j_pad, j_exp, Nat.reduceAdd]
  simp only [SK_sh s.2.1, SK_2 s.2.1, j_ref, j_ari, j_arb, j_arr, j_len, j_nar, j_oi, j_ol, j_of, j_od, j_or, j_ov, true_and, and_true]
  by_cases g : sN S < 6
  · rw [if_pos g] at H
    rw [if_pos (show nI (sN S) < 6 from nI_lt (b := 6) g (by omega))]
    refine b_X5_readFlow_15 hG ?_
    dsimp only [q_X5_readFlow_15, j_wp, j_opB, j_opA, j_nth, j_i1, j_i2, j_l1, j_l2, j_li, j_f1, j_f2, j_d1, j_d2, j_r1, j_ai, j_aii, j_ail, j_aid, j_air, j_st1, j_st2, j_stu, j_kl, j_cond, j_args, j_out, j_few, j_cw, j_nat, j_pad, j_exp, Nat.reduceAdd]
    refine pt_next hl s (fun h1 s1 => ?_)
    simp only [SK_sh s1.2.1, SK_r0 s1.2.1, SK_2 s1.2.1, j_ref, j_ari, j_arb, j_arr, j_len, j_nar, j_oi, j_ol, j_of, j_od, j_or, j_ov, true_and, and_true]
    refine pt_take hl s1 (fun h2 s2 => ?_)
    simp only [j_ref, j_ari, j_arb, j_arr, j_len, j_nar, j_oi, j_ol, j_of, j_od, j_or, j_ov, true_and, and_true]
    refine sf_set hl s2 g (k := 0) (by omega) (fun h3 s3 => ?_)
    simp only [SK_sh s3.2.1, SK_r0 s3.2.1, SK_2 s3.2.1, j_ref, j_ari, j_arb, j_arr, j_len, j_nar, j_oi, j_ol, j_of, j_od, j_or, j_ov, true_and, and_true]
    refine pt_take hl s3 (fun h4 s4 => ?_)
    simp only [j_ref, j_ari, j_arb, j_arr, j_len, j_nar, j_oi, j_ol, j_of, j_od, j_or, j_ov, true_and, and_true]
    refine sf_set hl s4 (r := sN S) g (k := 1) (by omega) (fun h5 s5 => ?_)
    simp only [SK_sh s5.2.1, SK_r0 s5.2.1, SK_2 s5.2.1, j_ref, j_ari, j_arb, j_arr, j_len, j_nar, j_oi, j_ol, j_of, j_od, j_or, j_ov, true_and, and_true]
    refine sf_set hl s5 (r := sN S) g (k := 2) (by omega) (fun h6 s6 => ?_)
    simp only [SK_sh s6.2.1, SK_r0 s6.2.1, SK_2 s6.2.1, j_ref, j_ari, j_arb, j_arr, j_len, j_nar, j_oi, j_ol, j_of, j_od, j_or, j_ov, true_and, and_true]
    refine sf_set hl s6 (r := sN S) g (k := 3) (by omega) (fun h7 s7 => ?_)
    simp only [SK_sh s7.2.1, SK_r0 s7.2.1, SK_2 s7.2.1, j_ref, j_ari, j_arb, j_arr, j_len, j_nar, j_oi, j_ol, j_of, j_od, j_or, j_ov, true_and, and_true]
    refine sf_set hl s7 (r := sN S) g (k := 4) (by omega) (fun h8 s8 => ?_)
    simp only [SK_sh s8.2.1, SK_r0 s8.2.1, SK_2 s8.2.1, j_ref, j_ari, j_arb, j_arr, j_len, j_nar, j_oi, j_ol, j_of, j_od, j_or, j_ov, true_and, and_true]
    refine sf_set hl s8 (r := sN S) g (k := 5) (by omega) (fun h9 s9 => ?_)
    simp only [SK_sh s9.2.1, SK_r0 s9.2.1, SK_2 s9.2.1, j_ref, j_ari, j_arb, j_arr, j_len, j_nar, j_oi, j_ol, j_of, j_od, j_or, j_ov, true_and, and_true]
    refine sf_set hl s9 (r := sN S) g (k := 6) (by omega) (fun h10 s10 => ?_)
    simp only [j_ref, j_ari, j_arb, j_arr, j_len, j_nar, j_oi, j_ol, j_of, j_od, j_or, j_ov, true_and, and_true]
    dsimp only [sFlow0] at H
    refine loop 800 0 _ _ h10 (by omega) ?_ s10 ?_
    · exact g
    · exact H
  · rw [if_neg g] at H
    rw [if_neg (show ¬ nI (sN S) < 6 from nI_nlt (b := 6) (by omega) (by omega))]
    refine pt_fail hl s (fun h1 s1 => ?_)
    simp only [j_ref, j_ari, j_arb, j_arr, j_len, j_nar, j_oi, j_ol, j_of, j_od, j_or, j_ov, true_and, and_true]
    exact H h1 s1
end Set2

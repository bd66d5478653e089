/-! ===== class and reference held together: what a tick asks for; forecasts ===== -/
section KOk
variable {nf np ns c : Nat} {q : Nat → List Nat} {sf : Nat → Nat} {L L' : Lnk} {M M' : Rf}
theorem kc_w64 {w : Nat} (h1 : 1 ≤ w) (h2 : w ≤ 16) {x : Int32} (e : x = nI w) : ¬ x.toInt64 = 0 := by
  rw [e, nI_l (by omega)]
  intro z
  have := (lN_eq (a := w) (b := 0) (by omega) (by omega)).mp z
  omega
theorem kc_lRef (h : kSt nf np ns c q sf L M) (hz : kZ np sf M) {n p f : Nat} (hn : n < ns) (hp : p < np) (hf : f < nf) (e1 : rS M n 0 = nI p) (e2 : rP M p 0 = nI f) : lRef L n p f := by
  have hb := h.1
  have e3 : lS L n 0 = nI p := ((h.2.2.2.2.2.1 n hn).1 0 (by omega)).trans e1
  have e4 : lP L p 0 = nI f := (h.2.2.2.2.1 p 0 hp (by omega)).trans e2
  refine ⟨by omega, by omega, e3, e4, fun s => ?_⟩
  have s0 : sf p = 0 := by
    have := (h.2.2.2.2.1 p 3 hp (by omega)).symm.trans s
    have z := hz p hp
    exact (nI_eq (by omega) (by omega)).mp (z.1.symm.trans this)
  have hm := kc_mem h hf hp e2 s0
  have hin := fun {x : Nat} (hx : x ∈ q f) => kc_in h hf hx
  obtain ⟨l1, l2, eq⟩ := List.append_of_mem hm
  obtain ⟨_, ⟨z17, _, zc⟩, _⟩ := h.2.2.2.2.2.2.2.1 f hf
  rw [z17, eq]
  rw [eq] at zc
  exact kc_lOk zc (fun x hx => hin (by rw [eq]; simp [hx]))
theorem kc_rRef (h : kSt nf np ns c q sf L M) (hz : kZ np sf M) {n p f : Nat} (hn : n < ns) (hp : p < np) (hf : f < nf) (e1 : rS M n 0 = nI p) (e2 : rP M p 0 = nI f) : rRef M n p f := by
  have hb := h.1
  have hl := kc_ql h hf
  obtain ⟨⟨z7, _⟩, _, znd, zm⟩ := h.2.2.2.2.2.2.2.1 f hf
  refine ⟨by omega, by omega, e1, e2, (q f).length, by omega, z7, fun s => ?_⟩
  have z := hz p hp
  have s1 : sf p = 1 := (nI_eq (by omega) (by omega)).mp (z.1.symm.trans s)
  have hno : p ∉ q f := fun y => absurd ((zm p).mp y).2.2 (by omega)
  have := kc_len (n := np) (List.nodup_cons.mpr ⟨hno, znd⟩) (fun x hx => by
    rcases List.mem_cons.mp hx with y | y
    · omega
    · exact ((zm x).mp y).1)
  rw [List.length_cons] at this
  omega
/-- what the sending comes to -/
theorem kc_next (h : kI nf np ns c L M) (hs : ¬ rServe M nf = -1) : ∃ f p, f < nf ∧ p < np ∧ rServe M nf = nI f ∧ lServe L nf = nI f ∧ rQ M f 0 = nI p ∧ lF L f 17 = nI p ∧ rP M p 0 = nI f ∧ (∃ n, n ≤ 100 ∧ rF M f 7 = nI n) ∧ ¬ (rF M f 0).toInt64 = 0 ∧ (ns < 300 → rDo M nf = rSend M f p ns ∧ kI nf np (ns + 1) c (lSend1 L ns f p) (rSend M f p ns)) ∧ rFirst M nf = p := by
  obtain ⟨q, sf, hst, hz⟩ := h
  have hb := hst.1
  obtain ⟨sv, sv2⟩ := kc_serve hst
  rcases sv2 with ⟨z, _⟩ | ⟨f, p, r, f1, f2, f3⟩
  · exact absurd z hs
  · have hl := kc_ql hst f1
    obtain ⟨⟨z7, zq⟩, ⟨z17, _, _⟩, _, zm⟩ := hst.2.2.2.2.2.2.2.1 f f1
    have hp := (zm p).mp (by rw [f3]; simp)
    have tf : tn (nI f) = f := nI_clamp (by omega)
    have tp : tn (nI p) = p := nI_clamp (by omega)
    have e17 : lF L f 17 = nI p := by rw [z17, f3]; rfl
    have eQ : rQ M f 0 = nI p := zq 0 p (by rw [f3]; rfl)
    have eFi : rFirst M nf = p := by unfold rFirst; rw [f2, tf, eQ, tp]
    have e3 : rX M 3 = nI ns := hst.2.1.2.2.2.1.2
    obtain ⟨w, w1, w2, w3⟩ := (hst.2.2.2.2.2.2.1.2.2 f f1).1
    refine ⟨f, p, f1, hp.1, f2, sv.trans f2, eQ, e17, hp.2.1, ⟨_, by omega, z7⟩, kc_w64 w1 w2 w3, fun h3 => ⟨?_, ?_⟩, eFi⟩
    · unfold rDo
      rw [f2, tf, eFi, e3, show tn (nI ns) = ns from nI_clamp (by omega)]
    · obtain ⟨q', sf', y1, y2⟩ := kc_send hst hz h3 f1 hp.1 hp.2.1 hp.2.2
      exact ⟨q', sf', y1, y2⟩
theorem kc_rOk (h : kI nf np ns c L M) (hc : c < 2 ^ 29) : rTickOk nf M := by
  obtain ⟨q0, sf0, hst0, hz0⟩ := id h
  refine ⟨fun M => ∃ L, kI nf np ns c L M, fun M => ∃ n L, kI nf np n c L M, ns, c, hst0.1.1, hst0.1.2.2, by omega, hst0.2.1.2.2.2.2.1.2, ⟨L, h⟩, ?_, ?_, ?_, ?_, ?_⟩
  · rintro M ⟨L, q, sf, hst, _⟩
    exact hst.2.1.2.2.2.1.2
  · rintro M n ⟨L, hI⟩ hn _
    obtain ⟨p, f, hp, hf, e1, e2, _⟩ := kc_flow hI hn
    obtain ⟨q, sf, hst, hz⟩ := hI
    obtain ⟨q', sf', y1, y2⟩ := kc_ack hst hz hn hp hf e2
    exact ⟨p, f, kc_rRef hst hz hn hp hf e1 e2, _, q', sf', y1, y2⟩
  · rintro M n ⟨L, hI⟩ hn _ _
    obtain ⟨p, f, hp, hf, e1, e2, _⟩ := kc_flow hI hn
    obtain ⟨q, sf, hst, hz⟩ := hI
    obtain ⟨q', sf', y1, y2⟩ := kc_lose hst hz hn hp hf e1 e2
    exact ⟨p, f, kc_rRef hst hz hn hp hf e1 e2, _, q', sf', y1, y2⟩
  · rintro M ⟨L, q, sf, hst, hz⟩
    exact ⟨ns, _, q, sf, kc_X12 hst (rCred M), hz⟩
  · rintro M ⟨n, L, hI⟩
    obtain ⟨q, sf, hst, hz⟩ := id hI
    have hb := hst.1
    refine ⟨hst.2.1.1.2, hst.2.1.2.2.2.2.1.2, ⟨n, hb.2.2, hst.2.1.2.2.2.1.2, fun i hi => ?_⟩, fun hs => ?_, fun hcan => ?_⟩
    · obtain ⟨p, hp, e⟩ := hst.2.2.2.2.2.2.1.2.1 i hi
      exact ⟨p, by omega, e⟩
    · obtain ⟨f, p, f1, p1, g1, g2, g3, g4, g5, ⟨m, m1, m2⟩, g6, _⟩ := kc_next hI hs
      exact ⟨f, p, m, by omega, by omega, g1, g3, g5, m1, m2, g6⟩
    · unfold rCan at hcan
      simp only [Bool.and_eq_true, decide_eq_true_eq] at hcan
      obtain ⟨c1, c2, _⟩ := hcan
      obtain ⟨f, p, _, _, _, _, _, _, _, _, _, g7, _⟩ := kc_next hI c1
      have hn : n < 300 := by
        rcases Nat.lt_or_ge n 300 with z | z
        · exact z
        · have : n = 300 := by omega
          exact absurd (by rw [hst.2.1.2.2.2.1.2, this]; rfl) c2
      obtain ⟨k1, k2⟩ := g7 hn
      rw [k1]
      exact ⟨n + 1, _, k2⟩
theorem kc_lOk2 (h : kI nf np ns c L M) (ho : kO nf ns L M) (hd : kD ns c L M) (hc : c < 2 ^ 29) : lTickOk nf L := by
  obtain ⟨L1, M1, eL1, eM1, a1, _⟩ := kc_settle h ho hd hc
  obtain ⟨dl, tm, fo, _, _, _, hfo, e15, _, _⟩ := hd
  obtain ⟨q0, sf0, hst0, hz0⟩ := id h
  have hb0 := hst0.1
  refine ⟨hb0.1, fun _ => ⟨fun L => (∃ M, kI nf np ns c L M) ∧ lX L 15 = nI fo, fo, ns, hfo, hb0.2.2, ⟨⟨M, h⟩, e15⟩, ?_, ?_, ?_⟩, fun n L => ∃ M, kI nf np n c L M, ns, hb0.2.2, ?_, ?_⟩
  · rintro L ⟨⟨M, q, sf, hst, _⟩, e⟩
    exact ⟨hst.2.1.2.2.2.1.1, e⟩
  · rintro L n ⟨⟨M, hI⟩, e⟩ _ hn _
    obtain ⟨p, f, hp, hf, e1, e2, _⟩ := kc_flow hI hn
    obtain ⟨q, sf, hst, hz⟩ := hI
    obtain ⟨q', sf', y1, y2⟩ := kc_ack hst hz hn hp hf e2
    exact ⟨p, f, kc_lRef hst hz hn hp hf e1 e2, ⟨_, q', sf', y1, y2⟩, by rw [(kc_lAck_fr L n p f).1 15 (by omega) (by omega)]; exact e⟩
  · rintro L n ⟨⟨M, hI⟩, e⟩ _ hn _ _
    obtain ⟨p, f, hp, hf, e1, e2, _⟩ := kc_flow hI hn
    obtain ⟨q, sf, hst, hz⟩ := hI
    obtain ⟨q', sf', y1, y2⟩ := kc_lose hst hz hn hp hf e1 e2
    exact ⟨p, f, kc_lRef hst hz hn hp hf e1 e2, ⟨_, q', sf', y1, y2⟩, by rw [(kc_lLose_fr L n p f).1 15 (by omega)]; exact e⟩
  · rintro n L ⟨M, hI⟩
    obtain ⟨q, sf, hst, hz⟩ := id hI
    have hb := hst.1
    refine ⟨hst.2.1.1.1, fun hn h13 => ?_⟩
    have hs : ¬ rServe M nf = -1 := fun z => by
      rw [(kc_any hst).1 z] at h13
      exact absurd h13 Int32.lt_irrefl
    obtain ⟨f, p, f1, p1, g1, g2, g3, g4, g5, _, _, g7, _⟩ := kc_next hI hs
    exact ⟨f, p, by omega, by omega, g2, g4, fun _ => ⟨_, (g7 hn).2⟩⟩
  · rw [eL1]
    obtain ⟨q, sf, hst, hz⟩ := a1
    exact ⟨hst.2.1.2.2.2.1.1, ⟨_, q, sf, kc_X12 hst _, hz⟩⟩
/-- all that holds between two ticks -/
def kFu (nf np c : Nat) (L : Lnk) (M : Rf) : Prop := ∃ ns, kI nf np ns c L M ∧ kO nf ns L M ∧ kD ns c L M
theorem kc_fuT (h : kFu nf np c L M) (hc : c < 2 ^ 29) : kFu nf np (c + 1) (lTick nf L) (rTick nf M) ∧ rTickOk nf M ∧ lTickOk nf L := by
  obtain ⟨ns, h1, h2, h3⟩ := h
  obtain ⟨ns', a1, a2, a3, _⟩ := kc_tick h1 h2 h3 hc
  exact ⟨⟨ns', a1, a2, a3⟩, kc_rOk h1 hc, kc_lOk2 h1 h2 h3 hc⟩
theorem kc_fuP (h : kFu nf np c L M) {p k : Nat} (hp : p < np) (hk : k < 9) : lP L p k = rP M p k := by
  obtain ⟨ns, ⟨q, sf, hst, _⟩, _⟩ := h
  exact hst.2.2.2.2.1 p k hp hk
theorem kc_restT (h : kFu nf np c L M) (hc : c < 2 ^ 29) (hr : lRest L = true) : lP (lTick nf L) = lP L ∧ lRest (lTick nf L) = true := by
  obtain ⟨ns, ⟨q, sf, hst, _⟩, _⟩ := h
  have hb := hst.1
  have e11 : lX L 11 = nI c := hst.2.1.2.2.2.2.1.1
  have e10 : lX L 10 = nI ns := hst.2.1.2.2.2.1.1
  have hr' := hr
  unfold lRest at hr
  simp only [Bool.and_eq_true, Bool.or_eq_true, decide_eq_true_eq, Bool.not_eq_true', decide_eq_false_iff_not] at hr
  obtain ⟨e16, h2⟩ := hr
  have g : lX L 11 < lX L 16 := by rw [e11, e16, kc_never]; exact nI_lt (by omega) (by omega)
  have eS : ∀ v, lSendQ nf (300 - ns) ns (lsX L 12 v) = lsX L 12 v := fun v => by
    rcases h2 with z | z
    · cases e : 300 - ns with
      | zero => rfl
      | succ k =>
        have : ¬ (0 : Int32) < lX (lsX L 12 v) 13 := by
          show ¬ 0 < lX L 13
          rw [z]; exact Int32.lt_irrefl
        show (if 0 < lX (lsX L 12 v) 13 then _ else _) = _
        rw [if_neg this]
    · have : ns = 300 := by
        rcases Nat.lt_or_ge ns 300 with y | y
        · exact absurd (show lX L 10 < 300 by rw [e10]; exact nI_lt (b := 300) y (by omega)) z
        · omega
      rw [this]; rfl
  have eT : ∃ v w, lTick nf L = lsX (lsX L 12 v) 11 w := by
    unfold lTick
    rw [if_pos g]
    dsimp only
    have e10' : ∀ v, lX (lsX L 12 v) 10 = nI ns := fun v => e10
    rw [e10', show tn (nI ns) = ns from nI_clamp (by omega), eS]
    generalize (if 100000 < lX L 12 + lX L 6 then 100000 else lX L 12 + lX L 6) = v
    by_cases e : lX (lsX L 12 v) 13 = 0
    · rw [if_pos e, lsX_lsX]
      exact ⟨_, _, rfl⟩
    · rw [if_neg e]
      exact ⟨_, _, rfl⟩
  obtain ⟨v, w, e⟩ := eT
  rw [e]
  exact ⟨rfl, hr'⟩
theorem kc_rest : ∀ (k d c : Nat) (L : Lnk) (M : Rf) {p : Nat}, p < np → kFu nf np c L M → c + k < 2 ^ 29 → lRest L = true → ¬ rP M p 3 = 2 → rTil nf p k d M = -1 := by
  intro k
  induction k with
  | zero =>
    intro d c L M p _ _ _ _ h3
    show (if rP M p 3 = 2 then nI d else -1) = -1
    rw [if_neg h3]
  | succ k ih =>
    intro d c L M p hp h hc hr h3
    show (if rP M p 3 = 2 then nI d else rTil nf p k (d + 1) (rTick nf M)) = -1
    rw [if_neg h3]
    obtain ⟨a1, _⟩ := kc_fuT h (by omega)
    obtain ⟨b1, b2⟩ := kc_restT h (by omega) hr
    refine ih (d + 1) (c + 1) (lTick nf L) (rTick nf M) hp a1 (by omega) b2 ?_
    rw [← kc_fuP a1 hp (by omega), b1, kc_fuP h hp (by omega)]
    exact h3
/-- the forecasts are the same -/
theorem kc_til : ∀ (k d c : Nat) (L : Lnk) (M : Rf) {p : Nat}, p < np → kFu nf np c L M → c + k < 2 ^ 29 → lTicks nf p (k + 1) d L = rTil nf p k d M := by
  intro k
  induction k with
  | zero =>
    intro d c L M p hp h hc
    show (if lP L p 3 = 2 then nI d else if lRest L = true then -1 else -1) = (if rP M p 3 = 2 then nI d else -1)
    rw [kc_fuP h hp (by omega)]
    split
    · rfl
    · split <;> rfl
  | succ k ih =>
    intro d c L M p hp h hc
    show (if lP L p 3 = 2 then nI d else if lRest L = true then -1 else lTicks nf p (k + 1) (d + 1) (lTick nf L)) = (if rP M p 3 = 2 then nI d else rTil nf p k (d + 1) (rTick nf M))
    rw [kc_fuP h hp (by omega)]
    by_cases g : rP M p 3 = 2
    · rw [if_pos g, if_pos g]
    · rw [if_neg g, if_neg g]
      obtain ⟨a1, _⟩ := kc_fuT h (by omega)
      by_cases g2 : lRest L = true
      · rw [if_pos g2]
        obtain ⟨b1, b2⟩ := kc_restT h (by omega) g2
        refine (kc_rest k (d + 1) (c + 1) (lTick nf L) (rTick nf M) hp a1 (by omega) b2 ?_).symm
        rw [← kc_fuP a1 hp (by omega), b1, kc_fuP h hp (by omega)]
        exact g
      · rw [if_neg g2]
        exact ih (d + 1) (c + 1) _ _ hp a1 (by omega)
/-- another weight -/
theorem kc_fuW (h : kFu nf np c L M) {f w : Nat} (h1 : 1 ≤ w) (h2 : w ≤ 16) : kFu nf np c (lsF L f 0 (nI w)) (rsF M f 0 (nI w)) := by
  obtain ⟨ns, ⟨q, sf, hst, hz⟩, ho, hd⟩ := h
  refine ⟨ns, ⟨q, sf, kc_W hst h1 h2, hz⟩, fun g hg => ?_, hd⟩
  refine Eq.trans ?_ (ho g hg)
  show j_up (lF L) f 0 (nI w) g 16 = _
  rw [ju_n (by omega)]
end KOk

/-! ===== the reference: a delivered packet's tick is a clock's ===== -/
section K5
variable {M M' M'' : Rf} {p f n ns nf : Nat}
/-- since M, a packet was delivered at M's clock or not at all -/
def R5 (M M' : Rf) : Prop := rX M' 4 = rX M 4 ∧ ∀ p, rP M' p 3 = 2 → (rP M p 3 = 2 ∧ rP M' p 5 = rP M p 5) ∨ rP M' p 5 = rX M 4
theorem R5_rf : R5 M M := ⟨rfl, fun p h => Or.inl ⟨h, rfl⟩⟩
theorem R5_tr (a : R5 M M') (b : R5 M' M'') : R5 M M'' := ⟨b.1.trans a.1, fun p h => by
  rcases b.2 p h with ⟨h1, e1⟩ | e1
  · rcases a.2 p h1 with ⟨h2, e2⟩ | e2
    · exact Or.inl ⟨h2, e1.trans e2⟩
    · exact Or.inr (e1.trans e2)
  · exact Or.inr (e1.trans a.1)⟩
theorem R5_of (e1 : rX M' 4 = rX M 4) (e2 : rP M' = rP M) : R5 M M' := ⟨e1, fun p h => Or.inl ⟨by rw [← e2]; exact h, by rw [e2]⟩⟩
theorem rsP_at (M : Rf) (p k q j : Nat) (v : Int32) : rP (rsP M p k v) q j = if q = p ∧ j = k then v else rP M q j := rfl
theorem R5_P {k : Nat} {v : Int32} (h3 : k ≠ 3) (h5 : k ≠ 5) : R5 M (rsP M p k v) := ⟨rfl, fun q h => by
  rw [rsP_at, if_neg (fun z => h3 z.2.symm)] at h
  exact Or.inl ⟨h, by rw [rsP_at, if_neg (fun z => h5 z.2.symm)]⟩⟩
theorem R5_3 {v : Int32} (hv : v ≠ 2) : R5 M (rsP M p 3 v) := ⟨rfl, fun q h => by
  rw [rsP_at] at h
  by_cases g : q = p
  · rw [if_pos ⟨g, rfl⟩] at h
    exact absurd h hv
  · rw [if_neg (fun z => g z.1)] at h
    exact Or.inl ⟨h, by rw [rsP_at, if_neg (fun z => g z.1)]⟩⟩
theorem R5_5 {v : Int32} (h0 : rP M p 3 ≠ 2) : R5 M (rsP M p 5 v) := ⟨rfl, fun q h => by
  rw [rsP_at, if_neg (fun z => absurd z.2 (by decide))] at h
  by_cases g : q = p
  · rw [g] at h
    exact absurd h h0
  · exact Or.inl ⟨h, by rw [rsP_at, if_neg (fun z => g z.1)]⟩⟩
theorem R5_del : R5 M (rsP (rsP M p 3 2) p 5 (rX M 4)) := ⟨rfl, fun q h => by
  by_cases g : q = p
  · exact Or.inr (by rw [rsP_at, if_pos ⟨g, rfl⟩])
  · rw [rsP_at, if_neg (fun z => g z.1), rsP_at, if_neg (fun z => g z.1)] at h
    exact Or.inl ⟨h, by rw [rsP_at, if_neg (fun z => g z.1), rsP_at, if_neg (fun z => g z.1)]⟩⟩
theorem R5_take : R5 M (rTake M f p) := R5_of (by rw [rTake_X]) (rTake_P M f p)
theorem R5_chg {v : Int32} : R5 M (rChg M n f v) := R5_of rfl rfl
theorem R5_refund : R5 M (rRefund M n f) := by
  unfold rRefund
  split
  · exact R5_chg
  · exact R5_rf
theorem R5_shift : ∀ (k : Nat) (M : Rf), R5 M (rShift f k M)
  | 0, _ => R5_rf
  | k + 1, M => R5_tr (M' := rsQ M f (k + 1) (rQ M f k)) (R5_of rfl rfl) (R5_shift k _)
theorem R5_putHead : R5 M (rPutHead M f p) := R5_tr (R5_shift _ M) (R5_of rfl rfl)
theorem R5_deliver0 : R5 M (rDeliver0 M n p f) := by
  have a : R5 M (rsF (rsP (rsP M p 3 2) p 5 (rX (rsP M p 3 2) 4)) f 9 (rF (rsP (rsP M p 3 2) p 5 (rX (rsP M p 3 2) 4)) f 9 + rP (rsP (rsP M p 3 2) p 5 (rX (rsP M p 3 2) 4)) p 1)) := R5_tr R5_del (R5_of rfl rfl)
  unfold rDeliver0
  dsimp only
  split
  · exact R5_tr a (R5_tr R5_chg (R5_of rfl rfl))
  · exact a
theorem R5_deliver : R5 M (rDeliver M n p f) := by
  unfold rDeliver
  split
  · exact R5_tr R5_take R5_deliver0
  · exact R5_deliver0
theorem R5_ack : R5 M (rAck M n p f) := by
  unfold rAck
  dsimp only
  have a : R5 M (rsS M n 3 (if rS M n 3 = 2 then 3 else 1)) := R5_of rfl rfl
  by_cases g : rP (rsS M n 3 (if rS M n 3 = 2 then 3 else 1)) p 3 = 2
  · rw [if_pos g]
    exact R5_tr a (R5_tr (M' := rsF (rsS M n 3 (if rS M n 3 = 2 then 3 else 1)) f 11 (rF (rsS M n 3 (if rS M n 3 = 2 then 3 else 1)) f 11 + 1)) (R5_of rfl rfl) R5_refund)
  · rw [if_neg g]
    exact R5_tr a R5_deliver
theorem R5_lose : R5 M (rLose M ns n p f) := by
  unfold rLose
  dsimp only
  have a : R5 M (rRefund (rsF (rsS M n 3 2) f 10 (rF (rsS M n 3 2) f 10 + 1)) n f) := R5_tr (M' := rsF (rsS M n 3 2) f 10 (rF (rsS M n 3 2) f 10 + 1)) (R5_of rfl rfl) R5_refund
  generalize rRefund (rsF (rsS M n 3 2) f 10 (rF (rsS M n 3 2) f 10 + 1)) n f = M3 at a ⊢
  split
  · split
    · exact R5_tr a (R5_3 (by decide))
    · exact R5_tr a (R5_tr (R5_3 (v := 0) (by decide)) R5_putHead)
  · exact a
theorem R5_ackL {c : Int32} : ∀ (k n : Nat) (M : Rf), R5 M (rAckLoop c k n M)
  | 0, _, _ => R5_rf
  | k + 1, n, M => by
    show R5 M (rAckLoop c k (n + 1) (if rS M n 2 = c then rAckAt M n else M))
    refine R5_tr ?_ (R5_ackL k (n + 1) _)
    split
    · exact R5_ack
    · exact R5_rf
theorem R5_loseL {c : Int32} : ∀ (k n : Nat) (M : Rf), R5 M (rLoseLoop c ns k n M)
  | 0, _, _ => R5_rf
  | k + 1, n, M => by
    show R5 M (rLoseLoop c ns k (n + 1) (if rS M n 3 = 0 ∧ ¬ c - rX M 8 < rS M n 1 then rLoseAt M ns n else M))
    refine R5_tr ?_ (R5_loseL k (n + 1) _)
    split
    · exact R5_lose
    · exact R5_rf
theorem R5_send : R5 M (rSend M f p n) := by
  unfold rSend
  dsimp only
  have a : R5 M (rsP (rsP (rTake M f p) p 3 1) p 4 (rP (rsP (rTake M f p) p 3 1) p 4 + 1)) := R5_tr (R5_tr R5_take (R5_3 (by decide))) (R5_P (by decide) (by decide))
  generalize rsP (rsP (rTake M f p) p 3 1) p 4 (rP (rsP (rTake M f p) p 3 1) p 4 + 1) = M3 at a ⊢
  exact R5_tr a (R5_of rfl rfl)
theorem R5_sendL : ∀ (k : Nat) (M : Rf), R5 M (rSendL nf k M)
  | 0, _ => R5_rf
  | k + 1, M => by
    show R5 M (if rCan M nf = true then rSendL nf k (rDo M nf) else M)
    split
    · exact R5_tr R5_send (R5_sendL k _)
    · exact R5_rf
theorem R5_arr {a b c sz : Int32} : R5 M (rArr M f p a b c sz) := by
  unfold rArr
  dsimp only
  have a1 : R5 M (rsP (rsP (rsP (rsX M 2 (rX M 2 + 1)) p 0 (nI f)) p 1 sz) p 2 (rX (rsP (rsP (rsX M 2 (rX M 2 + 1)) p 0 (nI f)) p 1 sz) 4)) := R5_tr (R5_tr (R5_tr (M' := rsX M 2 (rX M 2 + 1)) (R5_of rfl rfl) (R5_P (by decide) (by decide))) (R5_P (by decide) (by decide))) (R5_P (by decide) (by decide))
  generalize rsP (rsP (rsP (rsX M 2 (rX M 2 + 1)) p 0 (nI f)) p 1 sz) p 2 (rX (rsP (rsP (rsX M 2 (rX M 2 + 1)) p 0 (nI f)) p 1 sz) 4) = M4 at a1 ⊢
  have a2 : R5 M (rsP (rsP M4 p 3 0) p 4 0) := R5_tr (R5_tr a1 (R5_3 (by decide))) (R5_P (by decide) (by decide))
  have e2 : rP (rsP (rsP M4 p 3 0) p 4 0) p 3 ≠ 2 := by
    rw [rsP_at, if_neg (fun z => absurd z.2 (by decide)), rsP_at, if_pos ⟨rfl, rfl⟩]
    decide
  generalize rsP (rsP M4 p 3 0) p 4 0 = M6 at a2 e2 ⊢
  exact R5_tr (R5_tr (R5_tr (R5_tr (R5_tr a2 (R5_5 e2)) (R5_P (by decide) (by decide))) (R5_P (by decide) (by decide))) (R5_P (by decide) (by decide))) (R5_of rfl rfl)
theorem R5_forgive : R5 M (rForgive M nf ns f) := by
  unfold rForgive
  split
  · exact R5_of rfl rfl
  · exact R5_rf
/-- delivered packets bear a small tick -/
def k5 (M : Rf) : Prop := ∀ p, rP M p 3 = 2 → ∃ t, t < 10000000 ∧ rP M p 5 = nI t
theorem k5_R {c : Nat} (h : k5 M) (r : R5 M M') (hx : rX M 4 = nI c) (hc : c < 10000000) : k5 M' := fun p hp => by
  rcases r.2 p hp with ⟨h1, e⟩ | e
  · obtain ⟨t, ht, et⟩ := h p h1
    exact ⟨t, ht, e.trans et⟩
  · exact ⟨c, hc, e.trans hx⟩
theorem R5_set : R5 M (rSettle M) := R5_tr (R5_ackL _ _ _) (R5_loseL _ _ _)
theorem k5_tick {c : Nat} (h : k5 M) (hx : rX M 4 = nI c) (hc : c < 10000000) : k5 (rTick nf M) ∧ rX (rTick nf M) 4 = nI (c + 1) := by
  have a : R5 M (rSendL nf (300 - tn (rX (rSend0 (rSettle M)) 3)) (rSend0 (rSettle M))) := R5_tr (R5_tr R5_set (M'' := rSend0 (rSettle M)) (R5_of rfl rfl)) (R5_sendL _ _)
  unfold rTick
  generalize rSendL nf (300 - tn (rX (rSend0 (rSettle M)) 3)) (rSend0 (rSettle M)) = M4 at a ⊢
  have b : k5 M4 := k5_R h a hx hc
  refine ⟨fun p hp => b p hp, ?_⟩
  show rX M4 4 + 1 = _
  rw [a.1, hx, nI_1]
theorem k5_ticks : ∀ (k c : Nat) (M : Rf), k5 M → rX M 4 = nI c → c + k < 10000000 → k5 (rTicks nf k M)
  | 0, _, _, h, _, _ => h
  | k + 1, c, M, h, hx, hc => by
    obtain ⟨h1, h2⟩ := k5_tick (nf := nf) h hx (by omega)
    exact k5_ticks k (c + 1) (rTick nf M) h1 h2 (by omega)
theorem k5_F {k : Nat} {v : Int32} (h : k5 M) : k5 (rsF M f k v) := h
theorem k5_load {S : Sup} (h : rLoaded S M) : k5 M := fun p hp => by
  have z : rP M p 3 = 0 := h.1.2.2.2.2.2.1 p 3
  rw [z] at hp
  exact absurd hp (by decide)
/-- .. in all that is kept -/
def kU5 (M : Rf) (U : Nat → Rf) (uc : Nat) (Sn : Option Rf) : Prop := k5 M ∧ (∀ i, i < uc → k5 (U i)) ∧ ∀ K, Sn = some K → k5 K
def kAm (V : Ps) (M : Rf) (U : Nat → Rf) (uc : Nat) (Sn : Option Rf) : Prop := kAl V M U uc Sn ∧ kU5 M U uc Sn
theorem kU5_keep {U : Nat → Rf} {uc : Nat} {Sn : Option Rf} (h : kU5 M U uc Sn) (hu : uc ≤ 10) (h' : k5 M') : kU5 M' (rRem U uc M) (min (uc + 1) 10) Sn := by
  obtain ⟨h1, h2, h3⟩ := h
  refine ⟨h', fun i hi => ?_, h3⟩
  unfold rRem
  split
  · show k5 (if i = 9 then M else U (i + 1))
    split
    · exact h1
    · exact h2 _ (by omega)
  · show k5 (if i = uc then M else U i)
    split
    · exact h1
    · exact h2 _ (by omega)
end K5

section KSend
variable {nf np ns c : Nat} {q : Nat → List Nat} {sf : Nat → Nat} {L : Lnk} {M : Rf}
/-- the tick of an acknowledgment, out of the flow's numbers -/
def kc_at (lo n la lt c dl : Int32) : Int32 := if lDvd lo n = true then -1 else c + dl + (if lDvd la n = true then lt else 0)
/-- when a transmission is due, out of its numbers -/
def kc_du (t a s tm : Int32) : Int32 := if s = 0 then (if t + tm < (if ¬ a = -1 ∧ (s = 0 ∨ s = 2) then a else 2000000000) then t + tm else (if ¬ a = -1 ∧ (s = 0 ∨ s = 2) then a else 2000000000)) else (if ¬ a = -1 ∧ (s = 0 ∨ s = 2) then a else 2000000000)
theorem kc_du_e (L : Lnk) (n : Nat) : lDue L n = kc_du (lS L n 1) (lS L n 2) (lS L n 3) (lX L 8) := rfl
theorem kc_lSend (L : Lnk) (n f p : Nat) : lF (lSend L n f p) = j_up (j_up (lF L) f 9 (lF L f 9 + 1)) f 16 (lF L f 16 + 1) ∧ lP (lSend L n f p) = j_up (j_up (j_up (lP L) p 3 1) p 4 (lP L p 4 + 1)) p 10 (nI n) ∧ lV (lSend L n f p) = up1 (lV L) f (lV L f + (lP L p 1 * lUnit L f).toInt64) ∧
    ((∀ m k, m ≠ n → lS (lSend L n f p) m k = lS L m k) ∧ lS (lSend L n f p) n 0 = nI p ∧ lS (lSend L n f p) n 1 = lX L 11 ∧ lS (lSend L n f p) n 2 = kc_at (lF L f 4) (lF L f 9 + 1) (lF L f 5) (lF L f 6) (lX L 11) (lX L 7) ∧ lS (lSend L n f p) n 3 = 0 ∧ lS (lSend L n f p) n 4 = 1 ∧ lS (lSend L n f p) n 5 = lP L p 1 * lUnit L f) ∧
    (∀ k, k ≠ 10 → k ≠ 16 → lX (lSend L n f p) k = lX L k) ∧ lX (lSend L n f p) 10 = nI n + 1 ∧ ∃ d, d = kc_du (lX L 11) (kc_at (lF L f 4) (lF L f 9 + 1) (lF L f 5) (lF L f 6) (lX L 11) (lX L 7)) 0 (lX L 8) ∧ lX (lSend L n f p) 16 = if d < lX L 16 then d else lX L 16 := by
  generalize hr : lSend L n f p = R
  unfold lSend at hr
  extract_lets ch L1 L2 L3 L4 L5 L6 L7 L8 L9 L10 L11 L12 L13 at hr
  have hch : ch = lP L p 1 * lUnit L f := rfl
  clear_value ch
  have x1 : lX L1 = up1 (lX L) 10 (nI n + 1) := rfl
  have f1 : lF L1 = lF L := rfl
  have p1 : lP L1 = lP L := rfl
  have s1 : lS L1 = lS L := rfl
  have v1 : lV L1 = lV L := rfl
  have x2 : lX L2 = lX L1 := rfl
  have f2 : lF L2 = j_up (lF L1) f 9 (lF L1 f 9 + 1) := rfl
  have p2 : lP L2 = lP L1 := rfl
  have s2 : lS L2 = lS L1 := rfl
  have v2 : lV L2 = lV L1 := rfl
  have x3 : lX L3 = lX L2 := rfl
  have f3 : lF L3 = j_up (lF L2) f 16 (lF L2 f 16 + 1) := rfl
  have p3 : lP L3 = lP L2 := rfl
  have s3 : lS L3 = lS L2 := rfl
  have v3 : lV L3 = lV L2 := rfl
  have x4 : lX L4 = lX L3 := rfl
  have f4 : lF L4 = lF L3 := rfl
  have p4 : lP L4 = j_up (lP L3) p 3 1 := rfl
  have s4 : lS L4 = lS L3 := rfl
  have v4 : lV L4 = lV L3 := rfl
  have x5 : lX L5 = lX L4 := rfl
  have f5 : lF L5 = lF L4 := rfl
  have p5 : lP L5 = j_up (lP L4) p 4 (lP L4 p 4 + 1) := rfl
  have s5 : lS L5 = lS L4 := rfl
  have v5 : lV L5 = lV L4 := rfl
  have x6 : lX L6 = lX L5 := rfl
  have f6 : lF L6 = lF L5 := rfl
  have p6 : lP L6 = j_up (lP L5) p 10 (nI n) := rfl
  have s6 : lS L6 = lS L5 := rfl
  have v6 : lV L6 = lV L5 := rfl
  have x7 : lX L7 = lX L6 := rfl
  have f7 : lF L7 = lF L6 := rfl
  have p7 : lP L7 = lP L6 := rfl
  have s7 : lS L7 = j_up (lS L6) n 0 (nI p) := rfl
  have v7 : lV L7 = lV L6 := rfl
  have x8 : lX L8 = lX L7 := rfl
  have f8 : lF L8 = lF L7 := rfl
  have p8 : lP L8 = lP L7 := rfl
  have s8 : lS L8 = j_up (lS L7) n 1 (lX L7 11) := rfl
  have v8 : lV L8 = lV L7 := rfl
  have x9 : lX L9 = lX L8 := rfl
  have f9 : lF L9 = lF L8 := rfl
  have p9 : lP L9 = lP L8 := rfl
  have s9 : lS L9 = j_up (lS L8) n 2 (lAckT L8 f) := rfl
  have v9 : lV L9 = lV L8 := rfl
  have x10 : lX L10 = lX L9 := rfl
  have f10 : lF L10 = lF L9 := rfl
  have p10 : lP L10 = lP L9 := rfl
  have s10 : lS L10 = j_up (lS L9) n 3 0 := rfl
  have v10 : lV L10 = lV L9 := rfl
  have x11 : lX L11 = lX L10 := rfl
  have f11 : lF L11 = lF L10 := rfl
  have p11 : lP L11 = lP L10 := rfl
  have s11 : lS L11 = j_up (lS L10) n 4 1 := rfl
  have v11 : lV L11 = lV L10 := rfl
  have x12 : lX L12 = lX L11 := rfl
  have f12 : lF L12 = lF L11 := rfl
  have p12 : lP L12 = lP L11 := rfl
  have s12 : lS L12 = j_up (lS L11) n 5 ch := rfl
  have v12 : lV L12 = lV L11 := rfl
  have x13 : lX L13 = lX L12 := rfl
  have f13 : lF L13 = lF L12 := rfl
  have p13 : lP L13 = lP L12 := rfl
  have s13 : lS L13 = lS L12 := rfl
  have v13 : lV L13 = up1 (lV L12) f (lV L12 f + ch.toInt64) := rfl
  have a8 : lAckT L8 f = kc_at (lF L8 f 4) (lF L8 f 9) (lF L8 f 5) (lF L8 f 6) (lX L8 11) (lX L8 7) := rfl
  have d13 := kc_du_e L13 n
  have rX' : lX R = up1 (lX L13) 16 (if lDue L13 n < lX L13 16 then lDue L13 n else lX L13 16) := by rw [← hr]; rfl
  have rF' : lF R = lF L13 := by rw [← hr]; rfl
  have rP' : lP R = lP L13 := by rw [← hr]; rfl
  have rS' : lS R = lS L13 := by rw [← hr]; rfl
  have rV' : lV R = lV L13 := by rw [← hr]; rfl
  clear_value L1 L2 L3 L4 L5 L6 L7 L8 L9 L10 L11 L12 L13
  clear hr
  have eF : lF L13 = j_up (j_up (lF L) f 9 (lF L f 9 + 1)) f 16 (lF L f 16 + 1) := by
    rw [f13, f12, f11, f10, f9, f8, f7, f6, f5, f4, f3, f2, f1, ju_n (b := f) (j := 16) (by omega)]
  have eF8 : lF L8 = j_up (j_up (lF L) f 9 (lF L f 9 + 1)) f 16 (lF L f 16 + 1) := by
    rw [f8, f7, f6, f5, f4, f3, f2, f1, ju_n (b := f) (j := 16) (by omega)]
  have eX : lX L13 = up1 (lX L) 10 (nI n + 1) := by rw [x13, x12, x11, x10, x9, x8, x7, x6, x5, x4, x3, x2, x1]
  have eX8 : lX L8 = up1 (lX L) 10 (nI n + 1) := by rw [x8, x7, x6, x5, x4, x3, x2, x1]
  have eX7 : lX L7 = up1 (lX L) 10 (nI n + 1) := by rw [x7, x6, x5, x4, x3, x2, x1]
  have eP : lP L13 = j_up (j_up (j_up (lP L) p 3 1) p 4 (lP L p 4 + 1)) p 10 (nI n) := by
    rw [p13, p12, p11, p10, p9, p8, p7, p6, p5, p4, p3, p2, p1, ju_n (b := p) (j := 4) (by omega)]
  have eV : lV L13 = up1 (lV L) f (lV L f + ch.toInt64) := by rw [v13, v12, v11, v10, v9, v8, v7, v6, v5, v4, v3, v2, v1]
  have eA : lAckT L8 f = kc_at (lF L f 4) (lF L f 9 + 1) (lF L f 5) (lF L f 6) (lX L 11) (lX L 7) := by
    rw [a8, eF8, eX8, ju_n (k := 16) (j := 4) (by omega), ju_n (k := 16) (j := 9) (by omega), ju_n (k := 16) (j := 5) (by omega), ju_n (k := 16) (j := 6) (by omega), ju_n (k := 9) (j := 4) (by omega), ju_s, ju_n (k := 9) (j := 5) (by omega), ju_n (k := 9) (j := 6) (by omega), u1_n (by omega), u1_n (by omega)]
  have eS : lS L13 = j_up (j_up (j_up (j_up (j_up (j_up (lS L) n 0 (nI p)) n 1 (lX L 11)) n 2 (kc_at (lF L f 4) (lF L f 9 + 1) (lF L f 5) (lF L f 6) (lX L 11) (lX L 7))) n 3 0) n 4 1) n 5 ch := by
    rw [s13, s12, s11, s10, s9, eA, s8, eX7, u1_n (j := 11) (by omega), s7, s6, s5, s4, s3, s2, s1]
  have q1 : lS L13 n 1 = lX L 11 := by rw [eS, ju_n (by omega), ju_n (by omega), ju_n (by omega), ju_n (by omega), ju_s]
  have q2 : lS L13 n 2 = kc_at (lF L f 4) (lF L f 9 + 1) (lF L f 5) (lF L f 6) (lX L 11) (lX L 7) := by rw [eS, ju_n (by omega), ju_n (by omega), ju_n (by omega), ju_s]
  have q3 : lS L13 n 3 = 0 := by rw [eS, ju_n (by omega), ju_n (by omega), ju_s]
  have q8 : lX L13 8 = lX L 8 := by rw [eX, u1_n (by omega)]
  have q16 : lX L13 16 = lX L 16 := by rw [eX, u1_n (by omega)]
  refine ⟨rF'.trans eF, rP'.trans eP, by rw [rV', eV, hch], ⟨fun m k hm => ?_, ?_, rS' ▸ q1, rS' ▸ q2, rS' ▸ q3, ?_, ?_⟩, fun k k1 k2 => ?_, ?_, _, rfl, ?_⟩
  · rw [rS', eS, ju_n (by omega), ju_n (by omega), ju_n (by omega), ju_n (by omega), ju_n (by omega), ju_n (by omega)]
  · rw [rS', eS, ju_n (by omega), ju_n (by omega), ju_n (by omega), ju_n (by omega), ju_n (by omega), ju_s]
  · rw [rS', eS, ju_n (by omega), ju_s]
  · rw [rS', eS, ju_s, hch]
  · rw [rX', u1_n k2, eX, u1_n k1]
  · rw [rX', u1_n (by omega), eX, u1_s]
  · rw [rX', u1_s, d13, q1, q2, q3, q8, q16]
end KSend

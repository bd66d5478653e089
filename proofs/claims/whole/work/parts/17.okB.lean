section JOkB
variable {p : Program} {l : Launch} {e : Env} {R : Room} {s : State} {m : MethodId} {args : Array Value} {below : List Frame} {meth : Method} {c : Code}
variable {D : va_G} {bs : Nat} {E : j_E} {h0 : j_H} {d : Nat} {own : String} {cc : ByteArray} {nL : Nat} {ret : Option FieldType} {Q : j_O → j_H → Prop}
theorem j_br {pc n x : Nat} {o : Int} {cd : ClassFile.Cond} {a b : Int32} {P1 P2 JT JF : Prop} (h1 : P1 → JT) (h2 : P2 → JF) (G : j_cond cd a b P1 P2) : (match cd with
    | .eq => (a = b → JT) ∧ (¬ a = b → JF)
    | .ne => (¬ a = b → JT) ∧ (a = b → JF)
    | .lt => (a < b → JT) ∧ (¬ a < b → JF)
    | .ge => (b ≤ a → JT) ∧ (¬ b ≤ a → JF)
    | .gt => (b < a → JT) ∧ (¬ b < a → JF)
    | .le => (a ≤ b → JT) ∧ (¬ a ≤ b → JF)) := by
  cases cd <;> simp only [j_cond] at G ⊢ <;> split at G <;> rename_i hc
  · exact ⟨fun _ => h1 G, fun z => absurd hc z⟩
  · exact ⟨fun z => absurd z hc, fun _ => h2 G⟩
  · exact ⟨fun z => absurd hc z, fun _ => h2 G⟩
  · exact ⟨fun _ => h1 G, fun z => absurd z hc⟩
  · exact ⟨fun _ => h1 G, fun z => absurd hc z⟩
  · exact ⟨fun z => absurd z hc, fun _ => h2 G⟩
  · exact ⟨fun z => absurd hc (Int32.not_lt.mpr z), fun _ => h2 G⟩
  · exact ⟨fun _ => h1 G, fun z => absurd (Int32.not_lt.mp hc) z⟩
  · exact ⟨fun _ => h1 G, fun z => absurd hc z⟩
  · exact ⟨fun z => absurd z hc, fun _ => h2 G⟩
  · exact ⟨fun z => absurd hc (Int32.not_lt.mpr z), fun _ => h2 G⟩
  · exact ⟨fun _ => h1 G, fun z => absurd (Int32.not_lt.mp hc) z⟩
theorem j_out_ret {v : Value} {r : List Value} {nx : List Value → j_H → Prop} {w : Option Value} {h : j_H} (G : j_out v Q r nx (.inl w) h) : nx (w.toList ++ r) h := by
  cases v <;> simp only [j_out, j_oi, j_ol, j_of, j_od, j_or, j_ov] at G <;> split at G <;> first | exact G.elim | (rename_i e1; cases e1; exact G) | (rename_i e1 e2; cases e1; exact G) | (simp_all; done)
theorem j_out_thr {v : Value} {r : List Value} {nx : List Value → j_H → Prop} {x : Nat} {h : j_H} (G : j_out v Q r nx (.inr x) h) : Q (.inr x) h := by
  cases v <;> exact G
theorem j_ok2_spec {mi : j_Mi} (h : j_ok2 mi = true) : mi.2.2.1 ≤ 45 ∧ (mi.1.cls ≠ "java/lang/invoke/MethodHandle" ∧ mi.1.cls ≠ "java/lang/invoke/VarHandle") := by
  simp only [j_ok2, Bool.and_eq_true, decide_eq_true_eq] at h
  exact ⟨h.1.1, h.1.2, h.2⟩
theorem j_np_spec {mi : j_Mi} {n : Nat} (h : j_np mi n = true) : ∀ sig, parseMethodDescriptor mi.1.desc = some sig → n = sig.parameters.length := by
  intro sig hs
  simp only [j_np, hs, beq_iff_eq] at h
  exact h.symm
theorem j_aty_obj {x : Nat} {z : String} (h : j_aty x = .object z) : z = "PacketScheduler$Link" ∨ z = "java/lang/String" := by
  unfold j_aty at h
  split at h <;> simp_all
set_option maxHeartbeats 4000000 in
theorem j_okB (X : j_Ctx p l R s m args meth c D bs E h0 d own cc nL ret) {ini : Bool} (hini : ini = true → meth.name = "<init>") (hcl : ∀ (c : Nat) (r : vw_C), j_cl[c]? = some r → j_clok c r) {i : Instr} {n x y pc : Nat} {v : Value} {lv st : List Value} {h : j_H} {nx : List Value → List Value → j_H → Prop} (hd : decode cc pc = .ok (i, n)) (hck : j_ckB own ini ret nL i n pc x y v = true) (hwd : ∀ w ∈ j_wdB own i x y v, w ∈ j_tbl)
    (hthr : ∀ idx, i = .new idx → (∀ k, v ≠ .ref k) → j_cw st = true → j_c h + 1 ≤ E.2.1 → j_k h + 6 ≤ E.2.2 → (∀ z, j_z h ≤ z → Q (.inr x) (j_thr h z)) → j_W p l e R s m args below meth c D bs E h0 nL (j_MQ below D bs E h0 Q args s) pc lv st h)
    (hnx : ∀ lv st h, nx lv st h → j_W p l e R s m args below meth c D bs E h0 nL (j_MQ below D bs E h0 Q args s) (pc + n) lv st h)
    (G : j_opB (j_Met l D bs E d) (j_W p l e R s m args below meth c D bs E h0 nL (j_MQ below D bs E h0 Q args s)) Q i pc x y v lv st h E nx) : j_W p l e R s m args below meth c D bs E h0 nL (j_MQ below D bs E h0 Q args s) pc lv st h := by
  have X9 := X
  obtain ⟨hex, hb, hml, hr, hown, hts, henv, hRm, hlocks, htab, hst, hbs⟩ := X9
  cases i
  case ifCond cd o =>
    simp only [j_ckB, Bool.and_eq_true, beq_iff_eq, decide_eq_true_eq] at hck
    obtain ⟨rfl, ht⟩ := hck
    obtain ⟨a, r, rfl, g⟩ := j_i1_inv G
    intro ls H locs hl hR hS hc
    have g2 := j_br (pc := 0) (n := 0) (x := 0) (o := 0) (fun g => g ls H locs hl hR hS hc) (fun g => hnx _ _ _ g ls H locs hl hR hS hc) g
    cases cd
    · exact lv_if_eq hex hb hd ht g2.1 g2.2
    · exact lv_if_ne hex hb hd ht g2.1 g2.2
    · exact lv_if_lt hex hb hd ht g2.1 g2.2
    · exact lv_if_ge hex hb hd ht g2.1 g2.2
    · exact lv_if_gt hex hb hd ht g2.1 g2.2
    · exact lv_if_le hex hb hd ht g2.1 g2.2
  case if_icmp cd o =>
    simp only [j_ckB, Bool.and_eq_true, beq_iff_eq, decide_eq_true_eq] at hck
    obtain ⟨rfl, ht⟩ := hck
    obtain ⟨a, b, r, rfl, g⟩ := j_i2_inv G
    intro ls H locs hl hR hS hc
    have g2 := j_br (pc := 0) (n := 0) (x := 0) (o := 0) (fun g => g ls H locs hl hR hS hc) (fun g => hnx _ _ _ g ls H locs hl hR hS hc) g
    cases cd
    · exact lv_icmp_eq hex hb hd ht g2.1 g2.2
    · exact lv_icmp_ne hex hb hd ht g2.1 g2.2
    · exact lv_icmp_lt hex hb hd ht g2.1 g2.2
    · exact lv_icmp_ge hex hb hd ht g2.1 g2.2
    · exact lv_icmp_gt hex hb hd ht g2.1 g2.2
    · exact lv_icmp_le hex hb hd ht g2.1 g2.2
  case goto o =>
    simp only [j_ckB, Bool.and_eq_true, beq_iff_eq, decide_eq_true_eq] at hck
    obtain ⟨rfl, ht⟩ := hck
    intro ls H locs hl hR hS hc
    exact lv_goto hex hb hd ht (G ls H locs hl hR hS hc)
  case ifnull o =>
    simp only [j_ckB, Bool.and_eq_true, beq_iff_eq, decide_eq_true_eq] at hck
    obtain ⟨rfl, ht⟩ := hck
    intro ls H locs hl hR hS hc
    simp only [j_opB] at G
    split at G
    · exact lv_ifnullN hex hb hd ht (G ls H locs hl hR hS hc)
    · exact lv_ifnull hex hb hd (hnx _ _ _ G ls H locs hl hR hS hc)
    · exact G.elim
  case ifnonnull o =>
    simp only [j_ckB, Bool.and_eq_true, beq_iff_eq, decide_eq_true_eq] at hck
    obtain ⟨rfl, ht⟩ := hck
    intro ls H locs hl hR hS hc
    simp only [j_opB] at G
    split at G
    · exact lv_ifnonnullN hex hb hd (hnx _ _ _ G ls H locs hl hR hS hc)
    · exact lv_ifnonnull hex hb hd ht (G ls H locs hl hR hS hc)
    · exact G.elim
  case tableswitch dd lo hi ts =>
    simp only [j_ckB, Bool.and_eq_true, decide_eq_true_eq, List.all_eq_true] at hck
    obtain ⟨⟨⟨⟨k1, k2⟩, k3⟩, k4⟩, k5⟩ := hck
    obtain ⟨a, r, rfl, g⟩ := j_i1_inv G
    intro ls H locs hl hR hS hc
    refine j_sw_ok (JW := fun t => j_W p l e R s m args below meth c D bs E h0 nL (j_MQ below D bs E h0 Q args s) t lv r h) (fun t z => z) k4 (by omega) k2 (fun j o tgt g1 g2 g3 g4 => ?_) (fun g1 g2 => ?_) g
    · have hj : j < ts.toList.length := (List.getElem?_eq_some_iff.mp g1).1
      exact lv_tableIn hex hb hd (by omega) (by omega) (off := o) (by rw [g2, show (lo + (j : Int) - lo).toNat = j by omega, ← Array.getElem?_toList]; exact g1) g3 (g4 ls H locs hl hR hS hc)
    · exact lv_tableOut hex hb hd (by omega) (show (pc : Int) + dd = (((pc : Int) + dd).toNat : Int) by omega) (g2 ls H locs hl hR hS hc)
  case getstatic k =>
    simp only [j_ckB, beq_iff_eq] at hck
    subst hck
    have hlk := hts _ (hwd (.fieldLink own k (j_stn x).1 (j_stn x).2.1 (j_stn x).2.2) (by simp [j_wdB]))
    obtain ⟨s0, s1, s2, s3⟩ := henv.2.2.2.2.2.2
    intro ls H locs hl hR hS hc
    simp only [j_opB] at G
    match x, hlk, G with
    | 0, hlk, G => exact va_gets hex hb s0 hS hown hlk (fun _ z => z) hd (hnx _ _ _ G ls H locs hl hR hS hc)
    | 1, hlk, G => exact va_gets hex hb s1 hS hown hlk (fun _ z => z) hd (hnx _ _ _ G ls H locs hl hR hS hc)
    | 2, hlk, G => exact va_gets hex hb s2 hS hown hlk (fun _ z => z) hd (hnx _ _ _ G ls H locs hl hR hS hc)
    | _ + 3, hlk, G =>
      rcases s3 with s3 | ⟨t, s3⟩
      · exact va_gets hex hb s3 hS hown hlk (fun _ z => z) hd (hnx _ _ _ G.1 ls H locs hl hR hS hc)
      · exact va_gets hex hb s3 hS hown hlk (fun _ z => z) hd (hnx _ _ _ (G.2 t) ls H locs hl hR hS hc)
  case getfield k =>
    simp only [j_ckB, Bool.and_eq_true, beq_iff_eq] at hck
    obtain ⟨⟨rfl, hk⟩, hkg⟩ := hck
    obtain ⟨a, r, rfl, hsh, g⟩ := j_r1_inv G
    cases hcr : j_cl[x]? with
    | none => rw [hcr] at hk; cases hk
    | some cr =>
      rw [hcr] at hk
      have hy : y < cr.2.2 := by simpa using hk
      have hlk := hwd (Cond.fieldLink own k (cr.2.1 y).1 (cr.2.1 y).2.1 (cr.2.1 y).2.2.1) (by simp only [j_wdB, hcr]; exact List.mem_cons_self)
      split at g
      · refine j_getf X hcr (hcl _ _ hcr) hy hlk hsh ?_ hd (hnx _ _ _ g)
        revert hkg
        cases j_ty x y <;> simp [j_kg, j_fv]
      · refine j_getf X hcr (hcl _ _ hcr) hy hlk hsh ?_ hd (hnx _ _ _ g)
        revert hkg
        cases j_ty x y <;> simp [j_kg, j_fv]
      · rename_i n1 n2
        obtain ⟨b, hb9, g⟩ := j_ref_inv g
        refine j_getf X hcr (hcl _ _ hcr) hy hlk hsh ?_ hd (hnx _ _ _ g)
        cases v <;> first | exact absurd rfl (n1 _) | exact absurd rfl (n2 _) | (revert hkg; cases j_ty x y <;> simp [j_kg, j_fv, hb9, va_rf]; done)
  case putfield k =>
    simp only [j_ckB, Bool.and_eq_true, beq_iff_eq, decide_eq_true_eq] at hck
    obtain ⟨⟨⟨rfl, hx0⟩, hk⟩, hkp⟩ := hck
    cases hcr : j_cl[x]? with
    | none => rw [hcr] at hk; cases hk
    | some cr =>
      rw [hcr] at hk
      simp only [Bool.and_eq_true, decide_eq_true_eq, Bool.or_eq_true, Bool.not_eq_true'] at hk
      obtain ⟨hy, hfin⟩ := hk
      have hlk := hwd (Cond.fieldLink own k (cr.2.1 y).1 (cr.2.1 y).2.1 (cr.2.1 y).2.2.1) (by simp only [j_wdB, hcr]; exact List.mem_cons_self)
      simp only [j_opB] at G
      split at G
      · rename_i kk nn a r
        obtain ⟨hsh, hn, g⟩ := G
        have hki := j_ki_spec (show j_ki (j_ty x y) kk = true from hkp)
        have hnf := j_narrow hki hn
        refine j_putf (h' := j_setI h a y nn) X hini hx0 hcr (hcl _ _ hcr) hy hlk hfin hsh hnf.1 hnf.2 hd rfl rfl rfl rfl (fun b hb ty j => j_fv_I hb) ?_ (fun j hj => ?_) (hnx _ _ _ g)
        · rcases hki with ⟨e, -⟩ | ⟨e, -⟩ | ⟨e, -⟩ | ⟨e, -⟩ <;> rw [e] <;> simp [j_fv, j_setI, j_I, j_up]
        · cases j_ty x j <;> simp [j_fv, j_setI, j_I, j_L, j_R, j_D, j_up, hj]
      · rename_i w nn a r
        obtain ⟨hsh, g⟩ := G
        have e : j_ty x y = .long := by
          revert hkp
          cases j_ty x y <;> simp [j_kp]
        refine j_putf (h' := j_setL h a y nn) X hini hx0 hcr (hcl _ _ hcr) hy hlk hfin hsh (by rw [e]; rfl) (by rw [e]; rfl) hd rfl rfl rfl rfl (fun b hb ty j => j_fv_L hb) (by rw [e]; simp [j_fv, j_setL, j_L, j_up]) (fun j hj => ?_) (hnx _ _ _ g)
        cases j_ty x j <;> simp [j_fv, j_setL, j_I, j_L, j_R, j_D, j_up, hj]
      · rename_i nn a r
        obtain ⟨hsh, g⟩ := G
        have e : (∃ z, j_ty x y = .object z) ∨ ∃ z, j_ty x y = .array z := by
          revert hkp
          cases j_ty x y <;> simp [j_kp]
        refine j_putf (h' := j_setR h a y (some nn)) X hini hx0 hcr (hcl _ _ hcr) hy hlk hfin hsh (by rcases e with ⟨z, e⟩ | ⟨z, e⟩ <;> rw [e] <;> rfl) (by rcases e with ⟨z, e⟩ | ⟨z, e⟩ <;> rw [e] <;> rfl) hd rfl rfl rfl rfl (fun b hb ty j => j_fv_R hb) (by rcases e with ⟨z, e⟩ | ⟨z, e⟩ <;> rw [e] <;> simp [j_fv, j_setR, j_R, j_up, va_rf]) (fun j hj => ?_) (hnx _ _ _ g)
        cases j_ty x j <;> simp [j_fv, j_setR, j_I, j_L, j_R, j_D, j_up, hj]
      · exact G.elim
  case iaload =>
    simp only [j_ckB, beq_iff_eq] at hck
    subst hck
    obtain ⟨a, i, r, rfl, g⟩ := j_ai_inv G
    obtain ⟨k, h1 | h1, h2, g⟩ := j_ari_inv g
    · exact j_iald X (Or.inl rfl) h1 h2 hd (hnx _ _ _ g)
    · exact j_iald X (Or.inr rfl) h1 h2 hd (hnx _ _ _ g)
  case baload =>
    simp only [j_ckB, beq_iff_eq] at hck
    subst hck
    obtain ⟨a, i, r, rfl, g⟩ := j_ai_inv G
    obtain ⟨k, h1 | h1, h2, g⟩ := j_arb_inv g
    · exact j_bald X (Or.inl rfl) h1 h2 hd (hnx _ _ _ g)
    · exact j_bald X (Or.inr rfl) h1 h2 hd (hnx _ _ _ g)
  case laload =>
    simp only [j_ckB, beq_iff_eq] at hck
    subst hck
    obtain ⟨a, i, r, rfl, g⟩ := j_ai_inv G
    obtain ⟨k, h1, h2, g⟩ := j_arr_inv g
    exact j_lald X h1 h2 hd (hnx _ _ _ g)
  case daload =>
    simp only [j_ckB, beq_iff_eq] at hck
    subst hck
    obtain ⟨a, i, r, rfl, g⟩ := j_ai_inv G
    obtain ⟨k, h1, h2, g⟩ := j_arr_inv g
    exact j_dald X h1 h2 hd (hnx _ _ _ g)
  case aaload =>
    simp only [j_ckB, Bool.and_eq_true, beq_iff_eq] at hck
    obtain ⟨rfl, hk⟩ := hck
    obtain ⟨a, i, r, rfl, g⟩ := j_ai_inv G
    obtain ⟨k, h1, h2, g⟩ := j_arr_inv g
    have e : ∃ z, j_aty x = .object z := by
      revert hk
      cases j_aty x <;> simp
    obtain ⟨z, e⟩ := e
    refine j_aald X e h1 h2 hd ?_
    cases hq : j_R h a i.toNatClampNeg with
    | none => rw [hq] at g; exact hnx _ _ _ g
    | some b => rw [hq] at g; exact hnx _ _ _ g
  case iastore =>
    simp only [j_ckB, beq_iff_eq] at hck
    subst hck
    obtain ⟨a, i, w, r, rfl, g⟩ := j_aii_inv G
    obtain ⟨k, h1, h2, g⟩ := j_arr_inv g
    exact j_iast X h1 h2 hd (hnx _ _ _ g)
  case bastore =>
    simp only [j_ckB, beq_iff_eq] at hck
    subst hck
    obtain ⟨a, i, w, r, rfl, g⟩ := j_aii_inv G
    obtain ⟨k, h1, h2, g⟩ := j_arr_inv g
    exact j_bast X h1 h2 hd (hnx _ _ _ g)
  case lastore =>
    simp only [j_ckB, beq_iff_eq] at hck
    subst hck
    obtain ⟨a, i, w, r, rfl, g⟩ := j_ail_inv G
    obtain ⟨k, h1, h2, g⟩ := j_arr_inv g
    exact j_last X h1 h2 hd (hnx _ _ _ g)
  case dastore =>
    simp only [j_ckB, beq_iff_eq] at hck
    subst hck
    obtain ⟨a, i, w, r, rfl, g⟩ := j_aid_inv G
    obtain ⟨k, h1, h2, g⟩ := j_arr_inv g
    exact j_dast X h1 h2 hd (hnx _ _ _ g)
  case aastore =>
    simp only [j_ckB, Bool.and_eq_true, beq_iff_eq, decide_eq_true_eq] at hck
    obtain ⟨⟨rfl, hx7⟩, hk⟩ := hck
    obtain ⟨a, i, w, r, rfl, g⟩ := j_air_inv G
    obtain ⟨k, h1, h2, h3, g⟩ := j_arr_inv g
    cases hcr : j_cl[y]? with
    | none => rw [hcr] at hk; cases hk
    | some cr =>
      rw [hcr] at hk
      exact j_aast X hx7 hcr (by simpa using hk) h1 h2 h3 hd (hnx _ _ _ g)
  case arraylength =>
    simp only [j_ckB, beq_iff_eq] at hck
    subst hck
    obtain ⟨a, r, rfl, g⟩ := j_r1_inv G
    obtain ⟨t, k, h1, g⟩ := j_len_inv g
    exact j_alen X h1 hd (hnx _ _ _ g)
  case newarray t =>
    simp only [j_ckB, Bool.and_eq_true, beq_iff_eq, decide_eq_true_eq] at hck
    obtain ⟨⟨rfl, h1⟩, h2⟩ := hck
    obtain ⟨k, r, rfl, g1, g2, g3, g4, g⟩ := j_i1_inv G
    exact j_newa X h1 h2 (hwd _ (by simp [j_wdB])) g1 g2 g3 g4 hd (hnx _ _ _ g)
  case anewarray k =>
    simp only [j_ckB, Bool.and_eq_true, beq_iff_eq] at hck
    obtain ⟨rfl, hk⟩ := hck
    obtain ⟨q, r, rfl, g1, g2, g3, g4, g⟩ := j_i1_inv G
    have e : ∃ z, j_aty x = .object z := by
      revert hk
      cases j_aty x <;> simp
    obtain ⟨z, e⟩ := e
    have hz : va_AO z s := by
      rcases j_aty_obj e with rfl | rfl
      · exact henv.2.2.2.2.1
      · exact henv.2.2.2.2.2.1
    exact j_anew X e (hwd _ (by simp [j_wdB, e])) hz g1 g2 g3 g4 hd (hnx _ _ _ g)
  case new k =>
    simp only [j_ckB, Bool.and_eq_true, beq_iff_eq] at hck
    obtain ⟨rfl, hk⟩ := hck
    simp only [j_opB] at G
    split at G
    · rename_i q
      obtain ⟨g1, g2, g⟩ := G
      cases hcr : j_cl[x]? with
      | none => rw [hcr] at hk; cases hk
      | some cr =>
        rw [hcr] at hk
        simp only [Bool.and_eq_true, beq_iff_eq, List.all_eq_true, decide_eq_true_eq, List.mem_range] at hk
        exact j_newc X hcr (hcl _ _ hcr) hk.1 hk.2 (hwd _ (by simp [j_wdB, hcr])) (hwd _ (by simp [j_wdB, hcr])) (hwd _ (by simp [j_wdB, hcr])) g1 g2 hd (hnx _ _ _ g)
    · rename_i hv
      obtain ⟨hw, G⟩ := j_few_iff.mp G
      exact hthr k rfl (fun k z => hv k z) hw G.1 G.2.1 G.2.2
  case invokevirtual k =>
    simp only [j_ckB, Bool.and_eq_true, beq_iff_eq] at hck
    obtain ⟨rfl, hk⟩ := hck
    obtain ⟨us, r, rfl, hlen, g⟩ := j_args_inv G
    obtain ⟨hw, g⟩ := j_few_iff.mp g
    rw [List.append_nil] at g
    cases hmi : j_mt[x]? with
    | none => rw [hmi] at hk; cases hk
    | some mi =>
      rw [hmi] at hk
      simp only [Bool.and_eq_true, decide_eq_true_eq] at hk
      obtain ⟨⟨⟨k1, k2⟩, k3⟩, k4⟩ := hk
      have hlt : mi.2.2.2.2 < j_cl.length := by simp only [List.length_cons, List.length_nil]; omega
      have hcr : j_cl[mi.2.2.2.2]? = some j_cl[mi.2.2.2.2] := List.getElem?_eq_getElem hlt
      obtain ⟨mi', hmi', hrc, -⟩ := id g
      cases Option.some.inj (hmi.symm.trans hmi')
      obtain ⟨a, As, rfl, hsh⟩ := hrc (by omega)
      have e : (Value.ref a :: As).reverse ++ r = As.reverse ++ .ref a :: r := by simp
      rw [e]
      have hnn : ∀ sig, parseMethodDescriptor mi.1.desc = some sig → As.length = sig.parameters.length := by
        intro sig hs
        have := j_np_spec k3 sig hs
        simp only [List.length_cons] at hlen
        omega
      simp only [j_wdB, hmi, hcr] at hwd
      exact j_callV X g hmi hcr (j_ok2_spec k1).1 (hwd _ (by simp)) (hwd _ (by simp)) (hwd (.methodLink own k mi.1) (by simp)) (hwd _ (by simp)) (hwd _ (by simp)) (j_ok2_spec k1).2 hnn hw hd (fun w h' g9 => hnx _ _ _ (j_out_ret g9)) (fun z h' g9 => j_out_thr g9)
  case invokestatic k =>
    simp only [j_ckB, Bool.and_eq_true, beq_iff_eq] at hck
    obtain ⟨rfl, hk⟩ := hck
    simp only [j_opB] at G
    split at G
    · rename_i q
      simp only [decide_eq_true_eq] at hk
      exact j_okN X (nx := fun st h => nx lv st h) (by simpa [j_wdB] using hwd) (Or.inl ⟨hk, hd⟩) (fun st h g => hnx _ _ _ g) G
    · rename_i hv
      obtain ⟨us, r, rfl, hlen, g⟩ := j_args_inv G
      obtain ⟨hw, g⟩ := j_few_iff.mp g
      rw [List.append_nil] at g
      have hk : (match j_mt[x]? with
        | some mi => j_ok2 mi && j_np mi y
        | none => false) = true := by
        revert hk
        cases v <;> first | exact id | exact absurd rfl (hv _)
      cases hmi : j_mt[x]? with
      | none => rw [hmi] at hk; cases hk
      | some mi =>
        rw [hmi] at hk
        simp only [Bool.and_eq_true] at hk
        have hwd' : ∀ w ∈ [Cond.code mi.1 mi.2.1 mi.2.2.1 mi.2.2.2.1, .initialized mi.1.cls, .methodLink own k mi.1, .static mi.1], w ∈ j_tbl := by
          revert hwd
          cases v <;> first | exact absurd rfl (hv _) | (simp only [j_wdB, hmi]; exact id)
        refine j_callS X g hmi (j_ok2_spec hk.1).1 (hwd' _ (by simp)) (hwd' _ (by simp)) (hwd' (.methodLink own k mi.1) (by simp)) (hwd' _ (by simp)) (j_ok2_spec hk.1).2 (fun sig hs => by rw [hlen]; exact j_np_spec hk.2 sig hs) hw hd (fun w h' g9 => ?_) (fun z h' g9 => j_out_thr g9)
        exact hnx _ _ _ (j_out_ret g9)
  case invokespecial k =>
    simp only [j_ckB, Bool.and_eq_true, beq_iff_eq] at hck
    obtain ⟨rfl, hk⟩ := hck
    simp only [j_opB] at G
    split at G
    · rename_i q
      simp only [decide_eq_true_eq] at hk
      exact j_okN X (nx := fun st h => nx lv st h) (by simpa [j_wdB] using hwd) (Or.inr ⟨hk, hd⟩) (fun st h g => hnx _ _ _ g) G
    · rename_i hv
      obtain ⟨us, r, rfl, hlen, g⟩ := j_args_inv G
      obtain ⟨hw, g⟩ := j_few_iff.mp g
      rw [List.append_nil] at g
      have hk : (match j_mt[x]? with
        | some mi => j_ok2 mi && decide (1 ≤ y) && j_np mi (y - 1) && ((decide (mi.2.2.2.1 = none) && decide (mi.1.name = "<init>") && decide (mi.2.2.2.2 < 90)) || (decide (mi.1.name ≠ "<init>") && decide (mi.2.2.2.2 < 12)))
        | none => false) = true := by
        revert hk
        cases v <;> first | exact id | exact absurd rfl (hv _)
      cases hmi : j_mt[x]? with
      | none => rw [hmi] at hk; cases hk
      | some mi =>
        rw [hmi] at hk
        simp only [Bool.and_eq_true, Bool.or_eq_true, decide_eq_true_eq] at hk
        obtain ⟨⟨⟨k1, k2⟩, k3⟩, k456⟩ := hk
        have hwd' : ∀ w ∈ (if mi.1.name = "<init>" then [Cond.code mi.1 mi.2.1 mi.2.2.1 mi.2.2.2.1, .initialized mi.1.cls, .methodLink own k mi.1, .instanceMethod mi.1] else [Cond.code mi.1 mi.2.1 mi.2.2.1 mi.2.2.2.1, .initialized mi.1.cls, .methodLink own k mi.1, .instanceMethod mi.1, .sameMethod mi.1.cls mi.1.cls mi.1.name mi.1.desc, .superclass own mi.1.cls]), w ∈ j_tbl := by
          revert hwd
          cases v <;> first | exact absurd rfl (hv _) | (simp only [j_wdB, hmi]; exact id)
        obtain ⟨mi', hmi', hrc, -⟩ := id g
        cases Option.some.inj (hmi.symm.trans hmi')
        have h90 : mi.2.2.2.2 < 90 := by rcases k456 with ⟨-, k6⟩ | ⟨-, k6⟩ <;> omega
        obtain ⟨a, As, rfl, hsh⟩ := hrc h90
        have e : (Value.ref a :: As).reverse ++ r = As.reverse ++ .ref a :: r := by simp
        rw [e]
        have hnn : ∀ sig, parseMethodDescriptor mi.1.desc = some sig → As.length = sig.parameters.length := by
          intro sig hs
          have := j_np_spec k3 sig hs
          simp only [List.length_cons] at hlen
          omega
        rcases k456 with ⟨⟨k4, k5⟩, k6⟩ | ⟨k5, k6⟩
        · rw [if_pos k5] at hwd'
          exact j_callI X g hmi k4 k5 (j_ok2_spec k1).1 (hwd' _ (by simp)) (hwd' _ (by simp)) (hwd' (.methodLink own k mi.1) (by simp)) (hwd' _ (by simp)) (j_ok2_spec k1).2 hnn hw hd (fun w h' g9 => hnx _ _ _ (j_out_ret g9)) (fun z h' g9 => j_out_thr g9)
        · rw [if_neg k5] at hwd'
          have hlt : mi.2.2.2.2 < j_cl.length := by simp only [List.length_cons, List.length_nil]; omega
          have hcr : j_cl[mi.2.2.2.2]? = some j_cl[mi.2.2.2.2] := List.getElem?_eq_getElem hlt
          exact j_callU X g hmi hcr (j_ok2_spec k1).1 (hwd' _ (by simp)) (hwd' _ (by simp)) (hwd' (.methodLink own k mi.1) (by simp)) (hwd' _ (by simp)) (hwd' _ (by simp)) (hwd' _ (by simp)) k5 hnn hw hd (fun w h' g9 => hnx _ _ _ (j_out_ret g9)) (fun z h' g9 => j_out_thr g9)
  case ireturn =>
    simp only [j_ckB, Bool.and_eq_true, beq_iff_eq] at hck
    obtain ⟨rfl, hk⟩ := hck
    simp only [j_opB] at G
    split at G
    · cases hret : ret with
      | none => rw [hret] at hk; cases hk
      | some ty =>
        rw [hret] at hk
        exact j_iret X hret (j_ki_spec hk) G.1 G.2 hd
    · exact G.elim
  case lreturn =>
    simp only [j_ckB, Bool.and_eq_true, beq_iff_eq, decide_eq_true_eq] at hck
    obtain ⟨rfl, hk⟩ := hck
    simp only [j_opB] at G
    split at G
    · exact j_lret X hk G hd
    · exact G.elim
  case freturn =>
    simp only [j_ckB, Bool.and_eq_true, beq_iff_eq, decide_eq_true_eq] at hck
    obtain ⟨rfl, hk⟩ := hck
    simp only [j_opB] at G
    split at G
    · exact j_fret X hk G hd
    · exact G.elim
  case dreturn =>
    simp only [j_ckB, Bool.and_eq_true, beq_iff_eq, decide_eq_true_eq] at hck
    obtain ⟨rfl, hk⟩ := hck
    simp only [j_opB] at G
    split at G
    · exact j_dret X hk G hd
    · exact G.elim
  case areturn =>
    simp only [j_ckB, Bool.and_eq_true, beq_iff_eq] at hck
    obtain ⟨rfl, hk⟩ := hck
    simp only [j_opB] at G
    split at G
    · cases hret : ret with
      | none => rw [hret] at hk; cases hk
      | some ty =>
        rw [hret] at hk
        refine j_aret X hret ?_ G hd
        revert hk
        cases ty <;> simp
    · exact G.elim
  case return_ =>
    simp only [j_ckB, Bool.and_eq_true, beq_iff_eq, decide_eq_true_eq] at hck
    obtain ⟨rfl, hk⟩ := hck
    simp only [j_opB] at G
    split at G
    · exact j_vret X hk G hd
    · exact G.elim
  all_goals
    simp only [j_ckB, Bool.and_eq_true] at hck
    exact j_okA X hd hck.1 hck.2 hwd hnx G
end JOkB

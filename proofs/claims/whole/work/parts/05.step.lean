/-! ===== one instruction, and a list of them =====
C: what a call of the method no. k with these arguments at this heap comes to; K: the method's own code at another pc; Q: the method's end. sA: where a String constant lies; CM, SM: how many cells and slots there are. -/
abbrev j_E : Type := (Nat → Nat) × Nat × Nat
abbrev j_Cal : Type := Nat → List Value → j_H → (j_O → j_H → Prop) → Prop
abbrev j_G : Type := Nat → List Value → List Value → j_H → Prop
/-- a call's outcome, by the kind of the answer: the code goes on, or the method ends by the throw -/
def j_ov (Q : j_O → j_H → Prop) (nx : j_H → Prop) : j_O → j_H → Prop
  | .inl none, h => nx h
  | .inr e, h => Q (.inr e) h
  | _, _ => False
def j_oi (Q : j_O → j_H → Prop) (nx : Int32 → j_H → Prop) : j_O → j_H → Prop
  | .inl (some (.int a)), h => nx a h
  | .inr e, h => Q (.inr e) h
  | _, _ => False
def j_ol (Q : j_O → j_H → Prop) (nx : Int64 → j_H → Prop) : j_O → j_H → Prop
  | .inl (some (.long a)), h => nx a h
  | .inr e, h => Q (.inr e) h
  | _, _ => False
def j_of (Q : j_O → j_H → Prop) (nx : UInt32 → j_H → Prop) : j_O → j_H → Prop
  | .inl (some (.float a)), h => nx a h
  | .inr e, h => Q (.inr e) h
  | _, _ => False
def j_od (Q : j_O → j_H → Prop) (nx : UInt64 → j_H → Prop) : j_O → j_H → Prop
  | .inl (some (.double a)), h => nx a h
  | .inr e, h => Q (.inr e) h
  | _, _ => False
def j_or (Q : j_O → j_H → Prop) (nx : Nat → j_H → Prop) : j_O → j_H → Prop
  | .inl (some (.ref a)), h => nx a h
  | .inr e, h => Q (.inr e) h
  | _, _ => False
def j_out (v : Value) (Q : j_O → j_H → Prop) (r : List Value) (nx : List Value → j_H → Prop) : j_O → j_H → Prop := match v with
  | .int _ => j_oi Q (fun a h => nx (.int a :: r) h)
  | .long _ => j_ol Q (fun a h => nx (.long a :: r) h)
  | .float _ => j_of Q (fun a h => nx (.float a :: r) h)
  | .double _ => j_od Q (fun a h => nx (.double a :: r) h)
  | .null => j_or Q (fun a h => nx (.ref a :: r) h)
  | _ => j_ov Q (fun h => nx r h)
/-- few enough entries lie below a call's arguments -/
def j_cw : List Value → Bool
  | [] => true
  | [_] => true
  | [_, _] => true
  | [_, _, _] => true
  | [_, _, _, _] => true
  | _ => false
def j_few (r : List Value) (P : Prop) : Prop := match j_cw r with
  | true => P
  | false => False
/-- members that the machine itself has, by number -/
def j_nat (i : Nat) (st : List Value) (h : j_H) (nx : List Value → j_H → Prop) : Prop := match i with
  | 0 => j_i2 st (fun a b r => j_few r (nx (.int (if b < a then b else a) :: r) h))
  | 1 => j_i2 st (fun a b r => j_few r (nx (.int (if a < b then b else a) :: r) h))
  | 2 => j_l2 st (fun a b r => j_few r (nx (.long (if b < a then b else a) :: r) h))
  | 3 => j_l2 st (fun a b r => j_few r (nx (.long (if b < a then a else b) :: r) h))
  | 4 => j_l1 st (fun a r => j_few r (nx (.long (if 0 < a then a else -a) :: r) h))
  | 5 => match st with
    | .int n :: .int dp :: .ref d :: .int sp :: .ref s :: r => j_arr 0 (j_sh h s) (fun ns => j_arr 0 (j_sh h d) (fun nd => ¬ sp < 0 ∧ ¬ dp < 0 ∧ ¬ n < 0 ∧ sp.toNatClampNeg + n.toNatClampNeg ≤ ns ∧ dp.toNatClampNeg + n.toNatClampNeg ≤ nd ∧ s ≠ d ∧ j_few r (nx r (j_rowI h d (va_cpy (j_I h s) (j_I h d) sp.toNatClampNeg dp.toNatClampNeg n.toNatClampNeg)))))
    | _ => False
  | 7 => match st with
    | .int n :: .int dp :: .ref d :: .int sp :: .ref s :: r => j_arb (j_sh h s) (fun ns => j_arr 3 (j_sh h d) (fun nd => ¬ sp < 0 ∧ ¬ dp < 0 ∧ ¬ n < 0 ∧ sp.toNatClampNeg + n.toNatClampNeg ≤ ns ∧ dp.toNatClampNeg + n.toNatClampNeg ≤ nd ∧ (∀ i, i < n.toNatClampNeg → (j_I h s (sp.toNatClampNeg + i)).toInt8.toInt32 = j_I h s (sp.toNatClampNeg + i)) ∧ s ≠ d ∧ j_few r (nx r (j_rowI h d (va_cpy (j_I h s) (j_I h d) sp.toNatClampNeg dp.toNatClampNeg n.toNatClampNeg)))))
    | _ => False
  | _ => j_r1 st (fun _ r => j_few r (nx r h))
def j_opA (i : Instr) (x y : Nat) (v : Value) (lv st : List Value) (h : j_H) (E : j_E) (nx : List Value → List Value → j_H → Prop) : Prop := match i with
  | .iconst _ => nx lv (v :: st) h
  | .bipush _ => nx lv (v :: st) h
  | .sipush _ => nx lv (v :: st) h
  | .lconst _ => nx lv (v :: st) h
  | .dconst _ => nx lv (.double FP.dconst0 :: st) h
  | .fconst _ => nx lv (.float FP.fconst0 :: st) h
  | .ldc _ => (match y with | 0 => nx lv (v :: st) h | _ => nx lv (.ref (E.1 x) :: st) h)
  | .ldc_w _ => (match y with | 0 => nx lv (v :: st) h | _ => nx lv (.ref (E.1 x) :: st) h)
  | .ldc2_w _ => nx lv (v :: st) h
  | .iload _ => (match j_nth lv x with | .int a => nx lv (.int a :: st) h | _ => False)
  | .iload_n _ => (match j_nth lv x with | .int a => nx lv (.int a :: st) h | _ => False)
  | .lload _ => (match j_nth lv x with | .long a => nx lv (.long a :: st) h | _ => False)
  | .lload_n _ => (match j_nth lv x with | .long a => nx lv (.long a :: st) h | _ => False)
  | .fload _ => (match j_nth lv x with | .float a => nx lv (.float a :: st) h | _ => False)
  | .fload_n _ => (match j_nth lv x with | .float a => nx lv (.float a :: st) h | _ => False)
  | .dload _ => (match j_nth lv x with | .double a => nx lv (.double a :: st) h | _ => False)
  | .dload_n _ => (match j_nth lv x with | .double a => nx lv (.double a :: st) h | _ => False)
  | .aload _ => (match j_nth lv x with | .ref a => nx lv (.ref a :: st) h | _ => False)
  | .aload_n _ => (match j_nth lv x with | .ref a => nx lv (.ref a :: st) h | _ => False)
  | .istore _ => j_i1 st (fun a r => nx (j_st1 lv x (.int a)) r h)
  | .istore_n _ => j_i1 st (fun a r => nx (j_st1 lv x (.int a)) r h)
  | .astore _ => j_r1 st (fun a r => nx (j_st1 lv x (.ref a)) r h)
  | .astore_n _ => j_r1 st (fun a r => nx (j_st1 lv x (.ref a)) r h)
  | .fstore _ => j_f1 st (fun a r => nx (j_st1 lv x (.float a)) r h)
  | .fstore_n _ => j_f1 st (fun a r => nx (j_st1 lv x (.float a)) r h)
  | .lstore _ => j_l1 st (fun a r => nx (j_st2 lv x (.long a)) r h)
  | .lstore_n _ => j_l1 st (fun a r => nx (j_st2 lv x (.long a)) r h)
  | .dstore _ => j_d1 st (fun a r => nx (j_st2 lv x (.double a)) r h)
  | .dstore_n _ => j_d1 st (fun a r => nx (j_st2 lv x (.double a)) r h)
  | .iinc _ _ => (match j_nth lv x, v with | .int a, .int b => nx (j_st1 lv x (.int (a + b))) st h | _, _ => False)
  | .iadd => j_i2 st (fun a b r => nx lv (.int (a + b) :: r) h)
  | .isub => j_i2 st (fun a b r => nx lv (.int (a - b) :: r) h)
  | .imul => j_i2 st (fun a b r => nx lv (.int (a * b) :: r) h)
  | .idiv => j_i2 st (fun a b r => ¬ b = 0 ∧ nx lv (.int (a / b) :: r) h)
  | .irem => j_i2 st (fun a b r => ¬ b = 0 ∧ nx lv (.int (a - a / b * b) :: r) h)
  | .ineg => j_i1 st (fun a r => nx lv (.int (-a) :: r) h)
  | .iand => j_i2 st (fun a b r => nx lv (.int (a &&& b) :: r) h)
  | .ior => j_i2 st (fun a b r => nx lv (.int (a ||| b) :: r) h)
  | .ixor => j_i2 st (fun a b r => nx lv (.int (a ^^^ b) :: r) h)
  | .ishl => j_i2 st (fun a b r => nx lv (.int (a <<< (b &&& 31)) :: r) h)
  | .ishr => j_i2 st (fun a b r => nx lv (.int (a >>> (b &&& 31)) :: r) h)
  | .ladd => j_l2 st (fun a b r => nx lv (.long (a + b) :: r) h)
  | .lsub => j_l2 st (fun a b r => nx lv (.long (a - b) :: r) h)
  | .lmul => j_l2 st (fun a b r => nx lv (.long (a * b) :: r) h)
  | .ldiv => j_l2 st (fun a b r => ¬ b = 0 ∧ nx lv (.long (a / b) :: r) h)
  | .land => j_l2 st (fun a b r => nx lv (.long (a &&& b) :: r) h)
  | .lor => j_l2 st (fun a b r => nx lv (.long (a ||| b) :: r) h)
  | .lxor => j_l2 st (fun a b r => nx lv (.long (a ^^^ b) :: r) h)
  | .lneg => j_l1 st (fun a r => nx lv (.long (-a) :: r) h)
  | .lshl => j_li st (fun a b r => nx lv (.long (a <<< (b.toInt64 &&& 63)) :: r) h)
  | .lushr => j_li st (fun a b r => nx lv (.long (a.toUInt64 >>> (b.toInt64.toUInt64 &&& Int64.toUInt64 63)).toInt64 :: r) h)
  | .lcmp => j_l2 st (fun a b r => nx lv (.int (lg_cmp a b) :: r) h)
  | .i2l => j_i1 st (fun a r => nx lv (.long a.toInt64 :: r) h)
  | .l2i => j_l1 st (fun a r => nx lv (.int a.toInt32 :: r) h)
  | .i2b => j_i1 st (fun a r => nx lv (.int a.toInt8.toInt32 :: r) h)
  | .i2c => j_i1 st (fun a r => nx lv (.int (a.toUInt32 % 65536).toInt32 :: r) h)
  | .i2f => j_i1 st (fun a r => nx lv (.float (FP.i2f a) :: r) h)
  | .i2d => j_i1 st (fun a r => nx lv (.double (FP.i2d a) :: r) h)
  | .fdiv => j_f2 st (fun a b r => vf_n32 (FP.fdiv a b) ∧ nx lv (.float (FP.fdiv a b) :: r) h)
  | .ddiv => j_d2 st (fun a b r => vf_n64 (FP.ddiv a b) ∧ nx lv (.double (FP.ddiv a b) :: r) h)
  | .f2d => j_f1 st (fun a r => vf_n64 (FP.f2d a) ∧ nx lv (.double (FP.f2d a) :: r) h)
  | .fcmp o => j_f2 st (fun a b r => nx lv (.int (Op.cmpValue (FP.fcmp a b) o) :: r) h)
  | .dcmp o => j_d2 st (fun a b r => nx lv (.int (Op.cmpValue (FP.dcmp a b) o) :: r) h)
  | .pop => (match st with | .int _ :: r => nx lv r h | .ref _ :: r => nx lv r h | _ => False)
  | .dup => (match st with | .int a :: r => nx lv (.int a :: .int a :: r) h | .ref a :: r => nx lv (.ref a :: .ref a :: r) h | _ => False)
  | .dup_x1 => (match st with | .int a :: .ref b :: r => nx lv (.int a :: .ref b :: .int a :: r) h | _ => False)
  | .dup2 => (match st with | .int a :: .ref b :: r => nx lv (.int a :: .ref b :: .int a :: .ref b :: r) h | _ => False)
  | _ => False
def j_opB (C : j_Cal) (K : j_G) (Q : j_O → j_H → Prop) (i : Instr) (pc x y : Nat) (v : Value) (lv st : List Value) (h : j_H) (E : j_E) (nx : List Value → List Value → j_H → Prop) : Prop := match i with
  | .ifCond c _ => j_i1 st (fun a r => j_cond c a 0 (K x lv r h) (nx lv r h))
  | .if_icmp c _ => j_i2 st (fun a b r => j_cond c a b (K x lv r h) (nx lv r h))
  | .goto _ => K x lv st h
  | .ifnull _ => (match st with | .null :: r => K x lv r h | .ref _ :: r => nx lv r h | _ => False)
  | .ifnonnull _ => (match st with | .null :: r => nx lv r h | .ref _ :: r => K x lv r h | _ => False)
  | .tableswitch d lo _ ts => j_i1 st (fun a r => j_sw lo ts.toList a pc (fun t => K t lv r h) (K ((pc : Int) + d).toNat lv r h))
  | .getstatic _ => (match x with
      | 0 => nx lv (.int 1 :: st) h
      | 1 => nx lv (.ref (E.1 200) :: st) h
      | 2 => nx lv (.ref (E.1 201) :: st) h
      | _ => nx lv (.null :: st) h ∧ ∀ a, nx lv (.ref a :: st) h)
  | .getfield _ => j_r1 st (fun a r => j_sh h a = some (.inr x) ∧ (match v with
      | .int _ => nx lv (.int (j_I h a y) :: r) h
      | .long _ => nx lv (.long (j_L h a y) :: r) h
      | _ => j_ref (j_R h a y) (fun b => nx lv (.ref b :: r) h)))
  | .putfield _ => (match v, st with
      | .ref k, .int n :: .ref a :: r => j_sh h a = some (.inr x) ∧ j_nar k n ∧ nx lv r (j_setI h a y n)
      | .long _, .long n :: .ref a :: r => j_sh h a = some (.inr x) ∧ nx lv r (j_setL h a y n)
      | .null, .ref n :: .ref a :: r => j_sh h a = some (.inr x) ∧ nx lv r (j_setR h a y (some n))
      | _, _ => False)
  | .iaload => j_ai st (fun a i r => j_ari (j_sh h a) (fun n => vp_in i n ∧ nx lv (.int (j_I h a i.toNatClampNeg) :: r) h))
  | .baload => j_ai st (fun a i r => j_arb (j_sh h a) (fun n => vp_in i n ∧ nx lv (.int (j_I h a i.toNatClampNeg) :: r) h))
  | .laload => j_ai st (fun a i r => j_arr 1 (j_sh h a) (fun n => vp_in i n ∧ nx lv (.long (j_L h a i.toNatClampNeg) :: r) h))
  | .daload => j_ai st (fun a i r => j_arr 2 (j_sh h a) (fun n => vp_in i n ∧ nx lv (.double (j_D h a i.toNatClampNeg) :: r) h))
  | .aaload => j_ai st (fun a i r => j_arr x (j_sh h a) (fun n => vp_in i n ∧ (match j_R h a i.toNatClampNeg with | some b => nx lv (.ref b :: r) h | none => nx lv (.null :: r) h)))
  | .iastore => j_aii st (fun a i w r => j_arr 0 (j_sh h a) (fun n => vp_in i n ∧ nx lv r (j_setI h a i.toNatClampNeg w)))
  | .bastore => j_aii st (fun a i w r => j_arr 3 (j_sh h a) (fun n => vp_in i n ∧ nx lv r (j_setI h a i.toNatClampNeg w.toInt8.toInt32)))
  | .lastore => j_ail st (fun a i w r => j_arr 1 (j_sh h a) (fun n => vp_in i n ∧ nx lv r (j_setL h a i.toNatClampNeg w)))
  | .dastore => j_aid st (fun a i w r => j_arr 2 (j_sh h a) (fun n => vp_in i n ∧ nx lv r (j_setD h a i.toNatClampNeg w)))
  | .aastore => j_air st (fun a i w r => j_arr x (j_sh h a) (fun n => vp_in i n ∧ j_sh h w = some (.inr y) ∧ nx lv r (j_setR h a i.toNatClampNeg (some w))))
  | .arraylength => j_r1 st (fun a r => j_len (j_sh h a) (fun n => nx lv (.int (nI n) :: r) h))
  | .newarray _ => j_i1 st (fun n r => ¬ n < 0 ∧ n.toNatClampNeg ≤ 1000000 ∧ j_c h + 1 ≤ E.2.1 ∧ j_k h + n.toNatClampNeg ≤ E.2.2 ∧ nx lv (.ref (j_z h) :: r) (j_new h (.inl (x, n.toNatClampNeg)) n.toNatClampNeg))
  | .anewarray _ => j_i1 st (fun n r => ¬ n < 0 ∧ n.toNatClampNeg ≤ 1000000 ∧ j_c h + 1 ≤ E.2.1 ∧ j_k h + n.toNatClampNeg ≤ E.2.2 ∧ nx lv (.ref (j_z h) :: r) (j_new h (.inl (x, n.toNatClampNeg)) n.toNatClampNeg))
  | .new _ => (match v with
      | .ref n => j_c h + 1 ≤ E.2.1 ∧ j_k h + n ≤ E.2.2 ∧ nx lv (.ref (j_z h) :: st) (j_new h (.inr x) n)
      | _ => j_few st (j_c h + 1 ≤ E.2.1 ∧ j_k h + 6 ≤ E.2.2 ∧ ∀ z, j_z h ≤ z → Q (.inr x) (j_thr h z)))
  | .invokevirtual _ => j_args y st [] (fun as r => j_few r (C x as h (j_out v Q r (fun st h => nx lv st h))))
  | .invokestatic _ => (match v with
      | .ref k => j_nat k st h (fun st h => nx lv st h)
      | _ => j_args y st [] (fun as r => j_few r (C x as h (j_out v Q r (fun st h => nx lv st h)))))
  | .invokespecial _ => (match v with
      | .ref k => j_nat k st h (fun st h => nx lv st h)
      | _ => j_args y st [] (fun as r => j_few r (C x as h (j_out v Q r (fun st h => nx lv st h)))))
  | .ireturn => (match st with | [.int a] => j_nar x a ∧ Q (.inl (some (.int a))) h | _ => False)
  | .lreturn => (match st with | [.long a] => Q (.inl (some (.long a))) h | _ => False)
  | .freturn => (match st with | [.float a] => Q (.inl (some (.float a))) h | _ => False)
  | .dreturn => (match st with | [.double a] => Q (.inl (some (.double a))) h | _ => False)
  | .areturn => (match st with | [.ref a] => Q (.inl (some (.ref a))) h | _ => False)
  | .return_ => (match st with | [] => Q (.inl none) h | _ => False)
  | i => j_opA i x y v lv st h E nx
/-- the code from pc on, as a list; beyond its end K -/
def j_wp (C : j_Cal) (K : j_G) (Q : j_O → j_H → Prop) (E : j_E) : List j_N → j_G
  | [], pc, lv, st, h => K pc lv st h
  | (i, n, x, y, v) :: is, pc, lv, st, h => j_opB C K Q i pc x y v lv st h E (fun lv st h => j_wp C K Q E is (pc + n) lv st h)

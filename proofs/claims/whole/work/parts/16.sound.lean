/-! ===== the machine follows the own semantics ===== -/
def j_ki (ty : FieldType) (k : Nat) : Bool := match ty, k with
  | .int, 0 => true
  | .boolean, 1 => true
  | .byte, 2 => true
  | .char, 3 => true
  | _, _ => false
theorem j_ki_spec {ty : FieldType} {k : Nat} (h : j_ki ty k = true) : (ty = .int ∧ k = 0) ∨ (ty = .boolean ∧ k = 1) ∨ (ty = .byte ∧ k = 2) ∨ (ty = .char ∧ k = 3) := by
  unfold j_ki at h
  split at h <;> simp_all
def j_kg (ty : FieldType) (v : Value) : Bool := match v with
  | .int _ => (match ty with
    | .int => true
    | .boolean => true
    | .byte => true
    | .char => true
    | _ => false)
  | .long _ => (match ty with
    | .long => true
    | _ => false)
  | _ => (match ty with
    | .object _ => true
    | .array _ => true
    | _ => false)
def j_kp (ty : FieldType) (v : Value) : Bool := match v with
  | .ref k => j_ki ty k
  | .long _ => (match ty with
    | .long => true
    | _ => false)
  | .null => (match ty with
    | .object _ => true
    | .array _ => true
    | _ => false)
  | _ => false
def j_ok2 (mi : j_Mi) : Bool := decide (mi.2.2.1 ≤ 45) && decide (mi.1.cls ≠ "java/lang/invoke/MethodHandle") && decide (mi.1.cls ≠ "java/lang/invoke/VarHandle")
def j_np (mi : j_Mi) (n : Nat) : Bool := match parseMethodDescriptor mi.1.desc with
  | some sig => sig.parameters.length == n
  | none => true
def j_ckB (own : String) (ini : Bool) (ret : Option FieldType) (nL : Nat) (i : Instr) (n pc x y : Nat) (v : Value) : Bool := match i with
  | .ifCond _ o => n == 3 && decide ((pc : Int) + o = (x : Int))
  | .if_icmp _ o => n == 3 && decide ((pc : Int) + o = (x : Int))
  | .goto o => n == 3 && decide ((pc : Int) + o = (x : Int))
  | .ifnull o => n == 3 && decide ((pc : Int) + o = (x : Int))
  | .ifnonnull o => n == 3 && decide ((pc : Int) + o = (x : Int))
  | .tableswitch dd lo hi ts => decide (0 ≤ (pc : Int) + dd) && ts.toList.all (fun o => decide (0 ≤ (pc : Int) + o)) && decide (hi = lo + ts.toList.length - 1) && decide (-1000000 ≤ lo) && decide (hi ≤ 1000000)
  | .getstatic _ => n == 3
  | .getfield _ => n == 3 && (match j_cl[x]? with
    | some r => decide (y < r.2.2)
    | none => false) && j_kg (j_ty x y) v
  | .putfield _ => n == 3 && decide (x ≠ 0) && (match j_cl[x]? with
    | some r => decide (y < r.2.2) && (!(r.2.1 y).2.2.2 || (ini && decide ((r.2.1 y).1 = own)))
    | none => false) && j_kp (j_ty x y) v
  | .iaload => n == 1
  | .baload => n == 1
  | .laload => n == 1
  | .daload => n == 1
  | .iastore => n == 1
  | .bastore => n == 1
  | .lastore => n == 1
  | .dastore => n == 1
  | .aaload => n == 1 && (match j_aty x with
    | .object _ => true
    | _ => false)
  | .aastore => n == 1 && decide (x < 7) && (match j_cl[y]? with
    | some r => decide (j_aty x = .object r.1)
    | none => false)
  | .arraylength => n == 1
  | .newarray t => n == 2 && decide (j_aty x = newarray.typeOf t) && decide (newarray.typeOf t ≠ .float)
  | .anewarray _ => n == 3 && (match j_aty x with
    | .object _ => true
    | _ => false)
  | .new _ => n == 3 && (match v with
    | .ref k => (match j_cl[x]? with
      | some r => r.2.2 == k && (List.range k).all (fun j => decide (j_ty x j ≠ .float))
      | none => false)
    | _ => true)
  | .invokevirtual _ => n == 3 && (match j_mt[x]? with
    | some mi => j_ok2 mi && decide (1 ≤ y) && j_np mi (y - 1) && decide (mi.2.2.2.2 < 12)
    | none => false)
  | .invokestatic _ => n == 3 && (match v with
    | .ref k => decide (k < 6 ∨ k = 7)
    | _ => (match j_mt[x]? with
      | some mi => j_ok2 mi && j_np mi y
      | none => false))
  | .invokespecial _ => n == 3 && (match v with
    | .ref k => decide (k = 6)
    | _ => (match j_mt[x]? with
      | some mi => j_ok2 mi && decide (1 ≤ y) && j_np mi (y - 1) && ((decide (mi.2.2.2.1 = none) && decide (mi.1.name = "<init>") && decide (mi.2.2.2.2 < 90)) || (decide (mi.1.name ≠ "<init>") && decide (mi.2.2.2.2 < 12)))
      | none => false))
  | .ireturn => n == 1 && (match ret with
    | some ty => j_ki ty x
    | none => false)
  | .lreturn => n == 1 && decide (ret = some .long)
  | .freturn => n == 1 && decide (ret = some .float)
  | .dreturn => n == 1 && decide (ret = some .double)
  | .areturn => n == 1 && (match ret with
    | some (.object _) => true
    | some (.array _) => true
    | _ => false)
  | .return_ => n == 1 && decide (ret = none)
  | i => j_ckA i n x v nL && j_ckS own i x y v
def j_wdB (own : String) (i : Instr) (x y : Nat) (v : Value) : List Cond := match i with
  | .getfield k => (match j_cl[x]? with
    | some r => [.fieldLink own k (r.2.1 y).1 (r.2.1 y).2.1 (r.2.1 y).2.2.1]
    | none => [])
  | .putfield k => (match j_cl[x]? with
    | some r => [.fieldLink own k (r.2.1 y).1 (r.2.1 y).2.1 (r.2.1 y).2.2.1]
    | none => [])
  | .getstatic k => [.fieldLink own k (j_stn x).1 (j_stn x).2.1 (j_stn x).2.2]
  | .newarray t => [.arrayClass (newarray.typeOf t)]
  | .anewarray k => (match j_aty x with
    | .object C => [.classLink own k C]
    | _ => [])
  | .new k => (match v with
    | .ref n => (match j_cl[x]? with
      | some r => [.classLink own k r.1, .instantiable r.1 n, .initialized r.1]
      | none => [])
    | _ => [])
  | .invokevirtual k => (match j_mt[x]? with
    | some mi => (match j_cl[mi.2.2.2.2]? with
      | some r => [.code mi.1 mi.2.1 mi.2.2.1 mi.2.2.2.1, .initialized mi.1.cls, .methodLink own k mi.1, .instanceMethod mi.1, .selects r.1 mi.1 mi.1]
      | none => [])
    | none => [])
  | .invokestatic k => (match v with
    | .ref j => j_wdN own k j
    | _ => (match j_mt[x]? with
      | some mi => [.code mi.1 mi.2.1 mi.2.2.1 mi.2.2.2.1, .initialized mi.1.cls, .methodLink own k mi.1, .static mi.1]
      | none => []))
  | .invokespecial k => (match v with
    | .ref j => j_wdN own k j
    | _ => (match j_mt[x]? with
      | some mi => if mi.1.name = "<init>" then [.code mi.1 mi.2.1 mi.2.2.1 mi.2.2.2.1, .initialized mi.1.cls, .methodLink own k mi.1, .instanceMethod mi.1] else [.code mi.1 mi.2.1 mi.2.2.1 mi.2.2.2.1, .initialized mi.1.cls, .methodLink own k mi.1, .instanceMethod mi.1, .sameMethod mi.1.cls mi.1.cls mi.1.name mi.1.desc, .superclass own mi.1.cls]
      | none => []))
  | i => j_wdA own i y v
theorem j_sw_ok {JW : Nat → Prop} {P : Prop} {a : Int32} {pc : Nat} {D : Prop} : ∀ {ts : List Int} {lo : Int} {K : Nat → Prop}, (∀ t, K t → JW t) → (-1000000 ≤ lo) → (lo + ts.length ≤ 1000001) → (∀ o ∈ ts, 0 ≤ (pc : Int) + o) →
    (∀ (j : Nat) (o : Int) (tgt : Nat), ts[j]? = some o → a.toInt = lo + j → (pc : Int) + o = (tgt : Int) → JW tgt → P) → ((a.toInt < lo ∨ lo + ts.length ≤ a.toInt) → D → P) → j_sw lo ts a pc K D → P := by
  intro ts
  induction ts with
  | nil =>
    intro lo K hK h1 h2 h3 hj hd G
    refine hd ?_ G
    simp
    omega
  | cons o ts ih =>
    intro lo K hK h1 h2 h3 hj hd G
    simp only [List.length_cons] at h2
    unfold j_sw at G
    split at G
    · rename_i e
      have e2 : a.toInt = lo := by
        rw [e, Int32.toInt_ofInt_of_le (by omega) (by omega)]
      have h0 := h3 o List.mem_cons_self
      exact hj 0 o ((pc : Int) + o).toNat rfl (by simpa using e2) (by omega) (hK _ G)
    · rename_i e
      have e2 : a.toInt ≠ lo := fun z => e (by rw [← z]; exact (Int32.ofInt_toInt a).symm)
      refine ih hK (by omega) (by omega) (fun o ho => h3 o (List.mem_cons_of_mem _ ho)) (fun j o tgt g1 g2 g3 g4 => hj (j + 1) o tgt (by simpa using g1) (by rw [g2]; push_cast; omega) g3 g4) (fun g1 g2 => hd ?_ g2) G
      simp only [List.length_cons]
      push_cast
      rcases g1 with g1 | g1
      · left; omega
      · right; push_cast at g1; omega

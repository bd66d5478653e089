/-! ===== OWN SEMANTICS (j_): a small machine over an own heap; part 06 shows that the given machine follows it =====
The heap: shapes (array of type no. t and length n, or object of class no. c), ints, longs, references, doubles (each by address and index), the next address, cells and slots used. -/
abbrev j_S : Type := (Nat × Nat) ⊕ Nat
abbrev j_H : Type := (Nat → Option j_S) × (Nat → Nat → Int32) × (Nat → Nat → Int64) × (Nat → Nat → Option Nat) × (Nat → Nat → UInt64) × Nat × Nat × Nat
def j_sh (h : j_H) : Nat → Option j_S := h.1
def j_I (h : j_H) : Nat → Nat → Int32 := h.2.1
def j_L (h : j_H) : Nat → Nat → Int64 := h.2.2.1
def j_R (h : j_H) : Nat → Nat → Option Nat := h.2.2.2.1
def j_D (h : j_H) : Nat → Nat → UInt64 := h.2.2.2.2.1
def j_z (h : j_H) : Nat := h.2.2.2.2.2.1
def j_c (h : j_H) : Nat := h.2.2.2.2.2.2.1
def j_k (h : j_H) : Nat := h.2.2.2.2.2.2.2
def j_up {α : Type} (f : Nat → Nat → α) (a k : Nat) (v : α) : Nat → Nat → α := fun b j => if b = a ∧ j = k then v else f b j
def j_row {α : Type} (f : Nat → Nat → α) (a : Nat) (g : Nat → α) : Nat → Nat → α := fun b j => if b = a then g j else f b j
def j_setI (h : j_H) (a k : Nat) (v : Int32) : j_H := (h.1, j_up h.2.1 a k v, h.2.2)
def j_setL (h : j_H) (a k : Nat) (v : Int64) : j_H := (h.1, h.2.1, j_up h.2.2.1 a k v, h.2.2.2)
def j_setR (h : j_H) (a k : Nat) (v : Option Nat) : j_H := (h.1, h.2.1, h.2.2.1, j_up h.2.2.2.1 a k v, h.2.2.2.2)
def j_setD (h : j_H) (a k : Nat) (v : UInt64) : j_H := (h.1, h.2.1, h.2.2.1, h.2.2.2.1, j_up h.2.2.2.2.1 a k v, h.2.2.2.2.2)
/-- a row of ints anew (System.arraycopy) -/
def j_rowI (h : j_H) (a : Nat) (g : Nat → Int32) : j_H := (h.1, j_row h.2.1 a g, h.2.2)
/-- a new cell of n slots -/
def j_new (h : j_H) (s : j_S) (n : Nat) : j_H :=
  (fun b => if b = j_z h then some s else h.1 b, j_row h.2.1 (j_z h) (fun _ => 0), j_row h.2.2.1 (j_z h) (fun _ => 0), j_row h.2.2.2.1 (j_z h) (fun _ => none), j_row h.2.2.2.2.1 (j_z h) (fun _ => 0), j_z h + 1, j_c h + 1, j_k h + n)
/-- behind a throw: a cell of 6 slots more, the size is z -/
def j_thr (h : j_H) (z : Nat) : j_H := (h.1, h.2.1, h.2.2.1, h.2.2.2.1, h.2.2.2.2.1, z, j_c h + 1, j_k h + 6)
/-- how a method ends: it returns, or throws an exception of the class no. -/
abbrev j_O : Type := Option Value ⊕ Nat
/-- nothing is known of this local -/
def j_u : Value := .retAddr 0
/-- an instruction, its length, and what its operands mean -/
abbrev j_N : Type := Instr × Nat × Nat × Nat × Value
def j_kl : Value → Value
  | .long _ => j_u
  | .double _ => j_u
  | v => v
def j_st1 : List Value → Nat → Value → List Value
  | [], _, _ => []
  | _ :: vs, 0, v => v :: vs
  | w :: [], 1, _ => [j_kl w]
  | w :: _ :: vs, 1, v => j_kl w :: v :: vs
  | w :: vs, i + 2, v => w :: j_st1 vs (i + 1) v
def j_stu : List Value → Nat → List Value
  | [], _ => []
  | _ :: vs, 0 => j_u :: vs
  | w :: vs, i + 1 => w :: j_stu vs i
def j_st2 (vs : List Value) (i : Nat) (v : Value) : List Value := j_stu (j_st1 vs i v) (i + 1)
def j_nth : List Value → Nat → Value
  | [], _ => j_u
  | v :: _, 0 => v
  | _ :: vs, i + 1 => j_nth vs i
def j_i1 : List Value → (Int32 → List Value → Prop) → Prop
  | .int a :: r, k => k a r
  | _, _ => False
def j_i2 : List Value → (Int32 → Int32 → List Value → Prop) → Prop
  | .int b :: .int a :: r, k => k a b r
  | _, _ => False
def j_l1 : List Value → (Int64 → List Value → Prop) → Prop
  | .long a :: r, k => k a r
  | _, _ => False
def j_l2 : List Value → (Int64 → Int64 → List Value → Prop) → Prop
  | .long b :: .long a :: r, k => k a b r
  | _, _ => False
def j_li : List Value → (Int64 → Int32 → List Value → Prop) → Prop
  | .int b :: .long a :: r, k => k a b r
  | _, _ => False
def j_f1 : List Value → (UInt32 → List Value → Prop) → Prop
  | .float a :: r, k => k a r
  | _, _ => False
def j_f2 : List Value → (UInt32 → UInt32 → List Value → Prop) → Prop
  | .float b :: .float a :: r, k => k a b r
  | _, _ => False
def j_d1 : List Value → (UInt64 → List Value → Prop) → Prop
  | .double a :: r, k => k a r
  | _, _ => False
def j_d2 : List Value → (UInt64 → UInt64 → List Value → Prop) → Prop
  | .double b :: .double a :: r, k => k a b r
  | _, _ => False
def j_r1 : List Value → (Nat → List Value → Prop) → Prop
  | .ref a :: r, k => k a r
  | _, _ => False
/-- an array and an index -/
def j_ai : List Value → (Nat → Int32 → List Value → Prop) → Prop
  | .int i :: .ref a :: r, k => k a i r
  | _, _ => False
def j_aii : List Value → (Nat → Int32 → Int32 → List Value → Prop) → Prop
  | .int v :: .int i :: .ref a :: r, k => k a i v r
  | _, _ => False
def j_ail : List Value → (Nat → Int32 → Int64 → List Value → Prop) → Prop
  | .long v :: .int i :: .ref a :: r, k => k a i v r
  | _, _ => False
def j_aid : List Value → (Nat → Int32 → UInt64 → List Value → Prop) → Prop
  | .double v :: .int i :: .ref a :: r, k => k a i v r
  | _, _ => False
def j_air : List Value → (Nat → Int32 → Nat → List Value → Prop) → Prop
  | .ref v :: .int i :: .ref a :: r, k => k a i v r
  | _, _ => False
def j_ref : Option Nat → (Nat → Prop) → Prop
  | some b, k => k b
  | none, _ => False
/-- an array of ints: 0 ours, 7 the script -/
def j_ari : Option j_S → (Nat → Prop) → Prop
  | some (.inl (0, n)), k => k n
  | some (.inl (7, n)), k => k n
  | _, _ => False
/-- an array of bytes: 3 ours, 8 a constant's -/
def j_arb : Option j_S → (Nat → Prop) → Prop
  | some (.inl (3, n)), k => k n
  | some (.inl (8, n)), k => k n
  | _, _ => False
def j_arr (t : Nat) : Option j_S → (Nat → Prop) → Prop
  | some (.inl (u, n)), k => u = t ∧ k n
  | _, _ => False
def j_len : Option j_S → (Nat → Prop) → Prop
  | some (.inl (_, n)), k => k n
  | _, _ => False
/-- a field's kind, or an answer's: 0 int, 1 boolean, 2 byte, 3 char -/
def j_nar (k : Nat) (n : Int32) : Prop := match k with
  | 0 => True
  | 1 => n = 0 ∨ n = 1
  | 2 => n.toInt8.toInt32 = n
  | _ => (n.toUInt32 % 65536).toInt32 = n
def j_args : Nat → List Value → List Value → (List Value → List Value → Prop) → Prop
  | 0, st, as, k => k as st
  | n + 1, v :: st, as, k => j_args n st (v :: as) k
  | _ + 1, [], _, _ => False
def j_sw : Int → List Int → Int32 → Nat → (Nat → Prop) → Prop → Prop
  | _, [], _, _, _, D => D
  | lo, o :: ts, a, pc, K, D => if a = Int32.ofInt lo then K ((pc : Int) + o).toNat else j_sw (lo + 1) ts a pc K D
def j_cond (c : ClassFile.Cond) (a b : Int32) (P Q : Prop) : Prop := match c with
  | .eq => if a = b then P else Q
  | .ne => if a = b then Q else P
  | .lt => if a < b then P else Q
  | .ge => if a < b then Q else P
  | .gt => if b < a then P else Q
  | .le => if b < a then Q else P

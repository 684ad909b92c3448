/-! The pure machine: a state of numbers and functions, what one instruction does to it, what a call does to it.
    x : q_S: size of the heap, slots made, which cells are ours, which objects are alive (class, address), fields (class, place, address), int arrays (tag, address), reference arrays (tag, address), the empty table of ArrayList, the mirror of Object[], the script (cell, length, ints). -/
abbrev q_S : Type := Nat × Nat × (Nat → Bool) × (Nat → Nat → Bool) × (Nat → Nat → Nat → Value) × (Nat → Nat → Option (Nat × (Nat → Int32))) × (Nat → Nat → Option (Nat × (Nat → Option Nat))) × (Nat × Nat × Nat × Nat × (Nat → Int32))
def q_sz (x : q_S) : Nat := x.1
def q_sl (x : q_S) : Nat := x.2.1
def q_ow (x : q_S) : Nat → Bool := x.2.2.1
def q_al (x : q_S) : Nat → Nat → Bool := x.2.2.2.1
def q_fd (x : q_S) : Nat → Nat → Nat → Value := x.2.2.2.2.1
def q_ai (x : q_S) : Nat → Nat → Option (Nat × (Nat → Int32)) := x.2.2.2.2.2.1
def q_ar (x : q_S) : Nat → Nat → Option (Nat × (Nat → Option Nat)) := x.2.2.2.2.2.2.1
def q_en (x : q_S) : Nat × Nat × Nat × Nat × (Nat → Int32) := x.2.2.2.2.2.2.2
def q_z0 (x : q_S) : Nat := (q_en x).1
def q_mo (x : q_S) : Nat := (q_en x).2.1
def q_sb (x : q_S) : Nat := (q_en x).2.2.1
def q_sL (x : q_S) : Nat := (q_en x).2.2.2.1
def q_sx (x : q_S) : Nat → Int32 := (q_en x).2.2.2.2
def q_putF (x : q_S) (ci k a : Nat) (v : Value) : q_S := (q_sz x, q_sl x, q_ow x, q_al x, (fun c j b => if c = ci ∧ j = k ∧ b = a then v else q_fd x c j b), q_ai x, q_ar x, q_en x)
def q_putI (x : q_S) (t a n : Nat) (f : Nat → Int32) : q_S := (q_sz x, q_sl x, q_ow x, q_al x, q_fd x, (fun u b => if u = t ∧ b = a then some (n, f) else q_ai x u b), q_ar x, q_en x)
def q_putR (x : q_S) (t a n : Nat) (f : Nat → Option Nat) : q_S := (q_sz x, q_sl x, q_ow x, q_al x, q_fd x, q_ai x, (fun u b => if u = t ∧ b = a then some (n, f) else q_ar x u b), q_en x)
def q_newO (x : q_S) (ci N : Nat) (dv : Nat → Value) : q_S := (q_sz x + 1, q_sl x + N, (fun b => if b = q_sz x then true else q_ow x b), (fun c b => if c = ci ∧ b = q_sz x then true else q_al x c b), (fun c j b => if c = ci ∧ b = q_sz x then dv j else q_fd x c j b), q_ai x, q_ar x, q_en x)
def q_newI (x : q_S) (t n : Nat) : q_S := (q_sz x + 1, q_sl x + n, (fun b => if b = q_sz x then true else q_ow x b), q_al x, q_fd x, (fun u b => if u = t ∧ b = q_sz x then some (n, fun _ => 0) else q_ai x u b), q_ar x, q_en x)
def q_newR (x : q_S) (t n : Nat) : q_S := (q_sz x + 1, q_sl x + n, (fun b => if b = q_sz x then true else q_ow x b), q_al x, q_fd x, q_ai x, (fun u b => if u = t ∧ b = q_sz x then some (n, fun _ => none) else q_ar x u b), q_en x)
/-- tags from 100 on are arrays of booleans -/
def q_kd (t : Nat) : Nat := if 100 ≤ t then 1 else 0
def q_cnd (c : ClassFile.Cond) (x y : Int32) : Prop := match c with
  | .eq => x = y
  | .ne => ¬ x = y
  | .lt => x < y
  | .ge => y ≤ x
  | .gt => y < x
  | .le => x ≤ y
def q_acn (c : ClassFile.ACond) (x y : Option Nat) : Prop := match c with
  | .eq => x = y
  | .ne => ¬ x = y
def q_st1 (ls : List (Nat × Value)) (i : Nat) (v : Value) : List (Nat × Value) := (i, v) :: ls.filter (fun q => !(q.1 == i))
def q_la : Nat → List Value → List (Nat × Value)
  | _, [] => []
  | i, v :: vs => (i, v) :: q_la (i + 1) vs
def q_c1 (ls : List (Nat × Value)) : Prop := ∀ q ∈ ls, q.2.category = 1
/-- a method of the table: its name, code, number of locals, what it returns, how many parameters -/
abbrev q_M : Type := MethodName × ByteArray × Nat × Option FieldType × Nat
/-- a field's link: class that has it in its pool, place there, class of the object, place of the field, class named, host of the nest, type, whether final -/
abbrev q_F : Type := String × Nat × Nat × Nat × String × Option String × FieldType × Bool
/-- a call's link: class that has it in its pool, place there, method, host of the nest -/
abbrev q_L : Type := String × Nat × q_M × Option String
/-- a new object's link: class that has it in its pool, place there, class of the object, what its fields begin with -/
abbrev q_N : Type := String × Nat × Nat × List Value

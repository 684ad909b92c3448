/-! What the printed functions are made of: reads, writes and makings on the pure state, each of which may fail. -/
def q_gI (x : q_S) (r : Option Nat) (ci k : Nat) : Option Int32 := match r with
  | some a => if q_al x ci a = true then (match q_fd x ci k a with | .int v => some v | _ => none) else none
  | none => none
def q_gR (x : q_S) (r : Option Nat) (ci k : Nat) : Option (Option Nat) := match r with
  | some a => if q_al x ci a = true then (match q_fd x ci k a with | .ref b => some (some b) | .null => some none | _ => none) else none
  | none => none
def q_pI (x : q_S) (r : Option Nat) (ci k : Nat) (v : Int32) : Option q_S := match r with
  | some a => if q_al x ci a = true then some (q_putF x ci k a (.int v)) else none
  | none => none
def q_pZ (x : q_S) (r : Option Nat) (ci k : Nat) (v : Int32) : Option q_S := match r with
  | some a => if q_al x ci a = true ∧ (v = 0 ∨ v = 1) then some (q_putF x ci k a (.int v)) else none
  | none => none
def q_pR (x : q_S) (r : Option Nat) (ci k : Nat) (v : Option Nat) : Option q_S := match r with
  | some a => if q_al x ci a = true then some (q_putF x ci k a (va_rf v)) else none
  | none => none
def q_lI (x : q_S) (t : Nat) (r : Option Nat) (i : Int32) : Option Int32 := match r with
  | some a => (match q_ai x t a with | some y => if i < 0 ∨ y.1 ≤ i.toNatClampNeg then none else some (y.2 i.toNatClampNeg) | none => none)
  | none => none
def q_sI (x : q_S) (t : Nat) (r : Option Nat) (i v : Int32) : Option q_S := match r with
  | some a => (match q_ai x t a with | some y => if i < 0 ∨ y.1 ≤ i.toNatClampNeg then none else some (q_putI x t a y.1 (upd y.2 i.toNatClampNeg v)) | none => none)
  | none => none
def q_lR (x : q_S) (t : Nat) (r : Option Nat) (i : Int32) : Option (Option Nat) := match r with
  | some a => (match q_ar x t a with | some y => if i < 0 ∨ y.1 ≤ i.toNatClampNeg then none else some (y.2 i.toNatClampNeg) | none => none)
  | none => none
def q_ok (x : q_S) (v : Option Nat) : Bool := match v with
  | some b => q_AL.any (fun ci => q_al x ci b)
  | none => true
def q_sR (x : q_S) (t : Nat) (r : Option Nat) (i : Int32) (v : Option Nat) : Option q_S := match r with
  | some a => (match q_ar x t a with | some y => if (i < 0 ∨ y.1 ≤ i.toNatClampNeg) ∨ q_ok x v = false then none else some (q_putR x t a y.1 (va_up y.2 i.toNatClampNeg v)) | none => none)
  | none => none
def q_len (x : q_S) (t : Nat) (r : Option Nat) : Option Int32 := match r with
  | some a => (match q_ai x t a with | some y => some (Int32.ofNat y.1) | none => none)
  | none => none
def q_lenR (x : q_S) (t : Nat) (r : Option Nat) : Option Int32 := match r with
  | some a => (match q_ar x t a with | some y => some (Int32.ofNat y.1) | none => if a = q_z0 x then some (Int32.ofNat 0) else none)
  | none => none
def q_lenS (x : q_S) (r : Option Nat) : Option Int32 := if r = some (q_sb x) then some (Int32.ofNat (q_sL x)) else none
def q_lS (x : q_S) (r : Option Nat) (i : Int32) : Option Int32 := if r = some (q_sb x) ∧ ¬ (i < 0 ∨ q_sL x ≤ i.toNatClampNeg) then some (q_sx x i.toNatClampNeg) else none
def q_nI (x : q_S) (t : Nat) (v : Int32) : Option q_S := if v < 0 ∨ 100000 < v.toNatClampNeg then none else some (q_newI x t v.toNatClampNeg)
def q_nR (x : q_S) (t : Nat) (v : Int32) : Option q_S := if v < 0 ∨ 100000 < v.toNatClampNeg then none else some (q_newR x t v.toNatClampNeg)
def q_nO (x : q_S) (ci : Nat) (dv : List Value) : Option q_S := some (q_newO x ci dv.length (vp_V dv))
/-- an object of a class, or null -/
def q_ck (x : q_S) (r : Option Nat) (ci : Nat) : Option Unit := match r with
  | some a => if q_al x ci a = true then some () else none
  | none => some ()
/-- an object of a class -/
def q_av (x : q_S) (r : Option Nat) (ci : Nat) : Option Nat := match r with
  | some a => if q_al x ci a = true then some a else none
  | none => none
/-- an array of references -/
def q_aa (x : q_S) (t : Nat) (r : Option Nat) : Option Nat := match r with
  | some a => (match q_ar x t a with | some _ => some a | none => none)
  | none => none
def q_cp (x : q_S) (t : Nat) (r0 : Option Nat) (sp : Int32) (r1 : Option Nat) (dp n : Int32) : Option q_S := match r0, r1 with
  | some a0, some a1 => (match q_ar x t a0, q_ar x t a1 with
    | some y, some z => if sp < 0 ∨ dp < 0 ∨ n < 0 ∨ y.1 < sp.toNatClampNeg + n.toNatClampNeg ∨ z.1 < dp.toNatClampNeg + n.toNatClampNeg ∨ (List.range n.toNatClampNeg).all (fun i => q_ok x (y.2 (sp.toNatClampNeg + i))) = false then none
        else some (q_putR x t a1 z.1 (va_cpy y.2 z.2 sp.toNatClampNeg dp.toNatClampNeg n.toNatClampNeg))
    | _, _ => none)
  | _, _ => none
theorem q_bind {α β : Type} {o : Option α} {f : α → Option β} {b : β} (h : o.bind f = some b) : ∃ a, o = some a ∧ f a = some b := by
  cases o with
  | none => cases h
  | some a => exact ⟨a, rfl, h⟩
theorem q_ite {c : Prop} {i : Decidable c} {α : Type} {a b : Option α} {r : α} (h : (@ite _ c i a b) = some r) : (c ∧ a = some r) ∨ (¬ c ∧ b = some r) := by
  by_cases hc : c
  · rw [if_pos hc] at h; exact Or.inl ⟨hc, h⟩
  · rw [if_neg hc] at h; exact Or.inr ⟨hc, h⟩
theorem q_gI_sp {x : q_S} {r : Option Nat} {ci k : Nat} {v : Int32} (h : q_gI x r ci k = some v) : ∃ a, r = some a ∧ q_al x ci a = true ∧ q_fd x ci k a = .int v := by
  cases r with
  | none => cases h
  | some a =>
    unfold q_gI at h
    dsimp only at h
    rcases q_ite h with ⟨hc, h⟩ | ⟨-, h⟩
    · refine ⟨a, rfl, hc, ?_⟩
      split at h
      · next v' e => cases h; exact e
      · cases h
    · cases h
theorem q_gR_sp {x : q_S} {r : Option Nat} {ci k : Nat} {v : Option Nat} (h : q_gR x r ci k = some v) : ∃ a, r = some a ∧ q_al x ci a = true ∧ q_fd x ci k a = va_rf v := by
  cases r with
  | none => cases h
  | some a =>
    unfold q_gR at h
    dsimp only at h
    rcases q_ite h with ⟨hc, h⟩ | ⟨-, h⟩
    · refine ⟨a, rfl, hc, ?_⟩
      split at h
      · next v' e => cases h; exact e
      · next e => cases h; exact e
      · cases h
    · cases h
theorem q_pI_sp {x : q_S} {r : Option Nat} {ci k : Nat} {v : Int32} {y : q_S} (h : q_pI x r ci k v = some y) : ∃ a, r = some a ∧ q_al x ci a = true ∧ y = q_putF x ci k a (.int v) := by
  cases r with
  | none => cases h
  | some a =>
    unfold q_pI at h
    dsimp only at h
    rcases q_ite h with ⟨hc, h⟩ | ⟨-, h⟩
    · cases h; exact ⟨a, rfl, hc, rfl⟩
    · cases h
theorem q_pZ_sp {x : q_S} {r : Option Nat} {ci k : Nat} {v : Int32} {y : q_S} (h : q_pZ x r ci k v = some y) : ∃ a, r = some a ∧ q_al x ci a = true ∧ (v = 0 ∨ v = 1) ∧ y = q_putF x ci k a (.int v) := by
  cases r with
  | none => cases h
  | some a =>
    unfold q_pZ at h
    dsimp only at h
    rcases q_ite h with ⟨hc, h⟩ | ⟨-, h⟩
    · cases h; exact ⟨a, rfl, hc.1, hc.2, rfl⟩
    · cases h
theorem q_pR_sp {x : q_S} {r : Option Nat} {ci k : Nat} {v : Option Nat} {y : q_S} (h : q_pR x r ci k v = some y) : ∃ a, r = some a ∧ q_al x ci a = true ∧ y = q_putF x ci k a (va_rf v) := by
  cases r with
  | none => cases h
  | some a =>
    unfold q_pR at h
    dsimp only at h
    rcases q_ite h with ⟨hc, h⟩ | ⟨-, h⟩
    · cases h; exact ⟨a, rfl, hc, rfl⟩
    · cases h
theorem q_lI_sp {x : q_S} {t : Nat} {r : Option Nat} {i v : Int32} (h : q_lI x t r i = some v) : ∃ a y, r = some a ∧ q_ai x t a = some y ∧ vp_in i y.1 ∧ v = y.2 i.toNatClampNeg := by
  cases r with
  | none => cases h
  | some a =>
    unfold q_lI at h
    dsimp only at h
    split at h
    · next y e =>
      rcases q_ite h with ⟨-, h⟩ | ⟨hc, h⟩
      · cases h
      · cases h; exact ⟨a, y, rfl, e, hc, rfl⟩
    · cases h
theorem q_sI_sp {x : q_S} {t : Nat} {r : Option Nat} {i v : Int32} {x1 : q_S} (h : q_sI x t r i v = some x1) : ∃ a y, r = some a ∧ q_ai x t a = some y ∧ vp_in i y.1 ∧ x1 = q_putI x t a y.1 (upd y.2 i.toNatClampNeg v) := by
  cases r with
  | none => cases h
  | some a =>
    unfold q_sI at h
    dsimp only at h
    split at h
    · next y e =>
      rcases q_ite h with ⟨-, h⟩ | ⟨hc, h⟩
      · cases h
      · cases h; exact ⟨a, y, rfl, e, hc, rfl⟩
    · cases h
theorem q_lR_sp {x : q_S} {t : Nat} {r : Option Nat} {i : Int32} {v : Option Nat} (h : q_lR x t r i = some v) : ∃ a y, r = some a ∧ q_ar x t a = some y ∧ vp_in i y.1 ∧ v = y.2 i.toNatClampNeg := by
  cases r with
  | none => cases h
  | some a =>
    unfold q_lR at h
    dsimp only at h
    split at h
    · next y e =>
      rcases q_ite h with ⟨-, h⟩ | ⟨hc, h⟩
      · cases h
      · cases h; exact ⟨a, y, rfl, e, hc, rfl⟩
    · cases h
theorem q_ok_sp {x : q_S} {v : Option Nat} (h : q_ok x v = true) : ∀ b : Nat, v = some b → ∃ ci, q_al x ci b = true ∧ ci ∈ q_AL := by
  intro b hb
  subst hb
  obtain ⟨ci, h1, h2⟩ := List.any_eq_true.mp h
  exact ⟨ci, h2, h1⟩
theorem q_sR_sp {x : q_S} {t : Nat} {r : Option Nat} {i : Int32} {v : Option Nat} {x1 : q_S} (h : q_sR x t r i v = some x1) : ∃ a y, r = some a ∧ q_ar x t a = some y ∧ vp_in i y.1 ∧ (∀ b : Nat, v = some b → ∃ ci, q_al x ci b = true ∧ ci ∈ q_AL) ∧ x1 = q_putR x t a y.1 (va_up y.2 i.toNatClampNeg v) := by
  cases r with
  | none => cases h
  | some a =>
    unfold q_sR at h
    dsimp only at h
    split at h
    · next y e =>
      rcases q_ite h with ⟨-, h⟩ | ⟨hc, h⟩
      · cases h
      · cases h
        refine ⟨a, y, rfl, e, fun z => hc (Or.inl z), q_ok_sp ?_, rfl⟩
        cases hk : q_ok x v with
        | true => rfl
        | false => exact absurd (Or.inr hk) hc
    · cases h
theorem q_len_sp {x : q_S} {t : Nat} {r : Option Nat} {v : Int32} (h : q_len x t r = some v) : ∃ a y, r = some a ∧ q_ai x t a = some y ∧ v = Int32.ofNat y.1 := by
  cases r with
  | none => cases h
  | some a =>
    unfold q_len at h
    dsimp only at h
    split at h
    · next y e => cases h; exact ⟨a, y, rfl, e, rfl⟩
    · cases h
theorem q_lenR_sp {x : q_S} {t : Nat} {r : Option Nat} {v : Int32} (h : q_lenR x t r = some v) : ∃ a, r = some a ∧ ((∃ y, q_ar x t a = some y ∧ v = Int32.ofNat y.1) ∨ (a = q_z0 x ∧ v = Int32.ofNat 0)) := by
  cases r with
  | none => cases h
  | some a =>
    unfold q_lenR at h
    dsimp only at h
    split at h
    · next y e => cases h; exact ⟨a, rfl, Or.inl ⟨y, e, rfl⟩⟩
    · rcases q_ite h with ⟨hc, h⟩ | ⟨-, h⟩
      · cases h; exact ⟨a, rfl, Or.inr ⟨hc, rfl⟩⟩
      · cases h
theorem q_av_sp {x : q_S} {r : Option Nat} {ci a : Nat} (h : q_av x r ci = some a) : r = some a ∧ q_al x ci a = true := by
  cases r with
  | none => cases h
  | some b =>
    unfold q_av at h
    dsimp only at h
    rcases q_ite h with ⟨hc, h⟩ | ⟨-, h⟩
    · cases h; exact ⟨rfl, hc⟩
    · cases h
theorem q_aa_sp {x : q_S} {t : Nat} {r : Option Nat} {a : Nat} (h : q_aa x t r = some a) : r = some a ∧ ∃ y, q_ar x t a = some y := by
  cases r with
  | none => cases h
  | some b =>
    unfold q_aa at h
    dsimp only at h
    split at h
    · next y e => cases h; exact ⟨rfl, y, e⟩
    · cases h
theorem q_nI_sp {x : q_S} {t : Nat} {v : Int32} {x1 : q_S} (h : q_nI x t v = some x1) : ¬ v < 0 ∧ v.toNatClampNeg ≤ 100000 ∧ x1 = q_newI x t v.toNatClampNeg := by
  unfold q_nI at h
  rcases q_ite h with ⟨-, h⟩ | ⟨hc, h⟩
  · cases h
  · cases h; exact ⟨fun z => hc (Or.inl z), Nat.le_of_not_lt (fun z => hc (Or.inr z)), rfl⟩
theorem q_nR_sp {x : q_S} {t : Nat} {v : Int32} {x1 : q_S} (h : q_nR x t v = some x1) : ¬ v < 0 ∧ v.toNatClampNeg ≤ 100000 ∧ x1 = q_newR x t v.toNatClampNeg := by
  unfold q_nR at h
  rcases q_ite h with ⟨-, h⟩ | ⟨hc, h⟩
  · cases h
  · cases h; exact ⟨fun z => hc (Or.inl z), Nat.le_of_not_lt (fun z => hc (Or.inr z)), rfl⟩

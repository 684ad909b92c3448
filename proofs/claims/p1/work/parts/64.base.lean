/-! What each writing and making leaves in each component; reads out of facts. -/
theorem z_sz_putF (x : q_S) (ci k a : Nat) (v : Value) : q_sz (q_putF x ci k a v) = q_sz x := rfl
theorem z_sz_putI (x : q_S) (t a n : Nat) (f : Nat → Int32) : q_sz (q_putI x t a n f) = q_sz x := rfl
theorem z_sz_putR (x : q_S) (t a n : Nat) (f : Nat → Option Nat) : q_sz (q_putR x t a n f) = q_sz x := rfl
theorem z_sl_putF (x : q_S) (ci k a : Nat) (v : Value) : q_sl (q_putF x ci k a v) = q_sl x := rfl
theorem z_sl_putI (x : q_S) (t a n : Nat) (f : Nat → Int32) : q_sl (q_putI x t a n f) = q_sl x := rfl
theorem z_sl_putR (x : q_S) (t a n : Nat) (f : Nat → Option Nat) : q_sl (q_putR x t a n f) = q_sl x := rfl
theorem z_al_putF (x : q_S) (ci k a : Nat) (v : Value) : q_al (q_putF x ci k a v) = q_al x := rfl
theorem z_al_putI (x : q_S) (t a n : Nat) (f : Nat → Int32) : q_al (q_putI x t a n f) = q_al x := rfl
theorem z_al_putR (x : q_S) (t a n : Nat) (f : Nat → Option Nat) : q_al (q_putR x t a n f) = q_al x := rfl
theorem z_al_newI (x : q_S) (t n : Nat) : q_al (q_newI x t n) = q_al x := rfl
theorem z_al_newR (x : q_S) (t n : Nat) : q_al (q_newR x t n) = q_al x := rfl
theorem z_fd_putI (x : q_S) (t a n : Nat) (f : Nat → Int32) : q_fd (q_putI x t a n f) = q_fd x := rfl
theorem z_fd_putR (x : q_S) (t a n : Nat) (f : Nat → Option Nat) : q_fd (q_putR x t a n f) = q_fd x := rfl
theorem z_fd_newI (x : q_S) (t n : Nat) : q_fd (q_newI x t n) = q_fd x := rfl
theorem z_fd_newR (x : q_S) (t n : Nat) : q_fd (q_newR x t n) = q_fd x := rfl
theorem z_ai_putF (x : q_S) (ci k a : Nat) (v : Value) : q_ai (q_putF x ci k a v) = q_ai x := rfl
theorem z_ai_putR (x : q_S) (t a n : Nat) (f : Nat → Option Nat) : q_ai (q_putR x t a n f) = q_ai x := rfl
theorem z_ai_newO (x : q_S) (ci N : Nat) (dv : Nat → Value) : q_ai (q_newO x ci N dv) = q_ai x := rfl
theorem z_ai_newR (x : q_S) (t n : Nat) : q_ai (q_newR x t n) = q_ai x := rfl
theorem z_ar_putF (x : q_S) (ci k a : Nat) (v : Value) : q_ar (q_putF x ci k a v) = q_ar x := rfl
theorem z_ar_putI (x : q_S) (t a n : Nat) (f : Nat → Int32) : q_ar (q_putI x t a n f) = q_ar x := rfl
theorem z_ar_newO (x : q_S) (ci N : Nat) (dv : Nat → Value) : q_ar (q_newO x ci N dv) = q_ar x := rfl
theorem z_ar_newI (x : q_S) (t n : Nat) : q_ar (q_newI x t n) = q_ar x := rfl
theorem z_en_putF (x : q_S) (ci k a : Nat) (v : Value) : q_en (q_putF x ci k a v) = q_en x := rfl
theorem z_en_putI (x : q_S) (t a n : Nat) (f : Nat → Int32) : q_en (q_putI x t a n f) = q_en x := rfl
theorem z_en_putR (x : q_S) (t a n : Nat) (f : Nat → Option Nat) : q_en (q_putR x t a n f) = q_en x := rfl
theorem z_en_newO (x : q_S) (ci N : Nat) (dv : Nat → Value) : q_en (q_newO x ci N dv) = q_en x := rfl
theorem z_en_newI (x : q_S) (t n : Nat) : q_en (q_newI x t n) = q_en x := rfl
theorem z_en_newR (x : q_S) (t n : Nat) : q_en (q_newR x t n) = q_en x := rfl
theorem z_z0_putF (x : q_S) (ci k a : Nat) (v : Value) : q_z0 (q_putF x ci k a v) = q_z0 x := rfl
theorem z_z0_putI (x : q_S) (t a n : Nat) (f : Nat → Int32) : q_z0 (q_putI x t a n f) = q_z0 x := rfl
theorem z_z0_putR (x : q_S) (t a n : Nat) (f : Nat → Option Nat) : q_z0 (q_putR x t a n f) = q_z0 x := rfl
theorem z_z0_newO (x : q_S) (ci N : Nat) (dv : Nat → Value) : q_z0 (q_newO x ci N dv) = q_z0 x := rfl
theorem z_z0_newI (x : q_S) (t n : Nat) : q_z0 (q_newI x t n) = q_z0 x := rfl
theorem z_z0_newR (x : q_S) (t n : Nat) : q_z0 (q_newR x t n) = q_z0 x := rfl
theorem z_mo_putF (x : q_S) (ci k a : Nat) (v : Value) : q_mo (q_putF x ci k a v) = q_mo x := rfl
theorem z_mo_putI (x : q_S) (t a n : Nat) (f : Nat → Int32) : q_mo (q_putI x t a n f) = q_mo x := rfl
theorem z_mo_putR (x : q_S) (t a n : Nat) (f : Nat → Option Nat) : q_mo (q_putR x t a n f) = q_mo x := rfl
theorem z_mo_newO (x : q_S) (ci N : Nat) (dv : Nat → Value) : q_mo (q_newO x ci N dv) = q_mo x := rfl
theorem z_mo_newI (x : q_S) (t n : Nat) : q_mo (q_newI x t n) = q_mo x := rfl
theorem z_mo_newR (x : q_S) (t n : Nat) : q_mo (q_newR x t n) = q_mo x := rfl
theorem z_sb_putF (x : q_S) (ci k a : Nat) (v : Value) : q_sb (q_putF x ci k a v) = q_sb x := rfl
theorem z_sb_putI (x : q_S) (t a n : Nat) (f : Nat → Int32) : q_sb (q_putI x t a n f) = q_sb x := rfl
theorem z_sb_putR (x : q_S) (t a n : Nat) (f : Nat → Option Nat) : q_sb (q_putR x t a n f) = q_sb x := rfl
theorem z_sb_newO (x : q_S) (ci N : Nat) (dv : Nat → Value) : q_sb (q_newO x ci N dv) = q_sb x := rfl
theorem z_sb_newI (x : q_S) (t n : Nat) : q_sb (q_newI x t n) = q_sb x := rfl
theorem z_sb_newR (x : q_S) (t n : Nat) : q_sb (q_newR x t n) = q_sb x := rfl
theorem z_sL_putF (x : q_S) (ci k a : Nat) (v : Value) : q_sL (q_putF x ci k a v) = q_sL x := rfl
theorem z_sL_putI (x : q_S) (t a n : Nat) (f : Nat → Int32) : q_sL (q_putI x t a n f) = q_sL x := rfl
theorem z_sL_putR (x : q_S) (t a n : Nat) (f : Nat → Option Nat) : q_sL (q_putR x t a n f) = q_sL x := rfl
theorem z_sL_newO (x : q_S) (ci N : Nat) (dv : Nat → Value) : q_sL (q_newO x ci N dv) = q_sL x := rfl
theorem z_sL_newI (x : q_S) (t n : Nat) : q_sL (q_newI x t n) = q_sL x := rfl
theorem z_sL_newR (x : q_S) (t n : Nat) : q_sL (q_newR x t n) = q_sL x := rfl
theorem z_sx_putF (x : q_S) (ci k a : Nat) (v : Value) : q_sx (q_putF x ci k a v) = q_sx x := rfl
theorem z_sx_putI (x : q_S) (t a n : Nat) (f : Nat → Int32) : q_sx (q_putI x t a n f) = q_sx x := rfl
theorem z_sx_putR (x : q_S) (t a n : Nat) (f : Nat → Option Nat) : q_sx (q_putR x t a n f) = q_sx x := rfl
theorem z_sx_newO (x : q_S) (ci N : Nat) (dv : Nat → Value) : q_sx (q_newO x ci N dv) = q_sx x := rfl
theorem z_sx_newI (x : q_S) (t n : Nat) : q_sx (q_newI x t n) = q_sx x := rfl
theorem z_sx_newR (x : q_S) (t n : Nat) : q_sx (q_newR x t n) = q_sx x := rfl
theorem z_fd_putF (x : q_S) (ci k a : Nat) (v : Value) (c j b : Nat) : q_fd (q_putF x ci k a v) c j b = if c = ci ∧ j = k ∧ b = a then v else q_fd x c j b := rfl
theorem z_ai_putI (x : q_S) (t a n : Nat) (f : Nat → Int32) (u b : Nat) : q_ai (q_putI x t a n f) u b = if u = t ∧ b = a then some (n, f) else q_ai x u b := rfl
theorem z_ar_putR (x : q_S) (t a n : Nat) (f : Nat → Option Nat) (u b : Nat) : q_ar (q_putR x t a n f) u b = if u = t ∧ b = a then some (n, f) else q_ar x u b := rfl
theorem z_sz_newO (x : q_S) (ci N : Nat) (dv : Nat → Value) : q_sz (q_newO x ci N dv) = q_sz x + 1 := rfl
theorem z_sl_newO (x : q_S) (ci N : Nat) (dv : Nat → Value) : q_sl (q_newO x ci N dv) = q_sl x + N := rfl
theorem z_al_newO (x : q_S) (ci N : Nat) (dv : Nat → Value) (c b : Nat) : q_al (q_newO x ci N dv) c b = if c = ci ∧ b = q_sz x then true else q_al x c b := rfl
theorem z_fd_newO (x : q_S) (ci N : Nat) (dv : Nat → Value) (c j b : Nat) : q_fd (q_newO x ci N dv) c j b = if c = ci ∧ b = q_sz x then dv j else q_fd x c j b := rfl
theorem z_sz_newI (x : q_S) (t n : Nat) : q_sz (q_newI x t n) = q_sz x + 1 := rfl
theorem z_sl_newI (x : q_S) (t n : Nat) : q_sl (q_newI x t n) = q_sl x + n := rfl
theorem z_ai_newI (x : q_S) (t n : Nat) (u b : Nat) : q_ai (q_newI x t n) u b = if u = t ∧ b = q_sz x then some (n, fun _ => 0) else q_ai x u b := rfl
theorem z_sz_newR (x : q_S) (t n : Nat) : q_sz (q_newR x t n) = q_sz x + 1 := rfl
theorem z_sl_newR (x : q_S) (t n : Nat) : q_sl (q_newR x t n) = q_sl x + n := rfl
theorem z_ar_newR (x : q_S) (t n : Nat) (u b : Nat) : q_ar (q_newR x t n) u b = if u = t ∧ b = q_sz x then some (n, fun _ => none) else q_ar x u b := rfl
section ZR
variable {x : q_S} {ci k a t : Nat}
theorem y_gI {v : Int32} (h1 : q_al x ci a = true) (h2 : q_fd x ci k a = .int v) : q_gI x (some a) ci k = some v := by
  unfold q_gI; dsimp only; rw [if_pos h1, h2]
theorem y_gR {r : Option Nat} (h1 : q_al x ci a = true) (h2 : q_fd x ci k a = va_rf r) : q_gR x (some a) ci k = some r := by
  unfold q_gR; dsimp only; rw [if_pos h1, h2]; cases r <;> rfl
theorem y_gRs {b : Nat} (h1 : q_al x ci a = true) (h2 : q_fd x ci k a = .ref b) : q_gR x (some a) ci k = some (some b) := y_gR (r := some b) h1 h2
theorem y_pI {v : Int32} (h1 : q_al x ci a = true) : q_pI x (some a) ci k v = some (q_putF x ci k a (.int v)) := by
  unfold q_pI; dsimp only; rw [if_pos h1]
theorem y_pR {v : Option Nat} (h1 : q_al x ci a = true) : q_pR x (some a) ci k v = some (q_putF x ci k a (va_rf v)) := by
  unfold q_pR; dsimp only; rw [if_pos h1]
theorem y_pZ {v : Int32} (h1 : q_al x ci a = true) (h2 : v = 0 ∨ v = 1) : q_pZ x (some a) ci k v = some (q_putF x ci k a (.int v)) := by
  unfold q_pZ; dsimp only; rw [if_pos ⟨h1, h2⟩]
theorem y_av (h1 : q_al x ci a = true) : q_av x (some a) ci = some a := by
  unfold q_av; dsimp only; rw [if_pos h1]
theorem y_ck (h1 : q_al x ci a = true) : q_ck x (some a) ci = some () := by
  unfold q_ck; dsimp only; rw [if_pos h1]
theorem y_in {i n : Nat} (h : i < n) (hn : n < 2 ^ 31) : ¬ (nI i < 0 ∨ n ≤ (nI i).toNatClampNeg) := nI_in h hn
theorem y_lI {n i : Nat} {f : Nat → Int32} (h : q_ai x t a = some (n, f)) (hi : i < n) (hn : n < 2 ^ 31) : q_lI x t (some a) (nI i) = some (f i) := by
  unfold q_lI; dsimp only; rw [h]; dsimp only; rw [if_neg (y_in hi hn), nI_clamp (by omega)]
theorem y_sI {n i : Nat} {f : Nat → Int32} {v : Int32} (h : q_ai x t a = some (n, f)) (hi : i < n) (hn : n < 2 ^ 31) : q_sI x t (some a) (nI i) v = some (q_putI x t a n (upd f i v)) := by
  unfold q_sI; dsimp only; rw [h]; dsimp only; rw [if_neg (y_in hi hn), nI_clamp (by omega)]
theorem y_lR {n i : Nat} {f : Nat → Option Nat} (h : q_ar x t a = some (n, f)) (hi : i < n) (hn : n < 2 ^ 31) : q_lR x t (some a) (nI i) = some (f i) := by
  unfold q_lR; dsimp only; rw [h]; dsimp only; rw [if_neg (y_in hi hn), nI_clamp (by omega)]
theorem y_sR {n i : Nat} {f : Nat → Option Nat} {v : Option Nat} (h : q_ar x t a = some (n, f)) (hi : i < n) (hn : n < 2 ^ 31) (hv : q_ok x v = true) : q_sR x t (some a) (nI i) v = some (q_putR x t a n (va_up f i v)) := by
  unfold q_sR; dsimp only; rw [h]; dsimp only
  rw [if_neg (fun z => z.elim (y_in hi hn) (fun w => by rw [hv] at w; cases w)), nI_clamp (by omega)]
theorem y_len {n : Nat} {f : Nat → Int32} (h : q_ai x t a = some (n, f)) : q_len x t (some a) = some (nI n) := by
  unfold q_len; dsimp only; rw [h]; rfl
theorem y_lenR {n : Nat} {f : Nat → Option Nat} (h : q_ar x t a = some (n, f)) : q_lenR x t (some a) = some (nI n) := by
  unfold q_lenR; dsimp only; rw [h]; rfl
theorem y_lenZ (h : q_ar x t (q_z0 x) = none) : q_lenR x t (some (q_z0 x)) = some (nI 0) := by
  unfold q_lenR; dsimp only; rw [h]; dsimp only; rw [if_pos rfl]; rfl
theorem y_aa {n : Nat} {f : Nat → Option Nat} (h : q_ar x t a = some (n, f)) : q_aa x t (some a) = some a := by
  unfold q_aa; dsimp only; rw [h]
theorem y_nI {n : Nat} (h : n ≤ 100000) : q_nI x t (nI n) = some (q_newI x t n) := by
  unfold q_nI
  rw [if_neg (fun z => z.elim (nI_pos (by omega)) (fun w => by rw [nI_clamp (by omega)] at w; omega)), nI_clamp (by omega)]
theorem y_nR {n : Nat} (h : n ≤ 100000) : q_nR x t (nI n) = some (q_newR x t n) := by
  unfold q_nR
  rw [if_neg (fun z => z.elim (nI_pos (by omega)) (fun w => by rw [nI_clamp (by omega)] at w; omega)), nI_clamp (by omega)]
theorem y_okn : q_ok x none = true := rfl
theorem y_cp {a0 a1 n0 n1 sp dp n : Nat} {f g : Nat → Option Nat} (h0 : q_ar x t a0 = some (n0, f)) (h1 : q_ar x t a1 = some (n1, g)) (hs : sp + n ≤ n0) (hd : dp + n ≤ n1) (hn0 : n0 < 2 ^ 31) (hn1 : n1 < 2 ^ 31) (hok : ∀ i, i < n → q_ok x (f (sp + i)) = true) : q_cp x t (some a0) (nI sp) (some a1) (nI dp) (nI n) = some (q_putR x t a1 n1 (va_cpy f g sp dp n)) := by
  unfold q_cp
  dsimp only
  rw [h0, h1]
  dsimp only
  rw [nI_clamp (n := sp) (by omega), nI_clamp (n := dp) (by omega), nI_clamp (n := n) (by omega)]
  rw [if_neg]
  intro z
  rcases z with z | z | z | z | z | z
  · exact nI_pos (by omega) z
  · exact nI_pos (by omega) z
  · exact nI_pos (by omega) z
  · omega
  · omega
  · rw [List.all_eq_true.mpr (fun i hi => hok i (List.mem_range.mp hi))] at z
    cases z
end ZR

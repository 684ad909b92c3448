/-! The class's constructor, walked: what stands behind it. -/
theorem wf_uF {x y : q_S} {c k a : Nat} {v : Value} (h : wf x) (u : uF x y c k a v) : wf y := wf_eq h u.1 u.2.2.1 u.2.2.2.1 u.2.2.2.2.2.1 (fun _ _ hb => by rw [u.2.2.2.2.1]; exact hb)
theorem wf_uN {x y : q_S} {c : Nat} {dv : List Value} (h : wf x) (u : uN x y c dv) : wf y := by
  obtain ⟨u1, u2, u3, u4, u5, u6, u7⟩ := u
  have hz := h.1
  refine ⟨by rw [q_z0_en u5, u1]; omega, by rw [q_z0_en u5, u4]; exact h.2.1, fun t b hb => ?_, fun c' b hb => ?_⟩
  · rw [u1] at hb
    rw [u3, u4]; exact h.2.2.1 t b (by omega)
  · rw [u1] at hb
    rw [u6, if_neg (fun z => by omega)]; exact h.2.2.2 c' b (by omega)
theorem wf_uA {x y : q_S} {t n : Nat} (h : wf x) (u : uA x y t n) : wf y := by
  obtain ⟨u1, u2, u3, u4, u5, u6, u7⟩ := u
  have hz := h.1
  refine ⟨by rw [q_z0_en u5, u1]; omega, by rw [q_z0_en u5, u4]; exact h.2.1, fun t b hb => ?_, fun c' b hb => ?_⟩
  · rw [u1] at hb
    rw [u4, u7, if_neg (fun z => by omega)]; exact h.2.2.1 t b (by omega)
  · rw [u1] at hb
    rw [u3]; exact h.2.2.2 c' b (by omega)
theorem wf_uI {x y : q_S} {t a n : Nat} {f : Nat → Int32} (h : wf x) (u : uI x y t a n f) (ha : q_ai x t a ≠ none) : wf y := by
  obtain ⟨u1, u2, u3, u4, u5, u6, u7⟩ := u
  refine ⟨by rw [q_z0_en u5, u1]; exact h.1, by rw [q_z0_en u5, u4]; exact h.2.1, fun t' b hb => ?_, fun c' b hb => ?_⟩
  · rw [u1] at hb
    rw [u4, u7, if_neg (fun z => ha (by rw [← z.1, ← z.2]; exact (h.2.2.1 t' b hb).1))]; exact h.2.2.1 t' b hb
  · rw [u1] at hb
    rw [u3]; exact h.2.2.2 c' b hb
/-- the fixed part of the class's state: A 0 the object, 1 catalog, 2 configurations, 3 journal, 4 workshop, 5 shelf, 6 kinds, 7 definitions, 8 ring, 9 beans, 10 begun, 11 order -/
def cS (x : q_S) (A : Nat → Nat) (dn cap tot : Int32) (kn rg : Nat → Int32) : Prop :=
  (q_al x 0 (A 0) = true ∧ q_fd x 0 0 (A 0) = .ref (A 1) ∧ q_fd x 0 1 (A 0) = .ref (A 2) ∧ q_fd x 0 2 (A 0) = .ref (A 3) ∧ q_fd x 0 3 (A 0) = .ref (A 4) ∧ q_fd x 0 4 (A 0) = .ref (A 5) ∧ q_fd x 0 5 (A 0) = .int dn) ∧
  (q_al x 1 (A 1) = true ∧ q_fd x 1 0 (A 1) = .ref (A 6) ∧ q_fd x 1 1 (A 1) = .ref (A 7)) ∧
  (q_al x 3 (A 3) = true ∧ q_fd x 3 0 (A 3) = .ref (A 8) ∧ q_fd x 3 1 (A 3) = .int tot) ∧
  (q_al x 4 (A 4) = true ∧ q_fd x 4 0 (A 4) = .ref (A 1) ∧ q_fd x 4 1 (A 4) = .ref (A 3) ∧ q_fd x 4 2 (A 4) = .ref (A 9)) ∧
  (q_al x 5 (A 5) = true ∧ q_fd x 5 0 (A 5) = .int cap ∧ q_fd x 5 1 (A 5) = .ref (A 4) ∧ q_fd x 5 2 (A 5) = .ref (A 3) ∧ q_fd x 5 3 (A 5) = .ref (A 10) ∧ q_fd x 5 4 (A 5) = .ref (A 11)) ∧
  q_ai x 1 (A 6) = some (6, kn) ∧ q_ai x 3 (A 8) = some (32, rg)
def cL0 (A : Nat → Nat) (b : Nat) : Option (List Nat) := if b = A 2 ∨ b = A 7 ∨ b = A 9 ∨ b = A 10 ∨ b = A 11 then some [] else none
def cCap (c : Int32) : Int32 := if (3 : Int32) < (if c < (6 : Int32) then c else (6 : Int32)) then (if c < (6 : Int32) then c else (6 : Int32)) else (3 : Int32)
theorem lI_0 {x : q_S} {a : Nat} (h1 : q_al x 2 a = true) (h2 : q_fd x 2 0 a = .int 0) (h3 : q_fd x 2 1 a = .ref (q_z0 x)) (h4 : q_fd x 2 2 a = .int 0) : lI x a [] := ⟨h1, ⟨0, h2⟩, h4, _, h3, Or.inl ⟨rfl, rfl⟩⟩
def cPost (x : q_S) (B : Nat) (c : Int32) (o : Option (q_S × Unit)) : Prop := ∃ y, o = some (y, ()) ∧ ∃ A : Nat → Nat, A 0 = B ∧ cS y A 0 (cCap c) 0 kn0 (fun _ => 0) ∧ jL y (cL0 A) ∧ wf y ∧ q_en y = q_en x ∧ q_ar y = q_ar x ∧ q_sz y = q_sz x + 11 ∧ q_sl y ≤ q_sl x + 100 ∧ A 7 < A 2 ∧ A 2 < A 9 ∧ A 9 < A 10 ∧ A 10 < A 11
set_option maxHeartbeats 8000000 in
set_option maxRecDepth 20000 in
theorem C_init {x : q_S} {B : Nat} {c : Int32} (W0 : wf x) (hB : B < q_sz x) (A0_0_B : q_al x 0 B = true) (F0_0_5_B : q_fd x 0 5 B = .int 0) : cPost x B c (jf_Bc_init x B c) := by
  obtain ⟨s, hs⟩ : ∃ z, z = q_sz x := ⟨_, rfl⟩
  have z0 : q_sz x = s + 0 := hs.symm
  obtain ⟨m0, hm0⟩ : ∃ z, z = q_sl x := ⟨_, rfl⟩
  have t0 : q_sl x = m0 + 0 := hm0.symm
  have hB : B < s := by rw [hs]; exact hB
  unfold jf_Bc_init
  refine st_nO (fun x1 u1 => ?_)
  obtain ⟨cat, h_cat⟩ : ∃ z, z = q_sz x := ⟨_, rfl⟩
  have f_u1 := u1
  unfold uN at u1
  rw [← h_cat] at u1 ⊢
  have v_cat : cat = s + 0 := h_cat.trans z0
  have A1_0_B : q_al x1 0 B = true := by rw [u1.2.2.2.2.2.1, if_neg (fun z => absurd z.1 (by decide))]; exact A0_0_B
  have F1_0_5_B : q_fd x1 0 5 B = .int 0 := by rw [u1.2.2.2.2.2.2, if_neg (fun z => absurd z.1 (by decide))]; exact F0_0_5_B
  have E1 : q_en x1 = q_en x := u1.2.2.2.2.1
  have R1 : q_ar x1 = q_ar x := u1.2.2.2.1
  have W1 : wf x1 := wf_uN W0 f_u1
  have z1 : q_sz x1 = s + 1 := by rw [u1.1, v_cat]
  have t1 : q_sl x1 = m0 + 2 := by rw [u1.2.1, t0]; rfl
  have A1_1_cat : q_al x1 1 cat = true := by rw [u1.2.2.2.2.2.1, if_pos ⟨rfl, rfl⟩]
  try simp only [jf_Ca_init, Option.bind_assoc, Option.bind_some]
  refine st_nI (n := 6) rfl (by omega) (fun x2 u2 => ?_)
  obtain ⟨kd, h_kd⟩ : ∃ z, z = q_sz x1 := ⟨_, rfl⟩
  have f_u2 := u2
  unfold uA at u2
  rw [← h_kd] at u2 ⊢
  have v_kd : kd = s + 1 := h_kd.trans z1
  have A2_0_B : q_al x2 0 B = true := by rw [u2.2.2.1]; exact A1_0_B
  have A2_1_cat : q_al x2 1 cat = true := by rw [u2.2.2.1]; exact A1_1_cat
  have F2_0_5_B : q_fd x2 0 5 B = .int 0 := by rw [u2.2.2.2.2.2.1]; exact F1_0_5_B
  have E2 : q_en x2 = q_en x := (u2.2.2.2.2.1).trans E1
  have R2 : q_ar x2 = q_ar x := (u2.2.2.2.1).trans R1
  have W2 : wf x2 := wf_uA W1 f_u2
  have z2 : q_sz x2 = s + 2 := by rw [u2.1, v_kd]
  have t2 : q_sl x2 = m0 + 8 := by rw [u2.2.1, t1]
  have I2_1_kd : q_ai x2 1 kd = some (6, fun _ => 0) := by rw [u2.2.2.2.2.2.2, if_pos ⟨rfl, rfl⟩]
  refine st_pR A2_1_cat (fun x3 u3 => ?_)
  have A3_0_B : q_al x3 0 B = true := by rw [u3.2.2.1]; exact A2_0_B
  have A3_1_cat : q_al x3 1 cat = true := by rw [u3.2.2.1]; exact A2_1_cat
  have F3_0_5_B : q_fd x3 0 5 B = .int 0 := by rw [u3.2.2.2.2.2.2, if_neg (fun z => absurd z.1 (by decide))]; exact F2_0_5_B
  have I3_1_kd : q_ai x3 1 kd = some (6, fun _ => 0) := by rw [u3.2.2.2.1]; exact I2_1_kd
  have E3 : q_en x3 = q_en x := (u3.2.2.2.2.2.1).trans E2
  have R3 : q_ar x3 = q_ar x := (u3.2.2.2.2.1).trans R2
  have W3 : wf x3 := wf_uF W2 u3
  have z3 : q_sz x3 = s + 2 := u3.1.trans z2
  have t3 : q_sl x3 = m0 + 8 := u3.2.1.trans t2
  have F3_1_0_cat : q_fd x3 1 0 cat = .ref kd := (u3.2.2.2.2.2.2 1 0 cat).trans (if_pos ⟨rfl, rfl, rfl⟩)
  refine st_nO (fun x4 u4 => ?_)
  obtain ⟨lD, h_lD⟩ : ∃ z, z = q_sz x3 := ⟨_, rfl⟩
  have f_u4 := u4
  unfold uN at u4
  rw [← h_lD] at u4 ⊢
  have v_lD : lD = s + 2 := h_lD.trans z3
  have A4_0_B : q_al x4 0 B = true := by rw [u4.2.2.2.2.2.1, if_neg (fun z => absurd z.1 (by decide))]; exact A3_0_B
  have A4_1_cat : q_al x4 1 cat = true := by rw [u4.2.2.2.2.2.1, if_neg (fun z => absurd z.1 (by decide))]; exact A3_1_cat
  have F4_0_5_B : q_fd x4 0 5 B = .int 0 := by rw [u4.2.2.2.2.2.2, if_neg (fun z => absurd z.1 (by decide))]; exact F3_0_5_B
  have F4_1_0_cat : q_fd x4 1 0 cat = .ref kd := by rw [u4.2.2.2.2.2.2, if_neg (fun z => absurd z.1 (by decide))]; exact F3_1_0_cat
  have I4_1_kd : q_ai x4 1 kd = some (6, fun _ => 0) := by rw [u4.2.2.1]; exact I3_1_kd
  have E4 : q_en x4 = q_en x := (u4.2.2.2.2.1).trans E3
  have R4 : q_ar x4 = q_ar x := (u4.2.2.2.1).trans R3
  have W4 : wf x4 := wf_uN W3 f_u4
  have z4 : q_sz x4 = s + 3 := by rw [u4.1, v_lD]
  have t4 : q_sl x4 = m0 + 11 := by rw [u4.2.1, t3]; rfl
  have A4_2_lD : q_al x4 2 lD = true := by rw [u4.2.2.2.2.2.1, if_pos ⟨rfl, rfl⟩]
  have F4_2_0_lD : q_fd x4 2 0 lD = .int 0 := by rw [u4.2.2.2.2.2.2, if_pos ⟨rfl, rfl⟩]; rfl
  have F4_2_2_lD : q_fd x4 2 2 lD = .int 0 := by rw [u4.2.2.2.2.2.2, if_pos ⟨rfl, rfl⟩]; rfl
  try simp only [jf_AL_init, jf_AbL_init, jf_AbC_init, Option.bind_assoc, Option.bind_some]
  refine st_pI A4_2_lD (fun x5 u5 => ?_)
  have A5_0_B : q_al x5 0 B = true := by rw [u5.2.2.1]; exact A4_0_B
  have A5_1_cat : q_al x5 1 cat = true := by rw [u5.2.2.1]; exact A4_1_cat
  have A5_2_lD : q_al x5 2 lD = true := by rw [u5.2.2.1]; exact A4_2_lD
  have F5_0_5_B : q_fd x5 0 5 B = .int 0 := by rw [u5.2.2.2.2.2.2, if_neg (fun z => absurd z.1 (by decide))]; exact F4_0_5_B
  have F5_1_0_cat : q_fd x5 1 0 cat = .ref kd := by rw [u5.2.2.2.2.2.2, if_neg (fun z => absurd z.1 (by decide))]; exact F4_1_0_cat
  have F5_2_2_lD : q_fd x5 2 2 lD = .int 0 := by rw [u5.2.2.2.2.2.2, if_neg (fun z => absurd z.2.1 (by decide))]; exact F4_2_2_lD
  have I5_1_kd : q_ai x5 1 kd = some (6, fun _ => 0) := by rw [u5.2.2.2.1]; exact I4_1_kd
  have E5 : q_en x5 = q_en x := (u5.2.2.2.2.2.1).trans E4
  have R5 : q_ar x5 = q_ar x := (u5.2.2.2.2.1).trans R4
  have W5 : wf x5 := wf_uF W4 u5
  have z5 : q_sz x5 = s + 3 := u5.1.trans z4
  have t5 : q_sl x5 = m0 + 11 := u5.2.1.trans t4
  have F5_2_0_lD : q_fd x5 2 0 lD = .int 0 := (u5.2.2.2.2.2.2 2 0 lD).trans (if_pos ⟨rfl, rfl, rfl⟩)
  refine st_pR A5_2_lD (fun x6 u6 => ?_)
  have A6_0_B : q_al x6 0 B = true := by rw [u6.2.2.1]; exact A5_0_B
  have A6_1_cat : q_al x6 1 cat = true := by rw [u6.2.2.1]; exact A5_1_cat
  have A6_2_lD : q_al x6 2 lD = true := by rw [u6.2.2.1]; exact A5_2_lD
  have F6_0_5_B : q_fd x6 0 5 B = .int 0 := by rw [u6.2.2.2.2.2.2, if_neg (fun z => absurd z.1 (by decide))]; exact F5_0_5_B
  have F6_1_0_cat : q_fd x6 1 0 cat = .ref kd := by rw [u6.2.2.2.2.2.2, if_neg (fun z => absurd z.1 (by decide))]; exact F5_1_0_cat
  have F6_2_0_lD : q_fd x6 2 0 lD = .int 0 := by rw [u6.2.2.2.2.2.2, if_neg (fun z => absurd z.2.1 (by decide))]; exact F5_2_0_lD
  have F6_2_2_lD : q_fd x6 2 2 lD = .int 0 := by rw [u6.2.2.2.2.2.2, if_neg (fun z => absurd z.2.1 (by decide))]; exact F5_2_2_lD
  have I6_1_kd : q_ai x6 1 kd = some (6, fun _ => 0) := by rw [u6.2.2.2.1]; exact I5_1_kd
  have E6 : q_en x6 = q_en x := (u6.2.2.2.2.2.1).trans E5
  have R6 : q_ar x6 = q_ar x := (u6.2.2.2.2.1).trans R5
  have W6 : wf x6 := wf_uF W5 u6
  have z6 : q_sz x6 = s + 3 := u6.1.trans z5
  have t6 : q_sl x6 = m0 + 11 := u6.2.1.trans t5
  have F6_2_1_lD : q_fd x6 2 1 lD = .ref (q_z0 x5) := (u6.2.2.2.2.2.2 2 1 lD).trans (if_pos ⟨rfl, rfl, rfl⟩)
  rw [q_z0_en E5] at F6_2_1_lD
  refine st_pR A6_1_cat (fun x7 u7 => ?_)
  have A7_0_B : q_al x7 0 B = true := by rw [u7.2.2.1]; exact A6_0_B
  have A7_1_cat : q_al x7 1 cat = true := by rw [u7.2.2.1]; exact A6_1_cat
  have A7_2_lD : q_al x7 2 lD = true := by rw [u7.2.2.1]; exact A6_2_lD
  have F7_0_5_B : q_fd x7 0 5 B = .int 0 := by rw [u7.2.2.2.2.2.2, if_neg (fun z => absurd z.1 (by decide))]; exact F6_0_5_B
  have F7_1_0_cat : q_fd x7 1 0 cat = .ref kd := by rw [u7.2.2.2.2.2.2, if_neg (fun z => absurd z.2.1 (by decide))]; exact F6_1_0_cat
  have F7_2_0_lD : q_fd x7 2 0 lD = .int 0 := by rw [u7.2.2.2.2.2.2, if_neg (fun z => absurd z.1 (by decide))]; exact F6_2_0_lD
  have F7_2_2_lD : q_fd x7 2 2 lD = .int 0 := by rw [u7.2.2.2.2.2.2, if_neg (fun z => absurd z.1 (by decide))]; exact F6_2_2_lD
  have F7_2_1_lD : q_fd x7 2 1 lD = .ref (q_z0 x) := by rw [u7.2.2.2.2.2.2, if_neg (fun z => absurd z.1 (by decide))]; exact F6_2_1_lD
  have I7_1_kd : q_ai x7 1 kd = some (6, fun _ => 0) := by rw [u7.2.2.2.1]; exact I6_1_kd
  have E7 : q_en x7 = q_en x := (u7.2.2.2.2.2.1).trans E6
  have R7 : q_ar x7 = q_ar x := (u7.2.2.2.2.1).trans R6
  have W7 : wf x7 := wf_uF W6 u7
  have z7 : q_sz x7 = s + 3 := u7.1.trans z6
  have t7 : q_sl x7 = m0 + 11 := u7.2.1.trans t6
  have F7_1_1_cat : q_fd x7 1 1 cat = .ref lD := (u7.2.2.2.2.2.2 1 1 cat).trans (if_pos ⟨rfl, rfl, rfl⟩)
  obtain ⟨x8, eL, u8⟩ := Ca_loop lpK 0 x7 (fun _ => 0) A7_1_cat F7_1_0_cat (by omega) (by unfold lpK; omega) I7_1_kd (fun j hj => absurd hj (Nat.not_lt_zero j)) (fun _ _ => rfl)
  refine st_eq eL ?_
  dsimp only
  have A8_0_B : q_al x8 0 B = true := by rw [u8.2.2.1]; exact A7_0_B
  have A8_1_cat : q_al x8 1 cat = true := by rw [u8.2.2.1]; exact A7_1_cat
  have A8_2_lD : q_al x8 2 lD = true := by rw [u8.2.2.1]; exact A7_2_lD
  have F8_0_5_B : q_fd x8 0 5 B = .int 0 := by rw [u8.2.2.2.2.2.1]; exact F7_0_5_B
  have F8_1_0_cat : q_fd x8 1 0 cat = .ref kd := by rw [u8.2.2.2.2.2.1]; exact F7_1_0_cat
  have F8_2_0_lD : q_fd x8 2 0 lD = .int 0 := by rw [u8.2.2.2.2.2.1]; exact F7_2_0_lD
  have F8_2_2_lD : q_fd x8 2 2 lD = .int 0 := by rw [u8.2.2.2.2.2.1]; exact F7_2_2_lD
  have F8_2_1_lD : q_fd x8 2 1 lD = .ref (q_z0 x) := by rw [u8.2.2.2.2.2.1]; exact F7_2_1_lD
  have F8_1_1_cat : q_fd x8 1 1 cat = .ref lD := by rw [u8.2.2.2.2.2.1]; exact F7_1_1_cat
  have E8 : q_en x8 = q_en x := (u8.2.2.2.2.1).trans E7
  have R8 : q_ar x8 = q_ar x := (u8.2.2.2.1).trans R7
  have W8 : wf x8 := wf_uI W7 u8 (by rw [I7_1_kd]; exact fun h => nomatch h)
  have z8 : q_sz x8 = s + 3 := u8.1.trans z7
  have t8 : q_sl x8 = m0 + 11 := u8.2.1.trans t7
  have I8_1_kd : q_ai x8 1 kd = some (6, kn0) := by rw [u8.2.2.2.2.2.2, if_pos ⟨rfl, rfl⟩]
  refine st_pR A8_0_B (fun x9 u9 => ?_)
  have A9_0_B : q_al x9 0 B = true := by rw [u9.2.2.1]; exact A8_0_B
  have A9_1_cat : q_al x9 1 cat = true := by rw [u9.2.2.1]; exact A8_1_cat
  have A9_2_lD : q_al x9 2 lD = true := by rw [u9.2.2.1]; exact A8_2_lD
  have F9_0_5_B : q_fd x9 0 5 B = .int 0 := by rw [u9.2.2.2.2.2.2, if_neg (fun z => absurd z.2.1 (by decide))]; exact F8_0_5_B
  have F9_1_0_cat : q_fd x9 1 0 cat = .ref kd := by rw [u9.2.2.2.2.2.2, if_neg (fun z => absurd z.1 (by decide))]; exact F8_1_0_cat
  have F9_2_0_lD : q_fd x9 2 0 lD = .int 0 := by rw [u9.2.2.2.2.2.2, if_neg (fun z => absurd z.1 (by decide))]; exact F8_2_0_lD
  have F9_2_2_lD : q_fd x9 2 2 lD = .int 0 := by rw [u9.2.2.2.2.2.2, if_neg (fun z => absurd z.1 (by decide))]; exact F8_2_2_lD
  have F9_2_1_lD : q_fd x9 2 1 lD = .ref (q_z0 x) := by rw [u9.2.2.2.2.2.2, if_neg (fun z => absurd z.1 (by decide))]; exact F8_2_1_lD
  have F9_1_1_cat : q_fd x9 1 1 cat = .ref lD := by rw [u9.2.2.2.2.2.2, if_neg (fun z => absurd z.1 (by decide))]; exact F8_1_1_cat
  have I9_1_kd : q_ai x9 1 kd = some (6, kn0) := by rw [u9.2.2.2.1]; exact I8_1_kd
  have E9 : q_en x9 = q_en x := (u9.2.2.2.2.2.1).trans E8
  have R9 : q_ar x9 = q_ar x := (u9.2.2.2.2.1).trans R8
  have W9 : wf x9 := wf_uF W8 u9
  have z9 : q_sz x9 = s + 3 := u9.1.trans z8
  have t9 : q_sl x9 = m0 + 11 := u9.2.1.trans t8
  have F9_0_0_B : q_fd x9 0 0 B = .ref cat := (u9.2.2.2.2.2.2 0 0 B).trans (if_pos ⟨rfl, rfl, rfl⟩)
  refine st_nO (fun x10 u10 => ?_)
  obtain ⟨lK, h_lK⟩ : ∃ z, z = q_sz x9 := ⟨_, rfl⟩
  have f_u10 := u10
  unfold uN at u10
  rw [← h_lK] at u10 ⊢
  have v_lK : lK = s + 3 := h_lK.trans z9
  have A10_0_B : q_al x10 0 B = true := by rw [u10.2.2.2.2.2.1, if_neg (fun z => absurd z.1 (by decide))]; exact A9_0_B
  have A10_1_cat : q_al x10 1 cat = true := by rw [u10.2.2.2.2.2.1, if_neg (fun z => absurd z.1 (by decide))]; exact A9_1_cat
  have A10_2_lD : q_al x10 2 lD = true := by rw [u10.2.2.2.2.2.1, if_neg (fun z => (fun z => absurd (Nat.add_left_cancel ((v_lD.symm.trans z).trans v_lK)) (by decide)) z.2)]; exact A9_2_lD
  have F10_0_5_B : q_fd x10 0 5 B = .int 0 := by rw [u10.2.2.2.2.2.2, if_neg (fun z => absurd z.1 (by decide))]; exact F9_0_5_B
  have F10_1_0_cat : q_fd x10 1 0 cat = .ref kd := by rw [u10.2.2.2.2.2.2, if_neg (fun z => absurd z.1 (by decide))]; exact F9_1_0_cat
  have F10_2_0_lD : q_fd x10 2 0 lD = .int 0 := by rw [u10.2.2.2.2.2.2, if_neg (fun z => (fun z => absurd (Nat.add_left_cancel ((v_lD.symm.trans z).trans v_lK)) (by decide)) z.2)]; exact F9_2_0_lD
  have F10_2_2_lD : q_fd x10 2 2 lD = .int 0 := by rw [u10.2.2.2.2.2.2, if_neg (fun z => (fun z => absurd (Nat.add_left_cancel ((v_lD.symm.trans z).trans v_lK)) (by decide)) z.2)]; exact F9_2_2_lD
  have F10_2_1_lD : q_fd x10 2 1 lD = .ref (q_z0 x) := by rw [u10.2.2.2.2.2.2, if_neg (fun z => (fun z => absurd (Nat.add_left_cancel ((v_lD.symm.trans z).trans v_lK)) (by decide)) z.2)]; exact F9_2_1_lD
  have F10_1_1_cat : q_fd x10 1 1 cat = .ref lD := by rw [u10.2.2.2.2.2.2, if_neg (fun z => absurd z.1 (by decide))]; exact F9_1_1_cat
  have F10_0_0_B : q_fd x10 0 0 B = .ref cat := by rw [u10.2.2.2.2.2.2, if_neg (fun z => absurd z.1 (by decide))]; exact F9_0_0_B
  have I10_1_kd : q_ai x10 1 kd = some (6, kn0) := by rw [u10.2.2.1]; exact I9_1_kd
  have E10 : q_en x10 = q_en x := (u10.2.2.2.2.1).trans E9
  have R10 : q_ar x10 = q_ar x := (u10.2.2.2.1).trans R9
  have W10 : wf x10 := wf_uN W9 f_u10
  have z10 : q_sz x10 = s + 4 := by rw [u10.1, v_lK]
  have t10 : q_sl x10 = m0 + 14 := by rw [u10.2.1, t9]; rfl
  have A10_2_lK : q_al x10 2 lK = true := by rw [u10.2.2.2.2.2.1, if_pos ⟨rfl, rfl⟩]
  have F10_2_0_lK : q_fd x10 2 0 lK = .int 0 := by rw [u10.2.2.2.2.2.2, if_pos ⟨rfl, rfl⟩]; rfl
  have F10_2_2_lK : q_fd x10 2 2 lK = .int 0 := by rw [u10.2.2.2.2.2.2, if_pos ⟨rfl, rfl⟩]; rfl
  try simp only [jf_AL_init, jf_AbL_init, jf_AbC_init, Option.bind_assoc, Option.bind_some]
  refine st_pI A10_2_lK (fun x11 u11 => ?_)
  have A11_0_B : q_al x11 0 B = true := by rw [u11.2.2.1]; exact A10_0_B
  have A11_1_cat : q_al x11 1 cat = true := by rw [u11.2.2.1]; exact A10_1_cat
  have A11_2_lD : q_al x11 2 lD = true := by rw [u11.2.2.1]; exact A10_2_lD
  have A11_2_lK : q_al x11 2 lK = true := by rw [u11.2.2.1]; exact A10_2_lK
  have F11_0_5_B : q_fd x11 0 5 B = .int 0 := by rw [u11.2.2.2.2.2.2, if_neg (fun z => absurd z.1 (by decide))]; exact F10_0_5_B
  have F11_1_0_cat : q_fd x11 1 0 cat = .ref kd := by rw [u11.2.2.2.2.2.2, if_neg (fun z => absurd z.1 (by decide))]; exact F10_1_0_cat
  have F11_2_0_lD : q_fd x11 2 0 lD = .int 0 := by rw [u11.2.2.2.2.2.2, if_neg (fun z => (fun z => absurd (Nat.add_left_cancel ((v_lD.symm.trans z).trans v_lK)) (by decide)) z.2.2)]; exact F10_2_0_lD
  have F11_2_2_lD : q_fd x11 2 2 lD = .int 0 := by rw [u11.2.2.2.2.2.2, if_neg (fun z => absurd z.2.1 (by decide))]; exact F10_2_2_lD
  have F11_2_1_lD : q_fd x11 2 1 lD = .ref (q_z0 x) := by rw [u11.2.2.2.2.2.2, if_neg (fun z => absurd z.2.1 (by decide))]; exact F10_2_1_lD
  have F11_1_1_cat : q_fd x11 1 1 cat = .ref lD := by rw [u11.2.2.2.2.2.2, if_neg (fun z => absurd z.1 (by decide))]; exact F10_1_1_cat
  have F11_0_0_B : q_fd x11 0 0 B = .ref cat := by rw [u11.2.2.2.2.2.2, if_neg (fun z => absurd z.1 (by decide))]; exact F10_0_0_B
  have F11_2_2_lK : q_fd x11 2 2 lK = .int 0 := by rw [u11.2.2.2.2.2.2, if_neg (fun z => absurd z.2.1 (by decide))]; exact F10_2_2_lK
  have I11_1_kd : q_ai x11 1 kd = some (6, kn0) := by rw [u11.2.2.2.1]; exact I10_1_kd
  have E11 : q_en x11 = q_en x := (u11.2.2.2.2.2.1).trans E10
  have R11 : q_ar x11 = q_ar x := (u11.2.2.2.2.1).trans R10
  have W11 : wf x11 := wf_uF W10 u11
  have z11 : q_sz x11 = s + 4 := u11.1.trans z10
  have t11 : q_sl x11 = m0 + 14 := u11.2.1.trans t10
  have F11_2_0_lK : q_fd x11 2 0 lK = .int 0 := (u11.2.2.2.2.2.2 2 0 lK).trans (if_pos ⟨rfl, rfl, rfl⟩)
  refine st_pR A11_2_lK (fun x12 u12 => ?_)
  have A12_0_B : q_al x12 0 B = true := by rw [u12.2.2.1]; exact A11_0_B
  have A12_1_cat : q_al x12 1 cat = true := by rw [u12.2.2.1]; exact A11_1_cat
  have A12_2_lD : q_al x12 2 lD = true := by rw [u12.2.2.1]; exact A11_2_lD
  have A12_2_lK : q_al x12 2 lK = true := by rw [u12.2.2.1]; exact A11_2_lK
  have F12_0_5_B : q_fd x12 0 5 B = .int 0 := by rw [u12.2.2.2.2.2.2, if_neg (fun z => absurd z.1 (by decide))]; exact F11_0_5_B
  have F12_1_0_cat : q_fd x12 1 0 cat = .ref kd := by rw [u12.2.2.2.2.2.2, if_neg (fun z => absurd z.1 (by decide))]; exact F11_1_0_cat
  have F12_2_0_lD : q_fd x12 2 0 lD = .int 0 := by rw [u12.2.2.2.2.2.2, if_neg (fun z => absurd z.2.1 (by decide))]; exact F11_2_0_lD
  have F12_2_2_lD : q_fd x12 2 2 lD = .int 0 := by rw [u12.2.2.2.2.2.2, if_neg (fun z => absurd z.2.1 (by decide))]; exact F11_2_2_lD
  have F12_2_1_lD : q_fd x12 2 1 lD = .ref (q_z0 x) := by rw [u12.2.2.2.2.2.2, if_neg (fun z => (fun z => absurd (Nat.add_left_cancel ((v_lD.symm.trans z).trans v_lK)) (by decide)) z.2.2)]; exact F11_2_1_lD
  have F12_1_1_cat : q_fd x12 1 1 cat = .ref lD := by rw [u12.2.2.2.2.2.2, if_neg (fun z => absurd z.1 (by decide))]; exact F11_1_1_cat
  have F12_0_0_B : q_fd x12 0 0 B = .ref cat := by rw [u12.2.2.2.2.2.2, if_neg (fun z => absurd z.1 (by decide))]; exact F11_0_0_B
  have F12_2_0_lK : q_fd x12 2 0 lK = .int 0 := by rw [u12.2.2.2.2.2.2, if_neg (fun z => absurd z.2.1 (by decide))]; exact F11_2_0_lK
  have F12_2_2_lK : q_fd x12 2 2 lK = .int 0 := by rw [u12.2.2.2.2.2.2, if_neg (fun z => absurd z.2.1 (by decide))]; exact F11_2_2_lK
  have I12_1_kd : q_ai x12 1 kd = some (6, kn0) := by rw [u12.2.2.2.1]; exact I11_1_kd
  have E12 : q_en x12 = q_en x := (u12.2.2.2.2.2.1).trans E11
  have R12 : q_ar x12 = q_ar x := (u12.2.2.2.2.1).trans R11
  have W12 : wf x12 := wf_uF W11 u12
  have z12 : q_sz x12 = s + 4 := u12.1.trans z11
  have t12 : q_sl x12 = m0 + 14 := u12.2.1.trans t11
  have F12_2_1_lK : q_fd x12 2 1 lK = .ref (q_z0 x11) := (u12.2.2.2.2.2.2 2 1 lK).trans (if_pos ⟨rfl, rfl, rfl⟩)
  rw [q_z0_en E11] at F12_2_1_lK
  refine st_pR A12_0_B (fun x13 u13 => ?_)
  have A13_0_B : q_al x13 0 B = true := by rw [u13.2.2.1]; exact A12_0_B
  have A13_1_cat : q_al x13 1 cat = true := by rw [u13.2.2.1]; exact A12_1_cat
  have A13_2_lD : q_al x13 2 lD = true := by rw [u13.2.2.1]; exact A12_2_lD
  have A13_2_lK : q_al x13 2 lK = true := by rw [u13.2.2.1]; exact A12_2_lK
  have F13_0_5_B : q_fd x13 0 5 B = .int 0 := by rw [u13.2.2.2.2.2.2, if_neg (fun z => absurd z.2.1 (by decide))]; exact F12_0_5_B
  have F13_1_0_cat : q_fd x13 1 0 cat = .ref kd := by rw [u13.2.2.2.2.2.2, if_neg (fun z => absurd z.1 (by decide))]; exact F12_1_0_cat
  have F13_2_0_lD : q_fd x13 2 0 lD = .int 0 := by rw [u13.2.2.2.2.2.2, if_neg (fun z => absurd z.1 (by decide))]; exact F12_2_0_lD
  have F13_2_2_lD : q_fd x13 2 2 lD = .int 0 := by rw [u13.2.2.2.2.2.2, if_neg (fun z => absurd z.1 (by decide))]; exact F12_2_2_lD
  have F13_2_1_lD : q_fd x13 2 1 lD = .ref (q_z0 x) := by rw [u13.2.2.2.2.2.2, if_neg (fun z => absurd z.1 (by decide))]; exact F12_2_1_lD
  have F13_1_1_cat : q_fd x13 1 1 cat = .ref lD := by rw [u13.2.2.2.2.2.2, if_neg (fun z => absurd z.1 (by decide))]; exact F12_1_1_cat
  have F13_0_0_B : q_fd x13 0 0 B = .ref cat := by rw [u13.2.2.2.2.2.2, if_neg (fun z => absurd z.2.1 (by decide))]; exact F12_0_0_B
  have F13_2_0_lK : q_fd x13 2 0 lK = .int 0 := by rw [u13.2.2.2.2.2.2, if_neg (fun z => absurd z.1 (by decide))]; exact F12_2_0_lK
  have F13_2_2_lK : q_fd x13 2 2 lK = .int 0 := by rw [u13.2.2.2.2.2.2, if_neg (fun z => absurd z.1 (by decide))]; exact F12_2_2_lK
  have F13_2_1_lK : q_fd x13 2 1 lK = .ref (q_z0 x) := by rw [u13.2.2.2.2.2.2, if_neg (fun z => absurd z.1 (by decide))]; exact F12_2_1_lK
  have I13_1_kd : q_ai x13 1 kd = some (6, kn0) := by rw [u13.2.2.2.1]; exact I12_1_kd
  have E13 : q_en x13 = q_en x := (u13.2.2.2.2.2.1).trans E12
  have R13 : q_ar x13 = q_ar x := (u13.2.2.2.2.1).trans R12
  have W13 : wf x13 := wf_uF W12 u13
  have z13 : q_sz x13 = s + 4 := u13.1.trans z12
  have t13 : q_sl x13 = m0 + 14 := u13.2.1.trans t12
  have F13_0_1_B : q_fd x13 0 1 B = .ref lK := (u13.2.2.2.2.2.2 0 1 B).trans (if_pos ⟨rfl, rfl, rfl⟩)
  refine st_nO (fun x14 u14 => ?_)
  obtain ⟨jou, h_jou⟩ : ∃ z, z = q_sz x13 := ⟨_, rfl⟩
  have f_u14 := u14
  unfold uN at u14
  rw [← h_jou] at u14 ⊢
  have v_jou : jou = s + 4 := h_jou.trans z13
  have A14_0_B : q_al x14 0 B = true := by rw [u14.2.2.2.2.2.1, if_neg (fun z => absurd z.1 (by decide))]; exact A13_0_B
  have A14_1_cat : q_al x14 1 cat = true := by rw [u14.2.2.2.2.2.1, if_neg (fun z => absurd z.1 (by decide))]; exact A13_1_cat
  have A14_2_lD : q_al x14 2 lD = true := by rw [u14.2.2.2.2.2.1, if_neg (fun z => absurd z.1 (by decide))]; exact A13_2_lD
  have A14_2_lK : q_al x14 2 lK = true := by rw [u14.2.2.2.2.2.1, if_neg (fun z => absurd z.1 (by decide))]; exact A13_2_lK
  have F14_0_5_B : q_fd x14 0 5 B = .int 0 := by rw [u14.2.2.2.2.2.2, if_neg (fun z => absurd z.1 (by decide))]; exact F13_0_5_B
  have F14_1_0_cat : q_fd x14 1 0 cat = .ref kd := by rw [u14.2.2.2.2.2.2, if_neg (fun z => absurd z.1 (by decide))]; exact F13_1_0_cat
  have F14_2_0_lD : q_fd x14 2 0 lD = .int 0 := by rw [u14.2.2.2.2.2.2, if_neg (fun z => absurd z.1 (by decide))]; exact F13_2_0_lD
  have F14_2_2_lD : q_fd x14 2 2 lD = .int 0 := by rw [u14.2.2.2.2.2.2, if_neg (fun z => absurd z.1 (by decide))]; exact F13_2_2_lD
  have F14_2_1_lD : q_fd x14 2 1 lD = .ref (q_z0 x) := by rw [u14.2.2.2.2.2.2, if_neg (fun z => absurd z.1 (by decide))]; exact F13_2_1_lD
  have F14_1_1_cat : q_fd x14 1 1 cat = .ref lD := by rw [u14.2.2.2.2.2.2, if_neg (fun z => absurd z.1 (by decide))]; exact F13_1_1_cat
  have F14_0_0_B : q_fd x14 0 0 B = .ref cat := by rw [u14.2.2.2.2.2.2, if_neg (fun z => absurd z.1 (by decide))]; exact F13_0_0_B
  have F14_2_0_lK : q_fd x14 2 0 lK = .int 0 := by rw [u14.2.2.2.2.2.2, if_neg (fun z => absurd z.1 (by decide))]; exact F13_2_0_lK
  have F14_2_2_lK : q_fd x14 2 2 lK = .int 0 := by rw [u14.2.2.2.2.2.2, if_neg (fun z => absurd z.1 (by decide))]; exact F13_2_2_lK
  have F14_2_1_lK : q_fd x14 2 1 lK = .ref (q_z0 x) := by rw [u14.2.2.2.2.2.2, if_neg (fun z => absurd z.1 (by decide))]; exact F13_2_1_lK
  have F14_0_1_B : q_fd x14 0 1 B = .ref lK := by rw [u14.2.2.2.2.2.2, if_neg (fun z => absurd z.1 (by decide))]; exact F13_0_1_B
  have I14_1_kd : q_ai x14 1 kd = some (6, kn0) := by rw [u14.2.2.1]; exact I13_1_kd
  have E14 : q_en x14 = q_en x := (u14.2.2.2.2.1).trans E13
  have R14 : q_ar x14 = q_ar x := (u14.2.2.2.1).trans R13
  have W14 : wf x14 := wf_uN W13 f_u14
  have z14 : q_sz x14 = s + 5 := by rw [u14.1, v_jou]
  have t14 : q_sl x14 = m0 + 16 := by rw [u14.2.1, t13]; rfl
  have A14_3_jou : q_al x14 3 jou = true := by rw [u14.2.2.2.2.2.1, if_pos ⟨rfl, rfl⟩]
  have F14_3_1_jou : q_fd x14 3 1 jou = .int 0 := by rw [u14.2.2.2.2.2.2, if_pos ⟨rfl, rfl⟩]; rfl
  try simp only [jf_Jo_init, Option.bind_assoc, Option.bind_some]
  refine st_nI (n := 32) rfl (by omega) (fun x15 u15 => ?_)
  obtain ⟨rg, h_rg⟩ : ∃ z, z = q_sz x14 := ⟨_, rfl⟩
  have f_u15 := u15
  unfold uA at u15
  rw [← h_rg] at u15 ⊢
  have v_rg : rg = s + 5 := h_rg.trans z14
  have A15_0_B : q_al x15 0 B = true := by rw [u15.2.2.1]; exact A14_0_B
  have A15_1_cat : q_al x15 1 cat = true := by rw [u15.2.2.1]; exact A14_1_cat
  have A15_2_lD : q_al x15 2 lD = true := by rw [u15.2.2.1]; exact A14_2_lD
  have A15_2_lK : q_al x15 2 lK = true := by rw [u15.2.2.1]; exact A14_2_lK
  have A15_3_jou : q_al x15 3 jou = true := by rw [u15.2.2.1]; exact A14_3_jou
  have F15_0_5_B : q_fd x15 0 5 B = .int 0 := by rw [u15.2.2.2.2.2.1]; exact F14_0_5_B
  have F15_1_0_cat : q_fd x15 1 0 cat = .ref kd := by rw [u15.2.2.2.2.2.1]; exact F14_1_0_cat
  have F15_2_0_lD : q_fd x15 2 0 lD = .int 0 := by rw [u15.2.2.2.2.2.1]; exact F14_2_0_lD
  have F15_2_2_lD : q_fd x15 2 2 lD = .int 0 := by rw [u15.2.2.2.2.2.1]; exact F14_2_2_lD
  have F15_2_1_lD : q_fd x15 2 1 lD = .ref (q_z0 x) := by rw [u15.2.2.2.2.2.1]; exact F14_2_1_lD
  have F15_1_1_cat : q_fd x15 1 1 cat = .ref lD := by rw [u15.2.2.2.2.2.1]; exact F14_1_1_cat
  have F15_0_0_B : q_fd x15 0 0 B = .ref cat := by rw [u15.2.2.2.2.2.1]; exact F14_0_0_B
  have F15_2_0_lK : q_fd x15 2 0 lK = .int 0 := by rw [u15.2.2.2.2.2.1]; exact F14_2_0_lK
  have F15_2_2_lK : q_fd x15 2 2 lK = .int 0 := by rw [u15.2.2.2.2.2.1]; exact F14_2_2_lK
  have F15_2_1_lK : q_fd x15 2 1 lK = .ref (q_z0 x) := by rw [u15.2.2.2.2.2.1]; exact F14_2_1_lK
  have F15_0_1_B : q_fd x15 0 1 B = .ref lK := by rw [u15.2.2.2.2.2.1]; exact F14_0_1_B
  have F15_3_1_jou : q_fd x15 3 1 jou = .int 0 := by rw [u15.2.2.2.2.2.1]; exact F14_3_1_jou
  have I15_1_kd : q_ai x15 1 kd = some (6, kn0) := by rw [u15.2.2.2.2.2.2, if_neg (fun z => absurd z.1 (by decide))]; exact I14_1_kd
  have E15 : q_en x15 = q_en x := (u15.2.2.2.2.1).trans E14
  have R15 : q_ar x15 = q_ar x := (u15.2.2.2.1).trans R14
  have W15 : wf x15 := wf_uA W14 f_u15
  have z15 : q_sz x15 = s + 6 := by rw [u15.1, v_rg]
  have t15 : q_sl x15 = m0 + 48 := by rw [u15.2.1, t14]
  have I15_3_rg : q_ai x15 3 rg = some (32, fun _ => 0) := by rw [u15.2.2.2.2.2.2, if_pos ⟨rfl, rfl⟩]
  refine st_pR A15_3_jou (fun x16 u16 => ?_)
  have A16_0_B : q_al x16 0 B = true := by rw [u16.2.2.1]; exact A15_0_B
  have A16_1_cat : q_al x16 1 cat = true := by rw [u16.2.2.1]; exact A15_1_cat
  have A16_2_lD : q_al x16 2 lD = true := by rw [u16.2.2.1]; exact A15_2_lD
  have A16_2_lK : q_al x16 2 lK = true := by rw [u16.2.2.1]; exact A15_2_lK
  have A16_3_jou : q_al x16 3 jou = true := by rw [u16.2.2.1]; exact A15_3_jou
  have F16_0_5_B : q_fd x16 0 5 B = .int 0 := by rw [u16.2.2.2.2.2.2, if_neg (fun z => absurd z.1 (by decide))]; exact F15_0_5_B
  have F16_1_0_cat : q_fd x16 1 0 cat = .ref kd := by rw [u16.2.2.2.2.2.2, if_neg (fun z => absurd z.1 (by decide))]; exact F15_1_0_cat
  have F16_2_0_lD : q_fd x16 2 0 lD = .int 0 := by rw [u16.2.2.2.2.2.2, if_neg (fun z => absurd z.1 (by decide))]; exact F15_2_0_lD
  have F16_2_2_lD : q_fd x16 2 2 lD = .int 0 := by rw [u16.2.2.2.2.2.2, if_neg (fun z => absurd z.1 (by decide))]; exact F15_2_2_lD
  have F16_2_1_lD : q_fd x16 2 1 lD = .ref (q_z0 x) := by rw [u16.2.2.2.2.2.2, if_neg (fun z => absurd z.1 (by decide))]; exact F15_2_1_lD
  have F16_1_1_cat : q_fd x16 1 1 cat = .ref lD := by rw [u16.2.2.2.2.2.2, if_neg (fun z => absurd z.1 (by decide))]; exact F15_1_1_cat
  have F16_0_0_B : q_fd x16 0 0 B = .ref cat := by rw [u16.2.2.2.2.2.2, if_neg (fun z => absurd z.1 (by decide))]; exact F15_0_0_B
  have F16_2_0_lK : q_fd x16 2 0 lK = .int 0 := by rw [u16.2.2.2.2.2.2, if_neg (fun z => absurd z.1 (by decide))]; exact F15_2_0_lK
  have F16_2_2_lK : q_fd x16 2 2 lK = .int 0 := by rw [u16.2.2.2.2.2.2, if_neg (fun z => absurd z.1 (by decide))]; exact F15_2_2_lK
  have F16_2_1_lK : q_fd x16 2 1 lK = .ref (q_z0 x) := by rw [u16.2.2.2.2.2.2, if_neg (fun z => absurd z.1 (by decide))]; exact F15_2_1_lK
  have F16_0_1_B : q_fd x16 0 1 B = .ref lK := by rw [u16.2.2.2.2.2.2, if_neg (fun z => absurd z.1 (by decide))]; exact F15_0_1_B
  have F16_3_1_jou : q_fd x16 3 1 jou = .int 0 := by rw [u16.2.2.2.2.2.2, if_neg (fun z => absurd z.2.1 (by decide))]; exact F15_3_1_jou
  have I16_1_kd : q_ai x16 1 kd = some (6, kn0) := by rw [u16.2.2.2.1]; exact I15_1_kd
  have I16_3_rg : q_ai x16 3 rg = some (32, fun _ => 0) := by rw [u16.2.2.2.1]; exact I15_3_rg
  have E16 : q_en x16 = q_en x := (u16.2.2.2.2.2.1).trans E15
  have R16 : q_ar x16 = q_ar x := (u16.2.2.2.2.1).trans R15
  have W16 : wf x16 := wf_uF W15 u16
  have z16 : q_sz x16 = s + 6 := u16.1.trans z15
  have t16 : q_sl x16 = m0 + 48 := u16.2.1.trans t15
  have F16_3_0_jou : q_fd x16 3 0 jou = .ref rg := (u16.2.2.2.2.2.2 3 0 jou).trans (if_pos ⟨rfl, rfl, rfl⟩)
  refine st_pR A16_0_B (fun x17 u17 => ?_)
  have A17_0_B : q_al x17 0 B = true := by rw [u17.2.2.1]; exact A16_0_B
  have A17_1_cat : q_al x17 1 cat = true := by rw [u17.2.2.1]; exact A16_1_cat
  have A17_2_lD : q_al x17 2 lD = true := by rw [u17.2.2.1]; exact A16_2_lD
  have A17_2_lK : q_al x17 2 lK = true := by rw [u17.2.2.1]; exact A16_2_lK
  have A17_3_jou : q_al x17 3 jou = true := by rw [u17.2.2.1]; exact A16_3_jou
  have F17_0_5_B : q_fd x17 0 5 B = .int 0 := by rw [u17.2.2.2.2.2.2, if_neg (fun z => absurd z.2.1 (by decide))]; exact F16_0_5_B
  have F17_1_0_cat : q_fd x17 1 0 cat = .ref kd := by rw [u17.2.2.2.2.2.2, if_neg (fun z => absurd z.1 (by decide))]; exact F16_1_0_cat
  have F17_2_0_lD : q_fd x17 2 0 lD = .int 0 := by rw [u17.2.2.2.2.2.2, if_neg (fun z => absurd z.1 (by decide))]; exact F16_2_0_lD
  have F17_2_2_lD : q_fd x17 2 2 lD = .int 0 := by rw [u17.2.2.2.2.2.2, if_neg (fun z => absurd z.1 (by decide))]; exact F16_2_2_lD
  have F17_2_1_lD : q_fd x17 2 1 lD = .ref (q_z0 x) := by rw [u17.2.2.2.2.2.2, if_neg (fun z => absurd z.1 (by decide))]; exact F16_2_1_lD
  have F17_1_1_cat : q_fd x17 1 1 cat = .ref lD := by rw [u17.2.2.2.2.2.2, if_neg (fun z => absurd z.1 (by decide))]; exact F16_1_1_cat
  have F17_0_0_B : q_fd x17 0 0 B = .ref cat := by rw [u17.2.2.2.2.2.2, if_neg (fun z => absurd z.2.1 (by decide))]; exact F16_0_0_B
  have F17_2_0_lK : q_fd x17 2 0 lK = .int 0 := by rw [u17.2.2.2.2.2.2, if_neg (fun z => absurd z.1 (by decide))]; exact F16_2_0_lK
  have F17_2_2_lK : q_fd x17 2 2 lK = .int 0 := by rw [u17.2.2.2.2.2.2, if_neg (fun z => absurd z.1 (by decide))]; exact F16_2_2_lK
  have F17_2_1_lK : q_fd x17 2 1 lK = .ref (q_z0 x) := by rw [u17.2.2.2.2.2.2, if_neg (fun z => absurd z.1 (by decide))]; exact F16_2_1_lK
  have F17_0_1_B : q_fd x17 0 1 B = .ref lK := by rw [u17.2.2.2.2.2.2, if_neg (fun z => absurd z.2.1 (by decide))]; exact F16_0_1_B
  have F17_3_1_jou : q_fd x17 3 1 jou = .int 0 := by rw [u17.2.2.2.2.2.2, if_neg (fun z => absurd z.1 (by decide))]; exact F16_3_1_jou
  have F17_3_0_jou : q_fd x17 3 0 jou = .ref rg := by rw [u17.2.2.2.2.2.2, if_neg (fun z => absurd z.1 (by decide))]; exact F16_3_0_jou
  have I17_1_kd : q_ai x17 1 kd = some (6, kn0) := by rw [u17.2.2.2.1]; exact I16_1_kd
  have I17_3_rg : q_ai x17 3 rg = some (32, fun _ => 0) := by rw [u17.2.2.2.1]; exact I16_3_rg
  have E17 : q_en x17 = q_en x := (u17.2.2.2.2.2.1).trans E16
  have R17 : q_ar x17 = q_ar x := (u17.2.2.2.2.1).trans R16
  have W17 : wf x17 := wf_uF W16 u17
  have z17 : q_sz x17 = s + 6 := u17.1.trans z16
  have t17 : q_sl x17 = m0 + 48 := u17.2.1.trans t16
  have F17_0_2_B : q_fd x17 0 2 B = .ref jou := (u17.2.2.2.2.2.2 0 2 B).trans (if_pos ⟨rfl, rfl, rfl⟩)
  refine st_nO (fun x18 u18 => ?_)
  obtain ⟨wor, h_wor⟩ : ∃ z, z = q_sz x17 := ⟨_, rfl⟩
  have f_u18 := u18
  unfold uN at u18
  rw [← h_wor] at u18 ⊢
  have v_wor : wor = s + 6 := h_wor.trans z17
  have A18_0_B : q_al x18 0 B = true := by rw [u18.2.2.2.2.2.1, if_neg (fun z => absurd z.1 (by decide))]; exact A17_0_B
  have A18_1_cat : q_al x18 1 cat = true := by rw [u18.2.2.2.2.2.1, if_neg (fun z => absurd z.1 (by decide))]; exact A17_1_cat
  have A18_2_lD : q_al x18 2 lD = true := by rw [u18.2.2.2.2.2.1, if_neg (fun z => absurd z.1 (by decide))]; exact A17_2_lD
  have A18_2_lK : q_al x18 2 lK = true := by rw [u18.2.2.2.2.2.1, if_neg (fun z => absurd z.1 (by decide))]; exact A17_2_lK
  have A18_3_jou : q_al x18 3 jou = true := by rw [u18.2.2.2.2.2.1, if_neg (fun z => absurd z.1 (by decide))]; exact A17_3_jou
  have F18_0_5_B : q_fd x18 0 5 B = .int 0 := by rw [u18.2.2.2.2.2.2, if_neg (fun z => absurd z.1 (by decide))]; exact F17_0_5_B
  have F18_1_0_cat : q_fd x18 1 0 cat = .ref kd := by rw [u18.2.2.2.2.2.2, if_neg (fun z => absurd z.1 (by decide))]; exact F17_1_0_cat
  have F18_2_0_lD : q_fd x18 2 0 lD = .int 0 := by rw [u18.2.2.2.2.2.2, if_neg (fun z => absurd z.1 (by decide))]; exact F17_2_0_lD
  have F18_2_2_lD : q_fd x18 2 2 lD = .int 0 := by rw [u18.2.2.2.2.2.2, if_neg (fun z => absurd z.1 (by decide))]; exact F17_2_2_lD
  have F18_2_1_lD : q_fd x18 2 1 lD = .ref (q_z0 x) := by rw [u18.2.2.2.2.2.2, if_neg (fun z => absurd z.1 (by decide))]; exact F17_2_1_lD
  have F18_1_1_cat : q_fd x18 1 1 cat = .ref lD := by rw [u18.2.2.2.2.2.2, if_neg (fun z => absurd z.1 (by decide))]; exact F17_1_1_cat
  have F18_0_0_B : q_fd x18 0 0 B = .ref cat := by rw [u18.2.2.2.2.2.2, if_neg (fun z => absurd z.1 (by decide))]; exact F17_0_0_B
  have F18_2_0_lK : q_fd x18 2 0 lK = .int 0 := by rw [u18.2.2.2.2.2.2, if_neg (fun z => absurd z.1 (by decide))]; exact F17_2_0_lK
  have F18_2_2_lK : q_fd x18 2 2 lK = .int 0 := by rw [u18.2.2.2.2.2.2, if_neg (fun z => absurd z.1 (by decide))]; exact F17_2_2_lK
  have F18_2_1_lK : q_fd x18 2 1 lK = .ref (q_z0 x) := by rw [u18.2.2.2.2.2.2, if_neg (fun z => absurd z.1 (by decide))]; exact F17_2_1_lK
  have F18_0_1_B : q_fd x18 0 1 B = .ref lK := by rw [u18.2.2.2.2.2.2, if_neg (fun z => absurd z.1 (by decide))]; exact F17_0_1_B
  have F18_3_1_jou : q_fd x18 3 1 jou = .int 0 := by rw [u18.2.2.2.2.2.2, if_neg (fun z => absurd z.1 (by decide))]; exact F17_3_1_jou
  have F18_3_0_jou : q_fd x18 3 0 jou = .ref rg := by rw [u18.2.2.2.2.2.2, if_neg (fun z => absurd z.1 (by decide))]; exact F17_3_0_jou
  have F18_0_2_B : q_fd x18 0 2 B = .ref jou := by rw [u18.2.2.2.2.2.2, if_neg (fun z => absurd z.1 (by decide))]; exact F17_0_2_B
  have I18_1_kd : q_ai x18 1 kd = some (6, kn0) := by rw [u18.2.2.1]; exact I17_1_kd
  have I18_3_rg : q_ai x18 3 rg = some (32, fun _ => 0) := by rw [u18.2.2.1]; exact I17_3_rg
  have E18 : q_en x18 = q_en x := (u18.2.2.2.2.1).trans E17
  have R18 : q_ar x18 = q_ar x := (u18.2.2.2.1).trans R17
  have W18 : wf x18 := wf_uN W17 f_u18
  have z18 : q_sz x18 = s + 7 := by rw [u18.1, v_wor]
  have t18 : q_sl x18 = m0 + 51 := by rw [u18.2.1, t17]; rfl
  have A18_4_wor : q_al x18 4 wor = true := by rw [u18.2.2.2.2.2.1, if_pos ⟨rfl, rfl⟩]
  refine st_gR (r := some cat) A18_0_B F18_0_0_B ?_
  refine st_gR (r := some jou) A18_0_B F18_0_2_B ?_
  try simp only [jf_Wo_init, Option.bind_assoc, Option.bind_some]
  refine st_nO (fun x19 u19 => ?_)
  obtain ⟨lB, h_lB⟩ : ∃ z, z = q_sz x18 := ⟨_, rfl⟩
  have f_u19 := u19
  unfold uN at u19
  rw [← h_lB] at u19 ⊢
  have v_lB : lB = s + 7 := h_lB.trans z18
  have A19_0_B : q_al x19 0 B = true := by rw [u19.2.2.2.2.2.1, if_neg (fun z => absurd z.1 (by decide))]; exact A18_0_B
  have A19_1_cat : q_al x19 1 cat = true := by rw [u19.2.2.2.2.2.1, if_neg (fun z => absurd z.1 (by decide))]; exact A18_1_cat
  have A19_2_lD : q_al x19 2 lD = true := by rw [u19.2.2.2.2.2.1, if_neg (fun z => (fun z => absurd (Nat.add_left_cancel ((v_lD.symm.trans z).trans v_lB)) (by decide)) z.2)]; exact A18_2_lD
  have A19_2_lK : q_al x19 2 lK = true := by rw [u19.2.2.2.2.2.1, if_neg (fun z => (fun z => absurd (Nat.add_left_cancel ((v_lK.symm.trans z).trans v_lB)) (by decide)) z.2)]; exact A18_2_lK
  have A19_3_jou : q_al x19 3 jou = true := by rw [u19.2.2.2.2.2.1, if_neg (fun z => absurd z.1 (by decide))]; exact A18_3_jou
  have A19_4_wor : q_al x19 4 wor = true := by rw [u19.2.2.2.2.2.1, if_neg (fun z => absurd z.1 (by decide))]; exact A18_4_wor
  have F19_0_5_B : q_fd x19 0 5 B = .int 0 := by rw [u19.2.2.2.2.2.2, if_neg (fun z => absurd z.1 (by decide))]; exact F18_0_5_B
  have F19_1_0_cat : q_fd x19 1 0 cat = .ref kd := by rw [u19.2.2.2.2.2.2, if_neg (fun z => absurd z.1 (by decide))]; exact F18_1_0_cat
  have F19_2_0_lD : q_fd x19 2 0 lD = .int 0 := by rw [u19.2.2.2.2.2.2, if_neg (fun z => (fun z => absurd (Nat.add_left_cancel ((v_lD.symm.trans z).trans v_lB)) (by decide)) z.2)]; exact F18_2_0_lD
  have F19_2_2_lD : q_fd x19 2 2 lD = .int 0 := by rw [u19.2.2.2.2.2.2, if_neg (fun z => (fun z => absurd (Nat.add_left_cancel ((v_lD.symm.trans z).trans v_lB)) (by decide)) z.2)]; exact F18_2_2_lD
  have F19_2_1_lD : q_fd x19 2 1 lD = .ref (q_z0 x) := by rw [u19.2.2.2.2.2.2, if_neg (fun z => (fun z => absurd (Nat.add_left_cancel ((v_lD.symm.trans z).trans v_lB)) (by decide)) z.2)]; exact F18_2_1_lD
  have F19_1_1_cat : q_fd x19 1 1 cat = .ref lD := by rw [u19.2.2.2.2.2.2, if_neg (fun z => absurd z.1 (by decide))]; exact F18_1_1_cat
  have F19_0_0_B : q_fd x19 0 0 B = .ref cat := by rw [u19.2.2.2.2.2.2, if_neg (fun z => absurd z.1 (by decide))]; exact F18_0_0_B
  have F19_2_0_lK : q_fd x19 2 0 lK = .int 0 := by rw [u19.2.2.2.2.2.2, if_neg (fun z => (fun z => absurd (Nat.add_left_cancel ((v_lK.symm.trans z).trans v_lB)) (by decide)) z.2)]; exact F18_2_0_lK
  have F19_2_2_lK : q_fd x19 2 2 lK = .int 0 := by rw [u19.2.2.2.2.2.2, if_neg (fun z => (fun z => absurd (Nat.add_left_cancel ((v_lK.symm.trans z).trans v_lB)) (by decide)) z.2)]; exact F18_2_2_lK
  have F19_2_1_lK : q_fd x19 2 1 lK = .ref (q_z0 x) := by rw [u19.2.2.2.2.2.2, if_neg (fun z => (fun z => absurd (Nat.add_left_cancel ((v_lK.symm.trans z).trans v_lB)) (by decide)) z.2)]; exact F18_2_1_lK
  have F19_0_1_B : q_fd x19 0 1 B = .ref lK := by rw [u19.2.2.2.2.2.2, if_neg (fun z => absurd z.1 (by decide))]; exact F18_0_1_B
  have F19_3_1_jou : q_fd x19 3 1 jou = .int 0 := by rw [u19.2.2.2.2.2.2, if_neg (fun z => absurd z.1 (by decide))]; exact F18_3_1_jou
  have F19_3_0_jou : q_fd x19 3 0 jou = .ref rg := by rw [u19.2.2.2.2.2.2, if_neg (fun z => absurd z.1 (by decide))]; exact F18_3_0_jou
  have F19_0_2_B : q_fd x19 0 2 B = .ref jou := by rw [u19.2.2.2.2.2.2, if_neg (fun z => absurd z.1 (by decide))]; exact F18_0_2_B
  have I19_1_kd : q_ai x19 1 kd = some (6, kn0) := by rw [u19.2.2.1]; exact I18_1_kd
  have I19_3_rg : q_ai x19 3 rg = some (32, fun _ => 0) := by rw [u19.2.2.1]; exact I18_3_rg
  have E19 : q_en x19 = q_en x := (u19.2.2.2.2.1).trans E18
  have R19 : q_ar x19 = q_ar x := (u19.2.2.2.1).trans R18
  have W19 : wf x19 := wf_uN W18 f_u19
  have z19 : q_sz x19 = s + 8 := by rw [u19.1, v_lB]
  have t19 : q_sl x19 = m0 + 54 := by rw [u19.2.1, t18]; rfl
  have A19_2_lB : q_al x19 2 lB = true := by rw [u19.2.2.2.2.2.1, if_pos ⟨rfl, rfl⟩]
  have F19_2_0_lB : q_fd x19 2 0 lB = .int 0 := by rw [u19.2.2.2.2.2.2, if_pos ⟨rfl, rfl⟩]; rfl
  have F19_2_2_lB : q_fd x19 2 2 lB = .int 0 := by rw [u19.2.2.2.2.2.2, if_pos ⟨rfl, rfl⟩]; rfl
  try simp only [jf_AL_init, jf_AbL_init, jf_AbC_init, Option.bind_assoc, Option.bind_some]
  refine st_pI A19_2_lB (fun x20 u20 => ?_)
  have A20_0_B : q_al x20 0 B = true := by rw [u20.2.2.1]; exact A19_0_B
  have A20_1_cat : q_al x20 1 cat = true := by rw [u20.2.2.1]; exact A19_1_cat
  have A20_2_lD : q_al x20 2 lD = true := by rw [u20.2.2.1]; exact A19_2_lD
  have A20_2_lK : q_al x20 2 lK = true := by rw [u20.2.2.1]; exact A19_2_lK
  have A20_3_jou : q_al x20 3 jou = true := by rw [u20.2.2.1]; exact A19_3_jou
  have A20_4_wor : q_al x20 4 wor = true := by rw [u20.2.2.1]; exact A19_4_wor
  have A20_2_lB : q_al x20 2 lB = true := by rw [u20.2.2.1]; exact A19_2_lB
  have F20_0_5_B : q_fd x20 0 5 B = .int 0 := by rw [u20.2.2.2.2.2.2, if_neg (fun z => absurd z.1 (by decide))]; exact F19_0_5_B
  have F20_1_0_cat : q_fd x20 1 0 cat = .ref kd := by rw [u20.2.2.2.2.2.2, if_neg (fun z => absurd z.1 (by decide))]; exact F19_1_0_cat
  have F20_2_0_lD : q_fd x20 2 0 lD = .int 0 := by rw [u20.2.2.2.2.2.2, if_neg (fun z => (fun z => absurd (Nat.add_left_cancel ((v_lD.symm.trans z).trans v_lB)) (by decide)) z.2.2)]; exact F19_2_0_lD
  have F20_2_2_lD : q_fd x20 2 2 lD = .int 0 := by rw [u20.2.2.2.2.2.2, if_neg (fun z => absurd z.2.1 (by decide))]; exact F19_2_2_lD
  have F20_2_1_lD : q_fd x20 2 1 lD = .ref (q_z0 x) := by rw [u20.2.2.2.2.2.2, if_neg (fun z => absurd z.2.1 (by decide))]; exact F19_2_1_lD
  have F20_1_1_cat : q_fd x20 1 1 cat = .ref lD := by rw [u20.2.2.2.2.2.2, if_neg (fun z => absurd z.1 (by decide))]; exact F19_1_1_cat
  have F20_0_0_B : q_fd x20 0 0 B = .ref cat := by rw [u20.2.2.2.2.2.2, if_neg (fun z => absurd z.1 (by decide))]; exact F19_0_0_B
  have F20_2_0_lK : q_fd x20 2 0 lK = .int 0 := by rw [u20.2.2.2.2.2.2, if_neg (fun z => (fun z => absurd (Nat.add_left_cancel ((v_lK.symm.trans z).trans v_lB)) (by decide)) z.2.2)]; exact F19_2_0_lK
  have F20_2_2_lK : q_fd x20 2 2 lK = .int 0 := by rw [u20.2.2.2.2.2.2, if_neg (fun z => absurd z.2.1 (by decide))]; exact F19_2_2_lK
  have F20_2_1_lK : q_fd x20 2 1 lK = .ref (q_z0 x) := by rw [u20.2.2.2.2.2.2, if_neg (fun z => absurd z.2.1 (by decide))]; exact F19_2_1_lK
  have F20_0_1_B : q_fd x20 0 1 B = .ref lK := by rw [u20.2.2.2.2.2.2, if_neg (fun z => absurd z.1 (by decide))]; exact F19_0_1_B
  have F20_3_1_jou : q_fd x20 3 1 jou = .int 0 := by rw [u20.2.2.2.2.2.2, if_neg (fun z => absurd z.1 (by decide))]; exact F19_3_1_jou
  have F20_3_0_jou : q_fd x20 3 0 jou = .ref rg := by rw [u20.2.2.2.2.2.2, if_neg (fun z => absurd z.1 (by decide))]; exact F19_3_0_jou
  have F20_0_2_B : q_fd x20 0 2 B = .ref jou := by rw [u20.2.2.2.2.2.2, if_neg (fun z => absurd z.1 (by decide))]; exact F19_0_2_B
  have F20_2_2_lB : q_fd x20 2 2 lB = .int 0 := by rw [u20.2.2.2.2.2.2, if_neg (fun z => absurd z.2.1 (by decide))]; exact F19_2_2_lB
  have I20_1_kd : q_ai x20 1 kd = some (6, kn0) := by rw [u20.2.2.2.1]; exact I19_1_kd
  have I20_3_rg : q_ai x20 3 rg = some (32, fun _ => 0) := by rw [u20.2.2.2.1]; exact I19_3_rg
  have E20 : q_en x20 = q_en x := (u20.2.2.2.2.2.1).trans E19
  have R20 : q_ar x20 = q_ar x := (u20.2.2.2.2.1).trans R19
  have W20 : wf x20 := wf_uF W19 u20
  have z20 : q_sz x20 = s + 8 := u20.1.trans z19
  have t20 : q_sl x20 = m0 + 54 := u20.2.1.trans t19
  have F20_2_0_lB : q_fd x20 2 0 lB = .int 0 := (u20.2.2.2.2.2.2 2 0 lB).trans (if_pos ⟨rfl, rfl, rfl⟩)
  refine st_pR A20_2_lB (fun x21 u21 => ?_)
  have A21_0_B : q_al x21 0 B = true := by rw [u21.2.2.1]; exact A20_0_B
  have A21_1_cat : q_al x21 1 cat = true := by rw [u21.2.2.1]; exact A20_1_cat
  have A21_2_lD : q_al x21 2 lD = true := by rw [u21.2.2.1]; exact A20_2_lD
  have A21_2_lK : q_al x21 2 lK = true := by rw [u21.2.2.1]; exact A20_2_lK
  have A21_3_jou : q_al x21 3 jou = true := by rw [u21.2.2.1]; exact A20_3_jou
  have A21_4_wor : q_al x21 4 wor = true := by rw [u21.2.2.1]; exact A20_4_wor
  have A21_2_lB : q_al x21 2 lB = true := by rw [u21.2.2.1]; exact A20_2_lB
  have F21_0_5_B : q_fd x21 0 5 B = .int 0 := by rw [u21.2.2.2.2.2.2, if_neg (fun z => absurd z.1 (by decide))]; exact F20_0_5_B
  have F21_1_0_cat : q_fd x21 1 0 cat = .ref kd := by rw [u21.2.2.2.2.2.2, if_neg (fun z => absurd z.1 (by decide))]; exact F20_1_0_cat
  have F21_2_0_lD : q_fd x21 2 0 lD = .int 0 := by rw [u21.2.2.2.2.2.2, if_neg (fun z => absurd z.2.1 (by decide))]; exact F20_2_0_lD
  have F21_2_2_lD : q_fd x21 2 2 lD = .int 0 := by rw [u21.2.2.2.2.2.2, if_neg (fun z => absurd z.2.1 (by decide))]; exact F20_2_2_lD
  have F21_2_1_lD : q_fd x21 2 1 lD = .ref (q_z0 x) := by rw [u21.2.2.2.2.2.2, if_neg (fun z => (fun z => absurd (Nat.add_left_cancel ((v_lD.symm.trans z).trans v_lB)) (by decide)) z.2.2)]; exact F20_2_1_lD
  have F21_1_1_cat : q_fd x21 1 1 cat = .ref lD := by rw [u21.2.2.2.2.2.2, if_neg (fun z => absurd z.1 (by decide))]; exact F20_1_1_cat
  have F21_0_0_B : q_fd x21 0 0 B = .ref cat := by rw [u21.2.2.2.2.2.2, if_neg (fun z => absurd z.1 (by decide))]; exact F20_0_0_B
  have F21_2_0_lK : q_fd x21 2 0 lK = .int 0 := by rw [u21.2.2.2.2.2.2, if_neg (fun z => absurd z.2.1 (by decide))]; exact F20_2_0_lK
  have F21_2_2_lK : q_fd x21 2 2 lK = .int 0 := by rw [u21.2.2.2.2.2.2, if_neg (fun z => absurd z.2.1 (by decide))]; exact F20_2_2_lK
  have F21_2_1_lK : q_fd x21 2 1 lK = .ref (q_z0 x) := by rw [u21.2.2.2.2.2.2, if_neg (fun z => (fun z => absurd (Nat.add_left_cancel ((v_lK.symm.trans z).trans v_lB)) (by decide)) z.2.2)]; exact F20_2_1_lK
  have F21_0_1_B : q_fd x21 0 1 B = .ref lK := by rw [u21.2.2.2.2.2.2, if_neg (fun z => absurd z.1 (by decide))]; exact F20_0_1_B
  have F21_3_1_jou : q_fd x21 3 1 jou = .int 0 := by rw [u21.2.2.2.2.2.2, if_neg (fun z => absurd z.1 (by decide))]; exact F20_3_1_jou
  have F21_3_0_jou : q_fd x21 3 0 jou = .ref rg := by rw [u21.2.2.2.2.2.2, if_neg (fun z => absurd z.1 (by decide))]; exact F20_3_0_jou
  have F21_0_2_B : q_fd x21 0 2 B = .ref jou := by rw [u21.2.2.2.2.2.2, if_neg (fun z => absurd z.1 (by decide))]; exact F20_0_2_B
  have F21_2_0_lB : q_fd x21 2 0 lB = .int 0 := by rw [u21.2.2.2.2.2.2, if_neg (fun z => absurd z.2.1 (by decide))]; exact F20_2_0_lB
  have F21_2_2_lB : q_fd x21 2 2 lB = .int 0 := by rw [u21.2.2.2.2.2.2, if_neg (fun z => absurd z.2.1 (by decide))]; exact F20_2_2_lB
  have I21_1_kd : q_ai x21 1 kd = some (6, kn0) := by rw [u21.2.2.2.1]; exact I20_1_kd
  have I21_3_rg : q_ai x21 3 rg = some (32, fun _ => 0) := by rw [u21.2.2.2.1]; exact I20_3_rg
  have E21 : q_en x21 = q_en x := (u21.2.2.2.2.2.1).trans E20
  have R21 : q_ar x21 = q_ar x := (u21.2.2.2.2.1).trans R20
  have W21 : wf x21 := wf_uF W20 u21
  have z21 : q_sz x21 = s + 8 := u21.1.trans z20
  have t21 : q_sl x21 = m0 + 54 := u21.2.1.trans t20
  have F21_2_1_lB : q_fd x21 2 1 lB = .ref (q_z0 x20) := (u21.2.2.2.2.2.2 2 1 lB).trans (if_pos ⟨rfl, rfl, rfl⟩)
  rw [q_z0_en E20] at F21_2_1_lB
  refine st_pR A21_4_wor (fun x22 u22 => ?_)
  have A22_0_B : q_al x22 0 B = true := by rw [u22.2.2.1]; exact A21_0_B
  have A22_1_cat : q_al x22 1 cat = true := by rw [u22.2.2.1]; exact A21_1_cat
  have A22_2_lD : q_al x22 2 lD = true := by rw [u22.2.2.1]; exact A21_2_lD
  have A22_2_lK : q_al x22 2 lK = true := by rw [u22.2.2.1]; exact A21_2_lK
  have A22_3_jou : q_al x22 3 jou = true := by rw [u22.2.2.1]; exact A21_3_jou
  have A22_4_wor : q_al x22 4 wor = true := by rw [u22.2.2.1]; exact A21_4_wor
  have A22_2_lB : q_al x22 2 lB = true := by rw [u22.2.2.1]; exact A21_2_lB
  have F22_0_5_B : q_fd x22 0 5 B = .int 0 := by rw [u22.2.2.2.2.2.2, if_neg (fun z => absurd z.1 (by decide))]; exact F21_0_5_B
  have F22_1_0_cat : q_fd x22 1 0 cat = .ref kd := by rw [u22.2.2.2.2.2.2, if_neg (fun z => absurd z.1 (by decide))]; exact F21_1_0_cat
  have F22_2_0_lD : q_fd x22 2 0 lD = .int 0 := by rw [u22.2.2.2.2.2.2, if_neg (fun z => absurd z.1 (by decide))]; exact F21_2_0_lD
  have F22_2_2_lD : q_fd x22 2 2 lD = .int 0 := by rw [u22.2.2.2.2.2.2, if_neg (fun z => absurd z.1 (by decide))]; exact F21_2_2_lD
  have F22_2_1_lD : q_fd x22 2 1 lD = .ref (q_z0 x) := by rw [u22.2.2.2.2.2.2, if_neg (fun z => absurd z.1 (by decide))]; exact F21_2_1_lD
  have F22_1_1_cat : q_fd x22 1 1 cat = .ref lD := by rw [u22.2.2.2.2.2.2, if_neg (fun z => absurd z.1 (by decide))]; exact F21_1_1_cat
  have F22_0_0_B : q_fd x22 0 0 B = .ref cat := by rw [u22.2.2.2.2.2.2, if_neg (fun z => absurd z.1 (by decide))]; exact F21_0_0_B
  have F22_2_0_lK : q_fd x22 2 0 lK = .int 0 := by rw [u22.2.2.2.2.2.2, if_neg (fun z => absurd z.1 (by decide))]; exact F21_2_0_lK
  have F22_2_2_lK : q_fd x22 2 2 lK = .int 0 := by rw [u22.2.2.2.2.2.2, if_neg (fun z => absurd z.1 (by decide))]; exact F21_2_2_lK
  have F22_2_1_lK : q_fd x22 2 1 lK = .ref (q_z0 x) := by rw [u22.2.2.2.2.2.2, if_neg (fun z => absurd z.1 (by decide))]; exact F21_2_1_lK
  have F22_0_1_B : q_fd x22 0 1 B = .ref lK := by rw [u22.2.2.2.2.2.2, if_neg (fun z => absurd z.1 (by decide))]; exact F21_0_1_B
  have F22_3_1_jou : q_fd x22 3 1 jou = .int 0 := by rw [u22.2.2.2.2.2.2, if_neg (fun z => absurd z.1 (by decide))]; exact F21_3_1_jou
  have F22_3_0_jou : q_fd x22 3 0 jou = .ref rg := by rw [u22.2.2.2.2.2.2, if_neg (fun z => absurd z.1 (by decide))]; exact F21_3_0_jou
  have F22_0_2_B : q_fd x22 0 2 B = .ref jou := by rw [u22.2.2.2.2.2.2, if_neg (fun z => absurd z.1 (by decide))]; exact F21_0_2_B
  have F22_2_0_lB : q_fd x22 2 0 lB = .int 0 := by rw [u22.2.2.2.2.2.2, if_neg (fun z => absurd z.1 (by decide))]; exact F21_2_0_lB
  have F22_2_2_lB : q_fd x22 2 2 lB = .int 0 := by rw [u22.2.2.2.2.2.2, if_neg (fun z => absurd z.1 (by decide))]; exact F21_2_2_lB
  have F22_2_1_lB : q_fd x22 2 1 lB = .ref (q_z0 x) := by rw [u22.2.2.2.2.2.2, if_neg (fun z => absurd z.1 (by decide))]; exact F21_2_1_lB
  have I22_1_kd : q_ai x22 1 kd = some (6, kn0) := by rw [u22.2.2.2.1]; exact I21_1_kd
  have I22_3_rg : q_ai x22 3 rg = some (32, fun _ => 0) := by rw [u22.2.2.2.1]; exact I21_3_rg
  have E22 : q_en x22 = q_en x := (u22.2.2.2.2.2.1).trans E21
  have R22 : q_ar x22 = q_ar x := (u22.2.2.2.2.1).trans R21
  have W22 : wf x22 := wf_uF W21 u22
  have z22 : q_sz x22 = s + 8 := u22.1.trans z21
  have t22 : q_sl x22 = m0 + 54 := u22.2.1.trans t21
  have F22_4_2_wor : q_fd x22 4 2 wor = .ref lB := (u22.2.2.2.2.2.2 4 2 wor).trans (if_pos ⟨rfl, rfl, rfl⟩)
  refine st_pR A22_4_wor (fun x23 u23 => ?_)
  have A23_0_B : q_al x23 0 B = true := by rw [u23.2.2.1]; exact A22_0_B
  have A23_1_cat : q_al x23 1 cat = true := by rw [u23.2.2.1]; exact A22_1_cat
  have A23_2_lD : q_al x23 2 lD = true := by rw [u23.2.2.1]; exact A22_2_lD
  have A23_2_lK : q_al x23 2 lK = true := by rw [u23.2.2.1]; exact A22_2_lK
  have A23_3_jou : q_al x23 3 jou = true := by rw [u23.2.2.1]; exact A22_3_jou
  have A23_4_wor : q_al x23 4 wor = true := by rw [u23.2.2.1]; exact A22_4_wor
  have A23_2_lB : q_al x23 2 lB = true := by rw [u23.2.2.1]; exact A22_2_lB
  have F23_0_5_B : q_fd x23 0 5 B = .int 0 := by rw [u23.2.2.2.2.2.2, if_neg (fun z => absurd z.1 (by decide))]; exact F22_0_5_B
  have F23_1_0_cat : q_fd x23 1 0 cat = .ref kd := by rw [u23.2.2.2.2.2.2, if_neg (fun z => absurd z.1 (by decide))]; exact F22_1_0_cat
  have F23_2_0_lD : q_fd x23 2 0 lD = .int 0 := by rw [u23.2.2.2.2.2.2, if_neg (fun z => absurd z.1 (by decide))]; exact F22_2_0_lD
  have F23_2_2_lD : q_fd x23 2 2 lD = .int 0 := by rw [u23.2.2.2.2.2.2, if_neg (fun z => absurd z.1 (by decide))]; exact F22_2_2_lD
  have F23_2_1_lD : q_fd x23 2 1 lD = .ref (q_z0 x) := by rw [u23.2.2.2.2.2.2, if_neg (fun z => absurd z.1 (by decide))]; exact F22_2_1_lD
  have F23_1_1_cat : q_fd x23 1 1 cat = .ref lD := by rw [u23.2.2.2.2.2.2, if_neg (fun z => absurd z.1 (by decide))]; exact F22_1_1_cat
  have F23_0_0_B : q_fd x23 0 0 B = .ref cat := by rw [u23.2.2.2.2.2.2, if_neg (fun z => absurd z.1 (by decide))]; exact F22_0_0_B
  have F23_2_0_lK : q_fd x23 2 0 lK = .int 0 := by rw [u23.2.2.2.2.2.2, if_neg (fun z => absurd z.1 (by decide))]; exact F22_2_0_lK
  have F23_2_2_lK : q_fd x23 2 2 lK = .int 0 := by rw [u23.2.2.2.2.2.2, if_neg (fun z => absurd z.1 (by decide))]; exact F22_2_2_lK
  have F23_2_1_lK : q_fd x23 2 1 lK = .ref (q_z0 x) := by rw [u23.2.2.2.2.2.2, if_neg (fun z => absurd z.1 (by decide))]; exact F22_2_1_lK
  have F23_0_1_B : q_fd x23 0 1 B = .ref lK := by rw [u23.2.2.2.2.2.2, if_neg (fun z => absurd z.1 (by decide))]; exact F22_0_1_B
  have F23_3_1_jou : q_fd x23 3 1 jou = .int 0 := by rw [u23.2.2.2.2.2.2, if_neg (fun z => absurd z.1 (by decide))]; exact F22_3_1_jou
  have F23_3_0_jou : q_fd x23 3 0 jou = .ref rg := by rw [u23.2.2.2.2.2.2, if_neg (fun z => absurd z.1 (by decide))]; exact F22_3_0_jou
  have F23_0_2_B : q_fd x23 0 2 B = .ref jou := by rw [u23.2.2.2.2.2.2, if_neg (fun z => absurd z.1 (by decide))]; exact F22_0_2_B
  have F23_2_0_lB : q_fd x23 2 0 lB = .int 0 := by rw [u23.2.2.2.2.2.2, if_neg (fun z => absurd z.1 (by decide))]; exact F22_2_0_lB
  have F23_2_2_lB : q_fd x23 2 2 lB = .int 0 := by rw [u23.2.2.2.2.2.2, if_neg (fun z => absurd z.1 (by decide))]; exact F22_2_2_lB
  have F23_2_1_lB : q_fd x23 2 1 lB = .ref (q_z0 x) := by rw [u23.2.2.2.2.2.2, if_neg (fun z => absurd z.1 (by decide))]; exact F22_2_1_lB
  have F23_4_2_wor : q_fd x23 4 2 wor = .ref lB := by rw [u23.2.2.2.2.2.2, if_neg (fun z => absurd z.2.1 (by decide))]; exact F22_4_2_wor
  have I23_1_kd : q_ai x23 1 kd = some (6, kn0) := by rw [u23.2.2.2.1]; exact I22_1_kd
  have I23_3_rg : q_ai x23 3 rg = some (32, fun _ => 0) := by rw [u23.2.2.2.1]; exact I22_3_rg
  have E23 : q_en x23 = q_en x := (u23.2.2.2.2.2.1).trans E22
  have R23 : q_ar x23 = q_ar x := (u23.2.2.2.2.1).trans R22
  have W23 : wf x23 := wf_uF W22 u23
  have z23 : q_sz x23 = s + 8 := u23.1.trans z22
  have t23 : q_sl x23 = m0 + 54 := u23.2.1.trans t22
  have F23_4_0_wor : q_fd x23 4 0 wor = .ref cat := (u23.2.2.2.2.2.2 4 0 wor).trans (if_pos ⟨rfl, rfl, rfl⟩)
  refine st_pR A23_4_wor (fun x24 u24 => ?_)
  have A24_0_B : q_al x24 0 B = true := by rw [u24.2.2.1]; exact A23_0_B
  have A24_1_cat : q_al x24 1 cat = true := by rw [u24.2.2.1]; exact A23_1_cat
  have A24_2_lD : q_al x24 2 lD = true := by rw [u24.2.2.1]; exact A23_2_lD
  have A24_2_lK : q_al x24 2 lK = true := by rw [u24.2.2.1]; exact A23_2_lK
  have A24_3_jou : q_al x24 3 jou = true := by rw [u24.2.2.1]; exact A23_3_jou
  have A24_4_wor : q_al x24 4 wor = true := by rw [u24.2.2.1]; exact A23_4_wor
  have A24_2_lB : q_al x24 2 lB = true := by rw [u24.2.2.1]; exact A23_2_lB
  have F24_0_5_B : q_fd x24 0 5 B = .int 0 := by rw [u24.2.2.2.2.2.2, if_neg (fun z => absurd z.1 (by decide))]; exact F23_0_5_B
  have F24_1_0_cat : q_fd x24 1 0 cat = .ref kd := by rw [u24.2.2.2.2.2.2, if_neg (fun z => absurd z.1 (by decide))]; exact F23_1_0_cat
  have F24_2_0_lD : q_fd x24 2 0 lD = .int 0 := by rw [u24.2.2.2.2.2.2, if_neg (fun z => absurd z.1 (by decide))]; exact F23_2_0_lD
  have F24_2_2_lD : q_fd x24 2 2 lD = .int 0 := by rw [u24.2.2.2.2.2.2, if_neg (fun z => absurd z.1 (by decide))]; exact F23_2_2_lD
  have F24_2_1_lD : q_fd x24 2 1 lD = .ref (q_z0 x) := by rw [u24.2.2.2.2.2.2, if_neg (fun z => absurd z.1 (by decide))]; exact F23_2_1_lD
  have F24_1_1_cat : q_fd x24 1 1 cat = .ref lD := by rw [u24.2.2.2.2.2.2, if_neg (fun z => absurd z.1 (by decide))]; exact F23_1_1_cat
  have F24_0_0_B : q_fd x24 0 0 B = .ref cat := by rw [u24.2.2.2.2.2.2, if_neg (fun z => absurd z.1 (by decide))]; exact F23_0_0_B
  have F24_2_0_lK : q_fd x24 2 0 lK = .int 0 := by rw [u24.2.2.2.2.2.2, if_neg (fun z => absurd z.1 (by decide))]; exact F23_2_0_lK
  have F24_2_2_lK : q_fd x24 2 2 lK = .int 0 := by rw [u24.2.2.2.2.2.2, if_neg (fun z => absurd z.1 (by decide))]; exact F23_2_2_lK
  have F24_2_1_lK : q_fd x24 2 1 lK = .ref (q_z0 x) := by rw [u24.2.2.2.2.2.2, if_neg (fun z => absurd z.1 (by decide))]; exact F23_2_1_lK
  have F24_0_1_B : q_fd x24 0 1 B = .ref lK := by rw [u24.2.2.2.2.2.2, if_neg (fun z => absurd z.1 (by decide))]; exact F23_0_1_B
  have F24_3_1_jou : q_fd x24 3 1 jou = .int 0 := by rw [u24.2.2.2.2.2.2, if_neg (fun z => absurd z.1 (by decide))]; exact F23_3_1_jou
  have F24_3_0_jou : q_fd x24 3 0 jou = .ref rg := by rw [u24.2.2.2.2.2.2, if_neg (fun z => absurd z.1 (by decide))]; exact F23_3_0_jou
  have F24_0_2_B : q_fd x24 0 2 B = .ref jou := by rw [u24.2.2.2.2.2.2, if_neg (fun z => absurd z.1 (by decide))]; exact F23_0_2_B
  have F24_2_0_lB : q_fd x24 2 0 lB = .int 0 := by rw [u24.2.2.2.2.2.2, if_neg (fun z => absurd z.1 (by decide))]; exact F23_2_0_lB
  have F24_2_2_lB : q_fd x24 2 2 lB = .int 0 := by rw [u24.2.2.2.2.2.2, if_neg (fun z => absurd z.1 (by decide))]; exact F23_2_2_lB
  have F24_2_1_lB : q_fd x24 2 1 lB = .ref (q_z0 x) := by rw [u24.2.2.2.2.2.2, if_neg (fun z => absurd z.1 (by decide))]; exact F23_2_1_lB
  have F24_4_2_wor : q_fd x24 4 2 wor = .ref lB := by rw [u24.2.2.2.2.2.2, if_neg (fun z => absurd z.2.1 (by decide))]; exact F23_4_2_wor
  have F24_4_0_wor : q_fd x24 4 0 wor = .ref cat := by rw [u24.2.2.2.2.2.2, if_neg (fun z => absurd z.2.1 (by decide))]; exact F23_4_0_wor
  have I24_1_kd : q_ai x24 1 kd = some (6, kn0) := by rw [u24.2.2.2.1]; exact I23_1_kd
  have I24_3_rg : q_ai x24 3 rg = some (32, fun _ => 0) := by rw [u24.2.2.2.1]; exact I23_3_rg
  have E24 : q_en x24 = q_en x := (u24.2.2.2.2.2.1).trans E23
  have R24 : q_ar x24 = q_ar x := (u24.2.2.2.2.1).trans R23
  have W24 : wf x24 := wf_uF W23 u24
  have z24 : q_sz x24 = s + 8 := u24.1.trans z23
  have t24 : q_sl x24 = m0 + 54 := u24.2.1.trans t23
  have F24_4_1_wor : q_fd x24 4 1 wor = .ref jou := (u24.2.2.2.2.2.2 4 1 wor).trans (if_pos ⟨rfl, rfl, rfl⟩)
  refine st_pR A24_0_B (fun x25 u25 => ?_)
  have A25_0_B : q_al x25 0 B = true := by rw [u25.2.2.1]; exact A24_0_B
  have A25_1_cat : q_al x25 1 cat = true := by rw [u25.2.2.1]; exact A24_1_cat
  have A25_2_lD : q_al x25 2 lD = true := by rw [u25.2.2.1]; exact A24_2_lD
  have A25_2_lK : q_al x25 2 lK = true := by rw [u25.2.2.1]; exact A24_2_lK
  have A25_3_jou : q_al x25 3 jou = true := by rw [u25.2.2.1]; exact A24_3_jou
  have A25_4_wor : q_al x25 4 wor = true := by rw [u25.2.2.1]; exact A24_4_wor
  have A25_2_lB : q_al x25 2 lB = true := by rw [u25.2.2.1]; exact A24_2_lB
  have F25_0_5_B : q_fd x25 0 5 B = .int 0 := by rw [u25.2.2.2.2.2.2, if_neg (fun z => absurd z.2.1 (by decide))]; exact F24_0_5_B
  have F25_1_0_cat : q_fd x25 1 0 cat = .ref kd := by rw [u25.2.2.2.2.2.2, if_neg (fun z => absurd z.1 (by decide))]; exact F24_1_0_cat
  have F25_2_0_lD : q_fd x25 2 0 lD = .int 0 := by rw [u25.2.2.2.2.2.2, if_neg (fun z => absurd z.1 (by decide))]; exact F24_2_0_lD
  have F25_2_2_lD : q_fd x25 2 2 lD = .int 0 := by rw [u25.2.2.2.2.2.2, if_neg (fun z => absurd z.1 (by decide))]; exact F24_2_2_lD
  have F25_2_1_lD : q_fd x25 2 1 lD = .ref (q_z0 x) := by rw [u25.2.2.2.2.2.2, if_neg (fun z => absurd z.1 (by decide))]; exact F24_2_1_lD
  have F25_1_1_cat : q_fd x25 1 1 cat = .ref lD := by rw [u25.2.2.2.2.2.2, if_neg (fun z => absurd z.1 (by decide))]; exact F24_1_1_cat
  have F25_0_0_B : q_fd x25 0 0 B = .ref cat := by rw [u25.2.2.2.2.2.2, if_neg (fun z => absurd z.2.1 (by decide))]; exact F24_0_0_B
  have F25_2_0_lK : q_fd x25 2 0 lK = .int 0 := by rw [u25.2.2.2.2.2.2, if_neg (fun z => absurd z.1 (by decide))]; exact F24_2_0_lK
  have F25_2_2_lK : q_fd x25 2 2 lK = .int 0 := by rw [u25.2.2.2.2.2.2, if_neg (fun z => absurd z.1 (by decide))]; exact F24_2_2_lK
  have F25_2_1_lK : q_fd x25 2 1 lK = .ref (q_z0 x) := by rw [u25.2.2.2.2.2.2, if_neg (fun z => absurd z.1 (by decide))]; exact F24_2_1_lK
  have F25_0_1_B : q_fd x25 0 1 B = .ref lK := by rw [u25.2.2.2.2.2.2, if_neg (fun z => absurd z.2.1 (by decide))]; exact F24_0_1_B
  have F25_3_1_jou : q_fd x25 3 1 jou = .int 0 := by rw [u25.2.2.2.2.2.2, if_neg (fun z => absurd z.1 (by decide))]; exact F24_3_1_jou
  have F25_3_0_jou : q_fd x25 3 0 jou = .ref rg := by rw [u25.2.2.2.2.2.2, if_neg (fun z => absurd z.1 (by decide))]; exact F24_3_0_jou
  have F25_0_2_B : q_fd x25 0 2 B = .ref jou := by rw [u25.2.2.2.2.2.2, if_neg (fun z => absurd z.2.1 (by decide))]; exact F24_0_2_B
  have F25_2_0_lB : q_fd x25 2 0 lB = .int 0 := by rw [u25.2.2.2.2.2.2, if_neg (fun z => absurd z.1 (by decide))]; exact F24_2_0_lB
  have F25_2_2_lB : q_fd x25 2 2 lB = .int 0 := by rw [u25.2.2.2.2.2.2, if_neg (fun z => absurd z.1 (by decide))]; exact F24_2_2_lB
  have F25_2_1_lB : q_fd x25 2 1 lB = .ref (q_z0 x) := by rw [u25.2.2.2.2.2.2, if_neg (fun z => absurd z.1 (by decide))]; exact F24_2_1_lB
  have F25_4_2_wor : q_fd x25 4 2 wor = .ref lB := by rw [u25.2.2.2.2.2.2, if_neg (fun z => absurd z.1 (by decide))]; exact F24_4_2_wor
  have F25_4_0_wor : q_fd x25 4 0 wor = .ref cat := by rw [u25.2.2.2.2.2.2, if_neg (fun z => absurd z.1 (by decide))]; exact F24_4_0_wor
  have F25_4_1_wor : q_fd x25 4 1 wor = .ref jou := by rw [u25.2.2.2.2.2.2, if_neg (fun z => absurd z.1 (by decide))]; exact F24_4_1_wor
  have I25_1_kd : q_ai x25 1 kd = some (6, kn0) := by rw [u25.2.2.2.1]; exact I24_1_kd
  have I25_3_rg : q_ai x25 3 rg = some (32, fun _ => 0) := by rw [u25.2.2.2.1]; exact I24_3_rg
  have E25 : q_en x25 = q_en x := (u25.2.2.2.2.2.1).trans E24
  have R25 : q_ar x25 = q_ar x := (u25.2.2.2.2.1).trans R24
  have W25 : wf x25 := wf_uF W24 u25
  have z25 : q_sz x25 = s + 8 := u25.1.trans z24
  have t25 : q_sl x25 = m0 + 54 := u25.2.1.trans t24
  have F25_0_3_B : q_fd x25 0 3 B = .ref wor := (u25.2.2.2.2.2.2 0 3 B).trans (if_pos ⟨rfl, rfl, rfl⟩)
  refine st_nO (fun x26 u26 => ?_)
  obtain ⟨she, h_she⟩ : ∃ z, z = q_sz x25 := ⟨_, rfl⟩
  have f_u26 := u26
  unfold uN at u26
  rw [← h_she] at u26 ⊢
  have v_she : she = s + 8 := h_she.trans z25
  have A26_0_B : q_al x26 0 B = true := by rw [u26.2.2.2.2.2.1, if_neg (fun z => absurd z.1 (by decide))]; exact A25_0_B
  have A26_1_cat : q_al x26 1 cat = true := by rw [u26.2.2.2.2.2.1, if_neg (fun z => absurd z.1 (by decide))]; exact A25_1_cat
  have A26_2_lD : q_al x26 2 lD = true := by rw [u26.2.2.2.2.2.1, if_neg (fun z => absurd z.1 (by decide))]; exact A25_2_lD
  have A26_2_lK : q_al x26 2 lK = true := by rw [u26.2.2.2.2.2.1, if_neg (fun z => absurd z.1 (by decide))]; exact A25_2_lK
  have A26_3_jou : q_al x26 3 jou = true := by rw [u26.2.2.2.2.2.1, if_neg (fun z => absurd z.1 (by decide))]; exact A25_3_jou
  have A26_4_wor : q_al x26 4 wor = true := by rw [u26.2.2.2.2.2.1, if_neg (fun z => absurd z.1 (by decide))]; exact A25_4_wor
  have A26_2_lB : q_al x26 2 lB = true := by rw [u26.2.2.2.2.2.1, if_neg (fun z => absurd z.1 (by decide))]; exact A25_2_lB
  have F26_0_5_B : q_fd x26 0 5 B = .int 0 := by rw [u26.2.2.2.2.2.2, if_neg (fun z => absurd z.1 (by decide))]; exact F25_0_5_B
  have F26_1_0_cat : q_fd x26 1 0 cat = .ref kd := by rw [u26.2.2.2.2.2.2, if_neg (fun z => absurd z.1 (by decide))]; exact F25_1_0_cat
  have F26_2_0_lD : q_fd x26 2 0 lD = .int 0 := by rw [u26.2.2.2.2.2.2, if_neg (fun z => absurd z.1 (by decide))]; exact F25_2_0_lD
  have F26_2_2_lD : q_fd x26 2 2 lD = .int 0 := by rw [u26.2.2.2.2.2.2, if_neg (fun z => absurd z.1 (by decide))]; exact F25_2_2_lD
  have F26_2_1_lD : q_fd x26 2 1 lD = .ref (q_z0 x) := by rw [u26.2.2.2.2.2.2, if_neg (fun z => absurd z.1 (by decide))]; exact F25_2_1_lD
  have F26_1_1_cat : q_fd x26 1 1 cat = .ref lD := by rw [u26.2.2.2.2.2.2, if_neg (fun z => absurd z.1 (by decide))]; exact F25_1_1_cat
  have F26_0_0_B : q_fd x26 0 0 B = .ref cat := by rw [u26.2.2.2.2.2.2, if_neg (fun z => absurd z.1 (by decide))]; exact F25_0_0_B
  have F26_2_0_lK : q_fd x26 2 0 lK = .int 0 := by rw [u26.2.2.2.2.2.2, if_neg (fun z => absurd z.1 (by decide))]; exact F25_2_0_lK
  have F26_2_2_lK : q_fd x26 2 2 lK = .int 0 := by rw [u26.2.2.2.2.2.2, if_neg (fun z => absurd z.1 (by decide))]; exact F25_2_2_lK
  have F26_2_1_lK : q_fd x26 2 1 lK = .ref (q_z0 x) := by rw [u26.2.2.2.2.2.2, if_neg (fun z => absurd z.1 (by decide))]; exact F25_2_1_lK
  have F26_0_1_B : q_fd x26 0 1 B = .ref lK := by rw [u26.2.2.2.2.2.2, if_neg (fun z => absurd z.1 (by decide))]; exact F25_0_1_B
  have F26_3_1_jou : q_fd x26 3 1 jou = .int 0 := by rw [u26.2.2.2.2.2.2, if_neg (fun z => absurd z.1 (by decide))]; exact F25_3_1_jou
  have F26_3_0_jou : q_fd x26 3 0 jou = .ref rg := by rw [u26.2.2.2.2.2.2, if_neg (fun z => absurd z.1 (by decide))]; exact F25_3_0_jou
  have F26_0_2_B : q_fd x26 0 2 B = .ref jou := by rw [u26.2.2.2.2.2.2, if_neg (fun z => absurd z.1 (by decide))]; exact F25_0_2_B
  have F26_2_0_lB : q_fd x26 2 0 lB = .int 0 := by rw [u26.2.2.2.2.2.2, if_neg (fun z => absurd z.1 (by decide))]; exact F25_2_0_lB
  have F26_2_2_lB : q_fd x26 2 2 lB = .int 0 := by rw [u26.2.2.2.2.2.2, if_neg (fun z => absurd z.1 (by decide))]; exact F25_2_2_lB
  have F26_2_1_lB : q_fd x26 2 1 lB = .ref (q_z0 x) := by rw [u26.2.2.2.2.2.2, if_neg (fun z => absurd z.1 (by decide))]; exact F25_2_1_lB
  have F26_4_2_wor : q_fd x26 4 2 wor = .ref lB := by rw [u26.2.2.2.2.2.2, if_neg (fun z => absurd z.1 (by decide))]; exact F25_4_2_wor
  have F26_4_0_wor : q_fd x26 4 0 wor = .ref cat := by rw [u26.2.2.2.2.2.2, if_neg (fun z => absurd z.1 (by decide))]; exact F25_4_0_wor
  have F26_4_1_wor : q_fd x26 4 1 wor = .ref jou := by rw [u26.2.2.2.2.2.2, if_neg (fun z => absurd z.1 (by decide))]; exact F25_4_1_wor
  have F26_0_3_B : q_fd x26 0 3 B = .ref wor := by rw [u26.2.2.2.2.2.2, if_neg (fun z => absurd z.1 (by decide))]; exact F25_0_3_B
  have I26_1_kd : q_ai x26 1 kd = some (6, kn0) := by rw [u26.2.2.1]; exact I25_1_kd
  have I26_3_rg : q_ai x26 3 rg = some (32, fun _ => 0) := by rw [u26.2.2.1]; exact I25_3_rg
  have E26 : q_en x26 = q_en x := (u26.2.2.2.2.1).trans E25
  have R26 : q_ar x26 = q_ar x := (u26.2.2.2.1).trans R25
  have W26 : wf x26 := wf_uN W25 f_u26
  have z26 : q_sz x26 = s + 9 := by rw [u26.1, v_she]
  have t26 : q_sl x26 = m0 + 59 := by rw [u26.2.1, t25]; rfl
  have A26_5_she : q_al x26 5 she = true := by rw [u26.2.2.2.2.2.1, if_pos ⟨rfl, rfl⟩]
  refine st_gR (r := some wor) A26_0_B F26_0_3_B ?_
  refine st_gR (r := some jou) A26_0_B F26_0_2_B ?_
  try simp only [jf_Sh_init, Option.bind_assoc, Option.bind_some]
  refine st_nO (fun x27 u27 => ?_)
  obtain ⟨lC, h_lC⟩ : ∃ z, z = q_sz x26 := ⟨_, rfl⟩
  have f_u27 := u27
  unfold uN at u27
  rw [← h_lC] at u27 ⊢
  have v_lC : lC = s + 9 := h_lC.trans z26
  have A27_0_B : q_al x27 0 B = true := by rw [u27.2.2.2.2.2.1, if_neg (fun z => absurd z.1 (by decide))]; exact A26_0_B
  have A27_1_cat : q_al x27 1 cat = true := by rw [u27.2.2.2.2.2.1, if_neg (fun z => absurd z.1 (by decide))]; exact A26_1_cat
  have A27_2_lD : q_al x27 2 lD = true := by rw [u27.2.2.2.2.2.1, if_neg (fun z => (fun z => absurd (Nat.add_left_cancel ((v_lD.symm.trans z).trans v_lC)) (by decide)) z.2)]; exact A26_2_lD
  have A27_2_lK : q_al x27 2 lK = true := by rw [u27.2.2.2.2.2.1, if_neg (fun z => (fun z => absurd (Nat.add_left_cancel ((v_lK.symm.trans z).trans v_lC)) (by decide)) z.2)]; exact A26_2_lK
  have A27_3_jou : q_al x27 3 jou = true := by rw [u27.2.2.2.2.2.1, if_neg (fun z => absurd z.1 (by decide))]; exact A26_3_jou
  have A27_4_wor : q_al x27 4 wor = true := by rw [u27.2.2.2.2.2.1, if_neg (fun z => absurd z.1 (by decide))]; exact A26_4_wor
  have A27_2_lB : q_al x27 2 lB = true := by rw [u27.2.2.2.2.2.1, if_neg (fun z => (fun z => absurd (Nat.add_left_cancel ((v_lB.symm.trans z).trans v_lC)) (by decide)) z.2)]; exact A26_2_lB
  have A27_5_she : q_al x27 5 she = true := by rw [u27.2.2.2.2.2.1, if_neg (fun z => absurd z.1 (by decide))]; exact A26_5_she
  have F27_0_5_B : q_fd x27 0 5 B = .int 0 := by rw [u27.2.2.2.2.2.2, if_neg (fun z => absurd z.1 (by decide))]; exact F26_0_5_B
  have F27_1_0_cat : q_fd x27 1 0 cat = .ref kd := by rw [u27.2.2.2.2.2.2, if_neg (fun z => absurd z.1 (by decide))]; exact F26_1_0_cat
  have F27_2_0_lD : q_fd x27 2 0 lD = .int 0 := by rw [u27.2.2.2.2.2.2, if_neg (fun z => (fun z => absurd (Nat.add_left_cancel ((v_lD.symm.trans z).trans v_lC)) (by decide)) z.2)]; exact F26_2_0_lD
  have F27_2_2_lD : q_fd x27 2 2 lD = .int 0 := by rw [u27.2.2.2.2.2.2, if_neg (fun z => (fun z => absurd (Nat.add_left_cancel ((v_lD.symm.trans z).trans v_lC)) (by decide)) z.2)]; exact F26_2_2_lD
  have F27_2_1_lD : q_fd x27 2 1 lD = .ref (q_z0 x) := by rw [u27.2.2.2.2.2.2, if_neg (fun z => (fun z => absurd (Nat.add_left_cancel ((v_lD.symm.trans z).trans v_lC)) (by decide)) z.2)]; exact F26_2_1_lD
  have F27_1_1_cat : q_fd x27 1 1 cat = .ref lD := by rw [u27.2.2.2.2.2.2, if_neg (fun z => absurd z.1 (by decide))]; exact F26_1_1_cat
  have F27_0_0_B : q_fd x27 0 0 B = .ref cat := by rw [u27.2.2.2.2.2.2, if_neg (fun z => absurd z.1 (by decide))]; exact F26_0_0_B
  have F27_2_0_lK : q_fd x27 2 0 lK = .int 0 := by rw [u27.2.2.2.2.2.2, if_neg (fun z => (fun z => absurd (Nat.add_left_cancel ((v_lK.symm.trans z).trans v_lC)) (by decide)) z.2)]; exact F26_2_0_lK
  have F27_2_2_lK : q_fd x27 2 2 lK = .int 0 := by rw [u27.2.2.2.2.2.2, if_neg (fun z => (fun z => absurd (Nat.add_left_cancel ((v_lK.symm.trans z).trans v_lC)) (by decide)) z.2)]; exact F26_2_2_lK
  have F27_2_1_lK : q_fd x27 2 1 lK = .ref (q_z0 x) := by rw [u27.2.2.2.2.2.2, if_neg (fun z => (fun z => absurd (Nat.add_left_cancel ((v_lK.symm.trans z).trans v_lC)) (by decide)) z.2)]; exact F26_2_1_lK
  have F27_0_1_B : q_fd x27 0 1 B = .ref lK := by rw [u27.2.2.2.2.2.2, if_neg (fun z => absurd z.1 (by decide))]; exact F26_0_1_B
  have F27_3_1_jou : q_fd x27 3 1 jou = .int 0 := by rw [u27.2.2.2.2.2.2, if_neg (fun z => absurd z.1 (by decide))]; exact F26_3_1_jou
  have F27_3_0_jou : q_fd x27 3 0 jou = .ref rg := by rw [u27.2.2.2.2.2.2, if_neg (fun z => absurd z.1 (by decide))]; exact F26_3_0_jou
  have F27_0_2_B : q_fd x27 0 2 B = .ref jou := by rw [u27.2.2.2.2.2.2, if_neg (fun z => absurd z.1 (by decide))]; exact F26_0_2_B
  have F27_2_0_lB : q_fd x27 2 0 lB = .int 0 := by rw [u27.2.2.2.2.2.2, if_neg (fun z => (fun z => absurd (Nat.add_left_cancel ((v_lB.symm.trans z).trans v_lC)) (by decide)) z.2)]; exact F26_2_0_lB
  have F27_2_2_lB : q_fd x27 2 2 lB = .int 0 := by rw [u27.2.2.2.2.2.2, if_neg (fun z => (fun z => absurd (Nat.add_left_cancel ((v_lB.symm.trans z).trans v_lC)) (by decide)) z.2)]; exact F26_2_2_lB
  have F27_2_1_lB : q_fd x27 2 1 lB = .ref (q_z0 x) := by rw [u27.2.2.2.2.2.2, if_neg (fun z => (fun z => absurd (Nat.add_left_cancel ((v_lB.symm.trans z).trans v_lC)) (by decide)) z.2)]; exact F26_2_1_lB
  have F27_4_2_wor : q_fd x27 4 2 wor = .ref lB := by rw [u27.2.2.2.2.2.2, if_neg (fun z => absurd z.1 (by decide))]; exact F26_4_2_wor
  have F27_4_0_wor : q_fd x27 4 0 wor = .ref cat := by rw [u27.2.2.2.2.2.2, if_neg (fun z => absurd z.1 (by decide))]; exact F26_4_0_wor
  have F27_4_1_wor : q_fd x27 4 1 wor = .ref jou := by rw [u27.2.2.2.2.2.2, if_neg (fun z => absurd z.1 (by decide))]; exact F26_4_1_wor
  have F27_0_3_B : q_fd x27 0 3 B = .ref wor := by rw [u27.2.2.2.2.2.2, if_neg (fun z => absurd z.1 (by decide))]; exact F26_0_3_B
  have I27_1_kd : q_ai x27 1 kd = some (6, kn0) := by rw [u27.2.2.1]; exact I26_1_kd
  have I27_3_rg : q_ai x27 3 rg = some (32, fun _ => 0) := by rw [u27.2.2.1]; exact I26_3_rg
  have E27 : q_en x27 = q_en x := (u27.2.2.2.2.1).trans E26
  have R27 : q_ar x27 = q_ar x := (u27.2.2.2.1).trans R26
  have W27 : wf x27 := wf_uN W26 f_u27
  have z27 : q_sz x27 = s + 10 := by rw [u27.1, v_lC]
  have t27 : q_sl x27 = m0 + 62 := by rw [u27.2.1, t26]; rfl
  have A27_2_lC : q_al x27 2 lC = true := by rw [u27.2.2.2.2.2.1, if_pos ⟨rfl, rfl⟩]
  have F27_2_0_lC : q_fd x27 2 0 lC = .int 0 := by rw [u27.2.2.2.2.2.2, if_pos ⟨rfl, rfl⟩]; rfl
  have F27_2_2_lC : q_fd x27 2 2 lC = .int 0 := by rw [u27.2.2.2.2.2.2, if_pos ⟨rfl, rfl⟩]; rfl
  try simp only [jf_AL_init, jf_AbL_init, jf_AbC_init, Option.bind_assoc, Option.bind_some]
  refine st_pI A27_2_lC (fun x28 u28 => ?_)
  have A28_0_B : q_al x28 0 B = true := by rw [u28.2.2.1]; exact A27_0_B
  have A28_1_cat : q_al x28 1 cat = true := by rw [u28.2.2.1]; exact A27_1_cat
  have A28_2_lD : q_al x28 2 lD = true := by rw [u28.2.2.1]; exact A27_2_lD
  have A28_2_lK : q_al x28 2 lK = true := by rw [u28.2.2.1]; exact A27_2_lK
  have A28_3_jou : q_al x28 3 jou = true := by rw [u28.2.2.1]; exact A27_3_jou
  have A28_4_wor : q_al x28 4 wor = true := by rw [u28.2.2.1]; exact A27_4_wor
  have A28_2_lB : q_al x28 2 lB = true := by rw [u28.2.2.1]; exact A27_2_lB
  have A28_5_she : q_al x28 5 she = true := by rw [u28.2.2.1]; exact A27_5_she
  have A28_2_lC : q_al x28 2 lC = true := by rw [u28.2.2.1]; exact A27_2_lC
  have F28_0_5_B : q_fd x28 0 5 B = .int 0 := by rw [u28.2.2.2.2.2.2, if_neg (fun z => absurd z.1 (by decide))]; exact F27_0_5_B
  have F28_1_0_cat : q_fd x28 1 0 cat = .ref kd := by rw [u28.2.2.2.2.2.2, if_neg (fun z => absurd z.1 (by decide))]; exact F27_1_0_cat
  have F28_2_0_lD : q_fd x28 2 0 lD = .int 0 := by rw [u28.2.2.2.2.2.2, if_neg (fun z => (fun z => absurd (Nat.add_left_cancel ((v_lD.symm.trans z).trans v_lC)) (by decide)) z.2.2)]; exact F27_2_0_lD
  have F28_2_2_lD : q_fd x28 2 2 lD = .int 0 := by rw [u28.2.2.2.2.2.2, if_neg (fun z => absurd z.2.1 (by decide))]; exact F27_2_2_lD
  have F28_2_1_lD : q_fd x28 2 1 lD = .ref (q_z0 x) := by rw [u28.2.2.2.2.2.2, if_neg (fun z => absurd z.2.1 (by decide))]; exact F27_2_1_lD
  have F28_1_1_cat : q_fd x28 1 1 cat = .ref lD := by rw [u28.2.2.2.2.2.2, if_neg (fun z => absurd z.1 (by decide))]; exact F27_1_1_cat
  have F28_0_0_B : q_fd x28 0 0 B = .ref cat := by rw [u28.2.2.2.2.2.2, if_neg (fun z => absurd z.1 (by decide))]; exact F27_0_0_B
  have F28_2_0_lK : q_fd x28 2 0 lK = .int 0 := by rw [u28.2.2.2.2.2.2, if_neg (fun z => (fun z => absurd (Nat.add_left_cancel ((v_lK.symm.trans z).trans v_lC)) (by decide)) z.2.2)]; exact F27_2_0_lK
  have F28_2_2_lK : q_fd x28 2 2 lK = .int 0 := by rw [u28.2.2.2.2.2.2, if_neg (fun z => absurd z.2.1 (by decide))]; exact F27_2_2_lK
  have F28_2_1_lK : q_fd x28 2 1 lK = .ref (q_z0 x) := by rw [u28.2.2.2.2.2.2, if_neg (fun z => absurd z.2.1 (by decide))]; exact F27_2_1_lK
  have F28_0_1_B : q_fd x28 0 1 B = .ref lK := by rw [u28.2.2.2.2.2.2, if_neg (fun z => absurd z.1 (by decide))]; exact F27_0_1_B
  have F28_3_1_jou : q_fd x28 3 1 jou = .int 0 := by rw [u28.2.2.2.2.2.2, if_neg (fun z => absurd z.1 (by decide))]; exact F27_3_1_jou
  have F28_3_0_jou : q_fd x28 3 0 jou = .ref rg := by rw [u28.2.2.2.2.2.2, if_neg (fun z => absurd z.1 (by decide))]; exact F27_3_0_jou
  have F28_0_2_B : q_fd x28 0 2 B = .ref jou := by rw [u28.2.2.2.2.2.2, if_neg (fun z => absurd z.1 (by decide))]; exact F27_0_2_B
  have F28_2_0_lB : q_fd x28 2 0 lB = .int 0 := by rw [u28.2.2.2.2.2.2, if_neg (fun z => (fun z => absurd (Nat.add_left_cancel ((v_lB.symm.trans z).trans v_lC)) (by decide)) z.2.2)]; exact F27_2_0_lB
  have F28_2_2_lB : q_fd x28 2 2 lB = .int 0 := by rw [u28.2.2.2.2.2.2, if_neg (fun z => absurd z.2.1 (by decide))]; exact F27_2_2_lB
  have F28_2_1_lB : q_fd x28 2 1 lB = .ref (q_z0 x) := by rw [u28.2.2.2.2.2.2, if_neg (fun z => absurd z.2.1 (by decide))]; exact F27_2_1_lB
  have F28_4_2_wor : q_fd x28 4 2 wor = .ref lB := by rw [u28.2.2.2.2.2.2, if_neg (fun z => absurd z.1 (by decide))]; exact F27_4_2_wor
  have F28_4_0_wor : q_fd x28 4 0 wor = .ref cat := by rw [u28.2.2.2.2.2.2, if_neg (fun z => absurd z.1 (by decide))]; exact F27_4_0_wor
  have F28_4_1_wor : q_fd x28 4 1 wor = .ref jou := by rw [u28.2.2.2.2.2.2, if_neg (fun z => absurd z.1 (by decide))]; exact F27_4_1_wor
  have F28_0_3_B : q_fd x28 0 3 B = .ref wor := by rw [u28.2.2.2.2.2.2, if_neg (fun z => absurd z.1 (by decide))]; exact F27_0_3_B
  have F28_2_2_lC : q_fd x28 2 2 lC = .int 0 := by rw [u28.2.2.2.2.2.2, if_neg (fun z => absurd z.2.1 (by decide))]; exact F27_2_2_lC
  have I28_1_kd : q_ai x28 1 kd = some (6, kn0) := by rw [u28.2.2.2.1]; exact I27_1_kd
  have I28_3_rg : q_ai x28 3 rg = some (32, fun _ => 0) := by rw [u28.2.2.2.1]; exact I27_3_rg
  have E28 : q_en x28 = q_en x := (u28.2.2.2.2.2.1).trans E27
  have R28 : q_ar x28 = q_ar x := (u28.2.2.2.2.1).trans R27
  have W28 : wf x28 := wf_uF W27 u28
  have z28 : q_sz x28 = s + 10 := u28.1.trans z27
  have t28 : q_sl x28 = m0 + 62 := u28.2.1.trans t27
  have F28_2_0_lC : q_fd x28 2 0 lC = .int 0 := (u28.2.2.2.2.2.2 2 0 lC).trans (if_pos ⟨rfl, rfl, rfl⟩)
  refine st_pR A28_2_lC (fun x29 u29 => ?_)
  have A29_0_B : q_al x29 0 B = true := by rw [u29.2.2.1]; exact A28_0_B
  have A29_1_cat : q_al x29 1 cat = true := by rw [u29.2.2.1]; exact A28_1_cat
  have A29_2_lD : q_al x29 2 lD = true := by rw [u29.2.2.1]; exact A28_2_lD
  have A29_2_lK : q_al x29 2 lK = true := by rw [u29.2.2.1]; exact A28_2_lK
  have A29_3_jou : q_al x29 3 jou = true := by rw [u29.2.2.1]; exact A28_3_jou
  have A29_4_wor : q_al x29 4 wor = true := by rw [u29.2.2.1]; exact A28_4_wor
  have A29_2_lB : q_al x29 2 lB = true := by rw [u29.2.2.1]; exact A28_2_lB
  have A29_5_she : q_al x29 5 she = true := by rw [u29.2.2.1]; exact A28_5_she
  have A29_2_lC : q_al x29 2 lC = true := by rw [u29.2.2.1]; exact A28_2_lC
  have F29_0_5_B : q_fd x29 0 5 B = .int 0 := by rw [u29.2.2.2.2.2.2, if_neg (fun z => absurd z.1 (by decide))]; exact F28_0_5_B
  have F29_1_0_cat : q_fd x29 1 0 cat = .ref kd := by rw [u29.2.2.2.2.2.2, if_neg (fun z => absurd z.1 (by decide))]; exact F28_1_0_cat
  have F29_2_0_lD : q_fd x29 2 0 lD = .int 0 := by rw [u29.2.2.2.2.2.2, if_neg (fun z => absurd z.2.1 (by decide))]; exact F28_2_0_lD
  have F29_2_2_lD : q_fd x29 2 2 lD = .int 0 := by rw [u29.2.2.2.2.2.2, if_neg (fun z => absurd z.2.1 (by decide))]; exact F28_2_2_lD
  have F29_2_1_lD : q_fd x29 2 1 lD = .ref (q_z0 x) := by rw [u29.2.2.2.2.2.2, if_neg (fun z => (fun z => absurd (Nat.add_left_cancel ((v_lD.symm.trans z).trans v_lC)) (by decide)) z.2.2)]; exact F28_2_1_lD
  have F29_1_1_cat : q_fd x29 1 1 cat = .ref lD := by rw [u29.2.2.2.2.2.2, if_neg (fun z => absurd z.1 (by decide))]; exact F28_1_1_cat
  have F29_0_0_B : q_fd x29 0 0 B = .ref cat := by rw [u29.2.2.2.2.2.2, if_neg (fun z => absurd z.1 (by decide))]; exact F28_0_0_B
  have F29_2_0_lK : q_fd x29 2 0 lK = .int 0 := by rw [u29.2.2.2.2.2.2, if_neg (fun z => absurd z.2.1 (by decide))]; exact F28_2_0_lK
  have F29_2_2_lK : q_fd x29 2 2 lK = .int 0 := by rw [u29.2.2.2.2.2.2, if_neg (fun z => absurd z.2.1 (by decide))]; exact F28_2_2_lK
  have F29_2_1_lK : q_fd x29 2 1 lK = .ref (q_z0 x) := by rw [u29.2.2.2.2.2.2, if_neg (fun z => (fun z => absurd (Nat.add_left_cancel ((v_lK.symm.trans z).trans v_lC)) (by decide)) z.2.2)]; exact F28_2_1_lK
  have F29_0_1_B : q_fd x29 0 1 B = .ref lK := by rw [u29.2.2.2.2.2.2, if_neg (fun z => absurd z.1 (by decide))]; exact F28_0_1_B
  have F29_3_1_jou : q_fd x29 3 1 jou = .int 0 := by rw [u29.2.2.2.2.2.2, if_neg (fun z => absurd z.1 (by decide))]; exact F28_3_1_jou
  have F29_3_0_jou : q_fd x29 3 0 jou = .ref rg := by rw [u29.2.2.2.2.2.2, if_neg (fun z => absurd z.1 (by decide))]; exact F28_3_0_jou
  have F29_0_2_B : q_fd x29 0 2 B = .ref jou := by rw [u29.2.2.2.2.2.2, if_neg (fun z => absurd z.1 (by decide))]; exact F28_0_2_B
  have F29_2_0_lB : q_fd x29 2 0 lB = .int 0 := by rw [u29.2.2.2.2.2.2, if_neg (fun z => absurd z.2.1 (by decide))]; exact F28_2_0_lB
  have F29_2_2_lB : q_fd x29 2 2 lB = .int 0 := by rw [u29.2.2.2.2.2.2, if_neg (fun z => absurd z.2.1 (by decide))]; exact F28_2_2_lB
  have F29_2_1_lB : q_fd x29 2 1 lB = .ref (q_z0 x) := by rw [u29.2.2.2.2.2.2, if_neg (fun z => (fun z => absurd (Nat.add_left_cancel ((v_lB.symm.trans z).trans v_lC)) (by decide)) z.2.2)]; exact F28_2_1_lB
  have F29_4_2_wor : q_fd x29 4 2 wor = .ref lB := by rw [u29.2.2.2.2.2.2, if_neg (fun z => absurd z.1 (by decide))]; exact F28_4_2_wor
  have F29_4_0_wor : q_fd x29 4 0 wor = .ref cat := by rw [u29.2.2.2.2.2.2, if_neg (fun z => absurd z.1 (by decide))]; exact F28_4_0_wor
  have F29_4_1_wor : q_fd x29 4 1 wor = .ref jou := by rw [u29.2.2.2.2.2.2, if_neg (fun z => absurd z.1 (by decide))]; exact F28_4_1_wor
  have F29_0_3_B : q_fd x29 0 3 B = .ref wor := by rw [u29.2.2.2.2.2.2, if_neg (fun z => absurd z.1 (by decide))]; exact F28_0_3_B
  have F29_2_0_lC : q_fd x29 2 0 lC = .int 0 := by rw [u29.2.2.2.2.2.2, if_neg (fun z => absurd z.2.1 (by decide))]; exact F28_2_0_lC
  have F29_2_2_lC : q_fd x29 2 2 lC = .int 0 := by rw [u29.2.2.2.2.2.2, if_neg (fun z => absurd z.2.1 (by decide))]; exact F28_2_2_lC
  have I29_1_kd : q_ai x29 1 kd = some (6, kn0) := by rw [u29.2.2.2.1]; exact I28_1_kd
  have I29_3_rg : q_ai x29 3 rg = some (32, fun _ => 0) := by rw [u29.2.2.2.1]; exact I28_3_rg
  have E29 : q_en x29 = q_en x := (u29.2.2.2.2.2.1).trans E28
  have R29 : q_ar x29 = q_ar x := (u29.2.2.2.2.1).trans R28
  have W29 : wf x29 := wf_uF W28 u29
  have z29 : q_sz x29 = s + 10 := u29.1.trans z28
  have t29 : q_sl x29 = m0 + 62 := u29.2.1.trans t28
  have F29_2_1_lC : q_fd x29 2 1 lC = .ref (q_z0 x28) := (u29.2.2.2.2.2.2 2 1 lC).trans (if_pos ⟨rfl, rfl, rfl⟩)
  rw [q_z0_en E28] at F29_2_1_lC
  refine st_pR A29_5_she (fun x30 u30 => ?_)
  have A30_0_B : q_al x30 0 B = true := by rw [u30.2.2.1]; exact A29_0_B
  have A30_1_cat : q_al x30 1 cat = true := by rw [u30.2.2.1]; exact A29_1_cat
  have A30_2_lD : q_al x30 2 lD = true := by rw [u30.2.2.1]; exact A29_2_lD
  have A30_2_lK : q_al x30 2 lK = true := by rw [u30.2.2.1]; exact A29_2_lK
  have A30_3_jou : q_al x30 3 jou = true := by rw [u30.2.2.1]; exact A29_3_jou
  have A30_4_wor : q_al x30 4 wor = true := by rw [u30.2.2.1]; exact A29_4_wor
  have A30_2_lB : q_al x30 2 lB = true := by rw [u30.2.2.1]; exact A29_2_lB
  have A30_5_she : q_al x30 5 she = true := by rw [u30.2.2.1]; exact A29_5_she
  have A30_2_lC : q_al x30 2 lC = true := by rw [u30.2.2.1]; exact A29_2_lC
  have F30_0_5_B : q_fd x30 0 5 B = .int 0 := by rw [u30.2.2.2.2.2.2, if_neg (fun z => absurd z.1 (by decide))]; exact F29_0_5_B
  have F30_1_0_cat : q_fd x30 1 0 cat = .ref kd := by rw [u30.2.2.2.2.2.2, if_neg (fun z => absurd z.1 (by decide))]; exact F29_1_0_cat
  have F30_2_0_lD : q_fd x30 2 0 lD = .int 0 := by rw [u30.2.2.2.2.2.2, if_neg (fun z => absurd z.1 (by decide))]; exact F29_2_0_lD
  have F30_2_2_lD : q_fd x30 2 2 lD = .int 0 := by rw [u30.2.2.2.2.2.2, if_neg (fun z => absurd z.1 (by decide))]; exact F29_2_2_lD
  have F30_2_1_lD : q_fd x30 2 1 lD = .ref (q_z0 x) := by rw [u30.2.2.2.2.2.2, if_neg (fun z => absurd z.1 (by decide))]; exact F29_2_1_lD
  have F30_1_1_cat : q_fd x30 1 1 cat = .ref lD := by rw [u30.2.2.2.2.2.2, if_neg (fun z => absurd z.1 (by decide))]; exact F29_1_1_cat
  have F30_0_0_B : q_fd x30 0 0 B = .ref cat := by rw [u30.2.2.2.2.2.2, if_neg (fun z => absurd z.1 (by decide))]; exact F29_0_0_B
  have F30_2_0_lK : q_fd x30 2 0 lK = .int 0 := by rw [u30.2.2.2.2.2.2, if_neg (fun z => absurd z.1 (by decide))]; exact F29_2_0_lK
  have F30_2_2_lK : q_fd x30 2 2 lK = .int 0 := by rw [u30.2.2.2.2.2.2, if_neg (fun z => absurd z.1 (by decide))]; exact F29_2_2_lK
  have F30_2_1_lK : q_fd x30 2 1 lK = .ref (q_z0 x) := by rw [u30.2.2.2.2.2.2, if_neg (fun z => absurd z.1 (by decide))]; exact F29_2_1_lK
  have F30_0_1_B : q_fd x30 0 1 B = .ref lK := by rw [u30.2.2.2.2.2.2, if_neg (fun z => absurd z.1 (by decide))]; exact F29_0_1_B
  have F30_3_1_jou : q_fd x30 3 1 jou = .int 0 := by rw [u30.2.2.2.2.2.2, if_neg (fun z => absurd z.1 (by decide))]; exact F29_3_1_jou
  have F30_3_0_jou : q_fd x30 3 0 jou = .ref rg := by rw [u30.2.2.2.2.2.2, if_neg (fun z => absurd z.1 (by decide))]; exact F29_3_0_jou
  have F30_0_2_B : q_fd x30 0 2 B = .ref jou := by rw [u30.2.2.2.2.2.2, if_neg (fun z => absurd z.1 (by decide))]; exact F29_0_2_B
  have F30_2_0_lB : q_fd x30 2 0 lB = .int 0 := by rw [u30.2.2.2.2.2.2, if_neg (fun z => absurd z.1 (by decide))]; exact F29_2_0_lB
  have F30_2_2_lB : q_fd x30 2 2 lB = .int 0 := by rw [u30.2.2.2.2.2.2, if_neg (fun z => absurd z.1 (by decide))]; exact F29_2_2_lB
  have F30_2_1_lB : q_fd x30 2 1 lB = .ref (q_z0 x) := by rw [u30.2.2.2.2.2.2, if_neg (fun z => absurd z.1 (by decide))]; exact F29_2_1_lB
  have F30_4_2_wor : q_fd x30 4 2 wor = .ref lB := by rw [u30.2.2.2.2.2.2, if_neg (fun z => absurd z.1 (by decide))]; exact F29_4_2_wor
  have F30_4_0_wor : q_fd x30 4 0 wor = .ref cat := by rw [u30.2.2.2.2.2.2, if_neg (fun z => absurd z.1 (by decide))]; exact F29_4_0_wor
  have F30_4_1_wor : q_fd x30 4 1 wor = .ref jou := by rw [u30.2.2.2.2.2.2, if_neg (fun z => absurd z.1 (by decide))]; exact F29_4_1_wor
  have F30_0_3_B : q_fd x30 0 3 B = .ref wor := by rw [u30.2.2.2.2.2.2, if_neg (fun z => absurd z.1 (by decide))]; exact F29_0_3_B
  have F30_2_0_lC : q_fd x30 2 0 lC = .int 0 := by rw [u30.2.2.2.2.2.2, if_neg (fun z => absurd z.1 (by decide))]; exact F29_2_0_lC
  have F30_2_2_lC : q_fd x30 2 2 lC = .int 0 := by rw [u30.2.2.2.2.2.2, if_neg (fun z => absurd z.1 (by decide))]; exact F29_2_2_lC
  have F30_2_1_lC : q_fd x30 2 1 lC = .ref (q_z0 x) := by rw [u30.2.2.2.2.2.2, if_neg (fun z => absurd z.1 (by decide))]; exact F29_2_1_lC
  have I30_1_kd : q_ai x30 1 kd = some (6, kn0) := by rw [u30.2.2.2.1]; exact I29_1_kd
  have I30_3_rg : q_ai x30 3 rg = some (32, fun _ => 0) := by rw [u30.2.2.2.1]; exact I29_3_rg
  have E30 : q_en x30 = q_en x := (u30.2.2.2.2.2.1).trans E29
  have R30 : q_ar x30 = q_ar x := (u30.2.2.2.2.1).trans R29
  have W30 : wf x30 := wf_uF W29 u30
  have z30 : q_sz x30 = s + 10 := u30.1.trans z29
  have t30 : q_sl x30 = m0 + 62 := u30.2.1.trans t29
  have F30_5_3_she : q_fd x30 5 3 she = .ref lC := (u30.2.2.2.2.2.2 5 3 she).trans (if_pos ⟨rfl, rfl, rfl⟩)
  refine st_nO (fun x31 u31 => ?_)
  obtain ⟨lO, h_lO⟩ : ∃ z, z = q_sz x30 := ⟨_, rfl⟩
  have f_u31 := u31
  unfold uN at u31
  rw [← h_lO] at u31 ⊢
  have v_lO : lO = s + 10 := h_lO.trans z30
  have A31_0_B : q_al x31 0 B = true := by rw [u31.2.2.2.2.2.1, if_neg (fun z => absurd z.1 (by decide))]; exact A30_0_B
  have A31_1_cat : q_al x31 1 cat = true := by rw [u31.2.2.2.2.2.1, if_neg (fun z => absurd z.1 (by decide))]; exact A30_1_cat
  have A31_2_lD : q_al x31 2 lD = true := by rw [u31.2.2.2.2.2.1, if_neg (fun z => (fun z => absurd (Nat.add_left_cancel ((v_lD.symm.trans z).trans v_lO)) (by decide)) z.2)]; exact A30_2_lD
  have A31_2_lK : q_al x31 2 lK = true := by rw [u31.2.2.2.2.2.1, if_neg (fun z => (fun z => absurd (Nat.add_left_cancel ((v_lK.symm.trans z).trans v_lO)) (by decide)) z.2)]; exact A30_2_lK
  have A31_3_jou : q_al x31 3 jou = true := by rw [u31.2.2.2.2.2.1, if_neg (fun z => absurd z.1 (by decide))]; exact A30_3_jou
  have A31_4_wor : q_al x31 4 wor = true := by rw [u31.2.2.2.2.2.1, if_neg (fun z => absurd z.1 (by decide))]; exact A30_4_wor
  have A31_2_lB : q_al x31 2 lB = true := by rw [u31.2.2.2.2.2.1, if_neg (fun z => (fun z => absurd (Nat.add_left_cancel ((v_lB.symm.trans z).trans v_lO)) (by decide)) z.2)]; exact A30_2_lB
  have A31_5_she : q_al x31 5 she = true := by rw [u31.2.2.2.2.2.1, if_neg (fun z => absurd z.1 (by decide))]; exact A30_5_she
  have A31_2_lC : q_al x31 2 lC = true := by rw [u31.2.2.2.2.2.1, if_neg (fun z => (fun z => absurd (Nat.add_left_cancel ((v_lC.symm.trans z).trans v_lO)) (by decide)) z.2)]; exact A30_2_lC
  have F31_0_5_B : q_fd x31 0 5 B = .int 0 := by rw [u31.2.2.2.2.2.2, if_neg (fun z => absurd z.1 (by decide))]; exact F30_0_5_B
  have F31_1_0_cat : q_fd x31 1 0 cat = .ref kd := by rw [u31.2.2.2.2.2.2, if_neg (fun z => absurd z.1 (by decide))]; exact F30_1_0_cat
  have F31_2_0_lD : q_fd x31 2 0 lD = .int 0 := by rw [u31.2.2.2.2.2.2, if_neg (fun z => (fun z => absurd (Nat.add_left_cancel ((v_lD.symm.trans z).trans v_lO)) (by decide)) z.2)]; exact F30_2_0_lD
  have F31_2_2_lD : q_fd x31 2 2 lD = .int 0 := by rw [u31.2.2.2.2.2.2, if_neg (fun z => (fun z => absurd (Nat.add_left_cancel ((v_lD.symm.trans z).trans v_lO)) (by decide)) z.2)]; exact F30_2_2_lD
  have F31_2_1_lD : q_fd x31 2 1 lD = .ref (q_z0 x) := by rw [u31.2.2.2.2.2.2, if_neg (fun z => (fun z => absurd (Nat.add_left_cancel ((v_lD.symm.trans z).trans v_lO)) (by decide)) z.2)]; exact F30_2_1_lD
  have F31_1_1_cat : q_fd x31 1 1 cat = .ref lD := by rw [u31.2.2.2.2.2.2, if_neg (fun z => absurd z.1 (by decide))]; exact F30_1_1_cat
  have F31_0_0_B : q_fd x31 0 0 B = .ref cat := by rw [u31.2.2.2.2.2.2, if_neg (fun z => absurd z.1 (by decide))]; exact F30_0_0_B
  have F31_2_0_lK : q_fd x31 2 0 lK = .int 0 := by rw [u31.2.2.2.2.2.2, if_neg (fun z => (fun z => absurd (Nat.add_left_cancel ((v_lK.symm.trans z).trans v_lO)) (by decide)) z.2)]; exact F30_2_0_lK
  have F31_2_2_lK : q_fd x31 2 2 lK = .int 0 := by rw [u31.2.2.2.2.2.2, if_neg (fun z => (fun z => absurd (Nat.add_left_cancel ((v_lK.symm.trans z).trans v_lO)) (by decide)) z.2)]; exact F30_2_2_lK
  have F31_2_1_lK : q_fd x31 2 1 lK = .ref (q_z0 x) := by rw [u31.2.2.2.2.2.2, if_neg (fun z => (fun z => absurd (Nat.add_left_cancel ((v_lK.symm.trans z).trans v_lO)) (by decide)) z.2)]; exact F30_2_1_lK
  have F31_0_1_B : q_fd x31 0 1 B = .ref lK := by rw [u31.2.2.2.2.2.2, if_neg (fun z => absurd z.1 (by decide))]; exact F30_0_1_B
  have F31_3_1_jou : q_fd x31 3 1 jou = .int 0 := by rw [u31.2.2.2.2.2.2, if_neg (fun z => absurd z.1 (by decide))]; exact F30_3_1_jou
  have F31_3_0_jou : q_fd x31 3 0 jou = .ref rg := by rw [u31.2.2.2.2.2.2, if_neg (fun z => absurd z.1 (by decide))]; exact F30_3_0_jou
  have F31_0_2_B : q_fd x31 0 2 B = .ref jou := by rw [u31.2.2.2.2.2.2, if_neg (fun z => absurd z.1 (by decide))]; exact F30_0_2_B
  have F31_2_0_lB : q_fd x31 2 0 lB = .int 0 := by rw [u31.2.2.2.2.2.2, if_neg (fun z => (fun z => absurd (Nat.add_left_cancel ((v_lB.symm.trans z).trans v_lO)) (by decide)) z.2)]; exact F30_2_0_lB
  have F31_2_2_lB : q_fd x31 2 2 lB = .int 0 := by rw [u31.2.2.2.2.2.2, if_neg (fun z => (fun z => absurd (Nat.add_left_cancel ((v_lB.symm.trans z).trans v_lO)) (by decide)) z.2)]; exact F30_2_2_lB
  have F31_2_1_lB : q_fd x31 2 1 lB = .ref (q_z0 x) := by rw [u31.2.2.2.2.2.2, if_neg (fun z => (fun z => absurd (Nat.add_left_cancel ((v_lB.symm.trans z).trans v_lO)) (by decide)) z.2)]; exact F30_2_1_lB
  have F31_4_2_wor : q_fd x31 4 2 wor = .ref lB := by rw [u31.2.2.2.2.2.2, if_neg (fun z => absurd z.1 (by decide))]; exact F30_4_2_wor
  have F31_4_0_wor : q_fd x31 4 0 wor = .ref cat := by rw [u31.2.2.2.2.2.2, if_neg (fun z => absurd z.1 (by decide))]; exact F30_4_0_wor
  have F31_4_1_wor : q_fd x31 4 1 wor = .ref jou := by rw [u31.2.2.2.2.2.2, if_neg (fun z => absurd z.1 (by decide))]; exact F30_4_1_wor
  have F31_0_3_B : q_fd x31 0 3 B = .ref wor := by rw [u31.2.2.2.2.2.2, if_neg (fun z => absurd z.1 (by decide))]; exact F30_0_3_B
  have F31_2_0_lC : q_fd x31 2 0 lC = .int 0 := by rw [u31.2.2.2.2.2.2, if_neg (fun z => (fun z => absurd (Nat.add_left_cancel ((v_lC.symm.trans z).trans v_lO)) (by decide)) z.2)]; exact F30_2_0_lC
  have F31_2_2_lC : q_fd x31 2 2 lC = .int 0 := by rw [u31.2.2.2.2.2.2, if_neg (fun z => (fun z => absurd (Nat.add_left_cancel ((v_lC.symm.trans z).trans v_lO)) (by decide)) z.2)]; exact F30_2_2_lC
  have F31_2_1_lC : q_fd x31 2 1 lC = .ref (q_z0 x) := by rw [u31.2.2.2.2.2.2, if_neg (fun z => (fun z => absurd (Nat.add_left_cancel ((v_lC.symm.trans z).trans v_lO)) (by decide)) z.2)]; exact F30_2_1_lC
  have F31_5_3_she : q_fd x31 5 3 she = .ref lC := by rw [u31.2.2.2.2.2.2, if_neg (fun z => absurd z.1 (by decide))]; exact F30_5_3_she
  have I31_1_kd : q_ai x31 1 kd = some (6, kn0) := by rw [u31.2.2.1]; exact I30_1_kd
  have I31_3_rg : q_ai x31 3 rg = some (32, fun _ => 0) := by rw [u31.2.2.1]; exact I30_3_rg
  have E31 : q_en x31 = q_en x := (u31.2.2.2.2.1).trans E30
  have R31 : q_ar x31 = q_ar x := (u31.2.2.2.1).trans R30
  have W31 : wf x31 := wf_uN W30 f_u31
  have z31 : q_sz x31 = s + 11 := by rw [u31.1, v_lO]
  have t31 : q_sl x31 = m0 + 65 := by rw [u31.2.1, t30]; rfl
  have A31_2_lO : q_al x31 2 lO = true := by rw [u31.2.2.2.2.2.1, if_pos ⟨rfl, rfl⟩]
  have F31_2_0_lO : q_fd x31 2 0 lO = .int 0 := by rw [u31.2.2.2.2.2.2, if_pos ⟨rfl, rfl⟩]; rfl
  have F31_2_2_lO : q_fd x31 2 2 lO = .int 0 := by rw [u31.2.2.2.2.2.2, if_pos ⟨rfl, rfl⟩]; rfl
  try simp only [jf_AL_init, jf_AbL_init, jf_AbC_init, Option.bind_assoc, Option.bind_some]
  refine st_pI A31_2_lO (fun x32 u32 => ?_)
  have A32_0_B : q_al x32 0 B = true := by rw [u32.2.2.1]; exact A31_0_B
  have A32_1_cat : q_al x32 1 cat = true := by rw [u32.2.2.1]; exact A31_1_cat
  have A32_2_lD : q_al x32 2 lD = true := by rw [u32.2.2.1]; exact A31_2_lD
  have A32_2_lK : q_al x32 2 lK = true := by rw [u32.2.2.1]; exact A31_2_lK
  have A32_3_jou : q_al x32 3 jou = true := by rw [u32.2.2.1]; exact A31_3_jou
  have A32_4_wor : q_al x32 4 wor = true := by rw [u32.2.2.1]; exact A31_4_wor
  have A32_2_lB : q_al x32 2 lB = true := by rw [u32.2.2.1]; exact A31_2_lB
  have A32_5_she : q_al x32 5 she = true := by rw [u32.2.2.1]; exact A31_5_she
  have A32_2_lC : q_al x32 2 lC = true := by rw [u32.2.2.1]; exact A31_2_lC
  have A32_2_lO : q_al x32 2 lO = true := by rw [u32.2.2.1]; exact A31_2_lO
  have F32_0_5_B : q_fd x32 0 5 B = .int 0 := by rw [u32.2.2.2.2.2.2, if_neg (fun z => absurd z.1 (by decide))]; exact F31_0_5_B
  have F32_1_0_cat : q_fd x32 1 0 cat = .ref kd := by rw [u32.2.2.2.2.2.2, if_neg (fun z => absurd z.1 (by decide))]; exact F31_1_0_cat
  have F32_2_0_lD : q_fd x32 2 0 lD = .int 0 := by rw [u32.2.2.2.2.2.2, if_neg (fun z => (fun z => absurd (Nat.add_left_cancel ((v_lD.symm.trans z).trans v_lO)) (by decide)) z.2.2)]; exact F31_2_0_lD
  have F32_2_2_lD : q_fd x32 2 2 lD = .int 0 := by rw [u32.2.2.2.2.2.2, if_neg (fun z => absurd z.2.1 (by decide))]; exact F31_2_2_lD
  have F32_2_1_lD : q_fd x32 2 1 lD = .ref (q_z0 x) := by rw [u32.2.2.2.2.2.2, if_neg (fun z => absurd z.2.1 (by decide))]; exact F31_2_1_lD
  have F32_1_1_cat : q_fd x32 1 1 cat = .ref lD := by rw [u32.2.2.2.2.2.2, if_neg (fun z => absurd z.1 (by decide))]; exact F31_1_1_cat
  have F32_0_0_B : q_fd x32 0 0 B = .ref cat := by rw [u32.2.2.2.2.2.2, if_neg (fun z => absurd z.1 (by decide))]; exact F31_0_0_B
  have F32_2_0_lK : q_fd x32 2 0 lK = .int 0 := by rw [u32.2.2.2.2.2.2, if_neg (fun z => (fun z => absurd (Nat.add_left_cancel ((v_lK.symm.trans z).trans v_lO)) (by decide)) z.2.2)]; exact F31_2_0_lK
  have F32_2_2_lK : q_fd x32 2 2 lK = .int 0 := by rw [u32.2.2.2.2.2.2, if_neg (fun z => absurd z.2.1 (by decide))]; exact F31_2_2_lK
  have F32_2_1_lK : q_fd x32 2 1 lK = .ref (q_z0 x) := by rw [u32.2.2.2.2.2.2, if_neg (fun z => absurd z.2.1 (by decide))]; exact F31_2_1_lK
  have F32_0_1_B : q_fd x32 0 1 B = .ref lK := by rw [u32.2.2.2.2.2.2, if_neg (fun z => absurd z.1 (by decide))]; exact F31_0_1_B
  have F32_3_1_jou : q_fd x32 3 1 jou = .int 0 := by rw [u32.2.2.2.2.2.2, if_neg (fun z => absurd z.1 (by decide))]; exact F31_3_1_jou
  have F32_3_0_jou : q_fd x32 3 0 jou = .ref rg := by rw [u32.2.2.2.2.2.2, if_neg (fun z => absurd z.1 (by decide))]; exact F31_3_0_jou
  have F32_0_2_B : q_fd x32 0 2 B = .ref jou := by rw [u32.2.2.2.2.2.2, if_neg (fun z => absurd z.1 (by decide))]; exact F31_0_2_B
  have F32_2_0_lB : q_fd x32 2 0 lB = .int 0 := by rw [u32.2.2.2.2.2.2, if_neg (fun z => (fun z => absurd (Nat.add_left_cancel ((v_lB.symm.trans z).trans v_lO)) (by decide)) z.2.2)]; exact F31_2_0_lB
  have F32_2_2_lB : q_fd x32 2 2 lB = .int 0 := by rw [u32.2.2.2.2.2.2, if_neg (fun z => absurd z.2.1 (by decide))]; exact F31_2_2_lB
  have F32_2_1_lB : q_fd x32 2 1 lB = .ref (q_z0 x) := by rw [u32.2.2.2.2.2.2, if_neg (fun z => absurd z.2.1 (by decide))]; exact F31_2_1_lB
  have F32_4_2_wor : q_fd x32 4 2 wor = .ref lB := by rw [u32.2.2.2.2.2.2, if_neg (fun z => absurd z.1 (by decide))]; exact F31_4_2_wor
  have F32_4_0_wor : q_fd x32 4 0 wor = .ref cat := by rw [u32.2.2.2.2.2.2, if_neg (fun z => absurd z.1 (by decide))]; exact F31_4_0_wor
  have F32_4_1_wor : q_fd x32 4 1 wor = .ref jou := by rw [u32.2.2.2.2.2.2, if_neg (fun z => absurd z.1 (by decide))]; exact F31_4_1_wor
  have F32_0_3_B : q_fd x32 0 3 B = .ref wor := by rw [u32.2.2.2.2.2.2, if_neg (fun z => absurd z.1 (by decide))]; exact F31_0_3_B
  have F32_2_0_lC : q_fd x32 2 0 lC = .int 0 := by rw [u32.2.2.2.2.2.2, if_neg (fun z => (fun z => absurd (Nat.add_left_cancel ((v_lC.symm.trans z).trans v_lO)) (by decide)) z.2.2)]; exact F31_2_0_lC
  have F32_2_2_lC : q_fd x32 2 2 lC = .int 0 := by rw [u32.2.2.2.2.2.2, if_neg (fun z => absurd z.2.1 (by decide))]; exact F31_2_2_lC
  have F32_2_1_lC : q_fd x32 2 1 lC = .ref (q_z0 x) := by rw [u32.2.2.2.2.2.2, if_neg (fun z => absurd z.2.1 (by decide))]; exact F31_2_1_lC
  have F32_5_3_she : q_fd x32 5 3 she = .ref lC := by rw [u32.2.2.2.2.2.2, if_neg (fun z => absurd z.1 (by decide))]; exact F31_5_3_she
  have F32_2_2_lO : q_fd x32 2 2 lO = .int 0 := by rw [u32.2.2.2.2.2.2, if_neg (fun z => absurd z.2.1 (by decide))]; exact F31_2_2_lO
  have I32_1_kd : q_ai x32 1 kd = some (6, kn0) := by rw [u32.2.2.2.1]; exact I31_1_kd
  have I32_3_rg : q_ai x32 3 rg = some (32, fun _ => 0) := by rw [u32.2.2.2.1]; exact I31_3_rg
  have E32 : q_en x32 = q_en x := (u32.2.2.2.2.2.1).trans E31
  have R32 : q_ar x32 = q_ar x := (u32.2.2.2.2.1).trans R31
  have W32 : wf x32 := wf_uF W31 u32
  have z32 : q_sz x32 = s + 11 := u32.1.trans z31
  have t32 : q_sl x32 = m0 + 65 := u32.2.1.trans t31
  have F32_2_0_lO : q_fd x32 2 0 lO = .int 0 := (u32.2.2.2.2.2.2 2 0 lO).trans (if_pos ⟨rfl, rfl, rfl⟩)
  refine st_pR A32_2_lO (fun x33 u33 => ?_)
  have A33_0_B : q_al x33 0 B = true := by rw [u33.2.2.1]; exact A32_0_B
  have A33_1_cat : q_al x33 1 cat = true := by rw [u33.2.2.1]; exact A32_1_cat
  have A33_2_lD : q_al x33 2 lD = true := by rw [u33.2.2.1]; exact A32_2_lD
  have A33_2_lK : q_al x33 2 lK = true := by rw [u33.2.2.1]; exact A32_2_lK
  have A33_3_jou : q_al x33 3 jou = true := by rw [u33.2.2.1]; exact A32_3_jou
  have A33_4_wor : q_al x33 4 wor = true := by rw [u33.2.2.1]; exact A32_4_wor
  have A33_2_lB : q_al x33 2 lB = true := by rw [u33.2.2.1]; exact A32_2_lB
  have A33_5_she : q_al x33 5 she = true := by rw [u33.2.2.1]; exact A32_5_she
  have A33_2_lC : q_al x33 2 lC = true := by rw [u33.2.2.1]; exact A32_2_lC
  have A33_2_lO : q_al x33 2 lO = true := by rw [u33.2.2.1]; exact A32_2_lO
  have F33_0_5_B : q_fd x33 0 5 B = .int 0 := by rw [u33.2.2.2.2.2.2, if_neg (fun z => absurd z.1 (by decide))]; exact F32_0_5_B
  have F33_1_0_cat : q_fd x33 1 0 cat = .ref kd := by rw [u33.2.2.2.2.2.2, if_neg (fun z => absurd z.1 (by decide))]; exact F32_1_0_cat
  have F33_2_0_lD : q_fd x33 2 0 lD = .int 0 := by rw [u33.2.2.2.2.2.2, if_neg (fun z => absurd z.2.1 (by decide))]; exact F32_2_0_lD
  have F33_2_2_lD : q_fd x33 2 2 lD = .int 0 := by rw [u33.2.2.2.2.2.2, if_neg (fun z => absurd z.2.1 (by decide))]; exact F32_2_2_lD
  have F33_2_1_lD : q_fd x33 2 1 lD = .ref (q_z0 x) := by rw [u33.2.2.2.2.2.2, if_neg (fun z => (fun z => absurd (Nat.add_left_cancel ((v_lD.symm.trans z).trans v_lO)) (by decide)) z.2.2)]; exact F32_2_1_lD
  have F33_1_1_cat : q_fd x33 1 1 cat = .ref lD := by rw [u33.2.2.2.2.2.2, if_neg (fun z => absurd z.1 (by decide))]; exact F32_1_1_cat
  have F33_0_0_B : q_fd x33 0 0 B = .ref cat := by rw [u33.2.2.2.2.2.2, if_neg (fun z => absurd z.1 (by decide))]; exact F32_0_0_B
  have F33_2_0_lK : q_fd x33 2 0 lK = .int 0 := by rw [u33.2.2.2.2.2.2, if_neg (fun z => absurd z.2.1 (by decide))]; exact F32_2_0_lK
  have F33_2_2_lK : q_fd x33 2 2 lK = .int 0 := by rw [u33.2.2.2.2.2.2, if_neg (fun z => absurd z.2.1 (by decide))]; exact F32_2_2_lK
  have F33_2_1_lK : q_fd x33 2 1 lK = .ref (q_z0 x) := by rw [u33.2.2.2.2.2.2, if_neg (fun z => (fun z => absurd (Nat.add_left_cancel ((v_lK.symm.trans z).trans v_lO)) (by decide)) z.2.2)]; exact F32_2_1_lK
  have F33_0_1_B : q_fd x33 0 1 B = .ref lK := by rw [u33.2.2.2.2.2.2, if_neg (fun z => absurd z.1 (by decide))]; exact F32_0_1_B
  have F33_3_1_jou : q_fd x33 3 1 jou = .int 0 := by rw [u33.2.2.2.2.2.2, if_neg (fun z => absurd z.1 (by decide))]; exact F32_3_1_jou
  have F33_3_0_jou : q_fd x33 3 0 jou = .ref rg := by rw [u33.2.2.2.2.2.2, if_neg (fun z => absurd z.1 (by decide))]; exact F32_3_0_jou
  have F33_0_2_B : q_fd x33 0 2 B = .ref jou := by rw [u33.2.2.2.2.2.2, if_neg (fun z => absurd z.1 (by decide))]; exact F32_0_2_B
  have F33_2_0_lB : q_fd x33 2 0 lB = .int 0 := by rw [u33.2.2.2.2.2.2, if_neg (fun z => absurd z.2.1 (by decide))]; exact F32_2_0_lB
  have F33_2_2_lB : q_fd x33 2 2 lB = .int 0 := by rw [u33.2.2.2.2.2.2, if_neg (fun z => absurd z.2.1 (by decide))]; exact F32_2_2_lB
  have F33_2_1_lB : q_fd x33 2 1 lB = .ref (q_z0 x) := by rw [u33.2.2.2.2.2.2, if_neg (fun z => (fun z => absurd (Nat.add_left_cancel ((v_lB.symm.trans z).trans v_lO)) (by decide)) z.2.2)]; exact F32_2_1_lB
  have F33_4_2_wor : q_fd x33 4 2 wor = .ref lB := by rw [u33.2.2.2.2.2.2, if_neg (fun z => absurd z.1 (by decide))]; exact F32_4_2_wor
  have F33_4_0_wor : q_fd x33 4 0 wor = .ref cat := by rw [u33.2.2.2.2.2.2, if_neg (fun z => absurd z.1 (by decide))]; exact F32_4_0_wor
  have F33_4_1_wor : q_fd x33 4 1 wor = .ref jou := by rw [u33.2.2.2.2.2.2, if_neg (fun z => absurd z.1 (by decide))]; exact F32_4_1_wor
  have F33_0_3_B : q_fd x33 0 3 B = .ref wor := by rw [u33.2.2.2.2.2.2, if_neg (fun z => absurd z.1 (by decide))]; exact F32_0_3_B
  have F33_2_0_lC : q_fd x33 2 0 lC = .int 0 := by rw [u33.2.2.2.2.2.2, if_neg (fun z => absurd z.2.1 (by decide))]; exact F32_2_0_lC
  have F33_2_2_lC : q_fd x33 2 2 lC = .int 0 := by rw [u33.2.2.2.2.2.2, if_neg (fun z => absurd z.2.1 (by decide))]; exact F32_2_2_lC
  have F33_2_1_lC : q_fd x33 2 1 lC = .ref (q_z0 x) := by rw [u33.2.2.2.2.2.2, if_neg (fun z => (fun z => absurd (Nat.add_left_cancel ((v_lC.symm.trans z).trans v_lO)) (by decide)) z.2.2)]; exact F32_2_1_lC
  have F33_5_3_she : q_fd x33 5 3 she = .ref lC := by rw [u33.2.2.2.2.2.2, if_neg (fun z => absurd z.1 (by decide))]; exact F32_5_3_she
  have F33_2_0_lO : q_fd x33 2 0 lO = .int 0 := by rw [u33.2.2.2.2.2.2, if_neg (fun z => absurd z.2.1 (by decide))]; exact F32_2_0_lO
  have F33_2_2_lO : q_fd x33 2 2 lO = .int 0 := by rw [u33.2.2.2.2.2.2, if_neg (fun z => absurd z.2.1 (by decide))]; exact F32_2_2_lO
  have I33_1_kd : q_ai x33 1 kd = some (6, kn0) := by rw [u33.2.2.2.1]; exact I32_1_kd
  have I33_3_rg : q_ai x33 3 rg = some (32, fun _ => 0) := by rw [u33.2.2.2.1]; exact I32_3_rg
  have E33 : q_en x33 = q_en x := (u33.2.2.2.2.2.1).trans E32
  have R33 : q_ar x33 = q_ar x := (u33.2.2.2.2.1).trans R32
  have W33 : wf x33 := wf_uF W32 u33
  have z33 : q_sz x33 = s + 11 := u33.1.trans z32
  have t33 : q_sl x33 = m0 + 65 := u33.2.1.trans t32
  have F33_2_1_lO : q_fd x33 2 1 lO = .ref (q_z0 x32) := (u33.2.2.2.2.2.2 2 1 lO).trans (if_pos ⟨rfl, rfl, rfl⟩)
  rw [q_z0_en E32] at F33_2_1_lO
  refine st_pR A33_5_she (fun x34 u34 => ?_)
  have A34_0_B : q_al x34 0 B = true := by rw [u34.2.2.1]; exact A33_0_B
  have A34_1_cat : q_al x34 1 cat = true := by rw [u34.2.2.1]; exact A33_1_cat
  have A34_2_lD : q_al x34 2 lD = true := by rw [u34.2.2.1]; exact A33_2_lD
  have A34_2_lK : q_al x34 2 lK = true := by rw [u34.2.2.1]; exact A33_2_lK
  have A34_3_jou : q_al x34 3 jou = true := by rw [u34.2.2.1]; exact A33_3_jou
  have A34_4_wor : q_al x34 4 wor = true := by rw [u34.2.2.1]; exact A33_4_wor
  have A34_2_lB : q_al x34 2 lB = true := by rw [u34.2.2.1]; exact A33_2_lB
  have A34_5_she : q_al x34 5 she = true := by rw [u34.2.2.1]; exact A33_5_she
  have A34_2_lC : q_al x34 2 lC = true := by rw [u34.2.2.1]; exact A33_2_lC
  have A34_2_lO : q_al x34 2 lO = true := by rw [u34.2.2.1]; exact A33_2_lO
  have F34_0_5_B : q_fd x34 0 5 B = .int 0 := by rw [u34.2.2.2.2.2.2, if_neg (fun z => absurd z.1 (by decide))]; exact F33_0_5_B
  have F34_1_0_cat : q_fd x34 1 0 cat = .ref kd := by rw [u34.2.2.2.2.2.2, if_neg (fun z => absurd z.1 (by decide))]; exact F33_1_0_cat
  have F34_2_0_lD : q_fd x34 2 0 lD = .int 0 := by rw [u34.2.2.2.2.2.2, if_neg (fun z => absurd z.1 (by decide))]; exact F33_2_0_lD
  have F34_2_2_lD : q_fd x34 2 2 lD = .int 0 := by rw [u34.2.2.2.2.2.2, if_neg (fun z => absurd z.1 (by decide))]; exact F33_2_2_lD
  have F34_2_1_lD : q_fd x34 2 1 lD = .ref (q_z0 x) := by rw [u34.2.2.2.2.2.2, if_neg (fun z => absurd z.1 (by decide))]; exact F33_2_1_lD
  have F34_1_1_cat : q_fd x34 1 1 cat = .ref lD := by rw [u34.2.2.2.2.2.2, if_neg (fun z => absurd z.1 (by decide))]; exact F33_1_1_cat
  have F34_0_0_B : q_fd x34 0 0 B = .ref cat := by rw [u34.2.2.2.2.2.2, if_neg (fun z => absurd z.1 (by decide))]; exact F33_0_0_B
  have F34_2_0_lK : q_fd x34 2 0 lK = .int 0 := by rw [u34.2.2.2.2.2.2, if_neg (fun z => absurd z.1 (by decide))]; exact F33_2_0_lK
  have F34_2_2_lK : q_fd x34 2 2 lK = .int 0 := by rw [u34.2.2.2.2.2.2, if_neg (fun z => absurd z.1 (by decide))]; exact F33_2_2_lK
  have F34_2_1_lK : q_fd x34 2 1 lK = .ref (q_z0 x) := by rw [u34.2.2.2.2.2.2, if_neg (fun z => absurd z.1 (by decide))]; exact F33_2_1_lK
  have F34_0_1_B : q_fd x34 0 1 B = .ref lK := by rw [u34.2.2.2.2.2.2, if_neg (fun z => absurd z.1 (by decide))]; exact F33_0_1_B
  have F34_3_1_jou : q_fd x34 3 1 jou = .int 0 := by rw [u34.2.2.2.2.2.2, if_neg (fun z => absurd z.1 (by decide))]; exact F33_3_1_jou
  have F34_3_0_jou : q_fd x34 3 0 jou = .ref rg := by rw [u34.2.2.2.2.2.2, if_neg (fun z => absurd z.1 (by decide))]; exact F33_3_0_jou
  have F34_0_2_B : q_fd x34 0 2 B = .ref jou := by rw [u34.2.2.2.2.2.2, if_neg (fun z => absurd z.1 (by decide))]; exact F33_0_2_B
  have F34_2_0_lB : q_fd x34 2 0 lB = .int 0 := by rw [u34.2.2.2.2.2.2, if_neg (fun z => absurd z.1 (by decide))]; exact F33_2_0_lB
  have F34_2_2_lB : q_fd x34 2 2 lB = .int 0 := by rw [u34.2.2.2.2.2.2, if_neg (fun z => absurd z.1 (by decide))]; exact F33_2_2_lB
  have F34_2_1_lB : q_fd x34 2 1 lB = .ref (q_z0 x) := by rw [u34.2.2.2.2.2.2, if_neg (fun z => absurd z.1 (by decide))]; exact F33_2_1_lB
  have F34_4_2_wor : q_fd x34 4 2 wor = .ref lB := by rw [u34.2.2.2.2.2.2, if_neg (fun z => absurd z.1 (by decide))]; exact F33_4_2_wor
  have F34_4_0_wor : q_fd x34 4 0 wor = .ref cat := by rw [u34.2.2.2.2.2.2, if_neg (fun z => absurd z.1 (by decide))]; exact F33_4_0_wor
  have F34_4_1_wor : q_fd x34 4 1 wor = .ref jou := by rw [u34.2.2.2.2.2.2, if_neg (fun z => absurd z.1 (by decide))]; exact F33_4_1_wor
  have F34_0_3_B : q_fd x34 0 3 B = .ref wor := by rw [u34.2.2.2.2.2.2, if_neg (fun z => absurd z.1 (by decide))]; exact F33_0_3_B
  have F34_2_0_lC : q_fd x34 2 0 lC = .int 0 := by rw [u34.2.2.2.2.2.2, if_neg (fun z => absurd z.1 (by decide))]; exact F33_2_0_lC
  have F34_2_2_lC : q_fd x34 2 2 lC = .int 0 := by rw [u34.2.2.2.2.2.2, if_neg (fun z => absurd z.1 (by decide))]; exact F33_2_2_lC
  have F34_2_1_lC : q_fd x34 2 1 lC = .ref (q_z0 x) := by rw [u34.2.2.2.2.2.2, if_neg (fun z => absurd z.1 (by decide))]; exact F33_2_1_lC
  have F34_5_3_she : q_fd x34 5 3 she = .ref lC := by rw [u34.2.2.2.2.2.2, if_neg (fun z => absurd z.2.1 (by decide))]; exact F33_5_3_she
  have F34_2_0_lO : q_fd x34 2 0 lO = .int 0 := by rw [u34.2.2.2.2.2.2, if_neg (fun z => absurd z.1 (by decide))]; exact F33_2_0_lO
  have F34_2_2_lO : q_fd x34 2 2 lO = .int 0 := by rw [u34.2.2.2.2.2.2, if_neg (fun z => absurd z.1 (by decide))]; exact F33_2_2_lO
  have F34_2_1_lO : q_fd x34 2 1 lO = .ref (q_z0 x) := by rw [u34.2.2.2.2.2.2, if_neg (fun z => absurd z.1 (by decide))]; exact F33_2_1_lO
  have I34_1_kd : q_ai x34 1 kd = some (6, kn0) := by rw [u34.2.2.2.1]; exact I33_1_kd
  have I34_3_rg : q_ai x34 3 rg = some (32, fun _ => 0) := by rw [u34.2.2.2.1]; exact I33_3_rg
  have E34 : q_en x34 = q_en x := (u34.2.2.2.2.2.1).trans E33
  have R34 : q_ar x34 = q_ar x := (u34.2.2.2.2.1).trans R33
  have W34 : wf x34 := wf_uF W33 u34
  have z34 : q_sz x34 = s + 11 := u34.1.trans z33
  have t34 : q_sl x34 = m0 + 65 := u34.2.1.trans t33
  have F34_5_4_she : q_fd x34 5 4 she = .ref lO := (u34.2.2.2.2.2.2 5 4 she).trans (if_pos ⟨rfl, rfl, rfl⟩)
  refine st_pI A34_5_she (fun x35 u35 => ?_)
  have A35_0_B : q_al x35 0 B = true := by rw [u35.2.2.1]; exact A34_0_B
  have A35_1_cat : q_al x35 1 cat = true := by rw [u35.2.2.1]; exact A34_1_cat
  have A35_2_lD : q_al x35 2 lD = true := by rw [u35.2.2.1]; exact A34_2_lD
  have A35_2_lK : q_al x35 2 lK = true := by rw [u35.2.2.1]; exact A34_2_lK
  have A35_3_jou : q_al x35 3 jou = true := by rw [u35.2.2.1]; exact A34_3_jou
  have A35_4_wor : q_al x35 4 wor = true := by rw [u35.2.2.1]; exact A34_4_wor
  have A35_2_lB : q_al x35 2 lB = true := by rw [u35.2.2.1]; exact A34_2_lB
  have A35_5_she : q_al x35 5 she = true := by rw [u35.2.2.1]; exact A34_5_she
  have A35_2_lC : q_al x35 2 lC = true := by rw [u35.2.2.1]; exact A34_2_lC
  have A35_2_lO : q_al x35 2 lO = true := by rw [u35.2.2.1]; exact A34_2_lO
  have F35_0_5_B : q_fd x35 0 5 B = .int 0 := by rw [u35.2.2.2.2.2.2, if_neg (fun z => absurd z.1 (by decide))]; exact F34_0_5_B
  have F35_1_0_cat : q_fd x35 1 0 cat = .ref kd := by rw [u35.2.2.2.2.2.2, if_neg (fun z => absurd z.1 (by decide))]; exact F34_1_0_cat
  have F35_2_0_lD : q_fd x35 2 0 lD = .int 0 := by rw [u35.2.2.2.2.2.2, if_neg (fun z => absurd z.1 (by decide))]; exact F34_2_0_lD
  have F35_2_2_lD : q_fd x35 2 2 lD = .int 0 := by rw [u35.2.2.2.2.2.2, if_neg (fun z => absurd z.1 (by decide))]; exact F34_2_2_lD
  have F35_2_1_lD : q_fd x35 2 1 lD = .ref (q_z0 x) := by rw [u35.2.2.2.2.2.2, if_neg (fun z => absurd z.1 (by decide))]; exact F34_2_1_lD
  have F35_1_1_cat : q_fd x35 1 1 cat = .ref lD := by rw [u35.2.2.2.2.2.2, if_neg (fun z => absurd z.1 (by decide))]; exact F34_1_1_cat
  have F35_0_0_B : q_fd x35 0 0 B = .ref cat := by rw [u35.2.2.2.2.2.2, if_neg (fun z => absurd z.1 (by decide))]; exact F34_0_0_B
  have F35_2_0_lK : q_fd x35 2 0 lK = .int 0 := by rw [u35.2.2.2.2.2.2, if_neg (fun z => absurd z.1 (by decide))]; exact F34_2_0_lK
  have F35_2_2_lK : q_fd x35 2 2 lK = .int 0 := by rw [u35.2.2.2.2.2.2, if_neg (fun z => absurd z.1 (by decide))]; exact F34_2_2_lK
  have F35_2_1_lK : q_fd x35 2 1 lK = .ref (q_z0 x) := by rw [u35.2.2.2.2.2.2, if_neg (fun z => absurd z.1 (by decide))]; exact F34_2_1_lK
  have F35_0_1_B : q_fd x35 0 1 B = .ref lK := by rw [u35.2.2.2.2.2.2, if_neg (fun z => absurd z.1 (by decide))]; exact F34_0_1_B
  have F35_3_1_jou : q_fd x35 3 1 jou = .int 0 := by rw [u35.2.2.2.2.2.2, if_neg (fun z => absurd z.1 (by decide))]; exact F34_3_1_jou
  have F35_3_0_jou : q_fd x35 3 0 jou = .ref rg := by rw [u35.2.2.2.2.2.2, if_neg (fun z => absurd z.1 (by decide))]; exact F34_3_0_jou
  have F35_0_2_B : q_fd x35 0 2 B = .ref jou := by rw [u35.2.2.2.2.2.2, if_neg (fun z => absurd z.1 (by decide))]; exact F34_0_2_B
  have F35_2_0_lB : q_fd x35 2 0 lB = .int 0 := by rw [u35.2.2.2.2.2.2, if_neg (fun z => absurd z.1 (by decide))]; exact F34_2_0_lB
  have F35_2_2_lB : q_fd x35 2 2 lB = .int 0 := by rw [u35.2.2.2.2.2.2, if_neg (fun z => absurd z.1 (by decide))]; exact F34_2_2_lB
  have F35_2_1_lB : q_fd x35 2 1 lB = .ref (q_z0 x) := by rw [u35.2.2.2.2.2.2, if_neg (fun z => absurd z.1 (by decide))]; exact F34_2_1_lB
  have F35_4_2_wor : q_fd x35 4 2 wor = .ref lB := by rw [u35.2.2.2.2.2.2, if_neg (fun z => absurd z.1 (by decide))]; exact F34_4_2_wor
  have F35_4_0_wor : q_fd x35 4 0 wor = .ref cat := by rw [u35.2.2.2.2.2.2, if_neg (fun z => absurd z.1 (by decide))]; exact F34_4_0_wor
  have F35_4_1_wor : q_fd x35 4 1 wor = .ref jou := by rw [u35.2.2.2.2.2.2, if_neg (fun z => absurd z.1 (by decide))]; exact F34_4_1_wor
  have F35_0_3_B : q_fd x35 0 3 B = .ref wor := by rw [u35.2.2.2.2.2.2, if_neg (fun z => absurd z.1 (by decide))]; exact F34_0_3_B
  have F35_2_0_lC : q_fd x35 2 0 lC = .int 0 := by rw [u35.2.2.2.2.2.2, if_neg (fun z => absurd z.1 (by decide))]; exact F34_2_0_lC
  have F35_2_2_lC : q_fd x35 2 2 lC = .int 0 := by rw [u35.2.2.2.2.2.2, if_neg (fun z => absurd z.1 (by decide))]; exact F34_2_2_lC
  have F35_2_1_lC : q_fd x35 2 1 lC = .ref (q_z0 x) := by rw [u35.2.2.2.2.2.2, if_neg (fun z => absurd z.1 (by decide))]; exact F34_2_1_lC
  have F35_5_3_she : q_fd x35 5 3 she = .ref lC := by rw [u35.2.2.2.2.2.2, if_neg (fun z => absurd z.2.1 (by decide))]; exact F34_5_3_she
  have F35_2_0_lO : q_fd x35 2 0 lO = .int 0 := by rw [u35.2.2.2.2.2.2, if_neg (fun z => absurd z.1 (by decide))]; exact F34_2_0_lO
  have F35_2_2_lO : q_fd x35 2 2 lO = .int 0 := by rw [u35.2.2.2.2.2.2, if_neg (fun z => absurd z.1 (by decide))]; exact F34_2_2_lO
  have F35_2_1_lO : q_fd x35 2 1 lO = .ref (q_z0 x) := by rw [u35.2.2.2.2.2.2, if_neg (fun z => absurd z.1 (by decide))]; exact F34_2_1_lO
  have F35_5_4_she : q_fd x35 5 4 she = .ref lO := by rw [u35.2.2.2.2.2.2, if_neg (fun z => absurd z.2.1 (by decide))]; exact F34_5_4_she
  have I35_1_kd : q_ai x35 1 kd = some (6, kn0) := by rw [u35.2.2.2.1]; exact I34_1_kd
  have I35_3_rg : q_ai x35 3 rg = some (32, fun _ => 0) := by rw [u35.2.2.2.1]; exact I34_3_rg
  have E35 : q_en x35 = q_en x := (u35.2.2.2.2.2.1).trans E34
  have R35 : q_ar x35 = q_ar x := (u35.2.2.2.2.1).trans R34
  have W35 : wf x35 := wf_uF W34 u35
  have z35 : q_sz x35 = s + 11 := u35.1.trans z34
  have t35 : q_sl x35 = m0 + 65 := u35.2.1.trans t34
  have F35_5_0_she : q_fd x35 5 0 she = .int (cCap c) := (u35.2.2.2.2.2.2 5 0 she).trans (if_pos ⟨rfl, rfl, rfl⟩)
  refine st_pR A35_5_she (fun x36 u36 => ?_)
  have A36_0_B : q_al x36 0 B = true := by rw [u36.2.2.1]; exact A35_0_B
  have A36_1_cat : q_al x36 1 cat = true := by rw [u36.2.2.1]; exact A35_1_cat
  have A36_2_lD : q_al x36 2 lD = true := by rw [u36.2.2.1]; exact A35_2_lD
  have A36_2_lK : q_al x36 2 lK = true := by rw [u36.2.2.1]; exact A35_2_lK
  have A36_3_jou : q_al x36 3 jou = true := by rw [u36.2.2.1]; exact A35_3_jou
  have A36_4_wor : q_al x36 4 wor = true := by rw [u36.2.2.1]; exact A35_4_wor
  have A36_2_lB : q_al x36 2 lB = true := by rw [u36.2.2.1]; exact A35_2_lB
  have A36_5_she : q_al x36 5 she = true := by rw [u36.2.2.1]; exact A35_5_she
  have A36_2_lC : q_al x36 2 lC = true := by rw [u36.2.2.1]; exact A35_2_lC
  have A36_2_lO : q_al x36 2 lO = true := by rw [u36.2.2.1]; exact A35_2_lO
  have F36_0_5_B : q_fd x36 0 5 B = .int 0 := by rw [u36.2.2.2.2.2.2, if_neg (fun z => absurd z.1 (by decide))]; exact F35_0_5_B
  have F36_1_0_cat : q_fd x36 1 0 cat = .ref kd := by rw [u36.2.2.2.2.2.2, if_neg (fun z => absurd z.1 (by decide))]; exact F35_1_0_cat
  have F36_2_0_lD : q_fd x36 2 0 lD = .int 0 := by rw [u36.2.2.2.2.2.2, if_neg (fun z => absurd z.1 (by decide))]; exact F35_2_0_lD
  have F36_2_2_lD : q_fd x36 2 2 lD = .int 0 := by rw [u36.2.2.2.2.2.2, if_neg (fun z => absurd z.1 (by decide))]; exact F35_2_2_lD
  have F36_2_1_lD : q_fd x36 2 1 lD = .ref (q_z0 x) := by rw [u36.2.2.2.2.2.2, if_neg (fun z => absurd z.1 (by decide))]; exact F35_2_1_lD
  have F36_1_1_cat : q_fd x36 1 1 cat = .ref lD := by rw [u36.2.2.2.2.2.2, if_neg (fun z => absurd z.1 (by decide))]; exact F35_1_1_cat
  have F36_0_0_B : q_fd x36 0 0 B = .ref cat := by rw [u36.2.2.2.2.2.2, if_neg (fun z => absurd z.1 (by decide))]; exact F35_0_0_B
  have F36_2_0_lK : q_fd x36 2 0 lK = .int 0 := by rw [u36.2.2.2.2.2.2, if_neg (fun z => absurd z.1 (by decide))]; exact F35_2_0_lK
  have F36_2_2_lK : q_fd x36 2 2 lK = .int 0 := by rw [u36.2.2.2.2.2.2, if_neg (fun z => absurd z.1 (by decide))]; exact F35_2_2_lK
  have F36_2_1_lK : q_fd x36 2 1 lK = .ref (q_z0 x) := by rw [u36.2.2.2.2.2.2, if_neg (fun z => absurd z.1 (by decide))]; exact F35_2_1_lK
  have F36_0_1_B : q_fd x36 0 1 B = .ref lK := by rw [u36.2.2.2.2.2.2, if_neg (fun z => absurd z.1 (by decide))]; exact F35_0_1_B
  have F36_3_1_jou : q_fd x36 3 1 jou = .int 0 := by rw [u36.2.2.2.2.2.2, if_neg (fun z => absurd z.1 (by decide))]; exact F35_3_1_jou
  have F36_3_0_jou : q_fd x36 3 0 jou = .ref rg := by rw [u36.2.2.2.2.2.2, if_neg (fun z => absurd z.1 (by decide))]; exact F35_3_0_jou
  have F36_0_2_B : q_fd x36 0 2 B = .ref jou := by rw [u36.2.2.2.2.2.2, if_neg (fun z => absurd z.1 (by decide))]; exact F35_0_2_B
  have F36_2_0_lB : q_fd x36 2 0 lB = .int 0 := by rw [u36.2.2.2.2.2.2, if_neg (fun z => absurd z.1 (by decide))]; exact F35_2_0_lB
  have F36_2_2_lB : q_fd x36 2 2 lB = .int 0 := by rw [u36.2.2.2.2.2.2, if_neg (fun z => absurd z.1 (by decide))]; exact F35_2_2_lB
  have F36_2_1_lB : q_fd x36 2 1 lB = .ref (q_z0 x) := by rw [u36.2.2.2.2.2.2, if_neg (fun z => absurd z.1 (by decide))]; exact F35_2_1_lB
  have F36_4_2_wor : q_fd x36 4 2 wor = .ref lB := by rw [u36.2.2.2.2.2.2, if_neg (fun z => absurd z.1 (by decide))]; exact F35_4_2_wor
  have F36_4_0_wor : q_fd x36 4 0 wor = .ref cat := by rw [u36.2.2.2.2.2.2, if_neg (fun z => absurd z.1 (by decide))]; exact F35_4_0_wor
  have F36_4_1_wor : q_fd x36 4 1 wor = .ref jou := by rw [u36.2.2.2.2.2.2, if_neg (fun z => absurd z.1 (by decide))]; exact F35_4_1_wor
  have F36_0_3_B : q_fd x36 0 3 B = .ref wor := by rw [u36.2.2.2.2.2.2, if_neg (fun z => absurd z.1 (by decide))]; exact F35_0_3_B
  have F36_2_0_lC : q_fd x36 2 0 lC = .int 0 := by rw [u36.2.2.2.2.2.2, if_neg (fun z => absurd z.1 (by decide))]; exact F35_2_0_lC
  have F36_2_2_lC : q_fd x36 2 2 lC = .int 0 := by rw [u36.2.2.2.2.2.2, if_neg (fun z => absurd z.1 (by decide))]; exact F35_2_2_lC
  have F36_2_1_lC : q_fd x36 2 1 lC = .ref (q_z0 x) := by rw [u36.2.2.2.2.2.2, if_neg (fun z => absurd z.1 (by decide))]; exact F35_2_1_lC
  have F36_5_3_she : q_fd x36 5 3 she = .ref lC := by rw [u36.2.2.2.2.2.2, if_neg (fun z => absurd z.2.1 (by decide))]; exact F35_5_3_she
  have F36_2_0_lO : q_fd x36 2 0 lO = .int 0 := by rw [u36.2.2.2.2.2.2, if_neg (fun z => absurd z.1 (by decide))]; exact F35_2_0_lO
  have F36_2_2_lO : q_fd x36 2 2 lO = .int 0 := by rw [u36.2.2.2.2.2.2, if_neg (fun z => absurd z.1 (by decide))]; exact F35_2_2_lO
  have F36_2_1_lO : q_fd x36 2 1 lO = .ref (q_z0 x) := by rw [u36.2.2.2.2.2.2, if_neg (fun z => absurd z.1 (by decide))]; exact F35_2_1_lO
  have F36_5_4_she : q_fd x36 5 4 she = .ref lO := by rw [u36.2.2.2.2.2.2, if_neg (fun z => absurd z.2.1 (by decide))]; exact F35_5_4_she
  have F36_5_0_she : q_fd x36 5 0 she = .int (cCap c) := by rw [u36.2.2.2.2.2.2, if_neg (fun z => absurd z.2.1 (by decide))]; exact F35_5_0_she
  have I36_1_kd : q_ai x36 1 kd = some (6, kn0) := by rw [u36.2.2.2.1]; exact I35_1_kd
  have I36_3_rg : q_ai x36 3 rg = some (32, fun _ => 0) := by rw [u36.2.2.2.1]; exact I35_3_rg
  have E36 : q_en x36 = q_en x := (u36.2.2.2.2.2.1).trans E35
  have R36 : q_ar x36 = q_ar x := (u36.2.2.2.2.1).trans R35
  have W36 : wf x36 := wf_uF W35 u36
  have z36 : q_sz x36 = s + 11 := u36.1.trans z35
  have t36 : q_sl x36 = m0 + 65 := u36.2.1.trans t35
  have F36_5_1_she : q_fd x36 5 1 she = .ref wor := (u36.2.2.2.2.2.2 5 1 she).trans (if_pos ⟨rfl, rfl, rfl⟩)
  refine st_pR A36_5_she (fun x37 u37 => ?_)
  have A37_0_B : q_al x37 0 B = true := by rw [u37.2.2.1]; exact A36_0_B
  have A37_1_cat : q_al x37 1 cat = true := by rw [u37.2.2.1]; exact A36_1_cat
  have A37_2_lD : q_al x37 2 lD = true := by rw [u37.2.2.1]; exact A36_2_lD
  have A37_2_lK : q_al x37 2 lK = true := by rw [u37.2.2.1]; exact A36_2_lK
  have A37_3_jou : q_al x37 3 jou = true := by rw [u37.2.2.1]; exact A36_3_jou
  have A37_4_wor : q_al x37 4 wor = true := by rw [u37.2.2.1]; exact A36_4_wor
  have A37_2_lB : q_al x37 2 lB = true := by rw [u37.2.2.1]; exact A36_2_lB
  have A37_5_she : q_al x37 5 she = true := by rw [u37.2.2.1]; exact A36_5_she
  have A37_2_lC : q_al x37 2 lC = true := by rw [u37.2.2.1]; exact A36_2_lC
  have A37_2_lO : q_al x37 2 lO = true := by rw [u37.2.2.1]; exact A36_2_lO
  have F37_0_5_B : q_fd x37 0 5 B = .int 0 := by rw [u37.2.2.2.2.2.2, if_neg (fun z => absurd z.1 (by decide))]; exact F36_0_5_B
  have F37_1_0_cat : q_fd x37 1 0 cat = .ref kd := by rw [u37.2.2.2.2.2.2, if_neg (fun z => absurd z.1 (by decide))]; exact F36_1_0_cat
  have F37_2_0_lD : q_fd x37 2 0 lD = .int 0 := by rw [u37.2.2.2.2.2.2, if_neg (fun z => absurd z.1 (by decide))]; exact F36_2_0_lD
  have F37_2_2_lD : q_fd x37 2 2 lD = .int 0 := by rw [u37.2.2.2.2.2.2, if_neg (fun z => absurd z.1 (by decide))]; exact F36_2_2_lD
  have F37_2_1_lD : q_fd x37 2 1 lD = .ref (q_z0 x) := by rw [u37.2.2.2.2.2.2, if_neg (fun z => absurd z.1 (by decide))]; exact F36_2_1_lD
  have F37_1_1_cat : q_fd x37 1 1 cat = .ref lD := by rw [u37.2.2.2.2.2.2, if_neg (fun z => absurd z.1 (by decide))]; exact F36_1_1_cat
  have F37_0_0_B : q_fd x37 0 0 B = .ref cat := by rw [u37.2.2.2.2.2.2, if_neg (fun z => absurd z.1 (by decide))]; exact F36_0_0_B
  have F37_2_0_lK : q_fd x37 2 0 lK = .int 0 := by rw [u37.2.2.2.2.2.2, if_neg (fun z => absurd z.1 (by decide))]; exact F36_2_0_lK
  have F37_2_2_lK : q_fd x37 2 2 lK = .int 0 := by rw [u37.2.2.2.2.2.2, if_neg (fun z => absurd z.1 (by decide))]; exact F36_2_2_lK
  have F37_2_1_lK : q_fd x37 2 1 lK = .ref (q_z0 x) := by rw [u37.2.2.2.2.2.2, if_neg (fun z => absurd z.1 (by decide))]; exact F36_2_1_lK
  have F37_0_1_B : q_fd x37 0 1 B = .ref lK := by rw [u37.2.2.2.2.2.2, if_neg (fun z => absurd z.1 (by decide))]; exact F36_0_1_B
  have F37_3_1_jou : q_fd x37 3 1 jou = .int 0 := by rw [u37.2.2.2.2.2.2, if_neg (fun z => absurd z.1 (by decide))]; exact F36_3_1_jou
  have F37_3_0_jou : q_fd x37 3 0 jou = .ref rg := by rw [u37.2.2.2.2.2.2, if_neg (fun z => absurd z.1 (by decide))]; exact F36_3_0_jou
  have F37_0_2_B : q_fd x37 0 2 B = .ref jou := by rw [u37.2.2.2.2.2.2, if_neg (fun z => absurd z.1 (by decide))]; exact F36_0_2_B
  have F37_2_0_lB : q_fd x37 2 0 lB = .int 0 := by rw [u37.2.2.2.2.2.2, if_neg (fun z => absurd z.1 (by decide))]; exact F36_2_0_lB
  have F37_2_2_lB : q_fd x37 2 2 lB = .int 0 := by rw [u37.2.2.2.2.2.2, if_neg (fun z => absurd z.1 (by decide))]; exact F36_2_2_lB
  have F37_2_1_lB : q_fd x37 2 1 lB = .ref (q_z0 x) := by rw [u37.2.2.2.2.2.2, if_neg (fun z => absurd z.1 (by decide))]; exact F36_2_1_lB
  have F37_4_2_wor : q_fd x37 4 2 wor = .ref lB := by rw [u37.2.2.2.2.2.2, if_neg (fun z => absurd z.1 (by decide))]; exact F36_4_2_wor
  have F37_4_0_wor : q_fd x37 4 0 wor = .ref cat := by rw [u37.2.2.2.2.2.2, if_neg (fun z => absurd z.1 (by decide))]; exact F36_4_0_wor
  have F37_4_1_wor : q_fd x37 4 1 wor = .ref jou := by rw [u37.2.2.2.2.2.2, if_neg (fun z => absurd z.1 (by decide))]; exact F36_4_1_wor
  have F37_0_3_B : q_fd x37 0 3 B = .ref wor := by rw [u37.2.2.2.2.2.2, if_neg (fun z => absurd z.1 (by decide))]; exact F36_0_3_B
  have F37_2_0_lC : q_fd x37 2 0 lC = .int 0 := by rw [u37.2.2.2.2.2.2, if_neg (fun z => absurd z.1 (by decide))]; exact F36_2_0_lC
  have F37_2_2_lC : q_fd x37 2 2 lC = .int 0 := by rw [u37.2.2.2.2.2.2, if_neg (fun z => absurd z.1 (by decide))]; exact F36_2_2_lC
  have F37_2_1_lC : q_fd x37 2 1 lC = .ref (q_z0 x) := by rw [u37.2.2.2.2.2.2, if_neg (fun z => absurd z.1 (by decide))]; exact F36_2_1_lC
  have F37_5_3_she : q_fd x37 5 3 she = .ref lC := by rw [u37.2.2.2.2.2.2, if_neg (fun z => absurd z.2.1 (by decide))]; exact F36_5_3_she
  have F37_2_0_lO : q_fd x37 2 0 lO = .int 0 := by rw [u37.2.2.2.2.2.2, if_neg (fun z => absurd z.1 (by decide))]; exact F36_2_0_lO
  have F37_2_2_lO : q_fd x37 2 2 lO = .int 0 := by rw [u37.2.2.2.2.2.2, if_neg (fun z => absurd z.1 (by decide))]; exact F36_2_2_lO
  have F37_2_1_lO : q_fd x37 2 1 lO = .ref (q_z0 x) := by rw [u37.2.2.2.2.2.2, if_neg (fun z => absurd z.1 (by decide))]; exact F36_2_1_lO
  have F37_5_4_she : q_fd x37 5 4 she = .ref lO := by rw [u37.2.2.2.2.2.2, if_neg (fun z => absurd z.2.1 (by decide))]; exact F36_5_4_she
  have F37_5_0_she : q_fd x37 5 0 she = .int (cCap c) := by rw [u37.2.2.2.2.2.2, if_neg (fun z => absurd z.2.1 (by decide))]; exact F36_5_0_she
  have F37_5_1_she : q_fd x37 5 1 she = .ref wor := by rw [u37.2.2.2.2.2.2, if_neg (fun z => absurd z.2.1 (by decide))]; exact F36_5_1_she
  have I37_1_kd : q_ai x37 1 kd = some (6, kn0) := by rw [u37.2.2.2.1]; exact I36_1_kd
  have I37_3_rg : q_ai x37 3 rg = some (32, fun _ => 0) := by rw [u37.2.2.2.1]; exact I36_3_rg
  have E37 : q_en x37 = q_en x := (u37.2.2.2.2.2.1).trans E36
  have R37 : q_ar x37 = q_ar x := (u37.2.2.2.2.1).trans R36
  have W37 : wf x37 := wf_uF W36 u37
  have z37 : q_sz x37 = s + 11 := u37.1.trans z36
  have t37 : q_sl x37 = m0 + 65 := u37.2.1.trans t36
  have F37_5_2_she : q_fd x37 5 2 she = .ref jou := (u37.2.2.2.2.2.2 5 2 she).trans (if_pos ⟨rfl, rfl, rfl⟩)
  refine st_pR A37_0_B (fun x38 u38 => ?_)
  have A38_0_B : q_al x38 0 B = true := by rw [u38.2.2.1]; exact A37_0_B
  have A38_1_cat : q_al x38 1 cat = true := by rw [u38.2.2.1]; exact A37_1_cat
  have A38_2_lD : q_al x38 2 lD = true := by rw [u38.2.2.1]; exact A37_2_lD
  have A38_2_lK : q_al x38 2 lK = true := by rw [u38.2.2.1]; exact A37_2_lK
  have A38_3_jou : q_al x38 3 jou = true := by rw [u38.2.2.1]; exact A37_3_jou
  have A38_4_wor : q_al x38 4 wor = true := by rw [u38.2.2.1]; exact A37_4_wor
  have A38_2_lB : q_al x38 2 lB = true := by rw [u38.2.2.1]; exact A37_2_lB
  have A38_5_she : q_al x38 5 she = true := by rw [u38.2.2.1]; exact A37_5_she
  have A38_2_lC : q_al x38 2 lC = true := by rw [u38.2.2.1]; exact A37_2_lC
  have A38_2_lO : q_al x38 2 lO = true := by rw [u38.2.2.1]; exact A37_2_lO
  have F38_0_5_B : q_fd x38 0 5 B = .int 0 := by rw [u38.2.2.2.2.2.2, if_neg (fun z => absurd z.2.1 (by decide))]; exact F37_0_5_B
  have F38_1_0_cat : q_fd x38 1 0 cat = .ref kd := by rw [u38.2.2.2.2.2.2, if_neg (fun z => absurd z.1 (by decide))]; exact F37_1_0_cat
  have F38_2_0_lD : q_fd x38 2 0 lD = .int 0 := by rw [u38.2.2.2.2.2.2, if_neg (fun z => absurd z.1 (by decide))]; exact F37_2_0_lD
  have F38_2_2_lD : q_fd x38 2 2 lD = .int 0 := by rw [u38.2.2.2.2.2.2, if_neg (fun z => absurd z.1 (by decide))]; exact F37_2_2_lD
  have F38_2_1_lD : q_fd x38 2 1 lD = .ref (q_z0 x) := by rw [u38.2.2.2.2.2.2, if_neg (fun z => absurd z.1 (by decide))]; exact F37_2_1_lD
  have F38_1_1_cat : q_fd x38 1 1 cat = .ref lD := by rw [u38.2.2.2.2.2.2, if_neg (fun z => absurd z.1 (by decide))]; exact F37_1_1_cat
  have F38_0_0_B : q_fd x38 0 0 B = .ref cat := by rw [u38.2.2.2.2.2.2, if_neg (fun z => absurd z.2.1 (by decide))]; exact F37_0_0_B
  have F38_2_0_lK : q_fd x38 2 0 lK = .int 0 := by rw [u38.2.2.2.2.2.2, if_neg (fun z => absurd z.1 (by decide))]; exact F37_2_0_lK
  have F38_2_2_lK : q_fd x38 2 2 lK = .int 0 := by rw [u38.2.2.2.2.2.2, if_neg (fun z => absurd z.1 (by decide))]; exact F37_2_2_lK
  have F38_2_1_lK : q_fd x38 2 1 lK = .ref (q_z0 x) := by rw [u38.2.2.2.2.2.2, if_neg (fun z => absurd z.1 (by decide))]; exact F37_2_1_lK
  have F38_0_1_B : q_fd x38 0 1 B = .ref lK := by rw [u38.2.2.2.2.2.2, if_neg (fun z => absurd z.2.1 (by decide))]; exact F37_0_1_B
  have F38_3_1_jou : q_fd x38 3 1 jou = .int 0 := by rw [u38.2.2.2.2.2.2, if_neg (fun z => absurd z.1 (by decide))]; exact F37_3_1_jou
  have F38_3_0_jou : q_fd x38 3 0 jou = .ref rg := by rw [u38.2.2.2.2.2.2, if_neg (fun z => absurd z.1 (by decide))]; exact F37_3_0_jou
  have F38_0_2_B : q_fd x38 0 2 B = .ref jou := by rw [u38.2.2.2.2.2.2, if_neg (fun z => absurd z.2.1 (by decide))]; exact F37_0_2_B
  have F38_2_0_lB : q_fd x38 2 0 lB = .int 0 := by rw [u38.2.2.2.2.2.2, if_neg (fun z => absurd z.1 (by decide))]; exact F37_2_0_lB
  have F38_2_2_lB : q_fd x38 2 2 lB = .int 0 := by rw [u38.2.2.2.2.2.2, if_neg (fun z => absurd z.1 (by decide))]; exact F37_2_2_lB
  have F38_2_1_lB : q_fd x38 2 1 lB = .ref (q_z0 x) := by rw [u38.2.2.2.2.2.2, if_neg (fun z => absurd z.1 (by decide))]; exact F37_2_1_lB
  have F38_4_2_wor : q_fd x38 4 2 wor = .ref lB := by rw [u38.2.2.2.2.2.2, if_neg (fun z => absurd z.1 (by decide))]; exact F37_4_2_wor
  have F38_4_0_wor : q_fd x38 4 0 wor = .ref cat := by rw [u38.2.2.2.2.2.2, if_neg (fun z => absurd z.1 (by decide))]; exact F37_4_0_wor
  have F38_4_1_wor : q_fd x38 4 1 wor = .ref jou := by rw [u38.2.2.2.2.2.2, if_neg (fun z => absurd z.1 (by decide))]; exact F37_4_1_wor
  have F38_0_3_B : q_fd x38 0 3 B = .ref wor := by rw [u38.2.2.2.2.2.2, if_neg (fun z => absurd z.2.1 (by decide))]; exact F37_0_3_B
  have F38_2_0_lC : q_fd x38 2 0 lC = .int 0 := by rw [u38.2.2.2.2.2.2, if_neg (fun z => absurd z.1 (by decide))]; exact F37_2_0_lC
  have F38_2_2_lC : q_fd x38 2 2 lC = .int 0 := by rw [u38.2.2.2.2.2.2, if_neg (fun z => absurd z.1 (by decide))]; exact F37_2_2_lC
  have F38_2_1_lC : q_fd x38 2 1 lC = .ref (q_z0 x) := by rw [u38.2.2.2.2.2.2, if_neg (fun z => absurd z.1 (by decide))]; exact F37_2_1_lC
  have F38_5_3_she : q_fd x38 5 3 she = .ref lC := by rw [u38.2.2.2.2.2.2, if_neg (fun z => absurd z.1 (by decide))]; exact F37_5_3_she
  have F38_2_0_lO : q_fd x38 2 0 lO = .int 0 := by rw [u38.2.2.2.2.2.2, if_neg (fun z => absurd z.1 (by decide))]; exact F37_2_0_lO
  have F38_2_2_lO : q_fd x38 2 2 lO = .int 0 := by rw [u38.2.2.2.2.2.2, if_neg (fun z => absurd z.1 (by decide))]; exact F37_2_2_lO
  have F38_2_1_lO : q_fd x38 2 1 lO = .ref (q_z0 x) := by rw [u38.2.2.2.2.2.2, if_neg (fun z => absurd z.1 (by decide))]; exact F37_2_1_lO
  have F38_5_4_she : q_fd x38 5 4 she = .ref lO := by rw [u38.2.2.2.2.2.2, if_neg (fun z => absurd z.1 (by decide))]; exact F37_5_4_she
  have F38_5_0_she : q_fd x38 5 0 she = .int (cCap c) := by rw [u38.2.2.2.2.2.2, if_neg (fun z => absurd z.1 (by decide))]; exact F37_5_0_she
  have F38_5_1_she : q_fd x38 5 1 she = .ref wor := by rw [u38.2.2.2.2.2.2, if_neg (fun z => absurd z.1 (by decide))]; exact F37_5_1_she
  have F38_5_2_she : q_fd x38 5 2 she = .ref jou := by rw [u38.2.2.2.2.2.2, if_neg (fun z => absurd z.1 (by decide))]; exact F37_5_2_she
  have I38_1_kd : q_ai x38 1 kd = some (6, kn0) := by rw [u38.2.2.2.1]; exact I37_1_kd
  have I38_3_rg : q_ai x38 3 rg = some (32, fun _ => 0) := by rw [u38.2.2.2.1]; exact I37_3_rg
  have E38 : q_en x38 = q_en x := (u38.2.2.2.2.2.1).trans E37
  have R38 : q_ar x38 = q_ar x := (u38.2.2.2.2.1).trans R37
  have W38 : wf x38 := wf_uF W37 u38
  have z38 : q_sz x38 = s + 11 := u38.1.trans z37
  have t38 : q_sl x38 = m0 + 65 := u38.2.1.trans t37
  have F38_0_4_B : q_fd x38 0 4 B = .ref she := (u38.2.2.2.2.2.2 0 4 B).trans (if_pos ⟨rfl, rfl, rfl⟩)
  refine ⟨x38, rfl, fun i => [B, cat, lK, jou, wor, she, kd, lD, rg, lB, lC, lO].getD i 0, rfl, ?_, ?_, W38, E38, R38, z38.trans (by rw [hs]), ?_, by show lD < lK; rw [v_lD, v_lK]; exact Nat.add_lt_add_left (by decide) s, by show lK < lB; rw [v_lK, v_lB]; exact Nat.add_lt_add_left (by decide) s, by show lB < lC; rw [v_lB, v_lC]; exact Nat.add_lt_add_left (by decide) s, by show lC < lO; rw [v_lC, v_lO]; exact Nat.add_lt_add_left (by decide) s⟩
  · exact ⟨⟨A38_0_B, F38_0_0_B, F38_0_1_B, F38_0_2_B, F38_0_3_B, F38_0_4_B, F38_0_5_B⟩, ⟨A38_1_cat, F38_1_0_cat, F38_1_1_cat⟩, ⟨A38_3_jou, F38_3_0_jou, F38_3_1_jou⟩, ⟨A38_4_wor, F38_4_0_wor, F38_4_1_wor, F38_4_2_wor⟩, ⟨A38_5_she, F38_5_0_she, F38_5_1_she, F38_5_2_she, F38_5_3_she, F38_5_4_she⟩, I38_1_kd, I38_3_rg⟩
  · have hz0 : q_z0 x38 = q_z0 x := q_z0_en E38
    have l_lK : lI x38 lK [] := lI_0 A38_2_lK F38_2_0_lK (by rw [hz0]; exact F38_2_1_lK) F38_2_2_lK
    have l_lD : lI x38 lD [] := lI_0 A38_2_lD F38_2_0_lD (by rw [hz0]; exact F38_2_1_lD) F38_2_2_lD
    have l_lB : lI x38 lB [] := lI_0 A38_2_lB F38_2_0_lB (by rw [hz0]; exact F38_2_1_lB) F38_2_2_lB
    have l_lC : lI x38 lC [] := lI_0 A38_2_lC F38_2_0_lC (by rw [hz0]; exact F38_2_1_lC) F38_2_2_lC
    have l_lO : lI x38 lO [] := lI_0 A38_2_lO F38_2_0_lO (by rw [hz0]; exact F38_2_1_lO) F38_2_2_lO
    refine ⟨fun a xs ha => ?_, fun a b xs ys e ha hb ga gb ge => ?_⟩
    · have ha : (if a = lK ∨ a = lD ∨ a = lB ∨ a = lC ∨ a = lO then some [] else none) = some xs := ha
      by_cases hc : a = lK ∨ a = lD ∨ a = lB ∨ a = lC ∨ a = lO
      · rw [if_pos hc] at ha
        cases ha
        refine ⟨?_, (fun v hv => by cases hv), (by decide)⟩
        rcases hc with rfl | rfl | rfl | rfl | rfl
        · exact l_lK
        · exact l_lD
        · exact l_lB
        · exact l_lC
        · exact l_lO
      · rw [if_neg hc] at ha; cases ha
    · exfalso
      have ha : (if a = lK ∨ a = lD ∨ a = lB ∨ a = lC ∨ a = lO then some [] else none) = some xs := ha
      by_cases hc : a = lK ∨ a = lD ∨ a = lB ∨ a = lC ∨ a = lO
      · have he : q_fd x38 2 1 a = .ref (q_z0 x38) := by
          rw [hz0]
          rcases hc with rfl | rfl | rfl | rfl | rfl
          · exact F38_2_1_lK
          · exact F38_2_1_lD
          · exact F38_2_1_lB
          · exact F38_2_1_lC
          · exact F38_2_1_lO
        cases he.symm.trans ga
        exact ge rfl
      · rw [if_neg hc] at ha; cases ha
  · rw [t38, ← hm0]; exact Nat.add_le_add_left (by decide) _

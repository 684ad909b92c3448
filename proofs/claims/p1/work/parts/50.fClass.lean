-- BeanContexts$Catalog.<init>()V
def jf_Ca_init_B25 (rc : q_S → Nat → Int32 → Option (q_S × Unit)) (x : q_S) (l0 : Nat) (l1 : Int32) : Option (q_S × Unit) :=
  if 6 ≤ l1 then
    some (x, ())
  else
    (q_gR x (some l0) 1 0).bind fun v12 =>
    (q_sI x 1 v12 l1 ((1 : Int32) <<< (l1 &&& 31))).bind fun x14 =>
    rc x14 l0 (l1 + 1)
def jf_Ca_init_L25 : Nat → q_S → Nat → Int32 → Option (q_S × Unit)
  | 0, _, _, _ => none
  | n + 1, x, l0, l1 => jf_Ca_init_B25 (jf_Ca_init_L25 n) x l0 l1
theorem jm_Ca_init_B25 {p : q_S × Unit} {rc : q_S → Nat → Int32 → Option (q_S × Unit)} (hrc : ∀ (x : q_S) (l0 : Nat) (l1 : Int32), rc x l0 l1 = some p → q_X (q_call 3) (fun y o => y = p.1 ∧ o = none) jq_Ca_init 25 [(0, va_rf (some l0)), (1, .int l1)] [] x) (x : q_S) (l0 : Nat) (l1 : Int32) (hh : jf_Ca_init_B25 rc x l0 l1 = some p) : q_X (q_call 3) (fun y o => y = p.1 ∧ o = none) jq_Ca_init 25 [(0, va_rf (some l0)), (1, .int l1)] [] x := by
  unfold jf_Ca_init_B25 at hh
  refine r_iload_n 26 1 jd_Ca_init_25 rfl rfl ?_
  refine r_bipush 28 6 jd_Ca_init_26 (by decide) rfl ?_
  rcases q_ite hh with ⟨c11, hh⟩ | ⟨c11, hh⟩
  · refine r_ic_t 46 jd_Ca_init_28 rfl c11 ?_
    cases hh
    exact r_vret jd_Ca_init_46 rfl ⟨rfl, rfl⟩
  · refine r_ic_f 31 46 jd_Ca_init_28 rfl c11 rfl ?_
    refine r_aload_n 32 0 jd_Ca_init_31 rfl rfl ?_
    obtain ⟨v12, e13, hh⟩ := q_bind hh
    refine r_getR 35 5 jd_Ca_init_32 rfl e13 rfl ?_
    refine r_iload_n 36 1 jd_Ca_init_35 rfl rfl ?_
    refine r_iconst 37 1 jd_Ca_init_36 (by decide) rfl ?_
    refine r_iload_n 38 1 jd_Ca_init_37 rfl rfl ?_
    refine r_ishl 39 jd_Ca_init_38 rfl ?_
    obtain ⟨x14, e15, hh⟩ := q_bind hh
    refine r_stI 40 1 jd_Ca_init_39 rfl e15 rfl ?_
    refine r_iinc 43 1 [(1, .int (l1 + 1)), (0, va_rf (some l0))] 1 jd_Ca_init_40 rfl (by decide) (by decide) rfl rfl ?_
    refine r_goto 25 jd_Ca_init_43 rfl ?_
    refine q_sub [1, 0] rfl ?_
    exact hrc _ _ _ hh
theorem jm_Ca_init_L25 {p : q_S × Unit} : ∀ (n : Nat) (x : q_S) (l0 : Nat) (l1 : Int32), jf_Ca_init_L25 n x l0 l1 = some p → q_X (q_call 3) (fun y o => y = p.1 ∧ o = none) jq_Ca_init 25 [(0, va_rf (some l0)), (1, .int l1)] [] x
  | 0, _, _, _, hh => nomatch hh
  | n + 1, x, l0, l1, hh => jm_Ca_init_B25 (jm_Ca_init_L25 n) x l0 l1 hh
def jf_Ca_init (x : q_S) (a0 : Nat) : Option (q_S × Unit) :=
  (q_nI x 1 6).bind fun x1 =>
  (q_pR x1 (some a0) 1 0 (some (q_sz x))).bind fun x3 =>
  (q_nO x3 2 jdv_2).bind fun x5 =>
  (jf_AL_init x5 (q_sz x3)).bind fun p7 =>
  (q_pR p7.1 (some a0) 1 1 (some (q_sz x3))).bind fun x9 =>
  jf_Ca_init_L25 lpK x9 a0 0
theorem jm_Ca_init {x : q_S} {a0 : Nat} {p : q_S × Unit} (hh : jf_Ca_init x a0 = some p) : q_call 4 jq_Ca_init [va_rf (some a0)] x p.1 (none) := by
  unfold jf_Ca_init at hh
  refine ⟨List.mem_of_getElem? (i := 1) rfl, Nat.le_of_ble_eq_true rfl, List.forall_mem_cons.mpr ⟨rfl, fun _ h => by cases h⟩, ?_⟩
  show q_X (q_call 3) _ jq_Ca_init 0 [(0, va_rf (some a0))] [] x
  refine r_aload_n 1 0 jd_Ca_init_0 rfl rfl ?_
  refine r_obj 4 1 jd_Ca_init_1 rfl (q_s8 (Nat.le_of_ble_eq_true rfl)) rfl ?_
  refine r_aload_n 5 0 jd_Ca_init_4 rfl rfl ?_
  refine r_bipush 7 6 jd_Ca_init_5 (by decide) rfl ?_
  obtain ⟨x1, e2, hh⟩ := q_bind hh
  refine r_newI 9 1 jd_Ca_init_7 rfl e2 rfl ?_
  obtain ⟨x3, e4, hh⟩ := q_bind hh
  refine r_putA 12 5 jd_Ca_init_9 rfl rfl (Or.inr ⟨rfl, rfl⟩) e4 rfl ?_
  refine r_aload_n 13 0 jd_Ca_init_12 rfl rfl ?_
  obtain ⟨x5, e6, hh⟩ := q_bind hh
  refine r_new 16 7 jd_Ca_init_13 rfl e6 rfl ?_
  refine r_dupR 17 jd_Ca_init_16 rfl ?_
  obtain ⟨p7, e8, hh⟩ := q_bind hh
  refine r_cI (rest := [va_rf (some (q_sz x3)), va_rf (some a0)]) 20 7 [] [va_rf (some (q_sz x3)), va_rf (some a0)] jd_Ca_init_17 rfl rfl rfl (q_s8 (Nat.le_of_ble_eq_true rfl)) (q_call_le (Nat.le_of_ble_eq_true rfl) (jm_AL_init e8)) rfl rfl ?_
  obtain ⟨x9, e10, hh⟩ := q_bind hh
  refine r_putR 23 6 jd_Ca_init_20 rfl rfl (Or.inr ⟨rfl, rfl⟩) e10 rfl ?_
  refine r_iconst 24 0 jd_Ca_init_23 (by decide) rfl ?_
  refine r_istore_n 25 [(1, .int 0), (0, va_rf (some a0))] jd_Ca_init_24 (by decide) rfl rfl ?_
  refine q_sub [1, 0] rfl ?_
  exact jm_Ca_init_L25 lpK _ _ _ hh
-- BeanContexts$Journal.<init>()V
def jf_Jo_init (x : q_S) (a0 : Nat) : Option (q_S × Unit) :=
  (q_nI x 3 32).bind fun x1 =>
  (q_pR x1 (some a0) 3 0 (some (q_sz x))).bind fun x3 =>
  some (x3, ())
theorem jm_Jo_init {x : q_S} {a0 : Nat} {p : q_S × Unit} (hh : jf_Jo_init x a0 = some p) : q_call 1 jq_Jo_init [va_rf (some a0)] x p.1 (none) := by
  unfold jf_Jo_init at hh
  refine ⟨List.mem_of_getElem? (i := 5) rfl, Nat.le_of_ble_eq_true rfl, List.forall_mem_cons.mpr ⟨rfl, fun _ h => by cases h⟩, ?_⟩
  show q_X (q_call 0) _ jq_Jo_init 0 [(0, va_rf (some a0))] [] x
  refine r_aload_n 1 0 jd_Jo_init_0 rfl rfl ?_
  refine r_obj 4 3 jd_Jo_init_1 rfl (q_s8 (Nat.le_of_ble_eq_true rfl)) rfl ?_
  refine r_aload_n 5 0 jd_Jo_init_4 rfl rfl ?_
  refine r_bipush 7 32 jd_Jo_init_5 (by decide) rfl ?_
  obtain ⟨x1, e2, hh⟩ := q_bind hh
  refine r_newI 9 3 jd_Jo_init_7 rfl e2 rfl ?_
  obtain ⟨x3, e4, hh⟩ := q_bind hh
  refine r_putA 12 9 jd_Jo_init_9 rfl rfl (Or.inr ⟨rfl, rfl⟩) e4 rfl ?_
  cases hh
  exact r_vret jd_Jo_init_12 rfl ⟨rfl, rfl⟩
-- BeanContexts$Shelf.<init>(ILBeanContexts$Workshop;LBeanContexts$Journal;)V
def jf_Sh_init (x : q_S) (a0 : Nat) (a1 : Int32) (a2 : Option Nat) (a3 : Option Nat) : Option (q_S × Unit) :=
  (q_nO x 2 jdv_2).bind fun x1 =>
  (jf_AL_init x1 (q_sz x)).bind fun p3 =>
  (q_pR p3.1 (some a0) 5 3 (some (q_sz x))).bind fun x5 =>
  (q_nO x5 2 jdv_2).bind fun x7 =>
  (jf_AL_init x7 (q_sz x5)).bind fun p9 =>
  (q_pR p9.1 (some a0) 5 4 (some (q_sz x5))).bind fun x11 =>
  (q_pI x11 (some a0) 5 0 a1).bind fun x13 =>
  (q_pR x13 (some a0) 5 1 a2).bind fun x15 =>
  (q_pR x15 (some a0) 5 2 a3).bind fun x17 =>
  some (x17, ())
theorem jm_Sh_init {x : q_S} {a0 : Nat} {a1 : Int32} {a2 : Option Nat} {a3 : Option Nat} {p : q_S × Unit} (hh : jf_Sh_init x a0 a1 a2 a3 = some p) : q_call 4 jq_Sh_init [va_rf (some a0), .int a1, va_rf a2, va_rf a3] x p.1 (none) := by
  unfold jf_Sh_init at hh
  refine ⟨List.mem_of_getElem? (i := 6) rfl, Nat.le_of_ble_eq_true rfl, List.forall_mem_cons.mpr ⟨rfl, List.forall_mem_cons.mpr ⟨rfl, List.forall_mem_cons.mpr ⟨q_cat _, List.forall_mem_cons.mpr ⟨q_cat _, fun _ h => by cases h⟩⟩⟩⟩, ?_⟩
  show q_X (q_call 3) _ jq_Sh_init 0 [(0, va_rf (some a0)), (1, .int a1), (2, va_rf a2), (3, va_rf a3)] [] x
  refine r_aload_n 1 0 jd_Sh_init_0 rfl rfl ?_
  refine r_obj 4 4 jd_Sh_init_1 rfl (q_s8 (Nat.le_of_ble_eq_true rfl)) rfl ?_
  refine r_aload_n 5 0 jd_Sh_init_4 rfl rfl ?_
  obtain ⟨x1, e2, hh⟩ := q_bind hh
  refine r_new 8 8 jd_Sh_init_5 rfl e2 rfl ?_
  refine r_dupR 9 jd_Sh_init_8 rfl ?_
  obtain ⟨p3, e4, hh⟩ := q_bind hh
  refine r_cI (rest := [va_rf (some (q_sz x)), va_rf (some a0)]) 12 10 [] [va_rf (some (q_sz x)), va_rf (some a0)] jd_Sh_init_9 rfl rfl rfl (q_s8 (Nat.le_of_ble_eq_true rfl)) (q_call_le (Nat.le_of_ble_eq_true rfl) (jm_AL_init e4)) rfl rfl ?_
  obtain ⟨x5, e6, hh⟩ := q_bind hh
  refine r_putR 15 10 jd_Sh_init_12 rfl rfl (Or.inr ⟨rfl, rfl⟩) e6 rfl ?_
  refine r_aload_n 16 0 jd_Sh_init_15 rfl rfl ?_
  obtain ⟨x7, e8, hh⟩ := q_bind hh
  refine r_new 19 8 jd_Sh_init_16 rfl e8 rfl ?_
  refine r_dupR 20 jd_Sh_init_19 rfl ?_
  obtain ⟨p9, e10, hh⟩ := q_bind hh
  refine r_cI (rest := [va_rf (some (q_sz x5)), va_rf (some a0)]) 23 10 [] [va_rf (some (q_sz x5)), va_rf (some a0)] jd_Sh_init_20 rfl rfl rfl (q_s8 (Nat.le_of_ble_eq_true rfl)) (q_call_le (Nat.le_of_ble_eq_true rfl) (jm_AL_init e10)) rfl rfl ?_
  obtain ⟨x11, e12, hh⟩ := q_bind hh
  refine r_putR 26 11 jd_Sh_init_23 rfl rfl (Or.inr ⟨rfl, rfl⟩) e12 rfl ?_
  refine r_aload_n 27 0 jd_Sh_init_26 rfl rfl ?_
  refine r_iload_n 28 1 jd_Sh_init_27 rfl rfl ?_
  obtain ⟨x13, e14, hh⟩ := q_bind hh
  refine r_putI 31 12 jd_Sh_init_28 rfl rfl (Or.inr ⟨rfl, rfl⟩) e14 rfl ?_
  refine r_aload_n 32 0 jd_Sh_init_31 rfl rfl ?_
  refine r_aload_n 33 2 jd_Sh_init_32 rfl rfl ?_
  obtain ⟨x15, e16, hh⟩ := q_bind hh
  refine r_putR 36 13 jd_Sh_init_33 rfl rfl (Or.inr ⟨rfl, rfl⟩) e16 rfl ?_
  refine r_aload_n 37 0 jd_Sh_init_36 rfl rfl ?_
  refine r_aload_n 38 3 jd_Sh_init_37 rfl rfl ?_
  obtain ⟨x17, e18, hh⟩ := q_bind hh
  refine r_putR 41 14 jd_Sh_init_38 rfl rfl (Or.inr ⟨rfl, rfl⟩) e18 rfl ?_
  cases hh
  exact r_vret jd_Sh_init_41 rfl ⟨rfl, rfl⟩
-- BeanContexts$Workshop.<init>(LBeanContexts$Catalog;LBeanContexts$Journal;)V
def jf_Wo_init (x : q_S) (a0 : Nat) (a1 : Option Nat) (a2 : Option Nat) : Option (q_S × Unit) :=
  (q_nO x 2 jdv_2).bind fun x1 =>
  (jf_AL_init x1 (q_sz x)).bind fun p3 =>
  (q_pR p3.1 (some a0) 4 2 (some (q_sz x))).bind fun x5 =>
  (q_pR x5 (some a0) 4 0 a1).bind fun x7 =>
  (q_pR x7 (some a0) 4 1 a2).bind fun x9 =>
  some (x9, ())
theorem jm_Wo_init {x : q_S} {a0 : Nat} {a1 : Option Nat} {a2 : Option Nat} {p : q_S × Unit} (hh : jf_Wo_init x a0 a1 a2 = some p) : q_call 4 jq_Wo_init [va_rf (some a0), va_rf a1, va_rf a2] x p.1 (none) := by
  unfold jf_Wo_init at hh
  refine ⟨List.mem_of_getElem? (i := 7) rfl, Nat.le_of_ble_eq_true rfl, List.forall_mem_cons.mpr ⟨rfl, List.forall_mem_cons.mpr ⟨q_cat _, List.forall_mem_cons.mpr ⟨q_cat _, fun _ h => by cases h⟩⟩⟩, ?_⟩
  show q_X (q_call 3) _ jq_Wo_init 0 [(0, va_rf (some a0)), (1, va_rf a1), (2, va_rf a2)] [] x
  refine r_aload_n 1 0 jd_Wo_init_0 rfl rfl ?_
  refine r_obj 4 5 jd_Wo_init_1 rfl (q_s8 (Nat.le_of_ble_eq_true rfl)) rfl ?_
  refine r_aload_n 5 0 jd_Wo_init_4 rfl rfl ?_
  obtain ⟨x1, e2, hh⟩ := q_bind hh
  refine r_new 8 9 jd_Wo_init_5 rfl e2 rfl ?_
  refine r_dupR 9 jd_Wo_init_8 rfl ?_
  obtain ⟨p3, e4, hh⟩ := q_bind hh
  refine r_cI (rest := [va_rf (some (q_sz x)), va_rf (some a0)]) 12 11 [] [va_rf (some (q_sz x)), va_rf (some a0)] jd_Wo_init_9 rfl rfl rfl (q_s8 (Nat.le_of_ble_eq_true rfl)) (q_call_le (Nat.le_of_ble_eq_true rfl) (jm_AL_init e4)) rfl rfl ?_
  obtain ⟨x5, e6, hh⟩ := q_bind hh
  refine r_putR 15 15 jd_Wo_init_12 rfl rfl (Or.inr ⟨rfl, rfl⟩) e6 rfl ?_
  refine r_aload_n 16 0 jd_Wo_init_15 rfl rfl ?_
  refine r_aload_n 17 1 jd_Wo_init_16 rfl rfl ?_
  obtain ⟨x7, e8, hh⟩ := q_bind hh
  refine r_putR 20 16 jd_Wo_init_17 rfl rfl (Or.inr ⟨rfl, rfl⟩) e8 rfl ?_
  refine r_aload_n 21 0 jd_Wo_init_20 rfl rfl ?_
  refine r_aload_n 22 2 jd_Wo_init_21 rfl rfl ?_
  obtain ⟨x9, e10, hh⟩ := q_bind hh
  refine r_putR 25 17 jd_Wo_init_22 rfl rfl (Or.inr ⟨rfl, rfl⟩) e10 rfl ?_
  cases hh
  exact r_vret jd_Wo_init_25 rfl ⟨rfl, rfl⟩
-- BeanContexts.<init>(I)V
def jf_Bc_init (x : q_S) (a0 : Nat) (a1 : Int32) : Option (q_S × Unit) :=
  (q_nO x 1 jdv_1).bind fun x1 =>
  (jf_Ca_init x1 (q_sz x)).bind fun p3 =>
  (q_pR p3.1 (some a0) 0 0 (some (q_sz x))).bind fun x5 =>
  (q_nO x5 2 jdv_2).bind fun x7 =>
  (jf_AL_init x7 (q_sz x5)).bind fun p9 =>
  (q_pR p9.1 (some a0) 0 1 (some (q_sz x5))).bind fun x11 =>
  (q_nO x11 3 jdv_3).bind fun x13 =>
  (jf_Jo_init x13 (q_sz x11)).bind fun p15 =>
  (q_pR p15.1 (some a0) 0 2 (some (q_sz x11))).bind fun x17 =>
  (q_nO x17 4 jdv_4).bind fun x19 =>
  (q_gR x19 (some a0) 0 0).bind fun v21 =>
  (q_gR x19 (some a0) 0 2).bind fun v23 =>
  (jf_Wo_init x19 (q_sz x17) v21 v23).bind fun p25 =>
  (q_pR p25.1 (some a0) 0 3 (some (q_sz x17))).bind fun x27 =>
  (q_nO x27 5 jdv_5).bind fun x29 =>
  (q_gR x29 (some a0) 0 3).bind fun v31 =>
  (q_gR x29 (some a0) 0 2).bind fun v33 =>
  (jf_Sh_init x29 (q_sz x27) (if (3 : Int32) < (if a1 < (6 : Int32) then a1 else (6 : Int32)) then (if a1 < (6 : Int32) then a1 else (6 : Int32)) else (3 : Int32)) v31 v33).bind fun p35 =>
  (q_pR p35.1 (some a0) 0 4 (some (q_sz x27))).bind fun x37 =>
  some (x37, ())
theorem jm_Bc_init {x : q_S} {a0 : Nat} {a1 : Int32} {p : q_S × Unit} (hh : jf_Bc_init x a0 a1 = some p) : q_call 5 jq_Bc_init [va_rf (some a0), .int a1] x p.1 (none) := by
  unfold jf_Bc_init at hh
  refine ⟨List.mem_of_getElem? (i := 0) rfl, Nat.le_of_ble_eq_true rfl, List.forall_mem_cons.mpr ⟨rfl, List.forall_mem_cons.mpr ⟨rfl, fun _ h => by cases h⟩⟩, ?_⟩
  show q_X (q_call 4) _ jq_Bc_init 0 [(0, va_rf (some a0)), (1, .int a1)] [] x
  refine r_aload_n 1 0 jd_Bc_init_0 rfl rfl ?_
  refine r_obj 4 0 jd_Bc_init_1 rfl (q_s8 (Nat.le_of_ble_eq_true rfl)) rfl ?_
  refine r_aload_n 5 0 jd_Bc_init_4 rfl rfl ?_
  obtain ⟨x1, e2, hh⟩ := q_bind hh
  refine r_new 8 2 jd_Bc_init_5 rfl e2 rfl ?_
  refine r_dupR 9 jd_Bc_init_8 rfl ?_
  obtain ⟨p3, e4, hh⟩ := q_bind hh
  refine r_cI (rest := [va_rf (some (q_sz x)), va_rf (some a0)]) 12 2 [] [va_rf (some (q_sz x)), va_rf (some a0)] jd_Bc_init_9 rfl rfl rfl (q_s8 (Nat.le_of_ble_eq_true rfl)) (q_call_le (Nat.le_of_ble_eq_true rfl) (jm_Ca_init e4)) rfl rfl ?_
  obtain ⟨x5, e6, hh⟩ := q_bind hh
  refine r_putR 15 0 jd_Bc_init_12 rfl rfl (Or.inr ⟨rfl, rfl⟩) e6 rfl ?_
  refine r_aload_n 16 0 jd_Bc_init_15 rfl rfl ?_
  obtain ⟨x7, e8, hh⟩ := q_bind hh
  refine r_new 19 3 jd_Bc_init_16 rfl e8 rfl ?_
  refine r_dupR 20 jd_Bc_init_19 rfl ?_
  obtain ⟨p9, e10, hh⟩ := q_bind hh
  refine r_cI (rest := [va_rf (some (q_sz x5)), va_rf (some a0)]) 23 3 [] [va_rf (some (q_sz x5)), va_rf (some a0)] jd_Bc_init_20 rfl rfl rfl (q_s8 (Nat.le_of_ble_eq_true rfl)) (q_call_le (Nat.le_of_ble_eq_true rfl) (jm_AL_init e10)) rfl rfl ?_
  obtain ⟨x11, e12, hh⟩ := q_bind hh
  refine r_putR 26 1 jd_Bc_init_23 rfl rfl (Or.inr ⟨rfl, rfl⟩) e12 rfl ?_
  refine r_aload_n 27 0 jd_Bc_init_26 rfl rfl ?_
  obtain ⟨x13, e14, hh⟩ := q_bind hh
  refine r_new 30 4 jd_Bc_init_27 rfl e14 rfl ?_
  refine r_dupR 31 jd_Bc_init_30 rfl ?_
  obtain ⟨p15, e16, hh⟩ := q_bind hh
  refine r_cI (rest := [va_rf (some (q_sz x11)), va_rf (some a0)]) 34 4 [] [va_rf (some (q_sz x11)), va_rf (some a0)] jd_Bc_init_31 rfl rfl rfl (q_s8 (Nat.le_of_ble_eq_true rfl)) (q_call_le (Nat.le_of_ble_eq_true rfl) (jm_Jo_init e16)) rfl rfl ?_
  obtain ⟨x17, e18, hh⟩ := q_bind hh
  refine r_putR 37 2 jd_Bc_init_34 rfl rfl (Or.inr ⟨rfl, rfl⟩) e18 rfl ?_
  refine r_aload_n 38 0 jd_Bc_init_37 rfl rfl ?_
  obtain ⟨x19, e20, hh⟩ := q_bind hh
  refine r_new 41 5 jd_Bc_init_38 rfl e20 rfl ?_
  refine r_dupR 42 jd_Bc_init_41 rfl ?_
  refine r_aload_n 43 0 jd_Bc_init_42 rfl rfl ?_
  obtain ⟨v21, e22, hh⟩ := q_bind hh
  refine r_getR 46 0 jd_Bc_init_43 rfl e22 rfl ?_
  refine r_aload_n 47 0 jd_Bc_init_46 rfl rfl ?_
  obtain ⟨v23, e24, hh⟩ := q_bind hh
  refine r_getR 50 2 jd_Bc_init_47 rfl e24 rfl ?_
  obtain ⟨p25, e26, hh⟩ := q_bind hh
  refine r_cI (rest := [va_rf (some (q_sz x17)), va_rf (some a0)]) 53 5 [va_rf v21, va_rf v23] [va_rf (some (q_sz x17)), va_rf (some a0)] jd_Bc_init_50 rfl rfl rfl (q_s8 (Nat.le_of_ble_eq_true rfl)) (q_call_le (Nat.le_of_ble_eq_true rfl) (jm_Wo_init e26)) rfl rfl ?_
  obtain ⟨x27, e28, hh⟩ := q_bind hh
  refine r_putR 56 3 jd_Bc_init_53 rfl rfl (Or.inr ⟨rfl, rfl⟩) e28 rfl ?_
  refine r_aload_n 57 0 jd_Bc_init_56 rfl rfl ?_
  obtain ⟨x29, e30, hh⟩ := q_bind hh
  refine r_new 60 6 jd_Bc_init_57 rfl e30 rfl ?_
  refine r_dupR 61 jd_Bc_init_60 rfl ?_
  refine r_iconst 62 3 jd_Bc_init_61 (by decide) rfl ?_
  refine r_bipush 64 6 jd_Bc_init_62 (by decide) rfl ?_
  refine r_iload_n 65 1 jd_Bc_init_64 rfl rfl ?_
  refine r_min 68 0 jd_Bc_init_65 rfl (q_s8 (Nat.le_of_ble_eq_true rfl)) rfl ?_
  refine r_max 71 0 jd_Bc_init_68 rfl (q_s8 (Nat.le_of_ble_eq_true rfl)) rfl ?_
  refine r_aload_n 72 0 jd_Bc_init_71 rfl rfl ?_
  obtain ⟨v31, e32, hh⟩ := q_bind hh
  refine r_getR 75 3 jd_Bc_init_72 rfl e32 rfl ?_
  refine r_aload_n 76 0 jd_Bc_init_75 rfl rfl ?_
  obtain ⟨v33, e34, hh⟩ := q_bind hh
  refine r_getR 79 2 jd_Bc_init_76 rfl e34 rfl ?_
  obtain ⟨p35, e36, hh⟩ := q_bind hh
  refine r_cI (rest := [va_rf (some (q_sz x27)), va_rf (some a0)]) 82 6 [.int (if (3 : Int32) < (if a1 < (6 : Int32) then a1 else (6 : Int32)) then (if a1 < (6 : Int32) then a1 else (6 : Int32)) else (3 : Int32)), va_rf v31, va_rf v33] [va_rf (some (q_sz x27)), va_rf (some a0)] jd_Bc_init_79 rfl rfl rfl (q_s8 (Nat.le_of_ble_eq_true rfl)) (q_call_le (Nat.le_of_ble_eq_true rfl) (jm_Sh_init e36)) rfl rfl ?_
  obtain ⟨x37, e38, hh⟩ := q_bind hh
  refine r_putR 85 4 jd_Bc_init_82 rfl rfl (Or.inr ⟨rfl, rfl⟩) e38 rfl ?_
  cases hh
  exact r_vret jd_Bc_init_85 rfl ⟨rfl, rfl⟩
-- BeanContexts.isBelow(II)Z
def jf_Bc_isBelow (x : q_S) (a0 : Int32) (a1 : Int32) : Option (q_S × Int32) :=
  if a0 < 0 then
    some (x, 0)
  else
    if a1 ≤ a0 then
      some (x, 0)
    else
      some (x, 1)
theorem jm_Bc_isBelow {x : q_S} {a0 : Int32} {a1 : Int32} {p : q_S × Int32} (hh : jf_Bc_isBelow x a0 a1 = some p) : q_call 1 jq_Bc_isBelow [.int a0, .int a1] x p.1 (some (.int p.2)) := by
  unfold jf_Bc_isBelow at hh
  refine ⟨List.mem_of_getElem? (i := 10) rfl, Nat.le_of_ble_eq_true rfl, List.forall_mem_cons.mpr ⟨rfl, List.forall_mem_cons.mpr ⟨rfl, fun _ h => by cases h⟩⟩, ?_⟩
  show q_X (q_call 0) _ jq_Bc_isBelow 0 [(0, .int a0), (1, .int a1)] [] x
  refine r_iload_n 1 0 jd_Bc_isBelow_0 rfl rfl ?_
  rcases q_ite hh with ⟨c1, hh⟩ | ⟨c1, hh⟩
  · refine r_if_t 13 jd_Bc_isBelow_1 rfl c1 ?_
    refine r_iconst 14 0 jd_Bc_isBelow_13 (by decide) rfl ?_
    cases hh
    exact r_zret jd_Bc_isBelow_14 rfl (by decide) ⟨rfl, rfl⟩
  · refine r_if_f 4 13 jd_Bc_isBelow_1 rfl c1 rfl ?_
    refine r_iload_n 5 0 jd_Bc_isBelow_4 rfl rfl ?_
    refine r_iload_n 6 1 jd_Bc_isBelow_5 rfl rfl ?_
    rcases q_ite hh with ⟨c2, hh⟩ | ⟨c2, hh⟩
    · refine r_ic_t 13 jd_Bc_isBelow_6 rfl c2 ?_
      refine r_iconst 14 0 jd_Bc_isBelow_13 (by decide) rfl ?_
      cases hh
      exact r_zret jd_Bc_isBelow_14 rfl (by decide) ⟨rfl, rfl⟩
    · refine r_ic_f 9 13 jd_Bc_isBelow_6 rfl c2 rfl ?_
      refine r_iconst 10 1 jd_Bc_isBelow_9 (by decide) rfl ?_
      refine r_goto 14 jd_Bc_isBelow_10 rfl ?_
      cases hh
      exact r_zret jd_Bc_isBelow_14 rfl (by decide) ⟨rfl, rfl⟩
-- BeanContexts$Shelf.numberAt(I)I
def jf_Sh_numberAt (x : q_S) (a0 : Nat) (a1 : Int32) : Option (q_S × Int32) :=
  (q_gR x (some a0) 5 4).bind fun v1 =>
  (q_av x v1 2).bind fun b5 =>
  (jf_AL_size x b5).bind fun p3 =>
  (jf_Bc_isBelow p3.1 a1 p3.2).bind fun p7 =>
  if p7.2 = 0 then
    some (p7.1, (-1))
  else
    (q_gR p7.1 (some a0) 5 4).bind fun v10 =>
    (q_av p7.1 v10 2).bind fun b14 =>
    (jf_AL_get p7.1 b14 a1).bind fun p12 =>
    (q_ck p12.1 p12.2 9).bind fun u17 =>
    (q_gI p12.1 p12.2 9 0).bind fun v18 =>
    some (p12.1, v18)
theorem jm_Sh_numberAt {x : q_S} {a0 : Nat} {a1 : Int32} {p : q_S × Int32} (hh : jf_Sh_numberAt x a0 a1 = some p) : q_call 4 jq_Sh_numberAt [va_rf (some a0), .int a1] x p.1 (some (.int p.2)) := by
  unfold jf_Sh_numberAt at hh
  refine ⟨List.mem_of_getElem? (i := 9) rfl, Nat.le_of_ble_eq_true rfl, List.forall_mem_cons.mpr ⟨rfl, List.forall_mem_cons.mpr ⟨rfl, fun _ h => by cases h⟩⟩, ?_⟩
  show q_X (q_call 3) _ jq_Sh_numberAt 0 [(0, va_rf (some a0)), (1, .int a1)] [] x
  refine r_iload_n 1 1 jd_Sh_numberAt_0 rfl rfl ?_
  refine r_aload_n 2 0 jd_Sh_numberAt_1 rfl rfl ?_
  obtain ⟨v1, e2, hh⟩ := q_bind hh
  refine r_getR 5 11 jd_Sh_numberAt_2 rfl e2 rfl ?_
  obtain ⟨b5, e6, hh⟩ := q_bind hh
  obtain ⟨p3, e4, hh⟩ := q_bind hh
  refine r_cV (rest := [.int a1]) 8 39 2 [] [.int p3.2, .int a1] jd_Sh_numberAt_5 rfl e6 rfl rfl rfl rfl (q_s8 (Nat.le_of_ble_eq_true rfl)) (q_call_le (Nat.le_of_ble_eq_true rfl) (jm_AL_size e4)) rfl rfl ?_
  obtain ⟨p7, e8, hh⟩ := q_bind hh
  refine r_cS (rest := []) 11 1 [.int a1, .int p3.2] [.int p7.2] jd_Sh_numberAt_8 rfl rfl rfl (q_s8 (Nat.le_of_ble_eq_true rfl)) (q_call_le (Nat.le_of_ble_eq_true rfl) (jm_Bc_isBelow e8)) rfl rfl ?_
  rcases q_ite hh with ⟨c9, hh⟩ | ⟨c9, hh⟩
  · refine r_if_t 31 jd_Sh_numberAt_11 rfl c9 ?_
    refine r_iconst 32 (-1) jd_Sh_numberAt_31 (by decide) rfl ?_
    cases hh
    exact r_iret jd_Sh_numberAt_32 rfl ⟨rfl, rfl⟩
  · refine r_if_f 14 31 jd_Sh_numberAt_11 rfl c9 rfl ?_
    refine r_aload_n 15 0 jd_Sh_numberAt_14 rfl rfl ?_
    obtain ⟨v10, e11, hh⟩ := q_bind hh
    refine r_getR 18 11 jd_Sh_numberAt_15 rfl e11 rfl ?_
    refine r_iload_n 19 1 jd_Sh_numberAt_18 rfl rfl ?_
    obtain ⟨b14, e15, hh⟩ := q_bind hh
    obtain ⟨p12, e13, hh⟩ := q_bind hh
    refine r_cV (rest := []) 22 40 2 [.int a1] [va_rf p12.2] jd_Sh_numberAt_19 rfl e15 rfl rfl rfl rfl (q_s8 (Nat.le_of_ble_eq_true rfl)) (q_call_le (Nat.le_of_ble_eq_true rfl) (jm_AL_get e13)) rfl rfl ?_
    obtain ⟨u17, e16, hh⟩ := q_bind hh
    refine r_cast 25 0 9 jd_Sh_numberAt_22 rfl rfl e16 rfl ?_
    obtain ⟨v18, e19, hh⟩ := q_bind hh
    refine r_getI 28 18 jd_Sh_numberAt_25 rfl e19 rfl ?_
    refine r_goto 32 jd_Sh_numberAt_28 rfl ?_
    cases hh
    exact r_iret jd_Sh_numberAt_32 rfl ⟨rfl, rfl⟩
-- BeanContexts.cached(I)I
def jf_Bc_cached (x : q_S) (a0 : Nat) (a1 : Int32) : Option (q_S × Int32) :=
  (q_gR x (some a0) 0 4).bind fun v1 =>
  (q_av x v1 5).bind fun b5 =>
  (jf_Sh_numberAt x b5 a1).bind fun p3 =>
  some (p3.1, p3.2)
theorem jm_Bc_cached {x : q_S} {a0 : Nat} {a1 : Int32} {p : q_S × Int32} (hh : jf_Bc_cached x a0 a1 = some p) : q_call 5 jq_Bc_cached [va_rf (some a0), .int a1] x p.1 (some (.int p.2)) := by
  unfold jf_Bc_cached at hh
  refine ⟨List.mem_of_getElem? (i := 8) rfl, Nat.le_of_ble_eq_true rfl, List.forall_mem_cons.mpr ⟨rfl, List.forall_mem_cons.mpr ⟨rfl, fun _ h => by cases h⟩⟩, ?_⟩
  show q_X (q_call 4) _ jq_Bc_cached 0 [(0, va_rf (some a0)), (1, .int a1)] [] x
  refine r_aload_n 1 0 jd_Bc_cached_0 rfl rfl ?_
  obtain ⟨v1, e2, hh⟩ := q_bind hh
  refine r_getR 4 4 jd_Bc_cached_1 rfl e2 rfl ?_
  refine r_iload_n 5 1 jd_Bc_cached_4 rfl rfl ?_
  obtain ⟨b5, e6, hh⟩ := q_bind hh
  obtain ⟨p3, e4, hh⟩ := q_bind hh
  refine r_cV (rest := []) 8 38 5 [.int a1] [.int p3.2] jd_Bc_cached_5 rfl e6 rfl rfl rfl rfl (q_s8 (Nat.le_of_ble_eq_true rfl)) (q_call_le (Nat.le_of_ble_eq_true rfl) (jm_Sh_numberAt e4)) rfl rfl ?_
  cases hh
  exact r_iret jd_Bc_cached_8 rfl ⟨rfl, rfl⟩
-- BeanContexts$Bean.note(I)I
def jf_Be_note (x : q_S) (a0 : Nat) (a1 : Int32) : Option (q_S × Int32) :=
  (q_gI x (some a0) 10 5).bind fun v1 =>
  (q_pI x (some a0) 10 5 (v1 + 1)).bind fun x3 =>
  (q_pI x3 (some a0) 10 6 a1).bind fun x5 =>
  (q_gI x5 (some a0) 10 4).bind fun v7 =>
  some (x5, v7)
theorem jm_Be_note {x : q_S} {a0 : Nat} {a1 : Int32} {p : q_S × Int32} (hh : jf_Be_note x a0 a1 = some p) : q_call 1 jq_Be_note [va_rf (some a0), .int a1] x p.1 (some (.int p.2)) := by
  unfold jf_Be_note at hh
  refine ⟨List.mem_of_getElem? (i := 18) rfl, Nat.le_of_ble_eq_true rfl, List.forall_mem_cons.mpr ⟨rfl, List.forall_mem_cons.mpr ⟨rfl, fun _ h => by cases h⟩⟩, ?_⟩
  show q_X (q_call 0) _ jq_Be_note 0 [(0, va_rf (some a0)), (1, .int a1)] [] x
  refine r_aload_n 1 0 jd_Be_note_0 rfl rfl ?_
  refine r_dupR 2 jd_Be_note_1 rfl ?_
  obtain ⟨v1, e2, hh⟩ := q_bind hh
  refine r_getI 5 23 jd_Be_note_2 rfl e2 rfl ?_
  refine r_iconst 6 1 jd_Be_note_5 (by decide) rfl ?_
  refine r_iadd 7 jd_Be_note_6 rfl ?_
  obtain ⟨x3, e4, hh⟩ := q_bind hh
  refine r_putI 10 23 jd_Be_note_7 rfl rfl (Or.inl rfl) e4 rfl ?_
  refine r_aload_n 11 0 jd_Be_note_10 rfl rfl ?_
  refine r_iload_n 12 1 jd_Be_note_11 rfl rfl ?_
  obtain ⟨x5, e6, hh⟩ := q_bind hh
  refine r_putI 15 24 jd_Be_note_12 rfl rfl (Or.inl rfl) e6 rfl ?_
  refine r_aload_n 16 0 jd_Be_note_15 rfl rfl ?_
  obtain ⟨v7, e8, hh⟩ := q_bind hh
  refine r_getI 19 25 jd_Be_note_16 rfl e8 rfl ?_
  cases hh
  exact r_iret jd_Be_note_19 rfl ⟨rfl, rfl⟩
-- BeanContexts$Workshop.answerOf(LBeanContexts$Bean;I)I
def jf_Wo_answerOf_B11 (rc : q_S → Nat → Option Nat → Int32 → Int32 → Int32 → Option (q_S × Int32)) (x : q_S) (l0 : Nat) (l3 : Option Nat) (l4 : Int32) (l5 : Int32) (l6 : Int32) : Option (q_S × Int32) :=
  if 200 ≤ l6 then
    (q_gI x l3 10 2).bind fun v2 =>
    if v2 = 0 then
      (q_gI x l3 10 0).bind fun v5 =>
      some (x, l4 + (v5 + l5))
    else
      (q_av x l3 10).bind fun b9 =>
      (jf_Be_note x b9 l5).bind fun p7 =>
      some (p7.1, l4 + p7.2)
  else
    (q_gR x l3 10 3).bind fun v11 =>
    (q_len x 4 v11).bind fun v13 =>
    if v13 ≤ 0 then
      (q_gI x l3 10 2).bind fun v16 =>
      if v16 = 0 then
        (q_gI x l3 10 0).bind fun v19 =>
        some (x, l4 + (v19 + l5))
      else
        (q_av x l3 10).bind fun b23 =>
        (jf_Be_note x b23 l5).bind fun p21 =>
        some (p21.1, l4 + p21.2)
    else
      (q_gI x l3 10 0).bind fun v25 =>
      (q_gR x (some l0) 4 2).bind fun v27 =>
      (q_gR x l3 10 3).bind fun v29 =>
      (q_lI x 4 v29 0).bind fun v31 =>
      (q_av x v27 2).bind fun b35 =>
      (jf_AL_get x b35 v31).bind fun p33 =>
      (q_ck p33.1 p33.2 10).bind fun u38 =>
      rc p33.1 l0 p33.2 (l4 + v25) (l5 + 1) (l6 + 1)
def jf_Wo_answerOf_L11 : Nat → q_S → Nat → Option Nat → Int32 → Int32 → Int32 → Option (q_S × Int32)
  | 0, _, _, _, _, _, _ => none
  | n + 1, x, l0, l3, l4, l5, l6 => jf_Wo_answerOf_B11 (jf_Wo_answerOf_L11 n) x l0 l3 l4 l5 l6
theorem jm_Wo_answerOf_B11 {p : q_S × Int32} {rc : q_S → Nat → Option Nat → Int32 → Int32 → Int32 → Option (q_S × Int32)} (hrc : ∀ (x : q_S) (l0 : Nat) (l3 : Option Nat) (l4 : Int32) (l5 : Int32) (l6 : Int32), rc x l0 l3 l4 l5 l6 = some p → q_X (q_call 3) (fun y o => y = p.1 ∧ o = some (.int p.2)) jq_Wo_answerOf 11 [(0, va_rf (some l0)), (3, va_rf l3), (4, .int l4), (5, .int l5), (6, .int l6)] [] x) (x : q_S) (l0 : Nat) (l3 : Option Nat) (l4 : Int32) (l5 : Int32) (l6 : Int32) (hh : jf_Wo_answerOf_B11 rc x l0 l3 l4 l5 l6 = some p) : q_X (q_call 3) (fun y o => y = p.1 ∧ o = some (.int p.2)) jq_Wo_answerOf 11 [(0, va_rf (some l0)), (3, va_rf l3), (4, .int l4), (5, .int l5), (6, .int l6)] [] x := by
  unfold jf_Wo_answerOf_B11 at hh
  refine r_iload 13 4 jd_Wo_answerOf_11 rfl rfl ?_
  refine r_sipush 16 200 jd_Wo_answerOf_13 (by decide) rfl ?_
  rcases q_ite hh with ⟨c1, hh⟩ | ⟨c1, hh⟩
  · refine r_ic_t 62 jd_Wo_answerOf_16 rfl c1 ?_
    refine r_iload 64 2 jd_Wo_answerOf_62 rfl rfl ?_
    refine r_aload_n 65 1 jd_Wo_answerOf_64 rfl rfl ?_
    obtain ⟨v2, e3, hh⟩ := q_bind hh
    refine r_getI 68 20 jd_Wo_answerOf_65 rfl e3 rfl ?_
    rcases q_ite hh with ⟨c4, hh⟩ | ⟨c4, hh⟩
    · refine r_if_t 80 jd_Wo_answerOf_68 rfl c4 ?_
      refine r_aload_n 81 1 jd_Wo_answerOf_80 rfl rfl ?_
      obtain ⟨v5, e6, hh⟩ := q_bind hh
      refine r_getI 84 21 jd_Wo_answerOf_81 rfl e6 rfl ?_
      refine r_iload 86 3 jd_Wo_answerOf_84 rfl rfl ?_
      refine r_iadd 87 jd_Wo_answerOf_86 rfl ?_
      refine r_iadd 88 jd_Wo_answerOf_87 rfl ?_
      cases hh
      exact r_iret jd_Wo_answerOf_88 rfl ⟨rfl, rfl⟩
    · refine r_if_f 71 80 jd_Wo_answerOf_68 rfl c4 rfl ?_
      refine r_aload_n 72 1 jd_Wo_answerOf_71 rfl rfl ?_
      refine r_iload 74 3 jd_Wo_answerOf_72 rfl rfl ?_
      obtain ⟨b9, e10, hh⟩ := q_bind hh
      obtain ⟨p7, e8, hh⟩ := q_bind hh
      refine r_cV (rest := [.int l4]) 77 44 10 [.int l5] [.int p7.2, .int l4] jd_Wo_answerOf_74 rfl e10 rfl rfl rfl rfl (q_s8 (Nat.le_of_ble_eq_true rfl)) (q_call_le (Nat.le_of_ble_eq_true rfl) (jm_Be_note e8)) rfl rfl ?_
      refine r_goto 87 jd_Wo_answerOf_77 rfl ?_
      refine r_iadd 88 jd_Wo_answerOf_87 rfl ?_
      cases hh
      exact r_iret jd_Wo_answerOf_88 rfl ⟨rfl, rfl⟩
  · refine r_ic_f 19 62 jd_Wo_answerOf_16 rfl c1 rfl ?_
    refine r_aload_n 20 1 jd_Wo_answerOf_19 rfl rfl ?_
    obtain ⟨v11, e12, hh⟩ := q_bind hh
    refine r_getR 23 22 jd_Wo_answerOf_20 rfl e12 rfl ?_
    obtain ⟨v13, e14, hh⟩ := q_bind hh
    refine r_len 24 4 jd_Wo_answerOf_23 e14 rfl ?_
    rcases q_ite hh with ⟨c15, hh⟩ | ⟨c15, hh⟩
    · refine r_if_t 62 jd_Wo_answerOf_24 rfl c15 ?_
      refine r_iload 64 2 jd_Wo_answerOf_62 rfl rfl ?_
      refine r_aload_n 65 1 jd_Wo_answerOf_64 rfl rfl ?_
      obtain ⟨v16, e17, hh⟩ := q_bind hh
      refine r_getI 68 20 jd_Wo_answerOf_65 rfl e17 rfl ?_
      rcases q_ite hh with ⟨c18, hh⟩ | ⟨c18, hh⟩
      · refine r_if_t 80 jd_Wo_answerOf_68 rfl c18 ?_
        refine r_aload_n 81 1 jd_Wo_answerOf_80 rfl rfl ?_
        obtain ⟨v19, e20, hh⟩ := q_bind hh
        refine r_getI 84 21 jd_Wo_answerOf_81 rfl e20 rfl ?_
        refine r_iload 86 3 jd_Wo_answerOf_84 rfl rfl ?_
        refine r_iadd 87 jd_Wo_answerOf_86 rfl ?_
        refine r_iadd 88 jd_Wo_answerOf_87 rfl ?_
        cases hh
        exact r_iret jd_Wo_answerOf_88 rfl ⟨rfl, rfl⟩
      · refine r_if_f 71 80 jd_Wo_answerOf_68 rfl c18 rfl ?_
        refine r_aload_n 72 1 jd_Wo_answerOf_71 rfl rfl ?_
        refine r_iload 74 3 jd_Wo_answerOf_72 rfl rfl ?_
        obtain ⟨b23, e24, hh⟩ := q_bind hh
        obtain ⟨p21, e22, hh⟩ := q_bind hh
        refine r_cV (rest := [.int l4]) 77 44 10 [.int l5] [.int p21.2, .int l4] jd_Wo_answerOf_74 rfl e24 rfl rfl rfl rfl (q_s8 (Nat.le_of_ble_eq_true rfl)) (q_call_le (Nat.le_of_ble_eq_true rfl) (jm_Be_note e22)) rfl rfl ?_
        refine r_goto 87 jd_Wo_answerOf_77 rfl ?_
        refine r_iadd 88 jd_Wo_answerOf_87 rfl ?_
        cases hh
        exact r_iret jd_Wo_answerOf_88 rfl ⟨rfl, rfl⟩
    · refine r_if_f 27 62 jd_Wo_answerOf_24 rfl c15 rfl ?_
      refine r_iload 29 2 jd_Wo_answerOf_27 rfl rfl ?_
      refine r_aload_n 30 1 jd_Wo_answerOf_29 rfl rfl ?_
      obtain ⟨v25, e26, hh⟩ := q_bind hh
      refine r_getI 33 21 jd_Wo_answerOf_30 rfl e26 rfl ?_
      refine r_iadd 34 jd_Wo_answerOf_33 rfl ?_
      refine r_istore 36 [(4, .int (l4 + v25)), (0, va_rf (some l0)), (3, va_rf l3), (5, .int l5), (6, .int l6)] jd_Wo_answerOf_34 (by decide) rfl rfl ?_
      refine r_iinc 39 3 [(5, .int (l5 + 1)), (4, .int (l4 + v25)), (0, va_rf (some l0)), (3, va_rf l3), (6, .int l6)] 1 jd_Wo_answerOf_36 rfl (by decide) (by decide) rfl rfl ?_
      refine r_aload_n 40 2 jd_Wo_answerOf_39 rfl rfl ?_
      obtain ⟨v27, e28, hh⟩ := q_bind hh
      refine r_getR 43 15 jd_Wo_answerOf_40 rfl e28 rfl ?_
      refine r_aload_n 44 3 jd_Wo_answerOf_43 rfl rfl ?_
      obtain ⟨v29, e30, hh⟩ := q_bind hh
      refine r_getR 47 22 jd_Wo_answerOf_44 rfl e30 rfl ?_
      refine r_iconst 48 0 jd_Wo_answerOf_47 (by decide) rfl ?_
      obtain ⟨v31, e32, hh⟩ := q_bind hh
      refine r_ldI 49 4 jd_Wo_answerOf_48 rfl e32 rfl ?_
      obtain ⟨b35, e36, hh⟩ := q_bind hh
      obtain ⟨p33, e34, hh⟩ := q_bind hh
      refine r_cV (rest := []) 52 45 2 [.int v31] [va_rf p33.2] jd_Wo_answerOf_49 rfl e36 rfl rfl rfl rfl (q_s8 (Nat.le_of_ble_eq_true rfl)) (q_call_le (Nat.le_of_ble_eq_true rfl) (jm_AL_get e34)) rfl rfl ?_
      obtain ⟨u38, e37, hh⟩ := q_bind hh
      refine r_cast 55 1 10 jd_Wo_answerOf_52 rfl rfl e37 rfl ?_
      refine r_astore_n 56 [(3, va_rf p33.2), (5, .int (l5 + 1)), (4, .int (l4 + v25)), (0, va_rf (some l0)), (6, .int l6)] jd_Wo_answerOf_55 (by decide) rfl rfl ?_
      refine r_iinc 59 4 [(6, .int (l6 + 1)), (3, va_rf p33.2), (5, .int (l5 + 1)), (4, .int (l4 + v25)), (0, va_rf (some l0))] 1 jd_Wo_answerOf_56 rfl (by decide) (by decide) rfl rfl ?_
      refine r_goto 11 jd_Wo_answerOf_59 rfl ?_
      refine q_sub [4, 1, 3, 2, 0] rfl ?_
      exact hrc _ _ _ _ _ _ hh
theorem jm_Wo_answerOf_L11 {p : q_S × Int32} : ∀ (n : Nat) (x : q_S) (l0 : Nat) (l3 : Option Nat) (l4 : Int32) (l5 : Int32) (l6 : Int32), jf_Wo_answerOf_L11 n x l0 l3 l4 l5 l6 = some p → q_X (q_call 3) (fun y o => y = p.1 ∧ o = some (.int p.2)) jq_Wo_answerOf 11 [(0, va_rf (some l0)), (3, va_rf l3), (4, .int l4), (5, .int l5), (6, .int l6)] [] x
  | 0, _, _, _, _, _, _, hh => nomatch hh
  | n + 1, x, l0, l3, l4, l5, l6, hh => jm_Wo_answerOf_B11 (jm_Wo_answerOf_L11 n) x l0 l3 l4 l5 l6 hh
def jf_Wo_answerOf (x : q_S) (a0 : Nat) (a1 : Option Nat) (a2 : Int32) : Option (q_S × Int32) :=
  jf_Wo_answerOf_L11 lpK x a0 a1 0 a2 0
theorem jm_Wo_answerOf {x : q_S} {a0 : Nat} {a1 : Option Nat} {a2 : Int32} {p : q_S × Int32} (hh : jf_Wo_answerOf x a0 a1 a2 = some p) : q_call 4 jq_Wo_answerOf [va_rf (some a0), va_rf a1, .int a2] x p.1 (some (.int p.2)) := by
  unfold jf_Wo_answerOf at hh
  refine ⟨List.mem_of_getElem? (i := 17) rfl, Nat.le_of_ble_eq_true rfl, List.forall_mem_cons.mpr ⟨rfl, List.forall_mem_cons.mpr ⟨q_cat _, List.forall_mem_cons.mpr ⟨rfl, fun _ h => by cases h⟩⟩⟩, ?_⟩
  show q_X (q_call 3) _ jq_Wo_answerOf 0 [(0, va_rf (some a0)), (1, va_rf a1), (2, .int a2)] [] x
  refine r_aload_n 1 1 jd_Wo_answerOf_0 rfl rfl ?_
  refine r_astore_n 2 [(3, va_rf a1), (0, va_rf (some a0)), (1, va_rf a1), (2, .int a2)] jd_Wo_answerOf_1 (by decide) rfl rfl ?_
  refine r_iconst 3 0 jd_Wo_answerOf_2 (by decide) rfl ?_
  refine r_istore 5 [(4, .int 0), (3, va_rf a1), (0, va_rf (some a0)), (1, va_rf a1), (2, .int a2)] jd_Wo_answerOf_3 (by decide) rfl rfl ?_
  refine r_iload_n 6 4 jd_Wo_answerOf_5 rfl rfl ?_
  refine r_istore 8 [(5, .int a2), (4, .int 0), (3, va_rf a1), (0, va_rf (some a0)), (1, va_rf a1), (2, .int a2)] jd_Wo_answerOf_6 (by decide) rfl rfl ?_
  refine r_iconst 9 0 jd_Wo_answerOf_8 (by decide) rfl ?_
  refine r_istore 11 [(6, .int 0), (5, .int a2), (4, .int 0), (3, va_rf a1), (0, va_rf (some a0)), (1, va_rf a1), (2, .int a2)] jd_Wo_answerOf_9 (by decide) rfl rfl ?_
  refine q_sub [4, 3, 2, 1, 0] rfl ?_
  exact jm_Wo_answerOf_L11 lpK _ _ _ _ _ _ hh
-- BeanContexts$Workshop.liveBean(I)LBeanContexts$Bean;
def jf_Wo_liveBean (x : q_S) (a0 : Nat) (a1 : Int32) : Option (q_S × Option Nat) :=
  (q_gR x (some a0) 4 2).bind fun v1 =>
  (q_av x v1 2).bind fun b5 =>
  (jf_AL_size x b5).bind fun p3 =>
  (jf_Bc_isBelow p3.1 a1 p3.2).bind fun p7 =>
  if p7.2 = 0 then
    some (p7.1, none)
  else
    (q_gR p7.1 (some a0) 4 2).bind fun v10 =>
    (q_av p7.1 v10 2).bind fun b14 =>
    (jf_AL_get p7.1 b14 a1).bind fun p12 =>
    (q_ck p12.1 p12.2 10).bind fun u17 =>
    (q_gR p12.1 p12.2 10 1).bind fun v18 =>
    (q_gI p12.1 v18 9 6).bind fun v20 =>
    if v20 = 0 then
      some (p12.1, p12.2)
    else
      some (p12.1, none)
theorem jm_Wo_liveBean {x : q_S} {a0 : Nat} {a1 : Int32} {p : q_S × Option Nat} (hh : jf_Wo_liveBean x a0 a1 = some p) : q_call 4 jq_Wo_liveBean [va_rf (some a0), .int a1] x p.1 (some (va_rf p.2)) := by
  unfold jf_Wo_liveBean at hh
  refine ⟨List.mem_of_getElem? (i := 19) rfl, Nat.le_of_ble_eq_true rfl, List.forall_mem_cons.mpr ⟨rfl, List.forall_mem_cons.mpr ⟨rfl, fun _ h => by cases h⟩⟩, ?_⟩
  show q_X (q_call 3) _ jq_Wo_liveBean 0 [(0, va_rf (some a0)), (1, .int a1)] [] x
  refine r_iload_n 1 1 jd_Wo_liveBean_0 rfl rfl ?_
  refine r_aload_n 2 0 jd_Wo_liveBean_1 rfl rfl ?_
  obtain ⟨v1, e2, hh⟩ := q_bind hh
  refine r_getR 5 15 jd_Wo_liveBean_2 rfl e2 rfl ?_
  obtain ⟨b5, e6, hh⟩ := q_bind hh
  obtain ⟨p3, e4, hh⟩ := q_bind hh
  refine r_cV (rest := [.int a1]) 8 46 2 [] [.int p3.2, .int a1] jd_Wo_liveBean_5 rfl e6 rfl rfl rfl rfl (q_s8 (Nat.le_of_ble_eq_true rfl)) (q_call_le (Nat.le_of_ble_eq_true rfl) (jm_AL_size e4)) rfl rfl ?_
  obtain ⟨p7, e8, hh⟩ := q_bind hh
  refine r_cS (rest := []) 11 4 [.int a1, .int p3.2] [.int p7.2] jd_Wo_liveBean_8 rfl rfl rfl (q_s8 (Nat.le_of_ble_eq_true rfl)) (q_call_le (Nat.le_of_ble_eq_true rfl) (jm_Bc_isBelow e8)) rfl rfl ?_
  rcases q_ite hh with ⟨c9, hh⟩ | ⟨c9, hh⟩
  · refine r_if_f 14 16 jd_Wo_liveBean_11 rfl (fun z => z c9) rfl ?_
    refine r_null 15 jd_Wo_liveBean_14 rfl ?_
    cases hh
    exact r_aretO jd_Wo_liveBean_15 rfl ⟨rfl, rfl⟩
  · refine r_if_t 16 jd_Wo_liveBean_11 rfl c9 ?_
    refine r_aload_n 17 0 jd_Wo_liveBean_16 rfl rfl ?_
    obtain ⟨v10, e11, hh⟩ := q_bind hh
    refine r_getR 20 15 jd_Wo_liveBean_17 rfl e11 rfl ?_
    refine r_iload_n 21 1 jd_Wo_liveBean_20 rfl rfl ?_
    obtain ⟨b14, e15, hh⟩ := q_bind hh
    obtain ⟨p12, e13, hh⟩ := q_bind hh
    refine r_cV (rest := []) 24 45 2 [.int a1] [va_rf p12.2] jd_Wo_liveBean_21 rfl e15 rfl rfl rfl rfl (q_s8 (Nat.le_of_ble_eq_true rfl)) (q_call_le (Nat.le_of_ble_eq_true rfl) (jm_AL_get e13)) rfl rfl ?_
    obtain ⟨u17, e16, hh⟩ := q_bind hh
    refine r_cast 27 1 10 jd_Wo_liveBean_24 rfl rfl e16 rfl ?_
    refine r_astore_n 28 [(2, va_rf p12.2), (0, va_rf (some a0)), (1, .int a1)] jd_Wo_liveBean_27 (by decide) rfl rfl ?_
    refine r_aload_n 29 0 jd_Wo_liveBean_28 rfl rfl ?_
    obtain ⟨v18, e19, hh⟩ := q_bind hh
    refine r_getR 32 26 jd_Wo_liveBean_29 rfl e19 rfl ?_
    obtain ⟨v20, e21, hh⟩ := q_bind hh
    refine r_getI 35 27 jd_Wo_liveBean_32 rfl e21 rfl ?_
    rcases q_ite hh with ⟨c22, hh⟩ | ⟨c22, hh⟩
    · refine r_if_t 42 jd_Wo_liveBean_35 rfl c22 ?_
      refine r_aload_n 43 0 jd_Wo_liveBean_42 rfl rfl ?_
      cases hh
      exact r_aretO jd_Wo_liveBean_43 rfl ⟨rfl, rfl⟩
    · refine r_if_f 38 42 jd_Wo_liveBean_35 rfl c22 rfl ?_
      refine r_null 39 jd_Wo_liveBean_38 rfl ?_
      refine r_goto 43 jd_Wo_liveBean_39 rfl ?_
      cases hh
      exact r_aretO jd_Wo_liveBean_43 rfl ⟨rfl, rfl⟩
-- BeanContexts.call(II)J
def jf_Bc_call (x : q_S) (a0 : Nat) (a1 : Int32) (a2 : Int32) : Option (q_S × Int64) :=
  (q_gR x (some a0) 0 3).bind fun v1 =>
  (q_av x v1 4).bind fun b5 =>
  (jf_Wo_liveBean x b5 a1).bind fun p3 =>
  if p3.2 = none then
    some (p3.1, 4294967296)
  else
    (q_gR p3.1 (some a0) 0 3).bind fun v8 =>
    (q_av p3.1 v8 4).bind fun b12 =>
    (jf_Wo_answerOf p3.1 b12 p3.2 a2).bind fun p10 =>
    some (p10.1, p10.2.toInt64)
theorem jm_Bc_call {x : q_S} {a0 : Nat} {a1 : Int32} {a2 : Int32} {p : q_S × Int64} (hh : jf_Bc_call x a0 a1 a2 = some p) : q_call 5 jq_Bc_call [va_rf (some a0), .int a1, .int a2] x p.1 (some (.long p.2)) := by
  unfold jf_Bc_call at hh
  refine ⟨List.mem_of_getElem? (i := 16) rfl, Nat.le_of_ble_eq_true rfl, List.forall_mem_cons.mpr ⟨rfl, List.forall_mem_cons.mpr ⟨rfl, List.forall_mem_cons.mpr ⟨rfl, fun _ h => by cases h⟩⟩⟩, ?_⟩
  show q_X (q_call 4) _ jq_Bc_call 0 [(0, va_rf (some a0)), (1, .int a1), (2, .int a2)] [] x
  refine r_aload_n 1 0 jd_Bc_call_0 rfl rfl ?_
  obtain ⟨v1, e2, hh⟩ := q_bind hh
  refine r_getR 4 3 jd_Bc_call_1 rfl e2 rfl ?_
  refine r_iload_n 5 1 jd_Bc_call_4 rfl rfl ?_
  obtain ⟨b5, e6, hh⟩ := q_bind hh
  obtain ⟨p3, e4, hh⟩ := q_bind hh
  refine r_cV (rest := []) 8 42 4 [.int a1] [va_rf p3.2] jd_Bc_call_5 rfl e6 rfl rfl rfl rfl (q_s8 (Nat.le_of_ble_eq_true rfl)) (q_call_le (Nat.le_of_ble_eq_true rfl) (jm_Wo_liveBean e4)) rfl rfl ?_
  refine r_astore_n 9 [(3, va_rf p3.2), (0, va_rf (some a0)), (1, .int a1), (2, .int a2)] jd_Bc_call_8 (by decide) rfl rfl ?_
  refine r_aload_n 10 0 jd_Bc_call_9 rfl rfl ?_
  rcases q_ite hh with ⟨c7, hh⟩ | ⟨c7, hh⟩
  · refine r_ifnonnull_f 13 19 jd_Bc_call_10 rfl c7 rfl ?_
    refine r_ldc2 16 0 jd_Bc_call_13 rfl rfl ?_
    refine r_goto 29 jd_Bc_call_16 rfl ?_
    cases hh
    exact r_lret jd_Bc_call_29 rfl ⟨rfl, rfl⟩
  · refine r_ifnonnull_t 19 jd_Bc_call_10 rfl c7 ?_
    refine r_aload_n 20 1 jd_Bc_call_19 rfl rfl ?_
    obtain ⟨v8, e9, hh⟩ := q_bind hh
    refine r_getR 23 3 jd_Bc_call_20 rfl e9 rfl ?_
    refine r_aload_n 24 0 jd_Bc_call_23 rfl rfl ?_
    refine r_iload_n 25 3 jd_Bc_call_24 rfl rfl ?_
    obtain ⟨b12, e13, hh⟩ := q_bind hh
    obtain ⟨p10, e11, hh⟩ := q_bind hh
    refine r_cV (rest := []) 28 43 4 [va_rf p3.2, .int a2] [.int p10.2] jd_Bc_call_25 rfl e13 rfl rfl rfl rfl (q_s8 (Nat.le_of_ble_eq_true rfl)) (q_call_le (Nat.le_of_ble_eq_true rfl) (jm_Wo_answerOf e11)) rfl rfl ?_
    refine r_i2l 29 jd_Bc_call_28 rfl ?_
    cases hh
    exact r_lret jd_Bc_call_29 rfl ⟨rfl, rfl⟩
-- BeanContexts.isConfiguration(I)Z
def jf_Bc_isConfiguration (x : q_S) (a0 : Nat) (a1 : Int32) : Option (q_S × Int32) :=
  (q_gR x (some a0) 0 1).bind fun v1 =>
  (q_av x v1 2).bind fun b5 =>
  (jf_AL_size x b5).bind fun p3 =>
  (jf_Bc_isBelow p3.1 a1 p3.2).bind fun p7 =>
  if p7.2 &&& 1 = p7.2 then some (p7.1, p7.2) else none
theorem jm_Bc_isConfiguration {x : q_S} {a0 : Nat} {a1 : Int32} {p : q_S × Int32} (hh : jf_Bc_isConfiguration x a0 a1 = some p) : q_call 2 jq_Bc_isConfiguration [va_rf (some a0), .int a1] x p.1 (some (.int p.2)) := by
  unfold jf_Bc_isConfiguration at hh
  refine ⟨List.mem_of_getElem? (i := 21) rfl, Nat.le_of_ble_eq_true rfl, List.forall_mem_cons.mpr ⟨rfl, List.forall_mem_cons.mpr ⟨rfl, fun _ h => by cases h⟩⟩, ?_⟩
  show q_X (q_call 1) _ jq_Bc_isConfiguration 0 [(0, va_rf (some a0)), (1, .int a1)] [] x
  refine r_iload_n 1 1 jd_Bc_isConfiguration_0 rfl rfl ?_
  refine r_aload_n 2 0 jd_Bc_isConfiguration_1 rfl rfl ?_
  obtain ⟨v1, e2, hh⟩ := q_bind hh
  refine r_getR 5 1 jd_Bc_isConfiguration_2 rfl e2 rfl ?_
  obtain ⟨b5, e6, hh⟩ := q_bind hh
  obtain ⟨p3, e4, hh⟩ := q_bind hh
  refine r_cV (rest := [.int a1]) 8 47 2 [] [.int p3.2, .int a1] jd_Bc_isConfiguration_5 rfl e6 rfl rfl rfl rfl (q_s8 (Nat.le_of_ble_eq_true rfl)) (q_call_le (Nat.le_of_ble_eq_true rfl) (jm_AL_size e4)) rfl rfl ?_
  obtain ⟨p7, e8, hh⟩ := q_bind hh
  refine r_cS (rest := []) 11 6 [.int a1, .int p3.2] [.int p7.2] jd_Bc_isConfiguration_8 rfl rfl rfl (q_s8 (Nat.le_of_ble_eq_true rfl)) (q_call_le (Nat.le_of_ble_eq_true rfl) (jm_Bc_isBelow e8)) rfl rfl ?_
  rcases q_ite hh with ⟨c9, hh⟩ | ⟨-, hh⟩
  · cases hh
    exact r_zret jd_Bc_isConfiguration_11 rfl c9 ⟨rfl, rfl⟩
  · cases hh
-- BeanContexts.isProfile(I)Z
def jf_Bc_isProfile (x : q_S) (a0 : Int32) : Option (q_S × Int32) :=
  (jf_Bc_isBelow x a0 4).bind fun p1 =>
  if p1.2 &&& 1 = p1.2 then some (p1.1, p1.2) else none
theorem jm_Bc_isProfile {x : q_S} {a0 : Int32} {p : q_S × Int32} (hh : jf_Bc_isProfile x a0 = some p) : q_call 2 jq_Bc_isProfile [.int a0] x p.1 (some (.int p.2)) := by
  unfold jf_Bc_isProfile at hh
  refine ⟨List.mem_of_getElem? (i := 22) rfl, Nat.le_of_ble_eq_true rfl, List.forall_mem_cons.mpr ⟨rfl, fun _ h => by cases h⟩, ?_⟩
  show q_X (q_call 1) _ jq_Bc_isProfile 0 [(0, .int a0)] [] x
  refine r_iload_n 1 0 jd_Bc_isProfile_0 rfl rfl ?_
  refine r_iconst 2 4 jd_Bc_isProfile_1 (by decide) rfl ?_
  obtain ⟨p1, e2, hh⟩ := q_bind hh
  refine r_cS (rest := []) 5 6 [.int a0, .int 4] [.int p1.2] jd_Bc_isProfile_2 rfl rfl rfl (q_s8 (Nat.le_of_ble_eq_true rfl)) (q_call_le (Nat.le_of_ble_eq_true rfl) (jm_Bc_isBelow e2)) rfl rfl ?_
  rcases q_ite hh with ⟨c3, hh⟩ | ⟨-, hh⟩
  · cases hh
    exact r_zret jd_Bc_isProfile_5 rfl c3 ⟨rfl, rfl⟩
  · cases hh
-- BeanContexts$Catalog.flagged(I)I
def jf_Ca_flagged_B4 (rc : q_S → Nat → Int32 → Int32 → Int32 → Option (q_S × Int32)) (x : q_S) (l0 : Nat) (l1 : Int32) (l2 : Int32) (l3 : Int32) : Option (q_S × Int32) :=
  (q_gR x (some l0) 1 1).bind fun v1 =>
  (q_av x v1 2).bind fun b5 =>
  (jf_AL_size x b5).bind fun p3 =>
  if p3.2 ≤ l3 then
    some (p3.1, l2)
  else
    (q_gR p3.1 (some l0) 1 1).bind fun v8 =>
    (q_av p3.1 v8 2).bind fun b12 =>
    (jf_AL_get p3.1 b12 l3).bind fun p10 =>
    (q_ck p10.1 p10.2 6).bind fun u15 =>
    (q_gI p10.1 p10.2 6 1).bind fun v16 =>
    if (v16 &&& l1) = 0 then
      rc p10.1 l0 l1 l2 (l3 + 1)
    else
      rc p10.1 l0 l1 (l2 ||| ((1 : Int32) <<< (l3 &&& 31))) (l3 + 1)
def jf_Ca_flagged_L4 : Nat → q_S → Nat → Int32 → Int32 → Int32 → Option (q_S × Int32)
  | 0, _, _, _, _, _ => none
  | n + 1, x, l0, l1, l2, l3 => jf_Ca_flagged_B4 (jf_Ca_flagged_L4 n) x l0 l1 l2 l3
theorem jm_Ca_flagged_B4 {p : q_S × Int32} {rc : q_S → Nat → Int32 → Int32 → Int32 → Option (q_S × Int32)} (hrc : ∀ (x : q_S) (l0 : Nat) (l1 : Int32) (l2 : Int32) (l3 : Int32), rc x l0 l1 l2 l3 = some p → q_X (q_call 3) (fun y o => y = p.1 ∧ o = some (.int p.2)) jq_Ca_flagged 4 [(0, va_rf (some l0)), (1, .int l1), (2, .int l2), (3, .int l3)] [] x) (x : q_S) (l0 : Nat) (l1 : Int32) (l2 : Int32) (l3 : Int32) (hh : jf_Ca_flagged_B4 rc x l0 l1 l2 l3 = some p) : q_X (q_call 3) (fun y o => y = p.1 ∧ o = some (.int p.2)) jq_Ca_flagged 4 [(0, va_rf (some l0)), (1, .int l1), (2, .int l2), (3, .int l3)] [] x := by
  unfold jf_Ca_flagged_B4 at hh
  refine r_iload_n 5 3 jd_Ca_flagged_4 rfl rfl ?_
  refine r_aload_n 6 0 jd_Ca_flagged_5 rfl rfl ?_
  obtain ⟨v1, e2, hh⟩ := q_bind hh
  refine r_getR 9 6 jd_Ca_flagged_6 rfl e2 rfl ?_
  obtain ⟨b5, e6, hh⟩ := q_bind hh
  obtain ⟨p3, e4, hh⟩ := q_bind hh
  refine r_cV (rest := [.int l3]) 12 55 2 [] [.int p3.2, .int l3] jd_Ca_flagged_9 rfl e6 rfl rfl rfl rfl (q_s8 (Nat.le_of_ble_eq_true rfl)) (q_call_le (Nat.le_of_ble_eq_true rfl) (jm_AL_size e4)) rfl rfl ?_
  rcases q_ite hh with ⟨c7, hh⟩ | ⟨c7, hh⟩
  · refine r_ic_t 46 jd_Ca_flagged_12 rfl c7 ?_
    refine r_iload_n 47 2 jd_Ca_flagged_46 rfl rfl ?_
    cases hh
    exact r_iret jd_Ca_flagged_47 rfl ⟨rfl, rfl⟩
  · refine r_ic_f 15 46 jd_Ca_flagged_12 rfl c7 rfl ?_
    refine r_aload_n 16 0 jd_Ca_flagged_15 rfl rfl ?_
    obtain ⟨v8, e9, hh⟩ := q_bind hh
    refine r_getR 19 6 jd_Ca_flagged_16 rfl e9 rfl ?_
    refine r_iload_n 20 3 jd_Ca_flagged_19 rfl rfl ?_
    obtain ⟨b12, e13, hh⟩ := q_bind hh
    obtain ⟨p10, e11, hh⟩ := q_bind hh
    refine r_cV (rest := []) 23 56 2 [.int l3] [va_rf p10.2] jd_Ca_flagged_20 rfl e13 rfl rfl rfl rfl (q_s8 (Nat.le_of_ble_eq_true rfl)) (q_call_le (Nat.le_of_ble_eq_true rfl) (jm_AL_get e11)) rfl rfl ?_
    obtain ⟨u15, e14, hh⟩ := q_bind hh
    refine r_cast 26 3 6 jd_Ca_flagged_23 rfl rfl e14 rfl ?_
    obtain ⟨v16, e17, hh⟩ := q_bind hh
    refine r_getI 29 31 jd_Ca_flagged_26 rfl e17 rfl ?_
    refine r_iload_n 30 1 jd_Ca_flagged_29 rfl rfl ?_
    refine r_iand 31 jd_Ca_flagged_30 rfl ?_
    rcases q_ite hh with ⟨c18, hh⟩ | ⟨c18, hh⟩
    · refine r_if_t 40 jd_Ca_flagged_31 rfl c18 ?_
      refine r_iinc 43 3 [(3, .int (l3 + 1)), (0, va_rf (some l0)), (1, .int l1), (2, .int l2)] 1 jd_Ca_flagged_40 rfl (by decide) (by decide) rfl rfl ?_
      refine r_goto 4 jd_Ca_flagged_43 rfl ?_
      refine q_sub [1, 2, 3, 0] rfl ?_
      exact hrc _ _ _ _ _ hh
    · refine r_if_f 34 40 jd_Ca_flagged_31 rfl c18 rfl ?_
      refine r_iload_n 35 2 jd_Ca_flagged_34 rfl rfl ?_
      refine r_iconst 36 1 jd_Ca_flagged_35 (by decide) rfl ?_
      refine r_iload_n 37 3 jd_Ca_flagged_36 rfl rfl ?_
      refine r_ishl 38 jd_Ca_flagged_37 rfl ?_
      refine r_ior 39 jd_Ca_flagged_38 rfl ?_
      refine r_istore_n 40 [(2, .int (l2 ||| ((1 : Int32) <<< (l3 &&& 31)))), (0, va_rf (some l0)), (1, .int l1), (3, .int l3)] jd_Ca_flagged_39 (by decide) rfl rfl ?_
      refine r_iinc 43 3 [(3, .int (l3 + 1)), (2, .int (l2 ||| ((1 : Int32) <<< (l3 &&& 31)))), (0, va_rf (some l0)), (1, .int l1)] 1 jd_Ca_flagged_40 rfl (by decide) (by decide) rfl rfl ?_
      refine r_goto 4 jd_Ca_flagged_43 rfl ?_
      refine q_sub [2, 3, 1, 0] rfl ?_
      exact hrc _ _ _ _ _ hh
theorem jm_Ca_flagged_L4 {p : q_S × Int32} : ∀ (n : Nat) (x : q_S) (l0 : Nat) (l1 : Int32) (l2 : Int32) (l3 : Int32), jf_Ca_flagged_L4 n x l0 l1 l2 l3 = some p → q_X (q_call 3) (fun y o => y = p.1 ∧ o = some (.int p.2)) jq_Ca_flagged 4 [(0, va_rf (some l0)), (1, .int l1), (2, .int l2), (3, .int l3)] [] x
  | 0, _, _, _, _, _, hh => nomatch hh
  | n + 1, x, l0, l1, l2, l3, hh => jm_Ca_flagged_B4 (jm_Ca_flagged_L4 n) x l0 l1 l2 l3 hh
def jf_Ca_flagged (x : q_S) (a0 : Nat) (a1 : Int32) : Option (q_S × Int32) :=
  jf_Ca_flagged_L4 lpK x a0 a1 0 0
theorem jm_Ca_flagged {x : q_S} {a0 : Nat} {a1 : Int32} {p : q_S × Int32} (hh : jf_Ca_flagged x a0 a1 = some p) : q_call 4 jq_Ca_flagged [va_rf (some a0), .int a1] x p.1 (some (.int p.2)) := by
  unfold jf_Ca_flagged at hh
  refine ⟨List.mem_of_getElem? (i := 24) rfl, Nat.le_of_ble_eq_true rfl, List.forall_mem_cons.mpr ⟨rfl, List.forall_mem_cons.mpr ⟨rfl, fun _ h => by cases h⟩⟩, ?_⟩
  show q_X (q_call 3) _ jq_Ca_flagged 0 [(0, va_rf (some a0)), (1, .int a1)] [] x
  refine r_iconst 1 0 jd_Ca_flagged_0 (by decide) rfl ?_
  refine r_istore_n 2 [(2, .int 0), (0, va_rf (some a0)), (1, .int a1)] jd_Ca_flagged_1 (by decide) rfl rfl ?_
  refine r_iconst 3 0 jd_Ca_flagged_2 (by decide) rfl ?_
  refine r_istore_n 4 [(3, .int 0), (2, .int 0), (0, va_rf (some a0)), (1, .int a1)] jd_Ca_flagged_3 (by decide) rfl rfl ?_
  refine q_sub [2, 3, 1, 0] rfl ?_
  exact jm_Ca_flagged_L4 lpK _ _ _ _ _ hh
-- BeanContexts$Key.<init>(IIIIILBeanContexts$Key;)V
def jf_Ke_init (x : q_S) (a0 : Nat) (a1 : Int32) (a2 : Int32) (a3 : Int32) (a4 : Int32) (a5 : Int32) (a6 : Option Nat) : Option (q_S × Unit) :=
  (q_pI x (some a0) 8 0 a1).bind fun x1 =>
  (q_pI x1 (some a0) 8 1 a2).bind fun x3 =>
  (q_pI x3 (some a0) 8 2 a3).bind fun x5 =>
  (q_pI x5 (some a0) 8 3 a4).bind fun x7 =>
  (q_pI x7 (some a0) 8 4 a5).bind fun x9 =>
  (q_pR x9 (some a0) 8 5 a6).bind fun x11 =>
  some (x11, ())
theorem jm_Ke_init {x : q_S} {a0 : Nat} {a1 : Int32} {a2 : Int32} {a3 : Int32} {a4 : Int32} {a5 : Int32} {a6 : Option Nat} {p : q_S × Unit} (hh : jf_Ke_init x a0 a1 a2 a3 a4 a5 a6 = some p) : q_call 1 jq_Ke_init [va_rf (some a0), .int a1, .int a2, .int a3, .int a4, .int a5, va_rf a6] x p.1 (none) := by
  unfold jf_Ke_init at hh
  refine ⟨List.mem_of_getElem? (i := 25) rfl, Nat.le_of_ble_eq_true rfl, List.forall_mem_cons.mpr ⟨rfl, List.forall_mem_cons.mpr ⟨rfl, List.forall_mem_cons.mpr ⟨rfl, List.forall_mem_cons.mpr ⟨rfl, List.forall_mem_cons.mpr ⟨rfl, List.forall_mem_cons.mpr ⟨rfl, List.forall_mem_cons.mpr ⟨q_cat _, fun _ h => by cases h⟩⟩⟩⟩⟩⟩⟩, ?_⟩
  show q_X (q_call 0) _ jq_Ke_init 0 [(0, va_rf (some a0)), (1, .int a1), (2, .int a2), (3, .int a3), (4, .int a4), (5, .int a5), (6, va_rf a6)] [] x
  refine r_aload_n 1 0 jd_Ke_init_0 rfl rfl ?_
  refine r_obj 4 6 jd_Ke_init_1 rfl (q_s8 (Nat.le_of_ble_eq_true rfl)) rfl ?_
  refine r_aload_n 5 0 jd_Ke_init_4 rfl rfl ?_
  refine r_iload_n 6 1 jd_Ke_init_5 rfl rfl ?_
  obtain ⟨x1, e2, hh⟩ := q_bind hh
  refine r_putI 9 32 jd_Ke_init_6 rfl rfl (Or.inr ⟨rfl, rfl⟩) e2 rfl ?_
  refine r_aload_n 10 0 jd_Ke_init_9 rfl rfl ?_
  refine r_iload_n 11 2 jd_Ke_init_10 rfl rfl ?_
  obtain ⟨x3, e4, hh⟩ := q_bind hh
  refine r_putI 14 33 jd_Ke_init_11 rfl rfl (Or.inr ⟨rfl, rfl⟩) e4 rfl ?_
  refine r_aload_n 15 0 jd_Ke_init_14 rfl rfl ?_
  refine r_iload_n 16 3 jd_Ke_init_15 rfl rfl ?_
  obtain ⟨x5, e6, hh⟩ := q_bind hh
  refine r_putI 19 34 jd_Ke_init_16 rfl rfl (Or.inr ⟨rfl, rfl⟩) e6 rfl ?_
  refine r_aload_n 20 0 jd_Ke_init_19 rfl rfl ?_
  refine r_iload 22 4 jd_Ke_init_20 rfl rfl ?_
  obtain ⟨x7, e8, hh⟩ := q_bind hh
  refine r_putI 25 35 jd_Ke_init_22 rfl rfl (Or.inr ⟨rfl, rfl⟩) e8 rfl ?_
  refine r_aload_n 26 0 jd_Ke_init_25 rfl rfl ?_
  refine r_iload 28 5 jd_Ke_init_26 rfl rfl ?_
  obtain ⟨x9, e10, hh⟩ := q_bind hh
  refine r_putI 31 36 jd_Ke_init_28 rfl rfl (Or.inr ⟨rfl, rfl⟩) e10 rfl ?_
  refine r_aload_n 32 0 jd_Ke_init_31 rfl rfl ?_
  refine r_aload 34 6 jd_Ke_init_32 rfl rfl ?_
  obtain ⟨x11, e12, hh⟩ := q_bind hh
  refine r_putR 37 37 jd_Ke_init_34 rfl rfl (Or.inr ⟨rfl, rfl⟩) e12 rfl ?_
  cases hh
  exact r_vret jd_Ke_init_37 rfl ⟨rfl, rfl⟩
-- BeanContexts.sharedKey(IILBeanContexts$Key;)LBeanContexts$Key;
def jf_Bc_sharedKey_B3 (rc : q_S → Nat → Int32 → Int32 → Option Nat → Int32 → Option (q_S × Option Nat)) (x : q_S) (l0 : Nat) (l1 : Int32) (l2 : Int32) (l3 : Option Nat) (l4 : Int32) : Option (q_S × Option Nat) :=
  (q_gR x (some l0) 0 1).bind fun v1 =>
  (q_av x v1 2).bind fun b5 =>
  (jf_AL_size x b5).bind fun p3 =>
  if p3.2 ≤ l4 then
    (q_gR p3.1 (some l0) 0 0).bind fun v8 =>
    (q_av p3.1 v8 1).bind fun b12 =>
    (jf_Ca_flagged p3.1 b12 4).bind fun p10 =>
    (q_gR p10.1 (some l0) 0 0).bind fun v14 =>
    (q_av p10.1 v14 1).bind fun b18 =>
    (jf_Ca_flagged p10.1 b18 2).bind fun p16 =>
    (q_nO p16.1 8 jdv_8).bind fun x20 =>
    (q_gR x20 (some l0) 0 1).bind fun v22 =>
    (q_av x20 v22 2).bind fun b26 =>
    (jf_AL_size x20 b26).bind fun p24 =>
    (jf_Ke_init p24.1 (q_sz p16.1) p24.2 l1 l2 (l2 ||| (l1 &&& (p10.2 ^^^ (-1)))) (l2 ||| ((l2 ||| (l1 &&& (p10.2 ^^^ (-1)))) &&& (p16.2 ^^^ (-1)))) l3).bind fun p28 =>
    some (p28.1, (some (q_sz p16.1)))
  else
    (q_gR p3.1 (some l0) 0 1).bind fun v30 =>
    (q_av p3.1 v30 2).bind fun b34 =>
    (jf_AL_get p3.1 b34 l4).bind fun p32 =>
    (q_ck p32.1 p32.2 8).bind fun u37 =>
    (q_gI p32.1 p32.2 8 1).bind fun v38 =>
    if v38 = l1 then
      (q_gI p32.1 p32.2 8 2).bind fun v41 =>
      if v41 = l2 then
        (q_gR p32.1 p32.2 8 5).bind fun v44 =>
        if v44 = l3 then
          some (p32.1, p32.2)
        else
          rc p32.1 l0 l1 l2 l3 (l4 + 1)
      else
        rc p32.1 l0 l1 l2 l3 (l4 + 1)
    else
      rc p32.1 l0 l1 l2 l3 (l4 + 1)
def jf_Bc_sharedKey_L3 : Nat → q_S → Nat → Int32 → Int32 → Option Nat → Int32 → Option (q_S × Option Nat)
  | 0, _, _, _, _, _, _ => none
  | n + 1, x, l0, l1, l2, l3, l4 => jf_Bc_sharedKey_B3 (jf_Bc_sharedKey_L3 n) x l0 l1 l2 l3 l4
theorem jm_Bc_sharedKey_B3 {p : q_S × Option Nat} {rc : q_S → Nat → Int32 → Int32 → Option Nat → Int32 → Option (q_S × Option Nat)} (hrc : ∀ (x : q_S) (l0 : Nat) (l1 : Int32) (l2 : Int32) (l3 : Option Nat) (l4 : Int32), rc x l0 l1 l2 l3 l4 = some p → q_X (q_call 4) (fun y o => y = p.1 ∧ o = some (va_rf p.2)) jq_Bc_sharedKey 3 [(0, va_rf (some l0)), (1, .int l1), (2, .int l2), (3, va_rf l3), (4, .int l4)] [] x) (x : q_S) (l0 : Nat) (l1 : Int32) (l2 : Int32) (l3 : Option Nat) (l4 : Int32) (hh : jf_Bc_sharedKey_B3 rc x l0 l1 l2 l3 l4 = some p) : q_X (q_call 4) (fun y o => y = p.1 ∧ o = some (va_rf p.2)) jq_Bc_sharedKey 3 [(0, va_rf (some l0)), (1, .int l1), (2, .int l2), (3, va_rf l3), (4, .int l4)] [] x := by
  unfold jf_Bc_sharedKey_B3 at hh
  refine r_iload 5 4 jd_Bc_sharedKey_3 rfl rfl ?_
  refine r_aload_n 6 0 jd_Bc_sharedKey_5 rfl rfl ?_
  obtain ⟨v1, e2, hh⟩ := q_bind hh
  refine r_getR 9 1 jd_Bc_sharedKey_6 rfl e2 rfl ?_
  obtain ⟨b5, e6, hh⟩ := q_bind hh
  obtain ⟨p3, e4, hh⟩ := q_bind hh
  refine r_cV (rest := [.int l4]) 12 47 2 [] [.int p3.2, .int l4] jd_Bc_sharedKey_9 rfl e6 rfl rfl rfl rfl (q_s8 (Nat.le_of_ble_eq_true rfl)) (q_call_le (Nat.le_of_ble_eq_true rfl) (jm_AL_size e4)) rfl rfl ?_
  rcases q_ite hh with ⟨c7, hh⟩ | ⟨c7, hh⟩
  · refine r_ic_t 65 jd_Bc_sharedKey_12 rfl c7 ?_
    refine r_iload_n 66 2 jd_Bc_sharedKey_65 rfl rfl ?_
    refine r_iload_n 67 1 jd_Bc_sharedKey_66 rfl rfl ?_
    refine r_aload_n 68 0 jd_Bc_sharedKey_67 rfl rfl ?_
    obtain ⟨v8, e9, hh⟩ := q_bind hh
    refine r_getR 71 0 jd_Bc_sharedKey_68 rfl e9 rfl ?_
    refine r_iconst 72 4 jd_Bc_sharedKey_71 (by decide) rfl ?_
    obtain ⟨b12, e13, hh⟩ := q_bind hh
    obtain ⟨p10, e11, hh⟩ := q_bind hh
    refine r_cV (rest := [.int l1, .int l2]) 75 54 1 [.int 4] [.int p10.2, .int l1, .int l2] jd_Bc_sharedKey_72 rfl e13 rfl rfl rfl rfl (q_s8 (Nat.le_of_ble_eq_true rfl)) (q_call_le (Nat.le_of_ble_eq_true rfl) (jm_Ca_flagged e11)) rfl rfl ?_
    refine r_iconst 76 (-1) jd_Bc_sharedKey_75 (by decide) rfl ?_
    refine r_ixor 77 jd_Bc_sharedKey_76 rfl ?_
    refine r_iand 78 jd_Bc_sharedKey_77 rfl ?_
    refine r_ior 79 jd_Bc_sharedKey_78 rfl ?_
    refine r_istore 81 [(4, .int (l2 ||| (l1 &&& (p10.2 ^^^ (-1))))), (0, va_rf (some l0)), (1, .int l1), (2, .int l2), (3, va_rf l3)] jd_Bc_sharedKey_79 (by decide) rfl rfl ?_
    refine r_iload_n 82 3 jd_Bc_sharedKey_81 rfl rfl ?_
    refine r_iload 84 0 jd_Bc_sharedKey_82 rfl rfl ?_
    refine r_aload_n 85 1 jd_Bc_sharedKey_84 rfl rfl ?_
    obtain ⟨v14, e15, hh⟩ := q_bind hh
    refine r_getR 88 0 jd_Bc_sharedKey_85 rfl e15 rfl ?_
    refine r_iconst 89 2 jd_Bc_sharedKey_88 (by decide) rfl ?_
    obtain ⟨b18, e19, hh⟩ := q_bind hh
    obtain ⟨p16, e17, hh⟩ := q_bind hh
    refine r_cV (rest := [.int (l2 ||| (l1 &&& (p10.2 ^^^ (-1)))), .int l2]) 92 54 1 [.int 2] [.int p16.2, .int (l2 ||| (l1 &&& (p10.2 ^^^ (-1)))), .int l2] jd_Bc_sharedKey_89 rfl e19 rfl rfl rfl rfl (q_s8 (Nat.le_of_ble_eq_true rfl)) (q_call_le (Nat.le_of_ble_eq_true rfl) (jm_Ca_flagged e17)) rfl rfl ?_
    refine r_iconst 93 (-1) jd_Bc_sharedKey_92 (by decide) rfl ?_
    refine r_ixor 94 jd_Bc_sharedKey_93 rfl ?_
    refine r_iand 95 jd_Bc_sharedKey_94 rfl ?_
    refine r_ior 96 jd_Bc_sharedKey_95 rfl ?_
    refine r_istore 98 [(5, .int (l2 ||| ((l2 ||| (l1 &&& (p10.2 ^^^ (-1)))) &&& (p16.2 ^^^ (-1))))), (4, .int (l2 ||| (l1 &&& (p10.2 ^^^ (-1))))), (0, va_rf (some l0)), (1, .int l1), (2, .int l2), (3, va_rf l3)] jd_Bc_sharedKey_96 (by decide) rfl rfl ?_
    obtain ⟨x20, e21, hh⟩ := q_bind hh
    refine r_new 101 10 jd_Bc_sharedKey_98 rfl e21 rfl ?_
    refine r_dupR 102 jd_Bc_sharedKey_101 rfl ?_
    refine r_aload_n 103 2 jd_Bc_sharedKey_102 rfl rfl ?_
    obtain ⟨v22, e23, hh⟩ := q_bind hh
    refine r_getR 106 1 jd_Bc_sharedKey_103 rfl e23 rfl ?_
    obtain ⟨b26, e27, hh⟩ := q_bind hh
    obtain ⟨p24, e25, hh⟩ := q_bind hh
    refine r_cV (rest := [va_rf (some (q_sz p16.1)), va_rf (some (q_sz p16.1))]) 109 47 2 [] [.int p24.2, va_rf (some (q_sz p16.1)), va_rf (some (q_sz p16.1))] jd_Bc_sharedKey_106 rfl e27 rfl rfl rfl rfl (q_s8 (Nat.le_of_ble_eq_true rfl)) (q_call_le (Nat.le_of_ble_eq_true rfl) (jm_AL_size e25)) rfl rfl ?_
    refine r_iload_n 110 3 jd_Bc_sharedKey_109 rfl rfl ?_
    refine r_iload_n 111 4 jd_Bc_sharedKey_110 rfl rfl ?_
    refine r_iload 113 1 jd_Bc_sharedKey_111 rfl rfl ?_
    refine r_iload 115 0 jd_Bc_sharedKey_113 rfl rfl ?_
    refine r_aload_n 116 5 jd_Bc_sharedKey_115 rfl rfl ?_
    obtain ⟨p28, e29, hh⟩ := q_bind hh
    refine r_cI (rest := [va_rf (some (q_sz p16.1))]) 119 12 [.int p24.2, .int l1, .int l2, .int (l2 ||| (l1 &&& (p10.2 ^^^ (-1)))), .int (l2 ||| ((l2 ||| (l1 &&& (p10.2 ^^^ (-1)))) &&& (p16.2 ^^^ (-1)))), va_rf l3] [va_rf (some (q_sz p16.1))] jd_Bc_sharedKey_116 rfl rfl rfl (q_s8 (Nat.le_of_ble_eq_true rfl)) (q_call_le (Nat.le_of_ble_eq_true rfl) (jm_Ke_init e29)) rfl rfl ?_
    cases hh
    exact r_aretO jd_Bc_sharedKey_119 rfl ⟨rfl, rfl⟩
  · refine r_ic_f 15 65 jd_Bc_sharedKey_12 rfl c7 rfl ?_
    refine r_aload_n 16 0 jd_Bc_sharedKey_15 rfl rfl ?_
    obtain ⟨v30, e31, hh⟩ := q_bind hh
    refine r_getR 19 1 jd_Bc_sharedKey_16 rfl e31 rfl ?_
    refine r_iload 21 4 jd_Bc_sharedKey_19 rfl rfl ?_
    obtain ⟨b34, e35, hh⟩ := q_bind hh
    obtain ⟨p32, e33, hh⟩ := q_bind hh
    refine r_cV (rest := []) 24 48 2 [.int l4] [va_rf p32.2] jd_Bc_sharedKey_21 rfl e35 rfl rfl rfl rfl (q_s8 (Nat.le_of_ble_eq_true rfl)) (q_call_le (Nat.le_of_ble_eq_true rfl) (jm_AL_get e33)) rfl rfl ?_
    obtain ⟨u37, e36, hh⟩ := q_bind hh
    refine r_cast 27 2 8 jd_Bc_sharedKey_24 rfl rfl e36 rfl ?_
    refine r_astore 29 [(5, va_rf p32.2), (0, va_rf (some l0)), (1, .int l1), (2, .int l2), (3, va_rf l3), (4, .int l4)] jd_Bc_sharedKey_27 (by decide) rfl rfl ?_
    refine r_aload 31 0 jd_Bc_sharedKey_29 rfl rfl ?_
    obtain ⟨v38, e39, hh⟩ := q_bind hh
    refine r_getI 34 28 jd_Bc_sharedKey_31 rfl e39 rfl ?_
    refine r_iload_n 35 2 jd_Bc_sharedKey_34 rfl rfl ?_
    rcases q_ite hh with ⟨c40, hh⟩ | ⟨c40, hh⟩
    · refine r_ic_f 38 59 jd_Bc_sharedKey_35 rfl (fun z => z c40) rfl ?_
      refine r_aload 40 0 jd_Bc_sharedKey_38 rfl rfl ?_
      obtain ⟨v41, e42, hh⟩ := q_bind hh
      refine r_getI 43 29 jd_Bc_sharedKey_40 rfl e42 rfl ?_
      refine r_iload_n 44 3 jd_Bc_sharedKey_43 rfl rfl ?_
      rcases q_ite hh with ⟨c43, hh⟩ | ⟨c43, hh⟩
      · refine r_ic_f 47 59 jd_Bc_sharedKey_44 rfl (fun z => z c43) rfl ?_
        refine r_aload 49 0 jd_Bc_sharedKey_47 rfl rfl ?_
        obtain ⟨v44, e45, hh⟩ := q_bind hh
        refine r_getR 52 30 jd_Bc_sharedKey_49 rfl e45 rfl ?_
        refine r_aload_n 53 4 jd_Bc_sharedKey_52 rfl rfl ?_
        rcases q_ite hh with ⟨c46, hh⟩ | ⟨c46, hh⟩
        · refine r_ac_f 56 59 jd_Bc_sharedKey_53 rfl (fun z => z c46) rfl ?_
          refine r_aload 58 0 jd_Bc_sharedKey_56 rfl rfl ?_
          cases hh
          exact r_aretO jd_Bc_sharedKey_58 rfl ⟨rfl, rfl⟩
        · refine r_ac_t 59 jd_Bc_sharedKey_53 rfl c46 ?_
          refine r_iinc 62 5 [(4, .int (l4 + 1)), (5, va_rf p32.2), (0, va_rf (some l0)), (1, .int l1), (2, .int l2), (3, va_rf l3)] 1 jd_Bc_sharedKey_59 rfl (by decide) (by decide) rfl rfl ?_
          refine r_goto 3 jd_Bc_sharedKey_62 rfl ?_
          refine q_sub [2, 3, 4, 5, 0] rfl ?_
          exact hrc _ _ _ _ _ _ hh
      · refine r_ic_t 59 jd_Bc_sharedKey_44 rfl c43 ?_
        refine r_iinc 62 5 [(4, .int (l4 + 1)), (5, va_rf p32.2), (0, va_rf (some l0)), (1, .int l1), (2, .int l2), (3, va_rf l3)] 1 jd_Bc_sharedKey_59 rfl (by decide) (by decide) rfl rfl ?_
        refine r_goto 3 jd_Bc_sharedKey_62 rfl ?_
        refine q_sub [2, 3, 4, 5, 0] rfl ?_
        exact hrc _ _ _ _ _ _ hh
    · refine r_ic_t 59 jd_Bc_sharedKey_35 rfl c40 ?_
      refine r_iinc 62 5 [(4, .int (l4 + 1)), (5, va_rf p32.2), (0, va_rf (some l0)), (1, .int l1), (2, .int l2), (3, va_rf l3)] 1 jd_Bc_sharedKey_59 rfl (by decide) (by decide) rfl rfl ?_
      refine r_goto 3 jd_Bc_sharedKey_62 rfl ?_
      refine q_sub [2, 3, 4, 5, 0] rfl ?_
      exact hrc _ _ _ _ _ _ hh
theorem jm_Bc_sharedKey_L3 {p : q_S × Option Nat} : ∀ (n : Nat) (x : q_S) (l0 : Nat) (l1 : Int32) (l2 : Int32) (l3 : Option Nat) (l4 : Int32), jf_Bc_sharedKey_L3 n x l0 l1 l2 l3 l4 = some p → q_X (q_call 4) (fun y o => y = p.1 ∧ o = some (va_rf p.2)) jq_Bc_sharedKey 3 [(0, va_rf (some l0)), (1, .int l1), (2, .int l2), (3, va_rf l3), (4, .int l4)] [] x
  | 0, _, _, _, _, _, _, hh => nomatch hh
  | n + 1, x, l0, l1, l2, l3, l4, hh => jm_Bc_sharedKey_B3 (jm_Bc_sharedKey_L3 n) x l0 l1 l2 l3 l4 hh
def jf_Bc_sharedKey (x : q_S) (a0 : Nat) (a1 : Int32) (a2 : Int32) (a3 : Option Nat) : Option (q_S × Option Nat) :=
  jf_Bc_sharedKey_L3 lpK x a0 a1 a2 a3 0
theorem jm_Bc_sharedKey {x : q_S} {a0 : Nat} {a1 : Int32} {a2 : Int32} {a3 : Option Nat} {p : q_S × Option Nat} (hh : jf_Bc_sharedKey x a0 a1 a2 a3 = some p) : q_call 5 jq_Bc_sharedKey [va_rf (some a0), .int a1, .int a2, va_rf a3] x p.1 (some (va_rf p.2)) := by
  unfold jf_Bc_sharedKey at hh
  refine ⟨List.mem_of_getElem? (i := 23) rfl, Nat.le_of_ble_eq_true rfl, List.forall_mem_cons.mpr ⟨rfl, List.forall_mem_cons.mpr ⟨rfl, List.forall_mem_cons.mpr ⟨rfl, List.forall_mem_cons.mpr ⟨q_cat _, fun _ h => by cases h⟩⟩⟩⟩, ?_⟩
  show q_X (q_call 4) _ jq_Bc_sharedKey 0 [(0, va_rf (some a0)), (1, .int a1), (2, .int a2), (3, va_rf a3)] [] x
  refine r_iconst 1 0 jd_Bc_sharedKey_0 (by decide) rfl ?_
  refine r_istore 3 [(4, .int 0), (0, va_rf (some a0)), (1, .int a1), (2, .int a2), (3, va_rf a3)] jd_Bc_sharedKey_1 (by decide) rfl rfl ?_
  refine q_sub [1, 2, 3, 4, 0] rfl ?_
  exact jm_Bc_sharedKey_L3 lpK _ _ _ _ _ _ hh
-- BeanContexts$Catalog.ofProfile(I)I
def jf_Ca_ofProfile_B4 (rc : q_S → Nat → Int32 → Int32 → Int32 → Option (q_S × Int32)) (x : q_S) (l0 : Nat) (l1 : Int32) (l2 : Int32) (l3 : Int32) : Option (q_S × Int32) :=
  (q_gR x (some l0) 1 1).bind fun v1 =>
  (q_av x v1 2).bind fun b5 =>
  (jf_AL_size x b5).bind fun p3 =>
  if p3.2 ≤ l3 then
    some (p3.1, l2)
  else
    (q_gR p3.1 (some l0) 1 1).bind fun v8 =>
    (q_av p3.1 v8 2).bind fun b12 =>
    (jf_AL_get p3.1 b12 l3).bind fun p10 =>
    (q_ck p10.1 p10.2 6).bind fun u15 =>
    (q_gI p10.1 p10.2 6 3).bind fun v16 =>
    if v16 = 0 then
      rc p10.1 l0 l1 (l2 ||| ((1 : Int32) <<< (l3 &&& 31))) (l3 + 1)
    else
      if v16 = l1 then
        rc p10.1 l0 l1 (l2 ||| ((1 : Int32) <<< (l3 &&& 31))) (l3 + 1)
      else
        rc p10.1 l0 l1 l2 (l3 + 1)
def jf_Ca_ofProfile_L4 : Nat → q_S → Nat → Int32 → Int32 → Int32 → Option (q_S × Int32)
  | 0, _, _, _, _, _ => none
  | n + 1, x, l0, l1, l2, l3 => jf_Ca_ofProfile_B4 (jf_Ca_ofProfile_L4 n) x l0 l1 l2 l3
theorem jm_Ca_ofProfile_B4 {p : q_S × Int32} {rc : q_S → Nat → Int32 → Int32 → Int32 → Option (q_S × Int32)} (hrc : ∀ (x : q_S) (l0 : Nat) (l1 : Int32) (l2 : Int32) (l3 : Int32), rc x l0 l1 l2 l3 = some p → q_X (q_call 3) (fun y o => y = p.1 ∧ o = some (.int p.2)) jq_Ca_ofProfile 4 [(0, va_rf (some l0)), (1, .int l1), (2, .int l2), (3, .int l3)] [] x) (x : q_S) (l0 : Nat) (l1 : Int32) (l2 : Int32) (l3 : Int32) (hh : jf_Ca_ofProfile_B4 rc x l0 l1 l2 l3 = some p) : q_X (q_call 3) (fun y o => y = p.1 ∧ o = some (.int p.2)) jq_Ca_ofProfile 4 [(0, va_rf (some l0)), (1, .int l1), (2, .int l2), (3, .int l3)] [] x := by
  unfold jf_Ca_ofProfile_B4 at hh
  refine r_iload_n 5 3 jd_Ca_ofProfile_4 rfl rfl ?_
  refine r_aload_n 6 0 jd_Ca_ofProfile_5 rfl rfl ?_
  obtain ⟨v1, e2, hh⟩ := q_bind hh
  refine r_getR 9 6 jd_Ca_ofProfile_6 rfl e2 rfl ?_
  obtain ⟨b5, e6, hh⟩ := q_bind hh
  obtain ⟨p3, e4, hh⟩ := q_bind hh
  refine r_cV (rest := [.int l3]) 12 55 2 [] [.int p3.2, .int l3] jd_Ca_ofProfile_9 rfl e6 rfl rfl rfl rfl (q_s8 (Nat.le_of_ble_eq_true rfl)) (q_call_le (Nat.le_of_ble_eq_true rfl) (jm_AL_size e4)) rfl rfl ?_
  rcases q_ite hh with ⟨c7, hh⟩ | ⟨c7, hh⟩
  · refine r_ic_t 54 jd_Ca_ofProfile_12 rfl c7 ?_
    refine r_iload_n 55 2 jd_Ca_ofProfile_54 rfl rfl ?_
    cases hh
    exact r_iret jd_Ca_ofProfile_55 rfl ⟨rfl, rfl⟩
  · refine r_ic_f 15 54 jd_Ca_ofProfile_12 rfl c7 rfl ?_
    refine r_aload_n 16 0 jd_Ca_ofProfile_15 rfl rfl ?_
    obtain ⟨v8, e9, hh⟩ := q_bind hh
    refine r_getR 19 6 jd_Ca_ofProfile_16 rfl e9 rfl ?_
    refine r_iload_n 20 3 jd_Ca_ofProfile_19 rfl rfl ?_
    obtain ⟨b12, e13, hh⟩ := q_bind hh
    obtain ⟨p10, e11, hh⟩ := q_bind hh
    refine r_cV (rest := []) 23 56 2 [.int l3] [va_rf p10.2] jd_Ca_ofProfile_20 rfl e13 rfl rfl rfl rfl (q_s8 (Nat.le_of_ble_eq_true rfl)) (q_call_le (Nat.le_of_ble_eq_true rfl) (jm_AL_get e11)) rfl rfl ?_
    obtain ⟨u15, e14, hh⟩ := q_bind hh
    refine r_cast 26 3 6 jd_Ca_ofProfile_23 rfl rfl e14 rfl ?_
    obtain ⟨v16, e17, hh⟩ := q_bind hh
    refine r_getI 29 38 jd_Ca_ofProfile_26 rfl e17 rfl ?_
    refine r_istore 31 [(4, .int v16), (0, va_rf (some l0)), (1, .int l1), (2, .int l2), (3, .int l3)] jd_Ca_ofProfile_29 (by decide) rfl rfl ?_
    refine r_iload 33 0 jd_Ca_ofProfile_31 rfl rfl ?_
    rcases q_ite hh with ⟨c18, hh⟩ | ⟨c18, hh⟩
    · refine r_if_t 42 jd_Ca_ofProfile_33 rfl c18 ?_
      refine r_iload_n 43 3 jd_Ca_ofProfile_42 rfl rfl ?_
      refine r_iconst 44 1 jd_Ca_ofProfile_43 (by decide) rfl ?_
      refine r_iload_n 45 4 jd_Ca_ofProfile_44 rfl rfl ?_
      refine r_ishl 46 jd_Ca_ofProfile_45 rfl ?_
      refine r_ior 47 jd_Ca_ofProfile_46 rfl ?_
      refine r_istore_n 48 [(2, .int (l2 ||| ((1 : Int32) <<< (l3 &&& 31)))), (4, .int v16), (0, va_rf (some l0)), (1, .int l1), (3, .int l3)] jd_Ca_ofProfile_47 (by decide) rfl rfl ?_
      refine r_iinc 51 4 [(3, .int (l3 + 1)), (2, .int (l2 ||| ((1 : Int32) <<< (l3 &&& 31)))), (4, .int v16), (0, va_rf (some l0)), (1, .int l1)] 1 jd_Ca_ofProfile_48 rfl (by decide) (by decide) rfl rfl ?_
      refine r_goto 4 jd_Ca_ofProfile_51 rfl ?_
      refine q_sub [3, 4, 1, 0] rfl ?_
      exact hrc _ _ _ _ _ hh
    · refine r_if_f 36 42 jd_Ca_ofProfile_33 rfl c18 rfl ?_
      refine r_iload 38 0 jd_Ca_ofProfile_36 rfl rfl ?_
      refine r_iload_n 39 2 jd_Ca_ofProfile_38 rfl rfl ?_
      rcases q_ite hh with ⟨c19, hh⟩ | ⟨c19, hh⟩
      · refine r_ic_f 42 48 jd_Ca_ofProfile_39 rfl (fun z => z c19) rfl ?_
        refine r_iload_n 43 3 jd_Ca_ofProfile_42 rfl rfl ?_
        refine r_iconst 44 1 jd_Ca_ofProfile_43 (by decide) rfl ?_
        refine r_iload_n 45 4 jd_Ca_ofProfile_44 rfl rfl ?_
        refine r_ishl 46 jd_Ca_ofProfile_45 rfl ?_
        refine r_ior 47 jd_Ca_ofProfile_46 rfl ?_
        refine r_istore_n 48 [(2, .int (l2 ||| ((1 : Int32) <<< (l3 &&& 31)))), (4, .int v16), (0, va_rf (some l0)), (1, .int l1), (3, .int l3)] jd_Ca_ofProfile_47 (by decide) rfl rfl ?_
        refine r_iinc 51 4 [(3, .int (l3 + 1)), (2, .int (l2 ||| ((1 : Int32) <<< (l3 &&& 31)))), (4, .int v16), (0, va_rf (some l0)), (1, .int l1)] 1 jd_Ca_ofProfile_48 rfl (by decide) (by decide) rfl rfl ?_
        refine r_goto 4 jd_Ca_ofProfile_51 rfl ?_
        refine q_sub [3, 4, 1, 0] rfl ?_
        exact hrc _ _ _ _ _ hh
      · refine r_ic_t 48 jd_Ca_ofProfile_39 rfl c19 ?_
        refine r_iinc 51 4 [(3, .int (l3 + 1)), (4, .int v16), (0, va_rf (some l0)), (1, .int l1), (2, .int l2)] 1 jd_Ca_ofProfile_48 rfl (by decide) (by decide) rfl rfl ?_
        refine r_goto 4 jd_Ca_ofProfile_51 rfl ?_
        refine q_sub [2, 3, 4, 0] rfl ?_
        exact hrc _ _ _ _ _ hh
theorem jm_Ca_ofProfile_L4 {p : q_S × Int32} : ∀ (n : Nat) (x : q_S) (l0 : Nat) (l1 : Int32) (l2 : Int32) (l3 : Int32), jf_Ca_ofProfile_L4 n x l0 l1 l2 l3 = some p → q_X (q_call 3) (fun y o => y = p.1 ∧ o = some (.int p.2)) jq_Ca_ofProfile 4 [(0, va_rf (some l0)), (1, .int l1), (2, .int l2), (3, .int l3)] [] x
  | 0, _, _, _, _, _, hh => nomatch hh
  | n + 1, x, l0, l1, l2, l3, hh => jm_Ca_ofProfile_B4 (jm_Ca_ofProfile_L4 n) x l0 l1 l2 l3 hh
def jf_Ca_ofProfile (x : q_S) (a0 : Nat) (a1 : Int32) : Option (q_S × Int32) :=
  jf_Ca_ofProfile_L4 lpK x a0 a1 0 0
theorem jm_Ca_ofProfile {x : q_S} {a0 : Nat} {a1 : Int32} {p : q_S × Int32} (hh : jf_Ca_ofProfile x a0 a1 = some p) : q_call 4 jq_Ca_ofProfile [va_rf (some a0), .int a1] x p.1 (some (.int p.2)) := by
  unfold jf_Ca_ofProfile at hh
  refine ⟨List.mem_of_getElem? (i := 26) rfl, Nat.le_of_ble_eq_true rfl, List.forall_mem_cons.mpr ⟨rfl, List.forall_mem_cons.mpr ⟨rfl, fun _ h => by cases h⟩⟩, ?_⟩
  show q_X (q_call 3) _ jq_Ca_ofProfile 0 [(0, va_rf (some a0)), (1, .int a1)] [] x
  refine r_iconst 1 0 jd_Ca_ofProfile_0 (by decide) rfl ?_
  refine r_istore_n 2 [(2, .int 0), (0, va_rf (some a0)), (1, .int a1)] jd_Ca_ofProfile_1 (by decide) rfl rfl ?_
  refine r_iconst 3 0 jd_Ca_ofProfile_2 (by decide) rfl ?_
  refine r_istore_n 4 [(3, .int 0), (2, .int 0), (0, va_rf (some a0)), (1, .int a1)] jd_Ca_ofProfile_3 (by decide) rfl rfl ?_
  refine q_sub [2, 3, 1, 0] rfl ?_
  exact jm_Ca_ofProfile_L4 lpK _ _ _ _ _ hh
-- BeanContexts$Key.canBeParent()Z
def jf_Ke_canBeParent (x : q_S) (a0 : Nat) : Option (q_S × Int32) :=
  (q_gR x (some a0) 8 5).bind fun v1 =>
  if v1 = none then
    some (x, 1)
  else
    (q_gR x (some a0) 8 5).bind fun v4 =>
    (q_gR x v4 8 5).bind fun v6 =>
    if v6 = none then
      some (x, 1)
    else
      some (x, 0)
theorem jm_Ke_canBeParent {x : q_S} {a0 : Nat} {p : q_S × Int32} (hh : jf_Ke_canBeParent x a0 = some p) : q_call 1 jq_Ke_canBeParent [va_rf (some a0)] x p.1 (some (.int p.2)) := by
  unfold jf_Ke_canBeParent at hh
  refine ⟨List.mem_of_getElem? (i := 27) rfl, Nat.le_of_ble_eq_true rfl, List.forall_mem_cons.mpr ⟨rfl, fun _ h => by cases h⟩, ?_⟩
  show q_X (q_call 0) _ jq_Ke_canBeParent 0 [(0, va_rf (some a0))] [] x
  refine r_aload_n 1 0 jd_Ke_canBeParent_0 rfl rfl ?_
  obtain ⟨v1, e2, hh⟩ := q_bind hh
  refine r_getR 4 37 jd_Ke_canBeParent_1 rfl e2 rfl ?_
  rcases q_ite hh with ⟨c3, hh⟩ | ⟨c3, hh⟩
  · refine r_ifnull_t 17 jd_Ke_canBeParent_4 rfl c3 ?_
    refine r_iconst 18 1 jd_Ke_canBeParent_17 (by decide) rfl ?_
    refine r_goto 22 jd_Ke_canBeParent_18 rfl ?_
    cases hh
    exact r_zret jd_Ke_canBeParent_22 rfl (by decide) ⟨rfl, rfl⟩
  · refine r_ifnull_f 7 17 jd_Ke_canBeParent_4 rfl c3 rfl ?_
    refine r_aload_n 8 0 jd_Ke_canBeParent_7 rfl rfl ?_
    obtain ⟨v4, e5, hh⟩ := q_bind hh
    refine r_getR 11 37 jd_Ke_canBeParent_8 rfl e5 rfl ?_
    obtain ⟨v6, e7, hh⟩ := q_bind hh
    refine r_getR 14 37 jd_Ke_canBeParent_11 rfl e7 rfl ?_
    rcases q_ite hh with ⟨c8, hh⟩ | ⟨c8, hh⟩
    · refine r_ifnonnull_f 17 21 jd_Ke_canBeParent_14 rfl c8 rfl ?_
      refine r_iconst 18 1 jd_Ke_canBeParent_17 (by decide) rfl ?_
      refine r_goto 22 jd_Ke_canBeParent_18 rfl ?_
      cases hh
      exact r_zret jd_Ke_canBeParent_22 rfl (by decide) ⟨rfl, rfl⟩
    · refine r_ifnonnull_t 21 jd_Ke_canBeParent_14 rfl c8 ?_
      refine r_iconst 22 0 jd_Ke_canBeParent_21 (by decide) rfl ?_
      cases hh
      exact r_zret jd_Ke_canBeParent_22 rfl (by decide) ⟨rfl, rfl⟩
-- BeanContexts.configure(IIII)I
def jf_Bc_configure (x : q_S) (a0 : Nat) (a1 : Int32) (a2 : Int32) (a3 : Int32) (a4 : Int32) : Option (q_S × Int32) :=
  (q_gR x (some a0) 0 1).bind fun v1 =>
  (q_av x v1 2).bind fun b5 =>
  (jf_AL_size x b5).bind fun p3 =>
  if 8 ≤ p3.2 then
    some (p3.1, (-1))
  else
    (jf_Bc_isProfile p3.1 a2).bind fun p8 =>
    if p8.2 = 0 then
      some (p8.1, (-1))
    else
      if a3 = (-1) then
        if a3 = (-1) then
          (q_gR p8.1 (some a0) 0 0).bind fun v43 =>
          (q_av p8.1 v43 1).bind fun b47 =>
          (jf_Ca_ofProfile p8.1 b47 a2).bind fun p45 =>
          (q_gR p45.1 (some a0) 0 1).bind fun v49 =>
          (q_av p45.1 (some a0) 0).bind fun b53 =>
          (jf_Bc_sharedKey p45.1 b53 (a1 &&& p45.2) ((a1 &&& p45.2) &&& a4) none).bind fun p51 =>
          (q_av p51.1 v49 2).bind fun b57 =>
          (jf_AL_add p51.1 b57 p51.2).bind fun p55 =>
          (q_gR p55.1 (some a0) 0 1).bind fun v59 =>
          (q_av p55.1 v59 2).bind fun b63 =>
          (jf_AL_size p55.1 b63).bind fun p61 =>
          some (p61.1, p61.2 - 1)
        else
          (q_gR p8.1 (some a0) 0 1).bind fun v13 =>
          (q_av p8.1 v13 2).bind fun b17 =>
          (jf_AL_get p8.1 b17 a3).bind fun p15 =>
          (q_ck p15.1 p15.2 8).bind fun u20 =>
          (q_gR p15.1 (some a0) 0 0).bind fun v21 =>
          (q_av p15.1 v21 1).bind fun b25 =>
          (jf_Ca_ofProfile p15.1 b25 a2).bind fun p23 =>
          (q_gR p23.1 (some a0) 0 1).bind fun v27 =>
          (q_av p23.1 (some a0) 0).bind fun b31 =>
          (jf_Bc_sharedKey p23.1 b31 (a1 &&& p23.2) ((a1 &&& p23.2) &&& a4) p15.2).bind fun p29 =>
          (q_av p29.1 v27 2).bind fun b35 =>
          (jf_AL_add p29.1 b35 p29.2).bind fun p33 =>
          (q_gR p33.1 (some a0) 0 1).bind fun v37 =>
          (q_av p33.1 v37 2).bind fun b41 =>
          (jf_AL_size p33.1 b41).bind fun p39 =>
          some (p39.1, p39.2 - 1)
      else
        (q_av p8.1 (some a0) 0).bind fun b67 =>
        (jf_Bc_isConfiguration p8.1 b67 a3).bind fun p65 =>
        if p65.2 = 0 then
          some (p65.1, (-1))
        else
          (q_gR p65.1 (some a0) 0 1).bind fun v70 =>
          (q_av p65.1 v70 2).bind fun b74 =>
          (jf_AL_get p65.1 b74 a3).bind fun p72 =>
          (q_ck p72.1 p72.2 8).bind fun u77 =>
          (q_av p72.1 p72.2 8).bind fun b80 =>
          (jf_Ke_canBeParent p72.1 b80).bind fun p78 =>
          if p78.2 = 0 then
            some (p78.1, (-1))
          else
            if a3 = (-1) then
              (q_gR p78.1 (some a0) 0 0).bind fun v114 =>
              (q_av p78.1 v114 1).bind fun b118 =>
              (jf_Ca_ofProfile p78.1 b118 a2).bind fun p116 =>
              (q_gR p116.1 (some a0) 0 1).bind fun v120 =>
              (q_av p116.1 (some a0) 0).bind fun b124 =>
              (jf_Bc_sharedKey p116.1 b124 (a1 &&& p116.2) ((a1 &&& p116.2) &&& a4) none).bind fun p122 =>
              (q_av p122.1 v120 2).bind fun b128 =>
              (jf_AL_add p122.1 b128 p122.2).bind fun p126 =>
              (q_gR p126.1 (some a0) 0 1).bind fun v130 =>
              (q_av p126.1 v130 2).bind fun b134 =>
              (jf_AL_size p126.1 b134).bind fun p132 =>
              some (p132.1, p132.2 - 1)
            else
              (q_gR p78.1 (some a0) 0 1).bind fun v84 =>
              (q_av p78.1 v84 2).bind fun b88 =>
              (jf_AL_get p78.1 b88 a3).bind fun p86 =>
              (q_ck p86.1 p86.2 8).bind fun u91 =>
              (q_gR p86.1 (some a0) 0 0).bind fun v92 =>
              (q_av p86.1 v92 1).bind fun b96 =>
              (jf_Ca_ofProfile p86.1 b96 a2).bind fun p94 =>
              (q_gR p94.1 (some a0) 0 1).bind fun v98 =>
              (q_av p94.1 (some a0) 0).bind fun b102 =>
              (jf_Bc_sharedKey p94.1 b102 (a1 &&& p94.2) ((a1 &&& p94.2) &&& a4) p86.2).bind fun p100 =>
              (q_av p100.1 v98 2).bind fun b106 =>
              (jf_AL_add p100.1 b106 p100.2).bind fun p104 =>
              (q_gR p104.1 (some a0) 0 1).bind fun v108 =>
              (q_av p104.1 v108 2).bind fun b112 =>
              (jf_AL_size p104.1 b112).bind fun p110 =>
              some (p110.1, p110.2 - 1)
theorem jm_Bc_configure {x : q_S} {a0 : Nat} {a1 : Int32} {a2 : Int32} {a3 : Int32} {a4 : Int32} {p : q_S × Int32} (hh : jf_Bc_configure x a0 a1 a2 a3 a4 = some p) : q_call 7 jq_Bc_configure [va_rf (some a0), .int a1, .int a2, .int a3, .int a4] x p.1 (some (.int p.2)) := by
  unfold jf_Bc_configure at hh
  refine ⟨List.mem_of_getElem? (i := 20) rfl, Nat.le_of_ble_eq_true rfl, List.forall_mem_cons.mpr ⟨rfl, List.forall_mem_cons.mpr ⟨rfl, List.forall_mem_cons.mpr ⟨rfl, List.forall_mem_cons.mpr ⟨rfl, List.forall_mem_cons.mpr ⟨rfl, fun _ h => by cases h⟩⟩⟩⟩⟩, ?_⟩
  show q_X (q_call 6) _ jq_Bc_configure 0 [(0, va_rf (some a0)), (1, .int a1), (2, .int a2), (3, .int a3), (4, .int a4)] [] x
  refine r_aload_n 1 0 jd_Bc_configure_0 rfl rfl ?_
  obtain ⟨v1, e2, hh⟩ := q_bind hh
  refine r_getR 4 1 jd_Bc_configure_1 rfl e2 rfl ?_
  obtain ⟨b5, e6, hh⟩ := q_bind hh
  obtain ⟨p3, e4, hh⟩ := q_bind hh
  refine r_cV (rest := []) 7 47 2 [] [.int p3.2] jd_Bc_configure_4 rfl e6 rfl rfl rfl rfl (q_s8 (Nat.le_of_ble_eq_true rfl)) (q_call_le (Nat.le_of_ble_eq_true rfl) (jm_AL_size e4)) rfl rfl ?_
  refine r_bipush 9 8 jd_Bc_configure_7 (by decide) rfl ?_
  rcases q_ite hh with ⟨c7, hh⟩ | ⟨c7, hh⟩
  · refine r_ic_t 19 jd_Bc_configure_9 rfl c7 ?_
    refine r_iconst 20 (-1) jd_Bc_configure_19 (by decide) rfl ?_
    cases hh
    exact r_iret jd_Bc_configure_20 rfl ⟨rfl, rfl⟩
  · refine r_ic_f 12 19 jd_Bc_configure_9 rfl c7 rfl ?_
    refine r_iload_n 13 2 jd_Bc_configure_12 rfl rfl ?_
    obtain ⟨p8, e9, hh⟩ := q_bind hh
    refine r_cS (rest := []) 16 5 [.int a2] [.int p8.2] jd_Bc_configure_13 rfl rfl rfl (q_s8 (Nat.le_of_ble_eq_true rfl)) (q_call_le (Nat.le_of_ble_eq_true rfl) (jm_Bc_isProfile e9)) rfl rfl ?_
    rcases q_ite hh with ⟨c10, hh⟩ | ⟨c10, hh⟩
    · refine r_if_f 19 21 jd_Bc_configure_16 rfl (fun z => z c10) rfl ?_
      refine r_iconst 20 (-1) jd_Bc_configure_19 (by decide) rfl ?_
      cases hh
      exact r_iret jd_Bc_configure_20 rfl ⟨rfl, rfl⟩
    · refine r_if_t 21 jd_Bc_configure_16 rfl c10 ?_
      refine r_iload_n 22 3 jd_Bc_configure_21 rfl rfl ?_
      refine r_iconst 23 (-1) jd_Bc_configure_22 (by decide) rfl ?_
      rcases q_ite hh with ⟨c11, hh⟩ | ⟨c11, hh⟩
      · refine r_ic_t 53 jd_Bc_configure_23 rfl c11 ?_
        refine r_iload_n 54 3 jd_Bc_configure_53 rfl rfl ?_
        refine r_iconst 55 (-1) jd_Bc_configure_54 (by decide) rfl ?_
        rcases q_ite hh with ⟨c12, hh⟩ | ⟨c12, hh⟩
        · refine r_ic_f 58 62 jd_Bc_configure_55 rfl (fun z => z c12) rfl ?_
          refine r_null 59 jd_Bc_configure_58 rfl ?_
          refine r_goto 73 jd_Bc_configure_59 rfl ?_
          refine r_astore 75 [(5, va_rf none), (0, va_rf (some a0)), (1, .int a1), (2, .int a2), (3, .int a3), (4, .int a4)] jd_Bc_configure_73 (by decide) rfl rfl ?_
          refine r_iload_n 76 2 jd_Bc_configure_75 rfl rfl ?_
          refine r_aload_n 77 1 jd_Bc_configure_76 rfl rfl ?_
          obtain ⟨v43, e44, hh⟩ := q_bind hh
          refine r_getR 80 0 jd_Bc_configure_77 rfl e44 rfl ?_
          refine r_iload_n 81 3 jd_Bc_configure_80 rfl rfl ?_
          obtain ⟨b47, e48, hh⟩ := q_bind hh
          obtain ⟨p45, e46, hh⟩ := q_bind hh
          refine r_cV (rest := [.int a1]) 84 49 1 [.int a2] [.int p45.2, .int a1] jd_Bc_configure_81 rfl e48 rfl rfl rfl rfl (q_s8 (Nat.le_of_ble_eq_true rfl)) (q_call_le (Nat.le_of_ble_eq_true rfl) (jm_Ca_ofProfile e46)) rfl rfl ?_
          refine r_iand 85 jd_Bc_configure_84 rfl ?_
          refine r_istore 87 [(6, .int (a1 &&& p45.2)), (5, va_rf none), (0, va_rf (some a0)), (1, .int a1), (2, .int a2), (3, .int a3), (4, .int a4)] jd_Bc_configure_85 (by decide) rfl rfl ?_
          refine r_aload_n 88 2 jd_Bc_configure_87 rfl rfl ?_
          obtain ⟨v49, e50, hh⟩ := q_bind hh
          refine r_getR 91 1 jd_Bc_configure_88 rfl e50 rfl ?_
          refine r_aload_n 92 2 jd_Bc_configure_91 rfl rfl ?_
          refine r_iload 94 0 jd_Bc_configure_92 rfl rfl ?_
          refine r_iload 96 0 jd_Bc_configure_94 rfl rfl ?_
          refine r_iload 98 6 jd_Bc_configure_96 rfl rfl ?_
          refine r_iand 99 jd_Bc_configure_98 rfl ?_
          refine r_aload 101 1 jd_Bc_configure_99 rfl rfl ?_
          obtain ⟨b53, e54, hh⟩ := q_bind hh
          obtain ⟨p51, e52, hh⟩ := q_bind hh
          refine r_cV (rest := [va_rf v49]) 104 50 0 [.int (a1 &&& p45.2), .int ((a1 &&& p45.2) &&& a4), va_rf none] [va_rf p51.2, va_rf v49] jd_Bc_configure_101 rfl e54 rfl rfl rfl rfl (q_s8 (Nat.le_of_ble_eq_true rfl)) (q_call_le (Nat.le_of_ble_eq_true rfl) (jm_Bc_sharedKey e52)) rfl rfl ?_
          obtain ⟨b57, e58, hh⟩ := q_bind hh
          obtain ⟨p55, e56, hh⟩ := q_bind hh
          refine r_cV (rest := []) 107 51 2 [va_rf p51.2] [.int p55.2] jd_Bc_configure_104 rfl e58 rfl rfl rfl rfl (q_s8 (Nat.le_of_ble_eq_true rfl)) (q_call_le (Nat.le_of_ble_eq_true rfl) (jm_AL_add e56)) rfl rfl ?_
          refine r_popI 108 jd_Bc_configure_107 rfl ?_
          refine r_aload_n 109 2 jd_Bc_configure_108 rfl rfl ?_
          obtain ⟨v59, e60, hh⟩ := q_bind hh
          refine r_getR 112 1 jd_Bc_configure_109 rfl e60 rfl ?_
          obtain ⟨b63, e64, hh⟩ := q_bind hh
          obtain ⟨p61, e62, hh⟩ := q_bind hh
          refine r_cV (rest := []) 115 47 2 [] [.int p61.2] jd_Bc_configure_112 rfl e64 rfl rfl rfl rfl (q_s8 (Nat.le_of_ble_eq_true rfl)) (q_call_le (Nat.le_of_ble_eq_true rfl) (jm_AL_size e62)) rfl rfl ?_
          refine r_iconst 116 1 jd_Bc_configure_115 (by decide) rfl ?_
          refine r_isub 117 jd_Bc_configure_116 rfl ?_
          cases hh
          exact r_iret jd_Bc_configure_117 rfl ⟨rfl, rfl⟩
        · refine r_ic_t 62 jd_Bc_configure_55 rfl c12 ?_
          refine r_aload_n 63 0 jd_Bc_configure_62 rfl rfl ?_
          obtain ⟨v13, e14, hh⟩ := q_bind hh
          refine r_getR 66 1 jd_Bc_configure_63 rfl e14 rfl ?_
          refine r_iload_n 67 3 jd_Bc_configure_66 rfl rfl ?_
          obtain ⟨b17, e18, hh⟩ := q_bind hh
          obtain ⟨p15, e16, hh⟩ := q_bind hh
          refine r_cV (rest := []) 70 48 2 [.int a3] [va_rf p15.2] jd_Bc_configure_67 rfl e18 rfl rfl rfl rfl (q_s8 (Nat.le_of_ble_eq_true rfl)) (q_call_le (Nat.le_of_ble_eq_true rfl) (jm_AL_get e16)) rfl rfl ?_
          obtain ⟨u20, e19, hh⟩ := q_bind hh
          refine r_cast 73 2 8 jd_Bc_configure_70 rfl rfl e19 rfl ?_
          refine r_astore 75 [(5, va_rf p15.2), (0, va_rf (some a0)), (1, .int a1), (2, .int a2), (3, .int a3), (4, .int a4)] jd_Bc_configure_73 (by decide) rfl rfl ?_
          refine r_iload_n 76 2 jd_Bc_configure_75 rfl rfl ?_
          refine r_aload_n 77 1 jd_Bc_configure_76 rfl rfl ?_
          obtain ⟨v21, e22, hh⟩ := q_bind hh
          refine r_getR 80 0 jd_Bc_configure_77 rfl e22 rfl ?_
          refine r_iload_n 81 3 jd_Bc_configure_80 rfl rfl ?_
          obtain ⟨b25, e26, hh⟩ := q_bind hh
          obtain ⟨p23, e24, hh⟩ := q_bind hh
          refine r_cV (rest := [.int a1]) 84 49 1 [.int a2] [.int p23.2, .int a1] jd_Bc_configure_81 rfl e26 rfl rfl rfl rfl (q_s8 (Nat.le_of_ble_eq_true rfl)) (q_call_le (Nat.le_of_ble_eq_true rfl) (jm_Ca_ofProfile e24)) rfl rfl ?_
          refine r_iand 85 jd_Bc_configure_84 rfl ?_
          refine r_istore 87 [(6, .int (a1 &&& p23.2)), (5, va_rf p15.2), (0, va_rf (some a0)), (1, .int a1), (2, .int a2), (3, .int a3), (4, .int a4)] jd_Bc_configure_85 (by decide) rfl rfl ?_
          refine r_aload_n 88 2 jd_Bc_configure_87 rfl rfl ?_
          obtain ⟨v27, e28, hh⟩ := q_bind hh
          refine r_getR 91 1 jd_Bc_configure_88 rfl e28 rfl ?_
          refine r_aload_n 92 2 jd_Bc_configure_91 rfl rfl ?_
          refine r_iload 94 0 jd_Bc_configure_92 rfl rfl ?_
          refine r_iload 96 0 jd_Bc_configure_94 rfl rfl ?_
          refine r_iload 98 6 jd_Bc_configure_96 rfl rfl ?_
          refine r_iand 99 jd_Bc_configure_98 rfl ?_
          refine r_aload 101 1 jd_Bc_configure_99 rfl rfl ?_
          obtain ⟨b31, e32, hh⟩ := q_bind hh
          obtain ⟨p29, e30, hh⟩ := q_bind hh
          refine r_cV (rest := [va_rf v27]) 104 50 0 [.int (a1 &&& p23.2), .int ((a1 &&& p23.2) &&& a4), va_rf p15.2] [va_rf p29.2, va_rf v27] jd_Bc_configure_101 rfl e32 rfl rfl rfl rfl (q_s8 (Nat.le_of_ble_eq_true rfl)) (q_call_le (Nat.le_of_ble_eq_true rfl) (jm_Bc_sharedKey e30)) rfl rfl ?_
          obtain ⟨b35, e36, hh⟩ := q_bind hh
          obtain ⟨p33, e34, hh⟩ := q_bind hh
          refine r_cV (rest := []) 107 51 2 [va_rf p29.2] [.int p33.2] jd_Bc_configure_104 rfl e36 rfl rfl rfl rfl (q_s8 (Nat.le_of_ble_eq_true rfl)) (q_call_le (Nat.le_of_ble_eq_true rfl) (jm_AL_add e34)) rfl rfl ?_
          refine r_popI 108 jd_Bc_configure_107 rfl ?_
          refine r_aload_n 109 2 jd_Bc_configure_108 rfl rfl ?_
          obtain ⟨v37, e38, hh⟩ := q_bind hh
          refine r_getR 112 1 jd_Bc_configure_109 rfl e38 rfl ?_
          obtain ⟨b41, e42, hh⟩ := q_bind hh
          obtain ⟨p39, e40, hh⟩ := q_bind hh
          refine r_cV (rest := []) 115 47 2 [] [.int p39.2] jd_Bc_configure_112 rfl e42 rfl rfl rfl rfl (q_s8 (Nat.le_of_ble_eq_true rfl)) (q_call_le (Nat.le_of_ble_eq_true rfl) (jm_AL_size e40)) rfl rfl ?_
          refine r_iconst 116 1 jd_Bc_configure_115 (by decide) rfl ?_
          refine r_isub 117 jd_Bc_configure_116 rfl ?_
          cases hh
          exact r_iret jd_Bc_configure_117 rfl ⟨rfl, rfl⟩
      · refine r_ic_f 26 53 jd_Bc_configure_23 rfl c11 rfl ?_
        refine r_aload_n 27 0 jd_Bc_configure_26 rfl rfl ?_
        refine r_iload_n 28 3 jd_Bc_configure_27 rfl rfl ?_
        obtain ⟨b67, e68, hh⟩ := q_bind hh
        obtain ⟨p65, e66, hh⟩ := q_bind hh
        refine r_cV (rest := []) 31 52 0 [.int a3] [.int p65.2] jd_Bc_configure_28 rfl e68 rfl rfl rfl rfl (q_s8 (Nat.le_of_ble_eq_true rfl)) (q_call_le (Nat.le_of_ble_eq_true rfl) (jm_Bc_isConfiguration e66)) rfl rfl ?_
        rcases q_ite hh with ⟨c69, hh⟩ | ⟨c69, hh⟩
        · refine r_if_t 51 jd_Bc_configure_31 rfl c69 ?_
          refine r_iconst 52 (-1) jd_Bc_configure_51 (by decide) rfl ?_
          cases hh
          exact r_iret jd_Bc_configure_52 rfl ⟨rfl, rfl⟩
        · refine r_if_f 34 51 jd_Bc_configure_31 rfl c69 rfl ?_
          refine r_aload_n 35 0 jd_Bc_configure_34 rfl rfl ?_
          obtain ⟨v70, e71, hh⟩ := q_bind hh
          refine r_getR 38 1 jd_Bc_configure_35 rfl e71 rfl ?_
          refine r_iload_n 39 3 jd_Bc_configure_38 rfl rfl ?_
          obtain ⟨b74, e75, hh⟩ := q_bind hh
          obtain ⟨p72, e73, hh⟩ := q_bind hh
          refine r_cV (rest := []) 42 48 2 [.int a3] [va_rf p72.2] jd_Bc_configure_39 rfl e75 rfl rfl rfl rfl (q_s8 (Nat.le_of_ble_eq_true rfl)) (q_call_le (Nat.le_of_ble_eq_true rfl) (jm_AL_get e73)) rfl rfl ?_
          obtain ⟨u77, e76, hh⟩ := q_bind hh
          refine r_cast 45 2 8 jd_Bc_configure_42 rfl rfl e76 rfl ?_
          obtain ⟨b80, e81, hh⟩ := q_bind hh
          obtain ⟨p78, e79, hh⟩ := q_bind hh
          refine r_cV (rest := []) 48 53 8 [] [.int p78.2] jd_Bc_configure_45 rfl e81 rfl rfl rfl rfl (q_s8 (Nat.le_of_ble_eq_true rfl)) (q_call_le (Nat.le_of_ble_eq_true rfl) (jm_Ke_canBeParent e79)) rfl rfl ?_
          rcases q_ite hh with ⟨c82, hh⟩ | ⟨c82, hh⟩
          · refine r_if_f 51 53 jd_Bc_configure_48 rfl (fun z => z c82) rfl ?_
            refine r_iconst 52 (-1) jd_Bc_configure_51 (by decide) rfl ?_
            cases hh
            exact r_iret jd_Bc_configure_52 rfl ⟨rfl, rfl⟩
          · refine r_if_t 53 jd_Bc_configure_48 rfl c82 ?_
            refine r_iload_n 54 3 jd_Bc_configure_53 rfl rfl ?_
            refine r_iconst 55 (-1) jd_Bc_configure_54 (by decide) rfl ?_
            rcases q_ite hh with ⟨c83, hh⟩ | ⟨c83, hh⟩
            · refine r_ic_f 58 62 jd_Bc_configure_55 rfl (fun z => z c83) rfl ?_
              refine r_null 59 jd_Bc_configure_58 rfl ?_
              refine r_goto 73 jd_Bc_configure_59 rfl ?_
              refine r_astore 75 [(5, va_rf none), (0, va_rf (some a0)), (1, .int a1), (2, .int a2), (3, .int a3), (4, .int a4)] jd_Bc_configure_73 (by decide) rfl rfl ?_
              refine r_iload_n 76 2 jd_Bc_configure_75 rfl rfl ?_
              refine r_aload_n 77 1 jd_Bc_configure_76 rfl rfl ?_
              obtain ⟨v114, e115, hh⟩ := q_bind hh
              refine r_getR 80 0 jd_Bc_configure_77 rfl e115 rfl ?_
              refine r_iload_n 81 3 jd_Bc_configure_80 rfl rfl ?_
              obtain ⟨b118, e119, hh⟩ := q_bind hh
              obtain ⟨p116, e117, hh⟩ := q_bind hh
              refine r_cV (rest := [.int a1]) 84 49 1 [.int a2] [.int p116.2, .int a1] jd_Bc_configure_81 rfl e119 rfl rfl rfl rfl (q_s8 (Nat.le_of_ble_eq_true rfl)) (q_call_le (Nat.le_of_ble_eq_true rfl) (jm_Ca_ofProfile e117)) rfl rfl ?_
              refine r_iand 85 jd_Bc_configure_84 rfl ?_
              refine r_istore 87 [(6, .int (a1 &&& p116.2)), (5, va_rf none), (0, va_rf (some a0)), (1, .int a1), (2, .int a2), (3, .int a3), (4, .int a4)] jd_Bc_configure_85 (by decide) rfl rfl ?_
              refine r_aload_n 88 2 jd_Bc_configure_87 rfl rfl ?_
              obtain ⟨v120, e121, hh⟩ := q_bind hh
              refine r_getR 91 1 jd_Bc_configure_88 rfl e121 rfl ?_
              refine r_aload_n 92 2 jd_Bc_configure_91 rfl rfl ?_
              refine r_iload 94 0 jd_Bc_configure_92 rfl rfl ?_
              refine r_iload 96 0 jd_Bc_configure_94 rfl rfl ?_
              refine r_iload 98 6 jd_Bc_configure_96 rfl rfl ?_
              refine r_iand 99 jd_Bc_configure_98 rfl ?_
              refine r_aload 101 1 jd_Bc_configure_99 rfl rfl ?_
              obtain ⟨b124, e125, hh⟩ := q_bind hh
              obtain ⟨p122, e123, hh⟩ := q_bind hh
              refine r_cV (rest := [va_rf v120]) 104 50 0 [.int (a1 &&& p116.2), .int ((a1 &&& p116.2) &&& a4), va_rf none] [va_rf p122.2, va_rf v120] jd_Bc_configure_101 rfl e125 rfl rfl rfl rfl (q_s8 (Nat.le_of_ble_eq_true rfl)) (q_call_le (Nat.le_of_ble_eq_true rfl) (jm_Bc_sharedKey e123)) rfl rfl ?_
              obtain ⟨b128, e129, hh⟩ := q_bind hh
              obtain ⟨p126, e127, hh⟩ := q_bind hh
              refine r_cV (rest := []) 107 51 2 [va_rf p122.2] [.int p126.2] jd_Bc_configure_104 rfl e129 rfl rfl rfl rfl (q_s8 (Nat.le_of_ble_eq_true rfl)) (q_call_le (Nat.le_of_ble_eq_true rfl) (jm_AL_add e127)) rfl rfl ?_
              refine r_popI 108 jd_Bc_configure_107 rfl ?_
              refine r_aload_n 109 2 jd_Bc_configure_108 rfl rfl ?_
              obtain ⟨v130, e131, hh⟩ := q_bind hh
              refine r_getR 112 1 jd_Bc_configure_109 rfl e131 rfl ?_
              obtain ⟨b134, e135, hh⟩ := q_bind hh
              obtain ⟨p132, e133, hh⟩ := q_bind hh
              refine r_cV (rest := []) 115 47 2 [] [.int p132.2] jd_Bc_configure_112 rfl e135 rfl rfl rfl rfl (q_s8 (Nat.le_of_ble_eq_true rfl)) (q_call_le (Nat.le_of_ble_eq_true rfl) (jm_AL_size e133)) rfl rfl ?_
              refine r_iconst 116 1 jd_Bc_configure_115 (by decide) rfl ?_
              refine r_isub 117 jd_Bc_configure_116 rfl ?_
              cases hh
              exact r_iret jd_Bc_configure_117 rfl ⟨rfl, rfl⟩
            · refine r_ic_t 62 jd_Bc_configure_55 rfl c83 ?_
              refine r_aload_n 63 0 jd_Bc_configure_62 rfl rfl ?_
              obtain ⟨v84, e85, hh⟩ := q_bind hh
              refine r_getR 66 1 jd_Bc_configure_63 rfl e85 rfl ?_
              refine r_iload_n 67 3 jd_Bc_configure_66 rfl rfl ?_
              obtain ⟨b88, e89, hh⟩ := q_bind hh
              obtain ⟨p86, e87, hh⟩ := q_bind hh
              refine r_cV (rest := []) 70 48 2 [.int a3] [va_rf p86.2] jd_Bc_configure_67 rfl e89 rfl rfl rfl rfl (q_s8 (Nat.le_of_ble_eq_true rfl)) (q_call_le (Nat.le_of_ble_eq_true rfl) (jm_AL_get e87)) rfl rfl ?_
              obtain ⟨u91, e90, hh⟩ := q_bind hh
              refine r_cast 73 2 8 jd_Bc_configure_70 rfl rfl e90 rfl ?_
              refine r_astore 75 [(5, va_rf p86.2), (0, va_rf (some a0)), (1, .int a1), (2, .int a2), (3, .int a3), (4, .int a4)] jd_Bc_configure_73 (by decide) rfl rfl ?_
              refine r_iload_n 76 2 jd_Bc_configure_75 rfl rfl ?_
              refine r_aload_n 77 1 jd_Bc_configure_76 rfl rfl ?_
              obtain ⟨v92, e93, hh⟩ := q_bind hh
              refine r_getR 80 0 jd_Bc_configure_77 rfl e93 rfl ?_
              refine r_iload_n 81 3 jd_Bc_configure_80 rfl rfl ?_
              obtain ⟨b96, e97, hh⟩ := q_bind hh
              obtain ⟨p94, e95, hh⟩ := q_bind hh
              refine r_cV (rest := [.int a1]) 84 49 1 [.int a2] [.int p94.2, .int a1] jd_Bc_configure_81 rfl e97 rfl rfl rfl rfl (q_s8 (Nat.le_of_ble_eq_true rfl)) (q_call_le (Nat.le_of_ble_eq_true rfl) (jm_Ca_ofProfile e95)) rfl rfl ?_
              refine r_iand 85 jd_Bc_configure_84 rfl ?_
              refine r_istore 87 [(6, .int (a1 &&& p94.2)), (5, va_rf p86.2), (0, va_rf (some a0)), (1, .int a1), (2, .int a2), (3, .int a3), (4, .int a4)] jd_Bc_configure_85 (by decide) rfl rfl ?_
              refine r_aload_n 88 2 jd_Bc_configure_87 rfl rfl ?_
              obtain ⟨v98, e99, hh⟩ := q_bind hh
              refine r_getR 91 1 jd_Bc_configure_88 rfl e99 rfl ?_
              refine r_aload_n 92 2 jd_Bc_configure_91 rfl rfl ?_
              refine r_iload 94 0 jd_Bc_configure_92 rfl rfl ?_
              refine r_iload 96 0 jd_Bc_configure_94 rfl rfl ?_
              refine r_iload 98 6 jd_Bc_configure_96 rfl rfl ?_
              refine r_iand 99 jd_Bc_configure_98 rfl ?_
              refine r_aload 101 1 jd_Bc_configure_99 rfl rfl ?_
              obtain ⟨b102, e103, hh⟩ := q_bind hh
              obtain ⟨p100, e101, hh⟩ := q_bind hh
              refine r_cV (rest := [va_rf v98]) 104 50 0 [.int (a1 &&& p94.2), .int ((a1 &&& p94.2) &&& a4), va_rf p86.2] [va_rf p100.2, va_rf v98] jd_Bc_configure_101 rfl e103 rfl rfl rfl rfl (q_s8 (Nat.le_of_ble_eq_true rfl)) (q_call_le (Nat.le_of_ble_eq_true rfl) (jm_Bc_sharedKey e101)) rfl rfl ?_
              obtain ⟨b106, e107, hh⟩ := q_bind hh
              obtain ⟨p104, e105, hh⟩ := q_bind hh
              refine r_cV (rest := []) 107 51 2 [va_rf p100.2] [.int p104.2] jd_Bc_configure_104 rfl e107 rfl rfl rfl rfl (q_s8 (Nat.le_of_ble_eq_true rfl)) (q_call_le (Nat.le_of_ble_eq_true rfl) (jm_AL_add e105)) rfl rfl ?_
              refine r_popI 108 jd_Bc_configure_107 rfl ?_
              refine r_aload_n 109 2 jd_Bc_configure_108 rfl rfl ?_
              obtain ⟨v108, e109, hh⟩ := q_bind hh
              refine r_getR 112 1 jd_Bc_configure_109 rfl e109 rfl ?_
              obtain ⟨b112, e113, hh⟩ := q_bind hh
              obtain ⟨p110, e111, hh⟩ := q_bind hh
              refine r_cV (rest := []) 115 47 2 [] [.int p110.2] jd_Bc_configure_112 rfl e113 rfl rfl rfl rfl (q_s8 (Nat.le_of_ble_eq_true rfl)) (q_call_le (Nat.le_of_ble_eq_true rfl) (jm_AL_size e111)) rfl rfl ?_
              refine r_iconst 116 1 jd_Bc_configure_115 (by decide) rfl ?_
              refine r_isub 117 jd_Bc_configure_116 rfl ?_
              cases hh
              exact r_iret jd_Bc_configure_117 rfl ⟨rfl, rfl⟩
-- BeanContexts.isQualifier(I)Z
def jf_Bc_isQualifier (x : q_S) (a0 : Int32) : Option (q_S × Int32) :=
  (jf_Bc_isBelow x a0 4).bind fun p1 =>
  if p1.2 &&& 1 = p1.2 then some (p1.1, p1.2) else none
theorem jm_Bc_isQualifier {x : q_S} {a0 : Int32} {p : q_S × Int32} (hh : jf_Bc_isQualifier x a0 = some p) : q_call 2 jq_Bc_isQualifier [.int a0] x p.1 (some (.int p.2)) := by
  unfold jf_Bc_isQualifier at hh
  refine ⟨List.mem_of_getElem? (i := 37) rfl, Nat.le_of_ble_eq_true rfl, List.forall_mem_cons.mpr ⟨rfl, fun _ h => by cases h⟩, ?_⟩
  show q_X (q_call 1) _ jq_Bc_isQualifier 0 [(0, .int a0)] [] x
  refine r_iload_n 1 0 jd_Bc_isQualifier_0 rfl rfl ?_
  refine r_iconst 2 4 jd_Bc_isQualifier_1 (by decide) rfl ?_
  obtain ⟨p1, e2, hh⟩ := q_bind hh
  refine r_cS (rest := []) 5 6 [.int a0, .int 4] [.int p1.2] jd_Bc_isQualifier_2 rfl rfl rfl (q_s8 (Nat.le_of_ble_eq_true rfl)) (q_call_le (Nat.le_of_ble_eq_true rfl) (jm_Bc_isBelow e2)) rfl rfl ?_
  rcases q_ite hh with ⟨c3, hh⟩ | ⟨-, hh⟩
  · cases hh
    exact r_zret jd_Bc_isQualifier_5 rfl c3 ⟨rfl, rfl⟩
  · cases hh
-- BeanContexts.isType(I)Z
def jf_Bc_isType (x : q_S) (a0 : Int32) : Option (q_S × Int32) :=
  (jf_Bc_isBelow x a0 6).bind fun p1 =>
  if p1.2 &&& 1 = p1.2 then some (p1.1, p1.2) else none
theorem jm_Bc_isType {x : q_S} {a0 : Int32} {p : q_S × Int32} (hh : jf_Bc_isType x a0 = some p) : q_call 2 jq_Bc_isType [.int a0] x p.1 (some (.int p.2)) := by
  unfold jf_Bc_isType at hh
  refine ⟨List.mem_of_getElem? (i := 38) rfl, Nat.le_of_ble_eq_true rfl, List.forall_mem_cons.mpr ⟨rfl, fun _ h => by cases h⟩, ?_⟩
  show q_X (q_call 1) _ jq_Bc_isType 0 [(0, .int a0)] [] x
  refine r_iload_n 1 0 jd_Bc_isType_0 rfl rfl ?_
  refine r_bipush 3 6 jd_Bc_isType_1 (by decide) rfl ?_
  obtain ⟨p1, e2, hh⟩ := q_bind hh
  refine r_cS (rest := []) 6 6 [.int a0, .int 6] [.int p1.2] jd_Bc_isType_3 rfl rfl rfl (q_s8 (Nat.le_of_ble_eq_true rfl)) (q_call_le (Nat.le_of_ble_eq_true rfl) (jm_Bc_isBelow e2)) rfl rfl ?_
  rcases q_ite hh with ⟨c3, hh⟩ | ⟨-, hh⟩
  · cases hh
    exact r_zret jd_Bc_isType_6 rfl c3 ⟨rfl, rfl⟩
  · cases hh
-- BeanContexts$Catalog.add(LBeanContexts$Definition;)I
def jf_Ca_add (x : q_S) (a0 : Nat) (a1 : Option Nat) : Option (q_S × Int32) :=
  (q_gR x (some a0) 1 1).bind fun v1 =>
  (q_av x v1 2).bind fun b5 =>
  (jf_AL_add x b5 a1).bind fun p3 =>
  (q_gR p3.1 (some a0) 1 1).bind fun v7 =>
  (q_av p3.1 v7 2).bind fun b11 =>
  (jf_AL_size p3.1 b11).bind fun p9 =>
  some (p9.1, p9.2 - 1)
theorem jm_Ca_add {x : q_S} {a0 : Nat} {a1 : Option Nat} {p : q_S × Int32} (hh : jf_Ca_add x a0 a1 = some p) : q_call 7 jq_Ca_add [va_rf (some a0), va_rf a1] x p.1 (some (.int p.2)) := by
  unfold jf_Ca_add at hh
  refine ⟨List.mem_of_getElem? (i := 39) rfl, Nat.le_of_ble_eq_true rfl, List.forall_mem_cons.mpr ⟨rfl, List.forall_mem_cons.mpr ⟨q_cat _, fun _ h => by cases h⟩⟩, ?_⟩
  show q_X (q_call 6) _ jq_Ca_add 0 [(0, va_rf (some a0)), (1, va_rf a1)] [] x
  refine r_aload_n 1 0 jd_Ca_add_0 rfl rfl ?_
  obtain ⟨v1, e2, hh⟩ := q_bind hh
  refine r_getR 4 6 jd_Ca_add_1 rfl e2 rfl ?_
  refine r_aload_n 5 1 jd_Ca_add_4 rfl rfl ?_
  obtain ⟨b5, e6, hh⟩ := q_bind hh
  obtain ⟨p3, e4, hh⟩ := q_bind hh
  refine r_cV (rest := []) 8 63 2 [va_rf a1] [.int p3.2] jd_Ca_add_5 rfl e6 rfl rfl rfl rfl (q_s8 (Nat.le_of_ble_eq_true rfl)) (q_call_le (Nat.le_of_ble_eq_true rfl) (jm_AL_add e4)) rfl rfl ?_
  refine r_popI 9 jd_Ca_add_8 rfl ?_
  refine r_aload_n 10 0 jd_Ca_add_9 rfl rfl ?_
  obtain ⟨v7, e8, hh⟩ := q_bind hh
  refine r_getR 13 6 jd_Ca_add_10 rfl e8 rfl ?_
  obtain ⟨b11, e12, hh⟩ := q_bind hh
  obtain ⟨p9, e10, hh⟩ := q_bind hh
  refine r_cV (rest := []) 16 55 2 [] [.int p9.2] jd_Ca_add_13 rfl e12 rfl rfl rfl rfl (q_s8 (Nat.le_of_ble_eq_true rfl)) (q_call_le (Nat.le_of_ble_eq_true rfl) (jm_AL_size e10)) rfl rfl ?_
  refine r_iconst 17 1 jd_Ca_add_16 (by decide) rfl ?_
  refine r_isub 18 jd_Ca_add_17 rfl ?_
  cases hh
  exact r_iret jd_Ca_add_18 rfl ⟨rfl, rfl⟩
-- BeanContexts$Catalog.size()I
def jf_Ca_size (x : q_S) (a0 : Nat) : Option (q_S × Int32) :=
  (q_gR x (some a0) 1 1).bind fun v1 =>
  (q_av x v1 2).bind fun b5 =>
  (jf_AL_size x b5).bind fun p3 =>
  some (p3.1, p3.2)
theorem jm_Ca_size {x : q_S} {a0 : Nat} {p : q_S × Int32} (hh : jf_Ca_size x a0 = some p) : q_call 2 jq_Ca_size [va_rf (some a0)] x p.1 (some (.int p.2)) := by
  unfold jf_Ca_size at hh
  refine ⟨List.mem_of_getElem? (i := 40) rfl, Nat.le_of_ble_eq_true rfl, List.forall_mem_cons.mpr ⟨rfl, fun _ h => by cases h⟩, ?_⟩
  show q_X (q_call 1) _ jq_Ca_size 0 [(0, va_rf (some a0))] [] x
  refine r_aload_n 1 0 jd_Ca_size_0 rfl rfl ?_
  obtain ⟨v1, e2, hh⟩ := q_bind hh
  refine r_getR 4 6 jd_Ca_size_1 rfl e2 rfl ?_
  obtain ⟨b5, e6, hh⟩ := q_bind hh
  obtain ⟨p3, e4, hh⟩ := q_bind hh
  refine r_cV (rest := []) 7 55 2 [] [.int p3.2] jd_Ca_size_4 rfl e6 rfl rfl rfl rfl (q_s8 (Nat.le_of_ble_eq_true rfl)) (q_call_le (Nat.le_of_ble_eq_true rfl) (jm_AL_size e4)) rfl rfl ?_
  cases hh
  exact r_iret jd_Ca_size_7 rfl ⟨rfl, rfl⟩
-- BeanContexts$Definition.<init>(IIII)V
def jf_De_init (x : q_S) (a0 : Nat) (a1 : Int32) (a2 : Int32) (a3 : Int32) (a4 : Int32) : Option (q_S × Unit) :=
  (q_nO x 2 jdv_2).bind fun x1 =>
  (jf_AL_init x1 (q_sz x)).bind fun p3 =>
  (q_pR p3.1 (some a0) 6 4 (some (q_sz x))).bind fun x5 =>
  (q_pI x5 (some a0) 6 0 a1).bind fun x7 =>
  (q_pI x7 (some a0) 6 1 a2).bind fun x9 =>
  (q_pI x9 (some a0) 6 2 a3).bind fun x11 =>
  (q_pI x11 (some a0) 6 3 a4).bind fun x13 =>
  some (x13, ())
theorem jm_De_init {x : q_S} {a0 : Nat} {a1 : Int32} {a2 : Int32} {a3 : Int32} {a4 : Int32} {p : q_S × Unit} (hh : jf_De_init x a0 a1 a2 a3 a4 = some p) : q_call 4 jq_De_init [va_rf (some a0), .int a1, .int a2, .int a3, .int a4] x p.1 (none) := by
  unfold jf_De_init at hh
  refine ⟨List.mem_of_getElem? (i := 41) rfl, Nat.le_of_ble_eq_true rfl, List.forall_mem_cons.mpr ⟨rfl, List.forall_mem_cons.mpr ⟨rfl, List.forall_mem_cons.mpr ⟨rfl, List.forall_mem_cons.mpr ⟨rfl, List.forall_mem_cons.mpr ⟨rfl, fun _ h => by cases h⟩⟩⟩⟩⟩, ?_⟩
  show q_X (q_call 3) _ jq_De_init 0 [(0, va_rf (some a0)), (1, .int a1), (2, .int a2), (3, .int a3), (4, .int a4)] [] x
  refine r_aload_n 1 0 jd_De_init_0 rfl rfl ?_
  refine r_obj 4 7 jd_De_init_1 rfl (q_s8 (Nat.le_of_ble_eq_true rfl)) rfl ?_
  refine r_aload_n 5 0 jd_De_init_4 rfl rfl ?_
  obtain ⟨x1, e2, hh⟩ := q_bind hh
  refine r_new 8 12 jd_De_init_5 rfl e2 rfl ?_
  refine r_dupR 9 jd_De_init_8 rfl ?_
  obtain ⟨p3, e4, hh⟩ := q_bind hh
  refine r_cI (rest := [va_rf (some (q_sz x)), va_rf (some a0)]) 12 14 [] [va_rf (some (q_sz x)), va_rf (some a0)] jd_De_init_9 rfl rfl rfl (q_s8 (Nat.le_of_ble_eq_true rfl)) (q_call_le (Nat.le_of_ble_eq_true rfl) (jm_AL_init e4)) rfl rfl ?_
  obtain ⟨x5, e6, hh⟩ := q_bind hh
  refine r_putR 15 40 jd_De_init_12 rfl rfl (Or.inr ⟨rfl, rfl⟩) e6 rfl ?_
  refine r_aload_n 16 0 jd_De_init_15 rfl rfl ?_
  refine r_iload_n 17 1 jd_De_init_16 rfl rfl ?_
  obtain ⟨x7, e8, hh⟩ := q_bind hh
  refine r_putI 20 41 jd_De_init_17 rfl rfl (Or.inr ⟨rfl, rfl⟩) e8 rfl ?_
  refine r_aload_n 21 0 jd_De_init_20 rfl rfl ?_
  refine r_iload_n 22 2 jd_De_init_21 rfl rfl ?_
  obtain ⟨x9, e10, hh⟩ := q_bind hh
  refine r_putI 25 42 jd_De_init_22 rfl rfl (Or.inr ⟨rfl, rfl⟩) e10 rfl ?_
  refine r_aload_n 26 0 jd_De_init_25 rfl rfl ?_
  refine r_iload_n 27 3 jd_De_init_26 rfl rfl ?_
  obtain ⟨x11, e12, hh⟩ := q_bind hh
  refine r_putI 30 43 jd_De_init_27 rfl rfl (Or.inr ⟨rfl, rfl⟩) e12 rfl ?_
  refine r_aload_n 31 0 jd_De_init_30 rfl rfl ?_
  refine r_iload 33 4 jd_De_init_31 rfl rfl ?_
  obtain ⟨x13, e14, hh⟩ := q_bind hh
  refine r_putI 36 44 jd_De_init_33 rfl rfl (Or.inr ⟨rfl, rfl⟩) e14 rfl ?_
  cases hh
  exact r_vret jd_De_init_36 rfl ⟨rfl, rfl⟩
-- BeanContexts.define(IIII)I
def jf_Bc_define (x : q_S) (a0 : Nat) (a1 : Int32) (a2 : Int32) (a3 : Int32) (a4 : Int32) : Option (q_S × Int32) :=
  (q_gR x (some a0) 0 1).bind fun v1 =>
  (q_av x v1 2).bind fun b5 =>
  (jf_AL_isEmpty x b5).bind fun p3 =>
  if p3.2 = 0 then
    some (p3.1, (-1))
  else
    (q_gR p3.1 (some a0) 0 0).bind fun v8 =>
    (q_av p3.1 v8 1).bind fun b12 =>
    (jf_Ca_size p3.1 b12).bind fun p10 =>
    if p10.2 < 10 then
      (jf_Bc_isType p10.1 a1).bind fun p15 =>
      if p15.2 = 0 then
        some (p15.1, (-1))
      else
        (jf_Bc_isBelow p15.1 a2 16).bind fun p18 =>
        if p18.2 = 0 then
          some (p18.1, (-1))
        else
          (jf_Bc_isQualifier p18.1 a3).bind fun p21 =>
          if p21.2 = 0 then
            some (p21.1, (-1))
          else
            (jf_Bc_isProfile p21.1 a4).bind fun p24 =>
            if p24.2 = 0 then
              some (p24.1, (-1))
            else
              (q_gR p24.1 (some a0) 0 0).bind fun v27 =>
              (q_nO p24.1 6 jdv_6).bind fun x29 =>
              (jf_De_init x29 (q_sz p24.1) a1 a2 a3 a4).bind fun p31 =>
              (q_av p31.1 v27 1).bind fun b35 =>
              (jf_Ca_add p31.1 b35 (some (q_sz p24.1))).bind fun p33 =>
              some (p33.1, p33.2)
    else
      some (p10.1, (-1))
theorem jm_Bc_define {x : q_S} {a0 : Nat} {a1 : Int32} {a2 : Int32} {a3 : Int32} {a4 : Int32} {p : q_S × Int32} (hh : jf_Bc_define x a0 a1 a2 a3 a4 = some p) : q_call 8 jq_Bc_define [va_rf (some a0), .int a1, .int a2, .int a3, .int a4] x p.1 (some (.int p.2)) := by
  unfold jf_Bc_define at hh
  refine ⟨List.mem_of_getElem? (i := 36) rfl, Nat.le_of_ble_eq_true rfl, List.forall_mem_cons.mpr ⟨rfl, List.forall_mem_cons.mpr ⟨rfl, List.forall_mem_cons.mpr ⟨rfl, List.forall_mem_cons.mpr ⟨rfl, List.forall_mem_cons.mpr ⟨rfl, fun _ h => by cases h⟩⟩⟩⟩⟩, ?_⟩
  show q_X (q_call 7) _ jq_Bc_define 0 [(0, va_rf (some a0)), (1, .int a1), (2, .int a2), (3, .int a3), (4, .int a4)] [] x
  refine r_aload_n 1 0 jd_Bc_define_0 rfl rfl ?_
  obtain ⟨v1, e2, hh⟩ := q_bind hh
  refine r_getR 4 1 jd_Bc_define_1 rfl e2 rfl ?_
  obtain ⟨b5, e6, hh⟩ := q_bind hh
  obtain ⟨p3, e4, hh⟩ := q_bind hh
  refine r_cV (rest := []) 7 60 2 [] [.int p3.2] jd_Bc_define_4 rfl e6 rfl rfl rfl rfl (q_s8 (Nat.le_of_ble_eq_true rfl)) (q_call_le (Nat.le_of_ble_eq_true rfl) (jm_AL_isEmpty e4)) rfl rfl ?_
  rcases q_ite hh with ⟨c7, hh⟩ | ⟨c7, hh⟩
  · refine r_if_t 22 jd_Bc_define_7 rfl c7 ?_
    refine r_iconst 23 (-1) jd_Bc_define_22 (by decide) rfl ?_
    cases hh
    exact r_iret jd_Bc_define_23 rfl ⟨rfl, rfl⟩
  · refine r_if_f 10 22 jd_Bc_define_7 rfl c7 rfl ?_
    refine r_aload_n 11 0 jd_Bc_define_10 rfl rfl ?_
    obtain ⟨v8, e9, hh⟩ := q_bind hh
    refine r_getR 14 0 jd_Bc_define_11 rfl e9 rfl ?_
    obtain ⟨b12, e13, hh⟩ := q_bind hh
    obtain ⟨p10, e11, hh⟩ := q_bind hh
    refine r_cV (rest := []) 17 61 1 [] [.int p10.2] jd_Bc_define_14 rfl e13 rfl rfl rfl rfl (q_s8 (Nat.le_of_ble_eq_true rfl)) (q_call_le (Nat.le_of_ble_eq_true rfl) (jm_Ca_size e11)) rfl rfl ?_
    refine r_bipush 19 10 jd_Bc_define_17 (by decide) rfl ?_
    rcases q_ite hh with ⟨c14, hh⟩ | ⟨c14, hh⟩
    · refine r_ic_t 24 jd_Bc_define_19 rfl c14 ?_
      refine r_iload_n 25 1 jd_Bc_define_24 rfl rfl ?_
      obtain ⟨p15, e16, hh⟩ := q_bind hh
      refine r_cS (rest := []) 28 11 [.int a1] [.int p15.2] jd_Bc_define_25 rfl rfl rfl (q_s8 (Nat.le_of_ble_eq_true rfl)) (q_call_le (Nat.le_of_ble_eq_true rfl) (jm_Bc_isType e16)) rfl rfl ?_
      rcases q_ite hh with ⟨c17, hh⟩ | ⟨c17, hh⟩
      · refine r_if_t 55 jd_Bc_define_28 rfl c17 ?_
        refine r_iconst 56 (-1) jd_Bc_define_55 (by decide) rfl ?_
        cases hh
        exact r_iret jd_Bc_define_56 rfl ⟨rfl, rfl⟩
      · refine r_if_f 31 55 jd_Bc_define_28 rfl c17 rfl ?_
        refine r_iload_n 32 2 jd_Bc_define_31 rfl rfl ?_
        refine r_bipush 34 16 jd_Bc_define_32 (by decide) rfl ?_
        obtain ⟨p18, e19, hh⟩ := q_bind hh
        refine r_cS (rest := []) 37 6 [.int a2, .int 16] [.int p18.2] jd_Bc_define_34 rfl rfl rfl (q_s8 (Nat.le_of_ble_eq_true rfl)) (q_call_le (Nat.le_of_ble_eq_true rfl) (jm_Bc_isBelow e19)) rfl rfl ?_
        rcases q_ite hh with ⟨c20, hh⟩ | ⟨c20, hh⟩
        · refine r_if_t 55 jd_Bc_define_37 rfl c20 ?_
          refine r_iconst 56 (-1) jd_Bc_define_55 (by decide) rfl ?_
          cases hh
          exact r_iret jd_Bc_define_56 rfl ⟨rfl, rfl⟩
        · refine r_if_f 40 55 jd_Bc_define_37 rfl c20 rfl ?_
          refine r_iload_n 41 3 jd_Bc_define_40 rfl rfl ?_
          obtain ⟨p21, e22, hh⟩ := q_bind hh
          refine r_cS (rest := []) 44 12 [.int a3] [.int p21.2] jd_Bc_define_41 rfl rfl rfl (q_s8 (Nat.le_of_ble_eq_true rfl)) (q_call_le (Nat.le_of_ble_eq_true rfl) (jm_Bc_isQualifier e22)) rfl rfl ?_
          rcases q_ite hh with ⟨c23, hh⟩ | ⟨c23, hh⟩
          · refine r_if_t 55 jd_Bc_define_44 rfl c23 ?_
            refine r_iconst 56 (-1) jd_Bc_define_55 (by decide) rfl ?_
            cases hh
            exact r_iret jd_Bc_define_56 rfl ⟨rfl, rfl⟩
          · refine r_if_f 47 55 jd_Bc_define_44 rfl c23 rfl ?_
            refine r_iload 49 4 jd_Bc_define_47 rfl rfl ?_
            obtain ⟨p24, e25, hh⟩ := q_bind hh
            refine r_cS (rest := []) 52 5 [.int a4] [.int p24.2] jd_Bc_define_49 rfl rfl rfl (q_s8 (Nat.le_of_ble_eq_true rfl)) (q_call_le (Nat.le_of_ble_eq_true rfl) (jm_Bc_isProfile e25)) rfl rfl ?_
            rcases q_ite hh with ⟨c26, hh⟩ | ⟨c26, hh⟩
            · refine r_if_f 55 57 jd_Bc_define_52 rfl (fun z => z c26) rfl ?_
              refine r_iconst 56 (-1) jd_Bc_define_55 (by decide) rfl ?_
              cases hh
              exact r_iret jd_Bc_define_56 rfl ⟨rfl, rfl⟩
            · refine r_if_t 57 jd_Bc_define_52 rfl c26 ?_
              refine r_aload_n 58 0 jd_Bc_define_57 rfl rfl ?_
              obtain ⟨v27, e28, hh⟩ := q_bind hh
              refine r_getR 61 0 jd_Bc_define_58 rfl e28 rfl ?_
              obtain ⟨x29, e30, hh⟩ := q_bind hh
              refine r_new 64 11 jd_Bc_define_61 rfl e30 rfl ?_
              refine r_dupR 65 jd_Bc_define_64 rfl ?_
              refine r_iload_n 66 1 jd_Bc_define_65 rfl rfl ?_
              refine r_iload_n 67 2 jd_Bc_define_66 rfl rfl ?_
              refine r_iload_n 68 3 jd_Bc_define_67 rfl rfl ?_
              refine r_iload 70 4 jd_Bc_define_68 rfl rfl ?_
              obtain ⟨p31, e32, hh⟩ := q_bind hh
              refine r_cI (rest := [va_rf (some (q_sz p24.1)), va_rf v27]) 73 13 [.int a1, .int a2, .int a3, .int a4] [va_rf (some (q_sz p24.1)), va_rf v27] jd_Bc_define_70 rfl rfl rfl (q_s8 (Nat.le_of_ble_eq_true rfl)) (q_call_le (Nat.le_of_ble_eq_true rfl) (jm_De_init e32)) rfl rfl ?_
              obtain ⟨b35, e36, hh⟩ := q_bind hh
              obtain ⟨p33, e34, hh⟩ := q_bind hh
              refine r_cV (rest := []) 76 62 1 [va_rf (some (q_sz p24.1))] [.int p33.2] jd_Bc_define_73 rfl e36 rfl rfl rfl rfl (q_s8 (Nat.le_of_ble_eq_true rfl)) (q_call_le (Nat.le_of_ble_eq_true rfl) (jm_Ca_add e34)) rfl rfl ?_
              cases hh
              exact r_iret jd_Bc_define_76 rfl ⟨rfl, rfl⟩
    · refine r_ic_f 22 24 jd_Bc_define_19 rfl c14 rfl ?_
      refine r_iconst 23 (-1) jd_Bc_define_22 (by decide) rfl ?_
      cases hh
      exact r_iret jd_Bc_define_23 rfl ⟨rfl, rfl⟩
-- BeanContexts.definition(I)I
def jf_Bc_definition (x : q_S) (a0 : Nat) (a1 : Int32) : Option (q_S × Int32) :=
  (q_gR x (some a0) 0 3).bind fun v1 =>
  (q_av x v1 4).bind fun b5 =>
  (jf_Wo_liveBean x b5 a1).bind fun p3 =>
  if p3.2 = none then
    some (p3.1, (-1))
  else
    (q_gI p3.1 p3.2 10 0).bind fun v8 =>
    some (p3.1, v8)
theorem jm_Bc_definition {x : q_S} {a0 : Nat} {a1 : Int32} {p : q_S × Int32} (hh : jf_Bc_definition x a0 a1 = some p) : q_call 5 jq_Bc_definition [va_rf (some a0), .int a1] x p.1 (some (.int p.2)) := by
  unfold jf_Bc_definition at hh
  refine ⟨List.mem_of_getElem? (i := 43) rfl, Nat.le_of_ble_eq_true rfl, List.forall_mem_cons.mpr ⟨rfl, List.forall_mem_cons.mpr ⟨rfl, fun _ h => by cases h⟩⟩, ?_⟩
  show q_X (q_call 4) _ jq_Bc_definition 0 [(0, va_rf (some a0)), (1, .int a1)] [] x
  refine r_aload_n 1 0 jd_Bc_definition_0 rfl rfl ?_
  obtain ⟨v1, e2, hh⟩ := q_bind hh
  refine r_getR 4 3 jd_Bc_definition_1 rfl e2 rfl ?_
  refine r_iload_n 5 1 jd_Bc_definition_4 rfl rfl ?_
  obtain ⟨b5, e6, hh⟩ := q_bind hh
  obtain ⟨p3, e4, hh⟩ := q_bind hh
  refine r_cV (rest := []) 8 42 4 [.int a1] [va_rf p3.2] jd_Bc_definition_5 rfl e6 rfl rfl rfl rfl (q_s8 (Nat.le_of_ble_eq_true rfl)) (q_call_le (Nat.le_of_ble_eq_true rfl) (jm_Wo_liveBean e4)) rfl rfl ?_
  refine r_astore_n 9 [(2, va_rf p3.2), (0, va_rf (some a0)), (1, .int a1)] jd_Bc_definition_8 (by decide) rfl rfl ?_
  refine r_aload_n 10 0 jd_Bc_definition_9 rfl rfl ?_
  rcases q_ite hh with ⟨c7, hh⟩ | ⟨c7, hh⟩
  · refine r_ifnonnull_f 13 17 jd_Bc_definition_10 rfl c7 rfl ?_
    refine r_iconst 14 (-1) jd_Bc_definition_13 (by decide) rfl ?_
    refine r_goto 21 jd_Bc_definition_14 rfl ?_
    cases hh
    exact r_iret jd_Bc_definition_21 rfl ⟨rfl, rfl⟩
  · refine r_ifnonnull_t 17 jd_Bc_definition_10 rfl c7 ?_
    refine r_aload_n 18 0 jd_Bc_definition_17 rfl rfl ?_
    obtain ⟨v8, e9, hh⟩ := q_bind hh
    refine r_getI 21 45 jd_Bc_definition_18 rfl e9 rfl ?_
    cases hh
    exact r_iret jd_Bc_definition_21 rfl ⟨rfl, rfl⟩
-- BeanContexts$Shelf.cachedFor(LBeanContexts$Key;)LBeanContexts$Context;
def jf_Sh_cachedFor_B2 (rc : q_S → Nat → Option Nat → Int32 → Option (q_S × Option Nat)) (x : q_S) (l0 : Nat) (l1 : Option Nat) (l2 : Int32) : Option (q_S × Option Nat) :=
  (q_gR x (some l0) 5 4).bind fun v1 =>
  (q_av x v1 2).bind fun b5 =>
  (jf_AL_size x b5).bind fun p3 =>
  if p3.2 ≤ l2 then
    some (p3.1, none)
  else
    (q_gR p3.1 (some l0) 5 4).bind fun v8 =>
    (q_av p3.1 v8 2).bind fun b12 =>
    (jf_AL_get p3.1 b12 l2).bind fun p10 =>
    (q_ck p10.1 p10.2 9).bind fun u15 =>
    (q_gR p10.1 p10.2 9 1).bind fun v16 =>
    if v16 = l1 then
      (q_gR p10.1 (some l0) 5 4).bind fun v19 =>
      (q_av p10.1 v19 2).bind fun b23 =>
      (jf_AL_get p10.1 b23 l2).bind fun p21 =>
      (q_ck p21.1 p21.2 9).bind fun u26 =>
      some (p21.1, p21.2)
    else
      rc p10.1 l0 l1 (l2 + 1)
def jf_Sh_cachedFor_L2 : Nat → q_S → Nat → Option Nat → Int32 → Option (q_S × Option Nat)
  | 0, _, _, _, _ => none
  | n + 1, x, l0, l1, l2 => jf_Sh_cachedFor_B2 (jf_Sh_cachedFor_L2 n) x l0 l1 l2
theorem jm_Sh_cachedFor_B2 {p : q_S × Option Nat} {rc : q_S → Nat → Option Nat → Int32 → Option (q_S × Option Nat)} (hrc : ∀ (x : q_S) (l0 : Nat) (l1 : Option Nat) (l2 : Int32), rc x l0 l1 l2 = some p → q_X (q_call 3) (fun y o => y = p.1 ∧ o = some (va_rf p.2)) jq_Sh_cachedFor 2 [(0, va_rf (some l0)), (1, va_rf l1), (2, .int l2)] [] x) (x : q_S) (l0 : Nat) (l1 : Option Nat) (l2 : Int32) (hh : jf_Sh_cachedFor_B2 rc x l0 l1 l2 = some p) : q_X (q_call 3) (fun y o => y = p.1 ∧ o = some (va_rf p.2)) jq_Sh_cachedFor 2 [(0, va_rf (some l0)), (1, va_rf l1), (2, .int l2)] [] x := by
  unfold jf_Sh_cachedFor_B2 at hh
  refine r_iload_n 3 2 jd_Sh_cachedFor_2 rfl rfl ?_
  refine r_aload_n 4 0 jd_Sh_cachedFor_3 rfl rfl ?_
  obtain ⟨v1, e2, hh⟩ := q_bind hh
  refine r_getR 7 11 jd_Sh_cachedFor_4 rfl e2 rfl ?_
  obtain ⟨b5, e6, hh⟩ := q_bind hh
  obtain ⟨p3, e4, hh⟩ := q_bind hh
  refine r_cV (rest := [.int l2]) 10 39 2 [] [.int p3.2, .int l2] jd_Sh_cachedFor_7 rfl e6 rfl rfl rfl rfl (q_s8 (Nat.le_of_ble_eq_true rfl)) (q_call_le (Nat.le_of_ble_eq_true rfl) (jm_AL_size e4)) rfl rfl ?_
  rcases q_ite hh with ⟨c7, hh⟩ | ⟨c7, hh⟩
  · refine r_ic_t 49 jd_Sh_cachedFor_10 rfl c7 ?_
    refine r_null 50 jd_Sh_cachedFor_49 rfl ?_
    cases hh
    exact r_aretO jd_Sh_cachedFor_50 rfl ⟨rfl, rfl⟩
  · refine r_ic_f 13 49 jd_Sh_cachedFor_10 rfl c7 rfl ?_
    refine r_aload_n 14 0 jd_Sh_cachedFor_13 rfl rfl ?_
    obtain ⟨v8, e9, hh⟩ := q_bind hh
    refine r_getR 17 11 jd_Sh_cachedFor_14 rfl e9 rfl ?_
    refine r_iload_n 18 2 jd_Sh_cachedFor_17 rfl rfl ?_
    obtain ⟨b12, e13, hh⟩ := q_bind hh
    obtain ⟨p10, e11, hh⟩ := q_bind hh
    refine r_cV (rest := []) 21 40 2 [.int l2] [va_rf p10.2] jd_Sh_cachedFor_18 rfl e13 rfl rfl rfl rfl (q_s8 (Nat.le_of_ble_eq_true rfl)) (q_call_le (Nat.le_of_ble_eq_true rfl) (jm_AL_get e11)) rfl rfl ?_
    obtain ⟨u15, e14, hh⟩ := q_bind hh
    refine r_cast 24 0 9 jd_Sh_cachedFor_21 rfl rfl e14 rfl ?_
    obtain ⟨v16, e17, hh⟩ := q_bind hh
    refine r_getR 27 46 jd_Sh_cachedFor_24 rfl e17 rfl ?_
    refine r_aload_n 28 1 jd_Sh_cachedFor_27 rfl rfl ?_
    rcases q_ite hh with ⟨c18, hh⟩ | ⟨c18, hh⟩
    · refine r_ac_f 31 43 jd_Sh_cachedFor_28 rfl (fun z => z c18) rfl ?_
      refine r_aload_n 32 0 jd_Sh_cachedFor_31 rfl rfl ?_
      obtain ⟨v19, e20, hh⟩ := q_bind hh
      refine r_getR 35 11 jd_Sh_cachedFor_32 rfl e20 rfl ?_
      refine r_iload_n 36 2 jd_Sh_cachedFor_35 rfl rfl ?_
      obtain ⟨b23, e24, hh⟩ := q_bind hh
      obtain ⟨p21, e22, hh⟩ := q_bind hh
      refine r_cV (rest := []) 39 40 2 [.int l2] [va_rf p21.2] jd_Sh_cachedFor_36 rfl e24 rfl rfl rfl rfl (q_s8 (Nat.le_of_ble_eq_true rfl)) (q_call_le (Nat.le_of_ble_eq_true rfl) (jm_AL_get e22)) rfl rfl ?_
      obtain ⟨u26, e25, hh⟩ := q_bind hh
      refine r_cast 42 0 9 jd_Sh_cachedFor_39 rfl rfl e25 rfl ?_
      cases hh
      exact r_aretO jd_Sh_cachedFor_42 rfl ⟨rfl, rfl⟩
    · refine r_ac_t 43 jd_Sh_cachedFor_28 rfl c18 ?_
      refine r_iinc 46 2 [(2, .int (l2 + 1)), (0, va_rf (some l0)), (1, va_rf l1)] 1 jd_Sh_cachedFor_43 rfl (by decide) (by decide) rfl rfl ?_
      refine r_goto 2 jd_Sh_cachedFor_46 rfl ?_
      refine q_sub [1, 2, 0] rfl ?_
      exact hrc _ _ _ _ hh
theorem jm_Sh_cachedFor_L2 {p : q_S × Option Nat} : ∀ (n : Nat) (x : q_S) (l0 : Nat) (l1 : Option Nat) (l2 : Int32), jf_Sh_cachedFor_L2 n x l0 l1 l2 = some p → q_X (q_call 3) (fun y o => y = p.1 ∧ o = some (va_rf p.2)) jq_Sh_cachedFor 2 [(0, va_rf (some l0)), (1, va_rf l1), (2, .int l2)] [] x
  | 0, _, _, _, _, hh => nomatch hh
  | n + 1, x, l0, l1, l2, hh => jm_Sh_cachedFor_B2 (jm_Sh_cachedFor_L2 n) x l0 l1 l2 hh
def jf_Sh_cachedFor (x : q_S) (a0 : Nat) (a1 : Option Nat) : Option (q_S × Option Nat) :=
  jf_Sh_cachedFor_L2 lpK x a0 a1 0
theorem jm_Sh_cachedFor {x : q_S} {a0 : Nat} {a1 : Option Nat} {p : q_S × Option Nat} (hh : jf_Sh_cachedFor x a0 a1 = some p) : q_call 4 jq_Sh_cachedFor [va_rf (some a0), va_rf a1] x p.1 (some (va_rf p.2)) := by
  unfold jf_Sh_cachedFor at hh
  refine ⟨List.mem_of_getElem? (i := 46) rfl, Nat.le_of_ble_eq_true rfl, List.forall_mem_cons.mpr ⟨rfl, List.forall_mem_cons.mpr ⟨q_cat _, fun _ h => by cases h⟩⟩, ?_⟩
  show q_X (q_call 3) _ jq_Sh_cachedFor 0 [(0, va_rf (some a0)), (1, va_rf a1)] [] x
  refine r_iconst 1 0 jd_Sh_cachedFor_0 (by decide) rfl ?_
  refine r_istore_n 2 [(2, .int 0), (0, va_rf (some a0)), (1, va_rf a1)] jd_Sh_cachedFor_1 (by decide) rfl rfl ?_
  refine q_sub [1, 2, 0] rfl ?_
  exact jm_Sh_cachedFor_L2 lpK _ _ _ _ hh
-- BeanContexts.contextOf(I)LBeanContexts$Context;
def jf_Bc_contextOf (x : q_S) (a0 : Nat) (a1 : Int32) : Option (q_S × Option Nat) :=
  (q_av x (some a0) 0).bind fun b3 =>
  (jf_Bc_isConfiguration x b3 a1).bind fun p1 =>
  if p1.2 = 0 then
    some (p1.1, none)
  else
    (q_gR p1.1 (some a0) 0 4).bind fun v6 =>
    (q_gR p1.1 (some a0) 0 1).bind fun v8 =>
    (q_av p1.1 v8 2).bind fun b12 =>
    (jf_AL_get p1.1 b12 a1).bind fun p10 =>
    (q_ck p10.1 p10.2 8).bind fun u15 =>
    (q_av p10.1 v6 5).bind fun b18 =>
    (jf_Sh_cachedFor p10.1 b18 p10.2).bind fun p16 =>
    some (p16.1, p16.2)
theorem jm_Bc_contextOf {x : q_S} {a0 : Nat} {a1 : Int32} {p : q_S × Option Nat} (hh : jf_Bc_contextOf x a0 a1 = some p) : q_call 5 jq_Bc_contextOf [va_rf (some a0), .int a1] x p.1 (some (va_rf p.2)) := by
  unfold jf_Bc_contextOf at hh
  refine ⟨List.mem_of_getElem? (i := 45) rfl, Nat.le_of_ble_eq_true rfl, List.forall_mem_cons.mpr ⟨rfl, List.forall_mem_cons.mpr ⟨rfl, fun _ h => by cases h⟩⟩, ?_⟩
  show q_X (q_call 4) _ jq_Bc_contextOf 0 [(0, va_rf (some a0)), (1, .int a1)] [] x
  refine r_aload_n 1 0 jd_Bc_contextOf_0 rfl rfl ?_
  refine r_iload_n 2 1 jd_Bc_contextOf_1 rfl rfl ?_
  obtain ⟨b3, e4, hh⟩ := q_bind hh
  obtain ⟨p1, e2, hh⟩ := q_bind hh
  refine r_cV (rest := []) 5 52 0 [.int a1] [.int p1.2] jd_Bc_contextOf_2 rfl e4 rfl rfl rfl rfl (q_s8 (Nat.le_of_ble_eq_true rfl)) (q_call_le (Nat.le_of_ble_eq_true rfl) (jm_Bc_isConfiguration e2)) rfl rfl ?_
  rcases q_ite hh with ⟨c5, hh⟩ | ⟨c5, hh⟩
  · refine r_if_t 29 jd_Bc_contextOf_5 rfl c5 ?_
    refine r_null 30 jd_Bc_contextOf_29 rfl ?_
    cases hh
    exact r_aretO jd_Bc_contextOf_30 rfl ⟨rfl, rfl⟩
  · refine r_if_f 8 29 jd_Bc_contextOf_5 rfl c5 rfl ?_
    refine r_aload_n 9 0 jd_Bc_contextOf_8 rfl rfl ?_
    obtain ⟨v6, e7, hh⟩ := q_bind hh
    refine r_getR 12 4 jd_Bc_contextOf_9 rfl e7 rfl ?_
    refine r_aload_n 13 0 jd_Bc_contextOf_12 rfl rfl ?_
    obtain ⟨v8, e9, hh⟩ := q_bind hh
    refine r_getR 16 1 jd_Bc_contextOf_13 rfl e9 rfl ?_
    refine r_iload_n 17 1 jd_Bc_contextOf_16 rfl rfl ?_
    obtain ⟨b12, e13, hh⟩ := q_bind hh
    obtain ⟨p10, e11, hh⟩ := q_bind hh
    refine r_cV (rest := [va_rf v6]) 20 48 2 [.int a1] [va_rf p10.2, va_rf v6] jd_Bc_contextOf_17 rfl e13 rfl rfl rfl rfl (q_s8 (Nat.le_of_ble_eq_true rfl)) (q_call_le (Nat.le_of_ble_eq_true rfl) (jm_AL_get e11)) rfl rfl ?_
    obtain ⟨u15, e14, hh⟩ := q_bind hh
    refine r_cast 23 2 8 jd_Bc_contextOf_20 rfl rfl e14 rfl ?_
    obtain ⟨b18, e19, hh⟩ := q_bind hh
    obtain ⟨p16, e17, hh⟩ := q_bind hh
    refine r_cV (rest := []) 26 66 5 [va_rf p10.2] [va_rf p16.2] jd_Bc_contextOf_23 rfl e19 rfl rfl rfl rfl (q_s8 (Nat.le_of_ble_eq_true rfl)) (q_call_le (Nat.le_of_ble_eq_true rfl) (jm_Sh_cachedFor e17)) rfl rfl ?_
    refine r_goto 30 jd_Bc_contextOf_26 rfl ?_
    cases hh
    exact r_aretO jd_Bc_contextOf_30 rfl ⟨rfl, rfl⟩
-- BeanContexts$Journal.write(II)V
def jf_Jo_write (x : q_S) (a0 : Nat) (a1 : Int32) (a2 : Int32) : Option (q_S × Unit) :=
  (q_gR x (some a0) 3 0).bind fun v1 =>
  (q_gI x (some a0) 3 1).bind fun v3 =>
  (q_sI x 3 v1 (v3 - v3 / 32 * 32) (((64 : Int32) * a1) + a2)).bind fun x5 =>
  (q_gI x5 (some a0) 3 1).bind fun v7 =>
  (q_pI x5 (some a0) 3 1 (v7 + 1)).bind fun x9 =>
  some (x9, ())
theorem jm_Jo_write {x : q_S} {a0 : Nat} {a1 : Int32} {a2 : Int32} {p : q_S × Unit} (hh : jf_Jo_write x a0 a1 a2 = some p) : q_call 1 jq_Jo_write [va_rf (some a0), .int a1, .int a2] x p.1 (none) := by
  unfold jf_Jo_write at hh
  refine ⟨List.mem_of_getElem? (i := 48) rfl, Nat.le_of_ble_eq_true rfl, List.forall_mem_cons.mpr ⟨rfl, List.forall_mem_cons.mpr ⟨rfl, List.forall_mem_cons.mpr ⟨rfl, fun _ h => by cases h⟩⟩⟩, ?_⟩
  show q_X (q_call 0) _ jq_Jo_write 0 [(0, va_rf (some a0)), (1, .int a1), (2, .int a2)] [] x
  refine r_aload_n 1 0 jd_Jo_write_0 rfl rfl ?_
  obtain ⟨v1, e2, hh⟩ := q_bind hh
  refine r_getR 4 9 jd_Jo_write_1 rfl e2 rfl ?_
  refine r_aload_n 5 0 jd_Jo_write_4 rfl rfl ?_
  obtain ⟨v3, e4, hh⟩ := q_bind hh
  refine r_getI 8 49 jd_Jo_write_5 rfl e4 rfl ?_
  refine r_bipush 10 32 jd_Jo_write_8 (by decide) rfl ?_
  refine r_irem 11 jd_Jo_write_10 (by decide) rfl ?_
  refine r_bipush 13 64 jd_Jo_write_11 (by decide) rfl ?_
  refine r_iload_n 14 1 jd_Jo_write_13 rfl rfl ?_
  refine r_imul 15 jd_Jo_write_14 rfl ?_
  refine r_iload_n 16 2 jd_Jo_write_15 rfl rfl ?_
  refine r_iadd 17 jd_Jo_write_16 rfl ?_
  obtain ⟨x5, e6, hh⟩ := q_bind hh
  refine r_stI 18 3 jd_Jo_write_17 rfl e6 rfl ?_
  refine r_aload_n 19 0 jd_Jo_write_18 rfl rfl ?_
  refine r_dupR 20 jd_Jo_write_19 rfl ?_
  obtain ⟨v7, e8, hh⟩ := q_bind hh
  refine r_getI 23 49 jd_Jo_write_20 rfl e8 rfl ?_
  refine r_iconst 24 1 jd_Jo_write_23 (by decide) rfl ?_
  refine r_iadd 25 jd_Jo_write_24 rfl ?_
  obtain ⟨x9, e10, hh⟩ := q_bind hh
  refine r_putI 28 49 jd_Jo_write_25 rfl rfl (Or.inl rfl) e10 rfl ?_
  cases hh
  exact r_vret jd_Jo_write_28 rfl ⟨rfl, rfl⟩
-- BeanContexts$Shelf.removeFromOrder(LBeanContexts$Context;)V
def jf_Sh_removeFromOrder_B2 (rc : q_S → Nat → Option Nat → Int32 → Option (q_S × Unit)) (x : q_S) (l0 : Nat) (l1 : Option Nat) (l2 : Int32) : Option (q_S × Unit) :=
  (q_gR x (some l0) 5 4).bind fun v1 =>
  (q_av x v1 2).bind fun b5 =>
  (jf_AL_size x b5).bind fun p3 =>
  if p3.2 ≤ l2 then
    some (p3.1, ())
  else
    (q_gR p3.1 (some l0) 5 4).bind fun v8 =>
    (q_av p3.1 v8 2).bind fun b12 =>
    (jf_AL_get p3.1 b12 l2).bind fun p10 =>
    if p10.2 = l1 then
      (q_gR p10.1 (some l0) 5 4).bind fun v15 =>
      (q_av p10.1 v15 2).bind fun b19 =>
      (jf_AL_remove p10.1 b19 l2).bind fun p17 =>
      some (p17.1, ())
    else
      rc p10.1 l0 l1 (l2 + 1)
def jf_Sh_removeFromOrder_L2 : Nat → q_S → Nat → Option Nat → Int32 → Option (q_S × Unit)
  | 0, _, _, _, _ => none
  | n + 1, x, l0, l1, l2 => jf_Sh_removeFromOrder_B2 (jf_Sh_removeFromOrder_L2 n) x l0 l1 l2
theorem jm_Sh_removeFromOrder_B2 {p : q_S × Unit} {rc : q_S → Nat → Option Nat → Int32 → Option (q_S × Unit)} (hrc : ∀ (x : q_S) (l0 : Nat) (l1 : Option Nat) (l2 : Int32), rc x l0 l1 l2 = some p → q_X (q_call 3) (fun y o => y = p.1 ∧ o = none) jq_Sh_removeFromOrder 2 [(0, va_rf (some l0)), (1, va_rf l1), (2, .int l2)] [] x) (x : q_S) (l0 : Nat) (l1 : Option Nat) (l2 : Int32) (hh : jf_Sh_removeFromOrder_B2 rc x l0 l1 l2 = some p) : q_X (q_call 3) (fun y o => y = p.1 ∧ o = none) jq_Sh_removeFromOrder 2 [(0, va_rf (some l0)), (1, va_rf l1), (2, .int l2)] [] x := by
  unfold jf_Sh_removeFromOrder_B2 at hh
  refine r_iload_n 3 2 jd_Sh_removeFromOrder_2 rfl rfl ?_
  refine r_aload_n 4 0 jd_Sh_removeFromOrder_3 rfl rfl ?_
  obtain ⟨v1, e2, hh⟩ := q_bind hh
  refine r_getR 7 11 jd_Sh_removeFromOrder_4 rfl e2 rfl ?_
  obtain ⟨b5, e6, hh⟩ := q_bind hh
  obtain ⟨p3, e4, hh⟩ := q_bind hh
  refine r_cV (rest := [.int l2]) 10 39 2 [] [.int p3.2, .int l2] jd_Sh_removeFromOrder_7 rfl e6 rfl rfl rfl rfl (q_s8 (Nat.le_of_ble_eq_true rfl)) (q_call_le (Nat.le_of_ble_eq_true rfl) (jm_AL_size e4)) rfl rfl ?_
  rcases q_ite hh with ⟨c7, hh⟩ | ⟨c7, hh⟩
  · refine r_ic_t 41 jd_Sh_removeFromOrder_10 rfl c7 ?_
    cases hh
    exact r_vret jd_Sh_removeFromOrder_41 rfl ⟨rfl, rfl⟩
  · refine r_ic_f 13 41 jd_Sh_removeFromOrder_10 rfl c7 rfl ?_
    refine r_aload_n 14 0 jd_Sh_removeFromOrder_13 rfl rfl ?_
    obtain ⟨v8, e9, hh⟩ := q_bind hh
    refine r_getR 17 11 jd_Sh_removeFromOrder_14 rfl e9 rfl ?_
    refine r_iload_n 18 2 jd_Sh_removeFromOrder_17 rfl rfl ?_
    obtain ⟨b12, e13, hh⟩ := q_bind hh
    obtain ⟨p10, e11, hh⟩ := q_bind hh
    refine r_cV (rest := []) 21 40 2 [.int l2] [va_rf p10.2] jd_Sh_removeFromOrder_18 rfl e13 rfl rfl rfl rfl (q_s8 (Nat.le_of_ble_eq_true rfl)) (q_call_le (Nat.le_of_ble_eq_true rfl) (jm_AL_get e11)) rfl rfl ?_
    refine r_aload_n 22 1 jd_Sh_removeFromOrder_21 rfl rfl ?_
    rcases q_ite hh with ⟨c14, hh⟩ | ⟨c14, hh⟩
    · refine r_ac_f 25 35 jd_Sh_removeFromOrder_22 rfl (fun z => z c14) rfl ?_
      refine r_aload_n 26 0 jd_Sh_removeFromOrder_25 rfl rfl ?_
      obtain ⟨v15, e16, hh⟩ := q_bind hh
      refine r_getR 29 11 jd_Sh_removeFromOrder_26 rfl e16 rfl ?_
      refine r_iload_n 30 2 jd_Sh_removeFromOrder_29 rfl rfl ?_
      obtain ⟨b19, e20, hh⟩ := q_bind hh
      obtain ⟨p17, e18, hh⟩ := q_bind hh
      refine r_cV (rest := []) 33 71 2 [.int l2] [va_rf p17.2] jd_Sh_removeFromOrder_30 rfl e20 rfl rfl rfl rfl (q_s8 (Nat.le_of_ble_eq_true rfl)) (q_call_le (Nat.le_of_ble_eq_true rfl) (jm_AL_remove e18)) rfl rfl ?_
      refine r_popR 34 jd_Sh_removeFromOrder_33 rfl ?_
      cases hh
      exact r_vret jd_Sh_removeFromOrder_34 rfl ⟨rfl, rfl⟩
    · refine r_ac_t 35 jd_Sh_removeFromOrder_22 rfl c14 ?_
      refine r_iinc 38 2 [(2, .int (l2 + 1)), (0, va_rf (some l0)), (1, va_rf l1)] 1 jd_Sh_removeFromOrder_35 rfl (by decide) (by decide) rfl rfl ?_
      refine r_goto 2 jd_Sh_removeFromOrder_38 rfl ?_
      refine q_sub [1, 2, 0] rfl ?_
      exact hrc _ _ _ _ hh
theorem jm_Sh_removeFromOrder_L2 {p : q_S × Unit} : ∀ (n : Nat) (x : q_S) (l0 : Nat) (l1 : Option Nat) (l2 : Int32), jf_Sh_removeFromOrder_L2 n x l0 l1 l2 = some p → q_X (q_call 3) (fun y o => y = p.1 ∧ o = none) jq_Sh_removeFromOrder 2 [(0, va_rf (some l0)), (1, va_rf l1), (2, .int l2)] [] x
  | 0, _, _, _, _, hh => nomatch hh
  | n + 1, x, l0, l1, l2, hh => jm_Sh_removeFromOrder_B2 (jm_Sh_removeFromOrder_L2 n) x l0 l1 l2 hh
def jf_Sh_removeFromOrder (x : q_S) (a0 : Nat) (a1 : Option Nat) : Option (q_S × Unit) :=
  jf_Sh_removeFromOrder_L2 lpK x a0 a1 0
theorem jm_Sh_removeFromOrder {x : q_S} {a0 : Nat} {a1 : Option Nat} {p : q_S × Unit} (hh : jf_Sh_removeFromOrder x a0 a1 = some p) : q_call 4 jq_Sh_removeFromOrder [va_rf (some a0), va_rf a1] x p.1 (none) := by
  unfold jf_Sh_removeFromOrder at hh
  refine ⟨List.mem_of_getElem? (i := 49) rfl, Nat.le_of_ble_eq_true rfl, List.forall_mem_cons.mpr ⟨rfl, List.forall_mem_cons.mpr ⟨q_cat _, fun _ h => by cases h⟩⟩, ?_⟩
  show q_X (q_call 3) _ jq_Sh_removeFromOrder 0 [(0, va_rf (some a0)), (1, va_rf a1)] [] x
  refine r_iconst 1 0 jd_Sh_removeFromOrder_0 (by decide) rfl ?_
  refine r_istore_n 2 [(2, .int 0), (0, va_rf (some a0)), (1, va_rf a1)] jd_Sh_removeFromOrder_1 (by decide) rfl rfl ?_
  refine q_sub [1, 2, 0] rfl ?_
  exact jm_Sh_removeFromOrder_L2 lpK _ _ _ _ hh
-- BeanContexts.contains(II)Z
def jf_Bc_contains (x : q_S) (a0 : Int32) (a1 : Int32) : Option (q_S × Int32) :=
  if (a0 &&& ((1 : Int32) <<< (a1 &&& 31))) = 0 then
    some (x, 0)
  else
    some (x, 1)
theorem jm_Bc_contains {x : q_S} {a0 : Int32} {a1 : Int32} {p : q_S × Int32} (hh : jf_Bc_contains x a0 a1 = some p) : q_call 1 jq_Bc_contains [.int a0, .int a1] x p.1 (some (.int p.2)) := by
  unfold jf_Bc_contains at hh
  refine ⟨List.mem_of_getElem? (i := 53) rfl, Nat.le_of_ble_eq_true rfl, List.forall_mem_cons.mpr ⟨rfl, List.forall_mem_cons.mpr ⟨rfl, fun _ h => by cases h⟩⟩, ?_⟩
  show q_X (q_call 0) _ jq_Bc_contains 0 [(0, .int a0), (1, .int a1)] [] x
  refine r_iload_n 1 0 jd_Bc_contains_0 rfl rfl ?_
  refine r_iconst 2 1 jd_Bc_contains_1 (by decide) rfl ?_
  refine r_iload_n 3 1 jd_Bc_contains_2 rfl rfl ?_
  refine r_ishl 4 jd_Bc_contains_3 rfl ?_
  refine r_iand 5 jd_Bc_contains_4 rfl ?_
  rcases q_ite hh with ⟨c1, hh⟩ | ⟨c1, hh⟩
  · refine r_if_t 12 jd_Bc_contains_5 rfl c1 ?_
    refine r_iconst 13 0 jd_Bc_contains_12 (by decide) rfl ?_
    cases hh
    exact r_zret jd_Bc_contains_13 rfl (by decide) ⟨rfl, rfl⟩
  · refine r_if_f 8 12 jd_Bc_contains_5 rfl c1 rfl ?_
    refine r_iconst 9 1 jd_Bc_contains_8 (by decide) rfl ?_
    refine r_goto 13 jd_Bc_contains_9 rfl ?_
    cases hh
    exact r_zret jd_Bc_contains_13 rfl (by decide) ⟨rfl, rfl⟩
-- BeanContexts$Workshop.destroyBeans(LBeanContexts$Context;)V
def jf_Wo_destroyBeans_B10 (rc : q_S → Nat → Option Nat → Int32 → Option (q_S × Unit)) (x : q_S) (l0 : Nat) (l1 : Option Nat) (l2 : Int32) : Option (q_S × Unit) :=
  if l2 < 0 then
    (q_pZ x l1 9 6 1).bind fun x8 =>
    some (x8, ())
  else
    (q_gR x (some l0) 4 2).bind fun v10 =>
    (q_av x v10 2).bind fun b14 =>
    (jf_AL_get x b14 l2).bind fun p12 =>
    (q_ck p12.1 p12.2 10).bind fun u17 =>
    (q_gR p12.1 p12.2 10 1).bind fun v18 =>
    if v18 = l1 then
      (q_gR p12.1 l1 9 1).bind fun v21 =>
      (q_gI p12.1 v21 8 3).bind fun v23 =>
      (q_gI p12.1 p12.2 10 0).bind fun v25 =>
      (jf_Bc_contains p12.1 v23 v25).bind fun p27 =>
      if p27.2 = 0 then
        rc p27.1 l0 l1 (l2 + (-1))
      else
        (q_gR p27.1 (some l0) 4 1).bind fun v30 =>
        (q_gI p27.1 p12.2 10 0).bind fun v32 =>
        (q_av p27.1 v30 3).bind fun b36 =>
        (jf_Jo_write p27.1 b36 4 v32).bind fun p34 =>
        rc p34.1 l0 l1 (l2 + (-1))
    else
      rc p12.1 l0 l1 (l2 + (-1))
def jf_Wo_destroyBeans_L10 : Nat → q_S → Nat → Option Nat → Int32 → Option (q_S × Unit)
  | 0, _, _, _, _ => none
  | n + 1, x, l0, l1, l2 => jf_Wo_destroyBeans_B10 (jf_Wo_destroyBeans_L10 n) x l0 l1 l2
theorem jm_Wo_destroyBeans_B10 {p : q_S × Unit} {rc : q_S → Nat → Option Nat → Int32 → Option (q_S × Unit)} (hrc : ∀ (x : q_S) (l0 : Nat) (l1 : Option Nat) (l2 : Int32), rc x l0 l1 l2 = some p → q_X (q_call 3) (fun y o => y = p.1 ∧ o = none) jq_Wo_destroyBeans 10 [(0, va_rf (some l0)), (1, va_rf l1), (2, .int l2)] [] x) (x : q_S) (l0 : Nat) (l1 : Option Nat) (l2 : Int32) (hh : jf_Wo_destroyBeans_B10 rc x l0 l1 l2 = some p) : q_X (q_call 3) (fun y o => y = p.1 ∧ o = none) jq_Wo_destroyBeans 10 [(0, va_rf (some l0)), (1, va_rf l1), (2, .int l2)] [] x := by
  unfold jf_Wo_destroyBeans_B10 at hh
  refine r_iload_n 11 2 jd_Wo_destroyBeans_10 rfl rfl ?_
  rcases q_ite hh with ⟨c7, hh⟩ | ⟨c7, hh⟩
  · refine r_if_t 69 jd_Wo_destroyBeans_11 rfl c7 ?_
    refine r_aload_n 70 1 jd_Wo_destroyBeans_69 rfl rfl ?_
    refine r_iconst 71 1 jd_Wo_destroyBeans_70 (by decide) rfl ?_
    obtain ⟨x8, e9, hh⟩ := q_bind hh
    refine r_putZ 74 27 jd_Wo_destroyBeans_71 rfl rfl (Or.inl rfl) e9 rfl ?_
    cases hh
    exact r_vret jd_Wo_destroyBeans_74 rfl ⟨rfl, rfl⟩
  · refine r_if_f 14 69 jd_Wo_destroyBeans_11 rfl c7 rfl ?_
    refine r_aload_n 15 0 jd_Wo_destroyBeans_14 rfl rfl ?_
    obtain ⟨v10, e11, hh⟩ := q_bind hh
    refine r_getR 18 15 jd_Wo_destroyBeans_15 rfl e11 rfl ?_
    refine r_iload_n 19 2 jd_Wo_destroyBeans_18 rfl rfl ?_
    obtain ⟨b14, e15, hh⟩ := q_bind hh
    obtain ⟨p12, e13, hh⟩ := q_bind hh
    refine r_cV (rest := []) 22 45 2 [.int l2] [va_rf p12.2] jd_Wo_destroyBeans_19 rfl e15 rfl rfl rfl rfl (q_s8 (Nat.le_of_ble_eq_true rfl)) (q_call_le (Nat.le_of_ble_eq_true rfl) (jm_AL_get e13)) rfl rfl ?_
    obtain ⟨u17, e16, hh⟩ := q_bind hh
    refine r_cast 25 1 10 jd_Wo_destroyBeans_22 rfl rfl e16 rfl ?_
    refine r_astore_n 26 [(3, va_rf p12.2), (0, va_rf (some l0)), (1, va_rf l1), (2, .int l2)] jd_Wo_destroyBeans_25 (by decide) rfl rfl ?_
    refine r_aload_n 27 0 jd_Wo_destroyBeans_26 rfl rfl ?_
    obtain ⟨v18, e19, hh⟩ := q_bind hh
    refine r_getR 30 26 jd_Wo_destroyBeans_27 rfl e19 rfl ?_
    refine r_aload_n 31 2 jd_Wo_destroyBeans_30 rfl rfl ?_
    rcases q_ite hh with ⟨c20, hh⟩ | ⟨c20, hh⟩
    · refine r_ac_f 34 63 jd_Wo_destroyBeans_31 rfl (fun z => z c20) rfl ?_
      refine r_aload_n 35 2 jd_Wo_destroyBeans_34 rfl rfl ?_
      obtain ⟨v21, e22, hh⟩ := q_bind hh
      refine r_getR 38 50 jd_Wo_destroyBeans_35 rfl e22 rfl ?_
      obtain ⟨v23, e24, hh⟩ := q_bind hh
      refine r_getI 41 51 jd_Wo_destroyBeans_38 rfl e24 rfl ?_
      refine r_aload_n 42 0 jd_Wo_destroyBeans_41 rfl rfl ?_
      obtain ⟨v25, e26, hh⟩ := q_bind hh
      refine r_getI 45 21 jd_Wo_destroyBeans_42 rfl e26 rfl ?_
      obtain ⟨p27, e28, hh⟩ := q_bind hh
      refine r_cS (rest := []) 48 13 [.int v23, .int v25] [.int p27.2] jd_Wo_destroyBeans_45 rfl rfl rfl (q_s8 (Nat.le_of_ble_eq_true rfl)) (q_call_le (Nat.le_of_ble_eq_true rfl) (jm_Bc_contains e28)) rfl rfl ?_
      rcases q_ite hh with ⟨c29, hh⟩ | ⟨c29, hh⟩
      · refine r_if_t 63 jd_Wo_destroyBeans_48 rfl c29 ?_
        refine r_iinc 66 3 [(2, .int (l2 + (-1))), (3, va_rf p12.2), (0, va_rf (some l0)), (1, va_rf l1)] (-1) jd_Wo_destroyBeans_63 rfl (by decide) (by decide) rfl rfl ?_
        refine r_goto 10 jd_Wo_destroyBeans_66 rfl ?_
        refine q_sub [2, 3, 0] rfl ?_
        exact hrc _ _ _ _ hh
      · refine r_if_f 51 63 jd_Wo_destroyBeans_48 rfl c29 rfl ?_
        refine r_aload_n 52 1 jd_Wo_destroyBeans_51 rfl rfl ?_
        obtain ⟨v30, e31, hh⟩ := q_bind hh
        refine r_getR 55 17 jd_Wo_destroyBeans_52 rfl e31 rfl ?_
        refine r_iconst 56 4 jd_Wo_destroyBeans_55 (by decide) rfl ?_
        refine r_aload_n 57 0 jd_Wo_destroyBeans_56 rfl rfl ?_
        obtain ⟨v32, e33, hh⟩ := q_bind hh
        refine r_getI 60 21 jd_Wo_destroyBeans_57 rfl e33 rfl ?_
        obtain ⟨b36, e37, hh⟩ := q_bind hh
        obtain ⟨p34, e35, hh⟩ := q_bind hh
        refine r_cV (rest := []) 63 73 3 [.int 4, .int v32] [] jd_Wo_destroyBeans_60 rfl e37 rfl rfl rfl rfl (q_s8 (Nat.le_of_ble_eq_true rfl)) (q_call_le (Nat.le_of_ble_eq_true rfl) (jm_Jo_write e35)) rfl rfl ?_
        refine r_iinc 66 3 [(2, .int (l2 + (-1))), (3, va_rf p12.2), (0, va_rf (some l0)), (1, va_rf l1)] (-1) jd_Wo_destroyBeans_63 rfl (by decide) (by decide) rfl rfl ?_
        refine r_goto 10 jd_Wo_destroyBeans_66 rfl ?_
        refine q_sub [2, 3, 0] rfl ?_
        exact hrc _ _ _ _ hh
    · refine r_ac_t 63 jd_Wo_destroyBeans_31 rfl c20 ?_
      refine r_iinc 66 3 [(2, .int (l2 + (-1))), (3, va_rf p12.2), (0, va_rf (some l0)), (1, va_rf l1)] (-1) jd_Wo_destroyBeans_63 rfl (by decide) (by decide) rfl rfl ?_
      refine r_goto 10 jd_Wo_destroyBeans_66 rfl ?_
      refine q_sub [2, 3, 0] rfl ?_
      exact hrc _ _ _ _ hh
theorem jm_Wo_destroyBeans_L10 {p : q_S × Unit} : ∀ (n : Nat) (x : q_S) (l0 : Nat) (l1 : Option Nat) (l2 : Int32), jf_Wo_destroyBeans_L10 n x l0 l1 l2 = some p → q_X (q_call 3) (fun y o => y = p.1 ∧ o = none) jq_Wo_destroyBeans 10 [(0, va_rf (some l0)), (1, va_rf l1), (2, .int l2)] [] x
  | 0, _, _, _, _, hh => nomatch hh
  | n + 1, x, l0, l1, l2, hh => jm_Wo_destroyBeans_B10 (jm_Wo_destroyBeans_L10 n) x l0 l1 l2 hh
def jf_Wo_destroyBeans (x : q_S) (a0 : Nat) (a1 : Option Nat) : Option (q_S × Unit) :=
  (q_gR x (some a0) 4 2).bind fun v1 =>
  (q_av x v1 2).bind fun b5 =>
  (jf_AL_size x b5).bind fun p3 =>
  jf_Wo_destroyBeans_L10 lpK p3.1 a0 a1 (p3.2 - 1)
theorem jm_Wo_destroyBeans {x : q_S} {a0 : Nat} {a1 : Option Nat} {p : q_S × Unit} (hh : jf_Wo_destroyBeans x a0 a1 = some p) : q_call 4 jq_Wo_destroyBeans [va_rf (some a0), va_rf a1] x p.1 (none) := by
  unfold jf_Wo_destroyBeans at hh
  refine ⟨List.mem_of_getElem? (i := 52) rfl, Nat.le_of_ble_eq_true rfl, List.forall_mem_cons.mpr ⟨rfl, List.forall_mem_cons.mpr ⟨q_cat _, fun _ h => by cases h⟩⟩, ?_⟩
  show q_X (q_call 3) _ jq_Wo_destroyBeans 0 [(0, va_rf (some a0)), (1, va_rf a1)] [] x
  refine r_aload_n 1 0 jd_Wo_destroyBeans_0 rfl rfl ?_
  obtain ⟨v1, e2, hh⟩ := q_bind hh
  refine r_getR 4 15 jd_Wo_destroyBeans_1 rfl e2 rfl ?_
  obtain ⟨b5, e6, hh⟩ := q_bind hh
  obtain ⟨p3, e4, hh⟩ := q_bind hh
  refine r_cV (rest := []) 7 46 2 [] [.int p3.2] jd_Wo_destroyBeans_4 rfl e6 rfl rfl rfl rfl (q_s8 (Nat.le_of_ble_eq_true rfl)) (q_call_le (Nat.le_of_ble_eq_true rfl) (jm_AL_size e4)) rfl rfl ?_
  refine r_iconst 8 1 jd_Wo_destroyBeans_7 (by decide) rfl ?_
  refine r_isub 9 jd_Wo_destroyBeans_8 rfl ?_
  refine r_istore_n 10 [(2, .int (p3.2 - 1)), (0, va_rf (some a0)), (1, va_rf a1)] jd_Wo_destroyBeans_9 (by decide) rfl rfl ?_
  refine q_sub [1, 2, 0] rfl ?_
  exact jm_Wo_destroyBeans_L10 lpK _ _ _ _ hh
-- BeanContexts$Shelf.close(LBeanContexts$Context;)I
def jf_Sh_close_B12 (rc_Sh_close : q_S → Nat → Option Nat → Option (q_S × Int32)) (rc : q_S → Nat → Option Nat → Int32 → Int32 → Option (q_S × Int32)) (x : q_S) (l0 : Nat) (l1 : Option Nat) (l2 : Int32) (l3 : Int32) : Option (q_S × Int32) :=
  (q_gI x l1 9 0).bind fun v7 =>
  if l3 ≤ v7 then
    (q_gR x (some l0) 5 1).bind fun v10 =>
    (q_av x v10 4).bind fun b14 =>
    (jf_Wo_destroyBeans x b14 l1).bind fun p12 =>
    (q_pZ p12.1 l1 9 5 0).bind fun x16 =>
    (q_av x16 (some l0) 5).bind fun b20 =>
    (jf_Sh_removeFromOrder x16 b20 l1).bind fun p18 =>
    (q_gR p18.1 (some l0) 5 2).bind fun v22 =>
    (q_gI p18.1 l1 9 0).bind fun v24 =>
    (q_av p18.1 v22 3).bind fun b28 =>
    (jf_Jo_write p18.1 b28 5 v24).bind fun p26 =>
    some (p26.1, l2)
  else
    (q_gR x (some l0) 5 3).bind fun v30 =>
    (q_av x v30 2).bind fun b34 =>
    (jf_AL_get x b34 l3).bind fun p32 =>
    (q_ck p32.1 p32.2 9).bind fun u37 =>
    (q_gI p32.1 p32.2 9 5).bind fun v38 =>
    if v38 = 0 then
      rc p32.1 l0 l1 l2 (l3 + (-1))
    else
      (q_gR p32.1 p32.2 9 2).bind fun v41 =>
      if v41 = l1 then
        (q_av p32.1 (some l0) 5).bind fun b46 =>
        (rc_Sh_close p32.1 b46 p32.2).bind fun p44 =>
        rc p44.1 l0 l1 (l2 + p44.2) (l3 + (-1))
      else
        rc p32.1 l0 l1 l2 (l3 + (-1))
def jf_Sh_close_L12 (rc_Sh_close : q_S → Nat → Option Nat → Option (q_S × Int32)) : Nat → q_S → Nat → Option Nat → Int32 → Int32 → Option (q_S × Int32)
  | 0, _, _, _, _, _ => none
  | n + 1, x, l0, l1, l2, l3 => jf_Sh_close_B12 rc_Sh_close (jf_Sh_close_L12 rc_Sh_close n) x l0 l1 l2 l3
theorem jm_Sh_close_B12 {d : Nat} (hd : 4 ≤ d) {rc_Sh_close : q_S → Nat → Option Nat → Option (q_S × Int32)} (hr_Sh_close : ∀ {x : q_S} {a0 : Nat} {a1 : Option Nat} {p : q_S × Int32}, rc_Sh_close x a0 a1 = some p → q_call d jq_Sh_close [va_rf (some a0), va_rf a1] x p.1 (some (.int p.2))) {p : q_S × Int32} {rc : q_S → Nat → Option Nat → Int32 → Int32 → Option (q_S × Int32)} (hrc : ∀ (x : q_S) (l0 : Nat) (l1 : Option Nat) (l2 : Int32) (l3 : Int32), rc x l0 l1 l2 l3 = some p → q_X (q_call (d + 0)) (fun y o => y = p.1 ∧ o = some (.int p.2)) jq_Sh_close 12 [(0, va_rf (some l0)), (1, va_rf l1), (2, .int l2), (3, .int l3)] [] x) (x : q_S) (l0 : Nat) (l1 : Option Nat) (l2 : Int32) (l3 : Int32) (hh : jf_Sh_close_B12 rc_Sh_close rc x l0 l1 l2 l3 = some p) : q_X (q_call (d + 0)) (fun y o => y = p.1 ∧ o = some (.int p.2)) jq_Sh_close 12 [(0, va_rf (some l0)), (1, va_rf l1), (2, .int l2), (3, .int l3)] [] x := by
  unfold jf_Sh_close_B12 at hh
  refine r_iload_n 13 3 jd_Sh_close_12 rfl rfl ?_
  refine r_aload_n 14 1 jd_Sh_close_13 rfl rfl ?_
  obtain ⟨v7, e8, hh⟩ := q_bind hh
  refine r_getI 17 18 jd_Sh_close_14 rfl e8 rfl ?_
  rcases q_ite hh with ⟨c9, hh⟩ | ⟨c9, hh⟩
  · refine r_ic_t 65 jd_Sh_close_17 rfl c9 ?_
    refine r_aload_n 66 0 jd_Sh_close_65 rfl rfl ?_
    obtain ⟨v10, e11, hh⟩ := q_bind hh
    refine r_getR 69 13 jd_Sh_close_66 rfl e11 rfl ?_
    refine r_aload_n 70 1 jd_Sh_close_69 rfl rfl ?_
    obtain ⟨b14, e15, hh⟩ := q_bind hh
    obtain ⟨p12, e13, hh⟩ := q_bind hh
    refine r_cV (rest := []) 73 67 4 [va_rf l1] [] jd_Sh_close_70 rfl e15 rfl rfl rfl rfl (q_s8 (Nat.le_of_ble_eq_true rfl)) (q_call_le (by omega) (jm_Wo_destroyBeans e13)) rfl rfl ?_
    refine r_aload_n 74 1 jd_Sh_close_73 rfl rfl ?_
    refine r_iconst 75 0 jd_Sh_close_74 (by decide) rfl ?_
    obtain ⟨x16, e17, hh⟩ := q_bind hh
    refine r_putZ 78 47 jd_Sh_close_75 rfl rfl (Or.inl rfl) e17 rfl ?_
    refine r_aload_n 79 0 jd_Sh_close_78 rfl rfl ?_
    refine r_aload_n 80 1 jd_Sh_close_79 rfl rfl ?_
    obtain ⟨b20, e21, hh⟩ := q_bind hh
    obtain ⟨p18, e19, hh⟩ := q_bind hh
    refine r_cV (rest := []) 83 68 5 [va_rf l1] [] jd_Sh_close_80 rfl e21 rfl rfl rfl rfl (q_s8 (Nat.le_of_ble_eq_true rfl)) (q_call_le (by omega) (jm_Sh_removeFromOrder e19)) rfl rfl ?_
    refine r_aload_n 84 0 jd_Sh_close_83 rfl rfl ?_
    obtain ⟨v22, e23, hh⟩ := q_bind hh
    refine r_getR 87 14 jd_Sh_close_84 rfl e23 rfl ?_
    refine r_iconst 88 5 jd_Sh_close_87 (by decide) rfl ?_
    refine r_aload_n 89 1 jd_Sh_close_88 rfl rfl ?_
    obtain ⟨v24, e25, hh⟩ := q_bind hh
    refine r_getI 92 18 jd_Sh_close_89 rfl e25 rfl ?_
    obtain ⟨b28, e29, hh⟩ := q_bind hh
    obtain ⟨p26, e27, hh⟩ := q_bind hh
    refine r_cV (rest := []) 95 69 3 [.int 5, .int v24] [] jd_Sh_close_92 rfl e29 rfl rfl rfl rfl (q_s8 (Nat.le_of_ble_eq_true rfl)) (q_call_le (by omega) (jm_Jo_write e27)) rfl rfl ?_
    refine r_iload_n 96 2 jd_Sh_close_95 rfl rfl ?_
    cases hh
    exact r_iret jd_Sh_close_96 rfl ⟨rfl, rfl⟩
  · refine r_ic_f 20 65 jd_Sh_close_17 rfl c9 rfl ?_
    refine r_aload_n 21 0 jd_Sh_close_20 rfl rfl ?_
    obtain ⟨v30, e31, hh⟩ := q_bind hh
    refine r_getR 24 10 jd_Sh_close_21 rfl e31 rfl ?_
    refine r_iload_n 25 3 jd_Sh_close_24 rfl rfl ?_
    obtain ⟨b34, e35, hh⟩ := q_bind hh
    obtain ⟨p32, e33, hh⟩ := q_bind hh
    refine r_cV (rest := []) 28 40 2 [.int l3] [va_rf p32.2] jd_Sh_close_25 rfl e35 rfl rfl rfl rfl (q_s8 (Nat.le_of_ble_eq_true rfl)) (q_call_le (by omega) (jm_AL_get e33)) rfl rfl ?_
    obtain ⟨u37, e36, hh⟩ := q_bind hh
    refine r_cast 31 0 9 jd_Sh_close_28 rfl rfl e36 rfl ?_
    refine r_astore 33 [(4, va_rf p32.2), (0, va_rf (some l0)), (1, va_rf l1), (2, .int l2), (3, .int l3)] jd_Sh_close_31 (by decide) rfl rfl ?_
    refine r_aload 35 0 jd_Sh_close_33 rfl rfl ?_
    obtain ⟨v38, e39, hh⟩ := q_bind hh
    refine r_getI 38 47 jd_Sh_close_35 rfl e39 rfl ?_
    rcases q_ite hh with ⟨c40, hh⟩ | ⟨c40, hh⟩
    · refine r_if_t 59 jd_Sh_close_38 rfl c40 ?_
      refine r_iinc 62 4 [(3, .int (l3 + (-1))), (4, va_rf p32.2), (0, va_rf (some l0)), (1, va_rf l1), (2, .int l2)] (-1) jd_Sh_close_59 rfl (by decide) (by decide) rfl rfl ?_
      refine r_goto 12 jd_Sh_close_62 rfl ?_
      refine q_sub [2, 3, 4, 0] rfl ?_
      exact hrc _ _ _ _ _ hh
    · refine r_if_f 41 59 jd_Sh_close_38 rfl c40 rfl ?_
      refine r_aload 43 0 jd_Sh_close_41 rfl rfl ?_
      obtain ⟨v41, e42, hh⟩ := q_bind hh
      refine r_getR 46 48 jd_Sh_close_43 rfl e42 rfl ?_
      refine r_aload_n 47 2 jd_Sh_close_46 rfl rfl ?_
      rcases q_ite hh with ⟨c43, hh⟩ | ⟨c43, hh⟩
      · refine r_ac_f 50 59 jd_Sh_close_47 rfl (fun z => z c43) rfl ?_
        refine r_iload_n 51 3 jd_Sh_close_50 rfl rfl ?_
        refine r_aload_n 52 1 jd_Sh_close_51 rfl rfl ?_
        refine r_aload 54 0 jd_Sh_close_52 rfl rfl ?_
        obtain ⟨b46, e47, hh⟩ := q_bind hh
        obtain ⟨p44, e45, hh⟩ := q_bind hh
        refine r_cV (rest := [.int l2]) 57 70 5 [va_rf p32.2] [.int p44.2, .int l2] jd_Sh_close_54 rfl e47 rfl rfl rfl rfl (q_s8 (Nat.le_of_ble_eq_true rfl)) (q_call_le (by omega) (hr_Sh_close e45)) rfl rfl ?_
        refine r_iadd 58 jd_Sh_close_57 rfl ?_
        refine r_istore_n 59 [(2, .int (l2 + p44.2)), (4, va_rf p32.2), (0, va_rf (some l0)), (1, va_rf l1), (3, .int l3)] jd_Sh_close_58 (by decide) rfl rfl ?_
        refine r_iinc 62 4 [(3, .int (l3 + (-1))), (2, .int (l2 + p44.2)), (4, va_rf p32.2), (0, va_rf (some l0)), (1, va_rf l1)] (-1) jd_Sh_close_59 rfl (by decide) (by decide) rfl rfl ?_
        refine r_goto 12 jd_Sh_close_62 rfl ?_
        refine q_sub [3, 4, 1, 0] rfl ?_
        exact hrc _ _ _ _ _ hh
      · refine r_ac_t 59 jd_Sh_close_47 rfl c43 ?_
        refine r_iinc 62 4 [(3, .int (l3 + (-1))), (4, va_rf p32.2), (0, va_rf (some l0)), (1, va_rf l1), (2, .int l2)] (-1) jd_Sh_close_59 rfl (by decide) (by decide) rfl rfl ?_
        refine r_goto 12 jd_Sh_close_62 rfl ?_
        refine q_sub [2, 3, 4, 0] rfl ?_
        exact hrc _ _ _ _ _ hh
theorem jm_Sh_close_L12 {d : Nat} (hd : 4 ≤ d) {rc_Sh_close : q_S → Nat → Option Nat → Option (q_S × Int32)} (hr_Sh_close : ∀ {x : q_S} {a0 : Nat} {a1 : Option Nat} {p : q_S × Int32}, rc_Sh_close x a0 a1 = some p → q_call d jq_Sh_close [va_rf (some a0), va_rf a1] x p.1 (some (.int p.2))) {p : q_S × Int32} : ∀ (n : Nat) (x : q_S) (l0 : Nat) (l1 : Option Nat) (l2 : Int32) (l3 : Int32), jf_Sh_close_L12 rc_Sh_close n x l0 l1 l2 l3 = some p → q_X (q_call (d + 0)) (fun y o => y = p.1 ∧ o = some (.int p.2)) jq_Sh_close 12 [(0, va_rf (some l0)), (1, va_rf l1), (2, .int l2), (3, .int l3)] [] x
  | 0, _, _, _, _, _, hh => nomatch hh
  | n + 1, x, l0, l1, l2, l3, hh => jm_Sh_close_B12 hd hr_Sh_close (jm_Sh_close_L12 hd hr_Sh_close n) x l0 l1 l2 l3 hh
def jf_Sh_close (rc_Sh_close : q_S → Nat → Option Nat → Option (q_S × Int32)) (x : q_S) (a0 : Nat) (a1 : Option Nat) : Option (q_S × Int32) :=
  (q_gR x (some a0) 5 3).bind fun v1 =>
  (q_av x v1 2).bind fun b5 =>
  (jf_AL_size x b5).bind fun p3 =>
  jf_Sh_close_L12 rc_Sh_close lpK p3.1 a0 a1 1 (p3.2 - 1)
theorem jm_Sh_close {d : Nat} (hd : 4 ≤ d) {rc_Sh_close : q_S → Nat → Option Nat → Option (q_S × Int32)} (hr_Sh_close : ∀ {x : q_S} {a0 : Nat} {a1 : Option Nat} {p : q_S × Int32}, rc_Sh_close x a0 a1 = some p → q_call d jq_Sh_close [va_rf (some a0), va_rf a1] x p.1 (some (.int p.2))) {x : q_S} {a0 : Nat} {a1 : Option Nat} {p : q_S × Int32} (hh : jf_Sh_close rc_Sh_close x a0 a1 = some p) : q_call (d + 1) jq_Sh_close [va_rf (some a0), va_rf a1] x p.1 (some (.int p.2)) := by
  unfold jf_Sh_close at hh
  refine ⟨List.mem_of_getElem? (i := 47) rfl, Nat.le_of_ble_eq_true rfl, List.forall_mem_cons.mpr ⟨rfl, List.forall_mem_cons.mpr ⟨q_cat _, fun _ h => by cases h⟩⟩, ?_⟩
  show q_X (q_call (d + 0)) _ jq_Sh_close 0 [(0, va_rf (some a0)), (1, va_rf a1)] [] x
  refine r_iconst 1 1 jd_Sh_close_0 (by decide) rfl ?_
  refine r_istore_n 2 [(2, .int 1), (0, va_rf (some a0)), (1, va_rf a1)] jd_Sh_close_1 (by decide) rfl rfl ?_
  refine r_aload_n 3 1 jd_Sh_close_2 rfl rfl ?_
  obtain ⟨v1, e2, hh⟩ := q_bind hh
  refine r_getR 6 10 jd_Sh_close_3 rfl e2 rfl ?_
  obtain ⟨b5, e6, hh⟩ := q_bind hh
  obtain ⟨p3, e4, hh⟩ := q_bind hh
  refine r_cV (rest := []) 9 39 2 [] [.int p3.2] jd_Sh_close_6 rfl e6 rfl rfl rfl rfl (q_s8 (Nat.le_of_ble_eq_true rfl)) (q_call_le (by omega) (jm_AL_size e4)) rfl rfl ?_
  refine r_iconst 10 1 jd_Sh_close_9 (by decide) rfl ?_
  refine r_isub 11 jd_Sh_close_10 rfl ?_
  refine r_istore_n 12 [(3, .int (p3.2 - 1)), (2, .int 1), (0, va_rf (some a0)), (1, va_rf a1)] jd_Sh_close_11 (by decide) rfl rfl ?_
  refine q_sub [2, 3, 1, 0] rfl ?_
  exact jm_Sh_close_L12 hd hr_Sh_close lpK _ _ _ _ _ hh
def jg_Sh_close : Nat → q_S → Nat → Option Nat → Option (q_S × Int32)
  | 0, _, _, _ => none
  | n + 1, x, a0, a1 => jf_Sh_close (jg_Sh_close n) x a0 a1
theorem jn_Sh_close : ∀ (n : Nat), ∀ {x : q_S} {a0 : Nat} {a1 : Option Nat} {p : q_S × Int32}, jg_Sh_close n x a0 a1 = some p → q_call (4 + 1 * n) jq_Sh_close [va_rf (some a0), va_rf a1] x p.1 (some (.int p.2)) := by
  intro n
  induction n with
  | zero => intro x a0 a1 p hh; exact nomatch hh
  | succ n ih => intro x a0 a1 p hh; exact q_call_le (by omega) (jm_Sh_close (d := 4 + 1 * n) (Nat.le_add_right _ _) ih hh)
-- BeanContexts.dirty(I)I
def jf_Bc_dirty (x : q_S) (a0 : Nat) (a1 : Int32) : Option (q_S × Int32) :=
  (q_av x (some a0) 0).bind fun b3 =>
  (jf_Bc_isConfiguration x b3 a1).bind fun p1 =>
  if p1.2 = 0 then
    some (p1.1, (-1))
  else
    (q_av p1.1 (some a0) 0).bind fun b8 =>
    (jf_Bc_contextOf p1.1 b8 a1).bind fun p6 =>
    if p6.2 = none then
      some (p6.1, 0)
    else
      (q_gR p6.1 (some a0) 0 4).bind fun v11 =>
      (q_av p6.1 v11 5).bind fun b15 =>
      (jg_Sh_close 6 p6.1 b15 p6.2).bind fun p13 =>
      some (p13.1, p13.2)
theorem jm_Bc_dirty {x : q_S} {a0 : Nat} {a1 : Int32} {p : q_S × Int32} (hh : jf_Bc_dirty x a0 a1 = some p) : q_call 11 jq_Bc_dirty [va_rf (some a0), .int a1] x p.1 (some (.int p.2)) := by
  unfold jf_Bc_dirty at hh
  refine ⟨List.mem_of_getElem? (i := 44) rfl, Nat.le_of_ble_eq_true rfl, List.forall_mem_cons.mpr ⟨rfl, List.forall_mem_cons.mpr ⟨rfl, fun _ h => by cases h⟩⟩, ?_⟩
  show q_X (q_call 10) _ jq_Bc_dirty 0 [(0, va_rf (some a0)), (1, .int a1)] [] x
  refine r_aload_n 1 0 jd_Bc_dirty_0 rfl rfl ?_
  refine r_iload_n 2 1 jd_Bc_dirty_1 rfl rfl ?_
  obtain ⟨b3, e4, hh⟩ := q_bind hh
  obtain ⟨p1, e2, hh⟩ := q_bind hh
  refine r_cV (rest := []) 5 52 0 [.int a1] [.int p1.2] jd_Bc_dirty_2 rfl e4 rfl rfl rfl rfl (q_s8 (Nat.le_of_ble_eq_true rfl)) (q_call_le (Nat.le_of_ble_eq_true rfl) (jm_Bc_isConfiguration e2)) rfl rfl ?_
  rcases q_ite hh with ⟨c5, hh⟩ | ⟨c5, hh⟩
  · refine r_if_f 8 10 jd_Bc_dirty_5 rfl (fun z => z c5) rfl ?_
    refine r_iconst 9 (-1) jd_Bc_dirty_8 (by decide) rfl ?_
    cases hh
    exact r_iret jd_Bc_dirty_9 rfl ⟨rfl, rfl⟩
  · refine r_if_t 10 jd_Bc_dirty_5 rfl c5 ?_
    refine r_aload_n 11 0 jd_Bc_dirty_10 rfl rfl ?_
    refine r_iload_n 12 1 jd_Bc_dirty_11 rfl rfl ?_
    obtain ⟨b8, e9, hh⟩ := q_bind hh
    obtain ⟨p6, e7, hh⟩ := q_bind hh
    refine r_cV (rest := []) 15 64 0 [.int a1] [va_rf p6.2] jd_Bc_dirty_12 rfl e9 rfl rfl rfl rfl (q_s8 (Nat.le_of_ble_eq_true rfl)) (q_call_le (Nat.le_of_ble_eq_true rfl) (jm_Bc_contextOf e7)) rfl rfl ?_
    refine r_astore_n 16 [(2, va_rf p6.2), (0, va_rf (some a0)), (1, .int a1)] jd_Bc_dirty_15 (by decide) rfl rfl ?_
    refine r_aload_n 17 0 jd_Bc_dirty_16 rfl rfl ?_
    rcases q_ite hh with ⟨c10, hh⟩ | ⟨c10, hh⟩
    · refine r_ifnonnull_f 20 24 jd_Bc_dirty_17 rfl c10 rfl ?_
      refine r_iconst 21 0 jd_Bc_dirty_20 (by decide) rfl ?_
      refine r_goto 32 jd_Bc_dirty_21 rfl ?_
      cases hh
      exact r_iret jd_Bc_dirty_32 rfl ⟨rfl, rfl⟩
    · refine r_ifnonnull_t 24 jd_Bc_dirty_17 rfl c10 ?_
      refine r_aload_n 25 1 jd_Bc_dirty_24 rfl rfl ?_
      obtain ⟨v11, e12, hh⟩ := q_bind hh
      refine r_getR 28 4 jd_Bc_dirty_25 rfl e12 rfl ?_
      refine r_aload_n 29 0 jd_Bc_dirty_28 rfl rfl ?_
      obtain ⟨b15, e16, hh⟩ := q_bind hh
      obtain ⟨p13, e14, hh⟩ := q_bind hh
      refine r_cV (rest := []) 32 65 5 [va_rf p6.2] [.int p13.2] jd_Bc_dirty_29 rfl e16 rfl rfl rfl rfl (q_s8 (Nat.le_of_ble_eq_true rfl)) (q_call_le (Nat.le_of_ble_eq_true rfl) (jn_Sh_close 6 e14)) rfl rfl ?_
      cases hh
      exact r_iret jd_Bc_dirty_32 rfl ⟨rfl, rfl⟩
-- BeanContexts$Journal.before(I)I
def jf_Jo_before (x : q_S) (a0 : Nat) (a1 : Int32) : Option (q_S × Int32) :=
  (jf_Bc_isBelow x a1 32).bind fun p1 =>
  if p1.2 = 0 then
    some (p1.1, (-1))
  else
    (q_gI p1.1 (some a0) 3 1).bind fun v4 =>
    if a1 < v4 then
      (q_gR p1.1 (some a0) 3 0).bind fun v7 =>
      (q_gI p1.1 (some a0) 3 1).bind fun v9 =>
      (q_lI p1.1 3 v7 (((v9 - 1) - a1) - ((v9 - 1) - a1) / 32 * 32)).bind fun v11 =>
      some (p1.1, v11)
    else
      some (p1.1, (-1))
theorem jm_Jo_before {x : q_S} {a0 : Nat} {a1 : Int32} {p : q_S × Int32} (hh : jf_Jo_before x a0 a1 = some p) : q_call 2 jq_Jo_before [va_rf (some a0), .int a1] x p.1 (some (.int p.2)) := by
  unfold jf_Jo_before at hh
  refine ⟨List.mem_of_getElem? (i := 55) rfl, Nat.le_of_ble_eq_true rfl, List.forall_mem_cons.mpr ⟨rfl, List.forall_mem_cons.mpr ⟨rfl, fun _ h => by cases h⟩⟩, ?_⟩
  show q_X (q_call 1) _ jq_Jo_before 0 [(0, va_rf (some a0)), (1, .int a1)] [] x
  refine r_iload_n 1 1 jd_Jo_before_0 rfl rfl ?_
  refine r_bipush 3 32 jd_Jo_before_1 (by decide) rfl ?_
  obtain ⟨p1, e2, hh⟩ := q_bind hh
  refine r_cS (rest := []) 6 14 [.int a1, .int 32] [.int p1.2] jd_Jo_before_3 rfl rfl rfl (q_s8 (Nat.le_of_ble_eq_true rfl)) (q_call_le (Nat.le_of_ble_eq_true rfl) (jm_Bc_isBelow e2)) rfl rfl ?_
  rcases q_ite hh with ⟨c3, hh⟩ | ⟨c3, hh⟩
  · refine r_if_t 17 jd_Jo_before_6 rfl c3 ?_
    refine r_iconst 18 (-1) jd_Jo_before_17 (by decide) rfl ?_
    cases hh
    exact r_iret jd_Jo_before_18 rfl ⟨rfl, rfl⟩
  · refine r_if_f 9 17 jd_Jo_before_6 rfl c3 rfl ?_
    refine r_iload_n 10 1 jd_Jo_before_9 rfl rfl ?_
    refine r_aload_n 11 0 jd_Jo_before_10 rfl rfl ?_
    obtain ⟨v4, e5, hh⟩ := q_bind hh
    refine r_getI 14 49 jd_Jo_before_11 rfl e5 rfl ?_
    rcases q_ite hh with ⟨c6, hh⟩ | ⟨c6, hh⟩
    · refine r_ic_t 19 jd_Jo_before_14 rfl c6 ?_
      refine r_aload_n 20 0 jd_Jo_before_19 rfl rfl ?_
      obtain ⟨v7, e8, hh⟩ := q_bind hh
      refine r_getR 23 9 jd_Jo_before_20 rfl e8 rfl ?_
      refine r_aload_n 24 0 jd_Jo_before_23 rfl rfl ?_
      obtain ⟨v9, e10, hh⟩ := q_bind hh
      refine r_getI 27 49 jd_Jo_before_24 rfl e10 rfl ?_
      refine r_iconst 28 1 jd_Jo_before_27 (by decide) rfl ?_
      refine r_isub 29 jd_Jo_before_28 rfl ?_
      refine r_iload_n 30 1 jd_Jo_before_29 rfl rfl ?_
      refine r_isub 31 jd_Jo_before_30 rfl ?_
      refine r_bipush 33 32 jd_Jo_before_31 (by decide) rfl ?_
      refine r_irem 34 jd_Jo_before_33 (by decide) rfl ?_
      obtain ⟨v11, e12, hh⟩ := q_bind hh
      refine r_ldI 35 3 jd_Jo_before_34 rfl e12 rfl ?_
      cases hh
      exact r_iret jd_Jo_before_35 rfl ⟨rfl, rfl⟩
    · refine r_ic_f 17 19 jd_Jo_before_14 rfl c6 rfl ?_
      refine r_iconst 18 (-1) jd_Jo_before_17 (by decide) rfl ?_
      cases hh
      exact r_iret jd_Jo_before_18 rfl ⟨rfl, rfl⟩
-- BeanContexts.event(I)I
def jf_Bc_event (x : q_S) (a0 : Nat) (a1 : Int32) : Option (q_S × Int32) :=
  (q_gR x (some a0) 0 2).bind fun v1 =>
  (q_av x v1 3).bind fun b5 =>
  (jf_Jo_before x b5 a1).bind fun p3 =>
  some (p3.1, p3.2)
theorem jm_Bc_event {x : q_S} {a0 : Nat} {a1 : Int32} {p : q_S × Int32} (hh : jf_Bc_event x a0 a1 = some p) : q_call 3 jq_Bc_event [va_rf (some a0), .int a1] x p.1 (some (.int p.2)) := by
  unfold jf_Bc_event at hh
  refine ⟨List.mem_of_getElem? (i := 54) rfl, Nat.le_of_ble_eq_true rfl, List.forall_mem_cons.mpr ⟨rfl, List.forall_mem_cons.mpr ⟨rfl, fun _ h => by cases h⟩⟩, ?_⟩
  show q_X (q_call 2) _ jq_Bc_event 0 [(0, va_rf (some a0)), (1, .int a1)] [] x
  refine r_aload_n 1 0 jd_Bc_event_0 rfl rfl ?_
  obtain ⟨v1, e2, hh⟩ := q_bind hh
  refine r_getR 4 2 jd_Bc_event_1 rfl e2 rfl ?_
  refine r_iload_n 5 1 jd_Bc_event_4 rfl rfl ?_
  obtain ⟨b5, e6, hh⟩ := q_bind hh
  obtain ⟨p3, e4, hh⟩ := q_bind hh
  refine r_cV (rest := []) 8 74 3 [.int a1] [.int p3.2] jd_Bc_event_5 rfl e6 rfl rfl rfl rfl (q_s8 (Nat.le_of_ble_eq_true rfl)) (q_call_le (Nat.le_of_ble_eq_true rfl) (jm_Jo_before e4)) rfl rfl ?_
  cases hh
  exact r_iret jd_Bc_event_8 rfl ⟨rfl, rfl⟩
-- BeanContexts$Journal.size()I
def jf_Jo_size (x : q_S) (a0 : Nat) : Option (q_S × Int32) :=
  (q_gI x (some a0) 3 1).bind fun v1 =>
  some (x, v1)
theorem jm_Jo_size {x : q_S} {a0 : Nat} {p : q_S × Int32} (hh : jf_Jo_size x a0 = some p) : q_call 1 jq_Jo_size [va_rf (some a0)] x p.1 (some (.int p.2)) := by
  unfold jf_Jo_size at hh
  refine ⟨List.mem_of_getElem? (i := 57) rfl, Nat.le_of_ble_eq_true rfl, List.forall_mem_cons.mpr ⟨rfl, fun _ h => by cases h⟩, ?_⟩
  show q_X (q_call 0) _ jq_Jo_size 0 [(0, va_rf (some a0))] [] x
  refine r_aload_n 1 0 jd_Jo_size_0 rfl rfl ?_
  obtain ⟨v1, e2, hh⟩ := q_bind hh
  refine r_getI 4 49 jd_Jo_size_1 rfl e2 rfl ?_
  cases hh
  exact r_iret jd_Jo_size_4 rfl ⟨rfl, rfl⟩
-- BeanContexts.events()I
def jf_Bc_events (x : q_S) (a0 : Nat) : Option (q_S × Int32) :=
  (q_gR x (some a0) 0 2).bind fun v1 =>
  (q_av x v1 3).bind fun b5 =>
  (jf_Jo_size x b5).bind fun p3 =>
  some (p3.1, p3.2)
theorem jm_Bc_events {x : q_S} {a0 : Nat} {p : q_S × Int32} (hh : jf_Bc_events x a0 = some p) : q_call 2 jq_Bc_events [va_rf (some a0)] x p.1 (some (.int p.2)) := by
  unfold jf_Bc_events at hh
  refine ⟨List.mem_of_getElem? (i := 56) rfl, Nat.le_of_ble_eq_true rfl, List.forall_mem_cons.mpr ⟨rfl, fun _ h => by cases h⟩, ?_⟩
  show q_X (q_call 1) _ jq_Bc_events 0 [(0, va_rf (some a0))] [] x
  refine r_aload_n 1 0 jd_Bc_events_0 rfl rfl ?_
  obtain ⟨v1, e2, hh⟩ := q_bind hh
  refine r_getR 4 2 jd_Bc_events_1 rfl e2 rfl ?_
  obtain ⟨b5, e6, hh⟩ := q_bind hh
  obtain ⟨p3, e4, hh⟩ := q_bind hh
  refine r_cV (rest := []) 7 75 3 [] [.int p3.2] jd_Bc_events_4 rfl e6 rfl rfl rfl rfl (q_s8 (Nat.le_of_ble_eq_true rfl)) (q_call_le (Nat.le_of_ble_eq_true rfl) (jm_Jo_size e4)) rfl rfl ?_
  cases hh
  exact r_iret jd_Bc_events_7 rfl ⟨rfl, rfl⟩
-- BeanContexts$Catalog.isKind(II)Z
def jf_Ca_isKind (x : q_S) (a0 : Nat) (a1 : Int32) (a2 : Int32) : Option (q_S × Int32) :=
  (q_gR x (some a0) 1 0).bind fun v1 =>
  (q_lI x 1 v1 a1).bind fun v3 =>
  (jf_Bc_contains x v3 a2).bind fun p5 =>
  if p5.2 &&& 1 = p5.2 then some (p5.1, p5.2) else none
theorem jm_Ca_isKind {x : q_S} {a0 : Nat} {a1 : Int32} {a2 : Int32} {p : q_S × Int32} (hh : jf_Ca_isKind x a0 a1 a2 = some p) : q_call 2 jq_Ca_isKind [va_rf (some a0), .int a1, .int a2] x p.1 (some (.int p.2)) := by
  unfold jf_Ca_isKind at hh
  refine ⟨List.mem_of_getElem? (i := 60) rfl, Nat.le_of_ble_eq_true rfl, List.forall_mem_cons.mpr ⟨rfl, List.forall_mem_cons.mpr ⟨rfl, List.forall_mem_cons.mpr ⟨rfl, fun _ h => by cases h⟩⟩⟩, ?_⟩
  show q_X (q_call 1) _ jq_Ca_isKind 0 [(0, va_rf (some a0)), (1, .int a1), (2, .int a2)] [] x
  refine r_aload_n 1 0 jd_Ca_isKind_0 rfl rfl ?_
  obtain ⟨v1, e2, hh⟩ := q_bind hh
  refine r_getR 4 5 jd_Ca_isKind_1 rfl e2 rfl ?_
  refine r_iload_n 5 1 jd_Ca_isKind_4 rfl rfl ?_
  obtain ⟨v3, e4, hh⟩ := q_bind hh
  refine r_ldI 6 1 jd_Ca_isKind_5 rfl e4 rfl ?_
  refine r_iload_n 7 2 jd_Ca_isKind_6 rfl rfl ?_
  obtain ⟨p5, e6, hh⟩ := q_bind hh
  refine r_cS (rest := []) 10 15 [.int v3, .int a2] [.int p5.2] jd_Ca_isKind_7 rfl rfl rfl (q_s8 (Nat.le_of_ble_eq_true rfl)) (q_call_le (Nat.le_of_ble_eq_true rfl) (jm_Bc_contains e6)) rfl rfl ?_
  rcases q_ite hh with ⟨c7, hh⟩ | ⟨-, hh⟩
  · cases hh
    exact r_zret jd_Ca_isKind_10 rfl c7 ⟨rfl, rfl⟩
  · cases hh
-- BeanContexts$Catalog.addKind(II)V
def jf_Ca_addKind_B2 (rc : q_S → Nat → Int32 → Int32 → Int32 → Option (q_S × Unit)) (x : q_S) (l0 : Nat) (l1 : Int32) (l2 : Int32) (l3 : Int32) : Option (q_S × Unit) :=
  if 6 ≤ l3 then
    some (x, ())
  else
    (q_av x (some l0) 1).bind fun b4 =>
    (jf_Ca_isKind x b4 l3 l1).bind fun p2 =>
    if p2.2 = 0 then
      rc p2.1 l0 l1 l2 (l3 + 1)
    else
      (q_gR p2.1 (some l0) 1 0).bind fun v7 =>
      (q_lI p2.1 1 v7 l3).bind fun v9 =>
      (q_gR p2.1 (some l0) 1 0).bind fun v11 =>
      (q_lI p2.1 1 v11 l2).bind fun v13 =>
      (q_sI p2.1 1 v7 l3 (v9 ||| v13)).bind fun x15 =>
      rc x15 l0 l1 l2 (l3 + 1)
def jf_Ca_addKind_L2 : Nat → q_S → Nat → Int32 → Int32 → Int32 → Option (q_S × Unit)
  | 0, _, _, _, _, _ => none
  | n + 1, x, l0, l1, l2, l3 => jf_Ca_addKind_B2 (jf_Ca_addKind_L2 n) x l0 l1 l2 l3
theorem jm_Ca_addKind_B2 {p : q_S × Unit} {rc : q_S → Nat → Int32 → Int32 → Int32 → Option (q_S × Unit)} (hrc : ∀ (x : q_S) (l0 : Nat) (l1 : Int32) (l2 : Int32) (l3 : Int32), rc x l0 l1 l2 l3 = some p → q_X (q_call 2) (fun y o => y = p.1 ∧ o = none) jq_Ca_addKind 2 [(0, va_rf (some l0)), (1, .int l1), (2, .int l2), (3, .int l3)] [] x) (x : q_S) (l0 : Nat) (l1 : Int32) (l2 : Int32) (l3 : Int32) (hh : jf_Ca_addKind_B2 rc x l0 l1 l2 l3 = some p) : q_X (q_call 2) (fun y o => y = p.1 ∧ o = none) jq_Ca_addKind 2 [(0, va_rf (some l0)), (1, .int l1), (2, .int l2), (3, .int l3)] [] x := by
  unfold jf_Ca_addKind_B2 at hh
  refine r_iload_n 3 3 jd_Ca_addKind_2 rfl rfl ?_
  refine r_bipush 5 6 jd_Ca_addKind_3 (by decide) rfl ?_
  rcases q_ite hh with ⟨c1, hh⟩ | ⟨c1, hh⟩
  · refine r_ic_t 38 jd_Ca_addKind_5 rfl c1 ?_
    cases hh
    exact r_vret jd_Ca_addKind_38 rfl ⟨rfl, rfl⟩
  · refine r_ic_f 8 38 jd_Ca_addKind_5 rfl c1 rfl ?_
    refine r_aload_n 9 0 jd_Ca_addKind_8 rfl rfl ?_
    refine r_iload_n 10 3 jd_Ca_addKind_9 rfl rfl ?_
    refine r_iload_n 11 1 jd_Ca_addKind_10 rfl rfl ?_
    obtain ⟨b4, e5, hh⟩ := q_bind hh
    obtain ⟨p2, e3, hh⟩ := q_bind hh
    refine r_cV (rest := []) 14 78 1 [.int l3, .int l1] [.int p2.2] jd_Ca_addKind_11 rfl e5 rfl rfl rfl rfl (q_s8 (Nat.le_of_ble_eq_true rfl)) (q_call_le (Nat.le_of_ble_eq_true rfl) (jm_Ca_isKind e3)) rfl rfl ?_
    rcases q_ite hh with ⟨c6, hh⟩ | ⟨c6, hh⟩
    · refine r_if_t 32 jd_Ca_addKind_14 rfl c6 ?_
      refine r_iinc 35 3 [(3, .int (l3 + 1)), (0, va_rf (some l0)), (1, .int l1), (2, .int l2)] 1 jd_Ca_addKind_32 rfl (by decide) (by decide) rfl rfl ?_
      refine r_goto 2 jd_Ca_addKind_35 rfl ?_
      refine q_sub [1, 2, 3, 0] rfl ?_
      exact hrc _ _ _ _ _ hh
    · refine r_if_f 17 32 jd_Ca_addKind_14 rfl c6 rfl ?_
      refine r_aload_n 18 0 jd_Ca_addKind_17 rfl rfl ?_
      obtain ⟨v7, e8, hh⟩ := q_bind hh
      refine r_getR 21 5 jd_Ca_addKind_18 rfl e8 rfl ?_
      refine r_iload_n 22 3 jd_Ca_addKind_21 rfl rfl ?_
      refine r_dup2IR 23 jd_Ca_addKind_22 rfl ?_
      obtain ⟨v9, e10, hh⟩ := q_bind hh
      refine r_ldI 24 1 jd_Ca_addKind_23 rfl e10 rfl ?_
      refine r_aload_n 25 0 jd_Ca_addKind_24 rfl rfl ?_
      obtain ⟨v11, e12, hh⟩ := q_bind hh
      refine r_getR 28 5 jd_Ca_addKind_25 rfl e12 rfl ?_
      refine r_iload_n 29 2 jd_Ca_addKind_28 rfl rfl ?_
      obtain ⟨v13, e14, hh⟩ := q_bind hh
      refine r_ldI 30 1 jd_Ca_addKind_29 rfl e14 rfl ?_
      refine r_ior 31 jd_Ca_addKind_30 rfl ?_
      obtain ⟨x15, e16, hh⟩ := q_bind hh
      refine r_stI 32 1 jd_Ca_addKind_31 rfl e16 rfl ?_
      refine r_iinc 35 3 [(3, .int (l3 + 1)), (0, va_rf (some l0)), (1, .int l1), (2, .int l2)] 1 jd_Ca_addKind_32 rfl (by decide) (by decide) rfl rfl ?_
      refine r_goto 2 jd_Ca_addKind_35 rfl ?_
      refine q_sub [1, 2, 3, 0] rfl ?_
      exact hrc _ _ _ _ _ hh
theorem jm_Ca_addKind_L2 {p : q_S × Unit} : ∀ (n : Nat) (x : q_S) (l0 : Nat) (l1 : Int32) (l2 : Int32) (l3 : Int32), jf_Ca_addKind_L2 n x l0 l1 l2 l3 = some p → q_X (q_call 2) (fun y o => y = p.1 ∧ o = none) jq_Ca_addKind 2 [(0, va_rf (some l0)), (1, .int l1), (2, .int l2), (3, .int l3)] [] x
  | 0, _, _, _, _, _, hh => nomatch hh
  | n + 1, x, l0, l1, l2, l3, hh => jm_Ca_addKind_B2 (jm_Ca_addKind_L2 n) x l0 l1 l2 l3 hh
def jf_Ca_addKind (x : q_S) (a0 : Nat) (a1 : Int32) (a2 : Int32) : Option (q_S × Unit) :=
  jf_Ca_addKind_L2 lpK x a0 a1 a2 0
theorem jm_Ca_addKind {x : q_S} {a0 : Nat} {a1 : Int32} {a2 : Int32} {p : q_S × Unit} (hh : jf_Ca_addKind x a0 a1 a2 = some p) : q_call 3 jq_Ca_addKind [va_rf (some a0), .int a1, .int a2] x p.1 (none) := by
  unfold jf_Ca_addKind at hh
  refine ⟨List.mem_of_getElem? (i := 59) rfl, Nat.le_of_ble_eq_true rfl, List.forall_mem_cons.mpr ⟨rfl, List.forall_mem_cons.mpr ⟨rfl, List.forall_mem_cons.mpr ⟨rfl, fun _ h => by cases h⟩⟩⟩, ?_⟩
  show q_X (q_call 2) _ jq_Ca_addKind 0 [(0, va_rf (some a0)), (1, .int a1), (2, .int a2)] [] x
  refine r_iconst 1 0 jd_Ca_addKind_0 (by decide) rfl ?_
  refine r_istore_n 2 [(3, .int 0), (0, va_rf (some a0)), (1, .int a1), (2, .int a2)] jd_Ca_addKind_1 (by decide) rfl rfl ?_
  refine q_sub [1, 2, 3, 0] rfl ?_
  exact jm_Ca_addKind_L2 lpK _ _ _ _ _ hh
-- BeanContexts.extend(II)Z
def jf_Bc_extend (x : q_S) (a0 : Nat) (a1 : Int32) (a2 : Int32) : Option (q_S × Int32) :=
  (q_gR x (some a0) 0 1).bind fun v1 =>
  (q_av x v1 2).bind fun b5 =>
  (jf_AL_isEmpty x b5).bind fun p3 =>
  if p3.2 = 0 then
    some (p3.1, 0)
  else
    (jf_Bc_isType p3.1 a1).bind fun p8 =>
    if p8.2 = 0 then
      some (p8.1, 0)
    else
      (jf_Bc_isType p8.1 a2).bind fun p11 =>
      if p11.2 = 0 then
        some (p11.1, 0)
      else
        (q_gR p11.1 (some a0) 0 0).bind fun v14 =>
        (q_av p11.1 v14 1).bind fun b18 =>
        (jf_Ca_isKind p11.1 b18 a2 a1).bind fun p16 =>
        if p16.2 = 0 then
          (q_gR p16.1 (some a0) 0 0).bind fun v21 =>
          (q_av p16.1 v21 1).bind fun b25 =>
          (jf_Ca_isKind p16.1 b25 a1 a2).bind fun p23 =>
          if p23.2 = 0 then
            (q_gR p23.1 (some a0) 0 0).bind fun v28 =>
            (q_av p23.1 v28 1).bind fun b32 =>
            (jf_Ca_addKind p23.1 b32 a1 a2).bind fun p30 =>
            some (p30.1, 1)
          else
            some (p23.1, 0)
        else
          some (p16.1, 0)
theorem jm_Bc_extend {x : q_S} {a0 : Nat} {a1 : Int32} {a2 : Int32} {p : q_S × Int32} (hh : jf_Bc_extend x a0 a1 a2 = some p) : q_call 4 jq_Bc_extend [va_rf (some a0), .int a1, .int a2] x p.1 (some (.int p.2)) := by
  unfold jf_Bc_extend at hh
  refine ⟨List.mem_of_getElem? (i := 58) rfl, Nat.le_of_ble_eq_true rfl, List.forall_mem_cons.mpr ⟨rfl, List.forall_mem_cons.mpr ⟨rfl, List.forall_mem_cons.mpr ⟨rfl, fun _ h => by cases h⟩⟩⟩, ?_⟩
  show q_X (q_call 3) _ jq_Bc_extend 0 [(0, va_rf (some a0)), (1, .int a1), (2, .int a2)] [] x
  refine r_aload_n 1 0 jd_Bc_extend_0 rfl rfl ?_
  obtain ⟨v1, e2, hh⟩ := q_bind hh
  refine r_getR 4 1 jd_Bc_extend_1 rfl e2 rfl ?_
  obtain ⟨b5, e6, hh⟩ := q_bind hh
  obtain ⟨p3, e4, hh⟩ := q_bind hh
  refine r_cV (rest := []) 7 60 2 [] [.int p3.2] jd_Bc_extend_4 rfl e6 rfl rfl rfl rfl (q_s8 (Nat.le_of_ble_eq_true rfl)) (q_call_le (Nat.le_of_ble_eq_true rfl) (jm_AL_isEmpty e4)) rfl rfl ?_
  rcases q_ite hh with ⟨c7, hh⟩ | ⟨c7, hh⟩
  · refine r_if_t 24 jd_Bc_extend_7 rfl c7 ?_
    refine r_iconst 25 0 jd_Bc_extend_24 (by decide) rfl ?_
    cases hh
    exact r_zret jd_Bc_extend_25 rfl (by decide) ⟨rfl, rfl⟩
  · refine r_if_f 10 24 jd_Bc_extend_7 rfl c7 rfl ?_
    refine r_iload_n 11 1 jd_Bc_extend_10 rfl rfl ?_
    obtain ⟨p8, e9, hh⟩ := q_bind hh
    refine r_cS (rest := []) 14 11 [.int a1] [.int p8.2] jd_Bc_extend_11 rfl rfl rfl (q_s8 (Nat.le_of_ble_eq_true rfl)) (q_call_le (Nat.le_of_ble_eq_true rfl) (jm_Bc_isType e9)) rfl rfl ?_
    rcases q_ite hh with ⟨c10, hh⟩ | ⟨c10, hh⟩
    · refine r_if_t 24 jd_Bc_extend_14 rfl c10 ?_
      refine r_iconst 25 0 jd_Bc_extend_24 (by decide) rfl ?_
      cases hh
      exact r_zret jd_Bc_extend_25 rfl (by decide) ⟨rfl, rfl⟩
    · refine r_if_f 17 24 jd_Bc_extend_14 rfl c10 rfl ?_
      refine r_iload_n 18 2 jd_Bc_extend_17 rfl rfl ?_
      obtain ⟨p11, e12, hh⟩ := q_bind hh
      refine r_cS (rest := []) 21 11 [.int a2] [.int p11.2] jd_Bc_extend_18 rfl rfl rfl (q_s8 (Nat.le_of_ble_eq_true rfl)) (q_call_le (Nat.le_of_ble_eq_true rfl) (jm_Bc_isType e12)) rfl rfl ?_
      rcases q_ite hh with ⟨c13, hh⟩ | ⟨c13, hh⟩
      · refine r_if_f 24 26 jd_Bc_extend_21 rfl (fun z => z c13) rfl ?_
        refine r_iconst 25 0 jd_Bc_extend_24 (by decide) rfl ?_
        cases hh
        exact r_zret jd_Bc_extend_25 rfl (by decide) ⟨rfl, rfl⟩
      · refine r_if_t 26 jd_Bc_extend_21 rfl c13 ?_
        refine r_aload_n 27 0 jd_Bc_extend_26 rfl rfl ?_
        obtain ⟨v14, e15, hh⟩ := q_bind hh
        refine r_getR 30 0 jd_Bc_extend_27 rfl e15 rfl ?_
        refine r_iload_n 31 2 jd_Bc_extend_30 rfl rfl ?_
        refine r_iload_n 32 1 jd_Bc_extend_31 rfl rfl ?_
        obtain ⟨b18, e19, hh⟩ := q_bind hh
        obtain ⟨p16, e17, hh⟩ := q_bind hh
        refine r_cV (rest := []) 35 76 1 [.int a2, .int a1] [.int p16.2] jd_Bc_extend_32 rfl e19 rfl rfl rfl rfl (q_s8 (Nat.le_of_ble_eq_true rfl)) (q_call_le (Nat.le_of_ble_eq_true rfl) (jm_Ca_isKind e17)) rfl rfl ?_
        rcases q_ite hh with ⟨c20, hh⟩ | ⟨c20, hh⟩
        · refine r_if_f 38 50 jd_Bc_extend_35 rfl (fun z => z c20) rfl ?_
          refine r_aload_n 39 0 jd_Bc_extend_38 rfl rfl ?_
          obtain ⟨v21, e22, hh⟩ := q_bind hh
          refine r_getR 42 0 jd_Bc_extend_39 rfl e22 rfl ?_
          refine r_iload_n 43 1 jd_Bc_extend_42 rfl rfl ?_
          refine r_iload_n 44 2 jd_Bc_extend_43 rfl rfl ?_
          obtain ⟨b25, e26, hh⟩ := q_bind hh
          obtain ⟨p23, e24, hh⟩ := q_bind hh
          refine r_cV (rest := []) 47 76 1 [.int a1, .int a2] [.int p23.2] jd_Bc_extend_44 rfl e26 rfl rfl rfl rfl (q_s8 (Nat.le_of_ble_eq_true rfl)) (q_call_le (Nat.le_of_ble_eq_true rfl) (jm_Ca_isKind e24)) rfl rfl ?_
          rcases q_ite hh with ⟨c27, hh⟩ | ⟨c27, hh⟩
          · refine r_if_t 52 jd_Bc_extend_47 rfl c27 ?_
            refine r_aload_n 53 0 jd_Bc_extend_52 rfl rfl ?_
            obtain ⟨v28, e29, hh⟩ := q_bind hh
            refine r_getR 56 0 jd_Bc_extend_53 rfl e29 rfl ?_
            refine r_iload_n 57 1 jd_Bc_extend_56 rfl rfl ?_
            refine r_iload_n 58 2 jd_Bc_extend_57 rfl rfl ?_
            obtain ⟨b32, e33, hh⟩ := q_bind hh
            obtain ⟨p30, e31, hh⟩ := q_bind hh
            refine r_cV (rest := []) 61 77 1 [.int a1, .int a2] [] jd_Bc_extend_58 rfl e33 rfl rfl rfl rfl (q_s8 (Nat.le_of_ble_eq_true rfl)) (q_call_le (Nat.le_of_ble_eq_true rfl) (jm_Ca_addKind e31)) rfl rfl ?_
            refine r_iconst 62 1 jd_Bc_extend_61 (by decide) rfl ?_
            cases hh
            exact r_zret jd_Bc_extend_62 rfl (by decide) ⟨rfl, rfl⟩
          · refine r_if_f 50 52 jd_Bc_extend_47 rfl c27 rfl ?_
            refine r_iconst 51 0 jd_Bc_extend_50 (by decide) rfl ?_
            cases hh
            exact r_zret jd_Bc_extend_51 rfl (by decide) ⟨rfl, rfl⟩
        · refine r_if_t 50 jd_Bc_extend_35 rfl c20 ?_
          refine r_iconst 51 0 jd_Bc_extend_50 (by decide) rfl ?_
          cases hh
          exact r_zret jd_Bc_extend_51 rfl (by decide) ⟨rfl, rfl⟩
-- BeanContexts.failures(I)I
def jf_Bc_failures (x : q_S) (a0 : Nat) (a1 : Int32) : Option (q_S × Int32) :=
  (q_av x (some a0) 0).bind fun b3 =>
  (jf_Bc_isConfiguration x b3 a1).bind fun p1 =>
  if p1.2 = 0 then
    some (p1.1, (-1))
  else
    (q_gR p1.1 (some a0) 0 1).bind fun v6 =>
    (q_av p1.1 v6 2).bind fun b10 =>
    (jf_AL_get p1.1 b10 a1).bind fun p8 =>
    (q_ck p8.1 p8.2 8).bind fun u13 =>
    (q_gI p8.1 p8.2 8 6).bind fun v14 =>
    some (p8.1, v14)
theorem jm_Bc_failures {x : q_S} {a0 : Nat} {a1 : Int32} {p : q_S × Int32} (hh : jf_Bc_failures x a0 a1 = some p) : q_call 4 jq_Bc_failures [va_rf (some a0), .int a1] x p.1 (some (.int p.2)) := by
  unfold jf_Bc_failures at hh
  refine ⟨List.mem_of_getElem? (i := 61) rfl, Nat.le_of_ble_eq_true rfl, List.forall_mem_cons.mpr ⟨rfl, List.forall_mem_cons.mpr ⟨rfl, fun _ h => by cases h⟩⟩, ?_⟩
  show q_X (q_call 3) _ jq_Bc_failures 0 [(0, va_rf (some a0)), (1, .int a1)] [] x
  refine r_aload_n 1 0 jd_Bc_failures_0 rfl rfl ?_
  refine r_iload_n 2 1 jd_Bc_failures_1 rfl rfl ?_
  obtain ⟨b3, e4, hh⟩ := q_bind hh
  obtain ⟨p1, e2, hh⟩ := q_bind hh
  refine r_cV (rest := []) 5 52 0 [.int a1] [.int p1.2] jd_Bc_failures_2 rfl e4 rfl rfl rfl rfl (q_s8 (Nat.le_of_ble_eq_true rfl)) (q_call_le (Nat.le_of_ble_eq_true rfl) (jm_Bc_isConfiguration e2)) rfl rfl ?_
  rcases q_ite hh with ⟨c5, hh⟩ | ⟨c5, hh⟩
  · refine r_if_t 25 jd_Bc_failures_5 rfl c5 ?_
    refine r_iconst 26 (-1) jd_Bc_failures_25 (by decide) rfl ?_
    cases hh
    exact r_iret jd_Bc_failures_26 rfl ⟨rfl, rfl⟩
  · refine r_if_f 8 25 jd_Bc_failures_5 rfl c5 rfl ?_
    refine r_aload_n 9 0 jd_Bc_failures_8 rfl rfl ?_
    obtain ⟨v6, e7, hh⟩ := q_bind hh
    refine r_getR 12 1 jd_Bc_failures_9 rfl e7 rfl ?_
    refine r_iload_n 13 1 jd_Bc_failures_12 rfl rfl ?_
    obtain ⟨b10, e11, hh⟩ := q_bind hh
    obtain ⟨p8, e9, hh⟩ := q_bind hh
    refine r_cV (rest := []) 16 48 2 [.int a1] [va_rf p8.2] jd_Bc_failures_13 rfl e11 rfl rfl rfl rfl (q_s8 (Nat.le_of_ble_eq_true rfl)) (q_call_le (Nat.le_of_ble_eq_true rfl) (jm_AL_get e9)) rfl rfl ?_
    obtain ⟨u13, e12, hh⟩ := q_bind hh
    refine r_cast 19 2 8 jd_Bc_failures_16 rfl rfl e12 rfl ?_
    obtain ⟨v14, e15, hh⟩ := q_bind hh
    refine r_getI 22 52 jd_Bc_failures_19 rfl e15 rfl ?_
    refine r_goto 26 jd_Bc_failures_22 rfl ?_
    cases hh
    exact r_iret jd_Bc_failures_26 rfl ⟨rfl, rfl⟩
-- BeanContexts.isName(I)Z
def jf_Bc_isName (x : q_S) (a0 : Int32) : Option (q_S × Int32) :=
  if a0 = (-1) then
    some (x, 1)
  else
    (jf_Bc_isBelow x a0 10).bind fun p2 =>
    if p2.2 = 0 then
      some (p2.1, 0)
    else
      some (p2.1, 1)
theorem jm_Bc_isName {x : q_S} {a0 : Int32} {p : q_S × Int32} (hh : jf_Bc_isName x a0 = some p) : q_call 2 jq_Bc_isName [.int a0] x p.1 (some (.int p.2)) := by
  unfold jf_Bc_isName at hh
  refine ⟨List.mem_of_getElem? (i := 63) rfl, Nat.le_of_ble_eq_true rfl, List.forall_mem_cons.mpr ⟨rfl, fun _ h => by cases h⟩, ?_⟩
  show q_X (q_call 1) _ jq_Bc_isName 0 [(0, .int a0)] [] x
  refine r_iload_n 1 0 jd_Bc_isName_0 rfl rfl ?_
  refine r_iconst 2 (-1) jd_Bc_isName_1 (by decide) rfl ?_
  rcases q_ite hh with ⟨c1, hh⟩ | ⟨c1, hh⟩
  · refine r_ic_t 14 jd_Bc_isName_2 rfl c1 ?_
    refine r_iconst 15 1 jd_Bc_isName_14 (by decide) rfl ?_
    refine r_goto 19 jd_Bc_isName_15 rfl ?_
    cases hh
    exact r_zret jd_Bc_isName_19 rfl (by decide) ⟨rfl, rfl⟩
  · refine r_ic_f 5 14 jd_Bc_isName_2 rfl c1 rfl ?_
    refine r_iload_n 6 0 jd_Bc_isName_5 rfl rfl ?_
    refine r_bipush 8 10 jd_Bc_isName_6 (by decide) rfl ?_
    obtain ⟨p2, e3, hh⟩ := q_bind hh
    refine r_cS (rest := []) 11 6 [.int a0, .int 10] [.int p2.2] jd_Bc_isName_8 rfl rfl rfl (q_s8 (Nat.le_of_ble_eq_true rfl)) (q_call_le (Nat.le_of_ble_eq_true rfl) (jm_Bc_isBelow e3)) rfl rfl ?_
    rcases q_ite hh with ⟨c4, hh⟩ | ⟨c4, hh⟩
    · refine r_if_t 18 jd_Bc_isName_11 rfl c4 ?_
      refine r_iconst 19 0 jd_Bc_isName_18 (by decide) rfl ?_
      cases hh
      exact r_zret jd_Bc_isName_19 rfl (by decide) ⟨rfl, rfl⟩
    · refine r_if_f 14 18 jd_Bc_isName_11 rfl c4 rfl ?_
      refine r_iconst 15 1 jd_Bc_isName_14 (by decide) rfl ?_
      refine r_goto 19 jd_Bc_isName_15 rfl ?_
      cases hh
      exact r_zret jd_Bc_isName_19 rfl (by decide) ⟨rfl, rfl⟩
-- BeanContexts$Need.<init>(III)V
def jf_Ne_init (x : q_S) (a0 : Nat) (a1 : Int32) (a2 : Int32) (a3 : Int32) : Option (q_S × Unit) :=
  (jf_Rec_init x a0).bind fun p1 =>
  (q_pI p1.1 (some a0) 7 0 a1).bind fun x3 =>
  (q_pI x3 (some a0) 7 1 a2).bind fun x5 =>
  (q_pI x5 (some a0) 7 2 a3).bind fun x7 =>
  some (x7, ())
theorem jm_Ne_init {x : q_S} {a0 : Nat} {a1 : Int32} {a2 : Int32} {a3 : Int32} {p : q_S × Unit} (hh : jf_Ne_init x a0 a1 a2 a3 = some p) : q_call 2 jq_Ne_init [va_rf (some a0), .int a1, .int a2, .int a3] x p.1 (none) := by
  unfold jf_Ne_init at hh
  refine ⟨List.mem_of_getElem? (i := 64) rfl, Nat.le_of_ble_eq_true rfl, List.forall_mem_cons.mpr ⟨rfl, List.forall_mem_cons.mpr ⟨rfl, List.forall_mem_cons.mpr ⟨rfl, List.forall_mem_cons.mpr ⟨rfl, fun _ h => by cases h⟩⟩⟩⟩, ?_⟩
  show q_X (q_call 1) _ jq_Ne_init 0 [(0, va_rf (some a0)), (1, .int a1), (2, .int a2), (3, .int a3)] [] x
  refine r_aload_n 1 0 jd_Ne_init_0 rfl rfl ?_
  obtain ⟨p1, e2, hh⟩ := q_bind hh
  refine r_cI (rest := []) 4 16 [] [] jd_Ne_init_1 rfl rfl rfl (q_s8 (Nat.le_of_ble_eq_true rfl)) (q_call_le (Nat.le_of_ble_eq_true rfl) (jm_Rec_init e2)) rfl rfl ?_
  refine r_aload_n 5 0 jd_Ne_init_4 rfl rfl ?_
  refine r_iload_n 6 1 jd_Ne_init_5 rfl rfl ?_
  obtain ⟨x3, e4, hh⟩ := q_bind hh
  refine r_putI 9 53 jd_Ne_init_6 rfl rfl (Or.inr ⟨rfl, rfl⟩) e4 rfl ?_
  refine r_aload_n 10 0 jd_Ne_init_9 rfl rfl ?_
  refine r_iload_n 11 2 jd_Ne_init_10 rfl rfl ?_
  obtain ⟨x5, e6, hh⟩ := q_bind hh
  refine r_putI 14 54 jd_Ne_init_11 rfl rfl (Or.inr ⟨rfl, rfl⟩) e6 rfl ?_
  refine r_aload_n 15 0 jd_Ne_init_14 rfl rfl ?_
  refine r_iload_n 16 3 jd_Ne_init_15 rfl rfl ?_
  obtain ⟨x7, e8, hh⟩ := q_bind hh
  refine r_putI 19 55 jd_Ne_init_16 rfl rfl (Or.inr ⟨rfl, rfl⟩) e8 rfl ?_
  cases hh
  exact r_vret jd_Ne_init_19 rfl ⟨rfl, rfl⟩
-- BeanContexts$Need.qualifier()I
def jf_Ne_qualifier (x : q_S) (a0 : Nat) : Option (q_S × Int32) :=
  (q_gI x (some a0) 7 1).bind fun v1 =>
  some (x, v1)
theorem jm_Ne_qualifier {x : q_S} {a0 : Nat} {p : q_S × Int32} (hh : jf_Ne_qualifier x a0 = some p) : q_call 1 jq_Ne_qualifier [va_rf (some a0)] x p.1 (some (.int p.2)) := by
  unfold jf_Ne_qualifier at hh
  refine ⟨List.mem_of_getElem? (i := 68) rfl, Nat.le_of_ble_eq_true rfl, List.forall_mem_cons.mpr ⟨rfl, fun _ h => by cases h⟩, ?_⟩
  show q_X (q_call 0) _ jq_Ne_qualifier 0 [(0, va_rf (some a0))] [] x
  refine r_aload_n 1 0 jd_Ne_qualifier_0 rfl rfl ?_
  obtain ⟨v1, e2, hh⟩ := q_bind hh
  refine r_getI 4 54 jd_Ne_qualifier_1 rfl e2 rfl ?_
  cases hh
  exact r_iret jd_Ne_qualifier_4 rfl ⟨rfl, rfl⟩
-- BeanContexts$Need.type()I
def jf_Ne_type (x : q_S) (a0 : Nat) : Option (q_S × Int32) :=
  (q_gI x (some a0) 7 0).bind fun v1 =>
  some (x, v1)
theorem jm_Ne_type {x : q_S} {a0 : Nat} {p : q_S × Int32} (hh : jf_Ne_type x a0 = some p) : q_call 1 jq_Ne_type [va_rf (some a0)] x p.1 (some (.int p.2)) := by
  unfold jf_Ne_type at hh
  refine ⟨List.mem_of_getElem? (i := 69) rfl, Nat.le_of_ble_eq_true rfl, List.forall_mem_cons.mpr ⟨rfl, fun _ h => by cases h⟩, ?_⟩
  show q_X (q_call 0) _ jq_Ne_type 0 [(0, va_rf (some a0))] [] x
  refine r_aload_n 1 0 jd_Ne_type_0 rfl rfl ?_
  obtain ⟨v1, e2, hh⟩ := q_bind hh
  refine r_getI 4 53 jd_Ne_type_1 rfl e2 rfl ?_
  cases hh
  exact r_iret jd_Ne_type_4 rfl ⟨rfl, rfl⟩
-- BeanContexts$Catalog.candidates(ILBeanContexts$Need;)I
def jf_Ca_candidates_B5 (rc : q_S → Nat → Int32 → Option Nat → Int32 → Int32 → Option (q_S × Int32)) (x : q_S) (l0 : Nat) (l1 : Int32) (l2 : Option Nat) (l3 : Int32) (l4 : Int32) : Option (q_S × Int32) :=
  (q_gR x (some l0) 1 1).bind fun v1 =>
  (q_av x v1 2).bind fun b5 =>
  (jf_AL_size x b5).bind fun p3 =>
  if p3.2 ≤ l4 then
    some (p3.1, l3)
  else
    (q_gR p3.1 (some l0) 1 1).bind fun v8 =>
    (q_av p3.1 v8 2).bind fun b12 =>
    (jf_AL_get p3.1 b12 l4).bind fun p10 =>
    (q_ck p10.1 p10.2 6).bind fun u15 =>
    (q_gR p10.1 (some l0) 1 0).bind fun v16 =>
    (q_gI p10.1 p10.2 6 0).bind fun v18 =>
    (q_lI p10.1 1 v16 v18).bind fun v20 =>
    (q_av p10.1 l2 7).bind fun b24 =>
    (jf_Ne_type p10.1 b24).bind fun p22 =>
    (jf_Bc_contains p22.1 v20 p22.2).bind fun p26 =>
    (q_av p26.1 l2 7).bind fun b30 =>
    (jf_Ne_qualifier p26.1 b30).bind fun p28 =>
    if p28.2 = 0 then
      (jf_Bc_contains p28.1 l1 l4).bind fun p33 =>
      if p33.2 = 0 then
        rc p33.1 l0 l1 l2 l3 (l4 + 1)
      else
        if p26.2 = 0 then
          rc p33.1 l0 l1 l2 l3 (l4 + 1)
        else
          rc p33.1 l0 l1 l2 (l3 ||| ((1 : Int32) <<< (l4 &&& 31))) (l4 + 1)
    else
      (q_av p28.1 l2 7).bind fun b40 =>
      (jf_Ne_qualifier p28.1 b40).bind fun p38 =>
      (q_gI p38.1 p10.2 6 2).bind fun v42 =>
      if p38.2 = v42 then
        (jf_Bc_contains p38.1 l1 l4).bind fun p50 =>
        if p50.2 = 0 then
          rc p50.1 l0 l1 l2 l3 (l4 + 1)
        else
          if p26.2 = 0 then
            rc p50.1 l0 l1 l2 l3 (l4 + 1)
          else
            rc p50.1 l0 l1 l2 (l3 ||| ((1 : Int32) <<< (l4 &&& 31))) (l4 + 1)
      else
        (jf_Bc_contains p38.1 l1 l4).bind fun p45 =>
        if p45.2 = 0 then
          rc p45.1 l0 l1 l2 l3 (l4 + 1)
        else
          if p26.2 = 0 then
            rc p45.1 l0 l1 l2 l3 (l4 + 1)
          else
            rc p45.1 l0 l1 l2 l3 (l4 + 1)
def jf_Ca_candidates_L5 : Nat → q_S → Nat → Int32 → Option Nat → Int32 → Int32 → Option (q_S × Int32)
  | 0, _, _, _, _, _, _ => none
  | n + 1, x, l0, l1, l2, l3, l4 => jf_Ca_candidates_B5 (jf_Ca_candidates_L5 n) x l0 l1 l2 l3 l4
theorem jm_Ca_candidates_B5 {p : q_S × Int32} {rc : q_S → Nat → Int32 → Option Nat → Int32 → Int32 → Option (q_S × Int32)} (hrc : ∀ (x : q_S) (l0 : Nat) (l1 : Int32) (l2 : Option Nat) (l3 : Int32) (l4 : Int32), rc x l0 l1 l2 l3 l4 = some p → q_X (q_call 3) (fun y o => y = p.1 ∧ o = some (.int p.2)) jq_Ca_candidates 5 [(0, va_rf (some l0)), (1, .int l1), (2, va_rf l2), (3, .int l3), (4, .int l4)] [] x) (x : q_S) (l0 : Nat) (l1 : Int32) (l2 : Option Nat) (l3 : Int32) (l4 : Int32) (hh : jf_Ca_candidates_B5 rc x l0 l1 l2 l3 l4 = some p) : q_X (q_call 3) (fun y o => y = p.1 ∧ o = some (.int p.2)) jq_Ca_candidates 5 [(0, va_rf (some l0)), (1, .int l1), (2, va_rf l2), (3, .int l3), (4, .int l4)] [] x := by
  unfold jf_Ca_candidates_B5 at hh
  refine r_iload 7 4 jd_Ca_candidates_5 rfl rfl ?_
  refine r_aload_n 8 0 jd_Ca_candidates_7 rfl rfl ?_
  obtain ⟨v1, e2, hh⟩ := q_bind hh
  refine r_getR 11 6 jd_Ca_candidates_8 rfl e2 rfl ?_
  obtain ⟨b5, e6, hh⟩ := q_bind hh
  obtain ⟨p3, e4, hh⟩ := q_bind hh
  refine r_cV (rest := [.int l4]) 14 55 2 [] [.int p3.2, .int l4] jd_Ca_candidates_11 rfl e6 rfl rfl rfl rfl (q_s8 (Nat.le_of_ble_eq_true rfl)) (q_call_le (Nat.le_of_ble_eq_true rfl) (jm_AL_size e4)) rfl rfl ?_
  rcases q_ite hh with ⟨c7, hh⟩ | ⟨c7, hh⟩
  · refine r_ic_t 108 jd_Ca_candidates_14 rfl c7 ?_
    refine r_iload_n 109 3 jd_Ca_candidates_108 rfl rfl ?_
    cases hh
    exact r_iret jd_Ca_candidates_109 rfl ⟨rfl, rfl⟩
  · refine r_ic_f 17 108 jd_Ca_candidates_14 rfl c7 rfl ?_
    refine r_aload_n 18 0 jd_Ca_candidates_17 rfl rfl ?_
    obtain ⟨v8, e9, hh⟩ := q_bind hh
    refine r_getR 21 6 jd_Ca_candidates_18 rfl e9 rfl ?_
    refine r_iload 23 4 jd_Ca_candidates_21 rfl rfl ?_
    obtain ⟨b12, e13, hh⟩ := q_bind hh
    obtain ⟨p10, e11, hh⟩ := q_bind hh
    refine r_cV (rest := []) 26 56 2 [.int l4] [va_rf p10.2] jd_Ca_candidates_23 rfl e13 rfl rfl rfl rfl (q_s8 (Nat.le_of_ble_eq_true rfl)) (q_call_le (Nat.le_of_ble_eq_true rfl) (jm_AL_get e11)) rfl rfl ?_
    obtain ⟨u15, e14, hh⟩ := q_bind hh
    refine r_cast 29 3 6 jd_Ca_candidates_26 rfl rfl e14 rfl ?_
    refine r_astore 31 [(5, va_rf p10.2), (0, va_rf (some l0)), (1, .int l1), (2, va_rf l2), (3, .int l3), (4, .int l4)] jd_Ca_candidates_29 (by decide) rfl rfl ?_
    refine r_aload_n 32 1 jd_Ca_candidates_31 rfl rfl ?_
    obtain ⟨v16, e17, hh⟩ := q_bind hh
    refine r_getR 35 5 jd_Ca_candidates_32 rfl e17 rfl ?_
    refine r_aload 37 0 jd_Ca_candidates_35 rfl rfl ?_
    obtain ⟨v18, e19, hh⟩ := q_bind hh
    refine r_getI 40 58 jd_Ca_candidates_37 rfl e19 rfl ?_
    obtain ⟨v20, e21, hh⟩ := q_bind hh
    refine r_ldI 41 1 jd_Ca_candidates_40 rfl e21 rfl ?_
    refine r_aload_n 42 3 jd_Ca_candidates_41 rfl rfl ?_
    obtain ⟨b24, e25, hh⟩ := q_bind hh
    obtain ⟨p22, e23, hh⟩ := q_bind hh
    refine r_cV (rest := [.int v20]) 45 84 7 [] [.int p22.2, .int v20] jd_Ca_candidates_42 rfl e25 rfl rfl rfl rfl (q_s8 (Nat.le_of_ble_eq_true rfl)) (q_call_le (Nat.le_of_ble_eq_true rfl) (jm_Ne_type e23)) rfl rfl ?_
    obtain ⟨p26, e27, hh⟩ := q_bind hh
    refine r_cS (rest := []) 48 15 [.int v20, .int p22.2] [.int p26.2] jd_Ca_candidates_45 rfl rfl rfl (q_s8 (Nat.le_of_ble_eq_true rfl)) (q_call_le (Nat.le_of_ble_eq_true rfl) (jm_Bc_contains e27)) rfl rfl ?_
    refine r_istore 50 [(6, .int p26.2), (5, va_rf p10.2), (0, va_rf (some l0)), (1, .int l1), (2, va_rf l2), (3, .int l3), (4, .int l4)] jd_Ca_candidates_48 (by decide) rfl rfl ?_
    refine r_aload_n 51 4 jd_Ca_candidates_50 rfl rfl ?_
    obtain ⟨b30, e31, hh⟩ := q_bind hh
    obtain ⟨p28, e29, hh⟩ := q_bind hh
    refine r_cV (rest := []) 54 85 7 [] [.int p28.2] jd_Ca_candidates_51 rfl e31 rfl rfl rfl rfl (q_s8 (Nat.le_of_ble_eq_true rfl)) (q_call_le (Nat.le_of_ble_eq_true rfl) (jm_Ne_qualifier e29)) rfl rfl ?_
    rcases q_ite hh with ⟨c32, hh⟩ | ⟨c32, hh⟩
    · refine r_if_t 69 jd_Ca_candidates_54 rfl c32 ?_
      refine r_iconst 70 1 jd_Ca_candidates_69 (by decide) rfl ?_
      refine r_goto 74 jd_Ca_candidates_70 rfl ?_
      refine r_istore 76 [(7, .int 1), (6, .int p26.2), (5, va_rf p10.2), (0, va_rf (some l0)), (1, .int l1), (2, va_rf l2), (3, .int l3), (4, .int l4)] jd_Ca_candidates_74 (by decide) rfl rfl ?_
      refine r_iload_n 77 4 jd_Ca_candidates_76 rfl rfl ?_
      refine r_iload 79 7 jd_Ca_candidates_77 rfl rfl ?_
      obtain ⟨p33, e34, hh⟩ := q_bind hh
      refine r_cS (rest := []) 82 15 [.int l1, .int l4] [.int p33.2] jd_Ca_candidates_79 rfl rfl rfl (q_s8 (Nat.le_of_ble_eq_true rfl)) (q_call_le (Nat.le_of_ble_eq_true rfl) (jm_Bc_contains e34)) rfl rfl ?_
      rcases q_ite hh with ⟨c35, hh⟩ | ⟨c35, hh⟩
      · refine r_if_t 102 jd_Ca_candidates_82 rfl c35 ?_
        refine r_iinc 105 7 [(4, .int (l4 + 1)), (7, .int 1), (6, .int p26.2), (5, va_rf p10.2), (0, va_rf (some l0)), (1, .int l1), (2, va_rf l2), (3, .int l3)] 1 jd_Ca_candidates_102 rfl (by decide) (by decide) rfl rfl ?_
        refine r_goto 5 jd_Ca_candidates_105 rfl ?_
        refine q_sub [4, 5, 6, 7, 0] rfl ?_
        exact hrc _ _ _ _ _ _ hh
      · refine r_if_f 85 102 jd_Ca_candidates_82 rfl c35 rfl ?_
        refine r_iload 87 1 jd_Ca_candidates_85 rfl rfl ?_
        rcases q_ite hh with ⟨c36, hh⟩ | ⟨c36, hh⟩
        · refine r_if_t 102 jd_Ca_candidates_87 rfl c36 ?_
          refine r_iinc 105 7 [(4, .int (l4 + 1)), (7, .int 1), (6, .int p26.2), (5, va_rf p10.2), (0, va_rf (some l0)), (1, .int l1), (2, va_rf l2), (3, .int l3)] 1 jd_Ca_candidates_102 rfl (by decide) (by decide) rfl rfl ?_
          refine r_goto 5 jd_Ca_candidates_105 rfl ?_
          refine q_sub [4, 5, 6, 7, 0] rfl ?_
          exact hrc _ _ _ _ _ _ hh
        · refine r_if_f 90 102 jd_Ca_candidates_87 rfl c36 rfl ?_
          refine r_iload 92 0 jd_Ca_candidates_90 rfl rfl ?_
          refine r_if_f 95 102 jd_Ca_candidates_92 rfl (by unfold q_cnd; decide) rfl ?_
          refine r_iload_n 96 6 jd_Ca_candidates_95 rfl rfl ?_
          refine r_iconst 97 1 jd_Ca_candidates_96 (by decide) rfl ?_
          refine r_iload 99 7 jd_Ca_candidates_97 rfl rfl ?_
          refine r_ishl 100 jd_Ca_candidates_99 rfl ?_
          refine r_ior 101 jd_Ca_candidates_100 rfl ?_
          refine r_istore_n 102 [(3, .int (l3 ||| ((1 : Int32) <<< (l4 &&& 31)))), (7, .int 1), (6, .int p26.2), (5, va_rf p10.2), (0, va_rf (some l0)), (1, .int l1), (2, va_rf l2), (4, .int l4)] jd_Ca_candidates_101 (by decide) rfl rfl ?_
          refine r_iinc 105 7 [(4, .int (l4 + 1)), (3, .int (l3 ||| ((1 : Int32) <<< (l4 &&& 31)))), (7, .int 1), (6, .int p26.2), (5, va_rf p10.2), (0, va_rf (some l0)), (1, .int l1), (2, va_rf l2)] 1 jd_Ca_candidates_102 rfl (by decide) (by decide) rfl rfl ?_
          refine r_goto 5 jd_Ca_candidates_105 rfl ?_
          refine q_sub [5, 6, 7, 1, 0] rfl ?_
          exact hrc _ _ _ _ _ _ hh
    · refine r_if_f 57 69 jd_Ca_candidates_54 rfl c32 rfl ?_
      refine r_aload_n 58 4 jd_Ca_candidates_57 rfl rfl ?_
      obtain ⟨b40, e41, hh⟩ := q_bind hh
      obtain ⟨p38, e39, hh⟩ := q_bind hh
      refine r_cV (rest := []) 61 85 7 [] [.int p38.2] jd_Ca_candidates_58 rfl e41 rfl rfl rfl rfl (q_s8 (Nat.le_of_ble_eq_true rfl)) (q_call_le (Nat.le_of_ble_eq_true rfl) (jm_Ne_qualifier e39)) rfl rfl ?_
      refine r_aload 63 1 jd_Ca_candidates_61 rfl rfl ?_
      obtain ⟨v42, e43, hh⟩ := q_bind hh
      refine r_getI 66 59 jd_Ca_candidates_63 rfl e43 rfl ?_
      rcases q_ite hh with ⟨c44, hh⟩ | ⟨c44, hh⟩
      · refine r_ic_f 69 73 jd_Ca_candidates_66 rfl (fun z => z c44) rfl ?_
        refine r_iconst 70 1 jd_Ca_candidates_69 (by decide) rfl ?_
        refine r_goto 74 jd_Ca_candidates_70 rfl ?_
        refine r_istore 76 [(7, .int 1), (6, .int p26.2), (5, va_rf p10.2), (0, va_rf (some l0)), (1, .int l1), (2, va_rf l2), (3, .int l3), (4, .int l4)] jd_Ca_candidates_74 (by decide) rfl rfl ?_
        refine r_iload_n 77 4 jd_Ca_candidates_76 rfl rfl ?_
        refine r_iload 79 7 jd_Ca_candidates_77 rfl rfl ?_
        obtain ⟨p50, e51, hh⟩ := q_bind hh
        refine r_cS (rest := []) 82 15 [.int l1, .int l4] [.int p50.2] jd_Ca_candidates_79 rfl rfl rfl (q_s8 (Nat.le_of_ble_eq_true rfl)) (q_call_le (Nat.le_of_ble_eq_true rfl) (jm_Bc_contains e51)) rfl rfl ?_
        rcases q_ite hh with ⟨c52, hh⟩ | ⟨c52, hh⟩
        · refine r_if_t 102 jd_Ca_candidates_82 rfl c52 ?_
          refine r_iinc 105 7 [(4, .int (l4 + 1)), (7, .int 1), (6, .int p26.2), (5, va_rf p10.2), (0, va_rf (some l0)), (1, .int l1), (2, va_rf l2), (3, .int l3)] 1 jd_Ca_candidates_102 rfl (by decide) (by decide) rfl rfl ?_
          refine r_goto 5 jd_Ca_candidates_105 rfl ?_
          refine q_sub [4, 5, 6, 7, 0] rfl ?_
          exact hrc _ _ _ _ _ _ hh
        · refine r_if_f 85 102 jd_Ca_candidates_82 rfl c52 rfl ?_
          refine r_iload 87 1 jd_Ca_candidates_85 rfl rfl ?_
          rcases q_ite hh with ⟨c53, hh⟩ | ⟨c53, hh⟩
          · refine r_if_t 102 jd_Ca_candidates_87 rfl c53 ?_
            refine r_iinc 105 7 [(4, .int (l4 + 1)), (7, .int 1), (6, .int p26.2), (5, va_rf p10.2), (0, va_rf (some l0)), (1, .int l1), (2, va_rf l2), (3, .int l3)] 1 jd_Ca_candidates_102 rfl (by decide) (by decide) rfl rfl ?_
            refine r_goto 5 jd_Ca_candidates_105 rfl ?_
            refine q_sub [4, 5, 6, 7, 0] rfl ?_
            exact hrc _ _ _ _ _ _ hh
          · refine r_if_f 90 102 jd_Ca_candidates_87 rfl c53 rfl ?_
            refine r_iload 92 0 jd_Ca_candidates_90 rfl rfl ?_
            refine r_if_f 95 102 jd_Ca_candidates_92 rfl (by unfold q_cnd; decide) rfl ?_
            refine r_iload_n 96 6 jd_Ca_candidates_95 rfl rfl ?_
            refine r_iconst 97 1 jd_Ca_candidates_96 (by decide) rfl ?_
            refine r_iload 99 7 jd_Ca_candidates_97 rfl rfl ?_
            refine r_ishl 100 jd_Ca_candidates_99 rfl ?_
            refine r_ior 101 jd_Ca_candidates_100 rfl ?_
            refine r_istore_n 102 [(3, .int (l3 ||| ((1 : Int32) <<< (l4 &&& 31)))), (7, .int 1), (6, .int p26.2), (5, va_rf p10.2), (0, va_rf (some l0)), (1, .int l1), (2, va_rf l2), (4, .int l4)] jd_Ca_candidates_101 (by decide) rfl rfl ?_
            refine r_iinc 105 7 [(4, .int (l4 + 1)), (3, .int (l3 ||| ((1 : Int32) <<< (l4 &&& 31)))), (7, .int 1), (6, .int p26.2), (5, va_rf p10.2), (0, va_rf (some l0)), (1, .int l1), (2, va_rf l2)] 1 jd_Ca_candidates_102 rfl (by decide) (by decide) rfl rfl ?_
            refine r_goto 5 jd_Ca_candidates_105 rfl ?_
            refine q_sub [5, 6, 7, 1, 0] rfl ?_
            exact hrc _ _ _ _ _ _ hh
      · refine r_ic_t 73 jd_Ca_candidates_66 rfl c44 ?_
        refine r_iconst 74 0 jd_Ca_candidates_73 (by decide) rfl ?_
        refine r_istore 76 [(7, .int 0), (6, .int p26.2), (5, va_rf p10.2), (0, va_rf (some l0)), (1, .int l1), (2, va_rf l2), (3, .int l3), (4, .int l4)] jd_Ca_candidates_74 (by decide) rfl rfl ?_
        refine r_iload_n 77 4 jd_Ca_candidates_76 rfl rfl ?_
        refine r_iload 79 7 jd_Ca_candidates_77 rfl rfl ?_
        obtain ⟨p45, e46, hh⟩ := q_bind hh
        refine r_cS (rest := []) 82 15 [.int l1, .int l4] [.int p45.2] jd_Ca_candidates_79 rfl rfl rfl (q_s8 (Nat.le_of_ble_eq_true rfl)) (q_call_le (Nat.le_of_ble_eq_true rfl) (jm_Bc_contains e46)) rfl rfl ?_
        rcases q_ite hh with ⟨c47, hh⟩ | ⟨c47, hh⟩
        · refine r_if_t 102 jd_Ca_candidates_82 rfl c47 ?_
          refine r_iinc 105 7 [(4, .int (l4 + 1)), (7, .int 0), (6, .int p26.2), (5, va_rf p10.2), (0, va_rf (some l0)), (1, .int l1), (2, va_rf l2), (3, .int l3)] 1 jd_Ca_candidates_102 rfl (by decide) (by decide) rfl rfl ?_
          refine r_goto 5 jd_Ca_candidates_105 rfl ?_
          refine q_sub [4, 5, 6, 7, 0] rfl ?_
          exact hrc _ _ _ _ _ _ hh
        · refine r_if_f 85 102 jd_Ca_candidates_82 rfl c47 rfl ?_
          refine r_iload 87 1 jd_Ca_candidates_85 rfl rfl ?_
          rcases q_ite hh with ⟨c48, hh⟩ | ⟨c48, hh⟩
          · refine r_if_t 102 jd_Ca_candidates_87 rfl c48 ?_
            refine r_iinc 105 7 [(4, .int (l4 + 1)), (7, .int 0), (6, .int p26.2), (5, va_rf p10.2), (0, va_rf (some l0)), (1, .int l1), (2, va_rf l2), (3, .int l3)] 1 jd_Ca_candidates_102 rfl (by decide) (by decide) rfl rfl ?_
            refine r_goto 5 jd_Ca_candidates_105 rfl ?_
            refine q_sub [4, 5, 6, 7, 0] rfl ?_
            exact hrc _ _ _ _ _ _ hh
          · refine r_if_f 90 102 jd_Ca_candidates_87 rfl c48 rfl ?_
            refine r_iload 92 0 jd_Ca_candidates_90 rfl rfl ?_
            refine r_if_t 102 jd_Ca_candidates_92 rfl (by unfold q_cnd; decide) ?_
            refine r_iinc 105 7 [(4, .int (l4 + 1)), (7, .int 0), (6, .int p26.2), (5, va_rf p10.2), (0, va_rf (some l0)), (1, .int l1), (2, va_rf l2), (3, .int l3)] 1 jd_Ca_candidates_102 rfl (by decide) (by decide) rfl rfl ?_
            refine r_goto 5 jd_Ca_candidates_105 rfl ?_
            refine q_sub [4, 5, 6, 7, 0] rfl ?_
            exact hrc _ _ _ _ _ _ hh
theorem jm_Ca_candidates_L5 {p : q_S × Int32} : ∀ (n : Nat) (x : q_S) (l0 : Nat) (l1 : Int32) (l2 : Option Nat) (l3 : Int32) (l4 : Int32), jf_Ca_candidates_L5 n x l0 l1 l2 l3 l4 = some p → q_X (q_call 3) (fun y o => y = p.1 ∧ o = some (.int p.2)) jq_Ca_candidates 5 [(0, va_rf (some l0)), (1, .int l1), (2, va_rf l2), (3, .int l3), (4, .int l4)] [] x
  | 0, _, _, _, _, _, _, hh => nomatch hh
  | n + 1, x, l0, l1, l2, l3, l4, hh => jm_Ca_candidates_B5 (jm_Ca_candidates_L5 n) x l0 l1 l2 l3 l4 hh
def jf_Ca_candidates (x : q_S) (a0 : Nat) (a1 : Int32) (a2 : Option Nat) : Option (q_S × Int32) :=
  jf_Ca_candidates_L5 lpK x a0 a1 a2 0 0
theorem jm_Ca_candidates {x : q_S} {a0 : Nat} {a1 : Int32} {a2 : Option Nat} {p : q_S × Int32} (hh : jf_Ca_candidates x a0 a1 a2 = some p) : q_call 4 jq_Ca_candidates [va_rf (some a0), .int a1, va_rf a2] x p.1 (some (.int p.2)) := by
  unfold jf_Ca_candidates at hh
  refine ⟨List.mem_of_getElem? (i := 67) rfl, Nat.le_of_ble_eq_true rfl, List.forall_mem_cons.mpr ⟨rfl, List.forall_mem_cons.mpr ⟨rfl, List.forall_mem_cons.mpr ⟨q_cat _, fun _ h => by cases h⟩⟩⟩, ?_⟩
  show q_X (q_call 3) _ jq_Ca_candidates 0 [(0, va_rf (some a0)), (1, .int a1), (2, va_rf a2)] [] x
  refine r_iconst 1 0 jd_Ca_candidates_0 (by decide) rfl ?_
  refine r_istore_n 2 [(3, .int 0), (0, va_rf (some a0)), (1, .int a1), (2, va_rf a2)] jd_Ca_candidates_1 (by decide) rfl rfl ?_
  refine r_iconst 3 0 jd_Ca_candidates_2 (by decide) rfl ?_
  refine r_istore 5 [(4, .int 0), (3, .int 0), (0, va_rf (some a0)), (1, .int a1), (2, va_rf a2)] jd_Ca_candidates_3 (by decide) rfl rfl ?_
  refine q_sub [2, 3, 4, 1, 0] rfl ?_
  exact jm_Ca_candidates_L5 lpK _ _ _ _ _ _ hh
-- BeanContexts$Catalog.choose(II)I
def jf_Ca_choose (x : q_S) (a0 : Nat) (a1 : Int32) (a2 : Int32) : Option (q_S × Int32) :=
  (jf_Int_bitCount x a1).bind fun p1 =>
  if p1.2 = 1 then
    (jf_Int_numberOfTrailingZeros p1.1 a1).bind fun p18 =>
    some (p18.1, p18.2)
  else
    (q_av p1.1 (some a0) 1).bind fun b6 =>
    (jf_Ca_flagged p1.1 b6 1).bind fun p4 =>
    if (a1 &&& p4.2) = 0 then
      if a2 = (-1) then
        some (p4.1, (-4))
      else
        (jf_Bc_contains p4.1 a1 a2).bind fun p10 =>
        if p10.2 = 0 then
          some (p10.1, (-4))
        else
          some (p10.1, a2)
    else
      (jf_Int_bitCount p4.1 (a1 &&& p4.2)).bind fun p13 =>
      if p13.2 = 1 then
        (jf_Int_numberOfTrailingZeros p13.1 (a1 &&& p4.2)).bind fun p16 =>
        some (p16.1, p16.2)
      else
        some (p13.1, (-4))
theorem jm_Ca_choose {x : q_S} {a0 : Nat} {a1 : Int32} {a2 : Int32} {p : q_S × Int32} (hh : jf_Ca_choose x a0 a1 a2 = some p) : q_call 5 jq_Ca_choose [va_rf (some a0), .int a1, .int a2] x p.1 (some (.int p.2)) := by
  unfold jf_Ca_choose at hh
  refine ⟨List.mem_of_getElem? (i := 70) rfl, Nat.le_of_ble_eq_true rfl, List.forall_mem_cons.mpr ⟨rfl, List.forall_mem_cons.mpr ⟨rfl, List.forall_mem_cons.mpr ⟨rfl, fun _ h => by cases h⟩⟩⟩, ?_⟩
  show q_X (q_call 4) _ jq_Ca_choose 0 [(0, va_rf (some a0)), (1, .int a1), (2, .int a2)] [] x
  refine r_iload_n 1 1 jd_Ca_choose_0 rfl rfl ?_
  obtain ⟨p1, e2, hh⟩ := q_bind hh
  refine r_cS (rest := []) 4 17 [.int a1] [.int p1.2] jd_Ca_choose_1 rfl rfl rfl (q_s8 (Nat.le_of_ble_eq_true rfl)) (q_call_le (Nat.le_of_ble_eq_true rfl) (jm_Int_bitCount e2)) rfl rfl ?_
  refine r_iconst 5 1 jd_Ca_choose_4 (by decide) rfl ?_
  rcases q_ite hh with ⟨c3, hh⟩ | ⟨c3, hh⟩
  · refine r_ic_f 8 13 jd_Ca_choose_5 rfl (fun z => z c3) rfl ?_
    refine r_iload_n 9 1 jd_Ca_choose_8 rfl rfl ?_
    obtain ⟨p18, e19, hh⟩ := q_bind hh
    refine r_cS (rest := []) 12 18 [.int a1] [.int p18.2] jd_Ca_choose_9 rfl rfl rfl (q_s8 (Nat.le_of_ble_eq_true rfl)) (q_call_le (Nat.le_of_ble_eq_true rfl) (jm_Int_numberOfTrailingZeros e19)) rfl rfl ?_
    cases hh
    exact r_iret jd_Ca_choose_12 rfl ⟨rfl, rfl⟩
  · refine r_ic_t 13 jd_Ca_choose_5 rfl c3 ?_
    refine r_iload_n 14 1 jd_Ca_choose_13 rfl rfl ?_
    refine r_aload_n 15 0 jd_Ca_choose_14 rfl rfl ?_
    refine r_iconst 16 1 jd_Ca_choose_15 (by decide) rfl ?_
    obtain ⟨b6, e7, hh⟩ := q_bind hh
    obtain ⟨p4, e5, hh⟩ := q_bind hh
    refine r_cV (rest := [.int a1]) 19 86 1 [.int 1] [.int p4.2, .int a1] jd_Ca_choose_16 rfl e7 rfl rfl rfl rfl (q_s8 (Nat.le_of_ble_eq_true rfl)) (q_call_le (Nat.le_of_ble_eq_true rfl) (jm_Ca_flagged e5)) rfl rfl ?_
    refine r_iand 20 jd_Ca_choose_19 rfl ?_
    refine r_istore_n 21 [(3, .int (a1 &&& p4.2)), (0, va_rf (some a0)), (1, .int a1), (2, .int a2)] jd_Ca_choose_20 (by decide) rfl rfl ?_
    refine r_iload_n 22 0 jd_Ca_choose_21 rfl rfl ?_
    rcases q_ite hh with ⟨c8, hh⟩ | ⟨c8, hh⟩
    · refine r_if_t 43 jd_Ca_choose_22 rfl c8 ?_
      refine r_iload_n 44 3 jd_Ca_choose_43 rfl rfl ?_
      refine r_iconst 45 (-1) jd_Ca_choose_44 (by decide) rfl ?_
      rcases q_ite hh with ⟨c9, hh⟩ | ⟨c9, hh⟩
      · refine r_ic_t 60 jd_Ca_choose_45 rfl c9 ?_
        refine r_bipush 62 (-4) jd_Ca_choose_60 (by decide) rfl ?_
        cases hh
        exact r_iret jd_Ca_choose_62 rfl ⟨rfl, rfl⟩
      · refine r_ic_f 48 60 jd_Ca_choose_45 rfl c9 rfl ?_
        refine r_iload_n 49 2 jd_Ca_choose_48 rfl rfl ?_
        refine r_iload_n 50 3 jd_Ca_choose_49 rfl rfl ?_
        obtain ⟨p10, e11, hh⟩ := q_bind hh
        refine r_cS (rest := []) 53 15 [.int a1, .int a2] [.int p10.2] jd_Ca_choose_50 rfl rfl rfl (q_s8 (Nat.le_of_ble_eq_true rfl)) (q_call_le (Nat.le_of_ble_eq_true rfl) (jm_Bc_contains e11)) rfl rfl ?_
        rcases q_ite hh with ⟨c12, hh⟩ | ⟨c12, hh⟩
        · refine r_if_t 60 jd_Ca_choose_53 rfl c12 ?_
          refine r_bipush 62 (-4) jd_Ca_choose_60 (by decide) rfl ?_
          cases hh
          exact r_iret jd_Ca_choose_62 rfl ⟨rfl, rfl⟩
        · refine r_if_f 56 60 jd_Ca_choose_53 rfl c12 rfl ?_
          refine r_iload_n 57 3 jd_Ca_choose_56 rfl rfl ?_
          refine r_goto 62 jd_Ca_choose_57 rfl ?_
          cases hh
          exact r_iret jd_Ca_choose_62 rfl ⟨rfl, rfl⟩
    · refine r_if_f 25 43 jd_Ca_choose_22 rfl c8 rfl ?_
      refine r_iload_n 26 0 jd_Ca_choose_25 rfl rfl ?_
      obtain ⟨p13, e14, hh⟩ := q_bind hh
      refine r_cS (rest := []) 29 17 [.int (a1 &&& p4.2)] [.int p13.2] jd_Ca_choose_26 rfl rfl rfl (q_s8 (Nat.le_of_ble_eq_true rfl)) (q_call_le (Nat.le_of_ble_eq_true rfl) (jm_Int_bitCount e14)) rfl rfl ?_
      refine r_iconst 30 1 jd_Ca_choose_29 (by decide) rfl ?_
      rcases q_ite hh with ⟨c15, hh⟩ | ⟨c15, hh⟩
      · refine r_ic_f 33 40 jd_Ca_choose_30 rfl (fun z => z c15) rfl ?_
        refine r_iload_n 34 0 jd_Ca_choose_33 rfl rfl ?_
        obtain ⟨p16, e17, hh⟩ := q_bind hh
        refine r_cS (rest := []) 37 18 [.int (a1 &&& p4.2)] [.int p16.2] jd_Ca_choose_34 rfl rfl rfl (q_s8 (Nat.le_of_ble_eq_true rfl)) (q_call_le (Nat.le_of_ble_eq_true rfl) (jm_Int_numberOfTrailingZeros e17)) rfl rfl ?_
        refine r_goto 42 jd_Ca_choose_37 rfl ?_
        cases hh
        exact r_iret jd_Ca_choose_42 rfl ⟨rfl, rfl⟩
      · refine r_ic_t 40 jd_Ca_choose_30 rfl c15 ?_
        refine r_bipush 42 (-4) jd_Ca_choose_40 (by decide) rfl ?_
        cases hh
        exact r_iret jd_Ca_choose_42 rfl ⟨rfl, rfl⟩
-- BeanContexts$Need.name()I
def jf_Ne_name (x : q_S) (a0 : Nat) : Option (q_S × Int32) :=
  (q_gI x (some a0) 7 2).bind fun v1 =>
  some (x, v1)
theorem jm_Ne_name {x : q_S} {a0 : Nat} {p : q_S × Int32} (hh : jf_Ne_name x a0 = some p) : q_call 1 jq_Ne_name [va_rf (some a0)] x p.1 (some (.int p.2)) := by
  unfold jf_Ne_name at hh
  refine ⟨List.mem_of_getElem? (i := 73) rfl, Nat.le_of_ble_eq_true rfl, List.forall_mem_cons.mpr ⟨rfl, fun _ h => by cases h⟩, ?_⟩
  show q_X (q_call 0) _ jq_Ne_name 0 [(0, va_rf (some a0))] [] x
  refine r_aload_n 1 0 jd_Ne_name_0 rfl rfl ?_
  obtain ⟨v1, e2, hh⟩ := q_bind hh
  refine r_getI 4 55 jd_Ne_name_1 rfl e2 rfl ?_
  cases hh
  exact r_iret jd_Ne_name_4 rfl ⟨rfl, rfl⟩
-- BeanContexts$Bean.<init>(ILBeanContexts$Context;Z[I)V
def jf_Be_init (x : q_S) (a0 : Nat) (a1 : Int32) (a2 : Option Nat) (a3 : Int32) (a4 : Option Nat) : Option (q_S × Unit) :=
  (q_pI x (some a0) 10 0 a1).bind fun x1 =>
  (q_pR x1 (some a0) 10 1 a2).bind fun x3 =>
  (q_pZ x3 (some a0) 10 2 a3).bind fun x5 =>
  (q_pR x5 (some a0) 10 3 a4).bind fun x7 =>
  some (x7, ())
theorem jm_Be_init {x : q_S} {a0 : Nat} {a1 : Int32} {a2 : Option Nat} {a3 : Int32} {a4 : Option Nat} {p : q_S × Unit} (hh : jf_Be_init x a0 a1 a2 a3 a4 = some p) : q_call 1 jq_Be_init [va_rf (some a0), .int a1, va_rf a2, .int a3, va_rf a4] x p.1 (none) := by
  unfold jf_Be_init at hh
  refine ⟨List.mem_of_getElem? (i := 75) rfl, Nat.le_of_ble_eq_true rfl, List.forall_mem_cons.mpr ⟨rfl, List.forall_mem_cons.mpr ⟨rfl, List.forall_mem_cons.mpr ⟨q_cat _, List.forall_mem_cons.mpr ⟨rfl, List.forall_mem_cons.mpr ⟨q_cat _, fun _ h => by cases h⟩⟩⟩⟩⟩, ?_⟩
  show q_X (q_call 0) _ jq_Be_init 0 [(0, va_rf (some a0)), (1, .int a1), (2, va_rf a2), (3, .int a3), (4, va_rf a4)] [] x
  refine r_aload_n 1 0 jd_Be_init_0 rfl rfl ?_
  refine r_obj 4 9 jd_Be_init_1 rfl (q_s8 (Nat.le_of_ble_eq_true rfl)) rfl ?_
  refine r_aload_n 5 0 jd_Be_init_4 rfl rfl ?_
  refine r_iload_n 6 1 jd_Be_init_5 rfl rfl ?_
  obtain ⟨x1, e2, hh⟩ := q_bind hh
  refine r_putI 9 63 jd_Be_init_6 rfl rfl (Or.inr ⟨rfl, rfl⟩) e2 rfl ?_
  refine r_aload_n 10 0 jd_Be_init_9 rfl rfl ?_
  refine r_aload_n 11 2 jd_Be_init_10 rfl rfl ?_
  obtain ⟨x3, e4, hh⟩ := q_bind hh
  refine r_putR 14 64 jd_Be_init_11 rfl rfl (Or.inr ⟨rfl, rfl⟩) e4 rfl ?_
  refine r_aload_n 15 0 jd_Be_init_14 rfl rfl ?_
  refine r_iload_n 16 3 jd_Be_init_15 rfl rfl ?_
  obtain ⟨x5, e6, hh⟩ := q_bind hh
  refine r_putZ 19 65 jd_Be_init_16 rfl rfl (Or.inr ⟨rfl, rfl⟩) e6 rfl ?_
  refine r_aload_n 20 0 jd_Be_init_19 rfl rfl ?_
  refine r_aload 22 4 jd_Be_init_20 rfl rfl ?_
  obtain ⟨x7, e8, hh⟩ := q_bind hh
  refine r_putA 25 66 jd_Be_init_22 rfl rfl (Or.inr ⟨rfl, rfl⟩) e8 rfl ?_
  cases hh
  exact r_vret jd_Be_init_25 rfl ⟨rfl, rfl⟩
-- BeanContexts$Catalog.at(I)LBeanContexts$Definition;
def jf_Ca_at (x : q_S) (a0 : Nat) (a1 : Int32) : Option (q_S × Option Nat) :=
  (q_gR x (some a0) 1 1).bind fun v1 =>
  (q_av x v1 2).bind fun b5 =>
  (jf_AL_get x b5 a1).bind fun p3 =>
  (q_ck p3.1 p3.2 6).bind fun u8 =>
  some (p3.1, p3.2)
theorem jm_Ca_at {x : q_S} {a0 : Nat} {a1 : Int32} {p : q_S × Option Nat} (hh : jf_Ca_at x a0 a1 = some p) : q_call 4 jq_Ca_at [va_rf (some a0), .int a1] x p.1 (some (va_rf p.2)) := by
  unfold jf_Ca_at at hh
  refine ⟨List.mem_of_getElem? (i := 77) rfl, Nat.le_of_ble_eq_true rfl, List.forall_mem_cons.mpr ⟨rfl, List.forall_mem_cons.mpr ⟨rfl, fun _ h => by cases h⟩⟩, ?_⟩
  show q_X (q_call 3) _ jq_Ca_at 0 [(0, va_rf (some a0)), (1, .int a1)] [] x
  refine r_aload_n 1 0 jd_Ca_at_0 rfl rfl ?_
  obtain ⟨v1, e2, hh⟩ := q_bind hh
  refine r_getR 4 6 jd_Ca_at_1 rfl e2 rfl ?_
  refine r_iload_n 5 1 jd_Ca_at_4 rfl rfl ?_
  obtain ⟨b5, e6, hh⟩ := q_bind hh
  obtain ⟨p3, e4, hh⟩ := q_bind hh
  refine r_cV (rest := []) 8 56 2 [.int a1] [va_rf p3.2] jd_Ca_at_5 rfl e6 rfl rfl rfl rfl (q_s8 (Nat.le_of_ble_eq_true rfl)) (q_call_le (Nat.le_of_ble_eq_true rfl) (jm_AL_get e4)) rfl rfl ?_
  obtain ⟨u8, e7, hh⟩ := q_bind hh
  refine r_cast 11 3 6 jd_Ca_at_8 rfl rfl e7 rfl ?_
  cases hh
  exact r_aretO jd_Ca_at_11 rfl ⟨rfl, rfl⟩
-- BeanContexts$Workshop.keep(LBeanContexts$Bean;)I
def jf_Wo_keep (x : q_S) (a0 : Nat) (a1 : Option Nat) : Option (q_S × Int32) :=
  (q_gR x (some a0) 4 2).bind fun v1 =>
  (q_av x v1 2).bind fun b5 =>
  (jf_AL_size x b5).bind fun p3 =>
  if p3.2 < 200 then
    (q_gR p3.1 (some a0) 4 2).bind fun v8 =>
    (q_av p3.1 v8 2).bind fun b12 =>
    (jf_AL_size p3.1 b12).bind fun p10 =>
    (q_gR p10.1 (some a0) 4 2).bind fun v14 =>
    (q_av p10.1 v14 2).bind fun b18 =>
    (jf_AL_add p10.1 b18 a1).bind fun p16 =>
    (q_gR p16.1 a1 10 1).bind fun v20 =>
    (q_gR p16.1 v20 9 1).bind fun v22 =>
    (q_gI p16.1 v22 8 3).bind fun v24 =>
    (q_gI p16.1 a1 10 0).bind fun v26 =>
    (jf_Bc_contains p16.1 v24 v26).bind fun p28 =>
    if p28.2 = 0 then
      (q_gR p28.1 (some a0) 4 1).bind fun v31 =>
      (q_gI p28.1 a1 10 0).bind fun v33 =>
      (q_av p28.1 v31 3).bind fun b37 =>
      (jf_Jo_write p28.1 b37 1 v33).bind fun p35 =>
      some (p35.1, p10.2)
    else
      (q_gR p28.1 a1 10 1).bind fun v39 =>
      (q_gR p28.1 v39 9 3).bind fun v41 =>
      (q_gI p28.1 a1 10 0).bind fun v43 =>
      (q_sI p28.1 2 v41 v43 p10.2).bind fun x45 =>
      (q_gR x45 (some a0) 4 1).bind fun v47 =>
      (q_gI x45 a1 10 0).bind fun v49 =>
      (q_av x45 v47 3).bind fun b53 =>
      (jf_Jo_write x45 b53 1 v49).bind fun p51 =>
      some (p51.1, p10.2)
  else
    some (p3.1, (-7))
theorem jm_Wo_keep {x : q_S} {a0 : Nat} {a1 : Option Nat} {p : q_S × Int32} (hh : jf_Wo_keep x a0 a1 = some p) : q_call 7 jq_Wo_keep [va_rf (some a0), va_rf a1] x p.1 (some (.int p.2)) := by
  unfold jf_Wo_keep at hh
  refine ⟨List.mem_of_getElem? (i := 78) rfl, Nat.le_of_ble_eq_true rfl, List.forall_mem_cons.mpr ⟨rfl, List.forall_mem_cons.mpr ⟨q_cat _, fun _ h => by cases h⟩⟩, ?_⟩
  show q_X (q_call 6) _ jq_Wo_keep 0 [(0, va_rf (some a0)), (1, va_rf a1)] [] x
  refine r_aload_n 1 0 jd_Wo_keep_0 rfl rfl ?_
  obtain ⟨v1, e2, hh⟩ := q_bind hh
  refine r_getR 4 15 jd_Wo_keep_1 rfl e2 rfl ?_
  obtain ⟨b5, e6, hh⟩ := q_bind hh
  obtain ⟨p3, e4, hh⟩ := q_bind hh
  refine r_cV (rest := []) 7 46 2 [] [.int p3.2] jd_Wo_keep_4 rfl e6 rfl rfl rfl rfl (q_s8 (Nat.le_of_ble_eq_true rfl)) (q_call_le (Nat.le_of_ble_eq_true rfl) (jm_AL_size e4)) rfl rfl ?_
  refine r_sipush 10 200 jd_Wo_keep_7 (by decide) rfl ?_
  rcases q_ite hh with ⟨c7, hh⟩ | ⟨c7, hh⟩
  · refine r_ic_t 16 jd_Wo_keep_10 rfl c7 ?_
    refine r_aload_n 17 0 jd_Wo_keep_16 rfl rfl ?_
    obtain ⟨v8, e9, hh⟩ := q_bind hh
    refine r_getR 20 15 jd_Wo_keep_17 rfl e9 rfl ?_
    obtain ⟨b12, e13, hh⟩ := q_bind hh
    obtain ⟨p10, e11, hh⟩ := q_bind hh
    refine r_cV (rest := []) 23 46 2 [] [.int p10.2] jd_Wo_keep_20 rfl e13 rfl rfl rfl rfl (q_s8 (Nat.le_of_ble_eq_true rfl)) (q_call_le (Nat.le_of_ble_eq_true rfl) (jm_AL_size e11)) rfl rfl ?_
    refine r_istore_n 24 [(2, .int p10.2), (0, va_rf (some a0)), (1, va_rf a1)] jd_Wo_keep_23 (by decide) rfl rfl ?_
    refine r_aload_n 25 1 jd_Wo_keep_24 rfl rfl ?_
    obtain ⟨v14, e15, hh⟩ := q_bind hh
    refine r_getR 28 15 jd_Wo_keep_25 rfl e15 rfl ?_
    refine r_aload_n 29 2 jd_Wo_keep_28 rfl rfl ?_
    obtain ⟨b18, e19, hh⟩ := q_bind hh
    obtain ⟨p16, e17, hh⟩ := q_bind hh
    refine r_cV (rest := []) 32 91 2 [va_rf a1] [.int p16.2] jd_Wo_keep_29 rfl e19 rfl rfl rfl rfl (q_s8 (Nat.le_of_ble_eq_true rfl)) (q_call_le (Nat.le_of_ble_eq_true rfl) (jm_AL_add e17)) rfl rfl ?_
    refine r_popI 33 jd_Wo_keep_32 rfl ?_
    refine r_aload_n 34 2 jd_Wo_keep_33 rfl rfl ?_
    obtain ⟨v20, e21, hh⟩ := q_bind hh
    refine r_getR 37 26 jd_Wo_keep_34 rfl e21 rfl ?_
    obtain ⟨v22, e23, hh⟩ := q_bind hh
    refine r_getR 40 50 jd_Wo_keep_37 rfl e23 rfl ?_
    obtain ⟨v24, e25, hh⟩ := q_bind hh
    refine r_getI 43 51 jd_Wo_keep_40 rfl e25 rfl ?_
    refine r_aload_n 44 2 jd_Wo_keep_43 rfl rfl ?_
    obtain ⟨v26, e27, hh⟩ := q_bind hh
    refine r_getI 47 21 jd_Wo_keep_44 rfl e27 rfl ?_
    obtain ⟨p28, e29, hh⟩ := q_bind hh
    refine r_cS (rest := []) 50 13 [.int v24, .int v26] [.int p28.2] jd_Wo_keep_47 rfl rfl rfl (q_s8 (Nat.le_of_ble_eq_true rfl)) (q_call_le (Nat.le_of_ble_eq_true rfl) (jm_Bc_contains e29)) rfl rfl ?_
    rcases q_ite hh with ⟨c30, hh⟩ | ⟨c30, hh⟩
    · refine r_if_t 66 jd_Wo_keep_50 rfl c30 ?_
      refine r_aload_n 67 1 jd_Wo_keep_66 rfl rfl ?_
      obtain ⟨v31, e32, hh⟩ := q_bind hh
      refine r_getR 70 17 jd_Wo_keep_67 rfl e32 rfl ?_
      refine r_iconst 71 1 jd_Wo_keep_70 (by decide) rfl ?_
      refine r_aload_n 72 2 jd_Wo_keep_71 rfl rfl ?_
      obtain ⟨v33, e34, hh⟩ := q_bind hh
      refine r_getI 75 21 jd_Wo_keep_72 rfl e34 rfl ?_
      obtain ⟨b37, e38, hh⟩ := q_bind hh
      obtain ⟨p35, e36, hh⟩ := q_bind hh
      refine r_cV (rest := []) 78 73 3 [.int 1, .int v33] [] jd_Wo_keep_75 rfl e38 rfl rfl rfl rfl (q_s8 (Nat.le_of_ble_eq_true rfl)) (q_call_le (Nat.le_of_ble_eq_true rfl) (jm_Jo_write e36)) rfl rfl ?_
      refine r_iload_n 79 0 jd_Wo_keep_78 rfl rfl ?_
      cases hh
      exact r_iret jd_Wo_keep_79 rfl ⟨rfl, rfl⟩
    · refine r_if_f 53 66 jd_Wo_keep_50 rfl c30 rfl ?_
      refine r_aload_n 54 2 jd_Wo_keep_53 rfl rfl ?_
      obtain ⟨v39, e40, hh⟩ := q_bind hh
      refine r_getR 57 26 jd_Wo_keep_54 rfl e40 rfl ?_
      obtain ⟨v41, e42, hh⟩ := q_bind hh
      refine r_getR 60 62 jd_Wo_keep_57 rfl e42 rfl ?_
      refine r_aload_n 61 2 jd_Wo_keep_60 rfl rfl ?_
      obtain ⟨v43, e44, hh⟩ := q_bind hh
      refine r_getI 64 21 jd_Wo_keep_61 rfl e44 rfl ?_
      refine r_iload_n 65 0 jd_Wo_keep_64 rfl rfl ?_
      obtain ⟨x45, e46, hh⟩ := q_bind hh
      refine r_stI 66 2 jd_Wo_keep_65 rfl e46 rfl ?_
      refine r_aload_n 67 1 jd_Wo_keep_66 rfl rfl ?_
      obtain ⟨v47, e48, hh⟩ := q_bind hh
      refine r_getR 70 17 jd_Wo_keep_67 rfl e48 rfl ?_
      refine r_iconst 71 1 jd_Wo_keep_70 (by decide) rfl ?_
      refine r_aload_n 72 2 jd_Wo_keep_71 rfl rfl ?_
      obtain ⟨v49, e50, hh⟩ := q_bind hh
      refine r_getI 75 21 jd_Wo_keep_72 rfl e50 rfl ?_
      obtain ⟨b53, e54, hh⟩ := q_bind hh
      obtain ⟨p51, e52, hh⟩ := q_bind hh
      refine r_cV (rest := []) 78 73 3 [.int 1, .int v49] [] jd_Wo_keep_75 rfl e54 rfl rfl rfl rfl (q_s8 (Nat.le_of_ble_eq_true rfl)) (q_call_le (Nat.le_of_ble_eq_true rfl) (jm_Jo_write e52)) rfl rfl ?_
      refine r_iload_n 79 0 jd_Wo_keep_78 rfl rfl ?_
      cases hh
      exact r_iret jd_Wo_keep_79 rfl ⟨rfl, rfl⟩
  · refine r_ic_f 13 16 jd_Wo_keep_10 rfl c7 rfl ?_
    refine r_bipush 15 (-7) jd_Wo_keep_13 (by decide) rfl ?_
    cases hh
    exact r_iret jd_Wo_keep_15 rfl ⟨rfl, rfl⟩
-- BeanContexts$Workshop.assemble(LBeanContexts$Context;II)I
def jf_Wo_assemble_B25 (rc_Wo_supplyNeed : q_S → Nat → Option Nat → Option Nat → Int32 → Option (q_S × Int32)) (rc : q_S → Nat → Option Nat → Int32 → Int32 → Option Nat → Option Nat → Int32 → Option (q_S × Int32)) (x : q_S) (l0 : Nat) (l1 : Option Nat) (l2 : Int32) (l3 : Int32) (l4 : Option Nat) (l5 : Option Nat) (l6 : Int32) : Option (q_S × Int32) :=
  (q_len x 4 l5).bind fun v15 =>
  if v15 ≤ l6 then
    (q_gI x l4 6 1).bind fun v18 =>
    if (v18 &&& 8) = 0 then
      (q_nO x 10 jdv_10).bind fun x22 =>
      (jf_Be_init x22 (q_sz x) l2 l1 0 l5).bind fun p24 =>
      (q_av p24.1 (some l0) 4).bind fun b28 =>
      (jf_Wo_keep p24.1 b28 (some (q_sz x))).bind fun p26 =>
      some (p26.1, p26.2)
    else
      some (x, (-6))
  else
    (q_gR x l4 6 4).bind fun v31 =>
    (q_av x v31 2).bind fun b35 =>
    (jf_AL_get x b35 l6).bind fun p33 =>
    (q_ck p33.1 p33.2 7).bind fun u38 =>
    (q_av p33.1 (some l0) 4).bind fun b41 =>
    (rc_Wo_supplyNeed p33.1 b41 l1 p33.2 (l3 + 1)).bind fun p39 =>
    if 0 ≤ p39.2 then
      (q_sI p39.1 4 l5 l6 p39.2).bind fun x44 =>
      rc x44 l0 l1 l2 l3 l4 l5 (l6 + 1)
    else
      some (p39.1, p39.2)
def jf_Wo_assemble_L25 (rc_Wo_supplyNeed : q_S → Nat → Option Nat → Option Nat → Int32 → Option (q_S × Int32)) : Nat → q_S → Nat → Option Nat → Int32 → Int32 → Option Nat → Option Nat → Int32 → Option (q_S × Int32)
  | 0, _, _, _, _, _, _, _, _ => none
  | n + 1, x, l0, l1, l2, l3, l4, l5, l6 => jf_Wo_assemble_B25 rc_Wo_supplyNeed (jf_Wo_assemble_L25 rc_Wo_supplyNeed n) x l0 l1 l2 l3 l4 l5 l6
theorem jm_Wo_assemble_B25 {d : Nat} (hd : 7 ≤ d) {rc_Wo_supplyNeed : q_S → Nat → Option Nat → Option Nat → Int32 → Option (q_S × Int32)} (hr_Wo_supplyNeed : ∀ {x : q_S} {a0 : Nat} {a1 : Option Nat} {a2 : Option Nat} {a3 : Int32} {p : q_S × Int32}, rc_Wo_supplyNeed x a0 a1 a2 a3 = some p → q_call d jq_Wo_supplyNeed [va_rf (some a0), va_rf a1, va_rf a2, .int a3] x p.1 (some (.int p.2))) {p : q_S × Int32} {rc : q_S → Nat → Option Nat → Int32 → Int32 → Option Nat → Option Nat → Int32 → Option (q_S × Int32)} (hrc : ∀ (x : q_S) (l0 : Nat) (l1 : Option Nat) (l2 : Int32) (l3 : Int32) (l4 : Option Nat) (l5 : Option Nat) (l6 : Int32), rc x l0 l1 l2 l3 l4 l5 l6 = some p → q_X (q_call (d + 0)) (fun y o => y = p.1 ∧ o = some (.int p.2)) jq_Wo_assemble 25 [(0, va_rf (some l0)), (1, va_rf l1), (2, .int l2), (3, .int l3), (4, va_rf l4), (5, va_rf l5), (6, .int l6)] [] x) (x : q_S) (l0 : Nat) (l1 : Option Nat) (l2 : Int32) (l3 : Int32) (l4 : Option Nat) (l5 : Option Nat) (l6 : Int32) (hh : jf_Wo_assemble_B25 rc_Wo_supplyNeed rc x l0 l1 l2 l3 l4 l5 l6 = some p) : q_X (q_call (d + 0)) (fun y o => y = p.1 ∧ o = some (.int p.2)) jq_Wo_assemble 25 [(0, va_rf (some l0)), (1, va_rf l1), (2, .int l2), (3, .int l3), (4, va_rf l4), (5, va_rf l5), (6, .int l6)] [] x := by
  unfold jf_Wo_assemble_B25 at hh
  refine r_iload 27 6 jd_Wo_assemble_25 rfl rfl ?_
  refine r_aload 29 5 jd_Wo_assemble_27 rfl rfl ?_
  obtain ⟨v15, e16, hh⟩ := q_bind hh
  refine r_len 30 4 jd_Wo_assemble_29 e16 rfl ?_
  rcases q_ite hh with ⟨c17, hh⟩ | ⟨c17, hh⟩
  · refine r_ic_t 77 jd_Wo_assemble_30 rfl c17 ?_
    refine r_aload 79 4 jd_Wo_assemble_77 rfl rfl ?_
    obtain ⟨v18, e19, hh⟩ := q_bind hh
    refine r_getI 82 68 jd_Wo_assemble_79 rfl e19 rfl ?_
    refine r_bipush 84 8 jd_Wo_assemble_82 (by decide) rfl ?_
    refine r_iand 85 jd_Wo_assemble_84 rfl ?_
    rcases q_ite hh with ⟨c20, hh⟩ | ⟨c20, hh⟩
    · refine r_if_t 92 jd_Wo_assemble_85 rfl c20 ?_
      refine r_iconst 93 0 jd_Wo_assemble_92 (by decide) rfl ?_
      refine r_istore 95 [(6, .int 0), (0, va_rf (some l0)), (1, va_rf l1), (2, .int l2), (3, .int l3), (4, va_rf l4), (5, va_rf l5)] jd_Wo_assemble_93 (by decide) rfl rfl ?_
      refine r_iload 97 0 jd_Wo_assemble_95 rfl rfl ?_
      refine r_if_t 105 jd_Wo_assemble_97 rfl (by unfold q_cnd; decide) ?_
      refine r_aload_n 106 1 jd_Wo_assemble_105 rfl rfl ?_
      obtain ⟨x22, e23, hh⟩ := q_bind hh
      refine r_new 109 14 jd_Wo_assemble_106 rfl e23 rfl ?_
      refine r_dupR 110 jd_Wo_assemble_109 rfl ?_
      refine r_iload_n 111 3 jd_Wo_assemble_110 rfl rfl ?_
      refine r_aload_n 112 2 jd_Wo_assemble_111 rfl rfl ?_
      refine r_iconst 113 0 jd_Wo_assemble_112 (by decide) rfl ?_
      refine r_aload 115 6 jd_Wo_assemble_113 rfl rfl ?_
      obtain ⟨p24, e25, hh⟩ := q_bind hh
      refine r_cI (rest := [va_rf (some (q_sz x)), va_rf (some l0)]) 118 17 [.int l2, va_rf l1, .int 0, va_rf l5] [va_rf (some (q_sz x)), va_rf (some l0)] jd_Wo_assemble_115 rfl rfl rfl (q_s8 (Nat.le_of_ble_eq_true rfl)) (q_call_le (by omega) (jm_Be_init e25)) rfl rfl ?_
      obtain ⟨b28, e29, hh⟩ := q_bind hh
      obtain ⟨p26, e27, hh⟩ := q_bind hh
      refine r_cV (rest := []) 121 88 4 [va_rf (some (q_sz x))] [.int p26.2] jd_Wo_assemble_118 rfl e29 rfl rfl rfl rfl (q_s8 (Nat.le_of_ble_eq_true rfl)) (q_call_le (by omega) (jm_Wo_keep e27)) rfl rfl ?_
      cases hh
      exact r_iret jd_Wo_assemble_121 rfl ⟨rfl, rfl⟩
    · refine r_if_f 88 92 jd_Wo_assemble_85 rfl c20 rfl ?_
      refine r_iconst 89 1 jd_Wo_assemble_88 (by decide) rfl ?_
      refine r_goto 93 jd_Wo_assemble_89 rfl ?_
      refine r_istore 95 [(6, .int 1), (0, va_rf (some l0)), (1, va_rf l1), (2, .int l2), (3, .int l3), (4, va_rf l4), (5, va_rf l5)] jd_Wo_assemble_93 (by decide) rfl rfl ?_
      refine r_iload 97 0 jd_Wo_assemble_95 rfl rfl ?_
      refine r_if_f 100 105 jd_Wo_assemble_97 rfl (by unfold q_cnd; decide) rfl ?_
      refine r_bipush 102 (-6) jd_Wo_assemble_100 (by decide) rfl ?_
      refine r_goto 121 jd_Wo_assemble_102 rfl ?_
      cases hh
      exact r_iret jd_Wo_assemble_121 rfl ⟨rfl, rfl⟩
  · refine r_ic_f 33 77 jd_Wo_assemble_30 rfl c17 rfl ?_
    refine r_aload_n 34 0 jd_Wo_assemble_33 rfl rfl ?_
    refine r_aload_n 35 1 jd_Wo_assemble_34 rfl rfl ?_
    refine r_aload 37 4 jd_Wo_assemble_35 rfl rfl ?_
    obtain ⟨v31, e32, hh⟩ := q_bind hh
    refine r_getR 40 67 jd_Wo_assemble_37 rfl e32 rfl ?_
    refine r_iload 42 6 jd_Wo_assemble_40 rfl rfl ?_
    obtain ⟨b35, e36, hh⟩ := q_bind hh
    obtain ⟨p33, e34, hh⟩ := q_bind hh
    refine r_cV (rest := [va_rf l1, va_rf (some l0)]) 45 45 2 [.int l6] [va_rf p33.2, va_rf l1, va_rf (some l0)] jd_Wo_assemble_42 rfl e36 rfl rfl rfl rfl (q_s8 (Nat.le_of_ble_eq_true rfl)) (q_call_le (by omega) (jm_AL_get e34)) rfl rfl ?_
    obtain ⟨u38, e37, hh⟩ := q_bind hh
    refine r_cast 48 4 7 jd_Wo_assemble_45 rfl rfl e37 rfl ?_
    refine r_iload_n 49 3 jd_Wo_assemble_48 rfl rfl ?_
    refine r_iconst 50 1 jd_Wo_assemble_49 (by decide) rfl ?_
    refine r_iadd 51 jd_Wo_assemble_50 rfl ?_
    obtain ⟨b41, e42, hh⟩ := q_bind hh
    obtain ⟨p39, e40, hh⟩ := q_bind hh
    refine r_cV (rest := []) 54 90 4 [va_rf l1, va_rf p33.2, .int (l3 + 1)] [.int p39.2] jd_Wo_assemble_51 rfl e42 rfl rfl rfl rfl (q_s8 (Nat.le_of_ble_eq_true rfl)) (q_call_le (by omega) (hr_Wo_supplyNeed e40)) rfl rfl ?_
    refine r_istore 56 [(7, .int p39.2), (0, va_rf (some l0)), (1, va_rf l1), (2, .int l2), (3, .int l3), (4, va_rf l4), (5, va_rf l5), (6, .int l6)] jd_Wo_assemble_54 (by decide) rfl rfl ?_
    refine r_iload 58 0 jd_Wo_assemble_56 rfl rfl ?_
    rcases q_ite hh with ⟨c43, hh⟩ | ⟨c43, hh⟩
    · refine r_if_t 64 jd_Wo_assemble_58 rfl c43 ?_
      refine r_aload 66 6 jd_Wo_assemble_64 rfl rfl ?_
      refine r_iload 68 7 jd_Wo_assemble_66 rfl rfl ?_
      refine r_iload 70 0 jd_Wo_assemble_68 rfl rfl ?_
      obtain ⟨x44, e45, hh⟩ := q_bind hh
      refine r_stI 71 4 jd_Wo_assemble_70 rfl e45 rfl ?_
      refine r_iinc 74 7 [(6, .int (l6 + 1)), (7, .int p39.2), (0, va_rf (some l0)), (1, va_rf l1), (2, .int l2), (3, .int l3), (4, va_rf l4), (5, va_rf l5)] 1 jd_Wo_assemble_71 rfl (by decide) (by decide) rfl rfl ?_
      refine r_goto 25 jd_Wo_assemble_74 rfl ?_
      refine q_sub [2, 3, 4, 5, 6, 7, 0] rfl ?_
      exact hrc _ _ _ _ _ _ _ _ hh
    · refine r_if_f 61 64 jd_Wo_assemble_58 rfl c43 rfl ?_
      refine r_iload 63 0 jd_Wo_assemble_61 rfl rfl ?_
      cases hh
      exact r_iret jd_Wo_assemble_63 rfl ⟨rfl, rfl⟩
theorem jm_Wo_assemble_L25 {d : Nat} (hd : 7 ≤ d) {rc_Wo_supplyNeed : q_S → Nat → Option Nat → Option Nat → Int32 → Option (q_S × Int32)} (hr_Wo_supplyNeed : ∀ {x : q_S} {a0 : Nat} {a1 : Option Nat} {a2 : Option Nat} {a3 : Int32} {p : q_S × Int32}, rc_Wo_supplyNeed x a0 a1 a2 a3 = some p → q_call d jq_Wo_supplyNeed [va_rf (some a0), va_rf a1, va_rf a2, .int a3] x p.1 (some (.int p.2))) {p : q_S × Int32} : ∀ (n : Nat) (x : q_S) (l0 : Nat) (l1 : Option Nat) (l2 : Int32) (l3 : Int32) (l4 : Option Nat) (l5 : Option Nat) (l6 : Int32), jf_Wo_assemble_L25 rc_Wo_supplyNeed n x l0 l1 l2 l3 l4 l5 l6 = some p → q_X (q_call (d + 0)) (fun y o => y = p.1 ∧ o = some (.int p.2)) jq_Wo_assemble 25 [(0, va_rf (some l0)), (1, va_rf l1), (2, .int l2), (3, .int l3), (4, va_rf l4), (5, va_rf l5), (6, .int l6)] [] x
  | 0, _, _, _, _, _, _, _, _, hh => nomatch hh
  | n + 1, x, l0, l1, l2, l3, l4, l5, l6, hh => jm_Wo_assemble_B25 hd hr_Wo_supplyNeed (jm_Wo_assemble_L25 hd hr_Wo_supplyNeed n) x l0 l1 l2 l3 l4 l5 l6 hh
def jf_Wo_assemble (rc_Wo_supplyNeed : q_S → Nat → Option Nat → Option Nat → Int32 → Option (q_S × Int32)) (x : q_S) (a0 : Nat) (a1 : Option Nat) (a2 : Int32) (a3 : Int32) : Option (q_S × Int32) :=
  (q_gR x (some a0) 4 0).bind fun v1 =>
  (q_av x v1 1).bind fun b5 =>
  (jf_Ca_at x b5 a2).bind fun p3 =>
  (q_gR p3.1 p3.2 6 4).bind fun v7 =>
  (q_av p3.1 v7 2).bind fun b11 =>
  (jf_AL_size p3.1 b11).bind fun p9 =>
  (q_nI p9.1 4 p9.2).bind fun x13 =>
  jf_Wo_assemble_L25 rc_Wo_supplyNeed lpK x13 a0 a1 a2 a3 p3.2 (some (q_sz p9.1)) 0
theorem jm_Wo_assemble {d : Nat} (hd : 7 ≤ d) {rc_Wo_supplyNeed : q_S → Nat → Option Nat → Option Nat → Int32 → Option (q_S × Int32)} (hr_Wo_supplyNeed : ∀ {x : q_S} {a0 : Nat} {a1 : Option Nat} {a2 : Option Nat} {a3 : Int32} {p : q_S × Int32}, rc_Wo_supplyNeed x a0 a1 a2 a3 = some p → q_call d jq_Wo_supplyNeed [va_rf (some a0), va_rf a1, va_rf a2, .int a3] x p.1 (some (.int p.2))) {x : q_S} {a0 : Nat} {a1 : Option Nat} {a2 : Int32} {a3 : Int32} {p : q_S × Int32} (hh : jf_Wo_assemble rc_Wo_supplyNeed x a0 a1 a2 a3 = some p) : q_call (d + 1) jq_Wo_assemble [va_rf (some a0), va_rf a1, .int a2, .int a3] x p.1 (some (.int p.2)) := by
  unfold jf_Wo_assemble at hh
  refine ⟨List.mem_of_getElem? (i := 76) rfl, Nat.le_of_ble_eq_true rfl, List.forall_mem_cons.mpr ⟨rfl, List.forall_mem_cons.mpr ⟨q_cat _, List.forall_mem_cons.mpr ⟨rfl, List.forall_mem_cons.mpr ⟨rfl, fun _ h => by cases h⟩⟩⟩⟩, ?_⟩
  show q_X (q_call (d + 0)) _ jq_Wo_assemble 0 [(0, va_rf (some a0)), (1, va_rf a1), (2, .int a2), (3, .int a3)] [] x
  refine r_aload_n 1 0 jd_Wo_assemble_0 rfl rfl ?_
  obtain ⟨v1, e2, hh⟩ := q_bind hh
  refine r_getR 4 16 jd_Wo_assemble_1 rfl e2 rfl ?_
  refine r_iload_n 5 2 jd_Wo_assemble_4 rfl rfl ?_
  obtain ⟨b5, e6, hh⟩ := q_bind hh
  obtain ⟨p3, e4, hh⟩ := q_bind hh
  refine r_cV (rest := []) 8 89 1 [.int a2] [va_rf p3.2] jd_Wo_assemble_5 rfl e6 rfl rfl rfl rfl (q_s8 (Nat.le_of_ble_eq_true rfl)) (q_call_le (by omega) (jm_Ca_at e4)) rfl rfl ?_
  refine r_astore 10 [(4, va_rf p3.2), (0, va_rf (some a0)), (1, va_rf a1), (2, .int a2), (3, .int a3)] jd_Wo_assemble_8 (by decide) rfl rfl ?_
  refine r_aload 12 0 jd_Wo_assemble_10 rfl rfl ?_
  obtain ⟨v7, e8, hh⟩ := q_bind hh
  refine r_getR 15 67 jd_Wo_assemble_12 rfl e8 rfl ?_
  obtain ⟨b11, e12, hh⟩ := q_bind hh
  obtain ⟨p9, e10, hh⟩ := q_bind hh
  refine r_cV (rest := []) 18 46 2 [] [.int p9.2] jd_Wo_assemble_15 rfl e12 rfl rfl rfl rfl (q_s8 (Nat.le_of_ble_eq_true rfl)) (q_call_le (by omega) (jm_AL_size e10)) rfl rfl ?_
  obtain ⟨x13, e14, hh⟩ := q_bind hh
  refine r_newI 20 4 jd_Wo_assemble_18 rfl e14 rfl ?_
  refine r_astore 22 [(5, va_rf (some (q_sz p9.1))), (4, va_rf p3.2), (0, va_rf (some a0)), (1, va_rf a1), (2, .int a2), (3, .int a3)] jd_Wo_assemble_20 (by decide) rfl rfl ?_
  refine r_iconst 23 0 jd_Wo_assemble_22 (by decide) rfl ?_
  refine r_istore 25 [(6, .int 0), (5, va_rf (some (q_sz p9.1))), (4, va_rf p3.2), (0, va_rf (some a0)), (1, va_rf a1), (2, .int a2), (3, .int a3)] jd_Wo_assemble_23 (by decide) rfl rfl ?_
  refine q_sub [3, 4, 5, 6, 2, 1, 0] rfl ?_
  exact jm_Wo_assemble_L25 hd hr_Wo_supplyNeed lpK _ _ _ _ _ _ _ _ hh
-- BeanContexts$Workshop.supply(LBeanContexts$Context;II)I
def jf_Wo_supply (rc_Wo_supplyNeed : q_S → Nat → Option Nat → Option Nat → Int32 → Option (q_S × Int32)) (x : q_S) (a0 : Nat) (a1 : Option Nat) (a2 : Int32) (a3 : Int32) : Option (q_S × Int32) :=
  (q_gR x a1 9 1).bind fun v1 =>
  (q_gI x v1 8 3).bind fun v3 =>
  (jf_Bc_contains x v3 a2).bind fun p5 =>
  if p5.2 = 0 then
    (q_gR p5.1 a1 9 1).bind fun v8 =>
    (q_gI p5.1 v8 8 2).bind fun v10 =>
    (jf_Bc_contains p5.1 v10 a2).bind fun p12 =>
    if p12.2 = 0 then
      (q_gI p12.1 a1 9 4).bind fun v15 =>
      (jf_Bc_contains p12.1 v15 a2).bind fun p17 =>
      if p17.2 = 0 then
        if a3 < 30 then
          (q_gI p17.1 a1 9 4).bind fun v21 =>
          (q_pI p17.1 a1 9 4 (v21 ||| ((1 : Int32) <<< (a2 &&& 31)))).bind fun x23 =>
          (q_av x23 (some a0) 4).bind fun b27 =>
          (jf_Wo_assemble rc_Wo_supplyNeed x23 b27 a1 a2 a3).bind fun p25 =>
          (q_gI p25.1 a1 9 4).bind fun v29 =>
          (q_pI p25.1 a1 9 4 (v29 &&& (((1 : Int32) <<< (a2 &&& 31)) ^^^ (-1)))).bind fun x31 =>
          some (x31, p25.2)
        else
          some (p17.1, (-5))
      else
        some (p17.1, (-5))
    else
      (q_nO p12.1 10 jdv_10).bind fun x33 =>
      (q_nI x33 4 0).bind fun x35 =>
      (jf_Be_init x35 (q_sz p12.1) a2 a1 1 (some (q_sz x33))).bind fun p37 =>
      (q_av p37.1 (some a0) 4).bind fun b41 =>
      (jf_Wo_keep p37.1 b41 (some (q_sz p12.1))).bind fun p39 =>
      some (p39.1, p39.2)
  else
    (q_gR p5.1 a1 9 3).bind fun v43 =>
    (q_lI p5.1 2 v43 a2).bind fun v45 =>
    if v45 = (-1) then
      (q_gR p5.1 a1 9 1).bind fun v48 =>
      (q_gI p5.1 v48 8 2).bind fun v50 =>
      (jf_Bc_contains p5.1 v50 a2).bind fun p52 =>
      if p52.2 = 0 then
        (q_gI p52.1 a1 9 4).bind fun v55 =>
        (jf_Bc_contains p52.1 v55 a2).bind fun p57 =>
        if p57.2 = 0 then
          if a3 < 30 then
            (q_gI p57.1 a1 9 4).bind fun v61 =>
            (q_pI p57.1 a1 9 4 (v61 ||| ((1 : Int32) <<< (a2 &&& 31)))).bind fun x63 =>
            (q_av x63 (some a0) 4).bind fun b67 =>
            (jf_Wo_assemble rc_Wo_supplyNeed x63 b67 a1 a2 a3).bind fun p65 =>
            (q_gI p65.1 a1 9 4).bind fun v69 =>
            (q_pI p65.1 a1 9 4 (v69 &&& (((1 : Int32) <<< (a2 &&& 31)) ^^^ (-1)))).bind fun x71 =>
            some (x71, p65.2)
          else
            some (p57.1, (-5))
        else
          some (p57.1, (-5))
      else
        (q_nO p52.1 10 jdv_10).bind fun x73 =>
        (q_nI x73 4 0).bind fun x75 =>
        (jf_Be_init x75 (q_sz p52.1) a2 a1 1 (some (q_sz x73))).bind fun p77 =>
        (q_av p77.1 (some a0) 4).bind fun b81 =>
        (jf_Wo_keep p77.1 b81 (some (q_sz p52.1))).bind fun p79 =>
        some (p79.1, p79.2)
    else
      (q_gR p5.1 a1 9 3).bind fun v83 =>
      (q_lI p5.1 2 v83 a2).bind fun v85 =>
      some (p5.1, v85)
theorem jm_Wo_supply {d : Nat} (hd : 7 ≤ d) {rc_Wo_supplyNeed : q_S → Nat → Option Nat → Option Nat → Int32 → Option (q_S × Int32)} (hr_Wo_supplyNeed : ∀ {x : q_S} {a0 : Nat} {a1 : Option Nat} {a2 : Option Nat} {a3 : Int32} {p : q_S × Int32}, rc_Wo_supplyNeed x a0 a1 a2 a3 = some p → q_call d jq_Wo_supplyNeed [va_rf (some a0), va_rf a1, va_rf a2, .int a3] x p.1 (some (.int p.2))) {x : q_S} {a0 : Nat} {a1 : Option Nat} {a2 : Int32} {a3 : Int32} {p : q_S × Int32} (hh : jf_Wo_supply rc_Wo_supplyNeed x a0 a1 a2 a3 = some p) : q_call (d + 2) jq_Wo_supply [va_rf (some a0), va_rf a1, .int a2, .int a3] x p.1 (some (.int p.2)) := by
  unfold jf_Wo_supply at hh
  refine ⟨List.mem_of_getElem? (i := 74) rfl, Nat.le_of_ble_eq_true rfl, List.forall_mem_cons.mpr ⟨rfl, List.forall_mem_cons.mpr ⟨q_cat _, List.forall_mem_cons.mpr ⟨rfl, List.forall_mem_cons.mpr ⟨rfl, fun _ h => by cases h⟩⟩⟩⟩, ?_⟩
  show q_X (q_call (d + 1)) _ jq_Wo_supply 0 [(0, va_rf (some a0)), (1, va_rf a1), (2, .int a2), (3, .int a3)] [] x
  refine r_aload_n 1 1 jd_Wo_supply_0 rfl rfl ?_
  obtain ⟨v1, e2, hh⟩ := q_bind hh
  refine r_getR 4 50 jd_Wo_supply_1 rfl e2 rfl ?_
  obtain ⟨v3, e4, hh⟩ := q_bind hh
  refine r_getI 7 51 jd_Wo_supply_4 rfl e4 rfl ?_
  refine r_iload_n 8 2 jd_Wo_supply_7 rfl rfl ?_
  obtain ⟨p5, e6, hh⟩ := q_bind hh
  refine r_cS (rest := []) 11 13 [.int v3, .int a2] [.int p5.2] jd_Wo_supply_8 rfl rfl rfl (q_s8 (Nat.le_of_ble_eq_true rfl)) (q_call_le (by omega) (jm_Bc_contains e6)) rfl rfl ?_
  rcases q_ite hh with ⟨c7, hh⟩ | ⟨c7, hh⟩
  · refine r_if_t 31 jd_Wo_supply_11 rfl c7 ?_
    refine r_aload_n 32 1 jd_Wo_supply_31 rfl rfl ?_
    obtain ⟨v8, e9, hh⟩ := q_bind hh
    refine r_getR 35 50 jd_Wo_supply_32 rfl e9 rfl ?_
    obtain ⟨v10, e11, hh⟩ := q_bind hh
    refine r_getI 38 60 jd_Wo_supply_35 rfl e11 rfl ?_
    refine r_iload_n 39 2 jd_Wo_supply_38 rfl rfl ?_
    obtain ⟨p12, e13, hh⟩ := q_bind hh
    refine r_cS (rest := []) 42 13 [.int v10, .int a2] [.int p12.2] jd_Wo_supply_39 rfl rfl rfl (q_s8 (Nat.le_of_ble_eq_true rfl)) (q_call_le (by omega) (jm_Bc_contains e13)) rfl rfl ?_
    rcases q_ite hh with ⟨c14, hh⟩ | ⟨c14, hh⟩
    · refine r_if_t 63 jd_Wo_supply_42 rfl c14 ?_
      refine r_aload_n 64 1 jd_Wo_supply_63 rfl rfl ?_
      obtain ⟨v15, e16, hh⟩ := q_bind hh
      refine r_getI 67 61 jd_Wo_supply_64 rfl e16 rfl ?_
      refine r_iload_n 68 2 jd_Wo_supply_67 rfl rfl ?_
      obtain ⟨p17, e18, hh⟩ := q_bind hh
      refine r_cS (rest := []) 71 13 [.int v15, .int a2] [.int p17.2] jd_Wo_supply_68 rfl rfl rfl (q_s8 (Nat.le_of_ble_eq_true rfl)) (q_call_le (by omega) (jm_Bc_contains e18)) rfl rfl ?_
      rcases q_ite hh with ⟨c19, hh⟩ | ⟨c19, hh⟩
      · refine r_if_f 74 80 jd_Wo_supply_71 rfl (fun z => z c19) rfl ?_
        refine r_iload_n 75 3 jd_Wo_supply_74 rfl rfl ?_
        refine r_bipush 77 30 jd_Wo_supply_75 (by decide) rfl ?_
        rcases q_ite hh with ⟨c20, hh⟩ | ⟨c20, hh⟩
        · refine r_ic_t 83 jd_Wo_supply_77 rfl c20 ?_
          refine r_aload_n 84 1 jd_Wo_supply_83 rfl rfl ?_
          refine r_dupR 85 jd_Wo_supply_84 rfl ?_
          obtain ⟨v21, e22, hh⟩ := q_bind hh
          refine r_getI 88 61 jd_Wo_supply_85 rfl e22 rfl ?_
          refine r_iconst 89 1 jd_Wo_supply_88 (by decide) rfl ?_
          refine r_iload_n 90 2 jd_Wo_supply_89 rfl rfl ?_
          refine r_ishl 91 jd_Wo_supply_90 rfl ?_
          refine r_ior 92 jd_Wo_supply_91 rfl ?_
          obtain ⟨x23, e24, hh⟩ := q_bind hh
          refine r_putI 95 61 jd_Wo_supply_92 rfl rfl (Or.inl rfl) e24 rfl ?_
          refine r_aload_n 96 0 jd_Wo_supply_95 rfl rfl ?_
          refine r_aload_n 97 1 jd_Wo_supply_96 rfl rfl ?_
          refine r_iload_n 98 2 jd_Wo_supply_97 rfl rfl ?_
          refine r_iload_n 99 3 jd_Wo_supply_98 rfl rfl ?_
          obtain ⟨b27, e28, hh⟩ := q_bind hh
          obtain ⟨p25, e26, hh⟩ := q_bind hh
          refine r_cV (rest := []) 102 87 4 [va_rf a1, .int a2, .int a3] [.int p25.2] jd_Wo_supply_99 rfl e28 rfl rfl rfl rfl (q_s8 (Nat.le_of_ble_eq_true rfl)) (q_call_le (by omega) (jm_Wo_assemble hd hr_Wo_supplyNeed e26)) rfl rfl ?_
          refine r_istore 104 [(4, .int p25.2), (0, va_rf (some a0)), (1, va_rf a1), (2, .int a2), (3, .int a3)] jd_Wo_supply_102 (by decide) rfl rfl ?_
          refine r_aload_n 105 2 jd_Wo_supply_104 rfl rfl ?_
          refine r_dupR 106 jd_Wo_supply_105 rfl ?_
          obtain ⟨v29, e30, hh⟩ := q_bind hh
          refine r_getI 109 61 jd_Wo_supply_106 rfl e30 rfl ?_
          refine r_iconst 110 1 jd_Wo_supply_109 (by decide) rfl ?_
          refine r_iload_n 111 3 jd_Wo_supply_110 rfl rfl ?_
          refine r_ishl 112 jd_Wo_supply_111 rfl ?_
          refine r_iconst 113 (-1) jd_Wo_supply_112 (by decide) rfl ?_
          refine r_ixor 114 jd_Wo_supply_113 rfl ?_
          refine r_iand 115 jd_Wo_supply_114 rfl ?_
          obtain ⟨x31, e32, hh⟩ := q_bind hh
          refine r_putI 118 61 jd_Wo_supply_115 rfl rfl (Or.inl rfl) e32 rfl ?_
          refine r_iload 120 0 jd_Wo_supply_118 rfl rfl ?_
          cases hh
          exact r_iret jd_Wo_supply_120 rfl ⟨rfl, rfl⟩
        · refine r_ic_f 80 83 jd_Wo_supply_77 rfl c20 rfl ?_
          refine r_bipush 82 (-5) jd_Wo_supply_80 (by decide) rfl ?_
          cases hh
          exact r_iret jd_Wo_supply_82 rfl ⟨rfl, rfl⟩
      · refine r_if_t 80 jd_Wo_supply_71 rfl c19 ?_
        refine r_bipush 82 (-5) jd_Wo_supply_80 (by decide) rfl ?_
        cases hh
        exact r_iret jd_Wo_supply_82 rfl ⟨rfl, rfl⟩
    · refine r_if_f 45 63 jd_Wo_supply_42 rfl c14 rfl ?_
      refine r_aload_n 46 0 jd_Wo_supply_45 rfl rfl ?_
      obtain ⟨x33, e34, hh⟩ := q_bind hh
      refine r_new 49 14 jd_Wo_supply_46 rfl e34 rfl ?_
      refine r_dupR 50 jd_Wo_supply_49 rfl ?_
      refine r_iload_n 51 2 jd_Wo_supply_50 rfl rfl ?_
      refine r_aload_n 52 1 jd_Wo_supply_51 rfl rfl ?_
      refine r_iconst 53 1 jd_Wo_supply_52 (by decide) rfl ?_
      refine r_iconst 54 0 jd_Wo_supply_53 (by decide) rfl ?_
      obtain ⟨x35, e36, hh⟩ := q_bind hh
      refine r_newI 56 4 jd_Wo_supply_54 rfl e36 rfl ?_
      obtain ⟨p37, e38, hh⟩ := q_bind hh
      refine r_cI (rest := [va_rf (some (q_sz p12.1)), va_rf (some a0)]) 59 17 [.int a2, va_rf a1, .int 1, va_rf (some (q_sz x33))] [va_rf (some (q_sz p12.1)), va_rf (some a0)] jd_Wo_supply_56 rfl rfl rfl (q_s8 (Nat.le_of_ble_eq_true rfl)) (q_call_le (by omega) (jm_Be_init e38)) rfl rfl ?_
      obtain ⟨b41, e42, hh⟩ := q_bind hh
      obtain ⟨p39, e40, hh⟩ := q_bind hh
      refine r_cV (rest := []) 62 88 4 [va_rf (some (q_sz p12.1))] [.int p39.2] jd_Wo_supply_59 rfl e42 rfl rfl rfl rfl (q_s8 (Nat.le_of_ble_eq_true rfl)) (q_call_le (by omega) (jm_Wo_keep e40)) rfl rfl ?_
      cases hh
      exact r_iret jd_Wo_supply_62 rfl ⟨rfl, rfl⟩
  · refine r_if_f 14 31 jd_Wo_supply_11 rfl c7 rfl ?_
    refine r_aload_n 15 1 jd_Wo_supply_14 rfl rfl ?_
    obtain ⟨v43, e44, hh⟩ := q_bind hh
    refine r_getR 18 62 jd_Wo_supply_15 rfl e44 rfl ?_
    refine r_iload_n 19 2 jd_Wo_supply_18 rfl rfl ?_
    obtain ⟨v45, e46, hh⟩ := q_bind hh
    refine r_ldI 20 2 jd_Wo_supply_19 rfl e46 rfl ?_
    refine r_iconst 21 (-1) jd_Wo_supply_20 (by decide) rfl ?_
    rcases q_ite hh with ⟨c47, hh⟩ | ⟨c47, hh⟩
    · refine r_ic_t 31 jd_Wo_supply_21 rfl c47 ?_
      refine r_aload_n 32 1 jd_Wo_supply_31 rfl rfl ?_
      obtain ⟨v48, e49, hh⟩ := q_bind hh
      refine r_getR 35 50 jd_Wo_supply_32 rfl e49 rfl ?_
      obtain ⟨v50, e51, hh⟩ := q_bind hh
      refine r_getI 38 60 jd_Wo_supply_35 rfl e51 rfl ?_
      refine r_iload_n 39 2 jd_Wo_supply_38 rfl rfl ?_
      obtain ⟨p52, e53, hh⟩ := q_bind hh
      refine r_cS (rest := []) 42 13 [.int v50, .int a2] [.int p52.2] jd_Wo_supply_39 rfl rfl rfl (q_s8 (Nat.le_of_ble_eq_true rfl)) (q_call_le (by omega) (jm_Bc_contains e53)) rfl rfl ?_
      rcases q_ite hh with ⟨c54, hh⟩ | ⟨c54, hh⟩
      · refine r_if_t 63 jd_Wo_supply_42 rfl c54 ?_
        refine r_aload_n 64 1 jd_Wo_supply_63 rfl rfl ?_
        obtain ⟨v55, e56, hh⟩ := q_bind hh
        refine r_getI 67 61 jd_Wo_supply_64 rfl e56 rfl ?_
        refine r_iload_n 68 2 jd_Wo_supply_67 rfl rfl ?_
        obtain ⟨p57, e58, hh⟩ := q_bind hh
        refine r_cS (rest := []) 71 13 [.int v55, .int a2] [.int p57.2] jd_Wo_supply_68 rfl rfl rfl (q_s8 (Nat.le_of_ble_eq_true rfl)) (q_call_le (by omega) (jm_Bc_contains e58)) rfl rfl ?_
        rcases q_ite hh with ⟨c59, hh⟩ | ⟨c59, hh⟩
        · refine r_if_f 74 80 jd_Wo_supply_71 rfl (fun z => z c59) rfl ?_
          refine r_iload_n 75 3 jd_Wo_supply_74 rfl rfl ?_
          refine r_bipush 77 30 jd_Wo_supply_75 (by decide) rfl ?_
          rcases q_ite hh with ⟨c60, hh⟩ | ⟨c60, hh⟩
          · refine r_ic_t 83 jd_Wo_supply_77 rfl c60 ?_
            refine r_aload_n 84 1 jd_Wo_supply_83 rfl rfl ?_
            refine r_dupR 85 jd_Wo_supply_84 rfl ?_
            obtain ⟨v61, e62, hh⟩ := q_bind hh
            refine r_getI 88 61 jd_Wo_supply_85 rfl e62 rfl ?_
            refine r_iconst 89 1 jd_Wo_supply_88 (by decide) rfl ?_
            refine r_iload_n 90 2 jd_Wo_supply_89 rfl rfl ?_
            refine r_ishl 91 jd_Wo_supply_90 rfl ?_
            refine r_ior 92 jd_Wo_supply_91 rfl ?_
            obtain ⟨x63, e64, hh⟩ := q_bind hh
            refine r_putI 95 61 jd_Wo_supply_92 rfl rfl (Or.inl rfl) e64 rfl ?_
            refine r_aload_n 96 0 jd_Wo_supply_95 rfl rfl ?_
            refine r_aload_n 97 1 jd_Wo_supply_96 rfl rfl ?_
            refine r_iload_n 98 2 jd_Wo_supply_97 rfl rfl ?_
            refine r_iload_n 99 3 jd_Wo_supply_98 rfl rfl ?_
            obtain ⟨b67, e68, hh⟩ := q_bind hh
            obtain ⟨p65, e66, hh⟩ := q_bind hh
            refine r_cV (rest := []) 102 87 4 [va_rf a1, .int a2, .int a3] [.int p65.2] jd_Wo_supply_99 rfl e68 rfl rfl rfl rfl (q_s8 (Nat.le_of_ble_eq_true rfl)) (q_call_le (by omega) (jm_Wo_assemble hd hr_Wo_supplyNeed e66)) rfl rfl ?_
            refine r_istore 104 [(4, .int p65.2), (0, va_rf (some a0)), (1, va_rf a1), (2, .int a2), (3, .int a3)] jd_Wo_supply_102 (by decide) rfl rfl ?_
            refine r_aload_n 105 2 jd_Wo_supply_104 rfl rfl ?_
            refine r_dupR 106 jd_Wo_supply_105 rfl ?_
            obtain ⟨v69, e70, hh⟩ := q_bind hh
            refine r_getI 109 61 jd_Wo_supply_106 rfl e70 rfl ?_
            refine r_iconst 110 1 jd_Wo_supply_109 (by decide) rfl ?_
            refine r_iload_n 111 3 jd_Wo_supply_110 rfl rfl ?_
            refine r_ishl 112 jd_Wo_supply_111 rfl ?_
            refine r_iconst 113 (-1) jd_Wo_supply_112 (by decide) rfl ?_
            refine r_ixor 114 jd_Wo_supply_113 rfl ?_
            refine r_iand 115 jd_Wo_supply_114 rfl ?_
            obtain ⟨x71, e72, hh⟩ := q_bind hh
            refine r_putI 118 61 jd_Wo_supply_115 rfl rfl (Or.inl rfl) e72 rfl ?_
            refine r_iload 120 0 jd_Wo_supply_118 rfl rfl ?_
            cases hh
            exact r_iret jd_Wo_supply_120 rfl ⟨rfl, rfl⟩
          · refine r_ic_f 80 83 jd_Wo_supply_77 rfl c60 rfl ?_
            refine r_bipush 82 (-5) jd_Wo_supply_80 (by decide) rfl ?_
            cases hh
            exact r_iret jd_Wo_supply_82 rfl ⟨rfl, rfl⟩
        · refine r_if_t 80 jd_Wo_supply_71 rfl c59 ?_
          refine r_bipush 82 (-5) jd_Wo_supply_80 (by decide) rfl ?_
          cases hh
          exact r_iret jd_Wo_supply_82 rfl ⟨rfl, rfl⟩
      · refine r_if_f 45 63 jd_Wo_supply_42 rfl c54 rfl ?_
        refine r_aload_n 46 0 jd_Wo_supply_45 rfl rfl ?_
        obtain ⟨x73, e74, hh⟩ := q_bind hh
        refine r_new 49 14 jd_Wo_supply_46 rfl e74 rfl ?_
        refine r_dupR 50 jd_Wo_supply_49 rfl ?_
        refine r_iload_n 51 2 jd_Wo_supply_50 rfl rfl ?_
        refine r_aload_n 52 1 jd_Wo_supply_51 rfl rfl ?_
        refine r_iconst 53 1 jd_Wo_supply_52 (by decide) rfl ?_
        refine r_iconst 54 0 jd_Wo_supply_53 (by decide) rfl ?_
        obtain ⟨x75, e76, hh⟩ := q_bind hh
        refine r_newI 56 4 jd_Wo_supply_54 rfl e76 rfl ?_
        obtain ⟨p77, e78, hh⟩ := q_bind hh
        refine r_cI (rest := [va_rf (some (q_sz p52.1)), va_rf (some a0)]) 59 17 [.int a2, va_rf a1, .int 1, va_rf (some (q_sz x73))] [va_rf (some (q_sz p52.1)), va_rf (some a0)] jd_Wo_supply_56 rfl rfl rfl (q_s8 (Nat.le_of_ble_eq_true rfl)) (q_call_le (by omega) (jm_Be_init e78)) rfl rfl ?_
        obtain ⟨b81, e82, hh⟩ := q_bind hh
        obtain ⟨p79, e80, hh⟩ := q_bind hh
        refine r_cV (rest := []) 62 88 4 [va_rf (some (q_sz p52.1))] [.int p79.2] jd_Wo_supply_59 rfl e82 rfl rfl rfl rfl (q_s8 (Nat.le_of_ble_eq_true rfl)) (q_call_le (by omega) (jm_Wo_keep e80)) rfl rfl ?_
        cases hh
        exact r_iret jd_Wo_supply_62 rfl ⟨rfl, rfl⟩
    · refine r_ic_f 24 31 jd_Wo_supply_21 rfl c47 rfl ?_
      refine r_aload_n 25 1 jd_Wo_supply_24 rfl rfl ?_
      obtain ⟨v83, e84, hh⟩ := q_bind hh
      refine r_getR 28 62 jd_Wo_supply_25 rfl e84 rfl ?_
      refine r_iload_n 29 2 jd_Wo_supply_28 rfl rfl ?_
      obtain ⟨v85, e86, hh⟩ := q_bind hh
      refine r_ldI 30 2 jd_Wo_supply_29 rfl e86 rfl ?_
      cases hh
      exact r_iret jd_Wo_supply_30 rfl ⟨rfl, rfl⟩
-- BeanContexts$Workshop.supplyNeed(LBeanContexts$Context;LBeanContexts$Need;I)I
def jf_Wo_supplyNeed_B3 (rc_Wo_supplyNeed : q_S → Nat → Option Nat → Option Nat → Int32 → Option (q_S × Int32)) (rc : q_S → Nat → Option Nat → Int32 → Option Nat → Option (q_S × Int32)) (x : q_S) (l0 : Nat) (l2 : Option Nat) (l3 : Int32) (l4 : Option Nat) : Option (q_S × Int32) :=
  if l4 = none then
    some (x, (-3))
  else
    (q_gR x (some l0) 4 0).bind fun v2 =>
    (q_gR x l4 9 1).bind fun v4 =>
    (q_gI x v4 8 1).bind fun v6 =>
    (q_av x v2 1).bind fun b10 =>
    (jf_Ca_candidates x b10 v6 l2).bind fun p8 =>
    if p8.2 = 0 then
      (q_gR p8.1 l4 9 2).bind fun v13 =>
      rc p8.1 l0 l2 l3 v13
    else
      (q_gR p8.1 (some l0) 4 0).bind fun v15 =>
      (q_av p8.1 l2 7).bind fun b19 =>
      (jf_Ne_name p8.1 b19).bind fun p17 =>
      (q_av p17.1 v15 1).bind fun b23 =>
      (jf_Ca_choose p17.1 b23 p8.2 p17.2).bind fun p21 =>
      if 0 ≤ p21.2 then
        (q_av p21.1 (some l0) 4).bind fun b28 =>
        (jf_Wo_supply rc_Wo_supplyNeed p21.1 b28 l4 p21.2 l3).bind fun p26 =>
        some (p26.1, p26.2)
      else
        some (p21.1, p21.2)
def jf_Wo_supplyNeed_L3 (rc_Wo_supplyNeed : q_S → Nat → Option Nat → Option Nat → Int32 → Option (q_S × Int32)) : Nat → q_S → Nat → Option Nat → Int32 → Option Nat → Option (q_S × Int32)
  | 0, _, _, _, _, _ => none
  | n + 1, x, l0, l2, l3, l4 => jf_Wo_supplyNeed_B3 rc_Wo_supplyNeed (jf_Wo_supplyNeed_L3 rc_Wo_supplyNeed n) x l0 l2 l3 l4
theorem jm_Wo_supplyNeed_B3 {d : Nat} (hd : 7 ≤ d) {rc_Wo_supplyNeed : q_S → Nat → Option Nat → Option Nat → Int32 → Option (q_S × Int32)} (hr_Wo_supplyNeed : ∀ {x : q_S} {a0 : Nat} {a1 : Option Nat} {a2 : Option Nat} {a3 : Int32} {p : q_S × Int32}, rc_Wo_supplyNeed x a0 a1 a2 a3 = some p → q_call d jq_Wo_supplyNeed [va_rf (some a0), va_rf a1, va_rf a2, .int a3] x p.1 (some (.int p.2))) {p : q_S × Int32} {rc : q_S → Nat → Option Nat → Int32 → Option Nat → Option (q_S × Int32)} (hrc : ∀ (x : q_S) (l0 : Nat) (l2 : Option Nat) (l3 : Int32) (l4 : Option Nat), rc x l0 l2 l3 l4 = some p → q_X (q_call (d + 2)) (fun y o => y = p.1 ∧ o = some (.int p.2)) jq_Wo_supplyNeed 3 [(0, va_rf (some l0)), (2, va_rf l2), (3, .int l3), (4, va_rf l4)] [] x) (x : q_S) (l0 : Nat) (l2 : Option Nat) (l3 : Int32) (l4 : Option Nat) (hh : jf_Wo_supplyNeed_B3 rc_Wo_supplyNeed rc x l0 l2 l3 l4 = some p) : q_X (q_call (d + 2)) (fun y o => y = p.1 ∧ o = some (.int p.2)) jq_Wo_supplyNeed 3 [(0, va_rf (some l0)), (2, va_rf l2), (3, .int l3), (4, va_rf l4)] [] x := by
  unfold jf_Wo_supplyNeed_B3 at hh
  refine r_aload 5 3 jd_Wo_supplyNeed_3 rfl rfl ?_
  rcases q_ite hh with ⟨c1, hh⟩ | ⟨c1, hh⟩
  · refine r_ifnull_t 76 jd_Wo_supplyNeed_5 rfl c1 ?_
    refine r_bipush 78 (-3) jd_Wo_supplyNeed_76 (by decide) rfl ?_
    cases hh
    exact r_iret jd_Wo_supplyNeed_78 rfl ⟨rfl, rfl⟩
  · refine r_ifnull_f 8 76 jd_Wo_supplyNeed_5 rfl c1 rfl ?_
    refine r_aload_n 9 0 jd_Wo_supplyNeed_8 rfl rfl ?_
    obtain ⟨v2, e3, hh⟩ := q_bind hh
    refine r_getR 12 16 jd_Wo_supplyNeed_9 rfl e3 rfl ?_
    refine r_aload 14 3 jd_Wo_supplyNeed_12 rfl rfl ?_
    obtain ⟨v4, e5, hh⟩ := q_bind hh
    refine r_getR 17 50 jd_Wo_supplyNeed_14 rfl e5 rfl ?_
    obtain ⟨v6, e7, hh⟩ := q_bind hh
    refine r_getI 20 56 jd_Wo_supplyNeed_17 rfl e7 rfl ?_
    refine r_aload_n 21 1 jd_Wo_supplyNeed_20 rfl rfl ?_
    obtain ⟨b10, e11, hh⟩ := q_bind hh
    obtain ⟨p8, e9, hh⟩ := q_bind hh
    refine r_cV (rest := []) 24 80 1 [.int v6, va_rf l2] [.int p8.2] jd_Wo_supplyNeed_21 rfl e11 rfl rfl rfl rfl (q_s8 (Nat.le_of_ble_eq_true rfl)) (q_call_le (by omega) (jm_Ca_candidates e9)) rfl rfl ?_
    refine r_istore 26 [(5, .int p8.2), (0, va_rf (some l0)), (2, va_rf l2), (3, .int l3), (4, va_rf l4)] jd_Wo_supplyNeed_24 (by decide) rfl rfl ?_
    refine r_iload 28 0 jd_Wo_supplyNeed_26 rfl rfl ?_
    rcases q_ite hh with ⟨c12, hh⟩ | ⟨c12, hh⟩
    · refine r_if_t 66 jd_Wo_supplyNeed_28 rfl c12 ?_
      refine r_aload 68 4 jd_Wo_supplyNeed_66 rfl rfl ?_
      obtain ⟨v13, e14, hh⟩ := q_bind hh
      refine r_getR 71 57 jd_Wo_supplyNeed_68 rfl e14 rfl ?_
      refine r_astore 73 [(4, va_rf v13), (5, .int p8.2), (0, va_rf (some l0)), (2, va_rf l2), (3, .int l3)] jd_Wo_supplyNeed_71 (by decide) rfl rfl ?_
      refine r_goto 3 jd_Wo_supplyNeed_73 rfl ?_
      refine q_sub [2, 3, 4, 0] rfl ?_
      exact hrc _ _ _ _ _ hh
    · refine r_if_f 31 66 jd_Wo_supplyNeed_28 rfl c12 rfl ?_
      refine r_aload_n 32 1 jd_Wo_supplyNeed_31 rfl rfl ?_
      obtain ⟨v15, e16, hh⟩ := q_bind hh
      refine r_getR 35 16 jd_Wo_supplyNeed_32 rfl e16 rfl ?_
      refine r_iload 37 0 jd_Wo_supplyNeed_35 rfl rfl ?_
      refine r_aload_n 38 2 jd_Wo_supplyNeed_37 rfl rfl ?_
      obtain ⟨b19, e20, hh⟩ := q_bind hh
      obtain ⟨p17, e18, hh⟩ := q_bind hh
      refine r_cV (rest := [.int p8.2, va_rf v15]) 41 81 7 [] [.int p17.2, .int p8.2, va_rf v15] jd_Wo_supplyNeed_38 rfl e20 rfl rfl rfl rfl (q_s8 (Nat.le_of_ble_eq_true rfl)) (q_call_le (by omega) (jm_Ne_name e18)) rfl rfl ?_
      obtain ⟨b23, e24, hh⟩ := q_bind hh
      obtain ⟨p21, e22, hh⟩ := q_bind hh
      refine r_cV (rest := []) 44 82 1 [.int p8.2, .int p17.2] [.int p21.2] jd_Wo_supplyNeed_41 rfl e24 rfl rfl rfl rfl (q_s8 (Nat.le_of_ble_eq_true rfl)) (q_call_le (by omega) (jm_Ca_choose e22)) rfl rfl ?_
      refine r_istore 46 [(6, .int p21.2), (5, .int p8.2), (0, va_rf (some l0)), (2, va_rf l2), (3, .int l3), (4, va_rf l4)] jd_Wo_supplyNeed_44 (by decide) rfl rfl ?_
      refine r_iload 48 0 jd_Wo_supplyNeed_46 rfl rfl ?_
      rcases q_ite hh with ⟨c25, hh⟩ | ⟨c25, hh⟩
      · refine r_if_t 56 jd_Wo_supplyNeed_48 rfl c25 ?_
        refine r_aload_n 57 2 jd_Wo_supplyNeed_56 rfl rfl ?_
        refine r_aload 59 5 jd_Wo_supplyNeed_57 rfl rfl ?_
        refine r_iload 61 0 jd_Wo_supplyNeed_59 rfl rfl ?_
        refine r_iload_n 62 4 jd_Wo_supplyNeed_61 rfl rfl ?_
        obtain ⟨b28, e29, hh⟩ := q_bind hh
        obtain ⟨p26, e27, hh⟩ := q_bind hh
        refine r_cV (rest := []) 65 83 4 [va_rf l4, .int p21.2, .int l3] [.int p26.2] jd_Wo_supplyNeed_62 rfl e29 rfl rfl rfl rfl (q_s8 (Nat.le_of_ble_eq_true rfl)) (q_call_le (by omega) (jm_Wo_supply hd hr_Wo_supplyNeed e27)) rfl rfl ?_
        cases hh
        exact r_iret jd_Wo_supplyNeed_65 rfl ⟨rfl, rfl⟩
      · refine r_if_f 51 56 jd_Wo_supplyNeed_48 rfl c25 rfl ?_
        refine r_iload 53 0 jd_Wo_supplyNeed_51 rfl rfl ?_
        refine r_goto 65 jd_Wo_supplyNeed_53 rfl ?_
        cases hh
        exact r_iret jd_Wo_supplyNeed_65 rfl ⟨rfl, rfl⟩
theorem jm_Wo_supplyNeed_L3 {d : Nat} (hd : 7 ≤ d) {rc_Wo_supplyNeed : q_S → Nat → Option Nat → Option Nat → Int32 → Option (q_S × Int32)} (hr_Wo_supplyNeed : ∀ {x : q_S} {a0 : Nat} {a1 : Option Nat} {a2 : Option Nat} {a3 : Int32} {p : q_S × Int32}, rc_Wo_supplyNeed x a0 a1 a2 a3 = some p → q_call d jq_Wo_supplyNeed [va_rf (some a0), va_rf a1, va_rf a2, .int a3] x p.1 (some (.int p.2))) {p : q_S × Int32} : ∀ (n : Nat) (x : q_S) (l0 : Nat) (l2 : Option Nat) (l3 : Int32) (l4 : Option Nat), jf_Wo_supplyNeed_L3 rc_Wo_supplyNeed n x l0 l2 l3 l4 = some p → q_X (q_call (d + 2)) (fun y o => y = p.1 ∧ o = some (.int p.2)) jq_Wo_supplyNeed 3 [(0, va_rf (some l0)), (2, va_rf l2), (3, .int l3), (4, va_rf l4)] [] x
  | 0, _, _, _, _, _, hh => nomatch hh
  | n + 1, x, l0, l2, l3, l4, hh => jm_Wo_supplyNeed_B3 hd hr_Wo_supplyNeed (jm_Wo_supplyNeed_L3 hd hr_Wo_supplyNeed n) x l0 l2 l3 l4 hh
def jf_Wo_supplyNeed (rc_Wo_supplyNeed : q_S → Nat → Option Nat → Option Nat → Int32 → Option (q_S × Int32)) (x : q_S) (a0 : Nat) (a1 : Option Nat) (a2 : Option Nat) (a3 : Int32) : Option (q_S × Int32) :=
  jf_Wo_supplyNeed_L3 rc_Wo_supplyNeed lpK x a0 a2 a3 a1
theorem jm_Wo_supplyNeed {d : Nat} (hd : 7 ≤ d) {rc_Wo_supplyNeed : q_S → Nat → Option Nat → Option Nat → Int32 → Option (q_S × Int32)} (hr_Wo_supplyNeed : ∀ {x : q_S} {a0 : Nat} {a1 : Option Nat} {a2 : Option Nat} {a3 : Int32} {p : q_S × Int32}, rc_Wo_supplyNeed x a0 a1 a2 a3 = some p → q_call d jq_Wo_supplyNeed [va_rf (some a0), va_rf a1, va_rf a2, .int a3] x p.1 (some (.int p.2))) {x : q_S} {a0 : Nat} {a1 : Option Nat} {a2 : Option Nat} {a3 : Int32} {p : q_S × Int32} (hh : jf_Wo_supplyNeed rc_Wo_supplyNeed x a0 a1 a2 a3 = some p) : q_call (d + 3) jq_Wo_supplyNeed [va_rf (some a0), va_rf a1, va_rf a2, .int a3] x p.1 (some (.int p.2)) := by
  unfold jf_Wo_supplyNeed at hh
  refine ⟨List.mem_of_getElem? (i := 66) rfl, Nat.le_of_ble_eq_true rfl, List.forall_mem_cons.mpr ⟨rfl, List.forall_mem_cons.mpr ⟨q_cat _, List.forall_mem_cons.mpr ⟨q_cat _, List.forall_mem_cons.mpr ⟨rfl, fun _ h => by cases h⟩⟩⟩⟩, ?_⟩
  show q_X (q_call (d + 2)) _ jq_Wo_supplyNeed 0 [(0, va_rf (some a0)), (1, va_rf a1), (2, va_rf a2), (3, .int a3)] [] x
  refine r_aload_n 1 1 jd_Wo_supplyNeed_0 rfl rfl ?_
  refine r_astore 3 [(4, va_rf a1), (0, va_rf (some a0)), (1, va_rf a1), (2, va_rf a2), (3, .int a3)] jd_Wo_supplyNeed_1 (by decide) rfl rfl ?_
  refine q_sub [1, 3, 4, 0] rfl ?_
  exact jm_Wo_supplyNeed_L3 hd hr_Wo_supplyNeed lpK _ _ _ _ _ hh
def jg_Wo_supplyNeed : Nat → q_S → Nat → Option Nat → Option Nat → Int32 → Option (q_S × Int32)
  | 0, _, _, _, _, _ => none
  | n + 1, x, a0, a1, a2, a3 => jf_Wo_supplyNeed (jg_Wo_supplyNeed n) x a0 a1 a2 a3
theorem jn_Wo_supplyNeed : ∀ (n : Nat), ∀ {x : q_S} {a0 : Nat} {a1 : Option Nat} {a2 : Option Nat} {a3 : Int32} {p : q_S × Int32}, jg_Wo_supplyNeed n x a0 a1 a2 a3 = some p → q_call (7 + 3 * n) jq_Wo_supplyNeed [va_rf (some a0), va_rf a1, va_rf a2, .int a3] x p.1 (some (.int p.2)) := by
  intro n
  induction n with
  | zero => intro x a0 a1 a2 a3 p hh; exact nomatch hh
  | succ n ih => intro x a0 a1 a2 a3 p hh; exact q_call_le (by omega) (jm_Wo_supplyNeed (d := 7 + 3 * n) (Nat.le_add_right _ _) ih hh)
-- BeanContexts.get(IIII)I
def jf_Bc_get (x : q_S) (a0 : Nat) (a1 : Int32) (a2 : Int32) (a3 : Int32) (a4 : Int32) : Option (q_S × Int32) :=
  (jf_Bc_isType x a2).bind fun p1 =>
  if p1.2 = 0 then
    some (p1.1, (-1))
  else
    (jf_Bc_isQualifier p1.1 a3).bind fun p4 =>
    if p4.2 = 0 then
      some (p4.1, (-1))
    else
      (jf_Bc_isName p4.1 a4).bind fun p7 =>
      if p7.2 = 0 then
        some (p7.1, (-1))
      else
        (q_av p7.1 (some a0) 0).bind fun b12 =>
        (jf_Bc_contextOf p7.1 b12 a1).bind fun p10 =>
        if p10.2 = none then
          some (p10.1, (-1))
        else
          (q_gR p10.1 (some a0) 0 3).bind fun v15 =>
          (q_nO p10.1 7 jdv_7).bind fun x17 =>
          (jf_Ne_init x17 (q_sz p10.1) a2 a3 a4).bind fun p19 =>
          (q_av p19.1 v15 4).bind fun b23 =>
          (jg_Wo_supplyNeed 40 p19.1 b23 p10.2 (some (q_sz p10.1)) 0).bind fun p21 =>
          some (p21.1, p21.2)
theorem jm_Bc_get {x : q_S} {a0 : Nat} {a1 : Int32} {a2 : Int32} {a3 : Int32} {a4 : Int32} {p : q_S × Int32} (hh : jf_Bc_get x a0 a1 a2 a3 a4 = some p) : q_call 128 jq_Bc_get [va_rf (some a0), .int a1, .int a2, .int a3, .int a4] x p.1 (some (.int p.2)) := by
  unfold jf_Bc_get at hh
  refine ⟨List.mem_of_getElem? (i := 62) rfl, Nat.le_of_ble_eq_true rfl, List.forall_mem_cons.mpr ⟨rfl, List.forall_mem_cons.mpr ⟨rfl, List.forall_mem_cons.mpr ⟨rfl, List.forall_mem_cons.mpr ⟨rfl, List.forall_mem_cons.mpr ⟨rfl, fun _ h => by cases h⟩⟩⟩⟩⟩, ?_⟩
  show q_X (q_call 127) _ jq_Bc_get 0 [(0, va_rf (some a0)), (1, .int a1), (2, .int a2), (3, .int a3), (4, .int a4)] [] x
  refine r_iload_n 1 2 jd_Bc_get_0 rfl rfl ?_
  obtain ⟨p1, e2, hh⟩ := q_bind hh
  refine r_cS (rest := []) 4 11 [.int a2] [.int p1.2] jd_Bc_get_1 rfl rfl rfl (q_s8 (Nat.le_of_ble_eq_true rfl)) (q_call_le (Nat.le_of_ble_eq_true rfl) (jm_Bc_isType e2)) rfl rfl ?_
  rcases q_ite hh with ⟨c3, hh⟩ | ⟨c3, hh⟩
  · refine r_if_t 22 jd_Bc_get_4 rfl c3 ?_
    refine r_iconst 23 (-1) jd_Bc_get_22 (by decide) rfl ?_
    cases hh
    exact r_iret jd_Bc_get_23 rfl ⟨rfl, rfl⟩
  · refine r_if_f 7 22 jd_Bc_get_4 rfl c3 rfl ?_
    refine r_iload_n 8 3 jd_Bc_get_7 rfl rfl ?_
    obtain ⟨p4, e5, hh⟩ := q_bind hh
    refine r_cS (rest := []) 11 12 [.int a3] [.int p4.2] jd_Bc_get_8 rfl rfl rfl (q_s8 (Nat.le_of_ble_eq_true rfl)) (q_call_le (Nat.le_of_ble_eq_true rfl) (jm_Bc_isQualifier e5)) rfl rfl ?_
    rcases q_ite hh with ⟨c6, hh⟩ | ⟨c6, hh⟩
    · refine r_if_t 22 jd_Bc_get_11 rfl c6 ?_
      refine r_iconst 23 (-1) jd_Bc_get_22 (by decide) rfl ?_
      cases hh
      exact r_iret jd_Bc_get_23 rfl ⟨rfl, rfl⟩
    · refine r_if_f 14 22 jd_Bc_get_11 rfl c6 rfl ?_
      refine r_iload 16 4 jd_Bc_get_14 rfl rfl ?_
      obtain ⟨p7, e8, hh⟩ := q_bind hh
      refine r_cS (rest := []) 19 16 [.int a4] [.int p7.2] jd_Bc_get_16 rfl rfl rfl (q_s8 (Nat.le_of_ble_eq_true rfl)) (q_call_le (Nat.le_of_ble_eq_true rfl) (jm_Bc_isName e8)) rfl rfl ?_
      rcases q_ite hh with ⟨c9, hh⟩ | ⟨c9, hh⟩
      · refine r_if_f 22 24 jd_Bc_get_19 rfl (fun z => z c9) rfl ?_
        refine r_iconst 23 (-1) jd_Bc_get_22 (by decide) rfl ?_
        cases hh
        exact r_iret jd_Bc_get_23 rfl ⟨rfl, rfl⟩
      · refine r_if_t 24 jd_Bc_get_19 rfl c9 ?_
        refine r_aload_n 25 0 jd_Bc_get_24 rfl rfl ?_
        refine r_iload_n 26 1 jd_Bc_get_25 rfl rfl ?_
        obtain ⟨b12, e13, hh⟩ := q_bind hh
        obtain ⟨p10, e11, hh⟩ := q_bind hh
        refine r_cV (rest := []) 29 64 0 [.int a1] [va_rf p10.2] jd_Bc_get_26 rfl e13 rfl rfl rfl rfl (q_s8 (Nat.le_of_ble_eq_true rfl)) (q_call_le (Nat.le_of_ble_eq_true rfl) (jm_Bc_contextOf e11)) rfl rfl ?_
        refine r_astore 31 [(5, va_rf p10.2), (0, va_rf (some a0)), (1, .int a1), (2, .int a2), (3, .int a3), (4, .int a4)] jd_Bc_get_29 (by decide) rfl rfl ?_
        refine r_aload 33 0 jd_Bc_get_31 rfl rfl ?_
        rcases q_ite hh with ⟨c14, hh⟩ | ⟨c14, hh⟩
        · refine r_ifnonnull_f 36 40 jd_Bc_get_33 rfl c14 rfl ?_
          refine r_iconst 37 (-1) jd_Bc_get_36 (by decide) rfl ?_
          refine r_goto 61 jd_Bc_get_37 rfl ?_
          cases hh
          exact r_iret jd_Bc_get_61 rfl ⟨rfl, rfl⟩
        · refine r_ifnonnull_t 40 jd_Bc_get_33 rfl c14 ?_
          refine r_aload_n 41 1 jd_Bc_get_40 rfl rfl ?_
          obtain ⟨v15, e16, hh⟩ := q_bind hh
          refine r_getR 44 3 jd_Bc_get_41 rfl e16 rfl ?_
          refine r_aload 46 0 jd_Bc_get_44 rfl rfl ?_
          obtain ⟨x17, e18, hh⟩ := q_bind hh
          refine r_new 49 13 jd_Bc_get_46 rfl e18 rfl ?_
          refine r_dupR 50 jd_Bc_get_49 rfl ?_
          refine r_iload_n 51 3 jd_Bc_get_50 rfl rfl ?_
          refine r_iload_n 52 4 jd_Bc_get_51 rfl rfl ?_
          refine r_iload 54 5 jd_Bc_get_52 rfl rfl ?_
          obtain ⟨p19, e20, hh⟩ := q_bind hh
          refine r_cI (rest := [va_rf (some (q_sz p10.1)), va_rf p10.2, va_rf v15]) 57 15 [.int a2, .int a3, .int a4] [va_rf (some (q_sz p10.1)), va_rf p10.2, va_rf v15] jd_Bc_get_54 rfl rfl rfl (q_s8 (Nat.le_of_ble_eq_true rfl)) (q_call_le (Nat.le_of_ble_eq_true rfl) (jm_Ne_init e20)) rfl rfl ?_
          refine r_iconst 58 0 jd_Bc_get_57 (by decide) rfl ?_
          obtain ⟨b23, e24, hh⟩ := q_bind hh
          obtain ⟨p21, e22, hh⟩ := q_bind hh
          refine r_cV (rest := []) 61 79 4 [va_rf p10.2, va_rf (some (q_sz p10.1)), .int 0] [.int p21.2] jd_Bc_get_58 rfl e24 rfl rfl rfl rfl (q_s8 (Nat.le_of_ble_eq_true rfl)) (q_call_le (Nat.le_of_ble_eq_true rfl) (jn_Wo_supplyNeed 40 e22)) rfl rfl ?_
          cases hh
          exact r_iret jd_Bc_get_61 rfl ⟨rfl, rfl⟩
-- BeanContexts.key(I)I
def jf_Bc_key (x : q_S) (a0 : Nat) (a1 : Int32) : Option (q_S × Int32) :=
  (q_av x (some a0) 0).bind fun b3 =>
  (jf_Bc_isConfiguration x b3 a1).bind fun p1 =>
  if p1.2 = 0 then
    some (p1.1, (-1))
  else
    (q_gR p1.1 (some a0) 0 1).bind fun v6 =>
    (q_av p1.1 v6 2).bind fun b10 =>
    (jf_AL_get p1.1 b10 a1).bind fun p8 =>
    (q_ck p8.1 p8.2 8).bind fun u13 =>
    (q_gI p8.1 p8.2 8 0).bind fun v14 =>
    some (p8.1, v14)
theorem jm_Bc_key {x : q_S} {a0 : Nat} {a1 : Int32} {p : q_S × Int32} (hh : jf_Bc_key x a0 a1 = some p) : q_call 4 jq_Bc_key [va_rf (some a0), .int a1] x p.1 (some (.int p.2)) := by
  unfold jf_Bc_key at hh
  refine ⟨List.mem_of_getElem? (i := 79) rfl, Nat.le_of_ble_eq_true rfl, List.forall_mem_cons.mpr ⟨rfl, List.forall_mem_cons.mpr ⟨rfl, fun _ h => by cases h⟩⟩, ?_⟩
  show q_X (q_call 3) _ jq_Bc_key 0 [(0, va_rf (some a0)), (1, .int a1)] [] x
  refine r_aload_n 1 0 jd_Bc_key_0 rfl rfl ?_
  refine r_iload_n 2 1 jd_Bc_key_1 rfl rfl ?_
  obtain ⟨b3, e4, hh⟩ := q_bind hh
  obtain ⟨p1, e2, hh⟩ := q_bind hh
  refine r_cV (rest := []) 5 52 0 [.int a1] [.int p1.2] jd_Bc_key_2 rfl e4 rfl rfl rfl rfl (q_s8 (Nat.le_of_ble_eq_true rfl)) (q_call_le (Nat.le_of_ble_eq_true rfl) (jm_Bc_isConfiguration e2)) rfl rfl ?_
  rcases q_ite hh with ⟨c5, hh⟩ | ⟨c5, hh⟩
  · refine r_if_t 25 jd_Bc_key_5 rfl c5 ?_
    refine r_iconst 26 (-1) jd_Bc_key_25 (by decide) rfl ?_
    cases hh
    exact r_iret jd_Bc_key_26 rfl ⟨rfl, rfl⟩
  · refine r_if_f 8 25 jd_Bc_key_5 rfl c5 rfl ?_
    refine r_aload_n 9 0 jd_Bc_key_8 rfl rfl ?_
    obtain ⟨v6, e7, hh⟩ := q_bind hh
    refine r_getR 12 1 jd_Bc_key_9 rfl e7 rfl ?_
    refine r_iload_n 13 1 jd_Bc_key_12 rfl rfl ?_
    obtain ⟨b10, e11, hh⟩ := q_bind hh
    obtain ⟨p8, e9, hh⟩ := q_bind hh
    refine r_cV (rest := []) 16 48 2 [.int a1] [va_rf p8.2] jd_Bc_key_13 rfl e11 rfl rfl rfl rfl (q_s8 (Nat.le_of_ble_eq_true rfl)) (q_call_le (Nat.le_of_ble_eq_true rfl) (jm_AL_get e9)) rfl rfl ?_
    obtain ⟨u13, e12, hh⟩ := q_bind hh
    refine r_cast 19 2 8 jd_Bc_key_16 rfl rfl e12 rfl ?_
    obtain ⟨v14, e15, hh⟩ := q_bind hh
    refine r_getI 22 69 jd_Bc_key_19 rfl e15 rfl ?_
    refine r_goto 26 jd_Bc_key_22 rfl ?_
    cases hh
    exact r_iret jd_Bc_key_26 rfl ⟨rfl, rfl⟩
-- BeanContexts$Definition.addNeed(LBeanContexts$Need;)Z
def jf_De_addNeed (x : q_S) (a0 : Nat) (a1 : Option Nat) : Option (q_S × Int32) :=
  (q_gR x (some a0) 6 4).bind fun v1 =>
  (q_av x v1 2).bind fun b5 =>
  (jf_AL_size x b5).bind fun p3 =>
  if p3.2 < 3 then
    (q_gR p3.1 (some a0) 6 4).bind fun v8 =>
    (q_av p3.1 v8 2).bind fun b12 =>
    (jf_AL_add p3.1 b12 a1).bind fun p10 =>
    some (p10.1, 1)
  else
    some (p3.1, 0)
theorem jm_De_addNeed {x : q_S} {a0 : Nat} {a1 : Option Nat} {p : q_S × Int32} (hh : jf_De_addNeed x a0 a1 = some p) : q_call 7 jq_De_addNeed [va_rf (some a0), va_rf a1] x p.1 (some (.int p.2)) := by
  unfold jf_De_addNeed at hh
  refine ⟨List.mem_of_getElem? (i := 81) rfl, Nat.le_of_ble_eq_true rfl, List.forall_mem_cons.mpr ⟨rfl, List.forall_mem_cons.mpr ⟨q_cat _, fun _ h => by cases h⟩⟩, ?_⟩
  show q_X (q_call 6) _ jq_De_addNeed 0 [(0, va_rf (some a0)), (1, va_rf a1)] [] x
  refine r_aload_n 1 0 jd_De_addNeed_0 rfl rfl ?_
  obtain ⟨v1, e2, hh⟩ := q_bind hh
  refine r_getR 4 40 jd_De_addNeed_1 rfl e2 rfl ?_
  obtain ⟨b5, e6, hh⟩ := q_bind hh
  obtain ⟨p3, e4, hh⟩ := q_bind hh
  refine r_cV (rest := []) 7 94 2 [] [.int p3.2] jd_De_addNeed_4 rfl e6 rfl rfl rfl rfl (q_s8 (Nat.le_of_ble_eq_true rfl)) (q_call_le (Nat.le_of_ble_eq_true rfl) (jm_AL_size e4)) rfl rfl ?_
  refine r_iconst 8 3 jd_De_addNeed_7 (by decide) rfl ?_
  rcases q_ite hh with ⟨c7, hh⟩ | ⟨c7, hh⟩
  · refine r_ic_t 13 jd_De_addNeed_8 rfl c7 ?_
    refine r_aload_n 14 0 jd_De_addNeed_13 rfl rfl ?_
    obtain ⟨v8, e9, hh⟩ := q_bind hh
    refine r_getR 17 40 jd_De_addNeed_14 rfl e9 rfl ?_
    refine r_aload_n 18 1 jd_De_addNeed_17 rfl rfl ?_
    obtain ⟨b12, e13, hh⟩ := q_bind hh
    obtain ⟨p10, e11, hh⟩ := q_bind hh
    refine r_cV (rest := []) 21 95 2 [va_rf a1] [.int p10.2] jd_De_addNeed_18 rfl e13 rfl rfl rfl rfl (q_s8 (Nat.le_of_ble_eq_true rfl)) (q_call_le (Nat.le_of_ble_eq_true rfl) (jm_AL_add e11)) rfl rfl ?_
    refine r_popI 22 jd_De_addNeed_21 rfl ?_
    refine r_iconst 23 1 jd_De_addNeed_22 (by decide) rfl ?_
    cases hh
    exact r_zret jd_De_addNeed_23 rfl (by decide) ⟨rfl, rfl⟩
  · refine r_ic_f 11 13 jd_De_addNeed_8 rfl c7 rfl ?_
    refine r_iconst 12 0 jd_De_addNeed_11 (by decide) rfl ?_
    cases hh
    exact r_zret jd_De_addNeed_12 rfl (by decide) ⟨rfl, rfl⟩
-- BeanContexts.need(IIII)Z
def jf_Bc_need (x : q_S) (a0 : Nat) (a1 : Int32) (a2 : Int32) (a3 : Int32) (a4 : Int32) : Option (q_S × Int32) :=
  (q_gR x (some a0) 0 1).bind fun v1 =>
  (q_av x v1 2).bind fun b5 =>
  (jf_AL_isEmpty x b5).bind fun p3 =>
  if p3.2 = 0 then
    some (p3.1, 0)
  else
    (q_gR p3.1 (some a0) 0 0).bind fun v8 =>
    (q_av p3.1 v8 1).bind fun b12 =>
    (jf_Ca_size p3.1 b12).bind fun p10 =>
    (jf_Bc_isBelow p10.1 a1 p10.2).bind fun p14 =>
    if p14.2 = 0 then
      some (p14.1, 0)
    else
      (jf_Bc_isType p14.1 a2).bind fun p17 =>
      if p17.2 = 0 then
        some (p17.1, 0)
      else
        (jf_Bc_isQualifier p17.1 a3).bind fun p20 =>
        if p20.2 = 0 then
          some (p20.1, 0)
        else
          (jf_Bc_isName p20.1 a4).bind fun p23 =>
          if p23.2 = 0 then
            some (p23.1, 0)
          else
            (q_gR p23.1 (some a0) 0 0).bind fun v26 =>
            (q_av p23.1 v26 1).bind fun b30 =>
            (jf_Ca_at p23.1 b30 a1).bind fun p28 =>
            (q_nO p28.1 7 jdv_7).bind fun x32 =>
            (jf_Ne_init x32 (q_sz p28.1) a2 a3 a4).bind fun p34 =>
            (q_av p34.1 p28.2 6).bind fun b38 =>
            (jf_De_addNeed p34.1 b38 (some (q_sz p28.1))).bind fun p36 =>
            if p36.2 &&& 1 = p36.2 then some (p36.1, p36.2) else none
theorem jm_Bc_need {x : q_S} {a0 : Nat} {a1 : Int32} {a2 : Int32} {a3 : Int32} {a4 : Int32} {p : q_S × Int32} (hh : jf_Bc_need x a0 a1 a2 a3 a4 = some p) : q_call 8 jq_Bc_need [va_rf (some a0), .int a1, .int a2, .int a3, .int a4] x p.1 (some (.int p.2)) := by
  unfold jf_Bc_need at hh
  refine ⟨List.mem_of_getElem? (i := 80) rfl, Nat.le_of_ble_eq_true rfl, List.forall_mem_cons.mpr ⟨rfl, List.forall_mem_cons.mpr ⟨rfl, List.forall_mem_cons.mpr ⟨rfl, List.forall_mem_cons.mpr ⟨rfl, List.forall_mem_cons.mpr ⟨rfl, fun _ h => by cases h⟩⟩⟩⟩⟩, ?_⟩
  show q_X (q_call 7) _ jq_Bc_need 0 [(0, va_rf (some a0)), (1, .int a1), (2, .int a2), (3, .int a3), (4, .int a4)] [] x
  refine r_aload_n 1 0 jd_Bc_need_0 rfl rfl ?_
  obtain ⟨v1, e2, hh⟩ := q_bind hh
  refine r_getR 4 1 jd_Bc_need_1 rfl e2 rfl ?_
  obtain ⟨b5, e6, hh⟩ := q_bind hh
  obtain ⟨p3, e4, hh⟩ := q_bind hh
  refine r_cV (rest := []) 7 60 2 [] [.int p3.2] jd_Bc_need_4 rfl e6 rfl rfl rfl rfl (q_s8 (Nat.le_of_ble_eq_true rfl)) (q_call_le (Nat.le_of_ble_eq_true rfl) (jm_AL_isEmpty e4)) rfl rfl ?_
  rcases q_ite hh with ⟨c7, hh⟩ | ⟨c7, hh⟩
  · refine r_if_t 24 jd_Bc_need_7 rfl c7 ?_
    refine r_iconst 25 0 jd_Bc_need_24 (by decide) rfl ?_
    cases hh
    exact r_zret jd_Bc_need_25 rfl (by decide) ⟨rfl, rfl⟩
  · refine r_if_f 10 24 jd_Bc_need_7 rfl c7 rfl ?_
    refine r_iload_n 11 1 jd_Bc_need_10 rfl rfl ?_
    refine r_aload_n 12 0 jd_Bc_need_11 rfl rfl ?_
    obtain ⟨v8, e9, hh⟩ := q_bind hh
    refine r_getR 15 0 jd_Bc_need_12 rfl e9 rfl ?_
    obtain ⟨b12, e13, hh⟩ := q_bind hh
    obtain ⟨p10, e11, hh⟩ := q_bind hh
    refine r_cV (rest := [.int a1]) 18 61 1 [] [.int p10.2, .int a1] jd_Bc_need_15 rfl e13 rfl rfl rfl rfl (q_s8 (Nat.le_of_ble_eq_true rfl)) (q_call_le (Nat.le_of_ble_eq_true rfl) (jm_Ca_size e11)) rfl rfl ?_
    obtain ⟨p14, e15, hh⟩ := q_bind hh
    refine r_cS (rest := []) 21 6 [.int a1, .int p10.2] [.int p14.2] jd_Bc_need_18 rfl rfl rfl (q_s8 (Nat.le_of_ble_eq_true rfl)) (q_call_le (Nat.le_of_ble_eq_true rfl) (jm_Bc_isBelow e15)) rfl rfl ?_
    rcases q_ite hh with ⟨c16, hh⟩ | ⟨c16, hh⟩
    · refine r_if_f 24 26 jd_Bc_need_21 rfl (fun z => z c16) rfl ?_
      refine r_iconst 25 0 jd_Bc_need_24 (by decide) rfl ?_
      cases hh
      exact r_zret jd_Bc_need_25 rfl (by decide) ⟨rfl, rfl⟩
    · refine r_if_t 26 jd_Bc_need_21 rfl c16 ?_
      refine r_iload_n 27 2 jd_Bc_need_26 rfl rfl ?_
      obtain ⟨p17, e18, hh⟩ := q_bind hh
      refine r_cS (rest := []) 30 11 [.int a2] [.int p17.2] jd_Bc_need_27 rfl rfl rfl (q_s8 (Nat.le_of_ble_eq_true rfl)) (q_call_le (Nat.le_of_ble_eq_true rfl) (jm_Bc_isType e18)) rfl rfl ?_
      rcases q_ite hh with ⟨c19, hh⟩ | ⟨c19, hh⟩
      · refine r_if_t 48 jd_Bc_need_30 rfl c19 ?_
        refine r_iconst 49 0 jd_Bc_need_48 (by decide) rfl ?_
        cases hh
        exact r_zret jd_Bc_need_49 rfl (by decide) ⟨rfl, rfl⟩
      · refine r_if_f 33 48 jd_Bc_need_30 rfl c19 rfl ?_
        refine r_iload_n 34 3 jd_Bc_need_33 rfl rfl ?_
        obtain ⟨p20, e21, hh⟩ := q_bind hh
        refine r_cS (rest := []) 37 12 [.int a3] [.int p20.2] jd_Bc_need_34 rfl rfl rfl (q_s8 (Nat.le_of_ble_eq_true rfl)) (q_call_le (Nat.le_of_ble_eq_true rfl) (jm_Bc_isQualifier e21)) rfl rfl ?_
        rcases q_ite hh with ⟨c22, hh⟩ | ⟨c22, hh⟩
        · refine r_if_t 48 jd_Bc_need_37 rfl c22 ?_
          refine r_iconst 49 0 jd_Bc_need_48 (by decide) rfl ?_
          cases hh
          exact r_zret jd_Bc_need_49 rfl (by decide) ⟨rfl, rfl⟩
        · refine r_if_f 40 48 jd_Bc_need_37 rfl c22 rfl ?_
          refine r_iload 42 4 jd_Bc_need_40 rfl rfl ?_
          obtain ⟨p23, e24, hh⟩ := q_bind hh
          refine r_cS (rest := []) 45 16 [.int a4] [.int p23.2] jd_Bc_need_42 rfl rfl rfl (q_s8 (Nat.le_of_ble_eq_true rfl)) (q_call_le (Nat.le_of_ble_eq_true rfl) (jm_Bc_isName e24)) rfl rfl ?_
          rcases q_ite hh with ⟨c25, hh⟩ | ⟨c25, hh⟩
          · refine r_if_f 48 50 jd_Bc_need_45 rfl (fun z => z c25) rfl ?_
            refine r_iconst 49 0 jd_Bc_need_48 (by decide) rfl ?_
            cases hh
            exact r_zret jd_Bc_need_49 rfl (by decide) ⟨rfl, rfl⟩
          · refine r_if_t 50 jd_Bc_need_45 rfl c25 ?_
            refine r_aload_n 51 0 jd_Bc_need_50 rfl rfl ?_
            obtain ⟨v26, e27, hh⟩ := q_bind hh
            refine r_getR 54 0 jd_Bc_need_51 rfl e27 rfl ?_
            refine r_iload_n 55 1 jd_Bc_need_54 rfl rfl ?_
            obtain ⟨b30, e31, hh⟩ := q_bind hh
            obtain ⟨p28, e29, hh⟩ := q_bind hh
            refine r_cV (rest := []) 58 92 1 [.int a1] [va_rf p28.2] jd_Bc_need_55 rfl e31 rfl rfl rfl rfl (q_s8 (Nat.le_of_ble_eq_true rfl)) (q_call_le (Nat.le_of_ble_eq_true rfl) (jm_Ca_at e29)) rfl rfl ?_
            obtain ⟨x32, e33, hh⟩ := q_bind hh
            refine r_new 61 13 jd_Bc_need_58 rfl e33 rfl ?_
            refine r_dupR 62 jd_Bc_need_61 rfl ?_
            refine r_iload_n 63 2 jd_Bc_need_62 rfl rfl ?_
            refine r_iload_n 64 3 jd_Bc_need_63 rfl rfl ?_
            refine r_iload 66 4 jd_Bc_need_64 rfl rfl ?_
            obtain ⟨p34, e35, hh⟩ := q_bind hh
            refine r_cI (rest := [va_rf (some (q_sz p28.1)), va_rf p28.2]) 69 15 [.int a2, .int a3, .int a4] [va_rf (some (q_sz p28.1)), va_rf p28.2] jd_Bc_need_66 rfl rfl rfl (q_s8 (Nat.le_of_ble_eq_true rfl)) (q_call_le (Nat.le_of_ble_eq_true rfl) (jm_Ne_init e35)) rfl rfl ?_
            obtain ⟨b38, e39, hh⟩ := q_bind hh
            obtain ⟨p36, e37, hh⟩ := q_bind hh
            refine r_cV (rest := []) 72 93 6 [va_rf (some (q_sz p28.1))] [.int p36.2] jd_Bc_need_69 rfl e39 rfl rfl rfl rfl (q_s8 (Nat.le_of_ble_eq_true rfl)) (q_call_le (Nat.le_of_ble_eq_true rfl) (jm_De_addNeed e37)) rfl rfl ?_
            rcases q_ite hh with ⟨c40, hh⟩ | ⟨-, hh⟩
            · cases hh
              exact r_zret jd_Bc_need_72 rfl c40 ⟨rfl, rfl⟩
            · cases hh
-- BeanContexts$Workshop.liveMock(I)LBeanContexts$Bean;
def jf_Wo_liveMock (x : q_S) (a0 : Nat) (a1 : Int32) : Option (q_S × Option Nat) :=
  (q_av x (some a0) 4).bind fun b3 =>
  (jf_Wo_liveBean x b3 a1).bind fun p1 =>
  if p1.2 = none then
    some (p1.1, none)
  else
    (q_gI p1.1 p1.2 10 2).bind fun v6 =>
    if v6 = 0 then
      some (p1.1, none)
    else
      some (p1.1, p1.2)
theorem jm_Wo_liveMock {x : q_S} {a0 : Nat} {a1 : Int32} {p : q_S × Option Nat} (hh : jf_Wo_liveMock x a0 a1 = some p) : q_call 5 jq_Wo_liveMock [va_rf (some a0), .int a1] x p.1 (some (va_rf p.2)) := by
  unfold jf_Wo_liveMock at hh
  refine ⟨List.mem_of_getElem? (i := 83) rfl, Nat.le_of_ble_eq_true rfl, List.forall_mem_cons.mpr ⟨rfl, List.forall_mem_cons.mpr ⟨rfl, fun _ h => by cases h⟩⟩, ?_⟩
  show q_X (q_call 4) _ jq_Wo_liveMock 0 [(0, va_rf (some a0)), (1, .int a1)] [] x
  refine r_aload_n 1 0 jd_Wo_liveMock_0 rfl rfl ?_
  refine r_iload_n 2 1 jd_Wo_liveMock_1 rfl rfl ?_
  obtain ⟨b3, e4, hh⟩ := q_bind hh
  obtain ⟨p1, e2, hh⟩ := q_bind hh
  refine r_cV (rest := []) 5 97 4 [.int a1] [va_rf p1.2] jd_Wo_liveMock_2 rfl e4 rfl rfl rfl rfl (q_s8 (Nat.le_of_ble_eq_true rfl)) (q_call_le (Nat.le_of_ble_eq_true rfl) (jm_Wo_liveBean e2)) rfl rfl ?_
  refine r_astore_n 6 [(2, va_rf p1.2), (0, va_rf (some a0)), (1, .int a1)] jd_Wo_liveMock_5 (by decide) rfl rfl ?_
  refine r_aload_n 7 0 jd_Wo_liveMock_6 rfl rfl ?_
  rcases q_ite hh with ⟨c5, hh⟩ | ⟨c5, hh⟩
  · refine r_ifnull_t 21 jd_Wo_liveMock_7 rfl c5 ?_
    refine r_null 22 jd_Wo_liveMock_21 rfl ?_
    cases hh
    exact r_aretO jd_Wo_liveMock_22 rfl ⟨rfl, rfl⟩
  · refine r_ifnull_f 10 21 jd_Wo_liveMock_7 rfl c5 rfl ?_
    refine r_aload_n 11 0 jd_Wo_liveMock_10 rfl rfl ?_
    obtain ⟨v6, e7, hh⟩ := q_bind hh
    refine r_getI 14 20 jd_Wo_liveMock_11 rfl e7 rfl ?_
    rcases q_ite hh with ⟨c8, hh⟩ | ⟨c8, hh⟩
    · refine r_if_t 21 jd_Wo_liveMock_14 rfl c8 ?_
      refine r_null 22 jd_Wo_liveMock_21 rfl ?_
      cases hh
      exact r_aretO jd_Wo_liveMock_22 rfl ⟨rfl, rfl⟩
    · refine r_if_f 17 21 jd_Wo_liveMock_14 rfl c8 rfl ?_
      refine r_aload_n 18 0 jd_Wo_liveMock_17 rfl rfl ?_
      refine r_goto 22 jd_Wo_liveMock_18 rfl ?_
      cases hh
      exact r_aretO jd_Wo_liveMock_22 rfl ⟨rfl, rfl⟩
-- BeanContexts.recorded(II)J
def jf_Bc_recorded (x : q_S) (a0 : Nat) (a1 : Int32) (a2 : Int32) : Option (q_S × Int64) :=
  (q_gR x (some a0) 0 3).bind fun v1 =>
  (q_av x v1 4).bind fun b5 =>
  (jf_Wo_liveMock x b5 a1).bind fun p3 =>
  if p3.2 = none then
    some (p3.1, 4294967296)
  else
    (jf_Bc_isBelow p3.1 a2 2).bind fun p8 =>
    if p8.2 = 0 then
      some (p8.1, 4294967296)
    else
      if a2 = 0 then
        (q_gI p8.1 p3.2 10 5).bind fun v14 =>
        some (p8.1, v14.toInt64)
      else
        (q_gI p8.1 p3.2 10 6).bind fun v12 =>
        some (p8.1, v12.toInt64)
theorem jm_Bc_recorded {x : q_S} {a0 : Nat} {a1 : Int32} {a2 : Int32} {p : q_S × Int64} (hh : jf_Bc_recorded x a0 a1 a2 = some p) : q_call 6 jq_Bc_recorded [va_rf (some a0), .int a1, .int a2] x p.1 (some (.long p.2)) := by
  unfold jf_Bc_recorded at hh
  refine ⟨List.mem_of_getElem? (i := 82) rfl, Nat.le_of_ble_eq_true rfl, List.forall_mem_cons.mpr ⟨rfl, List.forall_mem_cons.mpr ⟨rfl, List.forall_mem_cons.mpr ⟨rfl, fun _ h => by cases h⟩⟩⟩, ?_⟩
  show q_X (q_call 5) _ jq_Bc_recorded 0 [(0, va_rf (some a0)), (1, .int a1), (2, .int a2)] [] x
  refine r_aload_n 1 0 jd_Bc_recorded_0 rfl rfl ?_
  obtain ⟨v1, e2, hh⟩ := q_bind hh
  refine r_getR 4 3 jd_Bc_recorded_1 rfl e2 rfl ?_
  refine r_iload_n 5 1 jd_Bc_recorded_4 rfl rfl ?_
  obtain ⟨b5, e6, hh⟩ := q_bind hh
  obtain ⟨p3, e4, hh⟩ := q_bind hh
  refine r_cV (rest := []) 8 96 4 [.int a1] [va_rf p3.2] jd_Bc_recorded_5 rfl e6 rfl rfl rfl rfl (q_s8 (Nat.le_of_ble_eq_true rfl)) (q_call_le (Nat.le_of_ble_eq_true rfl) (jm_Wo_liveMock e4)) rfl rfl ?_
  refine r_astore_n 9 [(3, va_rf p3.2), (0, va_rf (some a0)), (1, .int a1), (2, .int a2)] jd_Bc_recorded_8 (by decide) rfl rfl ?_
  refine r_aload_n 10 0 jd_Bc_recorded_9 rfl rfl ?_
  rcases q_ite hh with ⟨c7, hh⟩ | ⟨c7, hh⟩
  · refine r_ifnull_t 21 jd_Bc_recorded_10 rfl c7 ?_
    refine r_ldc2 24 0 jd_Bc_recorded_21 rfl rfl ?_
    cases hh
    exact r_lret jd_Bc_recorded_24 rfl ⟨rfl, rfl⟩
  · refine r_ifnull_f 13 21 jd_Bc_recorded_10 rfl c7 rfl ?_
    refine r_iload_n 14 3 jd_Bc_recorded_13 rfl rfl ?_
    refine r_iconst 15 2 jd_Bc_recorded_14 (by decide) rfl ?_
    obtain ⟨p8, e9, hh⟩ := q_bind hh
    refine r_cS (rest := []) 18 6 [.int a2, .int 2] [.int p8.2] jd_Bc_recorded_15 rfl rfl rfl (q_s8 (Nat.le_of_ble_eq_true rfl)) (q_call_le (Nat.le_of_ble_eq_true rfl) (jm_Bc_isBelow e9)) rfl rfl ?_
    rcases q_ite hh with ⟨c10, hh⟩ | ⟨c10, hh⟩
    · refine r_if_f 21 25 jd_Bc_recorded_18 rfl (fun z => z c10) rfl ?_
      refine r_ldc2 24 0 jd_Bc_recorded_21 rfl rfl ?_
      cases hh
      exact r_lret jd_Bc_recorded_24 rfl ⟨rfl, rfl⟩
    · refine r_if_t 25 jd_Bc_recorded_18 rfl c10 ?_
      refine r_iload_n 26 3 jd_Bc_recorded_25 rfl rfl ?_
      rcases q_ite hh with ⟨c11, hh⟩ | ⟨c11, hh⟩
      · refine r_if_f 29 37 jd_Bc_recorded_26 rfl (fun z => z c11) rfl ?_
        refine r_aload_n 30 0 jd_Bc_recorded_29 rfl rfl ?_
        obtain ⟨v14, e15, hh⟩ := q_bind hh
        refine r_getI 33 71 jd_Bc_recorded_30 rfl e15 rfl ?_
        refine r_i2l 34 jd_Bc_recorded_33 rfl ?_
        refine r_goto 42 jd_Bc_recorded_34 rfl ?_
        cases hh
        exact r_lret jd_Bc_recorded_42 rfl ⟨rfl, rfl⟩
      · refine r_if_t 37 jd_Bc_recorded_26 rfl c11 ?_
        refine r_aload_n 38 0 jd_Bc_recorded_37 rfl rfl ?_
        obtain ⟨v12, e13, hh⟩ := q_bind hh
        refine r_getI 41 70 jd_Bc_recorded_38 rfl e13 rfl ?_
        refine r_i2l 42 jd_Bc_recorded_41 rfl ?_
        cases hh
        exact r_lret jd_Bc_recorded_42 rfl ⟨rfl, rfl⟩
-- BeanContexts$Context.<init>(ILBeanContexts$Key;LBeanContexts$Context;)V
def jf_Co_init (x : q_S) (a0 : Nat) (a1 : Int32) (a2 : Option Nat) (a3 : Option Nat) : Option (q_S × Unit) :=
  (q_nI x 2 10).bind fun x1 =>
  (q_pR x1 (some a0) 9 3 (some (q_sz x))).bind fun x3 =>
  (q_pI x3 (some a0) 9 0 a1).bind fun x5 =>
  (q_pR x5 (some a0) 9 1 a2).bind fun x7 =>
  (q_pR x7 (some a0) 9 2 a3).bind fun x9 =>
  (q_gR x9 (some a0) 9 3).bind fun v11 =>
  (jf_Arr_fill x9 v11 (-1)).bind fun p13 =>
  some (p13.1, ())
theorem jm_Co_init {x : q_S} {a0 : Nat} {a1 : Int32} {a2 : Option Nat} {a3 : Option Nat} {p : q_S × Unit} (hh : jf_Co_init x a0 a1 a2 a3 = some p) : q_call 2 jq_Co_init [va_rf (some a0), .int a1, va_rf a2, va_rf a3] x p.1 (none) := by
  unfold jf_Co_init at hh
  refine ⟨List.mem_of_getElem? (i := 87) rfl, Nat.le_of_ble_eq_true rfl, List.forall_mem_cons.mpr ⟨rfl, List.forall_mem_cons.mpr ⟨rfl, List.forall_mem_cons.mpr ⟨q_cat _, List.forall_mem_cons.mpr ⟨q_cat _, fun _ h => by cases h⟩⟩⟩⟩, ?_⟩
  show q_X (q_call 1) _ jq_Co_init 0 [(0, va_rf (some a0)), (1, .int a1), (2, va_rf a2), (3, va_rf a3)] [] x
  refine r_aload_n 1 0 jd_Co_init_0 rfl rfl ?_
  refine r_obj 4 10 jd_Co_init_1 rfl (q_s8 (Nat.le_of_ble_eq_true rfl)) rfl ?_
  refine r_aload_n 5 0 jd_Co_init_4 rfl rfl ?_
  refine r_bipush 7 10 jd_Co_init_5 (by decide) rfl ?_
  obtain ⟨x1, e2, hh⟩ := q_bind hh
  refine r_newI 9 2 jd_Co_init_7 rfl e2 rfl ?_
  obtain ⟨x3, e4, hh⟩ := q_bind hh
  refine r_putA 12 76 jd_Co_init_9 rfl rfl (Or.inr ⟨rfl, rfl⟩) e4 rfl ?_
  refine r_aload_n 13 0 jd_Co_init_12 rfl rfl ?_
  refine r_iload_n 14 1 jd_Co_init_13 rfl rfl ?_
  obtain ⟨x5, e6, hh⟩ := q_bind hh
  refine r_putI 17 77 jd_Co_init_14 rfl rfl (Or.inr ⟨rfl, rfl⟩) e6 rfl ?_
  refine r_aload_n 18 0 jd_Co_init_17 rfl rfl ?_
  refine r_aload_n 19 2 jd_Co_init_18 rfl rfl ?_
  obtain ⟨x7, e8, hh⟩ := q_bind hh
  refine r_putR 22 78 jd_Co_init_19 rfl rfl (Or.inr ⟨rfl, rfl⟩) e8 rfl ?_
  refine r_aload_n 23 0 jd_Co_init_22 rfl rfl ?_
  refine r_aload_n 24 3 jd_Co_init_23 rfl rfl ?_
  obtain ⟨x9, e10, hh⟩ := q_bind hh
  refine r_putR 27 79 jd_Co_init_24 rfl rfl (Or.inr ⟨rfl, rfl⟩) e10 rfl ?_
  refine r_aload_n 28 0 jd_Co_init_27 rfl rfl ?_
  obtain ⟨v11, e12, hh⟩ := q_bind hh
  refine r_getR 31 76 jd_Co_init_28 rfl e12 rfl ?_
  refine r_iconst 32 (-1) jd_Co_init_31 (by decide) rfl ?_
  obtain ⟨p13, e14, hh⟩ := q_bind hh
  refine r_cS (rest := []) 35 20 [va_rf v11, .int (-1)] [] jd_Co_init_32 rfl rfl rfl (q_s8 (Nat.le_of_ble_eq_true rfl)) (q_call_le (Nat.le_of_ble_eq_true rfl) (jm_Arr_fill e14)) rfl rfl ?_
  cases hh
  exact r_vret jd_Co_init_35 rfl ⟨rfl, rfl⟩
-- BeanContexts$Context.hasAncestor(LBeanContexts$Context;)Z
def jf_Co_hasAncestor_B5 (rc : q_S → Option Nat → Option Nat → Option (q_S × Int32)) (x : q_S) (l1 : Option Nat) (l2 : Option Nat) : Option (q_S × Int32) :=
  if l2 = none then
    some (x, 0)
  else
    if l2 = l1 then
      some (x, 1)
    else
      (q_gR x l2 9 2).bind fun v5 =>
      rc x l1 v5
def jf_Co_hasAncestor_L5 : Nat → q_S → Option Nat → Option Nat → Option (q_S × Int32)
  | 0, _, _, _ => none
  | n + 1, x, l1, l2 => jf_Co_hasAncestor_B5 (jf_Co_hasAncestor_L5 n) x l1 l2
theorem jm_Co_hasAncestor_B5 {p : q_S × Int32} {rc : q_S → Option Nat → Option Nat → Option (q_S × Int32)} (hrc : ∀ (x : q_S) (l1 : Option Nat) (l2 : Option Nat), rc x l1 l2 = some p → q_X (q_call 0) (fun y o => y = p.1 ∧ o = some (.int p.2)) jq_Co_hasAncestor 5 [(1, va_rf l1), (2, va_rf l2)] [] x) (x : q_S) (l1 : Option Nat) (l2 : Option Nat) (hh : jf_Co_hasAncestor_B5 rc x l1 l2 = some p) : q_X (q_call 0) (fun y o => y = p.1 ∧ o = some (.int p.2)) jq_Co_hasAncestor 5 [(1, va_rf l1), (2, va_rf l2)] [] x := by
  unfold jf_Co_hasAncestor_B5 at hh
  refine r_aload_n 6 1 jd_Co_hasAncestor_5 rfl rfl ?_
  rcases q_ite hh with ⟨c3, hh⟩ | ⟨c3, hh⟩
  · refine r_ifnull_t 24 jd_Co_hasAncestor_6 rfl c3 ?_
    refine r_iconst 25 0 jd_Co_hasAncestor_24 (by decide) rfl ?_
    cases hh
    exact r_zret jd_Co_hasAncestor_25 rfl (by decide) ⟨rfl, rfl⟩
  · refine r_ifnull_f 9 24 jd_Co_hasAncestor_6 rfl c3 rfl ?_
    refine r_aload_n 10 1 jd_Co_hasAncestor_9 rfl rfl ?_
    refine r_aload_n 11 0 jd_Co_hasAncestor_10 rfl rfl ?_
    rcases q_ite hh with ⟨c4, hh⟩ | ⟨c4, hh⟩
    · refine r_ac_f 14 16 jd_Co_hasAncestor_11 rfl (fun z => z c4) rfl ?_
      refine r_iconst 15 1 jd_Co_hasAncestor_14 (by decide) rfl ?_
      cases hh
      exact r_zret jd_Co_hasAncestor_15 rfl (by decide) ⟨rfl, rfl⟩
    · refine r_ac_t 16 jd_Co_hasAncestor_11 rfl c4 ?_
      refine r_aload_n 17 1 jd_Co_hasAncestor_16 rfl rfl ?_
      obtain ⟨v5, e6, hh⟩ := q_bind hh
      refine r_getR 20 79 jd_Co_hasAncestor_17 rfl e6 rfl ?_
      refine r_astore_n 21 [(2, va_rf v5), (1, va_rf l1)] jd_Co_hasAncestor_20 (by decide) rfl rfl ?_
      refine r_goto 5 jd_Co_hasAncestor_21 rfl ?_
      refine q_sub [1, 0] rfl ?_
      exact hrc _ _ _ hh
theorem jm_Co_hasAncestor_L5 {p : q_S × Int32} : ∀ (n : Nat) (x : q_S) (l1 : Option Nat) (l2 : Option Nat), jf_Co_hasAncestor_L5 n x l1 l2 = some p → q_X (q_call 0) (fun y o => y = p.1 ∧ o = some (.int p.2)) jq_Co_hasAncestor 5 [(1, va_rf l1), (2, va_rf l2)] [] x
  | 0, _, _, _, hh => nomatch hh
  | n + 1, x, l1, l2, hh => jm_Co_hasAncestor_B5 (jm_Co_hasAncestor_L5 n) x l1 l2 hh
def jf_Co_hasAncestor (x : q_S) (a0 : Nat) (a1 : Option Nat) : Option (q_S × Int32) :=
  (q_gR x (some a0) 9 2).bind fun v1 =>
  jf_Co_hasAncestor_L5 lpK x a1 v1
theorem jm_Co_hasAncestor {x : q_S} {a0 : Nat} {a1 : Option Nat} {p : q_S × Int32} (hh : jf_Co_hasAncestor x a0 a1 = some p) : q_call 1 jq_Co_hasAncestor [va_rf (some a0), va_rf a1] x p.1 (some (.int p.2)) := by
  unfold jf_Co_hasAncestor at hh
  refine ⟨List.mem_of_getElem? (i := 91) rfl, Nat.le_of_ble_eq_true rfl, List.forall_mem_cons.mpr ⟨rfl, List.forall_mem_cons.mpr ⟨q_cat _, fun _ h => by cases h⟩⟩, ?_⟩
  show q_X (q_call 0) _ jq_Co_hasAncestor 0 [(0, va_rf (some a0)), (1, va_rf a1)] [] x
  refine r_aload_n 1 0 jd_Co_hasAncestor_0 rfl rfl ?_
  obtain ⟨v1, e2, hh⟩ := q_bind hh
  refine r_getR 4 79 jd_Co_hasAncestor_1 rfl e2 rfl ?_
  refine r_astore_n 5 [(2, va_rf v1), (0, va_rf (some a0)), (1, va_rf a1)] jd_Co_hasAncestor_4 (by decide) rfl rfl ?_
  refine q_sub [2, 0] rfl ?_
  exact jm_Co_hasAncestor_L5 lpK _ _ _ hh
-- BeanContexts$Shelf.displaceFor(LBeanContexts$Context;)V
def jf_Sh_displaceFor_B10 (rc : q_S → Nat → Option Nat → Int32 → Option (q_S × Unit)) (x : q_S) (l0 : Nat) (l1 : Option Nat) (l2 : Int32) : Option (q_S × Unit) :=
  if l2 < 0 then
    some (x, ())
  else
    (q_gR x (some l0) 5 4).bind fun v8 =>
    (q_av x v8 2).bind fun b12 =>
    (jf_AL_get x b12 l2).bind fun p10 =>
    (q_ck p10.1 p10.2 9).bind fun u15 =>
    (q_av p10.1 l1 9).bind fun b18 =>
    (jf_Co_hasAncestor p10.1 b18 p10.2).bind fun p16 =>
    if p16.2 = 0 then
      (q_gR p16.1 (some l0) 5 4).bind fun v21 =>
      (q_av p16.1 v21 2).bind fun b25 =>
      (jf_AL_get p16.1 b25 l2).bind fun p23 =>
      (q_ck p23.1 p23.2 9).bind fun u28 =>
      (q_av p23.1 (some l0) 5).bind fun b31 =>
      (jg_Sh_close 6 p23.1 b31 p23.2).bind fun p29 =>
      some (p29.1, ())
    else
      rc p16.1 l0 l1 (l2 + (-1))
def jf_Sh_displaceFor_L10 : Nat → q_S → Nat → Option Nat → Int32 → Option (q_S × Unit)
  | 0, _, _, _, _ => none
  | n + 1, x, l0, l1, l2 => jf_Sh_displaceFor_B10 (jf_Sh_displaceFor_L10 n) x l0 l1 l2
theorem jm_Sh_displaceFor_B10 {p : q_S × Unit} {rc : q_S → Nat → Option Nat → Int32 → Option (q_S × Unit)} (hrc : ∀ (x : q_S) (l0 : Nat) (l1 : Option Nat) (l2 : Int32), rc x l0 l1 l2 = some p → q_X (q_call 10) (fun y o => y = p.1 ∧ o = none) jq_Sh_displaceFor 10 [(0, va_rf (some l0)), (1, va_rf l1), (2, .int l2)] [] x) (x : q_S) (l0 : Nat) (l1 : Option Nat) (l2 : Int32) (hh : jf_Sh_displaceFor_B10 rc x l0 l1 l2 = some p) : q_X (q_call 10) (fun y o => y = p.1 ∧ o = none) jq_Sh_displaceFor 10 [(0, va_rf (some l0)), (1, va_rf l1), (2, .int l2)] [] x := by
  unfold jf_Sh_displaceFor_B10 at hh
  refine r_iload_n 11 2 jd_Sh_displaceFor_10 rfl rfl ?_
  rcases q_ite hh with ⟨c7, hh⟩ | ⟨c7, hh⟩
  · refine r_if_t 55 jd_Sh_displaceFor_11 rfl c7 ?_
    cases hh
    exact r_vret jd_Sh_displaceFor_55 rfl ⟨rfl, rfl⟩
  · refine r_if_f 14 55 jd_Sh_displaceFor_11 rfl c7 rfl ?_
    refine r_aload_n 15 1 jd_Sh_displaceFor_14 rfl rfl ?_
    refine r_aload_n 16 0 jd_Sh_displaceFor_15 rfl rfl ?_
    obtain ⟨v8, e9, hh⟩ := q_bind hh
    refine r_getR 19 11 jd_Sh_displaceFor_16 rfl e9 rfl ?_
    refine r_iload_n 20 2 jd_Sh_displaceFor_19 rfl rfl ?_
    obtain ⟨b12, e13, hh⟩ := q_bind hh
    obtain ⟨p10, e11, hh⟩ := q_bind hh
    refine r_cV (rest := [va_rf l1]) 23 40 2 [.int l2] [va_rf p10.2, va_rf l1] jd_Sh_displaceFor_20 rfl e13 rfl rfl rfl rfl (q_s8 (Nat.le_of_ble_eq_true rfl)) (q_call_le (Nat.le_of_ble_eq_true rfl) (jm_AL_get e11)) rfl rfl ?_
    obtain ⟨u15, e14, hh⟩ := q_bind hh
    refine r_cast 26 0 9 jd_Sh_displaceFor_23 rfl rfl e14 rfl ?_
    obtain ⟨b18, e19, hh⟩ := q_bind hh
    obtain ⟨p16, e17, hh⟩ := q_bind hh
    refine r_cV (rest := []) 29 108 9 [va_rf p10.2] [.int p16.2] jd_Sh_displaceFor_26 rfl e19 rfl rfl rfl rfl (q_s8 (Nat.le_of_ble_eq_true rfl)) (q_call_le (Nat.le_of_ble_eq_true rfl) (jm_Co_hasAncestor e17)) rfl rfl ?_
    rcases q_ite hh with ⟨c20, hh⟩ | ⟨c20, hh⟩
    · refine r_if_f 32 49 jd_Sh_displaceFor_29 rfl (fun z => z c20) rfl ?_
      refine r_aload_n 33 0 jd_Sh_displaceFor_32 rfl rfl ?_
      refine r_aload_n 34 0 jd_Sh_displaceFor_33 rfl rfl ?_
      obtain ⟨v21, e22, hh⟩ := q_bind hh
      refine r_getR 37 11 jd_Sh_displaceFor_34 rfl e22 rfl ?_
      refine r_iload_n 38 2 jd_Sh_displaceFor_37 rfl rfl ?_
      obtain ⟨b25, e26, hh⟩ := q_bind hh
      obtain ⟨p23, e24, hh⟩ := q_bind hh
      refine r_cV (rest := [va_rf (some l0)]) 41 40 2 [.int l2] [va_rf p23.2, va_rf (some l0)] jd_Sh_displaceFor_38 rfl e26 rfl rfl rfl rfl (q_s8 (Nat.le_of_ble_eq_true rfl)) (q_call_le (Nat.le_of_ble_eq_true rfl) (jm_AL_get e24)) rfl rfl ?_
      obtain ⟨u28, e27, hh⟩ := q_bind hh
      refine r_cast 44 0 9 jd_Sh_displaceFor_41 rfl rfl e27 rfl ?_
      obtain ⟨b31, e32, hh⟩ := q_bind hh
      obtain ⟨p29, e30, hh⟩ := q_bind hh
      refine r_cV (rest := []) 47 70 5 [va_rf p23.2] [.int p29.2] jd_Sh_displaceFor_44 rfl e32 rfl rfl rfl rfl (q_s8 (Nat.le_of_ble_eq_true rfl)) (q_call_le (Nat.le_of_ble_eq_true rfl) (jn_Sh_close 6 e30)) rfl rfl ?_
      refine r_popI 48 jd_Sh_displaceFor_47 rfl ?_
      cases hh
      exact r_vret jd_Sh_displaceFor_48 rfl ⟨rfl, rfl⟩
    · refine r_if_t 49 jd_Sh_displaceFor_29 rfl c20 ?_
      refine r_iinc 52 2 [(2, .int (l2 + (-1))), (0, va_rf (some l0)), (1, va_rf l1)] (-1) jd_Sh_displaceFor_49 rfl (by decide) (by decide) rfl rfl ?_
      refine r_goto 10 jd_Sh_displaceFor_52 rfl ?_
      refine q_sub [1, 2, 0] rfl ?_
      exact hrc _ _ _ _ hh
theorem jm_Sh_displaceFor_L10 {p : q_S × Unit} : ∀ (n : Nat) (x : q_S) (l0 : Nat) (l1 : Option Nat) (l2 : Int32), jf_Sh_displaceFor_L10 n x l0 l1 l2 = some p → q_X (q_call 10) (fun y o => y = p.1 ∧ o = none) jq_Sh_displaceFor 10 [(0, va_rf (some l0)), (1, va_rf l1), (2, .int l2)] [] x
  | 0, _, _, _, _, hh => nomatch hh
  | n + 1, x, l0, l1, l2, hh => jm_Sh_displaceFor_B10 (jm_Sh_displaceFor_L10 n) x l0 l1 l2 hh
def jf_Sh_displaceFor (x : q_S) (a0 : Nat) (a1 : Option Nat) : Option (q_S × Unit) :=
  (q_gR x (some a0) 5 4).bind fun v1 =>
  (q_av x v1 2).bind fun b5 =>
  (jf_AL_size x b5).bind fun p3 =>
  jf_Sh_displaceFor_L10 lpK p3.1 a0 a1 (p3.2 - 1)
theorem jm_Sh_displaceFor {x : q_S} {a0 : Nat} {a1 : Option Nat} {p : q_S × Unit} (hh : jf_Sh_displaceFor x a0 a1 = some p) : q_call 11 jq_Sh_displaceFor [va_rf (some a0), va_rf a1] x p.1 (none) := by
  unfold jf_Sh_displaceFor at hh
  refine ⟨List.mem_of_getElem? (i := 90) rfl, Nat.le_of_ble_eq_true rfl, List.forall_mem_cons.mpr ⟨rfl, List.forall_mem_cons.mpr ⟨q_cat _, fun _ h => by cases h⟩⟩, ?_⟩
  show q_X (q_call 10) _ jq_Sh_displaceFor 0 [(0, va_rf (some a0)), (1, va_rf a1)] [] x
  refine r_aload_n 1 0 jd_Sh_displaceFor_0 rfl rfl ?_
  obtain ⟨v1, e2, hh⟩ := q_bind hh
  refine r_getR 4 11 jd_Sh_displaceFor_1 rfl e2 rfl ?_
  obtain ⟨b5, e6, hh⟩ := q_bind hh
  obtain ⟨p3, e4, hh⟩ := q_bind hh
  refine r_cV (rest := []) 7 39 2 [] [.int p3.2] jd_Sh_displaceFor_4 rfl e6 rfl rfl rfl rfl (q_s8 (Nat.le_of_ble_eq_true rfl)) (q_call_le (Nat.le_of_ble_eq_true rfl) (jm_AL_size e4)) rfl rfl ?_
  refine r_iconst 8 1 jd_Sh_displaceFor_7 (by decide) rfl ?_
  refine r_isub 9 jd_Sh_displaceFor_8 rfl ?_
  refine r_istore_n 10 [(2, .int (p3.2 - 1)), (0, va_rf (some a0)), (1, va_rf a1)] jd_Sh_displaceFor_9 (by decide) rfl rfl ?_
  refine q_sub [1, 2, 0] rfl ?_
  exact jm_Sh_displaceFor_L10 lpK _ _ _ _ hh
-- BeanContexts$Shelf.use(LBeanContexts$Context;)V
def jf_Sh_use_B4 (rc : q_S → Nat → Int32 → Option Nat → Option (q_S × Unit)) (x : q_S) (l0 : Nat) (l2 : Int32) (l3 : Option Nat) : Option (q_S × Unit) :=
  if l3 = none then
    some (x, ())
  else
    (q_av x (some l0) 5).bind fun b4 =>
    (jf_Sh_removeFromOrder x b4 l3).bind fun p2 =>
    (q_gR p2.1 (some l0) 5 4).bind fun v6 =>
    (q_av p2.1 v6 2).bind fun b10 =>
    (jf_AL_addAt p2.1 b10 l2 l3).bind fun p8 =>
    (q_gR p8.1 l3 9 2).bind fun v12 =>
    rc p8.1 l0 (l2 + 1) v12
def jf_Sh_use_L4 : Nat → q_S → Nat → Int32 → Option Nat → Option (q_S × Unit)
  | 0, _, _, _, _ => none
  | n + 1, x, l0, l2, l3 => jf_Sh_use_B4 (jf_Sh_use_L4 n) x l0 l2 l3
theorem jm_Sh_use_B4 {p : q_S × Unit} {rc : q_S → Nat → Int32 → Option Nat → Option (q_S × Unit)} (hrc : ∀ (x : q_S) (l0 : Nat) (l2 : Int32) (l3 : Option Nat), rc x l0 l2 l3 = some p → q_X (q_call 5) (fun y o => y = p.1 ∧ o = none) jq_Sh_use 4 [(0, va_rf (some l0)), (2, .int l2), (3, va_rf l3)] [] x) (x : q_S) (l0 : Nat) (l2 : Int32) (l3 : Option Nat) (hh : jf_Sh_use_B4 rc x l0 l2 l3 = some p) : q_X (q_call 5) (fun y o => y = p.1 ∧ o = none) jq_Sh_use 4 [(0, va_rf (some l0)), (2, .int l2), (3, va_rf l3)] [] x := by
  unfold jf_Sh_use_B4 at hh
  refine r_aload_n 5 2 jd_Sh_use_4 rfl rfl ?_
  rcases q_ite hh with ⟨c1, hh⟩ | ⟨c1, hh⟩
  · refine r_ifnull_t 33 jd_Sh_use_5 rfl c1 ?_
    cases hh
    exact r_vret jd_Sh_use_33 rfl ⟨rfl, rfl⟩
  · refine r_ifnull_f 8 33 jd_Sh_use_5 rfl c1 rfl ?_
    refine r_aload_n 9 0 jd_Sh_use_8 rfl rfl ?_
    refine r_aload_n 10 2 jd_Sh_use_9 rfl rfl ?_
    obtain ⟨b4, e5, hh⟩ := q_bind hh
    obtain ⟨p2, e3, hh⟩ := q_bind hh
    refine r_cV (rest := []) 13 68 5 [va_rf l3] [] jd_Sh_use_10 rfl e5 rfl rfl rfl rfl (q_s8 (Nat.le_of_ble_eq_true rfl)) (q_call_le (Nat.le_of_ble_eq_true rfl) (jm_Sh_removeFromOrder e3)) rfl rfl ?_
    refine r_aload_n 14 0 jd_Sh_use_13 rfl rfl ?_
    obtain ⟨v6, e7, hh⟩ := q_bind hh
    refine r_getR 17 11 jd_Sh_use_14 rfl e7 rfl ?_
    refine r_iload_n 18 1 jd_Sh_use_17 rfl rfl ?_
    refine r_aload_n 19 2 jd_Sh_use_18 rfl rfl ?_
    obtain ⟨b10, e11, hh⟩ := q_bind hh
    obtain ⟨p8, e9, hh⟩ := q_bind hh
    refine r_cV (rest := []) 22 109 2 [.int l2, va_rf l3] [] jd_Sh_use_19 rfl e11 rfl rfl rfl rfl (q_s8 (Nat.le_of_ble_eq_true rfl)) (q_call_le (Nat.le_of_ble_eq_true rfl) (jm_AL_addAt e9)) rfl rfl ?_
    refine r_iinc 25 1 [(2, .int (l2 + 1)), (0, va_rf (some l0)), (3, va_rf l3)] 1 jd_Sh_use_22 rfl (by decide) (by decide) rfl rfl ?_
    refine r_aload_n 26 2 jd_Sh_use_25 rfl rfl ?_
    obtain ⟨v12, e13, hh⟩ := q_bind hh
    refine r_getR 29 48 jd_Sh_use_26 rfl e13 rfl ?_
    refine r_astore_n 30 [(3, va_rf v12), (2, .int (l2 + 1)), (0, va_rf (some l0))] jd_Sh_use_29 (by decide) rfl rfl ?_
    refine r_goto 4 jd_Sh_use_30 rfl ?_
    refine q_sub [2, 1, 0] rfl ?_
    exact hrc _ _ _ _ hh
theorem jm_Sh_use_L4 {p : q_S × Unit} : ∀ (n : Nat) (x : q_S) (l0 : Nat) (l2 : Int32) (l3 : Option Nat), jf_Sh_use_L4 n x l0 l2 l3 = some p → q_X (q_call 5) (fun y o => y = p.1 ∧ o = none) jq_Sh_use 4 [(0, va_rf (some l0)), (2, .int l2), (3, va_rf l3)] [] x
  | 0, _, _, _, _, hh => nomatch hh
  | n + 1, x, l0, l2, l3, hh => jm_Sh_use_B4 (jm_Sh_use_L4 n) x l0 l2 l3 hh
def jf_Sh_use (x : q_S) (a0 : Nat) (a1 : Option Nat) : Option (q_S × Unit) :=
  jf_Sh_use_L4 lpK x a0 0 a1
theorem jm_Sh_use {x : q_S} {a0 : Nat} {a1 : Option Nat} {p : q_S × Unit} (hh : jf_Sh_use x a0 a1 = some p) : q_call 6 jq_Sh_use [va_rf (some a0), va_rf a1] x p.1 (none) := by
  unfold jf_Sh_use at hh
  refine ⟨List.mem_of_getElem? (i := 92) rfl, Nat.le_of_ble_eq_true rfl, List.forall_mem_cons.mpr ⟨rfl, List.forall_mem_cons.mpr ⟨q_cat _, fun _ h => by cases h⟩⟩, ?_⟩
  show q_X (q_call 5) _ jq_Sh_use 0 [(0, va_rf (some a0)), (1, va_rf a1)] [] x
  refine r_iconst 1 0 jd_Sh_use_0 (by decide) rfl ?_
  refine r_istore_n 2 [(2, .int 0), (0, va_rf (some a0)), (1, va_rf a1)] jd_Sh_use_1 (by decide) rfl rfl ?_
  refine r_aload_n 3 2 jd_Sh_use_2 rfl rfl ?_
  refine r_astore_n 4 [(3, va_rf a1), (2, .int 0), (0, va_rf (some a0)), (1, va_rf a1)] jd_Sh_use_3 (by decide) rfl rfl ?_
  refine q_sub [2, 1, 0] rfl ?_
  exact jm_Sh_use_L4 lpK _ _ _ _ hh
-- BeanContexts$Shelf.putUp(LBeanContexts$Context;)V
def jf_Sh_putUp (x : q_S) (a0 : Nat) (a1 : Option Nat) : Option (q_S × Unit) :=
  (q_gR x (some a0) 5 4).bind fun v1 =>
  (q_av x v1 2).bind fun b5 =>
  (jf_AL_size x b5).bind fun p3 =>
  (q_gI p3.1 (some a0) 5 0).bind fun v7 =>
  if p3.2 < v7 then
    (q_pZ p3.1 a1 9 5 1).bind fun x10 =>
    (q_av x10 (some a0) 5).bind fun b14 =>
    (jf_Sh_use x10 b14 a1).bind fun p12 =>
    (q_gR p12.1 (some a0) 5 2).bind fun v16 =>
    (q_gI p12.1 a1 9 0).bind fun v18 =>
    (q_av p12.1 v16 3).bind fun b22 =>
    (jf_Jo_write p12.1 b22 2 v18).bind fun p20 =>
    some (p20.1, ())
  else
    (q_av p3.1 (some a0) 5).bind fun b26 =>
    (jf_Sh_displaceFor p3.1 b26 a1).bind fun p24 =>
    (q_pZ p24.1 a1 9 5 1).bind fun x28 =>
    (q_av x28 (some a0) 5).bind fun b32 =>
    (jf_Sh_use x28 b32 a1).bind fun p30 =>
    (q_gR p30.1 (some a0) 5 2).bind fun v34 =>
    (q_gI p30.1 a1 9 0).bind fun v36 =>
    (q_av p30.1 v34 3).bind fun b40 =>
    (jf_Jo_write p30.1 b40 2 v36).bind fun p38 =>
    some (p38.1, ())
theorem jm_Sh_putUp {x : q_S} {a0 : Nat} {a1 : Option Nat} {p : q_S × Unit} (hh : jf_Sh_putUp x a0 a1 = some p) : q_call 12 jq_Sh_putUp [va_rf (some a0), va_rf a1] x p.1 (none) := by
  unfold jf_Sh_putUp at hh
  refine ⟨List.mem_of_getElem? (i := 89) rfl, Nat.le_of_ble_eq_true rfl, List.forall_mem_cons.mpr ⟨rfl, List.forall_mem_cons.mpr ⟨q_cat _, fun _ h => by cases h⟩⟩, ?_⟩
  show q_X (q_call 11) _ jq_Sh_putUp 0 [(0, va_rf (some a0)), (1, va_rf a1)] [] x
  refine r_aload_n 1 0 jd_Sh_putUp_0 rfl rfl ?_
  obtain ⟨v1, e2, hh⟩ := q_bind hh
  refine r_getR 4 11 jd_Sh_putUp_1 rfl e2 rfl ?_
  obtain ⟨b5, e6, hh⟩ := q_bind hh
  obtain ⟨p3, e4, hh⟩ := q_bind hh
  refine r_cV (rest := []) 7 39 2 [] [.int p3.2] jd_Sh_putUp_4 rfl e6 rfl rfl rfl rfl (q_s8 (Nat.le_of_ble_eq_true rfl)) (q_call_le (Nat.le_of_ble_eq_true rfl) (jm_AL_size e4)) rfl rfl ?_
  refine r_aload_n 8 0 jd_Sh_putUp_7 rfl rfl ?_
  obtain ⟨v7, e8, hh⟩ := q_bind hh
  refine r_getI 11 12 jd_Sh_putUp_8 rfl e8 rfl ?_
  rcases q_ite hh with ⟨c9, hh⟩ | ⟨c9, hh⟩
  · refine r_ic_t 19 jd_Sh_putUp_11 rfl c9 ?_
    refine r_aload_n 20 1 jd_Sh_putUp_19 rfl rfl ?_
    refine r_iconst 21 1 jd_Sh_putUp_20 (by decide) rfl ?_
    obtain ⟨x10, e11, hh⟩ := q_bind hh
    refine r_putZ 24 47 jd_Sh_putUp_21 rfl rfl (Or.inl rfl) e11 rfl ?_
    refine r_aload_n 25 0 jd_Sh_putUp_24 rfl rfl ?_
    refine r_aload_n 26 1 jd_Sh_putUp_25 rfl rfl ?_
    obtain ⟨b14, e15, hh⟩ := q_bind hh
    obtain ⟨p12, e13, hh⟩ := q_bind hh
    refine r_cV (rest := []) 29 102 5 [va_rf a1] [] jd_Sh_putUp_26 rfl e15 rfl rfl rfl rfl (q_s8 (Nat.le_of_ble_eq_true rfl)) (q_call_le (Nat.le_of_ble_eq_true rfl) (jm_Sh_use e13)) rfl rfl ?_
    refine r_aload_n 30 0 jd_Sh_putUp_29 rfl rfl ?_
    obtain ⟨v16, e17, hh⟩ := q_bind hh
    refine r_getR 33 14 jd_Sh_putUp_30 rfl e17 rfl ?_
    refine r_iconst 34 2 jd_Sh_putUp_33 (by decide) rfl ?_
    refine r_aload_n 35 1 jd_Sh_putUp_34 rfl rfl ?_
    obtain ⟨v18, e19, hh⟩ := q_bind hh
    refine r_getI 38 18 jd_Sh_putUp_35 rfl e19 rfl ?_
    obtain ⟨b22, e23, hh⟩ := q_bind hh
    obtain ⟨p20, e21, hh⟩ := q_bind hh
    refine r_cV (rest := []) 41 69 3 [.int 2, .int v18] [] jd_Sh_putUp_38 rfl e23 rfl rfl rfl rfl (q_s8 (Nat.le_of_ble_eq_true rfl)) (q_call_le (Nat.le_of_ble_eq_true rfl) (jm_Jo_write e21)) rfl rfl ?_
    cases hh
    exact r_vret jd_Sh_putUp_41 rfl ⟨rfl, rfl⟩
  · refine r_ic_f 14 19 jd_Sh_putUp_11 rfl c9 rfl ?_
    refine r_aload_n 15 0 jd_Sh_putUp_14 rfl rfl ?_
    refine r_aload_n 16 1 jd_Sh_putUp_15 rfl rfl ?_
    obtain ⟨b26, e27, hh⟩ := q_bind hh
    obtain ⟨p24, e25, hh⟩ := q_bind hh
    refine r_cV (rest := []) 19 107 5 [va_rf a1] [] jd_Sh_putUp_16 rfl e27 rfl rfl rfl rfl (q_s8 (Nat.le_of_ble_eq_true rfl)) (q_call_le (Nat.le_of_ble_eq_true rfl) (jm_Sh_displaceFor e25)) rfl rfl ?_
    refine r_aload_n 20 1 jd_Sh_putUp_19 rfl rfl ?_
    refine r_iconst 21 1 jd_Sh_putUp_20 (by decide) rfl ?_
    obtain ⟨x28, e29, hh⟩ := q_bind hh
    refine r_putZ 24 47 jd_Sh_putUp_21 rfl rfl (Or.inl rfl) e29 rfl ?_
    refine r_aload_n 25 0 jd_Sh_putUp_24 rfl rfl ?_
    refine r_aload_n 26 1 jd_Sh_putUp_25 rfl rfl ?_
    obtain ⟨b32, e33, hh⟩ := q_bind hh
    obtain ⟨p30, e31, hh⟩ := q_bind hh
    refine r_cV (rest := []) 29 102 5 [va_rf a1] [] jd_Sh_putUp_26 rfl e33 rfl rfl rfl rfl (q_s8 (Nat.le_of_ble_eq_true rfl)) (q_call_le (Nat.le_of_ble_eq_true rfl) (jm_Sh_use e31)) rfl rfl ?_
    refine r_aload_n 30 0 jd_Sh_putUp_29 rfl rfl ?_
    obtain ⟨v34, e35, hh⟩ := q_bind hh
    refine r_getR 33 14 jd_Sh_putUp_30 rfl e35 rfl ?_
    refine r_iconst 34 2 jd_Sh_putUp_33 (by decide) rfl ?_
    refine r_aload_n 35 1 jd_Sh_putUp_34 rfl rfl ?_
    obtain ⟨v36, e37, hh⟩ := q_bind hh
    refine r_getI 38 18 jd_Sh_putUp_35 rfl e37 rfl ?_
    obtain ⟨b40, e41, hh⟩ := q_bind hh
    obtain ⟨p38, e39, hh⟩ := q_bind hh
    refine r_cV (rest := []) 41 69 3 [.int 2, .int v36] [] jd_Sh_putUp_38 rfl e41 rfl rfl rfl rfl (q_s8 (Nat.le_of_ble_eq_true rfl)) (q_call_le (Nat.le_of_ble_eq_true rfl) (jm_Jo_write e39)) rfl rfl ?_
    cases hh
    exact r_vret jd_Sh_putUp_41 rfl ⟨rfl, rfl⟩
-- BeanContexts$Shelf.takeBack(LBeanContexts$Context;)V
def jf_Sh_takeBack (x : q_S) (a0 : Nat) (a1 : Option Nat) : Option (q_S × Unit) :=
  (q_gR x (some a0) 5 1).bind fun v1 =>
  (q_av x v1 4).bind fun b5 =>
  (jf_Wo_destroyBeans x b5 a1).bind fun p3 =>
  (q_gR p3.1 a1 9 1).bind fun v7 =>
  (q_gI p3.1 v7 8 6).bind fun v9 =>
  (q_pI p3.1 v7 8 6 (v9 + 1)).bind fun x11 =>
  (q_gR x11 (some a0) 5 2).bind fun v13 =>
  (q_gI x11 a1 9 0).bind fun v15 =>
  (q_av x11 v13 3).bind fun b19 =>
  (jf_Jo_write x11 b19 3 v15).bind fun p17 =>
  some (p17.1, ())
theorem jm_Sh_takeBack {x : q_S} {a0 : Nat} {a1 : Option Nat} {p : q_S × Unit} (hh : jf_Sh_takeBack x a0 a1 = some p) : q_call 5 jq_Sh_takeBack [va_rf (some a0), va_rf a1] x p.1 (none) := by
  unfold jf_Sh_takeBack at hh
  refine ⟨List.mem_of_getElem? (i := 95) rfl, Nat.le_of_ble_eq_true rfl, List.forall_mem_cons.mpr ⟨rfl, List.forall_mem_cons.mpr ⟨q_cat _, fun _ h => by cases h⟩⟩, ?_⟩
  show q_X (q_call 4) _ jq_Sh_takeBack 0 [(0, va_rf (some a0)), (1, va_rf a1)] [] x
  refine r_aload_n 1 0 jd_Sh_takeBack_0 rfl rfl ?_
  obtain ⟨v1, e2, hh⟩ := q_bind hh
  refine r_getR 4 13 jd_Sh_takeBack_1 rfl e2 rfl ?_
  refine r_aload_n 5 1 jd_Sh_takeBack_4 rfl rfl ?_
  obtain ⟨b5, e6, hh⟩ := q_bind hh
  obtain ⟨p3, e4, hh⟩ := q_bind hh
  refine r_cV (rest := []) 8 67 4 [va_rf a1] [] jd_Sh_takeBack_5 rfl e6 rfl rfl rfl rfl (q_s8 (Nat.le_of_ble_eq_true rfl)) (q_call_le (Nat.le_of_ble_eq_true rfl) (jm_Wo_destroyBeans e4)) rfl rfl ?_
  refine r_aload_n 9 1 jd_Sh_takeBack_8 rfl rfl ?_
  obtain ⟨v7, e8, hh⟩ := q_bind hh
  refine r_getR 12 46 jd_Sh_takeBack_9 rfl e8 rfl ?_
  refine r_dupR 13 jd_Sh_takeBack_12 rfl ?_
  obtain ⟨v9, e10, hh⟩ := q_bind hh
  refine r_getI 16 73 jd_Sh_takeBack_13 rfl e10 rfl ?_
  refine r_iconst 17 1 jd_Sh_takeBack_16 (by decide) rfl ?_
  refine r_iadd 18 jd_Sh_takeBack_17 rfl ?_
  obtain ⟨x11, e12, hh⟩ := q_bind hh
  refine r_putI 21 73 jd_Sh_takeBack_18 rfl rfl (Or.inl rfl) e12 rfl ?_
  refine r_aload_n 22 0 jd_Sh_takeBack_21 rfl rfl ?_
  obtain ⟨v13, e14, hh⟩ := q_bind hh
  refine r_getR 25 14 jd_Sh_takeBack_22 rfl e14 rfl ?_
  refine r_iconst 26 3 jd_Sh_takeBack_25 (by decide) rfl ?_
  refine r_aload_n 27 1 jd_Sh_takeBack_26 rfl rfl ?_
  obtain ⟨v15, e16, hh⟩ := q_bind hh
  refine r_getI 30 18 jd_Sh_takeBack_27 rfl e16 rfl ?_
  obtain ⟨b19, e20, hh⟩ := q_bind hh
  obtain ⟨p17, e18, hh⟩ := q_bind hh
  refine r_cV (rest := []) 33 69 3 [.int 3, .int v15] [] jd_Sh_takeBack_30 rfl e20 rfl rfl rfl rfl (q_s8 (Nat.le_of_ble_eq_true rfl)) (q_call_le (Nat.le_of_ble_eq_true rfl) (jm_Jo_write e18)) rfl rfl ?_
  cases hh
  exact r_vret jd_Sh_takeBack_33 rfl ⟨rfl, rfl⟩
-- BeanContexts$Shelf.build(LBeanContexts$Key;LBeanContexts$Context;)I
def jf_Sh_build_B44 (rc : q_S → Nat → Option Nat → Option Nat → Int32 → Option (q_S × Int32)) (x : q_S) (l0 : Nat) (l1 : Option Nat) (l3 : Option Nat) (l4 : Int32) : Option (q_S × Int32) :=
  if 10 ≤ l4 then
    (q_av x (some l0) 5).bind fun b27 =>
    (jf_Sh_putUp x b27 l3).bind fun p25 =>
    (q_gI p25.1 l3 9 0).bind fun v29 =>
    some (p25.1, v29)
  else
    (q_gI x l1 8 4).bind fun v31 =>
    (jf_Bc_contains x v31 l4).bind fun p33 =>
    if p33.2 = 0 then
      rc p33.1 l0 l1 l3 (l4 + 1)
    else
      (q_gR p33.1 (some l0) 5 1).bind fun v37 =>
      (q_av p33.1 v37 4).bind fun b41 =>
      (jf_Wo_supply (jg_Wo_supplyNeed 40) p33.1 b41 l3 l4 0).bind fun p39 =>
      if 0 ≤ p39.2 then
        rc p39.1 l0 l1 l3 (l4 + 1)
      else
        (q_av p39.1 (some l0) 5).bind fun b46 =>
        (jf_Sh_takeBack p39.1 b46 l3).bind fun p44 =>
        some (p44.1, p39.2)
def jf_Sh_build_L44 : Nat → q_S → Nat → Option Nat → Option Nat → Int32 → Option (q_S × Int32)
  | 0, _, _, _, _, _ => none
  | n + 1, x, l0, l1, l3, l4 => jf_Sh_build_B44 (jf_Sh_build_L44 n) x l0 l1 l3 l4
theorem jm_Sh_build_B44 {p : q_S × Int32} {rc : q_S → Nat → Option Nat → Option Nat → Int32 → Option (q_S × Int32)} (hrc : ∀ (x : q_S) (l0 : Nat) (l1 : Option Nat) (l3 : Option Nat) (l4 : Int32), rc x l0 l1 l3 l4 = some p → q_X (q_call 129) (fun y o => y = p.1 ∧ o = some (.int p.2)) jq_Sh_build 44 [(0, va_rf (some l0)), (1, va_rf l1), (3, va_rf l3), (4, .int l4)] [] x) (x : q_S) (l0 : Nat) (l1 : Option Nat) (l3 : Option Nat) (l4 : Int32) (hh : jf_Sh_build_B44 rc x l0 l1 l3 l4 = some p) : q_X (q_call 129) (fun y o => y = p.1 ∧ o = some (.int p.2)) jq_Sh_build 44 [(0, va_rf (some l0)), (1, va_rf l1), (3, va_rf l3), (4, .int l4)] [] x := by
  unfold jf_Sh_build_B44 at hh
  refine r_iload 46 3 jd_Sh_build_44 rfl rfl ?_
  refine r_bipush 48 10 jd_Sh_build_46 (by decide) rfl ?_
  rcases q_ite hh with ⟨c24, hh⟩ | ⟨c24, hh⟩
  · refine r_ic_t 99 jd_Sh_build_48 rfl c24 ?_
    refine r_aload_n 100 0 jd_Sh_build_99 rfl rfl ?_
    refine r_aload_n 101 2 jd_Sh_build_100 rfl rfl ?_
    obtain ⟨b27, e28, hh⟩ := q_bind hh
    obtain ⟨p25, e26, hh⟩ := q_bind hh
    refine r_cV (rest := []) 104 104 5 [va_rf l3] [] jd_Sh_build_101 rfl e28 rfl rfl rfl rfl (q_s8 (Nat.le_of_ble_eq_true rfl)) (q_call_le (Nat.le_of_ble_eq_true rfl) (jm_Sh_putUp e26)) rfl rfl ?_
    refine r_aload_n 105 2 jd_Sh_build_104 rfl rfl ?_
    obtain ⟨v29, e30, hh⟩ := q_bind hh
    refine r_getI 108 18 jd_Sh_build_105 rfl e30 rfl ?_
    cases hh
    exact r_iret jd_Sh_build_108 rfl ⟨rfl, rfl⟩
  · refine r_ic_f 51 99 jd_Sh_build_48 rfl c24 rfl ?_
    refine r_aload_n 52 1 jd_Sh_build_51 rfl rfl ?_
    obtain ⟨v31, e32, hh⟩ := q_bind hh
    refine r_getI 55 75 jd_Sh_build_52 rfl e32 rfl ?_
    refine r_iload 57 3 jd_Sh_build_55 rfl rfl ?_
    obtain ⟨p33, e34, hh⟩ := q_bind hh
    refine r_cS (rest := []) 60 19 [.int v31, .int l4] [.int p33.2] jd_Sh_build_57 rfl rfl rfl (q_s8 (Nat.le_of_ble_eq_true rfl)) (q_call_le (Nat.le_of_ble_eq_true rfl) (jm_Bc_contains e34)) rfl rfl ?_
    rcases q_ite hh with ⟨c35, hh⟩ | ⟨c35, hh⟩
    · refine r_if_t 77 jd_Sh_build_60 rfl c35 ?_
      refine r_iconst 78 0 jd_Sh_build_77 (by decide) rfl ?_
      refine r_istore 80 [(5, .int 0), (0, va_rf (some l0)), (1, va_rf l1), (3, va_rf l3), (4, .int l4)] jd_Sh_build_78 (by decide) rfl rfl ?_
      refine r_iload 82 0 jd_Sh_build_80 rfl rfl ?_
      refine r_if_t 93 jd_Sh_build_82 rfl (by unfold q_cnd; decide) ?_
      refine r_iinc 96 4 [(4, .int (l4 + 1)), (5, .int 0), (0, va_rf (some l0)), (1, va_rf l1), (3, va_rf l3)] 1 jd_Sh_build_93 rfl (by decide) (by decide) rfl rfl ?_
      refine r_goto 44 jd_Sh_build_96 rfl ?_
      refine q_sub [2, 3, 4, 0] rfl ?_
      exact hrc _ _ _ _ _ hh
    · refine r_if_f 63 77 jd_Sh_build_60 rfl c35 rfl ?_
      refine r_aload_n 64 0 jd_Sh_build_63 rfl rfl ?_
      obtain ⟨v37, e38, hh⟩ := q_bind hh
      refine r_getR 67 13 jd_Sh_build_64 rfl e38 rfl ?_
      refine r_aload_n 68 2 jd_Sh_build_67 rfl rfl ?_
      refine r_iload 70 3 jd_Sh_build_68 rfl rfl ?_
      refine r_iconst 71 0 jd_Sh_build_70 (by decide) rfl ?_
      obtain ⟨b41, e42, hh⟩ := q_bind hh
      obtain ⟨p39, e40, hh⟩ := q_bind hh
      refine r_cV (rest := []) 74 105 4 [va_rf l3, .int l4, .int 0] [.int p39.2] jd_Sh_build_71 rfl e42 rfl rfl rfl rfl (q_s8 (Nat.le_of_ble_eq_true rfl)) (q_call_le (Nat.le_of_ble_eq_true rfl) (jm_Wo_supply (d := 127) (Nat.le_of_ble_eq_true rfl) (jn_Wo_supplyNeed 40) e40)) rfl rfl ?_
      refine r_goto 78 jd_Sh_build_74 rfl ?_
      refine r_istore 80 [(5, .int p39.2), (0, va_rf (some l0)), (1, va_rf l1), (3, va_rf l3), (4, .int l4)] jd_Sh_build_78 (by decide) rfl rfl ?_
      refine r_iload 82 0 jd_Sh_build_80 rfl rfl ?_
      rcases q_ite hh with ⟨c43, hh⟩ | ⟨c43, hh⟩
      · refine r_if_t 93 jd_Sh_build_82 rfl c43 ?_
        refine r_iinc 96 4 [(4, .int (l4 + 1)), (5, .int p39.2), (0, va_rf (some l0)), (1, va_rf l1), (3, va_rf l3)] 1 jd_Sh_build_93 rfl (by decide) (by decide) rfl rfl ?_
        refine r_goto 44 jd_Sh_build_96 rfl ?_
        refine q_sub [2, 3, 4, 0] rfl ?_
        exact hrc _ _ _ _ _ hh
      · refine r_if_f 85 93 jd_Sh_build_82 rfl c43 rfl ?_
        refine r_aload_n 86 1 jd_Sh_build_85 rfl rfl ?_
        refine r_aload_n 87 3 jd_Sh_build_86 rfl rfl ?_
        obtain ⟨b46, e47, hh⟩ := q_bind hh
        obtain ⟨p44, e45, hh⟩ := q_bind hh
        refine r_cV (rest := []) 90 106 5 [va_rf l3] [] jd_Sh_build_87 rfl e47 rfl rfl rfl rfl (q_s8 (Nat.le_of_ble_eq_true rfl)) (q_call_le (Nat.le_of_ble_eq_true rfl) (jm_Sh_takeBack e45)) rfl rfl ?_
        refine r_iload 92 0 jd_Sh_build_90 rfl rfl ?_
        cases hh
        exact r_iret jd_Sh_build_92 rfl ⟨rfl, rfl⟩
theorem jm_Sh_build_L44 {p : q_S × Int32} : ∀ (n : Nat) (x : q_S) (l0 : Nat) (l1 : Option Nat) (l3 : Option Nat) (l4 : Int32), jf_Sh_build_L44 n x l0 l1 l3 l4 = some p → q_X (q_call 129) (fun y o => y = p.1 ∧ o = some (.int p.2)) jq_Sh_build 44 [(0, va_rf (some l0)), (1, va_rf l1), (3, va_rf l3), (4, .int l4)] [] x
  | 0, _, _, _, _, _, hh => nomatch hh
  | n + 1, x, l0, l1, l3, l4, hh => jm_Sh_build_B44 (jm_Sh_build_L44 n) x l0 l1 l3 l4 hh
def jf_Sh_build (x : q_S) (a0 : Nat) (a1 : Option Nat) (a2 : Option Nat) : Option (q_S × Int32) :=
  (q_gR x (some a0) 5 3).bind fun v1 =>
  (q_av x v1 2).bind fun b5 =>
  (jf_AL_size x b5).bind fun p3 =>
  if p3.2 < 30 then
    (q_nO p3.1 9 jdv_9).bind fun x8 =>
    (q_gR x8 (some a0) 5 3).bind fun v10 =>
    (q_av x8 v10 2).bind fun b14 =>
    (jf_AL_size x8 b14).bind fun p12 =>
    (jf_Co_init p12.1 (q_sz p3.1) p12.2 a1 a2).bind fun p16 =>
    (q_gR p16.1 (some a0) 5 3).bind fun v18 =>
    (q_av p16.1 v18 2).bind fun b22 =>
    (jf_AL_add p16.1 b22 (some (q_sz p3.1))).bind fun p20 =>
    jf_Sh_build_L44 lpK p20.1 a0 a1 (some (q_sz p3.1)) 0
  else
    some (p3.1, (-7))
theorem jm_Sh_build {x : q_S} {a0 : Nat} {a1 : Option Nat} {a2 : Option Nat} {p : q_S × Int32} (hh : jf_Sh_build x a0 a1 a2 = some p) : q_call 130 jq_Sh_build [va_rf (some a0), va_rf a1, va_rf a2] x p.1 (some (.int p.2)) := by
  unfold jf_Sh_build at hh
  refine ⟨List.mem_of_getElem? (i := 86) rfl, Nat.le_of_ble_eq_true rfl, List.forall_mem_cons.mpr ⟨rfl, List.forall_mem_cons.mpr ⟨q_cat _, List.forall_mem_cons.mpr ⟨q_cat _, fun _ h => by cases h⟩⟩⟩, ?_⟩
  show q_X (q_call 129) _ jq_Sh_build 0 [(0, va_rf (some a0)), (1, va_rf a1), (2, va_rf a2)] [] x
  refine r_aload_n 1 0 jd_Sh_build_0 rfl rfl ?_
  obtain ⟨v1, e2, hh⟩ := q_bind hh
  refine r_getR 4 10 jd_Sh_build_1 rfl e2 rfl ?_
  obtain ⟨b5, e6, hh⟩ := q_bind hh
  obtain ⟨p3, e4, hh⟩ := q_bind hh
  refine r_cV (rest := []) 7 39 2 [] [.int p3.2] jd_Sh_build_4 rfl e6 rfl rfl rfl rfl (q_s8 (Nat.le_of_ble_eq_true rfl)) (q_call_le (Nat.le_of_ble_eq_true rfl) (jm_AL_size e4)) rfl rfl ?_
  refine r_bipush 9 30 jd_Sh_build_7 (by decide) rfl ?_
  rcases q_ite hh with ⟨c7, hh⟩ | ⟨c7, hh⟩
  · refine r_ic_t 15 jd_Sh_build_9 rfl c7 ?_
    obtain ⟨x8, e9, hh⟩ := q_bind hh
    refine r_new 18 15 jd_Sh_build_15 rfl e9 rfl ?_
    refine r_dupR 19 jd_Sh_build_18 rfl ?_
    refine r_aload_n 20 0 jd_Sh_build_19 rfl rfl ?_
    obtain ⟨v10, e11, hh⟩ := q_bind hh
    refine r_getR 23 10 jd_Sh_build_20 rfl e11 rfl ?_
    obtain ⟨b14, e15, hh⟩ := q_bind hh
    obtain ⟨p12, e13, hh⟩ := q_bind hh
    refine r_cV (rest := [va_rf (some (q_sz p3.1)), va_rf (some (q_sz p3.1))]) 26 39 2 [] [.int p12.2, va_rf (some (q_sz p3.1)), va_rf (some (q_sz p3.1))] jd_Sh_build_23 rfl e15 rfl rfl rfl rfl (q_s8 (Nat.le_of_ble_eq_true rfl)) (q_call_le (Nat.le_of_ble_eq_true rfl) (jm_AL_size e13)) rfl rfl ?_
    refine r_aload_n 27 1 jd_Sh_build_26 rfl rfl ?_
    refine r_aload_n 28 2 jd_Sh_build_27 rfl rfl ?_
    obtain ⟨p16, e17, hh⟩ := q_bind hh
    refine r_cI (rest := [va_rf (some (q_sz p3.1))]) 31 18 [.int p12.2, va_rf a1, va_rf a2] [va_rf (some (q_sz p3.1))] jd_Sh_build_28 rfl rfl rfl (q_s8 (Nat.le_of_ble_eq_true rfl)) (q_call_le (Nat.le_of_ble_eq_true rfl) (jm_Co_init e17)) rfl rfl ?_
    refine r_astore_n 32 [(3, va_rf (some (q_sz p3.1))), (0, va_rf (some a0)), (1, va_rf a1), (2, va_rf a2)] jd_Sh_build_31 (by decide) rfl rfl ?_
    refine r_aload_n 33 1 jd_Sh_build_32 rfl rfl ?_
    obtain ⟨v18, e19, hh⟩ := q_bind hh
    refine r_getR 36 10 jd_Sh_build_33 rfl e19 rfl ?_
    refine r_aload_n 37 0 jd_Sh_build_36 rfl rfl ?_
    obtain ⟨b22, e23, hh⟩ := q_bind hh
    obtain ⟨p20, e21, hh⟩ := q_bind hh
    refine r_cV (rest := []) 40 103 2 [va_rf (some (q_sz p3.1))] [.int p20.2] jd_Sh_build_37 rfl e23 rfl rfl rfl rfl (q_s8 (Nat.le_of_ble_eq_true rfl)) (q_call_le (Nat.le_of_ble_eq_true rfl) (jm_AL_add e21)) rfl rfl ?_
    refine r_popI 41 jd_Sh_build_40 rfl ?_
    refine r_iconst 42 0 jd_Sh_build_41 (by decide) rfl ?_
    refine r_istore 44 [(4, .int 0), (3, va_rf (some (q_sz p3.1))), (0, va_rf (some a0)), (1, va_rf a1), (2, va_rf a2)] jd_Sh_build_42 (by decide) rfl rfl ?_
    refine q_sub [2, 3, 1, 0] rfl ?_
    exact jm_Sh_build_L44 lpK _ _ _ _ _ hh
  · refine r_ic_f 12 15 jd_Sh_build_9 rfl c7 rfl ?_
    refine r_bipush 14 (-7) jd_Sh_build_12 (by decide) rfl ?_
    cases hh
    exact r_iret jd_Sh_build_14 rfl ⟨rfl, rfl⟩
-- BeanContexts$Shelf.obtain(LBeanContexts$Key;)I
def jf_Sh_obtain (rc_Sh_obtain : q_S → Nat → Option Nat → Option (q_S × Int32)) (x : q_S) (a0 : Nat) (a1 : Option Nat) : Option (q_S × Int32) :=
  (q_av x (some a0) 5).bind fun b3 =>
  (jf_Sh_cachedFor x b3 a1).bind fun p1 =>
  if p1.2 = none then
    (q_gI p1.1 a1 8 6).bind fun v6 =>
    if v6 < 2 then
      (q_gR p1.1 a1 8 5).bind fun v9 =>
      if v9 = none then
        (q_av p1.1 (some a0) 5).bind fun b33 =>
        (jf_Sh_build p1.1 b33 a1 none).bind fun p31 =>
        some (p31.1, p31.2)
      else
        (q_gR p1.1 a1 8 5).bind fun v12 =>
        (q_av p1.1 (some a0) 5).bind fun b16 =>
        (rc_Sh_obtain p1.1 b16 v12).bind fun p14 =>
        if 0 ≤ p14.2 then
          (q_gR p14.1 (some a0) 5 3).bind fun v19 =>
          (q_av p14.1 v19 2).bind fun b23 =>
          (jf_AL_get p14.1 b23 p14.2).bind fun p21 =>
          (q_ck p21.1 p21.2 9).bind fun u26 =>
          (q_av p21.1 (some a0) 5).bind fun b29 =>
          (jf_Sh_build p21.1 b29 a1 p21.2).bind fun p27 =>
          some (p27.1, p27.2)
        else
          some (p14.1, p14.2)
    else
      some (p1.1, (-8))
  else
    (q_av p1.1 (some a0) 5).bind fun b37 =>
    (jf_Sh_use p1.1 b37 p1.2).bind fun p35 =>
    (q_gI p35.1 p1.2 9 0).bind fun v39 =>
    some (p35.1, v39)
theorem jm_Sh_obtain {d : Nat} (hd : 130 ≤ d) {rc_Sh_obtain : q_S → Nat → Option Nat → Option (q_S × Int32)} (hr_Sh_obtain : ∀ {x : q_S} {a0 : Nat} {a1 : Option Nat} {p : q_S × Int32}, rc_Sh_obtain x a0 a1 = some p → q_call d jq_Sh_obtain [va_rf (some a0), va_rf a1] x p.1 (some (.int p.2))) {x : q_S} {a0 : Nat} {a1 : Option Nat} {p : q_S × Int32} (hh : jf_Sh_obtain rc_Sh_obtain x a0 a1 = some p) : q_call (d + 1) jq_Sh_obtain [va_rf (some a0), va_rf a1] x p.1 (some (.int p.2)) := by
  unfold jf_Sh_obtain at hh
  refine ⟨List.mem_of_getElem? (i := 85) rfl, Nat.le_of_ble_eq_true rfl, List.forall_mem_cons.mpr ⟨rfl, List.forall_mem_cons.mpr ⟨q_cat _, fun _ h => by cases h⟩⟩, ?_⟩
  show q_X (q_call (d + 0)) _ jq_Sh_obtain 0 [(0, va_rf (some a0)), (1, va_rf a1)] [] x
  refine r_aload_n 1 0 jd_Sh_obtain_0 rfl rfl ?_
  refine r_aload_n 2 1 jd_Sh_obtain_1 rfl rfl ?_
  obtain ⟨b3, e4, hh⟩ := q_bind hh
  obtain ⟨p1, e2, hh⟩ := q_bind hh
  refine r_cV (rest := []) 5 99 5 [va_rf a1] [va_rf p1.2] jd_Sh_obtain_2 rfl e4 rfl rfl rfl rfl (q_s8 (Nat.le_of_ble_eq_true rfl)) (q_call_le (by omega) (jm_Sh_cachedFor e2)) rfl rfl ?_
  refine r_astore_n 6 [(2, va_rf p1.2), (0, va_rf (some a0)), (1, va_rf a1)] jd_Sh_obtain_5 (by decide) rfl rfl ?_
  refine r_aload_n 7 0 jd_Sh_obtain_6 rfl rfl ?_
  rcases q_ite hh with ⟨c5, hh⟩ | ⟨c5, hh⟩
  · refine r_ifnull_t 20 jd_Sh_obtain_7 rfl c5 ?_
    refine r_aload_n 21 2 jd_Sh_obtain_20 rfl rfl ?_
    obtain ⟨v6, e7, hh⟩ := q_bind hh
    refine r_getI 24 73 jd_Sh_obtain_21 rfl e7 rfl ?_
    refine r_iconst 25 2 jd_Sh_obtain_24 (by decide) rfl ?_
    rcases q_ite hh with ⟨c8, hh⟩ | ⟨c8, hh⟩
    · refine r_ic_t 31 jd_Sh_obtain_25 rfl c8 ?_
      refine r_aload_n 32 2 jd_Sh_obtain_31 rfl rfl ?_
      obtain ⟨v9, e10, hh⟩ := q_bind hh
      refine r_getR 35 74 jd_Sh_obtain_32 rfl e10 rfl ?_
      rcases q_ite hh with ⟨c11, hh⟩ | ⟨c11, hh⟩
      · refine r_ifnonnull_f 38 45 jd_Sh_obtain_35 rfl c11 rfl ?_
        refine r_aload_n 39 1 jd_Sh_obtain_38 rfl rfl ?_
        refine r_aload_n 40 2 jd_Sh_obtain_39 rfl rfl ?_
        refine r_null 41 jd_Sh_obtain_40 rfl ?_
        obtain ⟨b33, e34, hh⟩ := q_bind hh
        obtain ⟨p31, e32, hh⟩ := q_bind hh
        refine r_cV (rest := []) 44 101 5 [va_rf a1, va_rf none] [.int p31.2] jd_Sh_obtain_41 rfl e34 rfl rfl rfl rfl (q_s8 (Nat.le_of_ble_eq_true rfl)) (q_call_le (by omega) (jm_Sh_build e32)) rfl rfl ?_
        cases hh
        exact r_iret jd_Sh_obtain_44 rfl ⟨rfl, rfl⟩
      · refine r_ifnonnull_t 45 jd_Sh_obtain_35 rfl c11 ?_
        refine r_aload_n 46 1 jd_Sh_obtain_45 rfl rfl ?_
        refine r_aload_n 47 2 jd_Sh_obtain_46 rfl rfl ?_
        obtain ⟨v12, e13, hh⟩ := q_bind hh
        refine r_getR 50 74 jd_Sh_obtain_47 rfl e13 rfl ?_
        obtain ⟨b16, e17, hh⟩ := q_bind hh
        obtain ⟨p14, e15, hh⟩ := q_bind hh
        refine r_cV (rest := []) 53 100 5 [va_rf v12] [.int p14.2] jd_Sh_obtain_50 rfl e17 rfl rfl rfl rfl (q_s8 (Nat.le_of_ble_eq_true rfl)) (q_call_le (by omega) (hr_Sh_obtain e15)) rfl rfl ?_
        refine r_istore_n 54 [(3, .int p14.2), (2, va_rf p1.2), (0, va_rf (some a0)), (1, va_rf a1)] jd_Sh_obtain_53 (by decide) rfl rfl ?_
        refine r_iload_n 55 0 jd_Sh_obtain_54 rfl rfl ?_
        rcases q_ite hh with ⟨c18, hh⟩ | ⟨c18, hh⟩
        · refine r_if_t 62 jd_Sh_obtain_55 rfl c18 ?_
          refine r_aload_n 63 2 jd_Sh_obtain_62 rfl rfl ?_
          refine r_aload_n 64 3 jd_Sh_obtain_63 rfl rfl ?_
          refine r_aload_n 65 2 jd_Sh_obtain_64 rfl rfl ?_
          obtain ⟨v19, e20, hh⟩ := q_bind hh
          refine r_getR 68 10 jd_Sh_obtain_65 rfl e20 rfl ?_
          refine r_iload_n 69 0 jd_Sh_obtain_68 rfl rfl ?_
          obtain ⟨b23, e24, hh⟩ := q_bind hh
          obtain ⟨p21, e22, hh⟩ := q_bind hh
          refine r_cV (rest := [va_rf a1, va_rf (some a0)]) 72 40 2 [.int p14.2] [va_rf p21.2, va_rf a1, va_rf (some a0)] jd_Sh_obtain_69 rfl e24 rfl rfl rfl rfl (q_s8 (Nat.le_of_ble_eq_true rfl)) (q_call_le (by omega) (jm_AL_get e22)) rfl rfl ?_
          obtain ⟨u26, e25, hh⟩ := q_bind hh
          refine r_cast 75 0 9 jd_Sh_obtain_72 rfl rfl e25 rfl ?_
          obtain ⟨b29, e30, hh⟩ := q_bind hh
          obtain ⟨p27, e28, hh⟩ := q_bind hh
          refine r_cV (rest := []) 78 101 5 [va_rf a1, va_rf p21.2] [.int p27.2] jd_Sh_obtain_75 rfl e30 rfl rfl rfl rfl (q_s8 (Nat.le_of_ble_eq_true rfl)) (q_call_le (by omega) (jm_Sh_build e28)) rfl rfl ?_
          cases hh
          exact r_iret jd_Sh_obtain_78 rfl ⟨rfl, rfl⟩
        · refine r_if_f 58 62 jd_Sh_obtain_55 rfl c18 rfl ?_
          refine r_iload_n 59 0 jd_Sh_obtain_58 rfl rfl ?_
          refine r_goto 78 jd_Sh_obtain_59 rfl ?_
          cases hh
          exact r_iret jd_Sh_obtain_78 rfl ⟨rfl, rfl⟩
    · refine r_ic_f 28 31 jd_Sh_obtain_25 rfl c8 rfl ?_
      refine r_bipush 30 (-8) jd_Sh_obtain_28 (by decide) rfl ?_
      cases hh
      exact r_iret jd_Sh_obtain_30 rfl ⟨rfl, rfl⟩
  · refine r_ifnull_f 10 20 jd_Sh_obtain_7 rfl c5 rfl ?_
    refine r_aload_n 11 1 jd_Sh_obtain_10 rfl rfl ?_
    refine r_aload_n 12 0 jd_Sh_obtain_11 rfl rfl ?_
    obtain ⟨b37, e38, hh⟩ := q_bind hh
    obtain ⟨p35, e36, hh⟩ := q_bind hh
    refine r_cV (rest := []) 15 102 5 [va_rf p1.2] [] jd_Sh_obtain_12 rfl e38 rfl rfl rfl rfl (q_s8 (Nat.le_of_ble_eq_true rfl)) (q_call_le (by omega) (jm_Sh_use e36)) rfl rfl ?_
    refine r_aload_n 16 0 jd_Sh_obtain_15 rfl rfl ?_
    obtain ⟨v39, e40, hh⟩ := q_bind hh
    refine r_getI 19 18 jd_Sh_obtain_16 rfl e40 rfl ?_
    cases hh
    exact r_iret jd_Sh_obtain_19 rfl ⟨rfl, rfl⟩
def jg_Sh_obtain : Nat → q_S → Nat → Option Nat → Option (q_S × Int32)
  | 0, _, _, _ => none
  | n + 1, x, a0, a1 => jf_Sh_obtain (jg_Sh_obtain n) x a0 a1
theorem jn_Sh_obtain : ∀ (n : Nat), ∀ {x : q_S} {a0 : Nat} {a1 : Option Nat} {p : q_S × Int32}, jg_Sh_obtain n x a0 a1 = some p → q_call (130 + 1 * n) jq_Sh_obtain [va_rf (some a0), va_rf a1] x p.1 (some (.int p.2)) := by
  intro n
  induction n with
  | zero => intro x a0 a1 p hh; exact nomatch hh
  | succ n ih => intro x a0 a1 p hh; exact q_call_le (by omega) (jm_Sh_obtain (d := 130 + 1 * n) (Nat.le_add_right _ _) ih hh)
-- BeanContexts.request(I)I
def jf_Bc_request (x : q_S) (a0 : Nat) (a1 : Int32) : Option (q_S × Int32) :=
  (q_gI x (some a0) 0 5).bind fun v1 =>
  if v1 = 0 then
    (q_av x (some a0) 0).bind fun b6 =>
    (jf_Bc_isConfiguration x b6 a1).bind fun p4 =>
    if p4.2 = 0 then
      some (p4.1, (-1))
    else
      (q_gR p4.1 (some a0) 0 4).bind fun v9 =>
      (q_gR p4.1 (some a0) 0 1).bind fun v11 =>
      (q_av p4.1 v11 2).bind fun b15 =>
      (jf_AL_get p4.1 b15 a1).bind fun p13 =>
      (q_ck p13.1 p13.2 8).bind fun u18 =>
      (q_av p13.1 v9 5).bind fun b21 =>
      (jg_Sh_obtain 6 p13.1 b21 p13.2).bind fun p19 =>
      some (p19.1, p19.2)
  else
    some (x, (-1))
theorem jm_Bc_request {x : q_S} {a0 : Nat} {a1 : Int32} {p : q_S × Int32} (hh : jf_Bc_request x a0 a1 = some p) : q_call 137 jq_Bc_request [va_rf (some a0), .int a1] x p.1 (some (.int p.2)) := by
  unfold jf_Bc_request at hh
  refine ⟨List.mem_of_getElem? (i := 84) rfl, Nat.le_of_ble_eq_true rfl, List.forall_mem_cons.mpr ⟨rfl, List.forall_mem_cons.mpr ⟨rfl, fun _ h => by cases h⟩⟩, ?_⟩
  show q_X (q_call 136) _ jq_Bc_request 0 [(0, va_rf (some a0)), (1, .int a1)] [] x
  refine r_aload_n 1 0 jd_Bc_request_0 rfl rfl ?_
  obtain ⟨v1, e2, hh⟩ := q_bind hh
  refine r_getI 4 72 jd_Bc_request_1 rfl e2 rfl ?_
  rcases q_ite hh with ⟨c3, hh⟩ | ⟨c3, hh⟩
  · refine r_if_f 7 15 jd_Bc_request_4 rfl (fun z => z c3) rfl ?_
    refine r_aload_n 8 0 jd_Bc_request_7 rfl rfl ?_
    refine r_iload_n 9 1 jd_Bc_request_8 rfl rfl ?_
    obtain ⟨b6, e7, hh⟩ := q_bind hh
    obtain ⟨p4, e5, hh⟩ := q_bind hh
    refine r_cV (rest := []) 12 52 0 [.int a1] [.int p4.2] jd_Bc_request_9 rfl e7 rfl rfl rfl rfl (q_s8 (Nat.le_of_ble_eq_true rfl)) (q_call_le (Nat.le_of_ble_eq_true rfl) (jm_Bc_isConfiguration e5)) rfl rfl ?_
    rcases q_ite hh with ⟨c8, hh⟩ | ⟨c8, hh⟩
    · refine r_if_f 15 17 jd_Bc_request_12 rfl (fun z => z c8) rfl ?_
      refine r_iconst 16 (-1) jd_Bc_request_15 (by decide) rfl ?_
      cases hh
      exact r_iret jd_Bc_request_16 rfl ⟨rfl, rfl⟩
    · refine r_if_t 17 jd_Bc_request_12 rfl c8 ?_
      refine r_aload_n 18 0 jd_Bc_request_17 rfl rfl ?_
      obtain ⟨v9, e10, hh⟩ := q_bind hh
      refine r_getR 21 4 jd_Bc_request_18 rfl e10 rfl ?_
      refine r_aload_n 22 0 jd_Bc_request_21 rfl rfl ?_
      obtain ⟨v11, e12, hh⟩ := q_bind hh
      refine r_getR 25 1 jd_Bc_request_22 rfl e12 rfl ?_
      refine r_iload_n 26 1 jd_Bc_request_25 rfl rfl ?_
      obtain ⟨b15, e16, hh⟩ := q_bind hh
      obtain ⟨p13, e14, hh⟩ := q_bind hh
      refine r_cV (rest := [va_rf v9]) 29 48 2 [.int a1] [va_rf p13.2, va_rf v9] jd_Bc_request_26 rfl e16 rfl rfl rfl rfl (q_s8 (Nat.le_of_ble_eq_true rfl)) (q_call_le (Nat.le_of_ble_eq_true rfl) (jm_AL_get e14)) rfl rfl ?_
      obtain ⟨u18, e17, hh⟩ := q_bind hh
      refine r_cast 32 2 8 jd_Bc_request_29 rfl rfl e17 rfl ?_
      obtain ⟨b21, e22, hh⟩ := q_bind hh
      obtain ⟨p19, e20, hh⟩ := q_bind hh
      refine r_cV (rest := []) 35 98 5 [va_rf p13.2] [.int p19.2] jd_Bc_request_32 rfl e22 rfl rfl rfl rfl (q_s8 (Nat.le_of_ble_eq_true rfl)) (q_call_le (Nat.le_of_ble_eq_true rfl) (jn_Sh_obtain 6 e20)) rfl rfl ?_
      cases hh
      exact r_iret jd_Bc_request_35 rfl ⟨rfl, rfl⟩
  · refine r_if_t 15 jd_Bc_request_4 rfl c3 ?_
    refine r_iconst 16 (-1) jd_Bc_request_15 (by decide) rfl ?_
    cases hh
    exact r_iret jd_Bc_request_16 rfl ⟨rfl, rfl⟩
-- BeanContexts$Bean.clear()V
def jf_Be_clear (x : q_S) (a0 : Nat) : Option (q_S × Unit) :=
  (q_pI x (some a0) 10 4 0).bind fun x1 =>
  (q_pI x1 (some a0) 10 5 0).bind fun x3 =>
  (q_pI x3 (some a0) 10 6 0).bind fun x5 =>
  some (x5, ())
theorem jm_Be_clear {x : q_S} {a0 : Nat} {p : q_S × Unit} (hh : jf_Be_clear x a0 = some p) : q_call 1 jq_Be_clear [va_rf (some a0)] x p.1 (none) := by
  unfold jf_Be_clear at hh
  refine ⟨List.mem_of_getElem? (i := 98) rfl, Nat.le_of_ble_eq_true rfl, List.forall_mem_cons.mpr ⟨rfl, fun _ h => by cases h⟩, ?_⟩
  show q_X (q_call 0) _ jq_Be_clear 0 [(0, va_rf (some a0))] [] x
  refine r_aload_n 1 0 jd_Be_clear_0 rfl rfl ?_
  refine r_iconst 2 0 jd_Be_clear_1 (by decide) rfl ?_
  obtain ⟨x1, e2, hh⟩ := q_bind hh
  refine r_putI 5 25 jd_Be_clear_2 rfl rfl (Or.inl rfl) e2 rfl ?_
  refine r_aload_n 6 0 jd_Be_clear_5 rfl rfl ?_
  refine r_iconst 7 0 jd_Be_clear_6 (by decide) rfl ?_
  obtain ⟨x3, e4, hh⟩ := q_bind hh
  refine r_putI 10 23 jd_Be_clear_7 rfl rfl (Or.inl rfl) e4 rfl ?_
  refine r_aload_n 11 0 jd_Be_clear_10 rfl rfl ?_
  refine r_iconst 12 0 jd_Be_clear_11 (by decide) rfl ?_
  obtain ⟨x5, e6, hh⟩ := q_bind hh
  refine r_putI 15 24 jd_Be_clear_12 rfl rfl (Or.inl rfl) e6 rfl ?_
  cases hh
  exact r_vret jd_Be_clear_15 rfl ⟨rfl, rfl⟩
-- BeanContexts$Workshop.clearMocks(LBeanContexts$Context;)I
def jf_Wo_clearMocks_B4 (rc : q_S → Nat → Option Nat → Int32 → Int32 → Option (q_S × Int32)) (x : q_S) (l0 : Nat) (l1 : Option Nat) (l2 : Int32) (l3 : Int32) : Option (q_S × Int32) :=
  (q_gR x (some l0) 4 2).bind fun v1 =>
  (q_av x v1 2).bind fun b5 =>
  (jf_AL_size x b5).bind fun p3 =>
  if p3.2 ≤ l3 then
    some (p3.1, l2)
  else
    (q_gR p3.1 (some l0) 4 2).bind fun v8 =>
    (q_av p3.1 v8 2).bind fun b12 =>
    (jf_AL_get p3.1 b12 l3).bind fun p10 =>
    (q_ck p10.1 p10.2 10).bind fun u15 =>
    (q_gI p10.1 p10.2 10 2).bind fun v16 =>
    if v16 = 0 then
      rc p10.1 l0 l1 l2 (l3 + 1)
    else
      (q_gR p10.1 p10.2 10 1).bind fun v19 =>
      if v19 = l1 then
        (q_av p10.1 p10.2 10).bind fun b24 =>
        (jf_Be_clear p10.1 b24).bind fun p22 =>
        rc p22.1 l0 l1 (l2 + 1) (l3 + 1)
      else
        (q_gR p10.1 p10.2 10 1).bind fun v26 =>
        (q_av p10.1 l1 9).bind fun b30 =>
        (jf_Co_hasAncestor p10.1 b30 v26).bind fun p28 =>
        if p28.2 = 0 then
          rc p28.1 l0 l1 l2 (l3 + 1)
        else
          (q_av p28.1 p10.2 10).bind fun b35 =>
          (jf_Be_clear p28.1 b35).bind fun p33 =>
          rc p33.1 l0 l1 (l2 + 1) (l3 + 1)
def jf_Wo_clearMocks_L4 : Nat → q_S → Nat → Option Nat → Int32 → Int32 → Option (q_S × Int32)
  | 0, _, _, _, _, _ => none
  | n + 1, x, l0, l1, l2, l3 => jf_Wo_clearMocks_B4 (jf_Wo_clearMocks_L4 n) x l0 l1 l2 l3
theorem jm_Wo_clearMocks_B4 {p : q_S × Int32} {rc : q_S → Nat → Option Nat → Int32 → Int32 → Option (q_S × Int32)} (hrc : ∀ (x : q_S) (l0 : Nat) (l1 : Option Nat) (l2 : Int32) (l3 : Int32), rc x l0 l1 l2 l3 = some p → q_X (q_call 3) (fun y o => y = p.1 ∧ o = some (.int p.2)) jq_Wo_clearMocks 4 [(0, va_rf (some l0)), (1, va_rf l1), (2, .int l2), (3, .int l3)] [] x) (x : q_S) (l0 : Nat) (l1 : Option Nat) (l2 : Int32) (l3 : Int32) (hh : jf_Wo_clearMocks_B4 rc x l0 l1 l2 l3 = some p) : q_X (q_call 3) (fun y o => y = p.1 ∧ o = some (.int p.2)) jq_Wo_clearMocks 4 [(0, va_rf (some l0)), (1, va_rf l1), (2, .int l2), (3, .int l3)] [] x := by
  unfold jf_Wo_clearMocks_B4 at hh
  refine r_iload_n 5 3 jd_Wo_clearMocks_4 rfl rfl ?_
  refine r_aload_n 6 0 jd_Wo_clearMocks_5 rfl rfl ?_
  obtain ⟨v1, e2, hh⟩ := q_bind hh
  refine r_getR 9 15 jd_Wo_clearMocks_6 rfl e2 rfl ?_
  obtain ⟨b5, e6, hh⟩ := q_bind hh
  obtain ⟨p3, e4, hh⟩ := q_bind hh
  refine r_cV (rest := [.int l3]) 12 46 2 [] [.int p3.2, .int l3] jd_Wo_clearMocks_9 rfl e6 rfl rfl rfl rfl (q_s8 (Nat.le_of_ble_eq_true rfl)) (q_call_le (Nat.le_of_ble_eq_true rfl) (jm_AL_size e4)) rfl rfl ?_
  rcases q_ite hh with ⟨c7, hh⟩ | ⟨c7, hh⟩
  · refine r_ic_t 71 jd_Wo_clearMocks_12 rfl c7 ?_
    refine r_iload_n 72 2 jd_Wo_clearMocks_71 rfl rfl ?_
    cases hh
    exact r_iret jd_Wo_clearMocks_72 rfl ⟨rfl, rfl⟩
  · refine r_ic_f 15 71 jd_Wo_clearMocks_12 rfl c7 rfl ?_
    refine r_aload_n 16 0 jd_Wo_clearMocks_15 rfl rfl ?_
    obtain ⟨v8, e9, hh⟩ := q_bind hh
    refine r_getR 19 15 jd_Wo_clearMocks_16 rfl e9 rfl ?_
    refine r_iload_n 20 3 jd_Wo_clearMocks_19 rfl rfl ?_
    obtain ⟨b12, e13, hh⟩ := q_bind hh
    obtain ⟨p10, e11, hh⟩ := q_bind hh
    refine r_cV (rest := []) 23 45 2 [.int l3] [va_rf p10.2] jd_Wo_clearMocks_20 rfl e13 rfl rfl rfl rfl (q_s8 (Nat.le_of_ble_eq_true rfl)) (q_call_le (Nat.le_of_ble_eq_true rfl) (jm_AL_get e11)) rfl rfl ?_
    obtain ⟨u15, e14, hh⟩ := q_bind hh
    refine r_cast 26 1 10 jd_Wo_clearMocks_23 rfl rfl e14 rfl ?_
    refine r_astore 28 [(4, va_rf p10.2), (0, va_rf (some l0)), (1, va_rf l1), (2, .int l2), (3, .int l3)] jd_Wo_clearMocks_26 (by decide) rfl rfl ?_
    refine r_aload 30 0 jd_Wo_clearMocks_28 rfl rfl ?_
    obtain ⟨v16, e17, hh⟩ := q_bind hh
    refine r_getI 33 20 jd_Wo_clearMocks_30 rfl e17 rfl ?_
    rcases q_ite hh with ⟨c18, hh⟩ | ⟨c18, hh⟩
    · refine r_if_t 65 jd_Wo_clearMocks_33 rfl c18 ?_
      refine r_iinc 68 4 [(3, .int (l3 + 1)), (4, va_rf p10.2), (0, va_rf (some l0)), (1, va_rf l1), (2, .int l2)] 1 jd_Wo_clearMocks_65 rfl (by decide) (by decide) rfl rfl ?_
      refine r_goto 4 jd_Wo_clearMocks_68 rfl ?_
      refine q_sub [2, 3, 4, 0] rfl ?_
      exact hrc _ _ _ _ _ hh
    · refine r_if_f 36 65 jd_Wo_clearMocks_33 rfl c18 rfl ?_
      refine r_aload 38 0 jd_Wo_clearMocks_36 rfl rfl ?_
      obtain ⟨v19, e20, hh⟩ := q_bind hh
      refine r_getR 41 26 jd_Wo_clearMocks_38 rfl e20 rfl ?_
      refine r_aload_n 42 2 jd_Wo_clearMocks_41 rfl rfl ?_
      rcases q_ite hh with ⟨c21, hh⟩ | ⟨c21, hh⟩
      · refine r_ac_t 57 jd_Wo_clearMocks_42 rfl c21 ?_
        refine r_aload 59 0 jd_Wo_clearMocks_57 rfl rfl ?_
        obtain ⟨b24, e25, hh⟩ := q_bind hh
        obtain ⟨p22, e23, hh⟩ := q_bind hh
        refine r_cV (rest := []) 62 112 10 [] [] jd_Wo_clearMocks_59 rfl e25 rfl rfl rfl rfl (q_s8 (Nat.le_of_ble_eq_true rfl)) (q_call_le (Nat.le_of_ble_eq_true rfl) (jm_Be_clear e23)) rfl rfl ?_
        refine r_iinc 65 3 [(2, .int (l2 + 1)), (4, va_rf p10.2), (0, va_rf (some l0)), (1, va_rf l1), (3, .int l3)] 1 jd_Wo_clearMocks_62 rfl (by decide) (by decide) rfl rfl ?_
        refine r_iinc 68 4 [(3, .int (l3 + 1)), (2, .int (l2 + 1)), (4, va_rf p10.2), (0, va_rf (some l0)), (1, va_rf l1)] 1 jd_Wo_clearMocks_65 rfl (by decide) (by decide) rfl rfl ?_
        refine r_goto 4 jd_Wo_clearMocks_68 rfl ?_
        refine q_sub [3, 4, 1, 0] rfl ?_
        exact hrc _ _ _ _ _ hh
      · refine r_ac_f 45 57 jd_Wo_clearMocks_42 rfl c21 rfl ?_
        refine r_aload_n 46 2 jd_Wo_clearMocks_45 rfl rfl ?_
        refine r_aload 48 0 jd_Wo_clearMocks_46 rfl rfl ?_
        obtain ⟨v26, e27, hh⟩ := q_bind hh
        refine r_getR 51 26 jd_Wo_clearMocks_48 rfl e27 rfl ?_
        obtain ⟨b30, e31, hh⟩ := q_bind hh
        obtain ⟨p28, e29, hh⟩ := q_bind hh
        refine r_cV (rest := []) 54 113 9 [va_rf v26] [.int p28.2] jd_Wo_clearMocks_51 rfl e31 rfl rfl rfl rfl (q_s8 (Nat.le_of_ble_eq_true rfl)) (q_call_le (Nat.le_of_ble_eq_true rfl) (jm_Co_hasAncestor e29)) rfl rfl ?_
        rcases q_ite hh with ⟨c32, hh⟩ | ⟨c32, hh⟩
        · refine r_if_t 65 jd_Wo_clearMocks_54 rfl c32 ?_
          refine r_iinc 68 4 [(3, .int (l3 + 1)), (4, va_rf p10.2), (0, va_rf (some l0)), (1, va_rf l1), (2, .int l2)] 1 jd_Wo_clearMocks_65 rfl (by decide) (by decide) rfl rfl ?_
          refine r_goto 4 jd_Wo_clearMocks_68 rfl ?_
          refine q_sub [2, 3, 4, 0] rfl ?_
          exact hrc _ _ _ _ _ hh
        · refine r_if_f 57 65 jd_Wo_clearMocks_54 rfl c32 rfl ?_
          refine r_aload 59 0 jd_Wo_clearMocks_57 rfl rfl ?_
          obtain ⟨b35, e36, hh⟩ := q_bind hh
          obtain ⟨p33, e34, hh⟩ := q_bind hh
          refine r_cV (rest := []) 62 112 10 [] [] jd_Wo_clearMocks_59 rfl e36 rfl rfl rfl rfl (q_s8 (Nat.le_of_ble_eq_true rfl)) (q_call_le (Nat.le_of_ble_eq_true rfl) (jm_Be_clear e34)) rfl rfl ?_
          refine r_iinc 65 3 [(2, .int (l2 + 1)), (4, va_rf p10.2), (0, va_rf (some l0)), (1, va_rf l1), (3, .int l3)] 1 jd_Wo_clearMocks_62 rfl (by decide) (by decide) rfl rfl ?_
          refine r_iinc 68 4 [(3, .int (l3 + 1)), (2, .int (l2 + 1)), (4, va_rf p10.2), (0, va_rf (some l0)), (1, va_rf l1)] 1 jd_Wo_clearMocks_65 rfl (by decide) (by decide) rfl rfl ?_
          refine r_goto 4 jd_Wo_clearMocks_68 rfl ?_
          refine q_sub [3, 4, 1, 0] rfl ?_
          exact hrc _ _ _ _ _ hh
theorem jm_Wo_clearMocks_L4 {p : q_S × Int32} : ∀ (n : Nat) (x : q_S) (l0 : Nat) (l1 : Option Nat) (l2 : Int32) (l3 : Int32), jf_Wo_clearMocks_L4 n x l0 l1 l2 l3 = some p → q_X (q_call 3) (fun y o => y = p.1 ∧ o = some (.int p.2)) jq_Wo_clearMocks 4 [(0, va_rf (some l0)), (1, va_rf l1), (2, .int l2), (3, .int l3)] [] x
  | 0, _, _, _, _, _, hh => nomatch hh
  | n + 1, x, l0, l1, l2, l3, hh => jm_Wo_clearMocks_B4 (jm_Wo_clearMocks_L4 n) x l0 l1 l2 l3 hh
def jf_Wo_clearMocks (x : q_S) (a0 : Nat) (a1 : Option Nat) : Option (q_S × Int32) :=
  jf_Wo_clearMocks_L4 lpK x a0 a1 0 0
theorem jm_Wo_clearMocks {x : q_S} {a0 : Nat} {a1 : Option Nat} {p : q_S × Int32} (hh : jf_Wo_clearMocks x a0 a1 = some p) : q_call 4 jq_Wo_clearMocks [va_rf (some a0), va_rf a1] x p.1 (some (.int p.2)) := by
  unfold jf_Wo_clearMocks at hh
  refine ⟨List.mem_of_getElem? (i := 97) rfl, Nat.le_of_ble_eq_true rfl, List.forall_mem_cons.mpr ⟨rfl, List.forall_mem_cons.mpr ⟨q_cat _, fun _ h => by cases h⟩⟩, ?_⟩
  show q_X (q_call 3) _ jq_Wo_clearMocks 0 [(0, va_rf (some a0)), (1, va_rf a1)] [] x
  refine r_iconst 1 0 jd_Wo_clearMocks_0 (by decide) rfl ?_
  refine r_istore_n 2 [(2, .int 0), (0, va_rf (some a0)), (1, va_rf a1)] jd_Wo_clearMocks_1 (by decide) rfl rfl ?_
  refine r_iconst 3 0 jd_Wo_clearMocks_2 (by decide) rfl ?_
  refine r_istore_n 4 [(3, .int 0), (2, .int 0), (0, va_rf (some a0)), (1, va_rf a1)] jd_Wo_clearMocks_3 (by decide) rfl rfl ?_
  refine q_sub [2, 3, 1, 0] rfl ?_
  exact jm_Wo_clearMocks_L4 lpK _ _ _ _ _ hh
-- BeanContexts.reset(I)I
def jf_Bc_reset (x : q_S) (a0 : Nat) (a1 : Int32) : Option (q_S × Int32) :=
  (q_av x (some a0) 0).bind fun b3 =>
  (jf_Bc_contextOf x b3 a1).bind fun p1 =>
  if p1.2 = none then
    some (p1.1, (-1))
  else
    (q_gR p1.1 (some a0) 0 3).bind fun v6 =>
    (q_av p1.1 v6 4).bind fun b10 =>
    (jf_Wo_clearMocks p1.1 b10 p1.2).bind fun p8 =>
    some (p8.1, p8.2)
theorem jm_Bc_reset {x : q_S} {a0 : Nat} {a1 : Int32} {p : q_S × Int32} (hh : jf_Bc_reset x a0 a1 = some p) : q_call 6 jq_Bc_reset [va_rf (some a0), .int a1] x p.1 (some (.int p.2)) := by
  unfold jf_Bc_reset at hh
  refine ⟨List.mem_of_getElem? (i := 96) rfl, Nat.le_of_ble_eq_true rfl, List.forall_mem_cons.mpr ⟨rfl, List.forall_mem_cons.mpr ⟨rfl, fun _ h => by cases h⟩⟩, ?_⟩
  show q_X (q_call 5) _ jq_Bc_reset 0 [(0, va_rf (some a0)), (1, .int a1)] [] x
  refine r_aload_n 1 0 jd_Bc_reset_0 rfl rfl ?_
  refine r_iload_n 2 1 jd_Bc_reset_1 rfl rfl ?_
  obtain ⟨b3, e4, hh⟩ := q_bind hh
  obtain ⟨p1, e2, hh⟩ := q_bind hh
  refine r_cV (rest := []) 5 64 0 [.int a1] [va_rf p1.2] jd_Bc_reset_2 rfl e4 rfl rfl rfl rfl (q_s8 (Nat.le_of_ble_eq_true rfl)) (q_call_le (Nat.le_of_ble_eq_true rfl) (jm_Bc_contextOf e2)) rfl rfl ?_
  refine r_astore_n 6 [(2, va_rf p1.2), (0, va_rf (some a0)), (1, .int a1)] jd_Bc_reset_5 (by decide) rfl rfl ?_
  refine r_aload_n 7 0 jd_Bc_reset_6 rfl rfl ?_
  rcases q_ite hh with ⟨c5, hh⟩ | ⟨c5, hh⟩
  · refine r_ifnonnull_f 10 14 jd_Bc_reset_7 rfl c5 rfl ?_
    refine r_iconst 11 (-1) jd_Bc_reset_10 (by decide) rfl ?_
    refine r_goto 22 jd_Bc_reset_11 rfl ?_
    cases hh
    exact r_iret jd_Bc_reset_22 rfl ⟨rfl, rfl⟩
  · refine r_ifnonnull_t 14 jd_Bc_reset_7 rfl c5 ?_
    refine r_aload_n 15 1 jd_Bc_reset_14 rfl rfl ?_
    obtain ⟨v6, e7, hh⟩ := q_bind hh
    refine r_getR 18 3 jd_Bc_reset_15 rfl e7 rfl ?_
    refine r_aload_n 19 0 jd_Bc_reset_18 rfl rfl ?_
    obtain ⟨b10, e11, hh⟩ := q_bind hh
    obtain ⟨p8, e9, hh⟩ := q_bind hh
    refine r_cV (rest := []) 22 111 4 [va_rf p1.2] [.int p8.2] jd_Bc_reset_19 rfl e11 rfl rfl rfl rfl (q_s8 (Nat.le_of_ble_eq_true rfl)) (q_call_le (Nat.le_of_ble_eq_true rfl) (jm_Wo_clearMocks e9)) rfl rfl ?_
    cases hh
    exact r_iret jd_Bc_reset_22 rfl ⟨rfl, rfl⟩
-- BeanContexts$Shelf.closeAll()I
def jf_Sh_closeAll_B12 (rc : q_S → Nat → Int32 → Int32 → Option (q_S × Int32)) (x : q_S) (l0 : Nat) (l1 : Int32) (l2 : Int32) : Option (q_S × Int32) :=
  if l2 < 0 then
    some (x, l1)
  else
    (q_gR x (some l0) 5 3).bind fun v8 =>
    (q_av x v8 2).bind fun b12 =>
    (jf_AL_get x b12 l2).bind fun p10 =>
    (q_ck p10.1 p10.2 9).bind fun u15 =>
    (q_gI p10.1 p10.2 9 5).bind fun v16 =>
    if v16 = 0 then
      rc p10.1 l0 l1 (l2 + (-1))
    else
      (q_av p10.1 (some l0) 5).bind fun b21 =>
      (jg_Sh_close 6 p10.1 b21 p10.2).bind fun p19 =>
      rc p19.1 l0 (l1 + p19.2) (l2 + (-1))
def jf_Sh_closeAll_L12 : Nat → q_S → Nat → Int32 → Int32 → Option (q_S × Int32)
  | 0, _, _, _, _ => none
  | n + 1, x, l0, l1, l2 => jf_Sh_closeAll_B12 (jf_Sh_closeAll_L12 n) x l0 l1 l2
theorem jm_Sh_closeAll_B12 {p : q_S × Int32} {rc : q_S → Nat → Int32 → Int32 → Option (q_S × Int32)} (hrc : ∀ (x : q_S) (l0 : Nat) (l1 : Int32) (l2 : Int32), rc x l0 l1 l2 = some p → q_X (q_call 10) (fun y o => y = p.1 ∧ o = some (.int p.2)) jq_Sh_closeAll 12 [(0, va_rf (some l0)), (1, .int l1), (2, .int l2)] [] x) (x : q_S) (l0 : Nat) (l1 : Int32) (l2 : Int32) (hh : jf_Sh_closeAll_B12 rc x l0 l1 l2 = some p) : q_X (q_call 10) (fun y o => y = p.1 ∧ o = some (.int p.2)) jq_Sh_closeAll 12 [(0, va_rf (some l0)), (1, .int l1), (2, .int l2)] [] x := by
  unfold jf_Sh_closeAll_B12 at hh
  refine r_iload_n 13 2 jd_Sh_closeAll_12 rfl rfl ?_
  rcases q_ite hh with ⟨c7, hh⟩ | ⟨c7, hh⟩
  · refine r_if_t 49 jd_Sh_closeAll_13 rfl c7 ?_
    refine r_iload_n 50 1 jd_Sh_closeAll_49 rfl rfl ?_
    cases hh
    exact r_iret jd_Sh_closeAll_50 rfl ⟨rfl, rfl⟩
  · refine r_if_f 16 49 jd_Sh_closeAll_13 rfl c7 rfl ?_
    refine r_aload_n 17 0 jd_Sh_closeAll_16 rfl rfl ?_
    obtain ⟨v8, e9, hh⟩ := q_bind hh
    refine r_getR 20 10 jd_Sh_closeAll_17 rfl e9 rfl ?_
    refine r_iload_n 21 2 jd_Sh_closeAll_20 rfl rfl ?_
    obtain ⟨b12, e13, hh⟩ := q_bind hh
    obtain ⟨p10, e11, hh⟩ := q_bind hh
    refine r_cV (rest := []) 24 40 2 [.int l2] [va_rf p10.2] jd_Sh_closeAll_21 rfl e13 rfl rfl rfl rfl (q_s8 (Nat.le_of_ble_eq_true rfl)) (q_call_le (Nat.le_of_ble_eq_true rfl) (jm_AL_get e11)) rfl rfl ?_
    obtain ⟨u15, e14, hh⟩ := q_bind hh
    refine r_cast 27 0 9 jd_Sh_closeAll_24 rfl rfl e14 rfl ?_
    refine r_astore_n 28 [(3, va_rf p10.2), (0, va_rf (some l0)), (1, .int l1), (2, .int l2)] jd_Sh_closeAll_27 (by decide) rfl rfl ?_
    refine r_aload_n 29 0 jd_Sh_closeAll_28 rfl rfl ?_
    obtain ⟨v16, e17, hh⟩ := q_bind hh
    refine r_getI 32 47 jd_Sh_closeAll_29 rfl e17 rfl ?_
    rcases q_ite hh with ⟨c18, hh⟩ | ⟨c18, hh⟩
    · refine r_if_t 43 jd_Sh_closeAll_32 rfl c18 ?_
      refine r_iinc 46 3 [(2, .int (l2 + (-1))), (3, va_rf p10.2), (0, va_rf (some l0)), (1, .int l1)] (-1) jd_Sh_closeAll_43 rfl (by decide) (by decide) rfl rfl ?_
      refine r_goto 12 jd_Sh_closeAll_46 rfl ?_
      refine q_sub [2, 3, 0] rfl ?_
      exact hrc _ _ _ _ hh
    · refine r_if_f 35 43 jd_Sh_closeAll_32 rfl c18 rfl ?_
      refine r_iload_n 36 2 jd_Sh_closeAll_35 rfl rfl ?_
      refine r_aload_n 37 1 jd_Sh_closeAll_36 rfl rfl ?_
      refine r_aload_n 38 0 jd_Sh_closeAll_37 rfl rfl ?_
      obtain ⟨b21, e22, hh⟩ := q_bind hh
      obtain ⟨p19, e20, hh⟩ := q_bind hh
      refine r_cV (rest := [.int l1]) 41 70 5 [va_rf p10.2] [.int p19.2, .int l1] jd_Sh_closeAll_38 rfl e22 rfl rfl rfl rfl (q_s8 (Nat.le_of_ble_eq_true rfl)) (q_call_le (Nat.le_of_ble_eq_true rfl) (jn_Sh_close 6 e20)) rfl rfl ?_
      refine r_iadd 42 jd_Sh_closeAll_41 rfl ?_
      refine r_istore_n 43 [(1, .int (l1 + p19.2)), (3, va_rf p10.2), (0, va_rf (some l0)), (2, .int l2)] jd_Sh_closeAll_42 (by decide) rfl rfl ?_
      refine r_iinc 46 3 [(2, .int (l2 + (-1))), (1, .int (l1 + p19.2)), (3, va_rf p10.2), (0, va_rf (some l0))] (-1) jd_Sh_closeAll_43 rfl (by decide) (by decide) rfl rfl ?_
      refine r_goto 12 jd_Sh_closeAll_46 rfl ?_
      refine q_sub [3, 1, 0] rfl ?_
      exact hrc _ _ _ _ hh
theorem jm_Sh_closeAll_L12 {p : q_S × Int32} : ∀ (n : Nat) (x : q_S) (l0 : Nat) (l1 : Int32) (l2 : Int32), jf_Sh_closeAll_L12 n x l0 l1 l2 = some p → q_X (q_call 10) (fun y o => y = p.1 ∧ o = some (.int p.2)) jq_Sh_closeAll 12 [(0, va_rf (some l0)), (1, .int l1), (2, .int l2)] [] x
  | 0, _, _, _, _, hh => nomatch hh
  | n + 1, x, l0, l1, l2, hh => jm_Sh_closeAll_B12 (jm_Sh_closeAll_L12 n) x l0 l1 l2 hh
def jf_Sh_closeAll (x : q_S) (a0 : Nat) : Option (q_S × Int32) :=
  (q_gR x (some a0) 5 3).bind fun v1 =>
  (q_av x v1 2).bind fun b5 =>
  (jf_AL_size x b5).bind fun p3 =>
  jf_Sh_closeAll_L12 lpK p3.1 a0 0 (p3.2 - 1)
theorem jm_Sh_closeAll {x : q_S} {a0 : Nat} {p : q_S × Int32} (hh : jf_Sh_closeAll x a0 = some p) : q_call 11 jq_Sh_closeAll [va_rf (some a0)] x p.1 (some (.int p.2)) := by
  unfold jf_Sh_closeAll at hh
  refine ⟨List.mem_of_getElem? (i := 100) rfl, Nat.le_of_ble_eq_true rfl, List.forall_mem_cons.mpr ⟨rfl, fun _ h => by cases h⟩, ?_⟩
  show q_X (q_call 10) _ jq_Sh_closeAll 0 [(0, va_rf (some a0))] [] x
  refine r_iconst 1 0 jd_Sh_closeAll_0 (by decide) rfl ?_
  refine r_istore_n 2 [(1, .int 0), (0, va_rf (some a0))] jd_Sh_closeAll_1 (by decide) rfl rfl ?_
  refine r_aload_n 3 1 jd_Sh_closeAll_2 rfl rfl ?_
  obtain ⟨v1, e2, hh⟩ := q_bind hh
  refine r_getR 6 10 jd_Sh_closeAll_3 rfl e2 rfl ?_
  obtain ⟨b5, e6, hh⟩ := q_bind hh
  obtain ⟨p3, e4, hh⟩ := q_bind hh
  refine r_cV (rest := []) 9 39 2 [] [.int p3.2] jd_Sh_closeAll_6 rfl e6 rfl rfl rfl rfl (q_s8 (Nat.le_of_ble_eq_true rfl)) (q_call_le (Nat.le_of_ble_eq_true rfl) (jm_AL_size e4)) rfl rfl ?_
  refine r_iconst 10 1 jd_Sh_closeAll_9 (by decide) rfl ?_
  refine r_isub 11 jd_Sh_closeAll_10 rfl ?_
  refine r_istore_n 12 [(2, .int (p3.2 - 1)), (1, .int 0), (0, va_rf (some a0))] jd_Sh_closeAll_11 (by decide) rfl rfl ?_
  refine q_sub [2, 1, 0] rfl ?_
  exact jm_Sh_closeAll_L12 lpK _ _ _ _ hh
-- BeanContexts.shutdown()I
def jf_Bc_shutdown (x : q_S) (a0 : Nat) : Option (q_S × Int32) :=
  (q_pZ x (some a0) 0 5 1).bind fun x1 =>
  (q_gR x1 (some a0) 0 4).bind fun v3 =>
  (q_av x1 v3 5).bind fun b7 =>
  (jf_Sh_closeAll x1 b7).bind fun p5 =>
  some (p5.1, p5.2)
theorem jm_Bc_shutdown {x : q_S} {a0 : Nat} {p : q_S × Int32} (hh : jf_Bc_shutdown x a0 = some p) : q_call 12 jq_Bc_shutdown [va_rf (some a0)] x p.1 (some (.int p.2)) := by
  unfold jf_Bc_shutdown at hh
  refine ⟨List.mem_of_getElem? (i := 99) rfl, Nat.le_of_ble_eq_true rfl, List.forall_mem_cons.mpr ⟨rfl, fun _ h => by cases h⟩, ?_⟩
  show q_X (q_call 11) _ jq_Bc_shutdown 0 [(0, va_rf (some a0))] [] x
  refine r_aload_n 1 0 jd_Bc_shutdown_0 rfl rfl ?_
  refine r_iconst 2 1 jd_Bc_shutdown_1 (by decide) rfl ?_
  obtain ⟨x1, e2, hh⟩ := q_bind hh
  refine r_putZ 5 72 jd_Bc_shutdown_2 rfl rfl (Or.inl rfl) e2 rfl ?_
  refine r_aload_n 6 0 jd_Bc_shutdown_5 rfl rfl ?_
  obtain ⟨v3, e4, hh⟩ := q_bind hh
  refine r_getR 9 4 jd_Bc_shutdown_6 rfl e4 rfl ?_
  obtain ⟨b7, e8, hh⟩ := q_bind hh
  obtain ⟨p5, e6, hh⟩ := q_bind hh
  refine r_cV (rest := []) 12 114 5 [] [.int p5.2] jd_Bc_shutdown_9 rfl e8 rfl rfl rfl rfl (q_s8 (Nat.le_of_ble_eq_true rfl)) (q_call_le (Nat.le_of_ble_eq_true rfl) (jm_Sh_closeAll e6)) rfl rfl ?_
  cases hh
  exact r_iret jd_Bc_shutdown_12 rfl ⟨rfl, rfl⟩
-- BeanContexts.stub(II)Z
def jf_Bc_stub (x : q_S) (a0 : Nat) (a1 : Int32) (a2 : Int32) : Option (q_S × Int32) :=
  (q_gR x (some a0) 0 3).bind fun v1 =>
  (q_av x v1 4).bind fun b5 =>
  (jf_Wo_liveMock x b5 a1).bind fun p3 =>
  if p3.2 = none then
    some (p3.1, 0)
  else
    (q_pI p3.1 p3.2 10 4 a2).bind fun x8 =>
    some (x8, 1)
theorem jm_Bc_stub {x : q_S} {a0 : Nat} {a1 : Int32} {a2 : Int32} {p : q_S × Int32} (hh : jf_Bc_stub x a0 a1 a2 = some p) : q_call 6 jq_Bc_stub [va_rf (some a0), .int a1, .int a2] x p.1 (some (.int p.2)) := by
  unfold jf_Bc_stub at hh
  refine ⟨List.mem_of_getElem? (i := 101) rfl, Nat.le_of_ble_eq_true rfl, List.forall_mem_cons.mpr ⟨rfl, List.forall_mem_cons.mpr ⟨rfl, List.forall_mem_cons.mpr ⟨rfl, fun _ h => by cases h⟩⟩⟩, ?_⟩
  show q_X (q_call 5) _ jq_Bc_stub 0 [(0, va_rf (some a0)), (1, .int a1), (2, .int a2)] [] x
  refine r_aload_n 1 0 jd_Bc_stub_0 rfl rfl ?_
  obtain ⟨v1, e2, hh⟩ := q_bind hh
  refine r_getR 4 3 jd_Bc_stub_1 rfl e2 rfl ?_
  refine r_iload_n 5 1 jd_Bc_stub_4 rfl rfl ?_
  obtain ⟨b5, e6, hh⟩ := q_bind hh
  obtain ⟨p3, e4, hh⟩ := q_bind hh
  refine r_cV (rest := []) 8 96 4 [.int a1] [va_rf p3.2] jd_Bc_stub_5 rfl e6 rfl rfl rfl rfl (q_s8 (Nat.le_of_ble_eq_true rfl)) (q_call_le (Nat.le_of_ble_eq_true rfl) (jm_Wo_liveMock e4)) rfl rfl ?_
  refine r_astore_n 9 [(3, va_rf p3.2), (0, va_rf (some a0)), (1, .int a1), (2, .int a2)] jd_Bc_stub_8 (by decide) rfl rfl ?_
  refine r_aload_n 10 0 jd_Bc_stub_9 rfl rfl ?_
  rcases q_ite hh with ⟨c7, hh⟩ | ⟨c7, hh⟩
  · refine r_ifnonnull_f 13 15 jd_Bc_stub_10 rfl c7 rfl ?_
    refine r_iconst 14 0 jd_Bc_stub_13 (by decide) rfl ?_
    cases hh
    exact r_zret jd_Bc_stub_14 rfl (by decide) ⟨rfl, rfl⟩
  · refine r_ifnonnull_t 15 jd_Bc_stub_10 rfl c7 ?_
    refine r_aload_n 16 0 jd_Bc_stub_15 rfl rfl ?_
    refine r_iload_n 17 3 jd_Bc_stub_16 rfl rfl ?_
    obtain ⟨x8, e9, hh⟩ := q_bind hh
    refine r_putI 20 80 jd_Bc_stub_17 rfl rfl (Or.inl rfl) e9 rfl ?_
    refine r_iconst 21 1 jd_Bc_stub_20 (by decide) rfl ?_
    cases hh
    exact r_zret jd_Bc_stub_21 rfl (by decide) ⟨rfl, rfl⟩
-- BeanContexts.wired(II)I
def jf_Bc_wired (x : q_S) (a0 : Nat) (a1 : Int32) (a2 : Int32) : Option (q_S × Int32) :=
  (q_gR x (some a0) 0 3).bind fun v1 =>
  (q_av x v1 4).bind fun b5 =>
  (jf_Wo_liveBean x b5 a1).bind fun p3 =>
  if p3.2 = none then
    some (p3.1, (-1))
  else
    (q_gR p3.1 p3.2 10 3).bind fun v8 =>
    (q_len p3.1 4 v8).bind fun v10 =>
    (jf_Bc_isBelow p3.1 a2 v10).bind fun p12 =>
    if p12.2 = 0 then
      some (p12.1, (-1))
    else
      (q_gR p12.1 p3.2 10 3).bind fun v15 =>
      (q_lI p12.1 4 v15 a2).bind fun v17 =>
      some (p12.1, v17)
theorem jm_Bc_wired {x : q_S} {a0 : Nat} {a1 : Int32} {a2 : Int32} {p : q_S × Int32} (hh : jf_Bc_wired x a0 a1 a2 = some p) : q_call 5 jq_Bc_wired [va_rf (some a0), .int a1, .int a2] x p.1 (some (.int p.2)) := by
  unfold jf_Bc_wired at hh
  refine ⟨List.mem_of_getElem? (i := 102) rfl, Nat.le_of_ble_eq_true rfl, List.forall_mem_cons.mpr ⟨rfl, List.forall_mem_cons.mpr ⟨rfl, List.forall_mem_cons.mpr ⟨rfl, fun _ h => by cases h⟩⟩⟩, ?_⟩
  show q_X (q_call 4) _ jq_Bc_wired 0 [(0, va_rf (some a0)), (1, .int a1), (2, .int a2)] [] x
  refine r_aload_n 1 0 jd_Bc_wired_0 rfl rfl ?_
  obtain ⟨v1, e2, hh⟩ := q_bind hh
  refine r_getR 4 3 jd_Bc_wired_1 rfl e2 rfl ?_
  refine r_iload_n 5 1 jd_Bc_wired_4 rfl rfl ?_
  obtain ⟨b5, e6, hh⟩ := q_bind hh
  obtain ⟨p3, e4, hh⟩ := q_bind hh
  refine r_cV (rest := []) 8 42 4 [.int a1] [va_rf p3.2] jd_Bc_wired_5 rfl e6 rfl rfl rfl rfl (q_s8 (Nat.le_of_ble_eq_true rfl)) (q_call_le (Nat.le_of_ble_eq_true rfl) (jm_Wo_liveBean e4)) rfl rfl ?_
  refine r_astore_n 9 [(3, va_rf p3.2), (0, va_rf (some a0)), (1, .int a1), (2, .int a2)] jd_Bc_wired_8 (by decide) rfl rfl ?_
  refine r_aload_n 10 0 jd_Bc_wired_9 rfl rfl ?_
  rcases q_ite hh with ⟨c7, hh⟩ | ⟨c7, hh⟩
  · refine r_ifnull_t 25 jd_Bc_wired_10 rfl c7 ?_
    refine r_iconst 26 (-1) jd_Bc_wired_25 (by decide) rfl ?_
    refine r_goto 35 jd_Bc_wired_26 rfl ?_
    cases hh
    exact r_iret jd_Bc_wired_35 rfl ⟨rfl, rfl⟩
  · refine r_ifnull_f 13 25 jd_Bc_wired_10 rfl c7 rfl ?_
    refine r_iload_n 14 3 jd_Bc_wired_13 rfl rfl ?_
    refine r_aload_n 15 0 jd_Bc_wired_14 rfl rfl ?_
    obtain ⟨v8, e9, hh⟩ := q_bind hh
    refine r_getR 18 81 jd_Bc_wired_15 rfl e9 rfl ?_
    obtain ⟨v10, e11, hh⟩ := q_bind hh
    refine r_len 19 4 jd_Bc_wired_18 e11 rfl ?_
    obtain ⟨p12, e13, hh⟩ := q_bind hh
    refine r_cS (rest := []) 22 6 [.int a2, .int v10] [.int p12.2] jd_Bc_wired_19 rfl rfl rfl (q_s8 (Nat.le_of_ble_eq_true rfl)) (q_call_le (Nat.le_of_ble_eq_true rfl) (jm_Bc_isBelow e13)) rfl rfl ?_
    rcases q_ite hh with ⟨c14, hh⟩ | ⟨c14, hh⟩
    · refine r_if_f 25 29 jd_Bc_wired_22 rfl (fun z => z c14) rfl ?_
      refine r_iconst 26 (-1) jd_Bc_wired_25 (by decide) rfl ?_
      refine r_goto 35 jd_Bc_wired_26 rfl ?_
      cases hh
      exact r_iret jd_Bc_wired_35 rfl ⟨rfl, rfl⟩
    · refine r_if_t 29 jd_Bc_wired_22 rfl c14 ?_
      refine r_aload_n 30 0 jd_Bc_wired_29 rfl rfl ?_
      obtain ⟨v15, e16, hh⟩ := q_bind hh
      refine r_getR 33 81 jd_Bc_wired_30 rfl e16 rfl ?_
      refine r_iload_n 34 3 jd_Bc_wired_33 rfl rfl ?_
      obtain ⟨v17, e18, hh⟩ := q_bind hh
      refine r_ldI 35 4 jd_Bc_wired_34 rfl e18 rfl ?_
      cases hh
      exact r_iret jd_Bc_wired_35 rfl ⟨rfl, rfl⟩

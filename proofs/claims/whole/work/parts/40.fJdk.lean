def lpK : Nat := 1000
-- java/util/AbstractCollection.<init>()V
def jf_AbC_init (x : q_S) (a0 : Nat) : Option (q_S × Unit) :=
  some (x, ())
theorem jm_AbC_init {x : q_S} {a0 : Nat} {p : q_S × Unit} (hh : jf_AbC_init x a0 = some p) : q_call 1 jq_AbC_init [va_rf (some a0)] x p.1 (none) := by
  unfold jf_AbC_init at hh
  refine ⟨List.mem_of_getElem? (i := 4) rfl, Nat.le_of_ble_eq_true rfl, List.forall_mem_cons.mpr ⟨rfl, fun _ h => by cases h⟩, ?_⟩
  show q_X (q_call 0) _ jq_AbC_init 0 [(0, va_rf (some a0))] [] x
  refine r_aload_n 1 0 jd_AbC_init_0 rfl rfl ?_
  refine r_obj 4 2 jd_AbC_init_1 rfl (q_s8 (Nat.le_of_ble_eq_true rfl)) rfl ?_
  cases hh
  exact r_vret jd_AbC_init_4 rfl ⟨rfl, rfl⟩
-- java/util/AbstractList.<init>()V
def jf_AbL_init (x : q_S) (a0 : Nat) : Option (q_S × Unit) :=
  (jf_AbC_init x a0).bind fun p1 =>
  (q_pI p1.1 (some a0) 2 0 0).bind fun x3 =>
  some (x3, ())
theorem jm_AbL_init {x : q_S} {a0 : Nat} {p : q_S × Unit} (hh : jf_AbL_init x a0 = some p) : q_call 2 jq_AbL_init [va_rf (some a0)] x p.1 (none) := by
  unfold jf_AbL_init at hh
  refine ⟨List.mem_of_getElem? (i := 3) rfl, Nat.le_of_ble_eq_true rfl, List.forall_mem_cons.mpr ⟨rfl, fun _ h => by cases h⟩, ?_⟩
  show q_X (q_call 1) _ jq_AbL_init 0 [(0, va_rf (some a0))] [] x
  refine r_aload_n 1 0 jd_AbL_init_0 rfl rfl ?_
  obtain ⟨p1, e2, hh⟩ := q_bind hh
  refine r_cI (rest := []) 4 9 [] [] jd_AbL_init_1 rfl rfl rfl (q_s8 (Nat.le_of_ble_eq_true rfl)) (q_call_le (Nat.le_of_ble_eq_true rfl) (jm_AbC_init e2)) rfl rfl ?_
  refine r_aload_n 5 0 jd_AbL_init_4 rfl rfl ?_
  refine r_iconst 6 0 jd_AbL_init_5 (by decide) rfl ?_
  obtain ⟨x3, e4, hh⟩ := q_bind hh
  refine r_putI 9 8 jd_AbL_init_6 rfl rfl (Or.inl rfl) e4 rfl ?_
  cases hh
  exact r_vret jd_AbL_init_9 rfl ⟨rfl, rfl⟩
-- java/util/ArrayList.<init>()V
def jf_AL_init (x : q_S) (a0 : Nat) : Option (q_S × Unit) :=
  (jf_AbL_init x a0).bind fun p1 =>
  (q_pR p1.1 (some a0) 2 1 (some (q_z0 p1.1))).bind fun x3 =>
  some (x3, ())
theorem jm_AL_init {x : q_S} {a0 : Nat} {p : q_S × Unit} (hh : jf_AL_init x a0 = some p) : q_call 3 jq_AL_init [va_rf (some a0)] x p.1 (none) := by
  unfold jf_AL_init at hh
  refine ⟨List.mem_of_getElem? (i := 2) rfl, Nat.le_of_ble_eq_true rfl, List.forall_mem_cons.mpr ⟨rfl, fun _ h => by cases h⟩, ?_⟩
  show q_X (q_call 2) _ jq_AL_init 0 [(0, va_rf (some a0))] [] x
  refine r_aload_n 1 0 jd_AL_init_0 rfl rfl ?_
  obtain ⟨p1, e2, hh⟩ := q_bind hh
  refine r_cI (rest := []) 4 8 [] [] jd_AL_init_1 rfl rfl rfl (q_s8 (Nat.le_of_ble_eq_true rfl)) (q_call_le (Nat.le_of_ble_eq_true rfl) (jm_AbL_init e2)) rfl rfl ?_
  refine r_aload_n 5 0 jd_AL_init_4 rfl rfl ?_
  refine r_gets 8 jd_AL_init_5 0 rfl rfl ?_
  obtain ⟨x3, e4, hh⟩ := q_bind hh
  refine r_putA 11 7 jd_AL_init_8 rfl rfl (Or.inl rfl) e4 rfl ?_
  cases hh
  exact r_vret jd_AL_init_11 rfl ⟨rfl, rfl⟩
-- java/util/ArrayList.elementData(I)Ljava/lang/Object;
def jf_AL_elementData (x : q_S) (a0 : Nat) (a1 : Int32) : Option (q_S × Option Nat) :=
  (q_gR x (some a0) 2 1).bind fun v1 =>
  (q_lR x 0 v1 a1).bind fun v3 =>
  some (x, v3)
theorem jm_AL_elementData {x : q_S} {a0 : Nat} {a1 : Int32} {p : q_S × Option Nat} (hh : jf_AL_elementData x a0 a1 = some p) : q_call 1 jq_AL_elementData [va_rf (some a0), .int a1] x p.1 (some (va_rf p.2)) := by
  unfold jf_AL_elementData at hh
  refine ⟨List.mem_of_getElem? (i := 12) rfl, Nat.le_of_ble_eq_true rfl, List.forall_mem_cons.mpr ⟨rfl, List.forall_mem_cons.mpr ⟨rfl, fun _ h => by cases h⟩⟩, ?_⟩
  show q_X (q_call 0) _ jq_AL_elementData 0 [(0, va_rf (some a0)), (1, .int a1)] [] x
  refine r_aload_n 1 0 jd_AL_elementData_0 rfl rfl ?_
  obtain ⟨v1, e2, hh⟩ := q_bind hh
  refine r_getR 4 7 jd_AL_elementData_1 rfl e2 rfl ?_
  refine r_iload_n 5 1 jd_AL_elementData_4 rfl rfl ?_
  obtain ⟨v3, e4, hh⟩ := q_bind hh
  refine r_ldR 6 0 jd_AL_elementData_5 e4 rfl ?_
  cases hh
  exact r_aretO jd_AL_elementData_6 rfl ⟨rfl, rfl⟩
-- jdk/internal/util/Preconditions.checkIndex(IILjava/util/function/BiFunction;)I
def jf_Pre_checkIndex (x : q_S) (a0 : Int32) (a1 : Int32) (a2 : Option Nat) : Option (q_S × Int32) :=
  if a0 < 0 then
    none
  else
    if a0 < a1 then
      some (x, a0)
    else
      none
theorem jm_Pre_checkIndex {x : q_S} {a0 : Int32} {a1 : Int32} {a2 : Option Nat} {p : q_S × Int32} (hh : jf_Pre_checkIndex x a0 a1 a2 = some p) : q_call 1 jq_Pre_checkIndex [.int a0, .int a1, va_rf a2] x p.1 (some (.int p.2)) := by
  unfold jf_Pre_checkIndex at hh
  refine ⟨List.mem_of_getElem? (i := 14) rfl, Nat.le_of_ble_eq_true rfl, List.forall_mem_cons.mpr ⟨rfl, List.forall_mem_cons.mpr ⟨rfl, List.forall_mem_cons.mpr ⟨q_cat _, fun _ h => by cases h⟩⟩⟩, ?_⟩
  show q_X (q_call 0) _ jq_Pre_checkIndex 0 [(0, .int a0), (1, .int a1), (2, va_rf a2)] [] x
  refine r_iload_n 1 0 jd_Pre_checkIndex_0 rfl rfl ?_
  rcases q_ite hh with ⟨c1, hh⟩ | ⟨c1, hh⟩
  · refine r_if_t 9 jd_Pre_checkIndex_1 rfl c1 ?_
    refine r_aload_n 10 2 jd_Pre_checkIndex_9 rfl rfl ?_
    refine r_iload_n 11 0 jd_Pre_checkIndex_10 rfl rfl ?_
    refine r_iload_n 12 1 jd_Pre_checkIndex_11 rfl rfl ?_
    cases hh
  · refine r_if_f 4 9 jd_Pre_checkIndex_1 rfl c1 rfl ?_
    refine r_iload_n 5 0 jd_Pre_checkIndex_4 rfl rfl ?_
    refine r_iload_n 6 1 jd_Pre_checkIndex_5 rfl rfl ?_
    rcases q_ite hh with ⟨c2, hh⟩ | ⟨c2, hh⟩
    · refine r_ic_t 16 jd_Pre_checkIndex_6 rfl c2 ?_
      refine r_iload_n 17 0 jd_Pre_checkIndex_16 rfl rfl ?_
      cases hh
      exact r_iret jd_Pre_checkIndex_17 rfl ⟨rfl, rfl⟩
    · refine r_ic_f 9 16 jd_Pre_checkIndex_6 rfl c2 rfl ?_
      refine r_aload_n 10 2 jd_Pre_checkIndex_9 rfl rfl ?_
      refine r_iload_n 11 0 jd_Pre_checkIndex_10 rfl rfl ?_
      refine r_iload_n 12 1 jd_Pre_checkIndex_11 rfl rfl ?_
      cases hh
-- java/util/Objects.checkIndex(II)I
def jf_Obs_checkIndex (x : q_S) (a0 : Int32) (a1 : Int32) : Option (q_S × Int32) :=
  (jf_Pre_checkIndex x a0 a1 none).bind fun p1 =>
  some (p1.1, p1.2)
theorem jm_Obs_checkIndex {x : q_S} {a0 : Int32} {a1 : Int32} {p : q_S × Int32} (hh : jf_Obs_checkIndex x a0 a1 = some p) : q_call 2 jq_Obs_checkIndex [.int a0, .int a1] x p.1 (some (.int p.2)) := by
  unfold jf_Obs_checkIndex at hh
  refine ⟨List.mem_of_getElem? (i := 13) rfl, Nat.le_of_ble_eq_true rfl, List.forall_mem_cons.mpr ⟨rfl, List.forall_mem_cons.mpr ⟨rfl, fun _ h => by cases h⟩⟩, ?_⟩
  show q_X (q_call 1) _ jq_Obs_checkIndex 0 [(0, .int a0), (1, .int a1)] [] x
  refine r_iload_n 1 0 jd_Obs_checkIndex_0 rfl rfl ?_
  refine r_iload_n 2 1 jd_Obs_checkIndex_1 rfl rfl ?_
  refine r_null 3 jd_Obs_checkIndex_2 rfl ?_
  obtain ⟨p1, e2, hh⟩ := q_bind hh
  refine r_cS (rest := []) 6 3 [.int a0, .int a1, va_rf none] [.int p1.2] jd_Obs_checkIndex_3 rfl rfl rfl (q_s8 (Nat.le_of_ble_eq_true rfl)) (q_call_le (Nat.le_of_ble_eq_true rfl) (jm_Pre_checkIndex e2)) rfl rfl ?_
  cases hh
  exact r_iret jd_Obs_checkIndex_6 rfl ⟨rfl, rfl⟩
-- java/util/ArrayList.get(I)Ljava/lang/Object;
def jf_AL_get (x : q_S) (a0 : Nat) (a1 : Int32) : Option (q_S × Option Nat) :=
  (q_gI x (some a0) 2 2).bind fun v1 =>
  (jf_Obs_checkIndex x a1 v1).bind fun p3 =>
  (q_av p3.1 (some a0) 2).bind fun b7 =>
  (jf_AL_elementData p3.1 b7 a1).bind fun p5 =>
  some (p5.1, p5.2)
theorem jm_AL_get {x : q_S} {a0 : Nat} {a1 : Int32} {p : q_S × Option Nat} (hh : jf_AL_get x a0 a1 = some p) : q_call 3 jq_AL_get [va_rf (some a0), .int a1] x p.1 (some (va_rf p.2)) := by
  unfold jf_AL_get at hh
  refine ⟨List.mem_of_getElem? (i := 11) rfl, Nat.le_of_ble_eq_true rfl, List.forall_mem_cons.mpr ⟨rfl, List.forall_mem_cons.mpr ⟨rfl, fun _ h => by cases h⟩⟩, ?_⟩
  show q_X (q_call 2) _ jq_AL_get 0 [(0, va_rf (some a0)), (1, .int a1)] [] x
  refine r_iload_n 1 1 jd_AL_get_0 rfl rfl ?_
  refine r_aload_n 2 0 jd_AL_get_1 rfl rfl ?_
  obtain ⟨v1, e2, hh⟩ := q_bind hh
  refine r_getI 5 19 jd_AL_get_2 rfl e2 rfl ?_
  obtain ⟨p3, e4, hh⟩ := q_bind hh
  refine r_cS (rest := []) 8 2 [.int a1, .int v1] [.int p3.2] jd_AL_get_5 rfl rfl rfl (q_s8 (Nat.le_of_ble_eq_true rfl)) (q_call_le (Nat.le_of_ble_eq_true rfl) (jm_Obs_checkIndex e4)) rfl rfl ?_
  refine r_popI 9 jd_AL_get_8 rfl ?_
  refine r_aload_n 10 0 jd_AL_get_9 rfl rfl ?_
  refine r_iload_n 11 1 jd_AL_get_10 rfl rfl ?_
  obtain ⟨b7, e8, hh⟩ := q_bind hh
  obtain ⟨p5, e6, hh⟩ := q_bind hh
  refine r_cV (rest := []) 14 41 2 [.int a1] [va_rf p5.2] jd_AL_get_11 rfl e8 rfl rfl rfl rfl (q_s8 (Nat.le_of_ble_eq_true rfl)) (q_call_le (Nat.le_of_ble_eq_true rfl) (jm_AL_elementData e6)) rfl rfl ?_
  cases hh
  exact r_aretO jd_AL_get_14 rfl ⟨rfl, rfl⟩
-- java/util/ArrayList.size()I
def jf_AL_size (x : q_S) (a0 : Nat) : Option (q_S × Int32) :=
  (q_gI x (some a0) 2 2).bind fun v1 =>
  some (x, v1)
theorem jm_AL_size {x : q_S} {a0 : Nat} {p : q_S × Int32} (hh : jf_AL_size x a0 = some p) : q_call 1 jq_AL_size [va_rf (some a0)] x p.1 (some (.int p.2)) := by
  unfold jf_AL_size at hh
  refine ⟨List.mem_of_getElem? (i := 15) rfl, Nat.le_of_ble_eq_true rfl, List.forall_mem_cons.mpr ⟨rfl, fun _ h => by cases h⟩, ?_⟩
  show q_X (q_call 0) _ jq_AL_size 0 [(0, va_rf (some a0))] [] x
  refine r_aload_n 1 0 jd_AL_size_0 rfl rfl ?_
  obtain ⟨v1, e2, hh⟩ := q_bind hh
  refine r_getI 4 19 jd_AL_size_1 rfl e2 rfl ?_
  cases hh
  exact r_iret jd_AL_size_4 rfl ⟨rfl, rfl⟩
-- java/util/Arrays.copyOf([Ljava/lang/Object;ILjava/lang/Class;)[Ljava/lang/Object;
def jf_Arr_copyOfC (x : q_S) (a0 : Option Nat) (a1 : Int32) (a2 : Option Nat) : Option (q_S × Option Nat) :=
  if a2 = (some (q_mo x)) then
    (q_nR x 0 a1).bind fun x2 =>
    (q_lenR x2 0 a0).bind fun v4 =>
    (q_cp x2 0 a0 0 (some (q_sz x)) 0 (if a1 < v4 then a1 else v4)).bind fun x6 =>
    some (x6, (some (q_sz x)))
  else
    none
theorem jm_Arr_copyOfC {x : q_S} {a0 : Option Nat} {a1 : Int32} {a2 : Option Nat} {p : q_S × Option Nat} (hh : jf_Arr_copyOfC x a0 a1 a2 = some p) : q_call 1 jq_Arr_copyOfC [va_rf a0, .int a1, va_rf a2] x p.1 (some (va_rf p.2)) := by
  unfold jf_Arr_copyOfC at hh
  refine ⟨List.mem_of_getElem? (i := 33) rfl, Nat.le_of_ble_eq_true rfl, List.forall_mem_cons.mpr ⟨q_cat _, List.forall_mem_cons.mpr ⟨rfl, List.forall_mem_cons.mpr ⟨q_cat _, fun _ h => by cases h⟩⟩⟩, ?_⟩
  show q_X (q_call 0) _ jq_Arr_copyOfC 0 [(0, va_rf a0), (1, .int a1), (2, va_rf a2)] [] x
  refine r_aload_n 1 2 jd_Arr_copyOfC_0 rfl rfl ?_
  refine r_ldcM 3 0 jd_Arr_copyOfC_1 rfl rfl ?_
  rcases q_ite hh with ⟨c1, hh⟩ | ⟨c1, hh⟩
  · refine r_ac_f 6 13 jd_Arr_copyOfC_3 rfl (fun z => z c1) rfl ?_
    refine r_iload_n 7 1 jd_Arr_copyOfC_6 rfl rfl ?_
    obtain ⟨x2, e3, hh⟩ := q_bind hh
    refine r_newR 10 0 1 jd_Arr_copyOfC_7 rfl e3 rfl ?_
    refine r_goto 24 jd_Arr_copyOfC_10 rfl ?_
    refine r_astore_n 25 [(3, va_rf (some (q_sz x))), (0, va_rf a0), (1, .int a1), (2, va_rf a2)] jd_Arr_copyOfC_24 (by decide) rfl rfl ?_
    refine r_aload_n 26 1 jd_Arr_copyOfC_25 rfl rfl ?_
    refine r_iconst 27 0 jd_Arr_copyOfC_26 (by decide) rfl ?_
    refine r_aload_n 28 0 jd_Arr_copyOfC_27 rfl rfl ?_
    refine r_iconst 29 0 jd_Arr_copyOfC_28 (by decide) rfl ?_
    refine r_aload_n 30 1 jd_Arr_copyOfC_29 rfl rfl ?_
    obtain ⟨v4, e5, hh⟩ := q_bind hh
    refine r_lenR 31 0 jd_Arr_copyOfC_30 e5 rfl ?_
    refine r_iload_n 32 2 jd_Arr_copyOfC_31 rfl rfl ?_
    refine r_min 35 1 jd_Arr_copyOfC_32 rfl (q_s8 (Nat.le_of_ble_eq_true rfl)) rfl ?_
    obtain ⟨x6, e7, hh⟩ := q_bind hh
    refine r_copy 38 0 0 jd_Arr_copyOfC_35 rfl (q_s8 (Nat.le_of_ble_eq_true rfl)) e7 rfl ?_
    refine r_aload_n 39 0 jd_Arr_copyOfC_38 rfl rfl ?_
    cases hh
    exact r_aretA jd_Arr_copyOfC_39 rfl ⟨rfl, rfl⟩
  · refine r_ac_t 13 jd_Arr_copyOfC_3 rfl c1 ?_
    refine r_aload_n 14 2 jd_Arr_copyOfC_13 rfl rfl ?_
    cases hh
-- java/util/Arrays.copyOf([Ljava/lang/Object;I)[Ljava/lang/Object;
def jf_Arr_copyOf (x : q_S) (a0 : Option Nat) (a1 : Int32) : Option (q_S × Option Nat) :=
  (q_aa x 0 a0).bind fun u2 =>
  (jf_Arr_copyOfC x a0 a1 (some (q_mo x))).bind fun p3 =>
  some (p3.1, p3.2)
theorem jm_Arr_copyOf {x : q_S} {a0 : Option Nat} {a1 : Int32} {p : q_S × Option Nat} (hh : jf_Arr_copyOf x a0 a1 = some p) : q_call 2 jq_Arr_copyOf [va_rf a0, .int a1] x p.1 (some (va_rf p.2)) := by
  unfold jf_Arr_copyOf at hh
  refine ⟨List.mem_of_getElem? (i := 32) rfl, Nat.le_of_ble_eq_true rfl, List.forall_mem_cons.mpr ⟨q_cat _, List.forall_mem_cons.mpr ⟨rfl, fun _ h => by cases h⟩⟩, ?_⟩
  show q_X (q_call 1) _ jq_Arr_copyOf 0 [(0, va_rf a0), (1, .int a1)] [] x
  refine r_aload_n 1 0 jd_Arr_copyOf_0 rfl rfl ?_
  refine r_iload_n 2 1 jd_Arr_copyOf_1 rfl rfl ?_
  refine r_aload_n 3 0 jd_Arr_copyOf_2 rfl rfl ?_
  obtain ⟨u2, e1, hh⟩ := q_bind hh
  refine r_getC 6 0 0 jd_Arr_copyOf_3 rfl (q_s8 (Nat.le_of_ble_eq_true rfl)) e1 rfl ?_
  obtain ⟨p3, e4, hh⟩ := q_bind hh
  refine r_cS (rest := []) 9 9 [va_rf a0, .int a1, va_rf (some (q_mo x))] [va_rf p3.2] jd_Arr_copyOf_6 rfl rfl rfl (q_s8 (Nat.le_of_ble_eq_true rfl)) (q_call_le (Nat.le_of_ble_eq_true rfl) (jm_Arr_copyOfC e4)) rfl rfl ?_
  cases hh
  exact r_aretA jd_Arr_copyOf_9 rfl ⟨rfl, rfl⟩
-- jdk/internal/util/ArraysSupport.hugeLength(II)I
def jf_ArS_hugeLength (x : q_S) (a0 : Int32) (a1 : Int32) : Option (q_S × Int32) :=
  if 0 ≤ (a0 + a1) then
    if 2147483639 < (a0 + a1) then
      some (x, a0 + a1)
    else
      some (x, 2147483639)
  else
    none
theorem jm_ArS_hugeLength {x : q_S} {a0 : Int32} {a1 : Int32} {p : q_S × Int32} (hh : jf_ArS_hugeLength x a0 a1 = some p) : q_call 1 jq_ArS_hugeLength [.int a0, .int a1] x p.1 (some (.int p.2)) := by
  unfold jf_ArS_hugeLength at hh
  refine ⟨List.mem_of_getElem? (i := 35) rfl, Nat.le_of_ble_eq_true rfl, List.forall_mem_cons.mpr ⟨rfl, List.forall_mem_cons.mpr ⟨rfl, fun _ h => by cases h⟩⟩, ?_⟩
  show q_X (q_call 0) _ jq_ArS_hugeLength 0 [(0, .int a0), (1, .int a1)] [] x
  refine r_iload_n 1 0 jd_ArS_hugeLength_0 rfl rfl ?_
  refine r_iload_n 2 1 jd_ArS_hugeLength_1 rfl rfl ?_
  refine r_iadd 3 jd_ArS_hugeLength_2 rfl ?_
  refine r_istore_n 4 [(2, .int (a0 + a1)), (0, .int a0), (1, .int a1)] jd_ArS_hugeLength_3 (by decide) rfl rfl ?_
  refine r_iload_n 5 0 jd_ArS_hugeLength_4 rfl rfl ?_
  rcases q_ite hh with ⟨c1, hh⟩ | ⟨c1, hh⟩
  · refine r_if_t 49 jd_ArS_hugeLength_5 rfl c1 ?_
    refine r_iload_n 50 0 jd_ArS_hugeLength_49 rfl rfl ?_
    refine r_ldcI 52 0 jd_ArS_hugeLength_50 rfl rfl ?_
    rcases q_ite hh with ⟨c2, hh⟩ | ⟨c2, hh⟩
    · refine r_ic_t 58 jd_ArS_hugeLength_52 rfl c2 ?_
      refine r_iload_n 59 0 jd_ArS_hugeLength_58 rfl rfl ?_
      cases hh
      exact r_iret jd_ArS_hugeLength_59 rfl ⟨rfl, rfl⟩
    · refine r_ic_f 55 58 jd_ArS_hugeLength_52 rfl c2 rfl ?_
      refine r_ldcI 57 0 jd_ArS_hugeLength_55 rfl rfl ?_
      cases hh
      exact r_iret jd_ArS_hugeLength_57 rfl ⟨rfl, rfl⟩
  · refine r_if_f 8 49 jd_ArS_hugeLength_5 rfl c1 rfl ?_
    cases hh
-- jdk/internal/util/ArraysSupport.newLength(III)I
def jf_ArS_newLength (x : q_S) (a0 : Int32) (a1 : Int32) (a2 : Int32) : Option (q_S × Int32) :=
  if (a0 + (if a1 < a2 then a2 else a1)) ≤ (0 : Int32) then
    (jf_ArS_hugeLength x a0 a1).bind fun p2 =>
    some (p2.1, p2.2)
  else
    if 2147483639 < (a0 + (if a1 < a2 then a2 else a1)) then
      (jf_ArS_hugeLength x a0 a1).bind fun p5 =>
      some (p5.1, p5.2)
    else
      some (x, a0 + (if a1 < a2 then a2 else a1))
theorem jm_ArS_newLength {x : q_S} {a0 : Int32} {a1 : Int32} {a2 : Int32} {p : q_S × Int32} (hh : jf_ArS_newLength x a0 a1 a2 = some p) : q_call 2 jq_ArS_newLength [.int a0, .int a1, .int a2] x p.1 (some (.int p.2)) := by
  unfold jf_ArS_newLength at hh
  refine ⟨List.mem_of_getElem? (i := 34) rfl, Nat.le_of_ble_eq_true rfl, List.forall_mem_cons.mpr ⟨rfl, List.forall_mem_cons.mpr ⟨rfl, List.forall_mem_cons.mpr ⟨rfl, fun _ h => by cases h⟩⟩⟩, ?_⟩
  show q_X (q_call 1) _ jq_ArS_newLength 0 [(0, .int a0), (1, .int a1), (2, .int a2)] [] x
  refine r_iload_n 1 0 jd_ArS_newLength_0 rfl rfl ?_
  refine r_iload_n 2 1 jd_ArS_newLength_1 rfl rfl ?_
  refine r_iload_n 3 2 jd_ArS_newLength_2 rfl rfl ?_
  refine r_max 6 2 jd_ArS_newLength_3 rfl (q_s8 (Nat.le_of_ble_eq_true rfl)) rfl ?_
  refine r_iadd 7 jd_ArS_newLength_6 rfl ?_
  refine r_istore_n 8 [(3, .int (a0 + (if a1 < a2 then a2 else a1))), (0, .int a0), (1, .int a1), (2, .int a2)] jd_ArS_newLength_7 (by decide) rfl rfl ?_
  refine r_iconst 9 0 jd_ArS_newLength_8 (by decide) rfl ?_
  refine r_iload_n 10 0 jd_ArS_newLength_9 rfl rfl ?_
  rcases q_ite hh with ⟨c1, hh⟩ | ⟨c1, hh⟩
  · refine r_ic_t 21 jd_ArS_newLength_10 rfl c1 ?_
    refine r_iload_n 22 1 jd_ArS_newLength_21 rfl rfl ?_
    refine r_iload_n 23 2 jd_ArS_newLength_22 rfl rfl ?_
    obtain ⟨p2, e3, hh⟩ := q_bind hh
    refine r_cS (rest := []) 26 10 [.int a0, .int a1] [.int p2.2] jd_ArS_newLength_23 rfl rfl rfl (q_s8 (Nat.le_of_ble_eq_true rfl)) (q_call_le (Nat.le_of_ble_eq_true rfl) (jm_ArS_hugeLength e3)) rfl rfl ?_
    cases hh
    exact r_iret jd_ArS_newLength_26 rfl ⟨rfl, rfl⟩
  · refine r_ic_f 13 21 jd_ArS_newLength_10 rfl c1 rfl ?_
    refine r_iload_n 14 0 jd_ArS_newLength_13 rfl rfl ?_
    refine r_ldcI 16 0 jd_ArS_newLength_14 rfl rfl ?_
    rcases q_ite hh with ⟨c4, hh⟩ | ⟨c4, hh⟩
    · refine r_ic_t 21 jd_ArS_newLength_16 rfl c4 ?_
      refine r_iload_n 22 1 jd_ArS_newLength_21 rfl rfl ?_
      refine r_iload_n 23 2 jd_ArS_newLength_22 rfl rfl ?_
      obtain ⟨p5, e6, hh⟩ := q_bind hh
      refine r_cS (rest := []) 26 10 [.int a0, .int a1] [.int p5.2] jd_ArS_newLength_23 rfl rfl rfl (q_s8 (Nat.le_of_ble_eq_true rfl)) (q_call_le (Nat.le_of_ble_eq_true rfl) (jm_ArS_hugeLength e6)) rfl rfl ?_
      cases hh
      exact r_iret jd_ArS_newLength_26 rfl ⟨rfl, rfl⟩
    · refine r_ic_f 19 21 jd_ArS_newLength_16 rfl c4 rfl ?_
      refine r_iload_n 20 0 jd_ArS_newLength_19 rfl rfl ?_
      cases hh
      exact r_iret jd_ArS_newLength_20 rfl ⟨rfl, rfl⟩
-- java/util/ArrayList.grow(I)[Ljava/lang/Object;
def jf_AL_growTo (x : q_S) (a0 : Nat) (a1 : Int32) : Option (q_S × Option Nat) :=
  (q_gR x (some a0) 2 1).bind fun v1 =>
  (q_lenR x 0 v1).bind fun v3 =>
  if 0 < v3 then
    (jf_ArS_newLength x v3 (a1 - v3) (v3 >>> (1 &&& 31))).bind fun p6 =>
    (q_gR p6.1 (some a0) 2 1).bind fun v8 =>
    (jf_Arr_copyOf p6.1 v8 p6.2).bind fun p10 =>
    (q_pR p10.1 (some a0) 2 1 p10.2).bind fun x12 =>
    some (x12, p10.2)
  else
    (q_gR x (some a0) 2 1).bind fun v14 =>
    if v14 = (some (q_z0 x)) then
      (q_nR x 0 (if (10 : Int32) < a1 then a1 else (10 : Int32))).bind fun x17 =>
      (q_pR x17 (some a0) 2 1 (some (q_sz x))).bind fun x19 =>
      some (x19, (some (q_sz x)))
    else
      (jf_ArS_newLength x v3 (a1 - v3) (v3 >>> (1 &&& 31))).bind fun p21 =>
      (q_gR p21.1 (some a0) 2 1).bind fun v23 =>
      (jf_Arr_copyOf p21.1 v23 p21.2).bind fun p25 =>
      (q_pR p25.1 (some a0) 2 1 p25.2).bind fun x27 =>
      some (x27, p25.2)
theorem jm_AL_growTo {x : q_S} {a0 : Nat} {a1 : Int32} {p : q_S × Option Nat} (hh : jf_AL_growTo x a0 a1 = some p) : q_call 3 jq_AL_growTo [va_rf (some a0), .int a1] x p.1 (some (va_rf p.2)) := by
  unfold jf_AL_growTo at hh
  refine ⟨List.mem_of_getElem? (i := 31) rfl, Nat.le_of_ble_eq_true rfl, List.forall_mem_cons.mpr ⟨rfl, List.forall_mem_cons.mpr ⟨rfl, fun _ h => by cases h⟩⟩, ?_⟩
  show q_X (q_call 2) _ jq_AL_growTo 0 [(0, va_rf (some a0)), (1, .int a1)] [] x
  refine r_aload_n 1 0 jd_AL_growTo_0 rfl rfl ?_
  obtain ⟨v1, e2, hh⟩ := q_bind hh
  refine r_getR 4 7 jd_AL_growTo_1 rfl e2 rfl ?_
  obtain ⟨v3, e4, hh⟩ := q_bind hh
  refine r_lenR 5 0 jd_AL_growTo_4 e4 rfl ?_
  refine r_istore_n 6 [(2, .int v3), (0, va_rf (some a0)), (1, .int a1)] jd_AL_growTo_5 (by decide) rfl rfl ?_
  refine r_iload_n 7 0 jd_AL_growTo_6 rfl rfl ?_
  rcases q_ite hh with ⟨c5, hh⟩ | ⟨c5, hh⟩
  · refine r_if_t 20 jd_AL_growTo_7 rfl c5 ?_
    refine r_iload_n 21 0 jd_AL_growTo_20 rfl rfl ?_
    refine r_iload_n 22 2 jd_AL_growTo_21 rfl rfl ?_
    refine r_iload_n 23 0 jd_AL_growTo_22 rfl rfl ?_
    refine r_isub 24 jd_AL_growTo_23 rfl ?_
    refine r_iload_n 25 0 jd_AL_growTo_24 rfl rfl ?_
    refine r_iconst 26 1 jd_AL_growTo_25 (by decide) rfl ?_
    refine r_ishr 27 jd_AL_growTo_26 rfl ?_
    obtain ⟨p6, e7, hh⟩ := q_bind hh
    refine r_cS (rest := []) 30 7 [.int v3, .int (a1 - v3), .int (v3 >>> (1 &&& 31))] [.int p6.2] jd_AL_growTo_27 rfl rfl rfl (q_s8 (Nat.le_of_ble_eq_true rfl)) (q_call_le (Nat.le_of_ble_eq_true rfl) (jm_ArS_newLength e7)) rfl rfl ?_
    refine r_istore_n 31 [(3, .int p6.2), (2, .int v3), (0, va_rf (some a0)), (1, .int a1)] jd_AL_growTo_30 (by decide) rfl rfl ?_
    refine r_aload_n 32 2 jd_AL_growTo_31 rfl rfl ?_
    refine r_aload_n 33 2 jd_AL_growTo_32 rfl rfl ?_
    obtain ⟨v8, e9, hh⟩ := q_bind hh
    refine r_getR 36 7 jd_AL_growTo_33 rfl e9 rfl ?_
    refine r_iload_n 37 0 jd_AL_growTo_36 rfl rfl ?_
    obtain ⟨p10, e11, hh⟩ := q_bind hh
    refine r_cS (rest := [va_rf (some a0)]) 40 8 [va_rf v8, .int p6.2] [va_rf p10.2, va_rf (some a0)] jd_AL_growTo_37 rfl rfl rfl (q_s8 (Nat.le_of_ble_eq_true rfl)) (q_call_le (Nat.le_of_ble_eq_true rfl) (jm_Arr_copyOf e11)) rfl rfl ?_
    refine r_dup_x1RR 41 jd_AL_growTo_40 rfl ?_
    obtain ⟨x12, e13, hh⟩ := q_bind hh
    refine r_putA 44 7 jd_AL_growTo_41 rfl rfl (Or.inl rfl) e13 rfl ?_
    cases hh
    exact r_aretA jd_AL_growTo_44 rfl ⟨rfl, rfl⟩
  · refine r_if_f 10 20 jd_AL_growTo_7 rfl c5 rfl ?_
    refine r_aload_n 11 1 jd_AL_growTo_10 rfl rfl ?_
    obtain ⟨v14, e15, hh⟩ := q_bind hh
    refine r_getR 14 7 jd_AL_growTo_11 rfl e15 rfl ?_
    refine r_gets 17 jd_AL_growTo_14 0 rfl rfl ?_
    rcases q_ite hh with ⟨c16, hh⟩ | ⟨c16, hh⟩
    · refine r_ac_t 45 jd_AL_growTo_17 rfl c16 ?_
      refine r_aload_n 46 1 jd_AL_growTo_45 rfl rfl ?_
      refine r_bipush 48 10 jd_AL_growTo_46 (by decide) rfl ?_
      refine r_iload_n 49 2 jd_AL_growTo_48 rfl rfl ?_
      refine r_max 52 1 jd_AL_growTo_49 rfl (q_s8 (Nat.le_of_ble_eq_true rfl)) rfl ?_
      obtain ⟨x17, e18, hh⟩ := q_bind hh
      refine r_newR 55 0 0 jd_AL_growTo_52 rfl e18 rfl ?_
      refine r_dup_x1RR 56 jd_AL_growTo_55 rfl ?_
      obtain ⟨x19, e20, hh⟩ := q_bind hh
      refine r_putA 59 7 jd_AL_growTo_56 rfl rfl (Or.inl rfl) e20 rfl ?_
      cases hh
      exact r_aretA jd_AL_growTo_59 rfl ⟨rfl, rfl⟩
    · refine r_ac_f 20 45 jd_AL_growTo_17 rfl c16 rfl ?_
      refine r_iload_n 21 0 jd_AL_growTo_20 rfl rfl ?_
      refine r_iload_n 22 2 jd_AL_growTo_21 rfl rfl ?_
      refine r_iload_n 23 0 jd_AL_growTo_22 rfl rfl ?_
      refine r_isub 24 jd_AL_growTo_23 rfl ?_
      refine r_iload_n 25 0 jd_AL_growTo_24 rfl rfl ?_
      refine r_iconst 26 1 jd_AL_growTo_25 (by decide) rfl ?_
      refine r_ishr 27 jd_AL_growTo_26 rfl ?_
      obtain ⟨p21, e22, hh⟩ := q_bind hh
      refine r_cS (rest := []) 30 7 [.int v3, .int (a1 - v3), .int (v3 >>> (1 &&& 31))] [.int p21.2] jd_AL_growTo_27 rfl rfl rfl (q_s8 (Nat.le_of_ble_eq_true rfl)) (q_call_le (Nat.le_of_ble_eq_true rfl) (jm_ArS_newLength e22)) rfl rfl ?_
      refine r_istore_n 31 [(3, .int p21.2), (2, .int v3), (0, va_rf (some a0)), (1, .int a1)] jd_AL_growTo_30 (by decide) rfl rfl ?_
      refine r_aload_n 32 2 jd_AL_growTo_31 rfl rfl ?_
      refine r_aload_n 33 2 jd_AL_growTo_32 rfl rfl ?_
      obtain ⟨v23, e24, hh⟩ := q_bind hh
      refine r_getR 36 7 jd_AL_growTo_33 rfl e24 rfl ?_
      refine r_iload_n 37 0 jd_AL_growTo_36 rfl rfl ?_
      obtain ⟨p25, e26, hh⟩ := q_bind hh
      refine r_cS (rest := [va_rf (some a0)]) 40 8 [va_rf v23, .int p21.2] [va_rf p25.2, va_rf (some a0)] jd_AL_growTo_37 rfl rfl rfl (q_s8 (Nat.le_of_ble_eq_true rfl)) (q_call_le (Nat.le_of_ble_eq_true rfl) (jm_Arr_copyOf e26)) rfl rfl ?_
      refine r_dup_x1RR 41 jd_AL_growTo_40 rfl ?_
      obtain ⟨x27, e28, hh⟩ := q_bind hh
      refine r_putA 44 7 jd_AL_growTo_41 rfl rfl (Or.inl rfl) e28 rfl ?_
      cases hh
      exact r_aretA jd_AL_growTo_44 rfl ⟨rfl, rfl⟩
-- java/util/ArrayList.grow()[Ljava/lang/Object;
def jf_AL_grow (x : q_S) (a0 : Nat) : Option (q_S × Option Nat) :=
  (q_gI x (some a0) 2 2).bind fun v1 =>
  (q_av x (some a0) 2).bind fun b5 =>
  (jf_AL_growTo x b5 (v1 + 1)).bind fun p3 =>
  some (p3.1, p3.2)
theorem jm_AL_grow {x : q_S} {a0 : Nat} {p : q_S × Option Nat} (hh : jf_AL_grow x a0 = some p) : q_call 4 jq_AL_grow [va_rf (some a0)] x p.1 (some (va_rf p.2)) := by
  unfold jf_AL_grow at hh
  refine ⟨List.mem_of_getElem? (i := 30) rfl, Nat.le_of_ble_eq_true rfl, List.forall_mem_cons.mpr ⟨rfl, fun _ h => by cases h⟩, ?_⟩
  show q_X (q_call 3) _ jq_AL_grow 0 [(0, va_rf (some a0))] [] x
  refine r_aload_n 1 0 jd_AL_grow_0 rfl rfl ?_
  refine r_aload_n 2 0 jd_AL_grow_1 rfl rfl ?_
  obtain ⟨v1, e2, hh⟩ := q_bind hh
  refine r_getI 5 19 jd_AL_grow_2 rfl e2 rfl ?_
  refine r_iconst 6 1 jd_AL_grow_5 (by decide) rfl ?_
  refine r_iadd 7 jd_AL_grow_6 rfl ?_
  obtain ⟨b5, e6, hh⟩ := q_bind hh
  obtain ⟨p3, e4, hh⟩ := q_bind hh
  refine r_cV (rest := []) 10 59 2 [.int (v1 + 1)] [va_rf p3.2] jd_AL_grow_7 rfl e6 rfl rfl rfl rfl (q_s8 (Nat.le_of_ble_eq_true rfl)) (q_call_le (Nat.le_of_ble_eq_true rfl) (jm_AL_growTo e4)) rfl rfl ?_
  cases hh
  exact r_aretA jd_AL_grow_10 rfl ⟨rfl, rfl⟩
-- java/util/ArrayList.add(Ljava/lang/Object;[Ljava/lang/Object;I)V
def jf_AL_add3 (x : q_S) (a0 : Nat) (a1 : Option Nat) (a2 : Option Nat) (a3 : Int32) : Option (q_S × Unit) :=
  (q_lenR x 0 a2).bind fun v1 =>
  if a3 = v1 then
    (q_av x (some a0) 2).bind fun b10 =>
    (jf_AL_grow x b10).bind fun p8 =>
    (q_sR p8.1 0 p8.2 a3 a1).bind fun x12 =>
    (q_pI x12 (some a0) 2 2 (a3 + 1)).bind fun x14 =>
    some (x14, ())
  else
    (q_sR x 0 a2 a3 a1).bind fun x4 =>
    (q_pI x4 (some a0) 2 2 (a3 + 1)).bind fun x6 =>
    some (x6, ())
theorem jm_AL_add3 {x : q_S} {a0 : Nat} {a1 : Option Nat} {a2 : Option Nat} {a3 : Int32} {p : q_S × Unit} (hh : jf_AL_add3 x a0 a1 a2 a3 = some p) : q_call 5 jq_AL_add3 [va_rf (some a0), va_rf a1, va_rf a2, .int a3] x p.1 (none) := by
  unfold jf_AL_add3 at hh
  refine ⟨List.mem_of_getElem? (i := 29) rfl, Nat.le_of_ble_eq_true rfl, List.forall_mem_cons.mpr ⟨rfl, List.forall_mem_cons.mpr ⟨q_cat _, List.forall_mem_cons.mpr ⟨q_cat _, List.forall_mem_cons.mpr ⟨rfl, fun _ h => by cases h⟩⟩⟩⟩, ?_⟩
  show q_X (q_call 4) _ jq_AL_add3 0 [(0, va_rf (some a0)), (1, va_rf a1), (2, va_rf a2), (3, .int a3)] [] x
  refine r_iload_n 1 3 jd_AL_add3_0 rfl rfl ?_
  refine r_aload_n 2 2 jd_AL_add3_1 rfl rfl ?_
  obtain ⟨v1, e2, hh⟩ := q_bind hh
  refine r_lenR 3 0 jd_AL_add3_2 e2 rfl ?_
  rcases q_ite hh with ⟨c3, hh⟩ | ⟨c3, hh⟩
  · refine r_ic_f 6 11 jd_AL_add3_3 rfl (fun z => z c3) rfl ?_
    refine r_aload_n 7 0 jd_AL_add3_6 rfl rfl ?_
    obtain ⟨b10, e11, hh⟩ := q_bind hh
    obtain ⟨p8, e9, hh⟩ := q_bind hh
    refine r_cV (rest := []) 10 58 2 [] [va_rf p8.2] jd_AL_add3_7 rfl e11 rfl rfl rfl rfl (q_s8 (Nat.le_of_ble_eq_true rfl)) (q_call_le (Nat.le_of_ble_eq_true rfl) (jm_AL_grow e9)) rfl rfl ?_
    refine r_astore_n 11 [(2, va_rf p8.2), (0, va_rf (some a0)), (1, va_rf a1), (3, .int a3)] jd_AL_add3_10 (by decide) rfl rfl ?_
    refine r_aload_n 12 0 jd_AL_add3_11 rfl rfl ?_
    refine r_iload_n 13 3 jd_AL_add3_12 rfl rfl ?_
    refine r_aload_n 14 2 jd_AL_add3_13 rfl rfl ?_
    obtain ⟨x12, e13, hh⟩ := q_bind hh
    refine r_stR 15 0 jd_AL_add3_14 e13 rfl ?_
    refine r_aload_n 16 1 jd_AL_add3_15 rfl rfl ?_
    refine r_iload_n 17 3 jd_AL_add3_16 rfl rfl ?_
    refine r_iconst 18 1 jd_AL_add3_17 (by decide) rfl ?_
    refine r_iadd 19 jd_AL_add3_18 rfl ?_
    obtain ⟨x14, e15, hh⟩ := q_bind hh
    refine r_putI 22 19 jd_AL_add3_19 rfl rfl (Or.inl rfl) e15 rfl ?_
    cases hh
    exact r_vret jd_AL_add3_22 rfl ⟨rfl, rfl⟩
  · refine r_ic_t 11 jd_AL_add3_3 rfl c3 ?_
    refine r_aload_n 12 2 jd_AL_add3_11 rfl rfl ?_
    refine r_iload_n 13 3 jd_AL_add3_12 rfl rfl ?_
    refine r_aload_n 14 1 jd_AL_add3_13 rfl rfl ?_
    obtain ⟨x4, e5, hh⟩ := q_bind hh
    refine r_stR 15 0 jd_AL_add3_14 e5 rfl ?_
    refine r_aload_n 16 0 jd_AL_add3_15 rfl rfl ?_
    refine r_iload_n 17 3 jd_AL_add3_16 rfl rfl ?_
    refine r_iconst 18 1 jd_AL_add3_17 (by decide) rfl ?_
    refine r_iadd 19 jd_AL_add3_18 rfl ?_
    obtain ⟨x6, e7, hh⟩ := q_bind hh
    refine r_putI 22 19 jd_AL_add3_19 rfl rfl (Or.inl rfl) e7 rfl ?_
    cases hh
    exact r_vret jd_AL_add3_22 rfl ⟨rfl, rfl⟩
-- java/util/ArrayList.add(Ljava/lang/Object;)Z
def jf_AL_add (x : q_S) (a0 : Nat) (a1 : Option Nat) : Option (q_S × Int32) :=
  (q_gI x (some a0) 2 0).bind fun v1 =>
  (q_pI x (some a0) 2 0 (v1 + 1)).bind fun x3 =>
  (q_gR x3 (some a0) 2 1).bind fun v5 =>
  (q_gI x3 (some a0) 2 2).bind fun v7 =>
  (q_av x3 (some a0) 2).bind fun b11 =>
  (jf_AL_add3 x3 b11 a1 v5 v7).bind fun p9 =>
  some (p9.1, 1)
theorem jm_AL_add {x : q_S} {a0 : Nat} {a1 : Option Nat} {p : q_S × Int32} (hh : jf_AL_add x a0 a1 = some p) : q_call 6 jq_AL_add [va_rf (some a0), va_rf a1] x p.1 (some (.int p.2)) := by
  unfold jf_AL_add at hh
  refine ⟨List.mem_of_getElem? (i := 28) rfl, Nat.le_of_ble_eq_true rfl, List.forall_mem_cons.mpr ⟨rfl, List.forall_mem_cons.mpr ⟨q_cat _, fun _ h => by cases h⟩⟩, ?_⟩
  show q_X (q_call 5) _ jq_AL_add 0 [(0, va_rf (some a0)), (1, va_rf a1)] [] x
  refine r_aload_n 1 0 jd_AL_add_0 rfl rfl ?_
  refine r_dupR 2 jd_AL_add_1 rfl ?_
  obtain ⟨v1, e2, hh⟩ := q_bind hh
  refine r_getI 5 39 jd_AL_add_2 rfl e2 rfl ?_
  refine r_iconst 6 1 jd_AL_add_5 (by decide) rfl ?_
  refine r_iadd 7 jd_AL_add_6 rfl ?_
  obtain ⟨x3, e4, hh⟩ := q_bind hh
  refine r_putI 10 39 jd_AL_add_7 rfl rfl (Or.inl rfl) e4 rfl ?_
  refine r_aload_n 11 0 jd_AL_add_10 rfl rfl ?_
  refine r_aload_n 12 1 jd_AL_add_11 rfl rfl ?_
  refine r_aload_n 13 0 jd_AL_add_12 rfl rfl ?_
  obtain ⟨v5, e6, hh⟩ := q_bind hh
  refine r_getR 16 7 jd_AL_add_13 rfl e6 rfl ?_
  refine r_aload_n 17 0 jd_AL_add_16 rfl rfl ?_
  obtain ⟨v7, e8, hh⟩ := q_bind hh
  refine r_getI 20 19 jd_AL_add_17 rfl e8 rfl ?_
  obtain ⟨b11, e12, hh⟩ := q_bind hh
  obtain ⟨p9, e10, hh⟩ := q_bind hh
  refine r_cV (rest := []) 23 57 2 [va_rf a1, va_rf v5, .int v7] [] jd_AL_add_20 rfl e12 rfl rfl rfl rfl (q_s8 (Nat.le_of_ble_eq_true rfl)) (q_call_le (Nat.le_of_ble_eq_true rfl) (jm_AL_add3 e10)) rfl rfl ?_
  refine r_iconst 24 1 jd_AL_add_23 (by decide) rfl ?_
  cases hh
  exact r_zret jd_AL_add_24 rfl (by decide) ⟨rfl, rfl⟩
-- java/util/ArrayList.isEmpty()Z
def jf_AL_isEmpty (x : q_S) (a0 : Nat) : Option (q_S × Int32) :=
  (q_gI x (some a0) 2 2).bind fun v1 =>
  if v1 = 0 then
    some (x, 1)
  else
    some (x, 0)
theorem jm_AL_isEmpty {x : q_S} {a0 : Nat} {p : q_S × Int32} (hh : jf_AL_isEmpty x a0 = some p) : q_call 1 jq_AL_isEmpty [va_rf (some a0)] x p.1 (some (.int p.2)) := by
  unfold jf_AL_isEmpty at hh
  refine ⟨List.mem_of_getElem? (i := 42) rfl, Nat.le_of_ble_eq_true rfl, List.forall_mem_cons.mpr ⟨rfl, fun _ h => by cases h⟩, ?_⟩
  show q_X (q_call 0) _ jq_AL_isEmpty 0 [(0, va_rf (some a0))] [] x
  refine r_aload_n 1 0 jd_AL_isEmpty_0 rfl rfl ?_
  obtain ⟨v1, e2, hh⟩ := q_bind hh
  refine r_getI 4 19 jd_AL_isEmpty_1 rfl e2 rfl ?_
  rcases q_ite hh with ⟨c3, hh⟩ | ⟨c3, hh⟩
  · refine r_if_f 7 11 jd_AL_isEmpty_4 rfl (fun z => z c3) rfl ?_
    refine r_iconst 8 1 jd_AL_isEmpty_7 (by decide) rfl ?_
    refine r_goto 12 jd_AL_isEmpty_8 rfl ?_
    cases hh
    exact r_zret jd_AL_isEmpty_12 rfl (by decide) ⟨rfl, rfl⟩
  · refine r_if_t 11 jd_AL_isEmpty_4 rfl c3 ?_
    refine r_iconst 12 0 jd_AL_isEmpty_11 (by decide) rfl ?_
    cases hh
    exact r_zret jd_AL_isEmpty_12 rfl (by decide) ⟨rfl, rfl⟩
-- java/util/ArrayList.fastRemove([Ljava/lang/Object;I)V
def jf_AL_fastRemove (x : q_S) (a0 : Nat) (a1 : Option Nat) (a2 : Int32) : Option (q_S × Unit) :=
  (q_gI x (some a0) 2 0).bind fun v1 =>
  (q_pI x (some a0) 2 0 (v1 + 1)).bind fun x3 =>
  (q_gI x3 (some a0) 2 2).bind fun v5 =>
  if (v5 - 1) ≤ a2 then
    (q_pI x3 (some a0) 2 2 (v5 - 1)).bind fun x8 =>
    (q_sR x8 0 a1 (v5 - 1) none).bind fun x10 =>
    some (x10, ())
  else
    (q_cp x3 0 a1 (a2 + 1) a1 a2 ((v5 - 1) - a2)).bind fun x12 =>
    (q_pI x12 (some a0) 2 2 (v5 - 1)).bind fun x14 =>
    (q_sR x14 0 a1 (v5 - 1) none).bind fun x16 =>
    some (x16, ())
theorem jm_AL_fastRemove {x : q_S} {a0 : Nat} {a1 : Option Nat} {a2 : Int32} {p : q_S × Unit} (hh : jf_AL_fastRemove x a0 a1 a2 = some p) : q_call 1 jq_AL_fastRemove [va_rf (some a0), va_rf a1, .int a2] x p.1 (none) := by
  unfold jf_AL_fastRemove at hh
  refine ⟨List.mem_of_getElem? (i := 51) rfl, Nat.le_of_ble_eq_true rfl, List.forall_mem_cons.mpr ⟨rfl, List.forall_mem_cons.mpr ⟨q_cat _, List.forall_mem_cons.mpr ⟨rfl, fun _ h => by cases h⟩⟩⟩, ?_⟩
  show q_X (q_call 0) _ jq_AL_fastRemove 0 [(0, va_rf (some a0)), (1, va_rf a1), (2, .int a2)] [] x
  refine r_aload_n 1 0 jd_AL_fastRemove_0 rfl rfl ?_
  refine r_dupR 2 jd_AL_fastRemove_1 rfl ?_
  obtain ⟨v1, e2, hh⟩ := q_bind hh
  refine r_getI 5 39 jd_AL_fastRemove_2 rfl e2 rfl ?_
  refine r_iconst 6 1 jd_AL_fastRemove_5 (by decide) rfl ?_
  refine r_iadd 7 jd_AL_fastRemove_6 rfl ?_
  obtain ⟨x3, e4, hh⟩ := q_bind hh
  refine r_putI 10 39 jd_AL_fastRemove_7 rfl rfl (Or.inl rfl) e4 rfl ?_
  refine r_aload_n 11 0 jd_AL_fastRemove_10 rfl rfl ?_
  obtain ⟨v5, e6, hh⟩ := q_bind hh
  refine r_getI 14 19 jd_AL_fastRemove_11 rfl e6 rfl ?_
  refine r_iconst 15 1 jd_AL_fastRemove_14 (by decide) rfl ?_
  refine r_isub 16 jd_AL_fastRemove_15 rfl ?_
  refine r_dupI 17 jd_AL_fastRemove_16 rfl ?_
  refine r_istore_n 18 [(3, .int (v5 - 1)), (0, va_rf (some a0)), (1, va_rf a1), (2, .int a2)] jd_AL_fastRemove_17 (by decide) rfl rfl ?_
  refine r_iload_n 19 3 jd_AL_fastRemove_18 rfl rfl ?_
  rcases q_ite hh with ⟨c7, hh⟩ | ⟨c7, hh⟩
  · refine r_ic_t 34 jd_AL_fastRemove_19 rfl c7 ?_
    refine r_aload_n 35 2 jd_AL_fastRemove_34 rfl rfl ?_
    refine r_aload_n 36 1 jd_AL_fastRemove_35 rfl rfl ?_
    refine r_iload_n 37 0 jd_AL_fastRemove_36 rfl rfl ?_
    refine r_dup_x1IR 38 jd_AL_fastRemove_37 rfl ?_
    obtain ⟨x8, e9, hh⟩ := q_bind hh
    refine r_putI 41 19 jd_AL_fastRemove_38 rfl rfl (Or.inl rfl) e9 rfl ?_
    refine r_null 42 jd_AL_fastRemove_41 rfl ?_
    obtain ⟨x10, e11, hh⟩ := q_bind hh
    refine r_stR 43 0 jd_AL_fastRemove_42 e11 rfl ?_
    cases hh
    exact r_vret jd_AL_fastRemove_43 rfl ⟨rfl, rfl⟩
  · refine r_ic_f 22 34 jd_AL_fastRemove_19 rfl c7 rfl ?_
    refine r_aload_n 23 2 jd_AL_fastRemove_22 rfl rfl ?_
    refine r_iload_n 24 3 jd_AL_fastRemove_23 rfl rfl ?_
    refine r_iconst 25 1 jd_AL_fastRemove_24 (by decide) rfl ?_
    refine r_iadd 26 jd_AL_fastRemove_25 rfl ?_
    refine r_aload_n 27 2 jd_AL_fastRemove_26 rfl rfl ?_
    refine r_iload_n 28 3 jd_AL_fastRemove_27 rfl rfl ?_
    refine r_iload_n 29 0 jd_AL_fastRemove_28 rfl rfl ?_
    refine r_iload_n 30 3 jd_AL_fastRemove_29 rfl rfl ?_
    refine r_isub 31 jd_AL_fastRemove_30 rfl ?_
    obtain ⟨x12, e13, hh⟩ := q_bind hh
    refine r_copy 34 0 1 jd_AL_fastRemove_31 rfl (q_s8 (Nat.le_of_ble_eq_true rfl)) e13 rfl ?_
    refine r_aload_n 35 2 jd_AL_fastRemove_34 rfl rfl ?_
    refine r_aload_n 36 1 jd_AL_fastRemove_35 rfl rfl ?_
    refine r_iload_n 37 0 jd_AL_fastRemove_36 rfl rfl ?_
    refine r_dup_x1IR 38 jd_AL_fastRemove_37 rfl ?_
    obtain ⟨x14, e15, hh⟩ := q_bind hh
    refine r_putI 41 19 jd_AL_fastRemove_38 rfl rfl (Or.inl rfl) e15 rfl ?_
    refine r_null 42 jd_AL_fastRemove_41 rfl ?_
    obtain ⟨x16, e17, hh⟩ := q_bind hh
    refine r_stR 43 0 jd_AL_fastRemove_42 e17 rfl ?_
    cases hh
    exact r_vret jd_AL_fastRemove_43 rfl ⟨rfl, rfl⟩
-- java/util/ArrayList.remove(I)Ljava/lang/Object;
def jf_AL_remove (x : q_S) (a0 : Nat) (a1 : Int32) : Option (q_S × Option Nat) :=
  (q_gI x (some a0) 2 2).bind fun v1 =>
  (jf_Obs_checkIndex x a1 v1).bind fun p3 =>
  (q_gR p3.1 (some a0) 2 1).bind fun v5 =>
  (q_lR p3.1 0 v5 a1).bind fun v7 =>
  (q_av p3.1 (some a0) 2).bind fun b11 =>
  (jf_AL_fastRemove p3.1 b11 v5 a1).bind fun p9 =>
  some (p9.1, v7)
theorem jm_AL_remove {x : q_S} {a0 : Nat} {a1 : Int32} {p : q_S × Option Nat} (hh : jf_AL_remove x a0 a1 = some p) : q_call 3 jq_AL_remove [va_rf (some a0), .int a1] x p.1 (some (va_rf p.2)) := by
  unfold jf_AL_remove at hh
  refine ⟨List.mem_of_getElem? (i := 50) rfl, Nat.le_of_ble_eq_true rfl, List.forall_mem_cons.mpr ⟨rfl, List.forall_mem_cons.mpr ⟨rfl, fun _ h => by cases h⟩⟩, ?_⟩
  show q_X (q_call 2) _ jq_AL_remove 0 [(0, va_rf (some a0)), (1, .int a1)] [] x
  refine r_iload_n 1 1 jd_AL_remove_0 rfl rfl ?_
  refine r_aload_n 2 0 jd_AL_remove_1 rfl rfl ?_
  obtain ⟨v1, e2, hh⟩ := q_bind hh
  refine r_getI 5 19 jd_AL_remove_2 rfl e2 rfl ?_
  obtain ⟨p3, e4, hh⟩ := q_bind hh
  refine r_cS (rest := []) 8 2 [.int a1, .int v1] [.int p3.2] jd_AL_remove_5 rfl rfl rfl (q_s8 (Nat.le_of_ble_eq_true rfl)) (q_call_le (Nat.le_of_ble_eq_true rfl) (jm_Obs_checkIndex e4)) rfl rfl ?_
  refine r_popI 9 jd_AL_remove_8 rfl ?_
  refine r_aload_n 10 0 jd_AL_remove_9 rfl rfl ?_
  obtain ⟨v5, e6, hh⟩ := q_bind hh
  refine r_getR 13 7 jd_AL_remove_10 rfl e6 rfl ?_
  refine r_astore_n 14 [(2, va_rf v5), (0, va_rf (some a0)), (1, .int a1)] jd_AL_remove_13 (by decide) rfl rfl ?_
  refine r_aload_n 15 0 jd_AL_remove_14 rfl rfl ?_
  refine r_iload_n 16 2 jd_AL_remove_15 rfl rfl ?_
  obtain ⟨v7, e8, hh⟩ := q_bind hh
  refine r_ldR 17 0 jd_AL_remove_16 e8 rfl ?_
  refine r_astore_n 18 [(3, va_rf v7), (2, va_rf v5), (0, va_rf (some a0)), (1, .int a1)] jd_AL_remove_17 (by decide) rfl rfl ?_
  refine r_aload_n 19 2 jd_AL_remove_18 rfl rfl ?_
  refine r_aload_n 20 1 jd_AL_remove_19 rfl rfl ?_
  refine r_iload_n 21 3 jd_AL_remove_20 rfl rfl ?_
  obtain ⟨b11, e12, hh⟩ := q_bind hh
  obtain ⟨p9, e10, hh⟩ := q_bind hh
  refine r_cV (rest := []) 24 72 2 [va_rf v5, .int a1] [] jd_AL_remove_21 rfl e12 rfl rfl rfl rfl (q_s8 (Nat.le_of_ble_eq_true rfl)) (q_call_le (Nat.le_of_ble_eq_true rfl) (jm_AL_fastRemove e10)) rfl rfl ?_
  refine r_aload_n 25 0 jd_AL_remove_24 rfl rfl ?_
  cases hh
  exact r_aretO jd_AL_remove_25 rfl ⟨rfl, rfl⟩
-- java/lang/Record.<init>()V
def jf_Rec_init (x : q_S) (a0 : Nat) : Option (q_S × Unit) :=
  some (x, ())
theorem jm_Rec_init {x : q_S} {a0 : Nat} {p : q_S × Unit} (hh : jf_Rec_init x a0 = some p) : q_call 1 jq_Rec_init [va_rf (some a0)] x p.1 (none) := by
  unfold jf_Rec_init at hh
  refine ⟨List.mem_of_getElem? (i := 65) rfl, Nat.le_of_ble_eq_true rfl, List.forall_mem_cons.mpr ⟨rfl, fun _ h => by cases h⟩, ?_⟩
  show q_X (q_call 0) _ jq_Rec_init 0 [(0, va_rf (some a0))] [] x
  refine r_aload_n 1 0 jd_Rec_init_0 rfl rfl ?_
  refine r_obj 4 8 jd_Rec_init_1 rfl (q_s8 (Nat.le_of_ble_eq_true rfl)) rfl ?_
  cases hh
  exact r_vret jd_Rec_init_4 rfl ⟨rfl, rfl⟩
-- java/lang/Integer.bitCount(I)I
def jf_Int_bitCount (x : q_S) (a0 : Int32) : Option (q_S × Int32) :=
  some (x, (((((((a0 - (((a0.toUInt32 >>> ((1 : Int32).toUInt32 &&& Int32.toUInt32 31)).toInt32) &&& 1431655765)) &&& 858993459) + ((((a0 - (((a0.toUInt32 >>> ((1 : Int32).toUInt32 &&& Int32.toUInt32 31)).toInt32) &&& 1431655765)).toUInt32 >>> ((2 : Int32).toUInt32 &&& Int32.toUInt32 31)).toInt32) &&& 858993459)) + (((((a0 - (((a0.toUInt32 >>> ((1 : Int32).toUInt32 &&& Int32.toUInt32 31)).toInt32) &&& 1431655765)) &&& 858993459) + ((((a0 - (((a0.toUInt32 >>> ((1 : Int32).toUInt32 &&& Int32.toUInt32 31)).toInt32) &&& 1431655765)).toUInt32 >>> ((2 : Int32).toUInt32 &&& Int32.toUInt32 31)).toInt32) &&& 858993459)).toUInt32 >>> ((4 : Int32).toUInt32 &&& Int32.toUInt32 31)).toInt32)) &&& 252645135) + (((((((a0 - (((a0.toUInt32 >>> ((1 : Int32).toUInt32 &&& Int32.toUInt32 31)).toInt32) &&& 1431655765)) &&& 858993459) + ((((a0 - (((a0.toUInt32 >>> ((1 : Int32).toUInt32 &&& Int32.toUInt32 31)).toInt32) &&& 1431655765)).toUInt32 >>> ((2 : Int32).toUInt32 &&& Int32.toUInt32 31)).toInt32) &&& 858993459)) + (((((a0 - (((a0.toUInt32 >>> ((1 : Int32).toUInt32 &&& Int32.toUInt32 31)).toInt32) &&& 1431655765)) &&& 858993459) + ((((a0 - (((a0.toUInt32 >>> ((1 : Int32).toUInt32 &&& Int32.toUInt32 31)).toInt32) &&& 1431655765)).toUInt32 >>> ((2 : Int32).toUInt32 &&& Int32.toUInt32 31)).toInt32) &&& 858993459)).toUInt32 >>> ((4 : Int32).toUInt32 &&& Int32.toUInt32 31)).toInt32)) &&& 252645135).toUInt32 >>> ((8 : Int32).toUInt32 &&& Int32.toUInt32 31)).toInt32)) + ((((((((a0 - (((a0.toUInt32 >>> ((1 : Int32).toUInt32 &&& Int32.toUInt32 31)).toInt32) &&& 1431655765)) &&& 858993459) + ((((a0 - (((a0.toUInt32 >>> ((1 : Int32).toUInt32 &&& Int32.toUInt32 31)).toInt32) &&& 1431655765)).toUInt32 >>> ((2 : Int32).toUInt32 &&& Int32.toUInt32 31)).toInt32) &&& 858993459)) + (((((a0 - (((a0.toUInt32 >>> ((1 : Int32).toUInt32 &&& Int32.toUInt32 31)).toInt32) &&& 1431655765)) &&& 858993459) + ((((a0 - (((a0.toUInt32 >>> ((1 : Int32).toUInt32 &&& Int32.toUInt32 31)).toInt32) &&& 1431655765)).toUInt32 >>> ((2 : Int32).toUInt32 &&& Int32.toUInt32 31)).toInt32) &&& 858993459)).toUInt32 >>> ((4 : Int32).toUInt32 &&& Int32.toUInt32 31)).toInt32)) &&& 252645135) + (((((((a0 - (((a0.toUInt32 >>> ((1 : Int32).toUInt32 &&& Int32.toUInt32 31)).toInt32) &&& 1431655765)) &&& 858993459) + ((((a0 - (((a0.toUInt32 >>> ((1 : Int32).toUInt32 &&& Int32.toUInt32 31)).toInt32) &&& 1431655765)).toUInt32 >>> ((2 : Int32).toUInt32 &&& Int32.toUInt32 31)).toInt32) &&& 858993459)) + (((((a0 - (((a0.toUInt32 >>> ((1 : Int32).toUInt32 &&& Int32.toUInt32 31)).toInt32) &&& 1431655765)) &&& 858993459) + ((((a0 - (((a0.toUInt32 >>> ((1 : Int32).toUInt32 &&& Int32.toUInt32 31)).toInt32) &&& 1431655765)).toUInt32 >>> ((2 : Int32).toUInt32 &&& Int32.toUInt32 31)).toInt32) &&& 858993459)).toUInt32 >>> ((4 : Int32).toUInt32 &&& Int32.toUInt32 31)).toInt32)) &&& 252645135).toUInt32 >>> ((8 : Int32).toUInt32 &&& Int32.toUInt32 31)).toInt32)).toUInt32 >>> ((16 : Int32).toUInt32 &&& Int32.toUInt32 31)).toInt32)) &&& 63)
theorem jm_Int_bitCount {x : q_S} {a0 : Int32} {p : q_S × Int32} (hh : jf_Int_bitCount x a0 = some p) : q_call 1 jq_Int_bitCount [.int a0] x p.1 (some (.int p.2)) := by
  unfold jf_Int_bitCount at hh
  refine ⟨List.mem_of_getElem? (i := 71) rfl, Nat.le_of_ble_eq_true rfl, List.forall_mem_cons.mpr ⟨rfl, fun _ h => by cases h⟩, ?_⟩
  show q_X (q_call 0) _ jq_Int_bitCount 0 [(0, .int a0)] [] x
  refine r_iload_n 1 0 jd_Int_bitCount_0 rfl rfl ?_
  refine r_iload_n 2 0 jd_Int_bitCount_1 rfl rfl ?_
  refine r_iconst 3 1 jd_Int_bitCount_2 (by decide) rfl ?_
  refine r_iushr 4 jd_Int_bitCount_3 rfl ?_
  refine r_ldcw 7 1 jd_Int_bitCount_4 rfl rfl ?_
  refine r_iand 8 jd_Int_bitCount_7 rfl ?_
  refine r_isub 9 jd_Int_bitCount_8 rfl ?_
  refine r_istore_n 10 [(0, .int (a0 - (((a0.toUInt32 >>> ((1 : Int32).toUInt32 &&& Int32.toUInt32 31)).toInt32) &&& 1431655765)))] jd_Int_bitCount_9 (by decide) rfl rfl ?_
  refine r_iload_n 11 0 jd_Int_bitCount_10 rfl rfl ?_
  refine r_ldcw 14 2 jd_Int_bitCount_11 rfl rfl ?_
  refine r_iand 15 jd_Int_bitCount_14 rfl ?_
  refine r_iload_n 16 0 jd_Int_bitCount_15 rfl rfl ?_
  refine r_iconst 17 2 jd_Int_bitCount_16 (by decide) rfl ?_
  refine r_iushr 18 jd_Int_bitCount_17 rfl ?_
  refine r_ldcw 21 2 jd_Int_bitCount_18 rfl rfl ?_
  refine r_iand 22 jd_Int_bitCount_21 rfl ?_
  refine r_iadd 23 jd_Int_bitCount_22 rfl ?_
  refine r_istore_n 24 [(0, .int (((a0 - (((a0.toUInt32 >>> ((1 : Int32).toUInt32 &&& Int32.toUInt32 31)).toInt32) &&& 1431655765)) &&& 858993459) + ((((a0 - (((a0.toUInt32 >>> ((1 : Int32).toUInt32 &&& Int32.toUInt32 31)).toInt32) &&& 1431655765)).toUInt32 >>> ((2 : Int32).toUInt32 &&& Int32.toUInt32 31)).toInt32) &&& 858993459)))] jd_Int_bitCount_23 (by decide) rfl rfl ?_
  refine r_iload_n 25 0 jd_Int_bitCount_24 rfl rfl ?_
  refine r_iload_n 26 0 jd_Int_bitCount_25 rfl rfl ?_
  refine r_iconst 27 4 jd_Int_bitCount_26 (by decide) rfl ?_
  refine r_iushr 28 jd_Int_bitCount_27 rfl ?_
  refine r_iadd 29 jd_Int_bitCount_28 rfl ?_
  refine r_ldcw 32 3 jd_Int_bitCount_29 rfl rfl ?_
  refine r_iand 33 jd_Int_bitCount_32 rfl ?_
  refine r_istore_n 34 [(0, .int (((((a0 - (((a0.toUInt32 >>> ((1 : Int32).toUInt32 &&& Int32.toUInt32 31)).toInt32) &&& 1431655765)) &&& 858993459) + ((((a0 - (((a0.toUInt32 >>> ((1 : Int32).toUInt32 &&& Int32.toUInt32 31)).toInt32) &&& 1431655765)).toUInt32 >>> ((2 : Int32).toUInt32 &&& Int32.toUInt32 31)).toInt32) &&& 858993459)) + (((((a0 - (((a0.toUInt32 >>> ((1 : Int32).toUInt32 &&& Int32.toUInt32 31)).toInt32) &&& 1431655765)) &&& 858993459) + ((((a0 - (((a0.toUInt32 >>> ((1 : Int32).toUInt32 &&& Int32.toUInt32 31)).toInt32) &&& 1431655765)).toUInt32 >>> ((2 : Int32).toUInt32 &&& Int32.toUInt32 31)).toInt32) &&& 858993459)).toUInt32 >>> ((4 : Int32).toUInt32 &&& Int32.toUInt32 31)).toInt32)) &&& 252645135))] jd_Int_bitCount_33 (by decide) rfl rfl ?_
  refine r_iload_n 35 0 jd_Int_bitCount_34 rfl rfl ?_
  refine r_iload_n 36 0 jd_Int_bitCount_35 rfl rfl ?_
  refine r_bipush 38 8 jd_Int_bitCount_36 (by decide) rfl ?_
  refine r_iushr 39 jd_Int_bitCount_38 rfl ?_
  refine r_iadd 40 jd_Int_bitCount_39 rfl ?_
  refine r_istore_n 41 [(0, .int ((((((a0 - (((a0.toUInt32 >>> ((1 : Int32).toUInt32 &&& Int32.toUInt32 31)).toInt32) &&& 1431655765)) &&& 858993459) + ((((a0 - (((a0.toUInt32 >>> ((1 : Int32).toUInt32 &&& Int32.toUInt32 31)).toInt32) &&& 1431655765)).toUInt32 >>> ((2 : Int32).toUInt32 &&& Int32.toUInt32 31)).toInt32) &&& 858993459)) + (((((a0 - (((a0.toUInt32 >>> ((1 : Int32).toUInt32 &&& Int32.toUInt32 31)).toInt32) &&& 1431655765)) &&& 858993459) + ((((a0 - (((a0.toUInt32 >>> ((1 : Int32).toUInt32 &&& Int32.toUInt32 31)).toInt32) &&& 1431655765)).toUInt32 >>> ((2 : Int32).toUInt32 &&& Int32.toUInt32 31)).toInt32) &&& 858993459)).toUInt32 >>> ((4 : Int32).toUInt32 &&& Int32.toUInt32 31)).toInt32)) &&& 252645135) + (((((((a0 - (((a0.toUInt32 >>> ((1 : Int32).toUInt32 &&& Int32.toUInt32 31)).toInt32) &&& 1431655765)) &&& 858993459) + ((((a0 - (((a0.toUInt32 >>> ((1 : Int32).toUInt32 &&& Int32.toUInt32 31)).toInt32) &&& 1431655765)).toUInt32 >>> ((2 : Int32).toUInt32 &&& Int32.toUInt32 31)).toInt32) &&& 858993459)) + (((((a0 - (((a0.toUInt32 >>> ((1 : Int32).toUInt32 &&& Int32.toUInt32 31)).toInt32) &&& 1431655765)) &&& 858993459) + ((((a0 - (((a0.toUInt32 >>> ((1 : Int32).toUInt32 &&& Int32.toUInt32 31)).toInt32) &&& 1431655765)).toUInt32 >>> ((2 : Int32).toUInt32 &&& Int32.toUInt32 31)).toInt32) &&& 858993459)).toUInt32 >>> ((4 : Int32).toUInt32 &&& Int32.toUInt32 31)).toInt32)) &&& 252645135).toUInt32 >>> ((8 : Int32).toUInt32 &&& Int32.toUInt32 31)).toInt32)))] jd_Int_bitCount_40 (by decide) rfl rfl ?_
  refine r_iload_n 42 0 jd_Int_bitCount_41 rfl rfl ?_
  refine r_iload_n 43 0 jd_Int_bitCount_42 rfl rfl ?_
  refine r_bipush 45 16 jd_Int_bitCount_43 (by decide) rfl ?_
  refine r_iushr 46 jd_Int_bitCount_45 rfl ?_
  refine r_iadd 47 jd_Int_bitCount_46 rfl ?_
  refine r_istore_n 48 [(0, .int (((((((a0 - (((a0.toUInt32 >>> ((1 : Int32).toUInt32 &&& Int32.toUInt32 31)).toInt32) &&& 1431655765)) &&& 858993459) + ((((a0 - (((a0.toUInt32 >>> ((1 : Int32).toUInt32 &&& Int32.toUInt32 31)).toInt32) &&& 1431655765)).toUInt32 >>> ((2 : Int32).toUInt32 &&& Int32.toUInt32 31)).toInt32) &&& 858993459)) + (((((a0 - (((a0.toUInt32 >>> ((1 : Int32).toUInt32 &&& Int32.toUInt32 31)).toInt32) &&& 1431655765)) &&& 858993459) + ((((a0 - (((a0.toUInt32 >>> ((1 : Int32).toUInt32 &&& Int32.toUInt32 31)).toInt32) &&& 1431655765)).toUInt32 >>> ((2 : Int32).toUInt32 &&& Int32.toUInt32 31)).toInt32) &&& 858993459)).toUInt32 >>> ((4 : Int32).toUInt32 &&& Int32.toUInt32 31)).toInt32)) &&& 252645135) + (((((((a0 - (((a0.toUInt32 >>> ((1 : Int32).toUInt32 &&& Int32.toUInt32 31)).toInt32) &&& 1431655765)) &&& 858993459) + ((((a0 - (((a0.toUInt32 >>> ((1 : Int32).toUInt32 &&& Int32.toUInt32 31)).toInt32) &&& 1431655765)).toUInt32 >>> ((2 : Int32).toUInt32 &&& Int32.toUInt32 31)).toInt32) &&& 858993459)) + (((((a0 - (((a0.toUInt32 >>> ((1 : Int32).toUInt32 &&& Int32.toUInt32 31)).toInt32) &&& 1431655765)) &&& 858993459) + ((((a0 - (((a0.toUInt32 >>> ((1 : Int32).toUInt32 &&& Int32.toUInt32 31)).toInt32) &&& 1431655765)).toUInt32 >>> ((2 : Int32).toUInt32 &&& Int32.toUInt32 31)).toInt32) &&& 858993459)).toUInt32 >>> ((4 : Int32).toUInt32 &&& Int32.toUInt32 31)).toInt32)) &&& 252645135).toUInt32 >>> ((8 : Int32).toUInt32 &&& Int32.toUInt32 31)).toInt32)) + ((((((((a0 - (((a0.toUInt32 >>> ((1 : Int32).toUInt32 &&& Int32.toUInt32 31)).toInt32) &&& 1431655765)) &&& 858993459) + ((((a0 - (((a0.toUInt32 >>> ((1 : Int32).toUInt32 &&& Int32.toUInt32 31)).toInt32) &&& 1431655765)).toUInt32 >>> ((2 : Int32).toUInt32 &&& Int32.toUInt32 31)).toInt32) &&& 858993459)) + (((((a0 - (((a0.toUInt32 >>> ((1 : Int32).toUInt32 &&& Int32.toUInt32 31)).toInt32) &&& 1431655765)) &&& 858993459) + ((((a0 - (((a0.toUInt32 >>> ((1 : Int32).toUInt32 &&& Int32.toUInt32 31)).toInt32) &&& 1431655765)).toUInt32 >>> ((2 : Int32).toUInt32 &&& Int32.toUInt32 31)).toInt32) &&& 858993459)).toUInt32 >>> ((4 : Int32).toUInt32 &&& Int32.toUInt32 31)).toInt32)) &&& 252645135) + (((((((a0 - (((a0.toUInt32 >>> ((1 : Int32).toUInt32 &&& Int32.toUInt32 31)).toInt32) &&& 1431655765)) &&& 858993459) + ((((a0 - (((a0.toUInt32 >>> ((1 : Int32).toUInt32 &&& Int32.toUInt32 31)).toInt32) &&& 1431655765)).toUInt32 >>> ((2 : Int32).toUInt32 &&& Int32.toUInt32 31)).toInt32) &&& 858993459)) + (((((a0 - (((a0.toUInt32 >>> ((1 : Int32).toUInt32 &&& Int32.toUInt32 31)).toInt32) &&& 1431655765)) &&& 858993459) + ((((a0 - (((a0.toUInt32 >>> ((1 : Int32).toUInt32 &&& Int32.toUInt32 31)).toInt32) &&& 1431655765)).toUInt32 >>> ((2 : Int32).toUInt32 &&& Int32.toUInt32 31)).toInt32) &&& 858993459)).toUInt32 >>> ((4 : Int32).toUInt32 &&& Int32.toUInt32 31)).toInt32)) &&& 252645135).toUInt32 >>> ((8 : Int32).toUInt32 &&& Int32.toUInt32 31)).toInt32)).toUInt32 >>> ((16 : Int32).toUInt32 &&& Int32.toUInt32 31)).toInt32)))] jd_Int_bitCount_47 (by decide) rfl rfl ?_
  refine r_iload_n 49 0 jd_Int_bitCount_48 rfl rfl ?_
  refine r_bipush 51 63 jd_Int_bitCount_49 (by decide) rfl ?_
  refine r_iand 52 jd_Int_bitCount_51 rfl ?_
  cases hh
  exact r_iret jd_Int_bitCount_52 rfl ⟨rfl, rfl⟩
-- java/lang/Integer.numberOfTrailingZeros(I)I
def jf_Int_numberOfTrailingZeros (x : q_S) (a0 : Int32) : Option (q_S × Int32) :=
  if 0 < ((a0 ^^^ (-1)) &&& (a0 - 1)) then
    if ((a0 ^^^ (-1)) &&& (a0 - 1)) ≤ 65536 then
      if ((a0 ^^^ (-1)) &&& (a0 - 1)) ≤ 256 then
        if ((a0 ^^^ (-1)) &&& (a0 - 1)) ≤ 16 then
          if ((a0 ^^^ (-1)) &&& (a0 - 1)) ≤ 4 then
            some (x, (1 : Int32) + ((((a0 ^^^ (-1)) &&& (a0 - 1)).toUInt32 >>> ((1 : Int32).toUInt32 &&& Int32.toUInt32 31)).toInt32))
          else
            some (x, (1 + 2) + ((((((a0 ^^^ (-1)) &&& (a0 - 1)).toUInt32 >>> ((2 : Int32).toUInt32 &&& Int32.toUInt32 31)).toInt32).toUInt32 >>> ((1 : Int32).toUInt32 &&& Int32.toUInt32 31)).toInt32))
        else
          if ((((a0 ^^^ (-1)) &&& (a0 - 1)).toUInt32 >>> ((4 : Int32).toUInt32 &&& Int32.toUInt32 31)).toInt32) ≤ 4 then
            some (x, (1 + 4) + ((((((a0 ^^^ (-1)) &&& (a0 - 1)).toUInt32 >>> ((4 : Int32).toUInt32 &&& Int32.toUInt32 31)).toInt32).toUInt32 >>> ((1 : Int32).toUInt32 &&& Int32.toUInt32 31)).toInt32))
          else
            some (x, ((1 + 4) + 2) + ((((((((a0 ^^^ (-1)) &&& (a0 - 1)).toUInt32 >>> ((4 : Int32).toUInt32 &&& Int32.toUInt32 31)).toInt32).toUInt32 >>> ((2 : Int32).toUInt32 &&& Int32.toUInt32 31)).toInt32).toUInt32 >>> ((1 : Int32).toUInt32 &&& Int32.toUInt32 31)).toInt32))
      else
        if ((((a0 ^^^ (-1)) &&& (a0 - 1)).toUInt32 >>> ((8 : Int32).toUInt32 &&& Int32.toUInt32 31)).toInt32) ≤ 16 then
          if ((((a0 ^^^ (-1)) &&& (a0 - 1)).toUInt32 >>> ((8 : Int32).toUInt32 &&& Int32.toUInt32 31)).toInt32) ≤ 4 then
            some (x, (1 + 8) + ((((((a0 ^^^ (-1)) &&& (a0 - 1)).toUInt32 >>> ((8 : Int32).toUInt32 &&& Int32.toUInt32 31)).toInt32).toUInt32 >>> ((1 : Int32).toUInt32 &&& Int32.toUInt32 31)).toInt32))
          else
            some (x, ((1 + 8) + 2) + ((((((((a0 ^^^ (-1)) &&& (a0 - 1)).toUInt32 >>> ((8 : Int32).toUInt32 &&& Int32.toUInt32 31)).toInt32).toUInt32 >>> ((2 : Int32).toUInt32 &&& Int32.toUInt32 31)).toInt32).toUInt32 >>> ((1 : Int32).toUInt32 &&& Int32.toUInt32 31)).toInt32))
        else
          if ((((((a0 ^^^ (-1)) &&& (a0 - 1)).toUInt32 >>> ((8 : Int32).toUInt32 &&& Int32.toUInt32 31)).toInt32).toUInt32 >>> ((4 : Int32).toUInt32 &&& Int32.toUInt32 31)).toInt32) ≤ 4 then
            some (x, ((1 + 8) + 4) + ((((((((a0 ^^^ (-1)) &&& (a0 - 1)).toUInt32 >>> ((8 : Int32).toUInt32 &&& Int32.toUInt32 31)).toInt32).toUInt32 >>> ((4 : Int32).toUInt32 &&& Int32.toUInt32 31)).toInt32).toUInt32 >>> ((1 : Int32).toUInt32 &&& Int32.toUInt32 31)).toInt32))
          else
            some (x, (((1 + 8) + 4) + 2) + ((((((((((a0 ^^^ (-1)) &&& (a0 - 1)).toUInt32 >>> ((8 : Int32).toUInt32 &&& Int32.toUInt32 31)).toInt32).toUInt32 >>> ((4 : Int32).toUInt32 &&& Int32.toUInt32 31)).toInt32).toUInt32 >>> ((2 : Int32).toUInt32 &&& Int32.toUInt32 31)).toInt32).toUInt32 >>> ((1 : Int32).toUInt32 &&& Int32.toUInt32 31)).toInt32))
    else
      if ((((a0 ^^^ (-1)) &&& (a0 - 1)).toUInt32 >>> ((16 : Int32).toUInt32 &&& Int32.toUInt32 31)).toInt32) ≤ 256 then
        if ((((a0 ^^^ (-1)) &&& (a0 - 1)).toUInt32 >>> ((16 : Int32).toUInt32 &&& Int32.toUInt32 31)).toInt32) ≤ 16 then
          if ((((a0 ^^^ (-1)) &&& (a0 - 1)).toUInt32 >>> ((16 : Int32).toUInt32 &&& Int32.toUInt32 31)).toInt32) ≤ 4 then
            some (x, (1 + 16) + ((((((a0 ^^^ (-1)) &&& (a0 - 1)).toUInt32 >>> ((16 : Int32).toUInt32 &&& Int32.toUInt32 31)).toInt32).toUInt32 >>> ((1 : Int32).toUInt32 &&& Int32.toUInt32 31)).toInt32))
          else
            some (x, ((1 + 16) + 2) + ((((((((a0 ^^^ (-1)) &&& (a0 - 1)).toUInt32 >>> ((16 : Int32).toUInt32 &&& Int32.toUInt32 31)).toInt32).toUInt32 >>> ((2 : Int32).toUInt32 &&& Int32.toUInt32 31)).toInt32).toUInt32 >>> ((1 : Int32).toUInt32 &&& Int32.toUInt32 31)).toInt32))
        else
          if ((((((a0 ^^^ (-1)) &&& (a0 - 1)).toUInt32 >>> ((16 : Int32).toUInt32 &&& Int32.toUInt32 31)).toInt32).toUInt32 >>> ((4 : Int32).toUInt32 &&& Int32.toUInt32 31)).toInt32) ≤ 4 then
            some (x, ((1 + 16) + 4) + ((((((((a0 ^^^ (-1)) &&& (a0 - 1)).toUInt32 >>> ((16 : Int32).toUInt32 &&& Int32.toUInt32 31)).toInt32).toUInt32 >>> ((4 : Int32).toUInt32 &&& Int32.toUInt32 31)).toInt32).toUInt32 >>> ((1 : Int32).toUInt32 &&& Int32.toUInt32 31)).toInt32))
          else
            some (x, (((1 + 16) + 4) + 2) + ((((((((((a0 ^^^ (-1)) &&& (a0 - 1)).toUInt32 >>> ((16 : Int32).toUInt32 &&& Int32.toUInt32 31)).toInt32).toUInt32 >>> ((4 : Int32).toUInt32 &&& Int32.toUInt32 31)).toInt32).toUInt32 >>> ((2 : Int32).toUInt32 &&& Int32.toUInt32 31)).toInt32).toUInt32 >>> ((1 : Int32).toUInt32 &&& Int32.toUInt32 31)).toInt32))
      else
        if ((((((a0 ^^^ (-1)) &&& (a0 - 1)).toUInt32 >>> ((16 : Int32).toUInt32 &&& Int32.toUInt32 31)).toInt32).toUInt32 >>> ((8 : Int32).toUInt32 &&& Int32.toUInt32 31)).toInt32) ≤ 16 then
          if ((((((a0 ^^^ (-1)) &&& (a0 - 1)).toUInt32 >>> ((16 : Int32).toUInt32 &&& Int32.toUInt32 31)).toInt32).toUInt32 >>> ((8 : Int32).toUInt32 &&& Int32.toUInt32 31)).toInt32) ≤ 4 then
            some (x, ((1 + 16) + 8) + ((((((((a0 ^^^ (-1)) &&& (a0 - 1)).toUInt32 >>> ((16 : Int32).toUInt32 &&& Int32.toUInt32 31)).toInt32).toUInt32 >>> ((8 : Int32).toUInt32 &&& Int32.toUInt32 31)).toInt32).toUInt32 >>> ((1 : Int32).toUInt32 &&& Int32.toUInt32 31)).toInt32))
          else
            some (x, (((1 + 16) + 8) + 2) + ((((((((((a0 ^^^ (-1)) &&& (a0 - 1)).toUInt32 >>> ((16 : Int32).toUInt32 &&& Int32.toUInt32 31)).toInt32).toUInt32 >>> ((8 : Int32).toUInt32 &&& Int32.toUInt32 31)).toInt32).toUInt32 >>> ((2 : Int32).toUInt32 &&& Int32.toUInt32 31)).toInt32).toUInt32 >>> ((1 : Int32).toUInt32 &&& Int32.toUInt32 31)).toInt32))
        else
          if ((((((((a0 ^^^ (-1)) &&& (a0 - 1)).toUInt32 >>> ((16 : Int32).toUInt32 &&& Int32.toUInt32 31)).toInt32).toUInt32 >>> ((8 : Int32).toUInt32 &&& Int32.toUInt32 31)).toInt32).toUInt32 >>> ((4 : Int32).toUInt32 &&& Int32.toUInt32 31)).toInt32) ≤ 4 then
            some (x, (((1 + 16) + 8) + 4) + ((((((((((a0 ^^^ (-1)) &&& (a0 - 1)).toUInt32 >>> ((16 : Int32).toUInt32 &&& Int32.toUInt32 31)).toInt32).toUInt32 >>> ((8 : Int32).toUInt32 &&& Int32.toUInt32 31)).toInt32).toUInt32 >>> ((4 : Int32).toUInt32 &&& Int32.toUInt32 31)).toInt32).toUInt32 >>> ((1 : Int32).toUInt32 &&& Int32.toUInt32 31)).toInt32))
          else
            some (x, ((((1 + 16) + 8) + 4) + 2) + ((((((((((((a0 ^^^ (-1)) &&& (a0 - 1)).toUInt32 >>> ((16 : Int32).toUInt32 &&& Int32.toUInt32 31)).toInt32).toUInt32 >>> ((8 : Int32).toUInt32 &&& Int32.toUInt32 31)).toInt32).toUInt32 >>> ((4 : Int32).toUInt32 &&& Int32.toUInt32 31)).toInt32).toUInt32 >>> ((2 : Int32).toUInt32 &&& Int32.toUInt32 31)).toInt32).toUInt32 >>> ((1 : Int32).toUInt32 &&& Int32.toUInt32 31)).toInt32))
  else
    some (x, ((a0 ^^^ (-1)) &&& (a0 - 1)) &&& 32)
theorem jm_Int_numberOfTrailingZeros {x : q_S} {a0 : Int32} {p : q_S × Int32} (hh : jf_Int_numberOfTrailingZeros x a0 = some p) : q_call 1 jq_Int_numberOfTrailingZeros [.int a0] x p.1 (some (.int p.2)) := by
  unfold jf_Int_numberOfTrailingZeros at hh
  refine ⟨List.mem_of_getElem? (i := 72) rfl, Nat.le_of_ble_eq_true rfl, List.forall_mem_cons.mpr ⟨rfl, fun _ h => by cases h⟩, ?_⟩
  show q_X (q_call 0) _ jq_Int_numberOfTrailingZeros 0 [(0, .int a0)] [] x
  refine r_iload_n 1 0 jd_Int_numberOfTrailingZeros_0 rfl rfl ?_
  refine r_iconst 2 (-1) jd_Int_numberOfTrailingZeros_1 (by decide) rfl ?_
  refine r_ixor 3 jd_Int_numberOfTrailingZeros_2 rfl ?_
  refine r_iload_n 4 0 jd_Int_numberOfTrailingZeros_3 rfl rfl ?_
  refine r_iconst 5 1 jd_Int_numberOfTrailingZeros_4 (by decide) rfl ?_
  refine r_isub 6 jd_Int_numberOfTrailingZeros_5 rfl ?_
  refine r_iand 7 jd_Int_numberOfTrailingZeros_6 rfl ?_
  refine r_istore_n 8 [(0, .int ((a0 ^^^ (-1)) &&& (a0 - 1)))] jd_Int_numberOfTrailingZeros_7 (by decide) rfl rfl ?_
  refine r_iload_n 9 0 jd_Int_numberOfTrailingZeros_8 rfl rfl ?_
  rcases q_ite hh with ⟨c1, hh⟩ | ⟨c1, hh⟩
  · refine r_if_t 17 jd_Int_numberOfTrailingZeros_9 rfl c1 ?_
    refine r_iconst 18 1 jd_Int_numberOfTrailingZeros_17 (by decide) rfl ?_
    refine r_istore_n 19 [(1, .int 1), (0, .int ((a0 ^^^ (-1)) &&& (a0 - 1)))] jd_Int_numberOfTrailingZeros_18 (by decide) rfl rfl ?_
    refine r_iload_n 20 1 jd_Int_numberOfTrailingZeros_19 rfl rfl ?_
    refine r_ldcw 23 4 jd_Int_numberOfTrailingZeros_20 rfl rfl ?_
    rcases q_ite hh with ⟨c2, hh⟩ | ⟨c2, hh⟩
    · refine r_ic_t 34 jd_Int_numberOfTrailingZeros_23 rfl c2 ?_
      refine r_iload_n 35 1 jd_Int_numberOfTrailingZeros_34 rfl rfl ?_
      refine r_sipush 38 256 jd_Int_numberOfTrailingZeros_35 (by decide) rfl ?_
      rcases q_ite hh with ⟨c3, hh⟩ | ⟨c3, hh⟩
      · refine r_ic_t 49 jd_Int_numberOfTrailingZeros_38 rfl c3 ?_
        refine r_iload_n 50 1 jd_Int_numberOfTrailingZeros_49 rfl rfl ?_
        refine r_bipush 52 16 jd_Int_numberOfTrailingZeros_50 (by decide) rfl ?_
        rcases q_ite hh with ⟨c4, hh⟩ | ⟨c4, hh⟩
        · refine r_ic_t 62 jd_Int_numberOfTrailingZeros_52 rfl c4 ?_
          refine r_iload_n 63 1 jd_Int_numberOfTrailingZeros_62 rfl rfl ?_
          refine r_iconst 64 4 jd_Int_numberOfTrailingZeros_63 (by decide) rfl ?_
          rcases q_ite hh with ⟨c5, hh⟩ | ⟨c5, hh⟩
          · refine r_ic_t 74 jd_Int_numberOfTrailingZeros_64 rfl c5 ?_
            refine r_iload_n 75 0 jd_Int_numberOfTrailingZeros_74 rfl rfl ?_
            refine r_iload_n 76 1 jd_Int_numberOfTrailingZeros_75 rfl rfl ?_
            refine r_iconst 77 1 jd_Int_numberOfTrailingZeros_76 (by decide) rfl ?_
            refine r_iushr 78 jd_Int_numberOfTrailingZeros_77 rfl ?_
            refine r_iadd 79 jd_Int_numberOfTrailingZeros_78 rfl ?_
            cases hh
            exact r_iret jd_Int_numberOfTrailingZeros_79 rfl ⟨rfl, rfl⟩
          · refine r_ic_f 67 74 jd_Int_numberOfTrailingZeros_64 rfl c5 rfl ?_
            refine r_iinc 70 0 [(1, .int (1 + 2)), (0, .int ((a0 ^^^ (-1)) &&& (a0 - 1)))] 2 jd_Int_numberOfTrailingZeros_67 rfl (by decide) (by decide) rfl rfl ?_
            refine r_iload_n 71 1 jd_Int_numberOfTrailingZeros_70 rfl rfl ?_
            refine r_iconst 72 2 jd_Int_numberOfTrailingZeros_71 (by decide) rfl ?_
            refine r_iushr 73 jd_Int_numberOfTrailingZeros_72 rfl ?_
            refine r_istore_n 74 [(0, .int ((((a0 ^^^ (-1)) &&& (a0 - 1)).toUInt32 >>> ((2 : Int32).toUInt32 &&& Int32.toUInt32 31)).toInt32)), (1, .int (1 + 2))] jd_Int_numberOfTrailingZeros_73 (by decide) rfl rfl ?_
            refine r_iload_n 75 1 jd_Int_numberOfTrailingZeros_74 rfl rfl ?_
            refine r_iload_n 76 0 jd_Int_numberOfTrailingZeros_75 rfl rfl ?_
            refine r_iconst 77 1 jd_Int_numberOfTrailingZeros_76 (by decide) rfl ?_
            refine r_iushr 78 jd_Int_numberOfTrailingZeros_77 rfl ?_
            refine r_iadd 79 jd_Int_numberOfTrailingZeros_78 rfl ?_
            cases hh
            exact r_iret jd_Int_numberOfTrailingZeros_79 rfl ⟨rfl, rfl⟩
        · refine r_ic_f 55 62 jd_Int_numberOfTrailingZeros_52 rfl c4 rfl ?_
          refine r_iinc 58 0 [(1, .int (1 + 4)), (0, .int ((a0 ^^^ (-1)) &&& (a0 - 1)))] 4 jd_Int_numberOfTrailingZeros_55 rfl (by decide) (by decide) rfl rfl ?_
          refine r_iload_n 59 1 jd_Int_numberOfTrailingZeros_58 rfl rfl ?_
          refine r_iconst 60 4 jd_Int_numberOfTrailingZeros_59 (by decide) rfl ?_
          refine r_iushr 61 jd_Int_numberOfTrailingZeros_60 rfl ?_
          refine r_istore_n 62 [(0, .int ((((a0 ^^^ (-1)) &&& (a0 - 1)).toUInt32 >>> ((4 : Int32).toUInt32 &&& Int32.toUInt32 31)).toInt32)), (1, .int (1 + 4))] jd_Int_numberOfTrailingZeros_61 (by decide) rfl rfl ?_
          refine r_iload_n 63 0 jd_Int_numberOfTrailingZeros_62 rfl rfl ?_
          refine r_iconst 64 4 jd_Int_numberOfTrailingZeros_63 (by decide) rfl ?_
          rcases q_ite hh with ⟨c6, hh⟩ | ⟨c6, hh⟩
          · refine r_ic_t 74 jd_Int_numberOfTrailingZeros_64 rfl c6 ?_
            refine r_iload_n 75 1 jd_Int_numberOfTrailingZeros_74 rfl rfl ?_
            refine r_iload_n 76 0 jd_Int_numberOfTrailingZeros_75 rfl rfl ?_
            refine r_iconst 77 1 jd_Int_numberOfTrailingZeros_76 (by decide) rfl ?_
            refine r_iushr 78 jd_Int_numberOfTrailingZeros_77 rfl ?_
            refine r_iadd 79 jd_Int_numberOfTrailingZeros_78 rfl ?_
            cases hh
            exact r_iret jd_Int_numberOfTrailingZeros_79 rfl ⟨rfl, rfl⟩
          · refine r_ic_f 67 74 jd_Int_numberOfTrailingZeros_64 rfl c6 rfl ?_
            refine r_iinc 70 1 [(1, .int ((1 + 4) + 2)), (0, .int ((((a0 ^^^ (-1)) &&& (a0 - 1)).toUInt32 >>> ((4 : Int32).toUInt32 &&& Int32.toUInt32 31)).toInt32))] 2 jd_Int_numberOfTrailingZeros_67 rfl (by decide) (by decide) rfl rfl ?_
            refine r_iload_n 71 1 jd_Int_numberOfTrailingZeros_70 rfl rfl ?_
            refine r_iconst 72 2 jd_Int_numberOfTrailingZeros_71 (by decide) rfl ?_
            refine r_iushr 73 jd_Int_numberOfTrailingZeros_72 rfl ?_
            refine r_istore_n 74 [(0, .int ((((((a0 ^^^ (-1)) &&& (a0 - 1)).toUInt32 >>> ((4 : Int32).toUInt32 &&& Int32.toUInt32 31)).toInt32).toUInt32 >>> ((2 : Int32).toUInt32 &&& Int32.toUInt32 31)).toInt32)), (1, .int ((1 + 4) + 2))] jd_Int_numberOfTrailingZeros_73 (by decide) rfl rfl ?_
            refine r_iload_n 75 1 jd_Int_numberOfTrailingZeros_74 rfl rfl ?_
            refine r_iload_n 76 0 jd_Int_numberOfTrailingZeros_75 rfl rfl ?_
            refine r_iconst 77 1 jd_Int_numberOfTrailingZeros_76 (by decide) rfl ?_
            refine r_iushr 78 jd_Int_numberOfTrailingZeros_77 rfl ?_
            refine r_iadd 79 jd_Int_numberOfTrailingZeros_78 rfl ?_
            cases hh
            exact r_iret jd_Int_numberOfTrailingZeros_79 rfl ⟨rfl, rfl⟩
      · refine r_ic_f 41 49 jd_Int_numberOfTrailingZeros_38 rfl c3 rfl ?_
        refine r_iinc 44 0 [(1, .int (1 + 8)), (0, .int ((a0 ^^^ (-1)) &&& (a0 - 1)))] 8 jd_Int_numberOfTrailingZeros_41 rfl (by decide) (by decide) rfl rfl ?_
        refine r_iload_n 45 1 jd_Int_numberOfTrailingZeros_44 rfl rfl ?_
        refine r_bipush 47 8 jd_Int_numberOfTrailingZeros_45 (by decide) rfl ?_
        refine r_iushr 48 jd_Int_numberOfTrailingZeros_47 rfl ?_
        refine r_istore_n 49 [(0, .int ((((a0 ^^^ (-1)) &&& (a0 - 1)).toUInt32 >>> ((8 : Int32).toUInt32 &&& Int32.toUInt32 31)).toInt32)), (1, .int (1 + 8))] jd_Int_numberOfTrailingZeros_48 (by decide) rfl rfl ?_
        refine r_iload_n 50 0 jd_Int_numberOfTrailingZeros_49 rfl rfl ?_
        refine r_bipush 52 16 jd_Int_numberOfTrailingZeros_50 (by decide) rfl ?_
        rcases q_ite hh with ⟨c7, hh⟩ | ⟨c7, hh⟩
        · refine r_ic_t 62 jd_Int_numberOfTrailingZeros_52 rfl c7 ?_
          refine r_iload_n 63 0 jd_Int_numberOfTrailingZeros_62 rfl rfl ?_
          refine r_iconst 64 4 jd_Int_numberOfTrailingZeros_63 (by decide) rfl ?_
          rcases q_ite hh with ⟨c8, hh⟩ | ⟨c8, hh⟩
          · refine r_ic_t 74 jd_Int_numberOfTrailingZeros_64 rfl c8 ?_
            refine r_iload_n 75 1 jd_Int_numberOfTrailingZeros_74 rfl rfl ?_
            refine r_iload_n 76 0 jd_Int_numberOfTrailingZeros_75 rfl rfl ?_
            refine r_iconst 77 1 jd_Int_numberOfTrailingZeros_76 (by decide) rfl ?_
            refine r_iushr 78 jd_Int_numberOfTrailingZeros_77 rfl ?_
            refine r_iadd 79 jd_Int_numberOfTrailingZeros_78 rfl ?_
            cases hh
            exact r_iret jd_Int_numberOfTrailingZeros_79 rfl ⟨rfl, rfl⟩
          · refine r_ic_f 67 74 jd_Int_numberOfTrailingZeros_64 rfl c8 rfl ?_
            refine r_iinc 70 1 [(1, .int ((1 + 8) + 2)), (0, .int ((((a0 ^^^ (-1)) &&& (a0 - 1)).toUInt32 >>> ((8 : Int32).toUInt32 &&& Int32.toUInt32 31)).toInt32))] 2 jd_Int_numberOfTrailingZeros_67 rfl (by decide) (by decide) rfl rfl ?_
            refine r_iload_n 71 1 jd_Int_numberOfTrailingZeros_70 rfl rfl ?_
            refine r_iconst 72 2 jd_Int_numberOfTrailingZeros_71 (by decide) rfl ?_
            refine r_iushr 73 jd_Int_numberOfTrailingZeros_72 rfl ?_
            refine r_istore_n 74 [(0, .int ((((((a0 ^^^ (-1)) &&& (a0 - 1)).toUInt32 >>> ((8 : Int32).toUInt32 &&& Int32.toUInt32 31)).toInt32).toUInt32 >>> ((2 : Int32).toUInt32 &&& Int32.toUInt32 31)).toInt32)), (1, .int ((1 + 8) + 2))] jd_Int_numberOfTrailingZeros_73 (by decide) rfl rfl ?_
            refine r_iload_n 75 1 jd_Int_numberOfTrailingZeros_74 rfl rfl ?_
            refine r_iload_n 76 0 jd_Int_numberOfTrailingZeros_75 rfl rfl ?_
            refine r_iconst 77 1 jd_Int_numberOfTrailingZeros_76 (by decide) rfl ?_
            refine r_iushr 78 jd_Int_numberOfTrailingZeros_77 rfl ?_
            refine r_iadd 79 jd_Int_numberOfTrailingZeros_78 rfl ?_
            cases hh
            exact r_iret jd_Int_numberOfTrailingZeros_79 rfl ⟨rfl, rfl⟩
        · refine r_ic_f 55 62 jd_Int_numberOfTrailingZeros_52 rfl c7 rfl ?_
          refine r_iinc 58 1 [(1, .int ((1 + 8) + 4)), (0, .int ((((a0 ^^^ (-1)) &&& (a0 - 1)).toUInt32 >>> ((8 : Int32).toUInt32 &&& Int32.toUInt32 31)).toInt32))] 4 jd_Int_numberOfTrailingZeros_55 rfl (by decide) (by decide) rfl rfl ?_
          refine r_iload_n 59 1 jd_Int_numberOfTrailingZeros_58 rfl rfl ?_
          refine r_iconst 60 4 jd_Int_numberOfTrailingZeros_59 (by decide) rfl ?_
          refine r_iushr 61 jd_Int_numberOfTrailingZeros_60 rfl ?_
          refine r_istore_n 62 [(0, .int ((((((a0 ^^^ (-1)) &&& (a0 - 1)).toUInt32 >>> ((8 : Int32).toUInt32 &&& Int32.toUInt32 31)).toInt32).toUInt32 >>> ((4 : Int32).toUInt32 &&& Int32.toUInt32 31)).toInt32)), (1, .int ((1 + 8) + 4))] jd_Int_numberOfTrailingZeros_61 (by decide) rfl rfl ?_
          refine r_iload_n 63 0 jd_Int_numberOfTrailingZeros_62 rfl rfl ?_
          refine r_iconst 64 4 jd_Int_numberOfTrailingZeros_63 (by decide) rfl ?_
          rcases q_ite hh with ⟨c9, hh⟩ | ⟨c9, hh⟩
          · refine r_ic_t 74 jd_Int_numberOfTrailingZeros_64 rfl c9 ?_
            refine r_iload_n 75 1 jd_Int_numberOfTrailingZeros_74 rfl rfl ?_
            refine r_iload_n 76 0 jd_Int_numberOfTrailingZeros_75 rfl rfl ?_
            refine r_iconst 77 1 jd_Int_numberOfTrailingZeros_76 (by decide) rfl ?_
            refine r_iushr 78 jd_Int_numberOfTrailingZeros_77 rfl ?_
            refine r_iadd 79 jd_Int_numberOfTrailingZeros_78 rfl ?_
            cases hh
            exact r_iret jd_Int_numberOfTrailingZeros_79 rfl ⟨rfl, rfl⟩
          · refine r_ic_f 67 74 jd_Int_numberOfTrailingZeros_64 rfl c9 rfl ?_
            refine r_iinc 70 1 [(1, .int (((1 + 8) + 4) + 2)), (0, .int ((((((a0 ^^^ (-1)) &&& (a0 - 1)).toUInt32 >>> ((8 : Int32).toUInt32 &&& Int32.toUInt32 31)).toInt32).toUInt32 >>> ((4 : Int32).toUInt32 &&& Int32.toUInt32 31)).toInt32))] 2 jd_Int_numberOfTrailingZeros_67 rfl (by decide) (by decide) rfl rfl ?_
            refine r_iload_n 71 1 jd_Int_numberOfTrailingZeros_70 rfl rfl ?_
            refine r_iconst 72 2 jd_Int_numberOfTrailingZeros_71 (by decide) rfl ?_
            refine r_iushr 73 jd_Int_numberOfTrailingZeros_72 rfl ?_
            refine r_istore_n 74 [(0, .int ((((((((a0 ^^^ (-1)) &&& (a0 - 1)).toUInt32 >>> ((8 : Int32).toUInt32 &&& Int32.toUInt32 31)).toInt32).toUInt32 >>> ((4 : Int32).toUInt32 &&& Int32.toUInt32 31)).toInt32).toUInt32 >>> ((2 : Int32).toUInt32 &&& Int32.toUInt32 31)).toInt32)), (1, .int (((1 + 8) + 4) + 2))] jd_Int_numberOfTrailingZeros_73 (by decide) rfl rfl ?_
            refine r_iload_n 75 1 jd_Int_numberOfTrailingZeros_74 rfl rfl ?_
            refine r_iload_n 76 0 jd_Int_numberOfTrailingZeros_75 rfl rfl ?_
            refine r_iconst 77 1 jd_Int_numberOfTrailingZeros_76 (by decide) rfl ?_
            refine r_iushr 78 jd_Int_numberOfTrailingZeros_77 rfl ?_
            refine r_iadd 79 jd_Int_numberOfTrailingZeros_78 rfl ?_
            cases hh
            exact r_iret jd_Int_numberOfTrailingZeros_79 rfl ⟨rfl, rfl⟩
    · refine r_ic_f 26 34 jd_Int_numberOfTrailingZeros_23 rfl c2 rfl ?_
      refine r_iinc 29 0 [(1, .int (1 + 16)), (0, .int ((a0 ^^^ (-1)) &&& (a0 - 1)))] 16 jd_Int_numberOfTrailingZeros_26 rfl (by decide) (by decide) rfl rfl ?_
      refine r_iload_n 30 1 jd_Int_numberOfTrailingZeros_29 rfl rfl ?_
      refine r_bipush 32 16 jd_Int_numberOfTrailingZeros_30 (by decide) rfl ?_
      refine r_iushr 33 jd_Int_numberOfTrailingZeros_32 rfl ?_
      refine r_istore_n 34 [(0, .int ((((a0 ^^^ (-1)) &&& (a0 - 1)).toUInt32 >>> ((16 : Int32).toUInt32 &&& Int32.toUInt32 31)).toInt32)), (1, .int (1 + 16))] jd_Int_numberOfTrailingZeros_33 (by decide) rfl rfl ?_
      refine r_iload_n 35 0 jd_Int_numberOfTrailingZeros_34 rfl rfl ?_
      refine r_sipush 38 256 jd_Int_numberOfTrailingZeros_35 (by decide) rfl ?_
      rcases q_ite hh with ⟨c10, hh⟩ | ⟨c10, hh⟩
      · refine r_ic_t 49 jd_Int_numberOfTrailingZeros_38 rfl c10 ?_
        refine r_iload_n 50 0 jd_Int_numberOfTrailingZeros_49 rfl rfl ?_
        refine r_bipush 52 16 jd_Int_numberOfTrailingZeros_50 (by decide) rfl ?_
        rcases q_ite hh with ⟨c11, hh⟩ | ⟨c11, hh⟩
        · refine r_ic_t 62 jd_Int_numberOfTrailingZeros_52 rfl c11 ?_
          refine r_iload_n 63 0 jd_Int_numberOfTrailingZeros_62 rfl rfl ?_
          refine r_iconst 64 4 jd_Int_numberOfTrailingZeros_63 (by decide) rfl ?_
          rcases q_ite hh with ⟨c12, hh⟩ | ⟨c12, hh⟩
          · refine r_ic_t 74 jd_Int_numberOfTrailingZeros_64 rfl c12 ?_
            refine r_iload_n 75 1 jd_Int_numberOfTrailingZeros_74 rfl rfl ?_
            refine r_iload_n 76 0 jd_Int_numberOfTrailingZeros_75 rfl rfl ?_
            refine r_iconst 77 1 jd_Int_numberOfTrailingZeros_76 (by decide) rfl ?_
            refine r_iushr 78 jd_Int_numberOfTrailingZeros_77 rfl ?_
            refine r_iadd 79 jd_Int_numberOfTrailingZeros_78 rfl ?_
            cases hh
            exact r_iret jd_Int_numberOfTrailingZeros_79 rfl ⟨rfl, rfl⟩
          · refine r_ic_f 67 74 jd_Int_numberOfTrailingZeros_64 rfl c12 rfl ?_
            refine r_iinc 70 1 [(1, .int ((1 + 16) + 2)), (0, .int ((((a0 ^^^ (-1)) &&& (a0 - 1)).toUInt32 >>> ((16 : Int32).toUInt32 &&& Int32.toUInt32 31)).toInt32))] 2 jd_Int_numberOfTrailingZeros_67 rfl (by decide) (by decide) rfl rfl ?_
            refine r_iload_n 71 1 jd_Int_numberOfTrailingZeros_70 rfl rfl ?_
            refine r_iconst 72 2 jd_Int_numberOfTrailingZeros_71 (by decide) rfl ?_
            refine r_iushr 73 jd_Int_numberOfTrailingZeros_72 rfl ?_
            refine r_istore_n 74 [(0, .int ((((((a0 ^^^ (-1)) &&& (a0 - 1)).toUInt32 >>> ((16 : Int32).toUInt32 &&& Int32.toUInt32 31)).toInt32).toUInt32 >>> ((2 : Int32).toUInt32 &&& Int32.toUInt32 31)).toInt32)), (1, .int ((1 + 16) + 2))] jd_Int_numberOfTrailingZeros_73 (by decide) rfl rfl ?_
            refine r_iload_n 75 1 jd_Int_numberOfTrailingZeros_74 rfl rfl ?_
            refine r_iload_n 76 0 jd_Int_numberOfTrailingZeros_75 rfl rfl ?_
            refine r_iconst 77 1 jd_Int_numberOfTrailingZeros_76 (by decide) rfl ?_
            refine r_iushr 78 jd_Int_numberOfTrailingZeros_77 rfl ?_
            refine r_iadd 79 jd_Int_numberOfTrailingZeros_78 rfl ?_
            cases hh
            exact r_iret jd_Int_numberOfTrailingZeros_79 rfl ⟨rfl, rfl⟩
        · refine r_ic_f 55 62 jd_Int_numberOfTrailingZeros_52 rfl c11 rfl ?_
          refine r_iinc 58 1 [(1, .int ((1 + 16) + 4)), (0, .int ((((a0 ^^^ (-1)) &&& (a0 - 1)).toUInt32 >>> ((16 : Int32).toUInt32 &&& Int32.toUInt32 31)).toInt32))] 4 jd_Int_numberOfTrailingZeros_55 rfl (by decide) (by decide) rfl rfl ?_
          refine r_iload_n 59 1 jd_Int_numberOfTrailingZeros_58 rfl rfl ?_
          refine r_iconst 60 4 jd_Int_numberOfTrailingZeros_59 (by decide) rfl ?_
          refine r_iushr 61 jd_Int_numberOfTrailingZeros_60 rfl ?_
          refine r_istore_n 62 [(0, .int ((((((a0 ^^^ (-1)) &&& (a0 - 1)).toUInt32 >>> ((16 : Int32).toUInt32 &&& Int32.toUInt32 31)).toInt32).toUInt32 >>> ((4 : Int32).toUInt32 &&& Int32.toUInt32 31)).toInt32)), (1, .int ((1 + 16) + 4))] jd_Int_numberOfTrailingZeros_61 (by decide) rfl rfl ?_
          refine r_iload_n 63 0 jd_Int_numberOfTrailingZeros_62 rfl rfl ?_
          refine r_iconst 64 4 jd_Int_numberOfTrailingZeros_63 (by decide) rfl ?_
          rcases q_ite hh with ⟨c13, hh⟩ | ⟨c13, hh⟩
          · refine r_ic_t 74 jd_Int_numberOfTrailingZeros_64 rfl c13 ?_
            refine r_iload_n 75 1 jd_Int_numberOfTrailingZeros_74 rfl rfl ?_
            refine r_iload_n 76 0 jd_Int_numberOfTrailingZeros_75 rfl rfl ?_
            refine r_iconst 77 1 jd_Int_numberOfTrailingZeros_76 (by decide) rfl ?_
            refine r_iushr 78 jd_Int_numberOfTrailingZeros_77 rfl ?_
            refine r_iadd 79 jd_Int_numberOfTrailingZeros_78 rfl ?_
            cases hh
            exact r_iret jd_Int_numberOfTrailingZeros_79 rfl ⟨rfl, rfl⟩
          · refine r_ic_f 67 74 jd_Int_numberOfTrailingZeros_64 rfl c13 rfl ?_
            refine r_iinc 70 1 [(1, .int (((1 + 16) + 4) + 2)), (0, .int ((((((a0 ^^^ (-1)) &&& (a0 - 1)).toUInt32 >>> ((16 : Int32).toUInt32 &&& Int32.toUInt32 31)).toInt32).toUInt32 >>> ((4 : Int32).toUInt32 &&& Int32.toUInt32 31)).toInt32))] 2 jd_Int_numberOfTrailingZeros_67 rfl (by decide) (by decide) rfl rfl ?_
            refine r_iload_n 71 1 jd_Int_numberOfTrailingZeros_70 rfl rfl ?_
            refine r_iconst 72 2 jd_Int_numberOfTrailingZeros_71 (by decide) rfl ?_
            refine r_iushr 73 jd_Int_numberOfTrailingZeros_72 rfl ?_
            refine r_istore_n 74 [(0, .int ((((((((a0 ^^^ (-1)) &&& (a0 - 1)).toUInt32 >>> ((16 : Int32).toUInt32 &&& Int32.toUInt32 31)).toInt32).toUInt32 >>> ((4 : Int32).toUInt32 &&& Int32.toUInt32 31)).toInt32).toUInt32 >>> ((2 : Int32).toUInt32 &&& Int32.toUInt32 31)).toInt32)), (1, .int (((1 + 16) + 4) + 2))] jd_Int_numberOfTrailingZeros_73 (by decide) rfl rfl ?_
            refine r_iload_n 75 1 jd_Int_numberOfTrailingZeros_74 rfl rfl ?_
            refine r_iload_n 76 0 jd_Int_numberOfTrailingZeros_75 rfl rfl ?_
            refine r_iconst 77 1 jd_Int_numberOfTrailingZeros_76 (by decide) rfl ?_
            refine r_iushr 78 jd_Int_numberOfTrailingZeros_77 rfl ?_
            refine r_iadd 79 jd_Int_numberOfTrailingZeros_78 rfl ?_
            cases hh
            exact r_iret jd_Int_numberOfTrailingZeros_79 rfl ⟨rfl, rfl⟩
      · refine r_ic_f 41 49 jd_Int_numberOfTrailingZeros_38 rfl c10 rfl ?_
        refine r_iinc 44 1 [(1, .int ((1 + 16) + 8)), (0, .int ((((a0 ^^^ (-1)) &&& (a0 - 1)).toUInt32 >>> ((16 : Int32).toUInt32 &&& Int32.toUInt32 31)).toInt32))] 8 jd_Int_numberOfTrailingZeros_41 rfl (by decide) (by decide) rfl rfl ?_
        refine r_iload_n 45 1 jd_Int_numberOfTrailingZeros_44 rfl rfl ?_
        refine r_bipush 47 8 jd_Int_numberOfTrailingZeros_45 (by decide) rfl ?_
        refine r_iushr 48 jd_Int_numberOfTrailingZeros_47 rfl ?_
        refine r_istore_n 49 [(0, .int ((((((a0 ^^^ (-1)) &&& (a0 - 1)).toUInt32 >>> ((16 : Int32).toUInt32 &&& Int32.toUInt32 31)).toInt32).toUInt32 >>> ((8 : Int32).toUInt32 &&& Int32.toUInt32 31)).toInt32)), (1, .int ((1 + 16) + 8))] jd_Int_numberOfTrailingZeros_48 (by decide) rfl rfl ?_
        refine r_iload_n 50 0 jd_Int_numberOfTrailingZeros_49 rfl rfl ?_
        refine r_bipush 52 16 jd_Int_numberOfTrailingZeros_50 (by decide) rfl ?_
        rcases q_ite hh with ⟨c14, hh⟩ | ⟨c14, hh⟩
        · refine r_ic_t 62 jd_Int_numberOfTrailingZeros_52 rfl c14 ?_
          refine r_iload_n 63 0 jd_Int_numberOfTrailingZeros_62 rfl rfl ?_
          refine r_iconst 64 4 jd_Int_numberOfTrailingZeros_63 (by decide) rfl ?_
          rcases q_ite hh with ⟨c15, hh⟩ | ⟨c15, hh⟩
          · refine r_ic_t 74 jd_Int_numberOfTrailingZeros_64 rfl c15 ?_
            refine r_iload_n 75 1 jd_Int_numberOfTrailingZeros_74 rfl rfl ?_
            refine r_iload_n 76 0 jd_Int_numberOfTrailingZeros_75 rfl rfl ?_
            refine r_iconst 77 1 jd_Int_numberOfTrailingZeros_76 (by decide) rfl ?_
            refine r_iushr 78 jd_Int_numberOfTrailingZeros_77 rfl ?_
            refine r_iadd 79 jd_Int_numberOfTrailingZeros_78 rfl ?_
            cases hh
            exact r_iret jd_Int_numberOfTrailingZeros_79 rfl ⟨rfl, rfl⟩
          · refine r_ic_f 67 74 jd_Int_numberOfTrailingZeros_64 rfl c15 rfl ?_
            refine r_iinc 70 1 [(1, .int (((1 + 16) + 8) + 2)), (0, .int ((((((a0 ^^^ (-1)) &&& (a0 - 1)).toUInt32 >>> ((16 : Int32).toUInt32 &&& Int32.toUInt32 31)).toInt32).toUInt32 >>> ((8 : Int32).toUInt32 &&& Int32.toUInt32 31)).toInt32))] 2 jd_Int_numberOfTrailingZeros_67 rfl (by decide) (by decide) rfl rfl ?_
            refine r_iload_n 71 1 jd_Int_numberOfTrailingZeros_70 rfl rfl ?_
            refine r_iconst 72 2 jd_Int_numberOfTrailingZeros_71 (by decide) rfl ?_
            refine r_iushr 73 jd_Int_numberOfTrailingZeros_72 rfl ?_
            refine r_istore_n 74 [(0, .int ((((((((a0 ^^^ (-1)) &&& (a0 - 1)).toUInt32 >>> ((16 : Int32).toUInt32 &&& Int32.toUInt32 31)).toInt32).toUInt32 >>> ((8 : Int32).toUInt32 &&& Int32.toUInt32 31)).toInt32).toUInt32 >>> ((2 : Int32).toUInt32 &&& Int32.toUInt32 31)).toInt32)), (1, .int (((1 + 16) + 8) + 2))] jd_Int_numberOfTrailingZeros_73 (by decide) rfl rfl ?_
            refine r_iload_n 75 1 jd_Int_numberOfTrailingZeros_74 rfl rfl ?_
            refine r_iload_n 76 0 jd_Int_numberOfTrailingZeros_75 rfl rfl ?_
            refine r_iconst 77 1 jd_Int_numberOfTrailingZeros_76 (by decide) rfl ?_
            refine r_iushr 78 jd_Int_numberOfTrailingZeros_77 rfl ?_
            refine r_iadd 79 jd_Int_numberOfTrailingZeros_78 rfl ?_
            cases hh
            exact r_iret jd_Int_numberOfTrailingZeros_79 rfl ⟨rfl, rfl⟩
        · refine r_ic_f 55 62 jd_Int_numberOfTrailingZeros_52 rfl c14 rfl ?_
          refine r_iinc 58 1 [(1, .int (((1 + 16) + 8) + 4)), (0, .int ((((((a0 ^^^ (-1)) &&& (a0 - 1)).toUInt32 >>> ((16 : Int32).toUInt32 &&& Int32.toUInt32 31)).toInt32).toUInt32 >>> ((8 : Int32).toUInt32 &&& Int32.toUInt32 31)).toInt32))] 4 jd_Int_numberOfTrailingZeros_55 rfl (by decide) (by decide) rfl rfl ?_
          refine r_iload_n 59 1 jd_Int_numberOfTrailingZeros_58 rfl rfl ?_
          refine r_iconst 60 4 jd_Int_numberOfTrailingZeros_59 (by decide) rfl ?_
          refine r_iushr 61 jd_Int_numberOfTrailingZeros_60 rfl ?_
          refine r_istore_n 62 [(0, .int ((((((((a0 ^^^ (-1)) &&& (a0 - 1)).toUInt32 >>> ((16 : Int32).toUInt32 &&& Int32.toUInt32 31)).toInt32).toUInt32 >>> ((8 : Int32).toUInt32 &&& Int32.toUInt32 31)).toInt32).toUInt32 >>> ((4 : Int32).toUInt32 &&& Int32.toUInt32 31)).toInt32)), (1, .int (((1 + 16) + 8) + 4))] jd_Int_numberOfTrailingZeros_61 (by decide) rfl rfl ?_
          refine r_iload_n 63 0 jd_Int_numberOfTrailingZeros_62 rfl rfl ?_
          refine r_iconst 64 4 jd_Int_numberOfTrailingZeros_63 (by decide) rfl ?_
          rcases q_ite hh with ⟨c16, hh⟩ | ⟨c16, hh⟩
          · refine r_ic_t 74 jd_Int_numberOfTrailingZeros_64 rfl c16 ?_
            refine r_iload_n 75 1 jd_Int_numberOfTrailingZeros_74 rfl rfl ?_
            refine r_iload_n 76 0 jd_Int_numberOfTrailingZeros_75 rfl rfl ?_
            refine r_iconst 77 1 jd_Int_numberOfTrailingZeros_76 (by decide) rfl ?_
            refine r_iushr 78 jd_Int_numberOfTrailingZeros_77 rfl ?_
            refine r_iadd 79 jd_Int_numberOfTrailingZeros_78 rfl ?_
            cases hh
            exact r_iret jd_Int_numberOfTrailingZeros_79 rfl ⟨rfl, rfl⟩
          · refine r_ic_f 67 74 jd_Int_numberOfTrailingZeros_64 rfl c16 rfl ?_
            refine r_iinc 70 1 [(1, .int ((((1 + 16) + 8) + 4) + 2)), (0, .int ((((((((a0 ^^^ (-1)) &&& (a0 - 1)).toUInt32 >>> ((16 : Int32).toUInt32 &&& Int32.toUInt32 31)).toInt32).toUInt32 >>> ((8 : Int32).toUInt32 &&& Int32.toUInt32 31)).toInt32).toUInt32 >>> ((4 : Int32).toUInt32 &&& Int32.toUInt32 31)).toInt32))] 2 jd_Int_numberOfTrailingZeros_67 rfl (by decide) (by decide) rfl rfl ?_
            refine r_iload_n 71 1 jd_Int_numberOfTrailingZeros_70 rfl rfl ?_
            refine r_iconst 72 2 jd_Int_numberOfTrailingZeros_71 (by decide) rfl ?_
            refine r_iushr 73 jd_Int_numberOfTrailingZeros_72 rfl ?_
            refine r_istore_n 74 [(0, .int ((((((((((a0 ^^^ (-1)) &&& (a0 - 1)).toUInt32 >>> ((16 : Int32).toUInt32 &&& Int32.toUInt32 31)).toInt32).toUInt32 >>> ((8 : Int32).toUInt32 &&& Int32.toUInt32 31)).toInt32).toUInt32 >>> ((4 : Int32).toUInt32 &&& Int32.toUInt32 31)).toInt32).toUInt32 >>> ((2 : Int32).toUInt32 &&& Int32.toUInt32 31)).toInt32)), (1, .int ((((1 + 16) + 8) + 4) + 2))] jd_Int_numberOfTrailingZeros_73 (by decide) rfl rfl ?_
            refine r_iload_n 75 1 jd_Int_numberOfTrailingZeros_74 rfl rfl ?_
            refine r_iload_n 76 0 jd_Int_numberOfTrailingZeros_75 rfl rfl ?_
            refine r_iconst 77 1 jd_Int_numberOfTrailingZeros_76 (by decide) rfl ?_
            refine r_iushr 78 jd_Int_numberOfTrailingZeros_77 rfl ?_
            refine r_iadd 79 jd_Int_numberOfTrailingZeros_78 rfl ?_
            cases hh
            exact r_iret jd_Int_numberOfTrailingZeros_79 rfl ⟨rfl, rfl⟩
  · refine r_if_f 12 17 jd_Int_numberOfTrailingZeros_9 rfl c1 rfl ?_
    refine r_iload_n 13 0 jd_Int_numberOfTrailingZeros_12 rfl rfl ?_
    refine r_bipush 15 32 jd_Int_numberOfTrailingZeros_13 (by decide) rfl ?_
    refine r_iand 16 jd_Int_numberOfTrailingZeros_15 rfl ?_
    cases hh
    exact r_iret jd_Int_numberOfTrailingZeros_16 rfl ⟨rfl, rfl⟩
-- java/util/Arrays.fill([II)V
def jf_Arr_fill_B5 (rc : q_S → Option Nat → Int32 → Int32 → Int32 → Option (q_S × Unit)) (x : q_S) (l0 : Option Nat) (l1 : Int32) (l2 : Int32) (l3 : Int32) : Option (q_S × Unit) :=
  if l3 ≤ l2 then
    some (x, ())
  else
    (q_sI x 2 l0 l2 l1).bind fun x4 =>
    rc x4 l0 l1 (l2 + 1) l3
def jf_Arr_fill_L5 : Nat → q_S → Option Nat → Int32 → Int32 → Int32 → Option (q_S × Unit)
  | 0, _, _, _, _, _ => none
  | n + 1, x, l0, l1, l2, l3 => jf_Arr_fill_B5 (jf_Arr_fill_L5 n) x l0 l1 l2 l3
theorem jm_Arr_fill_B5 {p : q_S × Unit} {rc : q_S → Option Nat → Int32 → Int32 → Int32 → Option (q_S × Unit)} (hrc : ∀ (x : q_S) (l0 : Option Nat) (l1 : Int32) (l2 : Int32) (l3 : Int32), rc x l0 l1 l2 l3 = some p → q_X (q_call 0) (fun y o => y = p.1 ∧ o = none) jq_Arr_fill 5 [(0, va_rf l0), (1, .int l1), (2, .int l2), (3, .int l3)] [] x) (x : q_S) (l0 : Option Nat) (l1 : Int32) (l2 : Int32) (l3 : Int32) (hh : jf_Arr_fill_B5 rc x l0 l1 l2 l3 = some p) : q_X (q_call 0) (fun y o => y = p.1 ∧ o = none) jq_Arr_fill 5 [(0, va_rf l0), (1, .int l1), (2, .int l2), (3, .int l3)] [] x := by
  unfold jf_Arr_fill_B5 at hh
  refine r_iload_n 6 2 jd_Arr_fill_5 rfl rfl ?_
  refine r_iload_n 7 3 jd_Arr_fill_6 rfl rfl ?_
  rcases q_ite hh with ⟨c3, hh⟩ | ⟨c3, hh⟩
  · refine r_ic_t 20 jd_Arr_fill_7 rfl c3 ?_
    cases hh
    exact r_vret jd_Arr_fill_20 rfl ⟨rfl, rfl⟩
  · refine r_ic_f 10 20 jd_Arr_fill_7 rfl c3 rfl ?_
    refine r_aload_n 11 0 jd_Arr_fill_10 rfl rfl ?_
    refine r_iload_n 12 2 jd_Arr_fill_11 rfl rfl ?_
    refine r_iload_n 13 1 jd_Arr_fill_12 rfl rfl ?_
    obtain ⟨x4, e5, hh⟩ := q_bind hh
    refine r_stI 14 2 jd_Arr_fill_13 rfl e5 rfl ?_
    refine r_iinc 17 2 [(2, .int (l2 + 1)), (0, va_rf l0), (1, .int l1), (3, .int l3)] 1 jd_Arr_fill_14 rfl (by decide) (by decide) rfl rfl ?_
    refine r_goto 5 jd_Arr_fill_17 rfl ?_
    refine q_sub [1, 2, 0, 3] rfl ?_
    exact hrc _ _ _ _ _ hh
theorem jm_Arr_fill_L5 {p : q_S × Unit} : ∀ (n : Nat) (x : q_S) (l0 : Option Nat) (l1 : Int32) (l2 : Int32) (l3 : Int32), jf_Arr_fill_L5 n x l0 l1 l2 l3 = some p → q_X (q_call 0) (fun y o => y = p.1 ∧ o = none) jq_Arr_fill 5 [(0, va_rf l0), (1, .int l1), (2, .int l2), (3, .int l3)] [] x
  | 0, _, _, _, _, _, hh => nomatch hh
  | n + 1, x, l0, l1, l2, l3, hh => jm_Arr_fill_B5 (jm_Arr_fill_L5 n) x l0 l1 l2 l3 hh
def jf_Arr_fill (x : q_S) (a0 : Option Nat) (a1 : Int32) : Option (q_S × Unit) :=
  (q_len x 2 a0).bind fun v1 =>
  jf_Arr_fill_L5 lpK x a0 a1 0 v1
theorem jm_Arr_fill {x : q_S} {a0 : Option Nat} {a1 : Int32} {p : q_S × Unit} (hh : jf_Arr_fill x a0 a1 = some p) : q_call 1 jq_Arr_fill [va_rf a0, .int a1] x p.1 (none) := by
  unfold jf_Arr_fill at hh
  refine ⟨List.mem_of_getElem? (i := 88) rfl, Nat.le_of_ble_eq_true rfl, List.forall_mem_cons.mpr ⟨q_cat _, List.forall_mem_cons.mpr ⟨rfl, fun _ h => by cases h⟩⟩, ?_⟩
  show q_X (q_call 0) _ jq_Arr_fill 0 [(0, va_rf a0), (1, .int a1)] [] x
  refine r_iconst 1 0 jd_Arr_fill_0 (by decide) rfl ?_
  refine r_istore_n 2 [(2, .int 0), (0, va_rf a0), (1, .int a1)] jd_Arr_fill_1 (by decide) rfl rfl ?_
  refine r_aload_n 3 1 jd_Arr_fill_2 rfl rfl ?_
  obtain ⟨v1, e2, hh⟩ := q_bind hh
  refine r_len 4 2 jd_Arr_fill_3 e2 rfl ?_
  refine r_istore_n 5 [(3, .int v1), (2, .int 0), (0, va_rf a0), (1, .int a1)] jd_Arr_fill_4 (by decide) rfl rfl ?_
  refine q_sub [2, 3, 1, 0] rfl ?_
  exact jm_Arr_fill_L5 lpK _ _ _ _ _ hh
-- java/util/ArrayList.rangeCheckForAdd(I)V
def jf_AL_rangeCheckForAdd (x : q_S) (a0 : Nat) (a1 : Int32) : Option (q_S × Unit) :=
  (q_gI x (some a0) 2 2).bind fun v1 =>
  if v1 < a1 then
    none
  else
    if 0 ≤ a1 then
      some (x, ())
    else
      none
theorem jm_AL_rangeCheckForAdd {x : q_S} {a0 : Nat} {a1 : Int32} {p : q_S × Unit} (hh : jf_AL_rangeCheckForAdd x a0 a1 = some p) : q_call 1 jq_AL_rangeCheckForAdd [va_rf (some a0), .int a1] x p.1 (none) := by
  unfold jf_AL_rangeCheckForAdd at hh
  refine ⟨List.mem_of_getElem? (i := 94) rfl, Nat.le_of_ble_eq_true rfl, List.forall_mem_cons.mpr ⟨rfl, List.forall_mem_cons.mpr ⟨rfl, fun _ h => by cases h⟩⟩, ?_⟩
  show q_X (q_call 0) _ jq_AL_rangeCheckForAdd 0 [(0, va_rf (some a0)), (1, .int a1)] [] x
  refine r_iload_n 1 1 jd_AL_rangeCheckForAdd_0 rfl rfl ?_
  refine r_aload_n 2 0 jd_AL_rangeCheckForAdd_1 rfl rfl ?_
  obtain ⟨v1, e2, hh⟩ := q_bind hh
  refine r_getI 5 19 jd_AL_rangeCheckForAdd_2 rfl e2 rfl ?_
  rcases q_ite hh with ⟨c3, hh⟩ | ⟨c3, hh⟩
  · refine r_ic_t 12 jd_AL_rangeCheckForAdd_5 rfl c3 ?_
    cases hh
  · refine r_ic_f 8 12 jd_AL_rangeCheckForAdd_5 rfl c3 rfl ?_
    refine r_iload_n 9 1 jd_AL_rangeCheckForAdd_8 rfl rfl ?_
    rcases q_ite hh with ⟨c4, hh⟩ | ⟨c4, hh⟩
    · refine r_if_t 25 jd_AL_rangeCheckForAdd_9 rfl c4 ?_
      cases hh
      exact r_vret jd_AL_rangeCheckForAdd_25 rfl ⟨rfl, rfl⟩
    · refine r_if_f 12 25 jd_AL_rangeCheckForAdd_9 rfl c4 rfl ?_
      cases hh
-- java/util/ArrayList.add(ILjava/lang/Object;)V
def jf_AL_addAt (x : q_S) (a0 : Nat) (a1 : Int32) (a2 : Option Nat) : Option (q_S × Unit) :=
  (q_av x (some a0) 2).bind fun b3 =>
  (jf_AL_rangeCheckForAdd x b3 a1).bind fun p1 =>
  (q_gI p1.1 (some a0) 2 0).bind fun v5 =>
  (q_pI p1.1 (some a0) 2 0 (v5 + 1)).bind fun x7 =>
  (q_gI x7 (some a0) 2 2).bind fun v9 =>
  (q_gR x7 (some a0) 2 1).bind fun v11 =>
  (q_lenR x7 0 v11).bind fun v13 =>
  if v9 = v13 then
    (q_av x7 (some a0) 2).bind fun b24 =>
    (jf_AL_grow x7 b24).bind fun p22 =>
    (q_cp p22.1 0 p22.2 a1 p22.2 (a1 + 1) (v9 - a1)).bind fun x26 =>
    (q_sR x26 0 p22.2 a1 a2).bind fun x28 =>
    (q_pI x28 (some a0) 2 2 (v9 + 1)).bind fun x30 =>
    some (x30, ())
  else
    (q_cp x7 0 v11 a1 v11 (a1 + 1) (v9 - a1)).bind fun x16 =>
    (q_sR x16 0 v11 a1 a2).bind fun x18 =>
    (q_pI x18 (some a0) 2 2 (v9 + 1)).bind fun x20 =>
    some (x20, ())
theorem jm_AL_addAt {x : q_S} {a0 : Nat} {a1 : Int32} {a2 : Option Nat} {p : q_S × Unit} (hh : jf_AL_addAt x a0 a1 a2 = some p) : q_call 5 jq_AL_addAt [va_rf (some a0), .int a1, va_rf a2] x p.1 (none) := by
  unfold jf_AL_addAt at hh
  refine ⟨List.mem_of_getElem? (i := 93) rfl, Nat.le_of_ble_eq_true rfl, List.forall_mem_cons.mpr ⟨rfl, List.forall_mem_cons.mpr ⟨rfl, List.forall_mem_cons.mpr ⟨q_cat _, fun _ h => by cases h⟩⟩⟩, ?_⟩
  show q_X (q_call 4) _ jq_AL_addAt 0 [(0, va_rf (some a0)), (1, .int a1), (2, va_rf a2)] [] x
  refine r_aload_n 1 0 jd_AL_addAt_0 rfl rfl ?_
  refine r_iload_n 2 1 jd_AL_addAt_1 rfl rfl ?_
  obtain ⟨b3, e4, hh⟩ := q_bind hh
  obtain ⟨p1, e2, hh⟩ := q_bind hh
  refine r_cV (rest := []) 5 110 2 [.int a1] [] jd_AL_addAt_2 rfl e4 rfl rfl rfl rfl (q_s8 (Nat.le_of_ble_eq_true rfl)) (q_call_le (Nat.le_of_ble_eq_true rfl) (jm_AL_rangeCheckForAdd e2)) rfl rfl ?_
  refine r_aload_n 6 0 jd_AL_addAt_5 rfl rfl ?_
  refine r_dupR 7 jd_AL_addAt_6 rfl ?_
  obtain ⟨v5, e6, hh⟩ := q_bind hh
  refine r_getI 10 39 jd_AL_addAt_7 rfl e6 rfl ?_
  refine r_iconst 11 1 jd_AL_addAt_10 (by decide) rfl ?_
  refine r_iadd 12 jd_AL_addAt_11 rfl ?_
  obtain ⟨x7, e8, hh⟩ := q_bind hh
  refine r_putI 15 39 jd_AL_addAt_12 rfl rfl (Or.inl rfl) e8 rfl ?_
  refine r_aload_n 16 0 jd_AL_addAt_15 rfl rfl ?_
  obtain ⟨v9, e10, hh⟩ := q_bind hh
  refine r_getI 19 19 jd_AL_addAt_16 rfl e10 rfl ?_
  refine r_dupI 20 jd_AL_addAt_19 rfl ?_
  refine r_istore_n 21 [(3, .int v9), (0, va_rf (some a0)), (1, .int a1), (2, va_rf a2)] jd_AL_addAt_20 (by decide) rfl rfl ?_
  refine r_aload_n 22 1 jd_AL_addAt_21 rfl rfl ?_
  obtain ⟨v11, e12, hh⟩ := q_bind hh
  refine r_getR 25 7 jd_AL_addAt_22 rfl e12 rfl ?_
  refine r_dupR 26 jd_AL_addAt_25 rfl ?_
  refine r_astore 28 [(4, va_rf v11), (3, .int v9), (0, va_rf (some a0)), (1, .int a1), (2, va_rf a2)] jd_AL_addAt_26 (by decide) rfl rfl ?_
  obtain ⟨v13, e14, hh⟩ := q_bind hh
  refine r_lenR 29 0 jd_AL_addAt_28 e14 rfl ?_
  rcases q_ite hh with ⟨c15, hh⟩ | ⟨c15, hh⟩
  · refine r_ic_f 32 38 jd_AL_addAt_29 rfl (fun z => z c15) rfl ?_
    refine r_aload_n 33 2 jd_AL_addAt_32 rfl rfl ?_
    obtain ⟨b24, e25, hh⟩ := q_bind hh
    obtain ⟨p22, e23, hh⟩ := q_bind hh
    refine r_cV (rest := []) 36 58 2 [] [va_rf p22.2] jd_AL_addAt_33 rfl e25 rfl rfl rfl rfl (q_s8 (Nat.le_of_ble_eq_true rfl)) (q_call_le (Nat.le_of_ble_eq_true rfl) (jm_AL_grow e23)) rfl rfl ?_
    refine r_astore 38 [(4, va_rf p22.2), (3, .int v9), (0, va_rf (some a0)), (1, .int a1), (2, va_rf a2)] jd_AL_addAt_36 (by decide) rfl rfl ?_
    refine r_aload 40 0 jd_AL_addAt_38 rfl rfl ?_
    refine r_iload_n 41 3 jd_AL_addAt_40 rfl rfl ?_
    refine r_aload 43 0 jd_AL_addAt_41 rfl rfl ?_
    refine r_iload_n 44 3 jd_AL_addAt_43 rfl rfl ?_
    refine r_iconst 45 1 jd_AL_addAt_44 (by decide) rfl ?_
    refine r_iadd 46 jd_AL_addAt_45 rfl ?_
    refine r_iload_n 47 1 jd_AL_addAt_46 rfl rfl ?_
    refine r_iload_n 48 3 jd_AL_addAt_47 rfl rfl ?_
    refine r_isub 49 jd_AL_addAt_48 rfl ?_
    obtain ⟨x26, e27, hh⟩ := q_bind hh
    refine r_copy 52 0 1 jd_AL_addAt_49 rfl (q_s8 (Nat.le_of_ble_eq_true rfl)) e27 rfl ?_
    refine r_aload 54 0 jd_AL_addAt_52 rfl rfl ?_
    refine r_iload_n 55 3 jd_AL_addAt_54 rfl rfl ?_
    refine r_aload_n 56 4 jd_AL_addAt_55 rfl rfl ?_
    obtain ⟨x28, e29, hh⟩ := q_bind hh
    refine r_stR 57 0 jd_AL_addAt_56 e29 rfl ?_
    refine r_aload_n 58 2 jd_AL_addAt_57 rfl rfl ?_
    refine r_iload_n 59 1 jd_AL_addAt_58 rfl rfl ?_
    refine r_iconst 60 1 jd_AL_addAt_59 (by decide) rfl ?_
    refine r_iadd 61 jd_AL_addAt_60 rfl ?_
    obtain ⟨x30, e31, hh⟩ := q_bind hh
    refine r_putI 64 19 jd_AL_addAt_61 rfl rfl (Or.inl rfl) e31 rfl ?_
    cases hh
    exact r_vret jd_AL_addAt_64 rfl ⟨rfl, rfl⟩
  · refine r_ic_t 38 jd_AL_addAt_29 rfl c15 ?_
    refine r_aload 40 0 jd_AL_addAt_38 rfl rfl ?_
    refine r_iload_n 41 3 jd_AL_addAt_40 rfl rfl ?_
    refine r_aload 43 0 jd_AL_addAt_41 rfl rfl ?_
    refine r_iload_n 44 3 jd_AL_addAt_43 rfl rfl ?_
    refine r_iconst 45 1 jd_AL_addAt_44 (by decide) rfl ?_
    refine r_iadd 46 jd_AL_addAt_45 rfl ?_
    refine r_iload_n 47 1 jd_AL_addAt_46 rfl rfl ?_
    refine r_iload_n 48 3 jd_AL_addAt_47 rfl rfl ?_
    refine r_isub 49 jd_AL_addAt_48 rfl ?_
    obtain ⟨x16, e17, hh⟩ := q_bind hh
    refine r_copy 52 0 1 jd_AL_addAt_49 rfl (q_s8 (Nat.le_of_ble_eq_true rfl)) e17 rfl ?_
    refine r_aload 54 0 jd_AL_addAt_52 rfl rfl ?_
    refine r_iload_n 55 3 jd_AL_addAt_54 rfl rfl ?_
    refine r_aload_n 56 4 jd_AL_addAt_55 rfl rfl ?_
    obtain ⟨x18, e19, hh⟩ := q_bind hh
    refine r_stR 57 0 jd_AL_addAt_56 e19 rfl ?_
    refine r_aload_n 58 2 jd_AL_addAt_57 rfl rfl ?_
    refine r_iload_n 59 1 jd_AL_addAt_58 rfl rfl ?_
    refine r_iconst 60 1 jd_AL_addAt_59 (by decide) rfl ?_
    refine r_iadd 61 jd_AL_addAt_60 rfl ?_
    obtain ⟨x20, e21, hh⟩ := q_bind hh
    refine r_putI 64 19 jd_AL_addAt_61 rfl rfl (Or.inl rfl) e21 rfl ?_
    cases hh
    exact r_vret jd_AL_addAt_64 rfl ⟨rfl, rfl⟩

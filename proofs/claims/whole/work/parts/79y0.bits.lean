/-! Sets of definitions: how many, which one. -/
def bcF (a0 : Int32) : Int32 := (((((((a0 - (((a0.toUInt32 >>> ((1 : Int32).toUInt32 &&& Int32.toUInt32 31)).toInt32) &&& 1431655765)) &&& 858993459) + ((((a0 - (((a0.toUInt32 >>> ((1 : Int32).toUInt32 &&& Int32.toUInt32 31)).toInt32) &&& 1431655765)).toUInt32 >>> ((2 : Int32).toUInt32 &&& Int32.toUInt32 31)).toInt32) &&& 858993459)) + (((((a0 - (((a0.toUInt32 >>> ((1 : Int32).toUInt32 &&& Int32.toUInt32 31)).toInt32) &&& 1431655765)) &&& 858993459) + ((((a0 - (((a0.toUInt32 >>> ((1 : Int32).toUInt32 &&& Int32.toUInt32 31)).toInt32) &&& 1431655765)).toUInt32 >>> ((2 : Int32).toUInt32 &&& Int32.toUInt32 31)).toInt32) &&& 858993459)).toUInt32 >>> ((4 : Int32).toUInt32 &&& Int32.toUInt32 31)).toInt32)) &&& 252645135) + (((((((a0 - (((a0.toUInt32 >>> ((1 : Int32).toUInt32 &&& Int32.toUInt32 31)).toInt32) &&& 1431655765)) &&& 858993459) + ((((a0 - (((a0.toUInt32 >>> ((1 : Int32).toUInt32 &&& Int32.toUInt32 31)).toInt32) &&& 1431655765)).toUInt32 >>> ((2 : Int32).toUInt32 &&& Int32.toUInt32 31)).toInt32) &&& 858993459)) + (((((a0 - (((a0.toUInt32 >>> ((1 : Int32).toUInt32 &&& Int32.toUInt32 31)).toInt32) &&& 1431655765)) &&& 858993459) + ((((a0 - (((a0.toUInt32 >>> ((1 : Int32).toUInt32 &&& Int32.toUInt32 31)).toInt32) &&& 1431655765)).toUInt32 >>> ((2 : Int32).toUInt32 &&& Int32.toUInt32 31)).toInt32) &&& 858993459)).toUInt32 >>> ((4 : Int32).toUInt32 &&& Int32.toUInt32 31)).toInt32)) &&& 252645135).toUInt32 >>> ((8 : Int32).toUInt32 &&& Int32.toUInt32 31)).toInt32)) + ((((((((a0 - (((a0.toUInt32 >>> ((1 : Int32).toUInt32 &&& Int32.toUInt32 31)).toInt32) &&& 1431655765)) &&& 858993459) + ((((a0 - (((a0.toUInt32 >>> ((1 : Int32).toUInt32 &&& Int32.toUInt32 31)).toInt32) &&& 1431655765)).toUInt32 >>> ((2 : Int32).toUInt32 &&& Int32.toUInt32 31)).toInt32) &&& 858993459)) + (((((a0 - (((a0.toUInt32 >>> ((1 : Int32).toUInt32 &&& Int32.toUInt32 31)).toInt32) &&& 1431655765)) &&& 858993459) + ((((a0 - (((a0.toUInt32 >>> ((1 : Int32).toUInt32 &&& Int32.toUInt32 31)).toInt32) &&& 1431655765)).toUInt32 >>> ((2 : Int32).toUInt32 &&& Int32.toUInt32 31)).toInt32) &&& 858993459)).toUInt32 >>> ((4 : Int32).toUInt32 &&& Int32.toUInt32 31)).toInt32)) &&& 252645135) + (((((((a0 - (((a0.toUInt32 >>> ((1 : Int32).toUInt32 &&& Int32.toUInt32 31)).toInt32) &&& 1431655765)) &&& 858993459) + ((((a0 - (((a0.toUInt32 >>> ((1 : Int32).toUInt32 &&& Int32.toUInt32 31)).toInt32) &&& 1431655765)).toUInt32 >>> ((2 : Int32).toUInt32 &&& Int32.toUInt32 31)).toInt32) &&& 858993459)) + (((((a0 - (((a0.toUInt32 >>> ((1 : Int32).toUInt32 &&& Int32.toUInt32 31)).toInt32) &&& 1431655765)) &&& 858993459) + ((((a0 - (((a0.toUInt32 >>> ((1 : Int32).toUInt32 &&& Int32.toUInt32 31)).toInt32) &&& 1431655765)).toUInt32 >>> ((2 : Int32).toUInt32 &&& Int32.toUInt32 31)).toInt32) &&& 858993459)).toUInt32 >>> ((4 : Int32).toUInt32 &&& Int32.toUInt32 31)).toInt32)) &&& 252645135).toUInt32 >>> ((8 : Int32).toUInt32 &&& Int32.toUInt32 31)).toInt32)).toUInt32 >>> ((16 : Int32).toUInt32 &&& Int32.toUInt32 31)).toInt32)) &&& 63
def tzF (a0 : Int32) : Int32 :=
  if 0 < ((a0 ^^^ (-1)) &&& (a0 - 1)) then
    if ((a0 ^^^ (-1)) &&& (a0 - 1)) ≤ 65536 then
      if ((a0 ^^^ (-1)) &&& (a0 - 1)) ≤ 256 then
        if ((a0 ^^^ (-1)) &&& (a0 - 1)) ≤ 16 then
          if ((a0 ^^^ (-1)) &&& (a0 - 1)) ≤ 4 then
            (1 : Int32) + ((((a0 ^^^ (-1)) &&& (a0 - 1)).toUInt32 >>> ((1 : Int32).toUInt32 &&& Int32.toUInt32 31)).toInt32)
          else
            (1 + 2) + ((((((a0 ^^^ (-1)) &&& (a0 - 1)).toUInt32 >>> ((2 : Int32).toUInt32 &&& Int32.toUInt32 31)).toInt32).toUInt32 >>> ((1 : Int32).toUInt32 &&& Int32.toUInt32 31)).toInt32)
        else
          if ((((a0 ^^^ (-1)) &&& (a0 - 1)).toUInt32 >>> ((4 : Int32).toUInt32 &&& Int32.toUInt32 31)).toInt32) ≤ 4 then
            (1 + 4) + ((((((a0 ^^^ (-1)) &&& (a0 - 1)).toUInt32 >>> ((4 : Int32).toUInt32 &&& Int32.toUInt32 31)).toInt32).toUInt32 >>> ((1 : Int32).toUInt32 &&& Int32.toUInt32 31)).toInt32)
          else
            ((1 + 4) + 2) + ((((((((a0 ^^^ (-1)) &&& (a0 - 1)).toUInt32 >>> ((4 : Int32).toUInt32 &&& Int32.toUInt32 31)).toInt32).toUInt32 >>> ((2 : Int32).toUInt32 &&& Int32.toUInt32 31)).toInt32).toUInt32 >>> ((1 : Int32).toUInt32 &&& Int32.toUInt32 31)).toInt32)
      else
        if ((((a0 ^^^ (-1)) &&& (a0 - 1)).toUInt32 >>> ((8 : Int32).toUInt32 &&& Int32.toUInt32 31)).toInt32) ≤ 16 then
          if ((((a0 ^^^ (-1)) &&& (a0 - 1)).toUInt32 >>> ((8 : Int32).toUInt32 &&& Int32.toUInt32 31)).toInt32) ≤ 4 then
            (1 + 8) + ((((((a0 ^^^ (-1)) &&& (a0 - 1)).toUInt32 >>> ((8 : Int32).toUInt32 &&& Int32.toUInt32 31)).toInt32).toUInt32 >>> ((1 : Int32).toUInt32 &&& Int32.toUInt32 31)).toInt32)
          else
            ((1 + 8) + 2) + ((((((((a0 ^^^ (-1)) &&& (a0 - 1)).toUInt32 >>> ((8 : Int32).toUInt32 &&& Int32.toUInt32 31)).toInt32).toUInt32 >>> ((2 : Int32).toUInt32 &&& Int32.toUInt32 31)).toInt32).toUInt32 >>> ((1 : Int32).toUInt32 &&& Int32.toUInt32 31)).toInt32)
        else
          if ((((((a0 ^^^ (-1)) &&& (a0 - 1)).toUInt32 >>> ((8 : Int32).toUInt32 &&& Int32.toUInt32 31)).toInt32).toUInt32 >>> ((4 : Int32).toUInt32 &&& Int32.toUInt32 31)).toInt32) ≤ 4 then
            ((1 + 8) + 4) + ((((((((a0 ^^^ (-1)) &&& (a0 - 1)).toUInt32 >>> ((8 : Int32).toUInt32 &&& Int32.toUInt32 31)).toInt32).toUInt32 >>> ((4 : Int32).toUInt32 &&& Int32.toUInt32 31)).toInt32).toUInt32 >>> ((1 : Int32).toUInt32 &&& Int32.toUInt32 31)).toInt32)
          else
            (((1 + 8) + 4) + 2) + ((((((((((a0 ^^^ (-1)) &&& (a0 - 1)).toUInt32 >>> ((8 : Int32).toUInt32 &&& Int32.toUInt32 31)).toInt32).toUInt32 >>> ((4 : Int32).toUInt32 &&& Int32.toUInt32 31)).toInt32).toUInt32 >>> ((2 : Int32).toUInt32 &&& Int32.toUInt32 31)).toInt32).toUInt32 >>> ((1 : Int32).toUInt32 &&& Int32.toUInt32 31)).toInt32)
    else
      if ((((a0 ^^^ (-1)) &&& (a0 - 1)).toUInt32 >>> ((16 : Int32).toUInt32 &&& Int32.toUInt32 31)).toInt32) ≤ 256 then
        if ((((a0 ^^^ (-1)) &&& (a0 - 1)).toUInt32 >>> ((16 : Int32).toUInt32 &&& Int32.toUInt32 31)).toInt32) ≤ 16 then
          if ((((a0 ^^^ (-1)) &&& (a0 - 1)).toUInt32 >>> ((16 : Int32).toUInt32 &&& Int32.toUInt32 31)).toInt32) ≤ 4 then
            (1 + 16) + ((((((a0 ^^^ (-1)) &&& (a0 - 1)).toUInt32 >>> ((16 : Int32).toUInt32 &&& Int32.toUInt32 31)).toInt32).toUInt32 >>> ((1 : Int32).toUInt32 &&& Int32.toUInt32 31)).toInt32)
          else
            ((1 + 16) + 2) + ((((((((a0 ^^^ (-1)) &&& (a0 - 1)).toUInt32 >>> ((16 : Int32).toUInt32 &&& Int32.toUInt32 31)).toInt32).toUInt32 >>> ((2 : Int32).toUInt32 &&& Int32.toUInt32 31)).toInt32).toUInt32 >>> ((1 : Int32).toUInt32 &&& Int32.toUInt32 31)).toInt32)
        else
          if ((((((a0 ^^^ (-1)) &&& (a0 - 1)).toUInt32 >>> ((16 : Int32).toUInt32 &&& Int32.toUInt32 31)).toInt32).toUInt32 >>> ((4 : Int32).toUInt32 &&& Int32.toUInt32 31)).toInt32) ≤ 4 then
            ((1 + 16) + 4) + ((((((((a0 ^^^ (-1)) &&& (a0 - 1)).toUInt32 >>> ((16 : Int32).toUInt32 &&& Int32.toUInt32 31)).toInt32).toUInt32 >>> ((4 : Int32).toUInt32 &&& Int32.toUInt32 31)).toInt32).toUInt32 >>> ((1 : Int32).toUInt32 &&& Int32.toUInt32 31)).toInt32)
          else
            (((1 + 16) + 4) + 2) + ((((((((((a0 ^^^ (-1)) &&& (a0 - 1)).toUInt32 >>> ((16 : Int32).toUInt32 &&& Int32.toUInt32 31)).toInt32).toUInt32 >>> ((4 : Int32).toUInt32 &&& Int32.toUInt32 31)).toInt32).toUInt32 >>> ((2 : Int32).toUInt32 &&& Int32.toUInt32 31)).toInt32).toUInt32 >>> ((1 : Int32).toUInt32 &&& Int32.toUInt32 31)).toInt32)
      else
        if ((((((a0 ^^^ (-1)) &&& (a0 - 1)).toUInt32 >>> ((16 : Int32).toUInt32 &&& Int32.toUInt32 31)).toInt32).toUInt32 >>> ((8 : Int32).toUInt32 &&& Int32.toUInt32 31)).toInt32) ≤ 16 then
          if ((((((a0 ^^^ (-1)) &&& (a0 - 1)).toUInt32 >>> ((16 : Int32).toUInt32 &&& Int32.toUInt32 31)).toInt32).toUInt32 >>> ((8 : Int32).toUInt32 &&& Int32.toUInt32 31)).toInt32) ≤ 4 then
            ((1 + 16) + 8) + ((((((((a0 ^^^ (-1)) &&& (a0 - 1)).toUInt32 >>> ((16 : Int32).toUInt32 &&& Int32.toUInt32 31)).toInt32).toUInt32 >>> ((8 : Int32).toUInt32 &&& Int32.toUInt32 31)).toInt32).toUInt32 >>> ((1 : Int32).toUInt32 &&& Int32.toUInt32 31)).toInt32)
          else
            (((1 + 16) + 8) + 2) + ((((((((((a0 ^^^ (-1)) &&& (a0 - 1)).toUInt32 >>> ((16 : Int32).toUInt32 &&& Int32.toUInt32 31)).toInt32).toUInt32 >>> ((8 : Int32).toUInt32 &&& Int32.toUInt32 31)).toInt32).toUInt32 >>> ((2 : Int32).toUInt32 &&& Int32.toUInt32 31)).toInt32).toUInt32 >>> ((1 : Int32).toUInt32 &&& Int32.toUInt32 31)).toInt32)
        else
          if ((((((((a0 ^^^ (-1)) &&& (a0 - 1)).toUInt32 >>> ((16 : Int32).toUInt32 &&& Int32.toUInt32 31)).toInt32).toUInt32 >>> ((8 : Int32).toUInt32 &&& Int32.toUInt32 31)).toInt32).toUInt32 >>> ((4 : Int32).toUInt32 &&& Int32.toUInt32 31)).toInt32) ≤ 4 then
            (((1 + 16) + 8) + 4) + ((((((((((a0 ^^^ (-1)) &&& (a0 - 1)).toUInt32 >>> ((16 : Int32).toUInt32 &&& Int32.toUInt32 31)).toInt32).toUInt32 >>> ((8 : Int32).toUInt32 &&& Int32.toUInt32 31)).toInt32).toUInt32 >>> ((4 : Int32).toUInt32 &&& Int32.toUInt32 31)).toInt32).toUInt32 >>> ((1 : Int32).toUInt32 &&& Int32.toUInt32 31)).toInt32)
          else
            ((((1 + 16) + 8) + 4) + 2) + ((((((((((((a0 ^^^ (-1)) &&& (a0 - 1)).toUInt32 >>> ((16 : Int32).toUInt32 &&& Int32.toUInt32 31)).toInt32).toUInt32 >>> ((8 : Int32).toUInt32 &&& Int32.toUInt32 31)).toInt32).toUInt32 >>> ((4 : Int32).toUInt32 &&& Int32.toUInt32 31)).toInt32).toUInt32 >>> ((2 : Int32).toUInt32 &&& Int32.toUInt32 31)).toInt32).toUInt32 >>> ((1 : Int32).toUInt32 &&& Int32.toUInt32 31)).toInt32)
  else
    ((a0 ^^^ (-1)) &&& (a0 - 1)) &&& 32
theorem ite_sx {x : q_S} {c : Prop} {i : Decidable c} {a b : Int32} : (@ite _ c i (some (x, a)) (some (x, b)) : Option (q_S × Int32)) = some (x, @ite _ c i a b) := by split <;> rfl
theorem bc_eq (x : q_S) (a : Int32) : jf_Int_bitCount x a = some (x, bcF a) := rfl
theorem tz_eq (x : q_S) (a : Int32) : jf_Int_numberOfTrailingZeros x a = some (x, tzF a) := by
  unfold jf_Int_numberOfTrailingZeros tzF
  simp only [ite_sx]
def cn (p : Nat → Bool) : Nat → Nat
  | 0 => 0
  | i + 1 => if p i then cn p i + 1 else cn p i
def lst (p : Nat → Bool) : Nat → Option Nat
  | 0 => none
  | i + 1 => if p i then some i else lst p i
def an (p : Nat → Bool) : Nat → Bool
  | 0 => false
  | i + 1 => an p i || p i
theorem cn_c {p q : Nat → Bool} : ∀ n, (∀ d, d < n → p d = q d) → cn p n = cn q n
  | 0, _ => rfl
  | n + 1, h => by unfold cn; rw [h n (by omega), cn_c n (fun d hd => h d (by omega))]
theorem lst_c {p q : Nat → Bool} : ∀ n, (∀ d, d < n → p d = q d) → lst p n = lst q n
  | 0, _ => rfl
  | n + 1, h => by unfold lst; rw [h n (by omega), lst_c n (fun d hd => h d (by omega))]
theorem cn_x {p : Nat → Bool} {n : Nat} (h : ∀ d, n ≤ d → p d = false) : ∀ k, cn p (n + k) = cn p n ∧ lst p (n + k) = lst p n
  | 0 => ⟨rfl, rfl⟩
  | k + 1 => by
    have e := h (n + k) (by omega)
    have ih := cn_x h k
    constructor
    · show (if p (n + k) then _ else _) = _; rw [e]; exact ih.1
    · show (if p (n + k) then _ else _) = _; rw [e]; exact ih.2
theorem cn_le (p : Nat → Bool) : ∀ n, cn p n ≤ n
  | 0 => Nat.le_refl _
  | n + 1 => by unfold cn; have := cn_le p n; split <;> omega
theorem cn_0 {p : Nat → Bool} : ∀ n, (cn p n = 0 ↔ ∀ d, d < n → p d = false)
  | 0 => ⟨fun _ d hd => absurd hd (Nat.not_lt_zero d), fun _ => rfl⟩
  | n + 1 => by
    have ih := cn_0 (p := p) n
    unfold cn
    cases e : p n with
    | true => exact ⟨fun z => by simp at z, fun z => by rw [z n (by omega)] at e; cases e⟩
    | false =>
      refine ⟨fun z d hd => ?_, fun z => ih.mpr (fun d hd => z d (by omega))⟩
      by_cases h : d = n
      · rw [h]; exact e
      · exact ih.mp z d (by omega)
theorem lst_s {p : Nat → Bool} : ∀ n d, lst p n = some d → d < n ∧ p d = true
  | 0, _, h => by cases h
  | n + 1, d, h => by
    unfold lst at h
    cases e : p n with
    | true => rw [e] at h; cases h; exact ⟨by omega, e⟩
    | false => rw [e] at h; have := lst_s n d h; exact ⟨by omega, this.2⟩
theorem lst_n {p : Nat → Bool} : ∀ n, lst p n = none → cn p n = 0
  | 0, _ => rfl
  | n + 1, h => by
    unfold lst at h
    unfold cn
    cases e : p n with
    | true => rw [e] at h; cases h
    | false => rw [e] at h; exact lst_n n h
theorem an_iff {p : Nat → Bool} : ∀ n, (an p n = true ↔ ∃ d, d < n ∧ p d = true)
  | 0 => ⟨fun z => (by cases z), fun ⟨d, hd, _⟩ => absurd hd (Nat.not_lt_zero d)⟩
  | n + 1 => by
    unfold an
    rw [Bool.or_eq_true, an_iff n]
    constructor
    · rintro (⟨d, h1, h2⟩ | h)
      · exact ⟨d, by omega, h2⟩
      · exact ⟨n, by omega, h⟩
    · rintro ⟨d, h1, h2⟩
      by_cases h : d = n
      · rw [h] at h2; exact Or.inr h2
      · exact Or.inl ⟨d, by omega, h2⟩
theorem s_nat {s : Int32} (h : ∀ d, d < 32 → hs s d → d < 10) : ∃ k, k < 1024 ∧ s = nI k ∧ ∀ d, d < 32 → (hs s d ↔ k.testBit d = true) := by
  have ht : ∀ d, d < 32 → (hs s d ↔ s.toBitVec.toNat.testBit d = true) := fun d hd => by rw [hs_bit hd, BitVec.getLsbD]
  have hk : s.toBitVec.toNat < 2 ^ 10 := by
    refine Nat.lt_pow_two_of_testBit _ (fun i hi => ?_)
    by_cases h32 : i < 32
    · cases e : s.toBitVec.toNat.testBit i with
      | false => rfl
      | true => have := h i h32 ((ht i h32).mpr e); omega
    · exact Nat.testBit_lt_two_pow (Nat.lt_of_lt_of_le s.toBitVec.isLt (Nat.pow_le_pow_right (by decide) (by omega)))
  refine ⟨s.toBitVec.toNat, hk, ?_, ht⟩
  rw [← Int32.toBitVec_inj]
  show s.toBitVec = BitVec.ofNat 32 s.toBitVec.toNat
  rw [BitVec.ofNat_toNat, BitVec.setWidth_eq]
theorem bc_all : ∀ k : Fin 1024, bcF (nI k.1) = nI (cn (fun d => k.1.testBit d) 10) ∧ (cn (fun d => k.1.testBit d) 10 = 1 → tzF (nI k.1) = oI (lst (fun d => k.1.testBit d) 10)) := by decide +kernel
theorem bc_s {s : Int32} {n : Nat} (hn : n ≤ 10) (h : ∀ d, d < 32 → hs s d → d < n) {p : Nat → Bool} (hp : ∀ d, d < 10 → (p d = true ↔ hs s d)) : bcF s = nI (cn p n) ∧ (cn p n = 1 → tzF s = oI (lst p n)) := by
  obtain ⟨k, h1, h2, h3⟩ := s_nat (fun d hd hb => by have := h d hd hb; omega)
  have e := bc_all ⟨k, h1⟩
  dsimp only at e
  rw [← h2] at e
  have ep : ∀ d, d < 10 → k.testBit d = p d := fun d hd => Bool.eq_iff_iff.mpr (by rw [hp d hd, h3 d (by omega)])
  rw [cn_c 10 ep, lst_c 10 ep] at e
  have e0 : ∀ d, n ≤ d → (fun d => decide (d < 10) && p d) d = false := fun d hd => by
    by_cases h10 : d < 10
    · cases e : p d with
      | false => simp [e]
      | true => have := h d (by omega) ((hp d h10).mp e); omega
    · simp [h10]
  have x := cn_x e0 (10 - n)
  rw [show n + (10 - n) = 10 by omega] at x
  have c10 : ∀ m, m ≤ 10 → cn (fun d => decide (d < 10) && p d) m = cn p m ∧ lst (fun d => decide (d < 10) && p d) m = lst p m := fun m hm =>
    ⟨cn_c m (fun d hd => by simp; omega), lst_c m (fun d hd => by simp; omega)⟩
  rw [(c10 10 (by omega)).1, (c10 n hn).1, (c10 10 (by omega)).2, (c10 n hn).2] at x
  rw [x.1, x.2] at e
  exact e

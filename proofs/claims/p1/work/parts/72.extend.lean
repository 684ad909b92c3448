/-! extend: the class's rows of bits, the reference's table. -/
abbrev hs (u : Int32) (j : Nat) : Prop := u &&& ((1 : Int32) <<< (nI j &&& 31)) ≠ 0
theorem i_or0 (u v : Int32) : u ||| v = 0 ↔ u = 0 ∧ v = 0 := by
  rw [← Int32.toBitVec_inj, ← Int32.toBitVec_inj, ← Int32.toBitVec_inj, Int32.toBitVec_or]
  exact BitVec.or_eq_zero_iff
theorem i_oa (u v w : Int32) : (u ||| v) &&& w = (u &&& w) ||| (v &&& w) := by
  rw [← Int32.toBitVec_inj, Int32.toBitVec_or, Int32.toBitVec_and, Int32.toBitVec_and, Int32.toBitVec_or, Int32.toBitVec_and]
  refine BitVec.eq_of_getElem_eq (fun i hi => ?_)
  rw [BitVec.getElem_and, BitVec.getElem_or, BitVec.getElem_or, BitVec.getElem_and, BitVec.getElem_and, Bool.and_or_distrib_right]
theorem hs_or (u v : Int32) (j : Nat) : hs (u ||| v) j ↔ hs u j ∨ hs v j := by
  unfold hs
  rw [i_oa]
  constructor
  · intro h
    by_cases h1 : u &&& ((1 : Int32) <<< (nI j &&& 31)) = 0
    · by_cases h2 : v &&& ((1 : Int32) <<< (nI j &&& 31)) = 0
      · exact absurd ((i_or0 _ _).mpr ⟨h1, h2⟩) h
      · exact Or.inr h2
    · exact Or.inl h1
  · intro h h1
    obtain ⟨h2, h3⟩ := (i_or0 _ _).mp h1
    rcases h with h | h
    · exact h h2
    · exact h h3
theorem isKind_eq {x : q_S} {c k i j : Nat} {kn : Nat → Int32} (h1 : q_al x 1 c = true) (h2 : q_fd x 1 0 c = .ref k) (h3 : q_ai x 1 k = some (6, kn)) (hi : i < 6) : jf_Ca_isKind x c (nI i) (nI j) = some (x, if hs (kn i) j then 1 else 0) := by
  unfold jf_Ca_isKind
  rw [y_gRs h1 h2, Option.bind_some, y_lI h3 hi (by decide), Option.bind_some]
  unfold jf_Bc_contains
  by_cases hc : kn i &&& ((1 : Int32) <<< (nI j &&& 31)) = 0
  · rw [if_pos hc, if_neg (fun z => z hc)]; exact if_pos (show (0 : Int32) &&& 1 = 0 by decide)
  · rw [if_neg hc, if_pos (show hs (kn i) j from hc)]; exact if_pos (show (1 : Int32) &&& 1 = 1 by decide)
def akS (a b : Nat) (kn : Nat → Int32) (i : Nat) : Nat → Int32 := if hs (kn i) a then upd kn i (kn i ||| kn b) else kn
def akF (a b : Nat) : Nat → Nat → (Nat → Int32) → Nat → Int32
  | 0, _, kn => kn
  | r + 1, i, kn => akF a b r (i + 1) (akS a b kn i)
theorem uI_rf {x : q_S} {t a n : Nat} {f : Nat → Int32} (h : q_ai x t a = some (n, f)) : uI x x t a n f := by
  refine ⟨rfl, rfl, rfl, rfl, rfl, rfl, fun u b => ?_⟩
  by_cases hc : u = t ∧ b = a
  · rw [if_pos hc, hc.1, hc.2, h]
  · rw [if_neg hc]
theorem addKind_L {c k a b : Nat} (hb : b < 6) : ∀ (m r i : Nat) (x : q_S) (kn : Nat → Int32), i + r = 6 → r < m → q_al x 1 c = true → q_fd x 1 0 c = .ref k → q_ai x 1 k = some (6, kn) → ∃ y, jf_Ca_addKind_L2 m x c (nI a) (nI b) (nI i) = some (y, ()) ∧ uI x y 1 k 6 (akF a b r i kn) := by
  intro m
  induction m with
  | zero => intro r i x kn _ h; omega
  | succ m ih =>
    intro r i x kn hr hm h1 h2 h3
    show ∃ y, jf_Ca_addKind_B2 (jf_Ca_addKind_L2 m) x c (nI a) (nI b) (nI i) = some (y, ()) ∧ _
    unfold jf_Ca_addKind_B2
    cases r with
    | zero =>
      rw [if_pos (show (6 : Int32) ≤ nI i from nI_le (a := 6) (b := i) (by omega) (by omega))]
      exact ⟨x, rfl, uI_rf h3⟩
    | succ r =>
      have hi : i < 6 := by omega
      rw [if_neg (show ¬ (6 : Int32) ≤ nI i from nI_ge (a := i) (b := 6) hi (by omega)), y_av h1, Option.bind_some, isKind_eq h1 h2 h3 hi, Option.bind_some]
      dsimp only
      show ∃ y, _ ∧ uI x y 1 k 6 (akF a b r (i + 1) (akS a b kn i))
      unfold akS
      by_cases hc : hs (kn i) a
      · rw [if_pos hc, if_neg (by decide), if_pos hc, y_gRs h1 h2, Option.bind_some, y_lI h3 hi (by decide), Option.bind_some, Option.bind_some, y_lI h3 hb (by decide), Option.bind_some]
        refine st_sI (G := fun o => ∃ y, o = some (y, ()) ∧ uI x y 1 k 6 (akF a b r (i + 1) (upd kn i (kn i ||| kn b)))) rfl h3 hi (by decide) (fun x1 u1 => ?_)
        rw [nI_1]
        obtain ⟨y, e1, e2⟩ := ih r (i + 1) x1 _ (by omega) (by omega) (by rw [u1.2.2.1]; exact h1) (by rw [u1.2.2.2.2.2.1]; exact h2) (by rw [u1.2.2.2.2.2.2, if_pos ⟨rfl, rfl⟩])
        exact ⟨y, e1, uI_tr u1 e2⟩
      · rw [if_neg hc, if_pos rfl, if_neg hc, nI_1]
        exact ih r (i + 1) x kn (by omega) (by omega) h1 h2 h3
theorem akF_eq {a b : Nat} : ∀ (r i : Nat) (kn : Nat → Int32), ¬ hs (kn b) a → ∀ j, akF a b r i kn j = if i ≤ j ∧ j < i + r ∧ hs (kn j) a then kn j ||| kn b else kn j := by
  intro r
  induction r with
  | zero => intro i kn _ j; rw [if_neg (by omega)]; rfl
  | succ r ih =>
    intro i kn hb j
    show akF a b r (i + 1) (akS a b kn i) j = _
    have e : ∀ j, akS a b kn i j = if j = i ∧ hs (kn j) a then kn j ||| kn b else kn j := by
      intro j
      unfold akS
      by_cases hc : hs (kn i) a
      · rw [if_pos hc]; unfold upd
        by_cases hj : j = i
        · rw [if_pos hj, if_pos ⟨hj, by rw [hj]; exact hc⟩, hj]
        · rw [if_neg hj, if_neg (fun z => hj z.1)]
      · rw [if_neg hc]
        rw [if_neg (fun z => hc (by rw [← z.1]; exact z.2))]
    have eb : akS a b kn i b = kn b := by rw [e b, if_neg (fun z => hb z.2)]
    rw [ih (i + 1) _ (by rw [eb]; exact hb) j, eb, e j]
    by_cases hj : j = i
    · subst hj
      rw [if_neg (by omega)]
      by_cases hc : hs (kn j) a
      · rw [if_pos ⟨rfl, hc⟩, if_pos ⟨Nat.le_refl _, by omega, hc⟩]
      · rw [if_neg (fun z => hc z.2), if_neg (fun z => hc z.2.2)]
    · rw [if_neg (c := j = i ∧ hs (kn j) a) (fun z => hj z.1)]
      by_cases hc : i + 1 ≤ j ∧ j < i + 1 + r ∧ hs (kn j) a
      · rw [if_pos hc, if_pos ⟨by omega, by omega, hc.2.2⟩]
      · rw [if_neg hc, if_neg (fun z => hc ⟨by omega, by omega, z.2.2⟩)]
/-! the reference's side -/
abbrev isE (E : Nat → Int32) (i j : Nat) : Prop := i = j ∨ E (6 * i + j) ≠ 0
theorem nI_6 (i j : Nat) : (6 : Int32) * nI i + nI j = nI (6 * i + j) := by
  rw [← nI_add]
  exact congrArg (· + nI j) (Int32.ofNat_mul 6 i).symm
theorem is_eq {T : tT} {i j : Nat} (hi : i < 6) (hj : j < 6) : jt_Mo_is T (nI i) (nI j) = some (T, if isE (T.2 100) i j then 1 else 0) := by
  unfold jt_Mo_is
  by_cases h : i = j
  · rw [if_pos (by rw [h]), if_pos (Or.inl h)]
  · rw [if_neg (fun z => h ((nI_eq (by omega) (by omega)).mp z)), nI_6, tl_n (by omega) (by decide), Option.bind_some]
    by_cases h0 : T.2 100 (6 * i + j) = 0
    · rw [if_pos h0, if_neg (fun z => z.elim h (fun w => w h0))]
    · rw [if_neg h0, if_pos (Or.inr h0)]
def exF (E : Nat → Int32) (a b p i : Nat) : Int32 := if i < p then (if E i ≠ 0 ∨ (isE E (i / 6) a ∧ isE E b (i % 6)) then 1 else 0) else E i
theorem exF_ne {E : Nat → Int32} {a b p i : Nat} : exF E a b p i ≠ 0 ↔ E i ≠ 0 ∨ (i < p ∧ isE E (i / 6) a ∧ isE E b (i % 6)) := by
  unfold exF
  by_cases h : i < p
  · rw [if_pos h]
    by_cases h2 : E i ≠ 0 ∨ (isE E (i / 6) a ∧ isE E b (i % 6))
    · rw [if_pos h2]
      exact ⟨fun _ => h2.elim Or.inl (fun z => Or.inr ⟨h, z⟩), fun _ => by decide⟩
    · rw [if_neg h2]
      exact ⟨fun z => absurd rfl z, fun z => absurd (z.elim Or.inl (fun w => Or.inr w.2)) h2⟩
  · rw [if_neg h]
    exact ⟨Or.inl, fun z => z.elim id (fun w => absurd w.1 h)⟩
theorem isE_a {E : Nat → Int32} {a b p x : Nat} (hx : x < 6) (ha : a < 6) (hba : ¬ isE E b a) : isE (exF E a b p) x a ↔ isE E x a := by
  unfold isE at *
  rw [exF_ne]
  have e1 : (6 * x + a) / 6 = x := by omega
  have e2 : (6 * x + a) % 6 = a := by omega
  rw [e1, e2]
  exact ⟨fun z => z.elim Or.inl (fun w => w.elim Or.inr (fun v => absurd v.2.2 hba)), fun z => z.elim Or.inl (fun w => Or.inr (Or.inl w))⟩
theorem isE_b {E : Nat → Int32} {a b p y : Nat} (hb : b < 6) (hy : y < 6) (hba : ¬ isE E b a) : isE (exF E a b p) b y ↔ isE E b y := by
  unfold isE at *
  rw [exF_ne]
  have e1 : (6 * b + y) / 6 = b := by omega
  have e2 : (6 * b + y) % 6 = y := by omega
  rw [e1, e2]
  exact ⟨fun z => z.elim Or.inl (fun w => w.elim Or.inr (fun v => absurd v.2.1 hba)), fun z => z.elim Or.inl (fun w => Or.inr (Or.inl w))⟩
theorem exF_s {E : Nat → Int32} {a b p : Nat} {v : Int32} (hv : v = if E p ≠ 0 ∨ (isE E (p / 6) a ∧ isE E b (p % 6)) then 1 else 0) : upd (exF E a b p) p v = exF E a b (p + 1) := by
  funext i
  unfold upd
  by_cases h : i = p
  · rw [if_pos h, hv]; unfold exF; rw [if_pos (show i < p + 1 by omega), h]
  · rw [if_neg h]; unfold exF
    by_cases h2 : i < p
    · rw [if_pos h2, if_pos (show i < p + 1 by omega)]
    · rw [if_neg h2, if_neg (show ¬ i < p + 1 by omega)]
theorem ext_56 {E : Nat → Int32} {a b X : Nat} {p : tT × Int32} {kk : tT → Int32 → Int32 → Int32 → Int32 → Option (tT × Int32)} (ha : a < 6) (hb : b < 6) (hX : X < 6) (hba : ¬ isE E b a) (T : tT) (hk : kk (tset T 100 (exF E a b (6 * X + 6))) (nI a) (nI b) (nI X) 6 = some p) : ∀ (m r Y : Nat), Y + r = 6 → r < m → jt_Mo_extend_L56 kk m (tset T 100 (exF E a b (6 * X + Y))) (nI a) (nI b) (nI X) (nI Y) = some p := by
  intro m
  induction m with
  | zero => intro r Y _ h; omega
  | succ m ih =>
    intro r Y hr hm
    show jt_Mo_extend_B56 kk (jt_Mo_extend_L56 kk m) _ (nI a) (nI b) (nI X) (nI Y) = some p
    unfold jt_Mo_extend_B56
    cases r with
    | zero =>
      cases (show Y = 6 by omega)
      rw [if_pos (by decide)]
      exact hk
    | succ r =>
      have hY : Y < 6 := by omega
      have hp : 6 * X + Y < 36 := by omega
      have e1 : (6 * X + Y) / 6 = X := by omega
      have e2 : (6 * X + Y) % 6 = Y := by omega
      have e3 : exF E a b (6 * X + Y) (6 * X + Y) = E (6 * X + Y) := by unfold exF; rw [if_neg (by omega)]
      have fin : ∀ v : Int32, (v = if E (6 * X + Y) ≠ 0 ∨ (isE E X a ∧ isE E b Y) then 1 else 0) → ((tw (tset T 100 (exF E a b (6 * X + Y))) 100 36 (nI (6 * X + Y)) v).bind fun T21 => jt_Mo_extend_L56 kk m T21 (nI a) (nI b) (nI X) (nI Y + 1)) = some p := by
        intro v hv
        rw [tw_n hp (by decide), Option.bind_some, tset_g, tset_t, exF_s (by rw [e1, e2]; exact hv), nI_1]
        exact ih r (Y + 1) (by omega) (by omega)
      rw [if_neg (show ¬ (6 : Int32) ≤ nI Y from nI_ge (a := Y) (b := 6) hY (by omega)), is_eq hX ha, Option.bind_some]
      dsimp only
      rw [tset_g, nI_6]
      by_cases h1 : isE E X a
      · rw [if_pos ((isE_a hX ha hba).mpr h1), if_neg (by decide), is_eq hb hY, Option.bind_some]
        dsimp only
        rw [tset_g, tl_n hp (by decide), tset_g, e3, Option.bind_some]
        by_cases h2 : isE E b Y
        · rw [if_pos ((isE_b hb hY hba).mpr h2), if_neg (by decide)]
          have hv : (1 : Int32) &&& 1 = if E (6 * X + Y) ≠ 0 ∨ (isE E X a ∧ isE E b Y) then 1 else 0 := by rw [if_pos (Or.inr ⟨h1, h2⟩)]; decide
          by_cases h3 : E (6 * X + Y) = 0
          · rw [Option.bind_some, if_pos h3]; exact fin _ hv
          · rw [Option.bind_some, if_neg h3]; exact fin _ hv
        · rw [if_neg (fun z => h2 ((isE_b hb hY hba).mp z)), if_pos rfl]
          by_cases h3 : E (6 * X + Y) = 0
          · rw [if_pos h3]; exact fin _ (by rw [if_neg (fun z => z.elim (fun w => w h3) (fun w => h2 w.2))]; decide)
          · rw [if_neg h3]; exact fin _ (by rw [if_pos (Or.inl h3)]; decide)
      · rw [if_neg (fun z => h1 ((isE_a hX ha hba).mp z)), if_pos rfl, tl_n hp (by decide), tset_g, e3, Option.bind_some]
        by_cases h3 : E (6 * X + Y) = 0
        · rw [if_pos h3]; exact fin _ (by rw [if_neg (fun z => z.elim (fun w => w h3) (fun w => h1 w.1))]; decide)
        · rw [if_neg h3]; exact fin _ (by rw [if_pos (Or.inl h3)]; decide)
theorem ext_47 {E : Nat → Int32} {a b : Nat} (ha : a < 6) (hb : b < 6) (hba : ¬ isE E b a) (T : tT) : ∀ (m r X : Nat), X + r = 6 → r < m → jt_Mo_extend_L47 m (tset T 100 (exF E a b (6 * X))) (nI a) (nI b) (nI X) = some (tset T 100 (exF E a b 36), 1) := by
  intro m
  induction m with
  | zero => intro r X _ h; omega
  | succ m ih =>
    intro r X hr hm
    show jt_Mo_extend_B47 (jt_Mo_extend_L47 m) _ (nI a) (nI b) (nI X) = _
    unfold jt_Mo_extend_B47
    cases r with
    | zero =>
      cases (show X = 6 by omega)
      rw [if_pos (by decide)]
    | succ r =>
      have hX : X < 6 := by omega
      rw [if_neg (show ¬ (6 : Int32) ≤ nI X from nI_ge (a := X) (b := 6) hX (by omega))]
      refine ext_56 ha hb hX hba T ?_ lpK 6 0 rfl (by decide)
      show jt_Mo_extend_L47 m _ (nI a) (nI b) (nI X + 1) = _
      rw [nI_1]
      exact ih r (X + 1) (by omega) (by omega)
def Rk (kn E : Nat → Int32) : Prop := ∀ i j, i < 6 → j < 6 → (hs (kn i) j ↔ isE E i j)
theorem Rk_ext {kn E : Nat → Int32} {a b : Nat} (h : Rk kn E) (ha : a < 6) (hb : b < 6) (hba : ¬ isE E b a) : Rk (akF a b 6 0 kn) (exF E a b 36) := by
  intro i j hi hj
  have nb : ¬ hs (kn b) a := fun z => hba ((h b a hb ha).mp z)
  rw [akF_eq 6 0 kn nb]
  unfold isE
  rw [exF_ne]
  have e1 : (6 * i + j) / 6 = i := by omega
  have e2 : (6 * i + j) % 6 = j := by omega
  rw [e1, e2]
  by_cases hc : hs (kn i) a
  · rw [if_pos ⟨Nat.zero_le _, by omega, hc⟩, hs_or, h i j hi hj, h b j hb hj]
    have hc' := (h i a hi ha).mp hc
    constructor
    · rintro ((z | z) | z)
      · exact Or.inl z
      · exact Or.inr (Or.inl z)
      · exact Or.inr (Or.inr ⟨by omega, hc', z⟩)
    · rintro (z | z | z)
      · exact Or.inl (Or.inl z)
      · exact Or.inl (Or.inr z)
      · exact Or.inr z.2.2
  · rw [if_neg (fun z => hc z.2.2), h i j hi hj]
    have hc' : ¬ isE E i a := fun z => hc ((h i a hi ha).mpr z)
    constructor
    · rintro (z | z)
      · exact Or.inl z
      · exact Or.inr (Or.inl z)
    · rintro (z | z | z)
      · exact Or.inl z
      · exact Or.inr z
      · exact absurd z.2.1 hc'
theorem Rk_0 : Rk kn0 (fun _ => 0) := by
  have : ∀ i j : Fin 6, (hs (kn0 i.1) j.1 ↔ isE (fun _ => 0) i.1 j.1) := by decide +kernel
  exact fun i j hi hj => this ⟨i, hi⟩ ⟨j, hj⟩

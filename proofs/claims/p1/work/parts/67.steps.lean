/-! Steps of a function over states that stay names: goal first, each new state comes with what its components are. -/
section ST
variable {α β : Type} {G : Option α → Prop} {x : q_S} {c k a t : Nat}
def uF (x y : q_S) (c k a : Nat) (v : Value) : Prop := q_sz y = q_sz x ∧ q_sl y = q_sl x ∧ q_al y = q_al x ∧ q_ai y = q_ai x ∧ q_ar y = q_ar x ∧ q_en y = q_en x ∧ ∀ c' j b, q_fd y c' j b = if c' = c ∧ j = k ∧ b = a then v else q_fd x c' j b
def uI (x y : q_S) (t a n : Nat) (g : Nat → Int32) : Prop := q_sz y = q_sz x ∧ q_sl y = q_sl x ∧ q_al y = q_al x ∧ q_ar y = q_ar x ∧ q_en y = q_en x ∧ q_fd y = q_fd x ∧ ∀ u b, q_ai y u b = if u = t ∧ b = a then some (n, g) else q_ai x u b
def uN (x y : q_S) (c : Nat) (dv : List Value) : Prop := q_sz y = q_sz x + 1 ∧ q_sl y = q_sl x + dv.length ∧ q_ai y = q_ai x ∧ q_ar y = q_ar x ∧ q_en y = q_en x ∧ (∀ c' b, q_al y c' b = if c' = c ∧ b = q_sz x then true else q_al x c' b) ∧ ∀ c' j b, q_fd y c' j b = if c' = c ∧ b = q_sz x then dv.getD j .null else q_fd x c' j b
def uA (x y : q_S) (t n : Nat) : Prop := q_sz y = q_sz x + 1 ∧ q_sl y = q_sl x + n ∧ q_al y = q_al x ∧ q_ar y = q_ar x ∧ q_en y = q_en x ∧ q_fd y = q_fd x ∧ ∀ u b, q_ai y u b = if u = t ∧ b = q_sz x then some (n, fun _ => 0) else q_ai x u b
theorem uF_of (x : q_S) (c k a : Nat) (v : Value) : uF x (q_putF x c k a v) c k a v := ⟨rfl, rfl, rfl, rfl, rfl, rfl, fun _ _ _ => rfl⟩
theorem uI_of (x : q_S) (t a n : Nat) (g : Nat → Int32) : uI x (q_putI x t a n g) t a n g := ⟨rfl, rfl, rfl, rfl, rfl, rfl, fun _ _ => rfl⟩
theorem st_gI {f : Int32 → Option α} {v : Int32} (h1 : q_al x c a = true) (h2 : q_fd x c k a = .int v) (h : G (f v)) : G ((q_gI x (some a) c k).bind f) := by rw [y_gI h1 h2]; exact h
theorem st_gR {f : Option Nat → Option α} {r : Option Nat} (h1 : q_al x c a = true) (h2 : q_fd x c k a = va_rf r) (h : G (f r)) : G ((q_gR x (some a) c k).bind f) := by rw [y_gR h1 h2]; exact h
theorem st_av {f : Nat → Option α} (h1 : q_al x c a = true) (h : G (f a)) : G ((q_av x (some a) c).bind f) := by rw [y_av h1]; exact h
theorem st_ck {f : Unit → Option α} (h1 : q_al x c a = true) (h : G (f ())) : G ((q_ck x (some a) c).bind f) := by rw [y_ck h1]; exact h
theorem st_pI {f : q_S → Option α} {v : Int32} (h1 : q_al x c a = true) (h : ∀ y, uF x y c k a (.int v) → G (f y)) : G ((q_pI x (some a) c k v).bind f) := by rw [y_pI h1]; exact h _ (uF_of x c k a _)
theorem st_pR {f : q_S → Option α} {v : Option Nat} (h1 : q_al x c a = true) (h : ∀ y, uF x y c k a (va_rf v) → G (f y)) : G ((q_pR x (some a) c k v).bind f) := by rw [y_pR h1]; exact h _ (uF_of x c k a _)
theorem st_pZ {f : q_S → Option α} {v : Int32} (h1 : q_al x c a = true) (h2 : v = 0 ∨ v = 1) (h : ∀ y, uF x y c k a (.int v) → G (f y)) : G ((q_pZ x (some a) c k v).bind f) := by rw [y_pZ h1 h2]; exact h _ (uF_of x c k a _)
theorem st_nO {f : q_S → Option α} {dv : List Value} (h : ∀ y, uN x y c dv → G (f y)) : G ((q_nO x c dv).bind f) := h _ ⟨rfl, rfl, rfl, rfl, rfl, fun _ _ => rfl, fun _ _ _ => rfl⟩
theorem st_nI {f : q_S → Option α} {n : Nat} {v : Int32} (hv : v = nI n) (hn : n ≤ 100000) (h : ∀ y, uA x y t n → G (f y)) : G ((q_nI x t v).bind f) := by
  rw [hv, y_nI hn]; exact h _ ⟨rfl, rfl, rfl, rfl, rfl, rfl, fun _ _ => rfl⟩
theorem st_lI {f : Int32 → Option α} {n i : Nat} {g : Nat → Int32} {v : Int32} (hv : v = nI i) (h1 : q_ai x t a = some (n, g)) (hi : i < n) (hn : n < 2 ^ 31) (h : G (f (g i))) : G ((q_lI x t (some a) v).bind f) := by rw [hv, y_lI h1 hi hn]; exact h
theorem st_sI {f : q_S → Option α} {n i : Nat} {g : Nat → Int32} {v w : Int32} (hv : v = nI i) (h1 : q_ai x t a = some (n, g)) (hi : i < n) (hn : n < 2 ^ 31) (h : ∀ y, uI x y t a n (upd g i w) → G (f y)) : G ((q_sI x t (some a) v w).bind f) := by rw [hv, y_sI h1 hi hn]; exact h _ (uI_of x t a n _)
theorem st_len {f : Int32 → Option α} {n : Nat} {g : Nat → Int32} (h1 : q_ai x t a = some (n, g)) (h : G (f (nI n))) : G ((q_len x t (some a)).bind f) := by rw [y_len h1]; exact h
theorem st_eq {o : Option β} {f : β → Option α} {p : β} (e : o = some p) (h : G (f p)) : G (o.bind f) := by rw [e]; exact h
theorem st_t {P : Prop} {i : Decidable P} {u v : Option α} (hc : P) (h : G u) : G (@ite _ P i u v) := by rw [if_pos hc]; exact h
theorem st_f {P : Prop} {i : Decidable P} {u v : Option α} (hc : ¬ P) (h : G v) : G (@ite _ P i u v) := by rw [if_neg hc]; exact h
end ST
def kn0 (j : Nat) : Int32 := if j < 6 then (1 : Int32) <<< (nI j &&& 31) else 0
theorem uI_tr {x y z : q_S} {t a n : Nat} {f g : Nat → Int32} (h : uI x y t a n f) (h' : uI y z t a n g) : uI x z t a n g := by
  obtain ⟨a1, a2, a3, a4, a5, a6, a7⟩ := h
  obtain ⟨b1, b2, b3, b4, b5, b6, b7⟩ := h'
  refine ⟨b1.trans a1, b2.trans a2, b3.trans a3, b4.trans a4, b5.trans a5, b6.trans a6, fun u b => ?_⟩
  rw [b7, a7]
  by_cases hc : u = t ∧ b = a
  · rw [if_pos hc, if_pos hc]
  · rw [if_neg hc, if_neg hc, if_neg hc]
theorem Ca_loop {a k : Nat} : ∀ (m i : Nat) (x : q_S) (f : Nat → Int32), q_al x 1 a = true → q_fd x 1 0 a = .ref k → i < 6 → 6 - i < m → q_ai x 1 k = some (6, f) → (∀ j, j < i → f j = kn0 j) → (∀ j, 6 ≤ j → f j = 0) → ∃ y, jf_Ca_init_L25 m x a (nI i) = some (y, ()) ∧ uI x y 1 k 6 kn0 := by
  intro m
  induction m with
  | zero => intro i x f h1 h2 h; omega
  | succ m ih =>
    intro i x f h1 h2 hi hm hf hlo hhi
    show ∃ y, jf_Ca_init_B25 (jf_Ca_init_L25 m) x a (nI i) = some (y, ()) ∧ _
    unfold jf_Ca_init_B25
    rw [if_neg (show ¬ (6 : Int32) ≤ nI i from nI_ge (a := i) (b := 6) (by omega) (by omega))]
    have hlo' : ∀ j, j < i + 1 → upd f i ((1 : Int32) <<< (nI i &&& 31)) j = kn0 j := fun j hj => by
      unfold upd
      by_cases hji : j = i
      · rw [if_pos hji, hji]; unfold kn0; rw [if_pos (by omega)]
      · rw [if_neg hji]; exact hlo j (by omega)
    have hhi' : ∀ j, 6 ≤ j → upd f i ((1 : Int32) <<< (nI i &&& 31)) j = 0 := fun j hj => by
      unfold upd
      rw [if_neg (by omega)]; exact hhi j hj
    refine st_gR (G := fun o => ∃ y, o = some (y, ()) ∧ uI x y 1 k 6 kn0) h1 (r := some k) h2 ?_
    refine st_sI (G := fun o => ∃ y, o = some (y, ()) ∧ uI x y 1 k 6 kn0) rfl hf hi (by omega) (fun x1 u1 => ?_)
    rw [nI_1]
    have a1 : q_al x1 1 a = true := by rw [u1.2.2.1]; exact h1
    have a2 : q_fd x1 1 0 a = .ref k := by rw [u1.2.2.2.2.2.1]; exact h2
    have a3 : q_ai x1 1 k = some (6, upd f i ((1 : Int32) <<< (nI i &&& 31))) := by rw [u1.2.2.2.2.2.2, if_pos ⟨rfl, rfl⟩]
    by_cases h6 : i + 1 = 6
    · have hk : upd f i ((1 : Int32) <<< (nI i &&& 31)) = kn0 := by
        funext j
        by_cases hj : j < 6
        · exact hlo' j (by omega)
        · rw [hhi' j (by omega)]; unfold kn0; rw [if_neg hj]
      rw [hk] at u1
      cases m with
      | zero => omega
      | succ m =>
        show ∃ y, jf_Ca_init_B25 (jf_Ca_init_L25 m) x1 a (nI (i + 1)) = some (y, ()) ∧ _
        unfold jf_Ca_init_B25
        rw [if_pos (show (6 : Int32) ≤ nI (i + 1) by rw [h6]; decide)]
        exact ⟨x1, rfl, u1⟩
    · obtain ⟨y, e1, e2⟩ := ih (i + 1) x1 _ a1 a2 (by omega) (by omega) a3 hlo' hhi'
      exact ⟨y, e1, uI_tr u1 e2⟩

/-! The reference as functions of numbers alone: T = (its int fields by their places, its arrays by their tags). -/
abbrev tT : Type := (Nat → Int32) × (Nat → Nat → Int32)
def tf (T : tT) (k : Nat) : Int32 := T.1 k
def tl (T : tT) (t n : Nat) (i : Int32) : Option Int32 := if i < 0 ∨ n ≤ i.toNatClampNeg then none else some (T.2 t i.toNatClampNeg)
def tw (T : tT) (t n : Nat) (i v : Int32) : Option tT := if i < 0 ∨ n ≤ i.toNatClampNeg then none else some (T.1, fun u => if u = t then upd (T.2 t) i.toNatClampNeg v else T.2 u)
def tp (T : tT) (k : Nat) (v : Int32) : tT := ((fun j => if j = k then v else T.1 j), T.2)
def tpi (T : tT) (k : Nat) (v : Int32) : Option tT := some (tp T k v)
def tpz (T : tT) (k : Nat) (v : Int32) : Option tT := if v = 0 ∨ v = 1 then some (tp T k v) else none
/-- places of the int fields -/
def tik (k : Nat) : Bool := [0, 2, 11, 16, 21, 22, 23, 32, 37, 38].contains k
/-- an array: place of its field, tag, length -/
def tar : List (Nat × Nat × Nat) := [(1, 100, 36), (3, 10, 10), (4, 11, 10), (5, 12, 10), (6, 13, 10), (7, 14, 10), (8, 15, 30), (9, 16, 30), (10, 17, 30), (12, 18, 8), (13, 19, 8), (14, 20, 8), (15, 21, 8), (17, 22, 30), (18, 23, 30), (19, 101, 30), (20, 24, 30), (24, 25, 300), (25, 26, 300), (26, 102, 300), (27, 103, 300), (28, 27, 900), (29, 28, 300), (30, 29, 300), (31, 30, 300), (33, 31, 32), (34, 32, 32), (35, 33, 32), (36, 34, 96), (39, 35, 32)]
def tln (t : Nat) : Option (Nat × Nat) := (tar.find? (fun z => z.2.1 == t)).map (fun z => (z.1, z.2.2))
/-- the state x holds the reference, its numbers are T -/
def tM (x : q_S) (m : Nat) (ad : Nat → Nat) (T : tT) : Prop := q_al x 11 m = true ∧ (∀ k, tik k = true → q_fd x 11 k m = .int (T.1 k)) ∧ (∀ t k n : Nat, tln t = some (k, n) → q_fd x 11 k m = .ref (ad t) ∧ q_ai x t (ad t) = some (n, T.2 t))
/-- what the reference leaves alone -/
def tFr (x y : q_S) : Prop := q_sz y = q_sz x ∧ q_sl y = q_sl x ∧ q_ow y = q_ow x ∧ q_al y = q_al x ∧ q_ar y = q_ar x ∧ q_en y = q_en x ∧ (∀ c, c ≠ 11 → q_fd y c = q_fd x c) ∧ (∀ t, t < 10 → q_ai y t = q_ai x t) ∧ ∀ t b, q_ai x t b = none → q_ai y t b = none
theorem tFr.rf (x : q_S) : tFr x x := ⟨rfl, rfl, rfl, rfl, rfl, rfl, fun _ _ => rfl, fun _ _ => rfl, fun _ _ h => h⟩
theorem tFr.tr {x y z : q_S} (h : tFr x y) (g : tFr y z) : tFr x z := ⟨g.1.trans h.1, g.2.1.trans h.2.1, g.2.2.1.trans h.2.2.1, g.2.2.2.1.trans h.2.2.2.1, g.2.2.2.2.1.trans h.2.2.2.2.1, g.2.2.2.2.2.1.trans h.2.2.2.2.2.1, fun c hc => (g.2.2.2.2.2.2.1 c hc).trans (h.2.2.2.2.2.2.1 c hc), fun t ht => (g.2.2.2.2.2.2.2.1 t ht).trans (h.2.2.2.2.2.2.2.1 t ht), fun t b hb => g.2.2.2.2.2.2.2.2 t b (h.2.2.2.2.2.2.2.2 t b hb)⟩
def tS {α : Type} (m : Nat) (ad : Nat → Nat) (x : q_S) (p : tT × α) (o : Option (q_S × α)) : Prop := ∃ y, o = some (y, p.2) ∧ tM y m ad p.1 ∧ tFr x y
section TS
variable {α β : Type} {m : Nat} {ad : Nat → Nat} {x : q_S} {T : tT} {p : tT × α}
theorem s_gI {f : Int32 → Option (q_S × α)} (hM : tM x m ad T) (k : Nat) (hk : tik k = true) (h : tS m ad x p (f (tf T k))) : tS m ad x p ((q_gI x (some m) 11 k).bind f) := by
  have e : q_gI x (some m) 11 k = some (tf T k) := by
    unfold q_gI
    dsimp only
    rw [if_pos hM.1, hM.2.1 k hk]
    rfl
  rw [e]; exact h
theorem s_gR {f : Option Nat → Option (q_S × α)} (hM : tM x m ad T) (t k : Nat) {n : Nat} (hk : tln t = some (k, n)) (h : tS m ad x p (f (some (ad t)))) : tS m ad x p ((q_gR x (some m) 11 k).bind f) := by
  have e : q_gR x (some m) 11 k = some (some (ad t)) := by
    unfold q_gR
    dsimp only
    rw [if_pos hM.1, (hM.2.2 t k n hk).1]
  rw [e]; exact h
theorem s_lI {f : Int32 → Option (q_S × α)} (hM : tM x m ad T) (t : Nat) {k n : Nat} {i v : Int32} (hk : tln t = some (k, n)) (hv : tl T t n i = some v) (h : tS m ad x p (f v)) : tS m ad x p ((q_lI x t (some (ad t)) i).bind f) := by
  have e : q_lI x t (some (ad t)) i = some v := by
    rw [← hv]
    unfold q_lI tl
    dsimp only
    rw [(hM.2.2 t k n hk).2]
  rw [e]; exact h
theorem tln_k {t u k n k' n' : Nat} (h : tln t = some (k, n)) (h' : tln u = some (k', n')) (e : k = k') : t = u := by
  have key : ∀ z ∈ tar, ∀ w ∈ tar, z.1 = w.1 → z = w := by decide +kernel
  unfold tln at h h'
  obtain ⟨z, hz, ez⟩ := Option.map_eq_some_iff.mp h
  obtain ⟨w, hw, ew⟩ := Option.map_eq_some_iff.mp h'
  have z1 := List.mem_of_find?_eq_some hz
  have w1 := List.mem_of_find?_eq_some hw
  have z2 : z.2.1 = t := by simpa using List.find?_some hz
  have w2 : w.2.1 = u := by simpa using List.find?_some hw
  cases ez
  cases ew
  have := key z z1 w w1 e
  rw [← z2, ← w2, this]
theorem tln_10 {t k n : Nat} (h : tln t = some (k, n)) : 10 ≤ t ∧ tik k = false := by
  have key : ∀ z ∈ tar, 10 ≤ z.2.1 ∧ tik z.1 = false := by decide +kernel
  unfold tln at h
  obtain ⟨z, hz, ez⟩ := Option.map_eq_some_iff.mp h
  have z2 : z.2.1 = t := by simpa using List.find?_some hz
  cases ez
  rw [← z2]
  exact key z (List.mem_of_find?_eq_some hz)
theorem s_sI {f : q_S → Option (q_S × α)} {T1 : tT} (hM : tM x m ad T) (t : Nat) {k n : Nat} {i v : Int32} (hk : tln t = some (k, n)) (hv : tw T t n i v = some T1) (h : ∀ y, tM y m ad T1 → tS m ad y p (f y)) : tS m ad x p ((q_sI x t (some (ad t)) i v).bind f) := by
  unfold tw at hv
  rcases q_ite hv with ⟨-, hv⟩ | ⟨hc, hv⟩
  · cases hv
  · cases hv
    have e : q_sI x t (some (ad t)) i v = some (q_putI x t (ad t) n (upd (T.2 t) i.toNatClampNeg v)) := by
      unfold q_sI
      dsimp only
      rw [(hM.2.2 t k n hk).2]
      dsimp only
      rw [if_neg hc]
    rw [e]
    obtain ⟨y, h1, h2, h3⟩ := h (q_putI x t (ad t) n (upd (T.2 t) i.toNatClampNeg v)) ⟨hM.1, hM.2.1, fun u k' n' hu => ⟨(hM.2.2 u k' n' hu).1, by
      show (if u = t ∧ ad u = ad t then some (n, upd (T.2 t) i.toNatClampNeg v) else q_ai x u (ad u)) = some (n', if u = t then upd (T.2 t) i.toNatClampNeg v else T.2 u)
      by_cases hut : u = t
      · subst hut
        cases hk.symm.trans hu
        rw [if_pos ⟨rfl, rfl⟩, if_pos rfl]
      · rw [if_neg (fun z => hut z.1), if_neg hut]
        exact (hM.2.2 u k' n' hu).2⟩⟩
    have hfr : tFr x (q_putI x t (ad t) n (upd (T.2 t) i.toNatClampNeg v)) := by
      refine ⟨rfl, rfl, rfl, rfl, rfl, rfl, fun _ _ => rfl, fun u hu => ?_, fun u b hb => ?_⟩
      · funext b
        show (if u = t ∧ b = ad t then _ else q_ai x u b) = q_ai x u b
        rw [if_neg (fun z => by have := (tln_10 hk).1; omega)]
      · show (if u = t ∧ b = ad t then _ else q_ai x u b) = none
        rw [if_neg (fun z => by rw [z.1, z.2, (hM.2.2 t k n hk).2] at hb; cases hb)]
        exact hb
    exact ⟨y, h1, h2, hfr.tr h3⟩
theorem tM_put {k : Nat} {v : Int32} (hM : tM x m ad T) (hk : tik k = true) : tM (q_putF x 11 k m (.int v)) m ad (tp T k v) := by
  refine ⟨hM.1, fun j hj => ?_, fun t j n hj => ⟨?_, (hM.2.2 t j n hj).2⟩⟩
  · show (if (11 : Nat) = 11 ∧ j = k ∧ m = m then Value.int v else q_fd x 11 j m) = .int (if j = k then v else T.1 j)
    by_cases hjk : j = k
    · rw [if_pos ⟨rfl, hjk, rfl⟩, if_pos hjk]
    · rw [if_neg (fun z => hjk z.2.1), if_neg hjk]
      exact hM.2.1 j hj
  · show (if (11 : Nat) = 11 ∧ j = k ∧ m = m then Value.int v else q_fd x 11 j m) = _
    rw [if_neg (fun z => by have := (tln_10 hj).2; rw [z.2.1, hk] at this; cases this)]
    exact (hM.2.2 t j n hj).1
theorem tFr_put {k : Nat} {v : Value} : tFr x (q_putF x 11 k m v) := by
  refine ⟨rfl, rfl, rfl, rfl, rfl, rfl, fun c hc => ?_, fun _ _ => rfl, fun _ _ h => h⟩
  funext j b
  show (if c = 11 ∧ j = k ∧ b = m then v else q_fd x c j b) = q_fd x c j b
  rw [if_neg (fun z => hc z.1)]
theorem s_pI {f : q_S → Option (q_S × α)} {T1 : tT} (hM : tM x m ad T) (k : Nat) {v : Int32} (hk : tik k = true) (hv : tpi T k v = some T1) (h : ∀ y, tM y m ad T1 → tS m ad y p (f y)) : tS m ad x p ((q_pI x (some m) 11 k v).bind f) := by
  cases hv
  have e : q_pI x (some m) 11 k v = some (q_putF x 11 k m (.int v)) := by
    unfold q_pI
    dsimp only
    rw [if_pos hM.1]
  rw [e]
  obtain ⟨y, h1, h2, h3⟩ := h _ (tM_put hM hk)
  exact ⟨y, h1, h2, tFr_put.tr h3⟩
theorem s_pZ {f : q_S → Option (q_S × α)} {T1 : tT} (hM : tM x m ad T) (k : Nat) {v : Int32} (hk : tik k = true) (hv : tpz T k v = some T1) (h : ∀ y, tM y m ad T1 → tS m ad y p (f y)) : tS m ad x p ((q_pZ x (some m) 11 k v).bind f) := by
  unfold tpz at hv
  rcases q_ite hv with ⟨hc, hv⟩ | ⟨-, hv⟩
  · cases hv
    have e : q_pZ x (some m) 11 k v = some (q_putF x 11 k m (.int v)) := by
      unfold q_pZ
      dsimp only
      rw [if_pos ⟨hM.1, hc⟩]
    rw [e]
    obtain ⟨y, h1, h2, h3⟩ := h _ (tM_put hM hk)
    exact ⟨y, h1, h2, tFr_put.tr h3⟩
  · cases hv
theorem s_ift {c : Prop} {i : Decidable c} {a b : Option (q_S × α)} (hc : c) (h : tS m ad x p a) : tS m ad x p (@ite _ c i a b) := by rw [if_pos hc]; exact h
theorem s_iff {c : Prop} {i : Decidable c} {a b : Option (q_S × α)} (hc : ¬ c) (h : tS m ad x p b) : tS m ad x p (@ite _ c i a b) := by rw [if_neg hc]; exact h
theorem s_av {f : Nat → Option (q_S × α)} (hM : tM x m ad T) (h : tS m ad x p (f m)) : tS m ad x p ((q_av x (some m) 11).bind f) := by
  have e : q_av x (some m) 11 = some m := by
    unfold q_av
    dsimp only
    rw [if_pos hM.1]
  rw [e]; exact h
theorem s_call {o : Option (q_S × β)} {q : tT × β} {f : q_S × β → Option (q_S × α)} (hc : tS m ad x q o) (h : ∀ y, tM y m ad q.1 → tS m ad y p (f (y, q.2))) : tS m ad x p (o.bind f) := by
  obtain ⟨y, e, h1, h2⟩ := hc
  rw [e]
  obtain ⟨z, g1, g2, g3⟩ := h y h1
  exact ⟨z, g1, g2, h2.tr g3⟩
theorem s_ret {T : tT} {v : α} (hM : tM x m ad T) : tS m ad x (T, v) (some (x, v)) := ⟨x, rfl, hM, tFr.rf x⟩
end TS

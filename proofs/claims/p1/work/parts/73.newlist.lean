/-! A new list. -/
def nL (x y : q_S) : Prop := q_sz y = q_sz x + 1 ∧ q_sl x ≤ q_sl y ∧ q_sl y ≤ q_sl x + 3 ∧ (∀ c b, q_al y c b = if c = 2 ∧ b = q_sz x then true else q_al x c b) ∧ q_ai y = q_ai x ∧ q_ar y = q_ar x ∧ q_en y = q_en x ∧ (∀ c, c ≠ 2 → q_fd y c = q_fd x c) ∧ wf y
theorem jL_lt {x : q_S} {L : Nat → Option (List Nat)} {a : Nat} {xs : List Nat} (hJ : jL x L) (hw : wf x) (h : L a = some xs) : a < q_sz x := by
  refine Nat.lt_of_not_le (fun z => ?_)
  have := (hJ.1 a xs h).1.1
  rw [hw.2.2.2 2 a z] at this
  cases this
theorem cFr_nL {x y : q_S} (u : nL x y) : cFr x y := by
  obtain ⟨u1, u2, u2', u3, u4, u5, u6, u7, -⟩ := u
  refine ⟨?_, u7 11 (by decide), fun t _ => by rw [u4], u6, by omega, u2⟩
  funext b; rw [u3, if_neg (fun z => by cases z.1)]
set_option maxHeartbeats 1000000 in
theorem st_newL {α : Type} {G : Option α → Prop} {x : q_S} {L : Nat → Option (List Nat)} {f : q_S × Unit → Option α} (hJ : jL x L) (hw : wf x) (h : ∀ y, jL y (fun b => if b = q_sz x then some [] else L b) → nL x y → G (f (y, ()))) : G ((q_nO x 2 jdv_2).bind fun x1 => (jf_AL_init x1 (q_sz x)).bind f) := by
  refine st_nO (fun x1 u => ?_)
  have w1 := wf_uN hw u
  obtain ⟨a, ha⟩ : ∃ a, a = q_sz x := ⟨_, rfl⟩
  obtain ⟨u1, u2, u3, u4, u5, u6, u7⟩ := u
  have al1 : q_al x1 2 a = true := by rw [u6, if_pos ⟨rfl, ha⟩]
  rw [← ha] at h ⊢
  simp only [jf_AL_init, jf_AbL_init, jf_AbC_init, Option.bind_assoc, Option.bind_some]
  refine st_pI al1 (fun x2 v => ?_)
  have w2 := wf_uF w1 v
  obtain ⟨v1, v2, v3, v4, v5, v6, v7⟩ := v
  have al2 : q_al x2 2 a = true := by rw [v3]; exact al1
  refine st_pR al2 (fun y w => ?_)
  have w3 := wf_uF w2 w
  obtain ⟨y1, y2, y3, y4, y5, y6, y7⟩ := w
  have hen : q_en y = q_en x := by rw [y6, v6, u5]
  have hz0 : q_z0 y = q_z0 x := q_z0_en hen
  have hz2 : q_z0 x2 = q_z0 x := q_z0_en (by rw [v6, u5])
  have hal : ∀ c b, q_al y c b = if c = 2 ∧ b = q_sz x then true else q_al x c b := fun c b => by rw [y3, v3, u6]
  have hfd : ∀ c j b, ¬ (c = 2 ∧ b = a) → q_fd y c j b = q_fd x c j b := fun c j b hb => by
    rw [y7, if_neg (fun z => hb ⟨z.1, z.2.2⟩), v7, if_neg (fun z => hb ⟨z.1, z.2.2⟩), u7, if_neg (fun z => hb ⟨z.1, by rw [ha]; exact z.2⟩)]
  have har : q_ar y = q_ar x := by rw [y5, v5, u4]
  have l0 : lI y a [] := by
    refine lI_0 (by rw [hal, if_pos ⟨rfl, ha⟩]) ?_ ?_ ?_
    · rw [y7, if_neg (fun z => by cases z.2.1), v7, if_pos ⟨rfl, rfl, rfl⟩]
    · rw [y7, if_pos ⟨rfl, rfl, rfl⟩, hz2, hz0]; rfl
    · rw [y7, if_neg (fun z => by cases z.2.1), v7, if_neg (fun z => by cases z.2.1), u7, if_pos ⟨rfl, ha⟩]; rfl
  have old : jL y L := by
    refine hJ.fr (fun c b hb => ?_) (fun b xs hb j => ?_) (fun b xs e hb he => by rw [har]) hen
    · rw [hal]; split
      · rfl
      · exact hb
    · exact hfd 2 j b (fun z => by have := jL_lt hJ hw hb; omega)
  refine h y ⟨fun b xs hb => ?_, fun b c xs ys e hb hc gb gc ge => ?_⟩ ⟨by omega, by rw [y2, v2, u2]; exact Nat.le_add_right _ _, by rw [y2, v2, u2]; exact Nat.le_refl _, fun c b => by rw [hal], by rw [y4, v4, u3], har, hen, fun c hc => by funext j b; exact hfd c j b (fun z => hc z.1), w3⟩
  · have hb : (if b = a then some [] else L b) = some xs := hb
    by_cases hba : b = a
    · rw [if_pos hba] at hb
      cases hb
      exact ⟨by rw [hba]; exact l0, (fun v hv => by cases hv), (by decide)⟩
    · rw [if_neg hba] at hb
      exact old.1 b xs hb
  · have key : ∀ b' xs', (if b' = a then some [] else L b') = some xs' → q_fd y 2 1 b' = .ref e → b' ≠ a := fun b' xs' _ g z => by
      rw [z] at g
      obtain ⟨-, -, -, e', g2, g3⟩ := l0
      cases g2.symm.trans g
      rcases g3 with g3 | ⟨cap, f, q1, q2⟩
      · exact ge g3.1
      · rw [y7, if_pos ⟨rfl, rfl, rfl⟩] at g
        have : q_z0 x2 = e := by
          have g' : (Value.ref (q_z0 x2)) = .ref e := g
          cases g'; rfl
        exact ge (by rw [← this, hz2, hz0])
    have nb := key b xs hb gb
    have nc := key c ys hc gc
    have hb : (if b = a then some [] else L b) = some xs := hb
    have hc : (if c = a then some [] else L c) = some ys := hc
    rw [if_neg nb] at hb
    rw [if_neg nc] at hc
    exact old.2 b c xs ys e hb hc gb gc ge
/-- lists stay as they are where no list's field and no reference array is touched -/
theorem jL_cls {x y : q_S} {L : Nat → Option (List Nat)} (hJ : jL x L) (h1 : ∀ c b, q_al x c b = true → q_al y c b = true) (h2 : q_fd y 2 = q_fd x 2) (h3 : q_ar y = q_ar x) (h4 : q_en y = q_en x) : jL y L :=
  hJ.fr h1 (fun _ _ _ j => by rw [h2]) (fun _ _ _ _ _ => by rw [h3]) h4
theorem jL_uF {x y : q_S} {L : Nat → Option (List Nat)} {c k a : Nat} {v : Value} (hJ : jL x L) (u : uF x y c k a v) (hc : c ≠ 2) : jL y L := by
  obtain ⟨u1, u2, u3, u4, u5, u6, u7⟩ := u
  refine jL_cls hJ (fun c b h => by rw [u3]; exact h) ?_ u5 u6
  funext j b; rw [u7, if_neg (fun z => hc z.1.symm)]
theorem jL_uI {x y : q_S} {L : Nat → Option (List Nat)} {t a n : Nat} {g : Nat → Int32} (hJ : jL x L) (u : uI x y t a n g) : jL y L := by
  obtain ⟨u1, u2, u3, u4, u5, u6, u7⟩ := u
  exact jL_cls hJ (fun c b h => by rw [u3]; exact h) (by rw [u6]) u4 u5
theorem jL_uN {x y : q_S} {L : Nat → Option (List Nat)} {c : Nat} {dv : List Value} (hJ : jL x L) (u : uN x y c dv) (hc : c ≠ 2) : jL y L := by
  obtain ⟨u1, u2, u3, u4, u5, u6, u7⟩ := u
  refine jL_cls hJ (fun c b h => ?_) ?_ u4 u5
  · rw [u6]; split
    · rfl
    · exact h
  · funext j b; rw [u7, if_neg (fun z => hc z.1.symm)]
theorem uN_al {x y : q_S} {c : Nat} {dv : List Value} (u : uN x y c dv) {d b : Nat} (h : q_al x d b = true) : q_al y d b = true := by
  rw [u.2.2.2.2.2.1]; split
  · rfl
  · exact h
theorem nL_al {x y : q_S} (u : nL x y) {d b : Nat} (h : q_al x d b = true) : q_al y d b = true := by
  rw [u.2.2.2.1]; split
  · rfl
  · exact h
theorem q_ok_c {x : q_S} {c b : Nat} (h : q_al x c b = true) (hc : c ∈ q_AL) : q_ok x (some b) = true := by
  unfold q_ok
  exact List.any_eq_true.mpr ⟨c, hc, h⟩

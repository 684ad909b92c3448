/-! A new context. -/
def tCx (T : tT) (c κ : Nat) (po : Option Nat) : tT := tset (tset (tp T 16 (nI (c + 1))) 22 (upd (T.2 22) c (nI κ))) 23 (upd (T.2 23) c (oI po))
section NC
variable {x y : q_S} {A : Nat → Nat} {T : tT} {E : Nat} {ab : Nat → Nat → Nat} {L L' : Nat → Option (List Nat)} {O : List Nat} {v sg : Nat → Nat → Int32} {rp : Nat → Nat}
theorem fill_L {a n : Nat} {w : Int32} : ∀ (m r i : Nat) (x : q_S) (f : Nat → Int32), i + r = n → r < m → n ≤ 1000 → q_ai x 2 a = some (n, f) → ∃ y g, jf_Arr_fill_L5 m x (some a) w (nI i) (nI n) = some (y, ()) ∧ uI x y 2 a n g ∧ ∀ j, j < n → g j = if i ≤ j then w else f j := by
  intro m
  induction m with
  | zero => intro r i x f _ h; omega
  | succ m ih =>
    intro r i x f hir hm hn hf
    show ∃ y g, jf_Arr_fill_B5 (jf_Arr_fill_L5 m) x (some a) w (nI i) (nI n) = some (y, ()) ∧ _
    unfold jf_Arr_fill_B5
    cases r with
    | zero =>
      rw [if_pos (nI_le (by omega) (by omega))]
      refine ⟨x, f, rfl, ⟨rfl, rfl, rfl, rfl, rfl, rfl, fun u b => ?_⟩, fun j hj => by rw [if_neg (by omega)]⟩
      by_cases h : u = 2 ∧ b = a
      · rw [if_pos h, h.1, h.2]; exact hf
      · rw [if_neg h]
    | succ r =>
      rw [if_neg (nI_ge (a := i) (by omega) (by omega)), y_sI hf (by omega) (by omega), Option.bind_some, nI_1]
      have u := uI_of x 2 a n (upd f i w)
      generalize q_putI x 2 a n (upd f i w) = x1 at u ⊢
      obtain ⟨y, g, e1, e2, e3⟩ := ih r (i + 1) x1 (upd f i w) (by omega) (by omega) hn (by rw [u.2.2.2.2.2.2, if_pos ⟨rfl, rfl⟩])
      refine ⟨y, g, e1, uI_tr u e2, fun j hj => ?_⟩
      rw [e3 j hj]
      by_cases h1 : i + 1 ≤ j
      · rw [if_pos h1, if_pos (by omega)]
      · rw [if_neg h1]
        by_cases h2 : j = i
        · rw [h2, upd_s, if_pos (Nat.le_refl _)]
        · rw [upd_n h2, if_neg (by omega)]
set_option maxHeartbeats 1000000 in
theorem ci_eq {a ke : Nat} {nu : Int32} {pa : Option Nat} (hal : q_al x 9 a = true) (J : jL x L) (W : wf x) : ∃ y g, jf_Co_init x a nu (some ke) pa = some (y, ()) ∧ jL y L ∧ wf y ∧ cFr x y ∧ (∀ c b, ¬ (c = 9 ∧ b = a) → un x y c b) ∧ q_al y = q_al x ∧ (∀ t b, q_ai x t b ≠ none → q_ai y t b = q_ai x t b) ∧ q_sz y = q_sz x + 1 ∧ q_sl y = q_sl x + 10 ∧ q_fd y 9 0 a = .int nu ∧ q_fd y 9 1 a = .ref ke ∧ q_fd y 9 2 a = va_rf pa ∧ q_fd y 9 3 a = .ref (q_sz x) ∧ (∀ j, 4 ≤ j → q_fd y 9 j a = q_fd x 9 j a) ∧ q_ai y 2 (q_sz x) = some (10, g) ∧ ∀ j, j < 10 → g j = -1 := by
  unfold jf_Co_init
  have hnI : ∃ x1, q_nI x 2 10 = some x1 ∧ uA x x1 2 10 := ⟨_, y_nI (n := 10) (by decide), ⟨rfl, rfl, rfl, rfl, rfl, rfl, fun _ _ => rfl⟩⟩
  obtain ⟨x1, e1, u1⟩ := hnI
  have a1 : q_al x1 9 a = true := by rw [u1.2.2.1]; exact hal
  rw [e1, Option.bind_some, y_pR a1, Option.bind_some]
  have u2 := uF_of x1 9 3 a (va_rf (some (q_sz x)))
  generalize q_putF x1 9 3 a (va_rf (some (q_sz x))) = x2 at u2 ⊢
  have a2 : q_al x2 9 a = true := by rw [u2.2.2.1]; exact a1
  rw [y_pI a2, Option.bind_some]
  have u3 := uF_of x2 9 0 a (.int nu)
  generalize q_putF x2 9 0 a (.int nu) = x3 at u3 ⊢
  have a3 : q_al x3 9 a = true := by rw [u3.2.2.1]; exact a2
  rw [y_pR a3, Option.bind_some]
  have u4 := uF_of x3 9 1 a (va_rf (some ke))
  generalize q_putF x3 9 1 a (va_rf (some ke)) = x4 at u4 ⊢
  have a4 : q_al x4 9 a = true := by rw [u4.2.2.1]; exact a3
  rw [y_pR a4, Option.bind_some]
  have u5 := uF_of x4 9 2 a (va_rf pa)
  generalize q_putF x4 9 2 a (va_rf pa) = x5 at u5 ⊢
  have a5 : q_al x5 9 a = true := by rw [u5.2.2.1]; exact a4
  have ne : ∀ (i j : Nat), i ≠ j → ¬ ((9 : Nat) = 9 ∧ i = j ∧ a = a) := fun i j h z => h z.2.1
  have f3 : q_fd x5 9 3 a = .ref (q_sz x) := by
    rw [u5.2.2.2.2.2.2, if_neg (ne _ _ (by decide)), u4.2.2.2.2.2.2, if_neg (ne _ _ (by decide)), u3.2.2.2.2.2.2, if_neg (ne _ _ (by decide)), u2.2.2.2.2.2.2, if_pos ⟨rfl, rfl, rfl⟩]; rfl
  have ai5 : q_ai x5 = q_ai x1 := by rw [u5.2.2.2.1, u4.2.2.2.1, u3.2.2.2.1, u2.2.2.2.1]
  have ar5 : q_ai x5 2 (q_sz x) = some (10, fun _ => 0) := by rw [ai5, u1.2.2.2.2.2.2, if_pos ⟨rfl, rfl⟩]
  rw [y_gRs a5 f3, Option.bind_some]
  obtain ⟨y, g, q1, q2, q3⟩ := fill_L (w := -1) lpK 10 0 x5 (fun _ => 0) (Nat.zero_add _) (by decide) (by decide) ar5
  unfold jf_Arr_fill
  rw [y_len ar5, Option.bind_some, show jf_Arr_fill_L5 lpK x5 (some (q_sz x)) (-1) 0 (nI 10) = some (y, ()) from q1, Option.bind_some]
  have fdy : q_fd y = q_fd x5 := q2.2.2.2.2.2.1
  have W1 := wf_uA W u1
  have J1 : jL x1 L := jL.fr J (fun c b h => by rw [u1.2.2.1]; exact h) (fun a xs _ j => by rw [u1.2.2.2.2.2.1]) (fun a xs e _ _ => by rw [u1.2.2.2.1]) u1.2.2.2.2.1
  have F1 : cFr x x1 := ⟨by rw [u1.2.2.1], by rw [u1.2.2.2.2.2.1], fun t ht => by funext b; rw [u1.2.2.2.2.2.2, if_neg (fun z => by omega)], u1.2.2.2.2.1, by rw [u1.1]; omega, by rw [u1.2.1]; omega⟩
  refine ⟨y, g, rfl, jL_uI (jL_uF (jL_uF (jL_uF (jL_uF J1 u2 (by decide)) u3 (by decide)) u4 (by decide)) u5 (by decide)) q2, wf_uI (wf_uF (wf_uF (wf_uF (wf_uF W1 u2) u3) u4) u5) q2 (by rw [ar5]; exact fun h => nomatch h), ((F1.tr ((cFr_uF u2 (by decide)).tr (cFr_uF u3 (by decide)))).tr ((cFr_uF u4 (by decide)).tr (cFr_uF u5 (by decide)))).tr (cFr_uI q2 (by decide)), fun c b hn => ((un_uA u1).tr ((un_uF u2 hn).tr (un_uF u3 hn))).tr (((un_uF u4 hn).tr (un_uF u5 hn)).tr (un_uI q2)), by rw [q2.2.2.1, u5.2.2.1, u4.2.2.1, u3.2.2.1, u2.2.2.1, u1.2.2.1], fun t b hn => ?_, by rw [q2.1, u5.1, u4.1, u3.1, u2.1, u1.1], by rw [q2.2.1, u5.2.1, u4.2.1, u3.2.1, u2.2.1, u1.2.1], ?_, ?_, ?_, by rw [fdy]; exact f3, fun j hj => ?_, by rw [q2.2.2.2.2.2.2, if_pos ⟨rfl, rfl⟩], fun j hj => by rw [q3 j hj, if_pos (Nat.zero_le j)]⟩
  · have : b < q_sz x := Nat.lt_of_not_le (fun z => hn (W.2.2.1 t b z).1)
    rw [q2.2.2.2.2.2.2, if_neg (fun z => by omega), ai5, u1.2.2.2.2.2.2, if_neg (fun z => by omega)]
  · rw [fdy, u5.2.2.2.2.2.2, if_neg (ne _ _ (by decide)), u4.2.2.2.2.2.2, if_neg (ne _ _ (by decide)), u3.2.2.2.2.2.2, if_pos ⟨rfl, rfl, rfl⟩]
  · rw [fdy, u5.2.2.2.2.2.2, if_neg (ne _ _ (by decide)), u4.2.2.2.2.2.2, if_pos ⟨rfl, rfl, rfl⟩]; rfl
  · rw [fdy, u5.2.2.2.2.2.2, if_pos ⟨rfl, rfl, rfl⟩]
  · rw [fdy, u5.2.2.2.2.2.2, if_neg (ne _ _ (by omega)), u4.2.2.2.2.2.2, if_neg (ne _ _ (by omega)), u3.2.2.2.2.2.2, if_neg (ne _ _ (by omega)), u2.2.2.2.2.2.2, if_neg (ne _ _ (by omega)), u1.2.2.2.2.2.1]
def sgN (sg : Nat → Nat → Int32) (c : Nat) (g : Nat → Int32) : Nat → Nat → Int32 := fun c' d => if c' = c then g d else sg c' d
def vN (v : Nat → Nat → Int32) (c : Nat) : Nat → Nat → Int32 := upv (upv v 0 c 0) 1 c 0
set_option maxHeartbeats 4000000 in
theorem hI_cx {c κ a s : Nat} {po : Option Nat} {g : Nat → Int32} (hh : hI x A ab L O v sg rp T) (hp : pI T E O v sg rp) (hc : c = tN T 16) (hc30 : c < 30) (hκ : κ < tN T 11) (hpo : ∀ u, po = some u → u < c) (h0 : T.2 101 c = 0) (ha : q_sz x ≤ a) (hs : q_sz x ≤ s) (hJ' : jL y L') (hw' : wf y) (h10 : L' (A 10) = some (ls c (ab 9) ++ [a])) (hne : ∀ q, q ≠ A 10 → L' q = L q) (U : ∀ c' a', c' ≠ 2 → q_al x c' a' = true → un x y c' a') (hai : ∀ t b, q_ai x t b ≠ none → q_ai y t b = q_ai x t b) (ho : oC y a (nI c) (ab 8 κ) (po.map (ab 9)) s 0 0 0) (hsg : q_ai y 2 s = some (10, g)) : hI y A (adb (adb ab 9 c a) 12 c s) L' O (vN v c) (sgN sg c g) rp (tCx T c κ po) := by
  have hO : ∀ w, w ∈ O → w < c := fun w hw => by have := ((hp.2.2.2.2.2.2.1 w).mp hw).1; omega
  have h8 := hp.1.2.1.2
  have hx := hp.2.2.2.2.1
  have he := hp.2.2.2.2.2.1
  have hh0 := hh
  obtain ⟨⟨kn, hS, hR⟩, ⟨hJ, hw, l2, l7, l9, l10, l11, ln, li⟩, hDD, hKK, hCC, hBB⟩ := hh
  have e16 : tN (tCx T c κ po) 16 = c + 1 := nI_clamp (n := c + 1) (by omega)
  have i9 : ∀ c', c' ≠ c → adb (adb ab 9 c a) 12 c s 9 c' = ab 9 c' := fun c' h => by rw [adb_n (fun z => by cases z.1), adb_n (fun z => h z.2)]
  have b9 : adb (adb ab 9 c a) 12 c s 9 c = a := by rw [adb_n (fun z => by cases z.1), adb_s]
  have i12 : ∀ c', c' ≠ c → adb (adb ab 9 c a) 12 c s 12 c' = ab 12 c' := fun c' h => by rw [adb_n (fun z => h z.2), adb_n (fun z => by cases z.1)]
  have b12 : adb (adb ab 9 c a) 12 c s 12 c = s := adb_s
  have s10 : ls (c + 1) (adb (adb ab 9 c a) 12 c s 9) = ls c (ab 9) ++ [a] := by
    rw [ls_s, b9]
    congr 1
    exact ls_c (fun i hi => i9 i (by omega))
  have o11 : O.map (adb (adb ab 9 c a) 12 c s 9) = O.map (ab 9) := List.map_congr_left (fun w hw => i9 w (by have := hO w hw; omega))
  have pm : ∀ o : Option Nat, (∀ u, o = some u → u < c) → o.map (adb (adb ab 9 c a) 12 c s 9) = o.map (ab 9) := fun o h => by
    cases o with
    | none => rfl
    | some u => exact congrArg some (i9 u (by have := h u rfl; omega))
  have ne : ∀ i, i < 5 + tN T 2 → i ≠ 3 → la A ab i ≠ A 10 := fun i hi h4 z => h4 (li i 3 hi (by omega) z)
  have l9c : ∀ c', c' < c → ab 9 c' < q_sz x := fun c' h => al_lt hw (hCC.1 c' (by omega)).1.1
  have l12c : ∀ c', c' < c → ab 12 c' < q_sz x := fun c' h => Nat.lt_of_not_le (fun z => by
    have := (hCC.1 c' (by omega)).2
    rw [(hw.2.2.1 2 _ z).1] at this; cases this)
  refine ⟨⟨kn, hS.fu (U _ _ (by decide) hS.1.1) (U _ _ (by decide) hS.2.1.1) (U _ _ (by decide) hS.2.2.1.1) (U _ _ (by decide) hS.2.2.2.1.1) (U _ _ (by decide) hS.2.2.2.2.1.1) (hai _ _ (by rw [hS.2.2.2.2.2.1]; exact fun h => nomatch h)) (hai _ _ (by rw [hS.2.2.2.2.2.2]; exact fun h => nomatch h)), hR⟩, ⟨hJ', hw', (hne _ (ne 0 (by omega) (by decide))).trans l2, (hne _ (ne 1 (by omega) (by decide))).trans l7, (hne _ (ne 2 (by omega) (by decide))).trans l9, by rw [e16, s10]; exact h10, by rw [o11]; exact (hne _ (ne 4 (by omega) (by decide))).trans l11, fun i hi => (hne _ ?_).trans (ln i hi), li⟩, fun i hi => ⟨(hDD i hi).1.fr (U 6 _ (by decide) (hDD i hi).1.1), fun k hk => ((hDD i hi).2 k hk).fr (U 7 _ (by decide) ((hDD i hi).2 k hk).1)⟩, ⟨fun j hj => (hKK.1 j hj).fr (U 8 _ (by decide) (hKK.1 j hj).1), hKK.2⟩, ⟨fun c' hc' => ?_, fun c1 c2 h1 h2 => ⟨fun h => ?_, fun h => ?_⟩⟩, ⟨fun b hb => ⟨?_, ?_⟩, hBB.2⟩⟩
  · have := ne (5 + i) (by have : i < tN T 2 := hi; omega) (by omega)
    rw [la_5] at this
    exact this
  · rw [e16] at hc'
    by_cases e : c' = c
    · subst e
      have t22 : tV (tCx T c' κ po) 22 c' = κ := by
        show (upd (T.2 22) c' (nI κ) c').toNatClampNeg = κ
        rw [upd_s, nI_clamp (by omega)]
      have t23 : tO (tCx T c' κ po) 23 c' = po := tO_of (show upd (T.2 23) c' (oI po) c' = oI po from upd_s) (fun n hn => by have := hpo n hn; omega)
      rw [t22, t23, b9, b12, pm po hpo]
      refine ⟨?_, ?_⟩
      · show oC y a (nI c') (ab 8 κ) (po.map (ab 9)) s (vN v c' 0 c') (T.2 101 c') (vN v c' 1 c')
        rw [h0, show vN v c' 0 c' = 0 from by unfold vN; rw [upv_n (fun z => by cases z.1), upv_s], show vN v c' 1 c' = 0 from by unfold vN; rw [upv_s]]
        exact ho
      · rw [hsg]
        refine congrArg some (Prod.ext rfl ?_)
        funext d
        exact (if_pos rfl).symm
    · obtain ⟨o, q⟩ := hCC.1 c' (by omega)
      have t22 : tV (tCx T c κ po) 22 c' = tV T 22 c' := by
        show (upd (T.2 22) c (nI κ) c').toNatClampNeg = _
        rw [upd_n e]
      have t23 : tO (tCx T c κ po) 23 c' = tO T 23 c' := by
        show (if upd (T.2 23) c (oI po) c' < 0 then none else some (upd (T.2 23) c (oI po) c').toNatClampNeg) = _
        rw [upd_n e]; rfl
      rw [t22, t23, i9 c' e, i12 c' e, pm _ (fun u hu => by have := ((hx.1 c' (by omega)).2.1.2 u hu).1; omega)]
      refine ⟨?_, ?_⟩
      · show oC y (ab 9 c') (nI c') (ab 8 (tV T 22 c')) ((tO T 23 c').map (ab 9)) (ab 12 c') (vN v c 0 c') (T.2 101 c') (vN v c 1 c')
        rw [show vN v c 0 c' = v 0 c' from by unfold vN; rw [upv_n (fun z => by cases z.1), upv_n (fun z => e z.2)], show vN v c 1 c' = v 1 c' from by unfold vN; rw [upv_n (fun z => e z.2), upv_n (fun z => by cases z.1)]]
        exact o.fr (U 9 _ (by decide) o.1)
      · rw [hai _ _ (by rw [q]; exact fun h => nomatch h), q]
        refine congrArg some (Prod.ext rfl ?_)
        funext d
        exact (if_neg e).symm
  · rw [e16] at h1 h2
    by_cases e1 : c1 = c
    · by_cases e2 : c2 = c
      · rw [e1, e2]
      · rw [e1, b9, i9 c2 e2] at h
        have := l9c c2 (by omega); omega
    · by_cases e2 : c2 = c
      · rw [e2, b9, i9 c1 e1] at h
        have := l9c c1 (by omega); omega
      · rw [i9 c1 e1, i9 c2 e2] at h
        exact (hCC.2 c1 c2 (by omega) (by omega)).1 h
  · rw [e16] at h1 h2
    by_cases e1 : c1 = c
    · by_cases e2 : c2 = c
      · rw [e1, e2]
      · rw [e1, b12, i12 c2 e2] at h
        have := l12c c2 (by omega); omega
    · by_cases e2 : c2 = c
      · rw [e2, b12, i12 c1 e1] at h
        have := l12c c1 (by omega); omega
      · rw [i12 c1 e1, i12 c2 e2] at h
        exact (hCC.2 c1 c2 (by omega) (by omega)).2 h
  · have hb : b < tN T 23 := hb
    have o := (hBB.1 b hb).1
    have hm := (he.1 b hb).1.2
    show oB y (ab 10 b) (T.2 26 b) (adb (adb ab 9 c a) 12 c s 9 (tV T 25 b)) (T.2 102 b) (ab 13 b) (T.2 28 b) (T.2 29 b) (T.2 30 b)
    rw [i9 _ (by omega)]
    exact o.fr (U 10 _ (by decide) o.1)
  · have hb : b < tN T 23 := hb
    obtain ⟨w, w1, w2⟩ := (hBB.1 b hb).2
    exact ⟨w, by rw [show adb (adb ab 9 c a) 12 c s 13 b = ab 13 b from rfl, hai _ _ (by rw [w1]; exact fun h => nomatch h)]; exact w1, w2⟩
set_option maxHeartbeats 4000000 in
theorem pI_cx' {c κ : Nat} {po : Option Nat} {g f22 f23 : Nat → Int32} {w16 : Int32} (w16E : w16 = nI (c + 1)) (f22E : f22 = upd (T.2 22) c (nI κ)) (f23E : f23 = upd (T.2 23) c (oI po)) (hp : pI T E O v sg rp) (hc : c = tN T 16) (hc30 : c < 30) (hκ : κ < tN T 11) (hrκ : rp κ = κ) (hpo : ∀ u, po = some u → u < c) (hpk : po.map (tV T 22) = (tO T 20 κ).map rp) (hg : ∀ j, j < 10 → g j = -1) : pI (tset (tset (tp T 16 w16) 22 f22) 23 f23) E O (vN v c) (sgN sg c g) rp := by
  have e16 : tN (tset (tset (tp T 16 w16) 22 f22) 23 f23) 16 = c + 1 := by
    show w16.toNatClampNeg = c + 1
    rw [w16E]; exact nI_clamp (by omega)
  have h8 := hp.1.2.1.2
  have h10 := hp.1.1.2
  obtain ⟨⟨h1, h2, h3, h4⟩, hD, hk, hB, ⟨hx1, hx2⟩, ⟨he1, he2, he3⟩, ⟨hr1, hr2, hr3, hr4⟩⟩ := hp
  obtain ⟨z101, z24⟩ := hx2 c (by omega)
  have t22 : tV (tset (tset (tp T 16 w16) 22 f22) 23 f23) 22 c = κ := by
    show (f22 c).toNatClampNeg = κ
    rw [f22E, upd_s, nI_clamp (by omega)]
  have u22 : ∀ c', c' ≠ c → tV (tset (tset (tp T 16 w16) 22 f22) 23 f23) 22 c' = tV T 22 c' := fun c' e => by
    show (f22 c').toNatClampNeg = _
    rw [f22E, upd_n e]
  have t23 : tO (tset (tset (tp T 16 w16) 22 f22) 23 f23) 23 c = po := tO_of (show f23 c = oI po from by rw [f23E, upd_s]) (fun n hn => by have := hpo n hn; omega)
  have u23 : ∀ c', c' ≠ c → tO (tset (tset (tp T 16 w16) 22 f22) 23 f23) 23 c' = tO T 23 c' := fun c' e => by
    show (if f23 c' < 0 then none else some (f23 c').toNatClampNeg) = _
    rw [f23E, upd_n e]; rfl
  have m22 : ∀ o : Option Nat, (∀ u, o = some u → u < c) → o.map (tV (tset (tset (tp T 16 w16) 22 f22) 23 f23) 22) = o.map (tV T 22) := fun o h => by
    cases o with
    | none => exact (rfl : (none : Option Nat) = none)
    | some u => exact congrArg some (u22 u (by have := h u rfl; omega))
  refine ⟨⟨h1, h2, ⟨by rw [e16]; exact w16E, by rw [e16]; omega⟩, h4⟩, hD, hk, hB, ⟨fun c' hc' => ?_, fun c' hc' => ?_⟩, ⟨fun b hb => ?_, he2, fun c' d hc' hd hsd => ?_⟩, ⟨fun w => ?_, hr2, hr3, fun a b ha hb e => ?_⟩⟩
  · rw [e16] at hc'
    by_cases e : c' = c
    · subst e
      rw [t22, t23, m22 po hpo]
      refine ⟨⟨show f22 c' = nI κ from by rw [f22E, upd_s], hκ, hrκ⟩, ⟨show f23 c' = oI po from by rw [f23E, upd_s], fun u hu => ⟨hpo u hu, fun z => ?_⟩⟩, hpk, Or.inl z101, ?_⟩
      · have z : T.2 101 c' = 1 := z
        rw [z101] at z; exact absurd z (by decide)
      · show T.2 24 c' = nI (T.2 24 c').toNatClampNeg ∧ (T.2 24 c').toNatClampNeg ≤ tN T 21
        rw [z24]
        exact ⟨by decide, Nat.zero_le _⟩
    · obtain ⟨q1, ⟨q2, q3⟩, q4, q5⟩ := hx1 c' (by omega)
      rw [u22 c' e, u23 c' e, m22 _ (fun u hu => by have := (q3 u hu).1; omega)]
      exact ⟨⟨(show f22 c' = T.2 22 c' from by rw [f22E, upd_n e]).trans q1.1, q1.2⟩, ⟨(show f23 c' = T.2 23 c' from by rw [f23E, upd_n e]).trans q2, q3⟩, q4, q5⟩
  · rw [e16] at hc'
    exact hx2 c' (by omega)
  · have hb : b < tN T 23 := hb
    obtain ⟨⟨q1, q2⟩, q3, q4, q5, q6, q7, q8⟩ := he1 b hb
    have hne : tV T 25 b ≠ c := by omega
    refine ⟨⟨q1, by rw [e16]; exact Nat.lt_succ_of_lt (by rw [hc]; exact q2)⟩, q3, q4, ?_, ?_, ?_, q8⟩
    · show T.2 103 b = vN v c 1 (tV T 25 b)
      unfold vN
      rw [upv_n (fun z => hne z.2), upv_n (fun z => by cases z.1)]
      exact q5
    · show hs (T.2 18 (tV (tset (tset (tp T 16 w16) 22 f22) 23 f23) 22 (tV T 25 b))) (tV T 26 b)
      rw [u22 _ hne]; exact q6
    · show T.2 102 b = 1 ↔ hs (T.2 19 (tV (tset (tset (tp T 16 w16) 22 f22) 23 f23) 22 (tV T 25 b))) (tV T 26 b)
      rw [u22 _ hne]; exact q7
  · rw [e16] at hc'
    by_cases e : c' = c
    · subst e
      refine ⟨none, (if_pos rfl).trans (hg d hd), fun b => ⟨(fun z => by cases z), fun z => ?_⟩⟩
      have z1 : b < tN T 23 := z.1
      have z2 : tV T 25 b = c' := z.2.1
      have := (he1 b z1).1.2
      omega
    · rw [u22 c' e] at hsd
      obtain ⟨o, o1, o2⟩ := he3 c' d (by omega) hd hsd
      exact ⟨o, (if_neg e).trans o1, o2⟩
  · rw [e16]
    show w ∈ O ↔ w < c + 1 ∧ T.2 101 w = 1
    rw [hr1 w]
    by_cases e : w = c
    · rw [e, z101]; exact ⟨fun z => absurd z.2 (by decide), fun z => absurd z.2 (by decide)⟩
    · exact ⟨fun z => ⟨by omega, z.2⟩, fun z => ⟨by omega, z.2⟩⟩
  · have ha' := ((hr1 a).mp ha).1
    have hb' := ((hr1 b).mp hb).1
    rw [u22 a (by omega), u22 b (by omega)] at e
    exact hr4 a b ha hb e
theorem pI_cx {c κ : Nat} {po : Option Nat} {g : Nat → Int32} (hp : pI T E O v sg rp) (hc : c = tN T 16) (hc30 : c < 30) (hκ : κ < tN T 11) (hrκ : rp κ = κ) (hpo : ∀ u, po = some u → u < c) (hpk : po.map (tV T 22) = (tO T 20 κ).map rp) (hg : ∀ j, j < 10 → g j = -1) : pI (tCx T c κ po) E O (vN v c) (sgN sg c g) rp := pI_cx' rfl rfl rfl hp hc hc30 hκ hrκ hpo hpk hg
theorem qF_cx {c κ : Nat} {po : Option Nat} (hq : qI T v) (hc : c = tN T 16) (hc30 : c < 30) (h0 : T.2 101 c = 0) : qF (tCx T c κ po) (vN v c) (some c) := by
  have e16 : tN (tCx T c κ po) 16 = c + 1 := nI_clamp (n := c + 1) (by omega)
  intro c' hc'
  rw [e16] at hc'
  unfold vN
  by_cases e : c' = c
  · subst e
    exact ⟨by rw [upv_n (fun z => by cases z.1), upv_s], Or.inl ⟨rfl, upv_s, h0⟩⟩
  · obtain ⟨q1, q2⟩ := hq c' (by omega)
    refine ⟨by rw [upv_n (fun z => by cases z.1), upv_n (fun z => e z.2)]; exact q1, Or.inr ⟨fun z => e (Option.some.inj z).symm, ?_⟩⟩
    rw [upv_n (fun z => e z.2), upv_n (fun z => by cases z.1)]
    exact q2
end NC

/-! A context is written. -/
def upv (v : Nat → Nat → Int32) (k c : Nat) (w : Int32) : Nat → Nat → Int32 := fun k' c' => if k' = k ∧ c' = c then w else v k' c'
theorem upv_s {v : Nat → Nat → Int32} {k c : Nat} {w : Int32} : upv v k c w k c = w := if_pos ⟨rfl, rfl⟩
theorem upv_n {v : Nat → Nat → Int32} {k c k' c' : Nat} {w : Int32} (h : ¬ (k' = k ∧ c' = c)) : upv v k c w k' c' = v k' c' := if_neg h
section CW
variable {x y : q_S} {A : Nat → Nat} {T : tT} {E : Nat} {ab : Nat → Nat → Nat} {L : Nat → Option (List Nat)} {O : List Nat} {v sg : Nat → Nat → Int32} {rp : Nat → Nat}
set_option maxHeartbeats 1000000 in
theorem hI_open {c : Nat} {w : Int32} (hh : hI x A ab L O v sg rp T) (hc : c < tN T 16) (u : uF x y 9 4 (ab 9 c) (.int w)) : hI y A ab L O (upv v 0 c w) sg rp T := by
  obtain ⟨⟨kn, hS, hR⟩, ⟨hJ, hw, l2, l7, l9, l10, l11, ln, li⟩, hDD, hKK, hCC, hBB⟩ := hh
  have U : ∀ d a, d ≠ 9 → un x y d a := fun d a hd => un_uF u (fun z => hd z.1)
  refine ⟨⟨kn, hS.fu (U _ _ (by decide)) (U _ _ (by decide)) (U _ _ (by decide)) (U _ _ (by decide)) (U _ _ (by decide)) (by rw [u.2.2.2.1]) (by rw [u.2.2.2.1]), hR⟩, ⟨jL_uF hJ u (by decide), wf_uF hw u, l2, l7, l9, l10, l11, ln, li⟩, fun i hi => ⟨(hDD i hi).1.fr (U 6 _ (by decide)), fun k hk => ((hDD i hi).2 k hk).fr (U 7 _ (by decide))⟩, ⟨fun j hj => (hKK.1 j hj).fr (U 8 _ (by decide)), hKK.2⟩, ⟨fun c' hc' => ⟨?_, by rw [u.2.2.2.1]; exact (hCC.1 c' hc').2⟩, hCC.2⟩, ⟨fun b hb => ⟨(hBB.1 b hb).1.fr (U 10 _ (by decide)), by rw [u.2.2.2.1]; exact (hBB.1 b hb).2⟩, hBB.2⟩⟩
  have o := (hCC.1 c' hc').1
  by_cases e : c' = c
  · subst e
    obtain ⟨o1, o2, o3, o4, o5, o6, o7, o8⟩ := o
    have al : q_al y 9 (ab 9 c') = true := by rw [u.2.2.1]; exact o1
    have fd : ∀ j, j ≠ 4 → q_fd y 9 j (ab 9 c') = q_fd x 9 j (ab 9 c') := fun j hj => by rw [u.2.2.2.2.2.2, if_neg (fun z => hj z.2.1)]
    have fk : q_fd y 9 4 (ab 9 c') = .int (upv v 0 c' w 0 c') := by rw [u.2.2.2.2.2.2, if_pos ⟨rfl, rfl, rfl⟩, upv_s]
    exact ⟨al, (fd 0 (by decide)).trans o2, (fd 1 (by decide)).trans o3, (fd 2 (by decide)).trans o4, (fd 3 (by decide)).trans o5, fk, (fd 5 (by decide)).trans o7, (fd 6 (by decide)).trans o8⟩
  · have := o.fr (un_uF u (fun z => e ((hCC.2 c' c hc' hc).1 z.2)))
    show oC y (ab 9 c') _ _ _ _ (upv v 0 c w 0 c') _ _
    rw [upv_n (k' := 0) (fun z => e z.2)]; exact this
set_option maxHeartbeats 1000000 in
theorem hI_kept {c : Nat} {w : Int32} (hh : hI x A ab L O v sg rp T) (hc : c < tN T 16) (u : uF x y 9 5 (ab 9 c) (.int w)) : hI y A ab L O v sg rp (tset T 101 (upd (T.2 101) c w)) := by
  obtain ⟨⟨kn, hS, hR⟩, ⟨hJ, hw, l2, l7, l9, l10, l11, ln, li⟩, hDD, hKK, hCC, hBB⟩ := hh
  have U : ∀ d a, d ≠ 9 → un x y d a := fun d a hd => un_uF u (fun z => hd z.1)
  refine ⟨⟨kn, hS.fu (U _ _ (by decide)) (U _ _ (by decide)) (U _ _ (by decide)) (U _ _ (by decide)) (U _ _ (by decide)) (by rw [u.2.2.2.1]) (by rw [u.2.2.2.1]), hR⟩, ⟨jL_uF hJ u (by decide), wf_uF hw u, l2, l7, l9, l10, l11, ln, li⟩, fun i hi => ⟨(hDD i hi).1.fr (U 6 _ (by decide)), fun k hk => ((hDD i hi).2 k hk).fr (U 7 _ (by decide))⟩, ⟨fun j hj => (hKK.1 j hj).fr (U 8 _ (by decide)), hKK.2⟩, ⟨fun c' hc' => ⟨?_, by rw [u.2.2.2.1]; exact (hCC.1 c' hc').2⟩, hCC.2⟩, ⟨fun b hb => ⟨(hBB.1 b hb).1.fr (U 10 _ (by decide)), by rw [u.2.2.2.1]; exact (hBB.1 b hb).2⟩, hBB.2⟩⟩
  have o := (hCC.1 c' hc').1
  by_cases e : c' = c
  · subst e
    obtain ⟨o1, o2, o3, o4, o5, o6, o7, o8⟩ := o
    have al : q_al y 9 (ab 9 c') = true := by rw [u.2.2.1]; exact o1
    have fd : ∀ j, j ≠ 5 → q_fd y 9 j (ab 9 c') = q_fd x 9 j (ab 9 c') := fun j hj => by rw [u.2.2.2.2.2.2, if_neg (fun z => hj z.2.1)]
    have fk : q_fd y 9 5 (ab 9 c') = .int (upd (T.2 101) c' w c') := by rw [u.2.2.2.2.2.2, if_pos ⟨rfl, rfl, rfl⟩, upd_s]
    exact ⟨al, (fd 0 (by decide)).trans o2, (fd 1 (by decide)).trans o3, (fd 2 (by decide)).trans o4, (fd 3 (by decide)).trans o5, (fd 4 (by decide)).trans o6, fk, (fd 6 (by decide)).trans o8⟩
  · have := o.fr (un_uF u (fun z => e ((hCC.2 c' c hc' hc).1 z.2)))
    show oC y (ab 9 c') _ _ _ _ _ (upd (T.2 101) c w c') _
    rw [upd_n e]; exact this
set_option maxHeartbeats 1000000 in
theorem hI_gone {c : Nat} {w : Int32} (hh : hI x A ab L O v sg rp T) (hc : c < tN T 16) (u : uF x y 9 6 (ab 9 c) (.int w)) : hI y A ab L O (upv v 1 c w) sg rp T := by
  obtain ⟨⟨kn, hS, hR⟩, ⟨hJ, hw, l2, l7, l9, l10, l11, ln, li⟩, hDD, hKK, hCC, hBB⟩ := hh
  have U : ∀ d a, d ≠ 9 → un x y d a := fun d a hd => un_uF u (fun z => hd z.1)
  refine ⟨⟨kn, hS.fu (U _ _ (by decide)) (U _ _ (by decide)) (U _ _ (by decide)) (U _ _ (by decide)) (U _ _ (by decide)) (by rw [u.2.2.2.1]) (by rw [u.2.2.2.1]), hR⟩, ⟨jL_uF hJ u (by decide), wf_uF hw u, l2, l7, l9, l10, l11, ln, li⟩, fun i hi => ⟨(hDD i hi).1.fr (U 6 _ (by decide)), fun k hk => ((hDD i hi).2 k hk).fr (U 7 _ (by decide))⟩, ⟨fun j hj => (hKK.1 j hj).fr (U 8 _ (by decide)), hKK.2⟩, ⟨fun c' hc' => ⟨?_, by rw [u.2.2.2.1]; exact (hCC.1 c' hc').2⟩, hCC.2⟩, ⟨fun b hb => ⟨(hBB.1 b hb).1.fr (U 10 _ (by decide)), by rw [u.2.2.2.1]; exact (hBB.1 b hb).2⟩, hBB.2⟩⟩
  have o := (hCC.1 c' hc').1
  by_cases e : c' = c
  · subst e
    obtain ⟨o1, o2, o3, o4, o5, o6, o7, o8⟩ := o
    have al : q_al y 9 (ab 9 c') = true := by rw [u.2.2.1]; exact o1
    have fd : ∀ j, j ≠ 6 → q_fd y 9 j (ab 9 c') = q_fd x 9 j (ab 9 c') := fun j hj => by rw [u.2.2.2.2.2.2, if_neg (fun z => hj z.2.1)]
    have fk : q_fd y 9 6 (ab 9 c') = .int (upv v 1 c' w 1 c') := by rw [u.2.2.2.2.2.2, if_pos ⟨rfl, rfl, rfl⟩, upv_s]
    exact ⟨al, (fd 0 (by decide)).trans o2, (fd 1 (by decide)).trans o3, (fd 2 (by decide)).trans o4, (fd 3 (by decide)).trans o5, (fd 4 (by decide)).trans o6, (fd 5 (by decide)).trans o7, fk⟩
  · have := o.fr (un_uF u (fun z => e ((hCC.2 c' c hc' hc).1 z.2)))
    show oC y (ab 9 c') _ _ _ _ _ _ (upv v 1 c w 1 c')
    rw [upv_n (k' := 1) (fun z => e z.2)]; exact this
end CW

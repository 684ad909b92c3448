/-! The order: a place in it is the number of those that were used later. -/
theorem cnt_srt {f : Nat → Nat} : ∀ (O : List Nat) (p c : Nat), O.Pairwise (fun a b => f b < f a) → O[p]? = some c → O.countP (fun y => decide (f c < f y)) = p := by
  intro O
  induction O with
  | nil => intro p c _ h; cases h
  | cons a O ih =>
    intro p c hs h
    obtain ⟨h1, h2⟩ := List.pairwise_cons.mp hs
    cases p with
    | zero =>
      cases h
      rw [List.countP_cons_of_neg (by simp)]
      refine List.countP_eq_zero.mpr (fun y hy => ?_)
      have := h1 y hy
      simp; omega
    | succ p =>
      have hc : c ∈ O := List.mem_of_getElem? h
      have := h1 c hc
      rw [List.countP_cons_of_pos (by simpa using this), ih p c h2 h]
theorem srt_nd {f : Nat → Nat} {O : List Nat} (h : O.Pairwise (fun a b => f b < f a)) : O.Nodup := h.imp (fun {a b} hab z => by rw [z] at hab; omega)
theorem cnt_rng {f : Nat → Nat} {O : List Nat} {n : Nat} {P : Nat → Bool} (hm : ∀ c, c ∈ O ↔ c < n ∧ P c = true) (hs : O.Pairwise (fun a b => f b < f a)) (Q : Nat → Bool) : (List.range n).countP (fun y => P y && Q y) = O.countP Q := by
  have hp : (List.range n).filter P |>.Perm O := by
    refine (List.perm_ext_iff_of_nodup (List.nodup_range.filter _) (srt_nd hs)).mpr (fun c => ?_)
    rw [List.mem_filter, List.mem_range, hm c]
  rw [← hp.countP_eq, List.countP_filter]
  refine List.countP_congr (fun y _ => ?_)
  rw [Bool.and_comm]

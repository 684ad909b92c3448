/-! Sets as bits. -/
theorem mk_bit (j : Fin 32) : ((1 : Int32) <<< (nI j.1 &&& 31)).toBitVec = BitVec.twoPow 32 j.1 := by
  revert j; decide +kernel
theorem hs_bit {u : Int32} {j : Nat} (hj : j < 32) : hs u j ↔ u.toBitVec.getLsbD j = true := by
  unfold hs
  rw [ne_eq, ← Int32.toBitVec_inj, Int32.toBitVec_and, mk_bit ⟨j, hj⟩, BitVec.and_twoPow]
  dsimp only
  constructor
  · intro h
    by_cases hc : u.toBitVec.getLsbD j = true
    · exact hc
    · rw [if_neg hc] at h; exact absurd rfl h
  · intro hc
    rw [if_pos hc]
    have : ∀ j : Fin 32, ¬ BitVec.twoPow 32 j.1 = (0 : Int32).toBitVec := by decide +kernel
    exact this ⟨j, hj⟩
theorem hs_ext {u v : Int32} (h : ∀ j, j < 32 → (hs u j ↔ hs v j)) : u = v := by
  rw [← Int32.toBitVec_inj]
  refine BitVec.eq_of_getLsbD_eq (fun j hj => ?_)
  have := h j hj
  rw [hs_bit hj, hs_bit hj] at this
  exact Bool.eq_iff_iff.mpr this
theorem hs_and {u v : Int32} {j : Nat} (hj : j < 32) : hs (u &&& v) j ↔ hs u j ∧ hs v j := by
  rw [hs_bit hj, hs_bit hj, hs_bit hj, Int32.toBitVec_and, BitVec.getLsbD_and, Bool.and_eq_true]
theorem hs_not {u : Int32} {j : Nat} (hj : j < 32) : hs (u ^^^ (-1)) j ↔ ¬ hs u j := by
  have e : ((-1 : Int32)).toBitVec = BitVec.allOnes 32 := by decide +kernel
  rw [hs_bit hj, hs_bit hj, Int32.toBitVec_xor, BitVec.getLsbD_xor, e, BitVec.getLsbD_allOnes]
  simp [hj]
theorem hs_mk {d j : Nat} (hd : d < 32) (hj : j < 32) : hs ((1 : Int32) <<< (nI d &&& 31)) j ↔ j = d := by
  rw [hs_bit hj, mk_bit ⟨d, hd⟩, BitVec.getLsbD_twoPow]
  simp [hd]
  exact eq_comm
theorem hs_0 (j : Nat) : ¬ hs 0 j := fun h => h (by
  rw [← Int32.toBitVec_inj, Int32.toBitVec_and]
  exact BitVec.zero_and)
theorem sh_n (d : Fin 32) : (nI d.1 &&& 31).toBitVec.smod 32 = BitVec.ofNat 32 d.1 := by
  revert d; decide +kernel
theorem hs_shr {u : Int32} {d : Nat} (hd : d < 32) : ((u >>> (nI d &&& 31)) &&& 1 = 1) ↔ hs u d := by
  rw [hs_bit hd, ← Int32.toBitVec_inj, Int32.toBitVec_and, Int32.toBitVec_shiftRight, show (nI d &&& 31).toBitVec.smod 32 = BitVec.ofNat 32 d from sh_n ⟨d, hd⟩]
  have e : ((1 : Int32)).toBitVec = 1#32 := rfl
  rw [e]
  have t : (BitVec.ofNat 32 d).toNat = d := by rw [BitVec.toNat_ofNat]; exact Nat.mod_eq_of_lt (by omega)
  show (u.toBitVec.sshiftRight (BitVec.ofNat 32 d).toNat &&& 1#32 = 1#32) ↔ _
  rw [t]
  constructor
  · intro h
    have h0 : (u.toBitVec.sshiftRight d &&& 1#32).getLsbD 0 = (1#32).getLsbD 0 := by rw [h]
    rw [BitVec.getLsbD_and, BitVec.getLsbD_sshiftRight] at h0
    simpa [hd] using h0
  · intro h
    refine BitVec.eq_of_getLsbD_eq (fun j hj => ?_)
    rw [BitVec.getLsbD_and]
    by_cases h0 : j = 0
    · subst h0
      simp [BitVec.getLsbD_sshiftRight, hd, h]
    · simp [BitVec.getLsbD_one, h0]

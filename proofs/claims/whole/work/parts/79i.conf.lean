/-! configure: what the numbers keep -/
def vCf (v : Nat → Nat → Int32) (n : Nat) (sng eag : Int32) : Nat → Nat → Int32 := fun c j => if c = 2 ∧ j = n then sng else if c = 3 ∧ j = n then eag else v c j
def rCf (rp : Nat → Nat) (n rj : Nat) : Nat → Nat := fun k => if k = n then rj else rp k
theorem rCf_n {rp : Nat → Nat} {n rj k : Nat} (h : k ≠ n) : rCf rp n rj k = rp k := if_neg h
theorem rCf_s {rp : Nat → Nat} {n rj : Nat} : rCf rp n rj n = rj := if_pos rfl
theorem vCf_n {v : Nat → Nat → Int32} {n c j : Nat} {sng eag : Int32} (h : j ≠ n) : vCf v n sng eag c j = v c j := by
  unfold vCf; rw [if_neg (fun z => h z.2), if_neg (fun z => h z.2)]
section CF
variable {x : q_S} {A : Nat → Nat} {T : tT} {E : Nat} {ab : Nat → Nat → Nat} {L : Nat → Option (List Nat)} {O : List Nat} {v sg : Nat → Nat → Int32} {rp : Nat → Nat}
theorem tO_cf {n k : Nat} {s m p : Int32} (h : k ≠ n) : tO (tCf T n s m p) 20 k = tO T 20 k := by
  show (if upd (T.2 20) n p k < 0 then none else some (upd (T.2 20) n p k).toNatClampNeg) = tO T 20 k
  rw [upd_n h]; rfl
theorem tO_cfs {n : Nat} {s m : Int32} {po : Option Nat} (hb : ∀ q, po = some q → q < 2 ^ 31) : tO (tCf T n s m (oI po)) 20 n = po := tO_of (show upd (T.2 20) n (oI po) n = oI po from upd_s) hb
theorem map_cf {n rj k : Nat} {o : Option Nat} (h : ∀ q, o = some q → q < n) : o.map (rCf rp n rj) = o.map rp := by
  cases o with
  | none => rfl
  | some q => exact congrArg some (rCf_n (by have := h q rfl; omega))
set_option maxHeartbeats 2000000 in
theorem kI_cf {n rj : Nat} {s m : Int32} {po : Option Nat} (hk : kI T rp n) (h8 : n < 8) (hpo : ∀ q, po = some q → q < n ∧ ∀ r, tO T 20 q = some r → tO T 20 r = none) (hr1 : rj = n ∨ (rj < n ∧ rp rj = rj)) (hr2 : ∀ i, i < n → (rp i = rj ↔ T.2 18 i = s ∧ T.2 19 i = m ∧ (tO T 20 i).map rp = po.map rp)) : kI (tCf T n s m (oI po)) (rCf rp n rj) (n + 1) := by
  obtain ⟨-, k1, k2, k3, k4, k5⟩ := hk
  have bpo : ∀ q, po = some q → q < 2 ^ 31 := fun q hq => by have := (hpo q hq).1; omega
  have t20 : tO (tCf T n s m (oI po)) 20 n = po := tO_cfs bpo
  have mp : po.map (rCf rp n rj) = po.map rp := map_cf (k := 0) (fun q hq => (hpo q hq).1)
  have mi : ∀ i, i < n → (tO T 20 i).map (rCf rp n rj) = (tO T 20 i).map rp := fun i hi => map_cf (k := 0) (fun q hq => by have := k2 i q hi hq; omega)
  have key : ∀ i, i < n → (rp i = rj ↔ upd (T.2 18) n s i = upd (T.2 18) n s n ∧ upd (T.2 19) n m i = upd (T.2 19) n m n ∧ (tO (tCf T n s m (oI po)) 20 i).map (rCf rp n rj) = (tO (tCf T n s m (oI po)) 20 n).map (rCf rp n rj)) := fun i hi => by
    rw [upd_n (by omega), upd_s, upd_n (by omega), upd_s, tO_cf (by omega), t20, mp, mi i hi]
    exact hr2 i hi
  refine ⟨by omega, fun j hj => ?_, fun j q hj hq => ?_, fun j q r hj hq hr => ?_, fun j hj => ?_, fun i j hi hj => ?_⟩
  · by_cases h : j = n
    · subst h
      rw [t20]; exact upd_s
    · rw [tO_cf h]
      exact (upd_n h).trans (k1 j (by omega))
  · by_cases h : j = n
    · subst h
      rw [t20] at hq; exact (hpo q hq).1
    · rw [tO_cf h] at hq
      exact k2 j q (by omega) hq
  · by_cases h : j = n
    · subst h
      rw [t20] at hq
      have h1 := (hpo q hq).1
      rw [tO_cf (by omega)] at hr
      have h2 := k2 q r h1 hr
      rw [tO_cf (by omega)]
      exact (hpo q hq).2 r hr
    · rw [tO_cf h] at hq
      have h1 := k2 j q (by omega) hq
      rw [tO_cf (by omega)] at hr
      have h2 := k2 q r (by omega) hr
      rw [tO_cf (by omega)]
      exact k3 j q r (by omega) hq hr
  · by_cases h : j = n
    · subst h
      rw [rCf_s]
      rcases hr1 with h1 | ⟨h1, h2⟩
      · rw [h1, rCf_s]; exact ⟨Nat.le_refl _, rfl⟩
      · rw [rCf_n (by omega)]; exact ⟨by omega, h2⟩
    · rw [rCf_n h]
      have := k4 j (by omega)
      rw [rCf_n (by omega)]
      exact this
  · by_cases h : i = n
    · by_cases h' : j = n
      · rw [h, h']; exact ⟨fun _ => ⟨rfl, rfl, rfl⟩, fun _ => rfl⟩
      · subst h
        rw [rCf_s, rCf_n h']
        have := key j (by omega)
        constructor
        · intro z
          obtain ⟨q1, q2, q3⟩ := this.mp z.symm
          exact ⟨q1.symm, q2.symm, q3.symm⟩
        · intro z
          exact (this.mpr ⟨z.1.symm, z.2.1.symm, z.2.2.symm⟩).symm
    · by_cases h' : j = n
      · subst h'
        rw [rCf_s, rCf_n h]
        exact key i (by omega)
      · rw [rCf_n h, rCf_n h', tO_cf h, tO_cf h', mi i (by omega), mi j (by omega)]
        show rp i = rp j ↔ upd (T.2 18) n s i = upd (T.2 18) n s j ∧ upd (T.2 19) n m i = upd (T.2 19) n m j ∧ _
        rw [upd_n h, upd_n h', upd_n h, upd_n h']
        exact k5 i j (by omega) (by omega)
end CF

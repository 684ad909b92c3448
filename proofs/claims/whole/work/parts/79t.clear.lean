/-! A mock is cleared. -/
section CR
variable {x : q_S} {A : Nat → Nat} {T : tT} {E : Nat} {ab : Nat → Nat → Nat} {L : Nat → Option (List Nat)} {O : List Nat} {v sg : Nat → Nat → Int32} {rp : Nat → Nat}
def tClr (T : tT) (b : Nat) : tT := tset (tset (tset T 28 (upd (T.2 28) b 0)) 29 (upd (T.2 29) b 0)) 30 (upd (T.2 30) b 0)
theorem clear_eq (hh : hI x A ab L O v sg rp T) (hp : pI T E O v sg rp) (hq : qI T v) {b : Nat} (hb : b < tN T 23) : ∃ y, jf_Be_clear x (ab 10 b) = some (y, ()) ∧ hI y A ab L O v sg rp (tClr T b) ∧ pI (tClr T b) E O v sg rp ∧ qI (tClr T b) v ∧ cFr x y ∧ q_sz y = q_sz x ∧ q_sl y = q_sl x := by
  have o1 := (hh.2.2.2.2.2.1 b hb).1.1
  unfold jf_Be_clear
  refine st_pI (G := (fun o : Option (q_S × Unit) => ∃ y, o = some (y, ()) ∧ hI y A ab L O v sg rp (tClr T b) ∧ pI (tClr T b) E O v sg rp ∧ qI (tClr T b) v ∧ cFr x y ∧ q_sz y = q_sz x ∧ q_sl y = q_sl x)) o1 (fun x1 u1 => ?_)
  have a1 : q_al x1 10 (ab 10 b) = true := by rw [u1.2.2.1]; exact o1
  refine st_pI (G := (fun o : Option (q_S × Unit) => ∃ y, o = some (y, ()) ∧ hI y A ab L O v sg rp (tClr T b) ∧ pI (tClr T b) E O v sg rp ∧ qI (tClr T b) v ∧ cFr x y ∧ q_sz y = q_sz x ∧ q_sl y = q_sl x)) a1 (fun x2 u2 => ?_)
  have a2 : q_al x2 10 (ab 10 b) = true := by rw [u2.2.2.1]; exact a1
  refine st_pI (G := (fun o : Option (q_S × Unit) => ∃ y, o = some (y, ()) ∧ hI y A ab L O v sg rp (tClr T b) ∧ pI (tClr T b) E O v sg rp ∧ qI (tClr T b) v ∧ cFr x y ∧ q_sz y = q_sz x ∧ q_sl y = q_sl x)) a2 (fun x3 u3 => ?_)
  have H1 := hI_28 hh hb u1
  have H2 := hI_29 (T := tset T 28 (upd (T.2 28) b 0)) H1 hb u2
  have H3 := hI_30 (T := tset (tset T 28 (upd (T.2 28) b 0)) 29 (upd (T.2 29) b 0)) H2 hb u3
  have P3 := pI_30 (b := b) (w := 0) (pI_29 (b := b) (w := 0) (pI_28 (b := b) (w := 0) hp hb) hb) hb
  exact ⟨x3, rfl, H3, P3, qI_set (qI_set (qI_set hq (by decide)) (by decide)) (by decide), (cFr_uF u1 (by decide)).tr ((cFr_uF u2 (by decide)).tr (cFr_uF u3 (by decide))), by rw [u3.1, u2.1, u1.1], by rw [u3.2.1, u2.2.1, u1.2.1]⟩
end CR

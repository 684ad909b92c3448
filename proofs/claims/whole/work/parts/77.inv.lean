/-! The class's objects beside the reference's numbers. -/
def oD (x : q_S) (a : Nat) (ty fl qu pr : Int32) (l : Nat) : Prop := q_al x 6 a = true ∧ q_fd x 6 0 a = .int ty ∧ q_fd x 6 1 a = .int fl ∧ q_fd x 6 2 a = .int qu ∧ q_fd x 6 3 a = .int pr ∧ q_fd x 6 4 a = .ref l
def oN (x : q_S) (a : Nat) (ty qu na : Int32) : Prop := q_al x 7 a = true ∧ q_fd x 7 0 a = .int ty ∧ q_fd x 7 1 a = .int qu ∧ q_fd x 7 2 a = .int na
def oK (x : q_S) (a : Nat) (nu ins mck sng eag : Int32) (pa : Option Nat) (fb : Int32) : Prop := q_al x 8 a = true ∧ q_fd x 8 0 a = .int nu ∧ q_fd x 8 1 a = .int ins ∧ q_fd x 8 2 a = .int mck ∧ q_fd x 8 3 a = .int sng ∧ q_fd x 8 4 a = .int eag ∧ q_fd x 8 5 a = va_rf pa ∧ q_fd x 8 6 a = .int fb
def oC (x : q_S) (a : Nat) (nu : Int32) (ke : Nat) (pa : Option Nat) (sa : Nat) (op ca go : Int32) : Prop := q_al x 9 a = true ∧ q_fd x 9 0 a = .int nu ∧ q_fd x 9 1 a = .ref ke ∧ q_fd x 9 2 a = va_rf pa ∧ q_fd x 9 3 a = .ref sa ∧ q_fd x 9 4 a = .int op ∧ q_fd x 9 5 a = .int ca ∧ q_fd x 9 6 a = .int go
def oB (x : q_S) (a : Nat) (df : Int32) (ho : Nat) (mk : Int32) (wa : Nat) (an co la : Int32) : Prop := q_al x 10 a = true ∧ q_fd x 10 0 a = .int df ∧ q_fd x 10 1 a = .ref ho ∧ q_fd x 10 2 a = .int mk ∧ q_fd x 10 3 a = .ref wa ∧ q_fd x 10 4 a = .int an ∧ q_fd x 10 5 a = .int co ∧ q_fd x 10 6 a = .int la
/-- what an object of a class keeps -/
def un (x y : q_S) (c a : Nat) : Prop := (q_al x c a = true → q_al y c a = true) ∧ ∀ j, q_fd y c j a = q_fd x c j a
section UN
variable {x y : q_S} {a : Nat}
theorem oD.fr {ty fl qu pr : Int32} {l : Nat} (h : oD x a ty fl qu pr l) (u : un x y 6 a) : oD y a ty fl qu pr l := by
  unfold oD at *; rw [u.2, u.2, u.2, u.2, u.2]; exact ⟨u.1 h.1, h.2⟩
theorem oN.fr {ty qu na : Int32} (h : oN x a ty qu na) (u : un x y 7 a) : oN y a ty qu na := by
  unfold oN at *; rw [u.2, u.2, u.2]; exact ⟨u.1 h.1, h.2⟩
theorem oK.fr {nu ins mck sng eag fb : Int32} {pa : Option Nat} (h : oK x a nu ins mck sng eag pa fb) (u : un x y 8 a) : oK y a nu ins mck sng eag pa fb := by
  unfold oK at *; rw [u.2, u.2, u.2, u.2, u.2, u.2, u.2]; exact ⟨u.1 h.1, h.2⟩
theorem oC.fr {nu op ca go : Int32} {ke sa : Nat} {pa : Option Nat} (h : oC x a nu ke pa sa op ca go) (u : un x y 9 a) : oC y a nu ke pa sa op ca go := by
  unfold oC at *; rw [u.2, u.2, u.2, u.2, u.2, u.2, u.2]; exact ⟨u.1 h.1, h.2⟩
theorem oB.fr {df mk an co la : Int32} {ho wa : Nat} (h : oB x a df ho mk wa an co la) (u : un x y 10 a) : oB y a df ho mk wa an co la := by
  unfold oB at *; rw [u.2, u.2, u.2, u.2, u.2, u.2, u.2]; exact ⟨u.1 h.1, h.2⟩
theorem un_c {c : Nat} (h1 : q_al y c = q_al x c) (h2 : q_fd y c = q_fd x c) : un x y c a := ⟨fun h => by rw [h1]; exact h, fun j => by rw [h2]⟩
theorem un_uF {c k b d : Nat} {v : Value} (u : uF x y c k b v) (h : ¬ (d = c ∧ a = b)) : un x y d a := ⟨fun h => by rw [u.2.2.1]; exact h, fun j => by rw [u.2.2.2.2.2.2, if_neg (fun z => h ⟨z.1, z.2.2⟩)]⟩
theorem un_uI {t b n d : Nat} {g : Nat → Int32} (u : uI x y t b n g) : un x y d a := ⟨fun h => by rw [u.2.2.1]; exact h, fun j => by rw [u.2.2.2.2.2.1]⟩
theorem un_uA {t n d : Nat} (u : uA x y t n) : un x y d a := ⟨fun h => by rw [u.2.2.1]; exact h, fun j => by rw [u.2.2.2.2.2.1]⟩
theorem un_uN {c d : Nat} {dv : List Value} (u : uN x y c dv) (h : ¬ (d = c ∧ a = q_sz x)) : un x y d a := ⟨fun h => uN_al u h, fun j => by rw [u.2.2.2.2.2.2, if_neg h]⟩
theorem un_oL {d : Nat} (u : oL x y) (h : d ≠ 2) : un x y d a := ⟨fun h => by rw [u.1]; exact h, fun j => by rw [u.2.2.2.1 d h]⟩
theorem un_nL {d : Nat} (u : nL x y) (h : d ≠ 2) : un x y d a := ⟨fun h => nL_al u h, fun j => by rw [u.2.2.2.2.2.2.2.1 d h]⟩
theorem un.tr {z : q_S} {d : Nat} (h : un x y d a) (g : un y z d a) : un x z d a := ⟨fun i => g.1 (h.1 i), fun j => (g.2 j).trans (h.2 j)⟩
end UN
abbrev tN (T : tT) (k : Nat) : Nat := (T.1 k).toNatClampNeg
def ls (n : Nat) (f : Nat → Nat) : List Nat := (List.range n).map f
theorem ls_len (n : Nat) (f : Nat → Nat) : (ls n f).length = n := by unfold ls; rw [List.length_map, List.length_range]
theorem ls_get {n i : Nat} {f : Nat → Nat} (h : i < n) : (ls n f)[i]? = some (f i) := by
  unfold ls; rw [List.getElem?_map, List.getElem?_range h]; rfl
theorem ls_s (n : Nat) (f : Nat → Nat) : ls (n + 1) f = ls n f ++ [f n] := by unfold ls; rw [List.range_succ, List.map_append]; rfl
theorem ls_c {n : Nat} {f g : Nat → Nat} (h : ∀ i, i < n → f i = g i) : ls n f = ls n g := by
  unfold ls; exact List.map_congr_left (fun i hi => h i (List.mem_range.mp hi))
/-- how many beans a bean was given -/
def wl (T : tT) (b : Nat) : Nat := if T.2 102 b = 0 then tV T 14 (tV T 26 b) else 0
/-- the lists' addresses, numbered -/
def la (A : Nat → Nat) (ab : Nat → Nat → Nat) (i : Nat) : Nat := if i < 5 then A ([2, 7, 9, 10, 11].getD i 0) else ab 2 (i - 5)
/-- ab: addresses by class and number (6 definitions, 7 needs by 3 d + k, 8 keys by configuration, 9 contexts, 10 beans; 2 the lists of needs, 12 the tables of single beans, 13 wires); v: 0 what is open, 1 gone, 2 single, 3 eager -/
def hL (x : q_S) (A : Nat → Nat) (ab : Nat → Nat → Nat) (L : Nat → Option (List Nat)) (O : List Nat) (T : tT) : Prop :=
  jL x L ∧ wf x ∧ L (A 2) = some (ls (tN T 11) (ab 8)) ∧ L (A 7) = some (ls (tN T 2) (ab 6)) ∧ L (A 9) = some (ls (tN T 23) (ab 10)) ∧ L (A 10) = some (ls (tN T 16) (ab 9)) ∧ L (A 11) = some (O.map (ab 9)) ∧ (∀ i, i < tN T 2 → L (ab 2 i) = some (ls (tV T 14 i) (fun k => ab 7 (3 * i + k)))) ∧ ∀ i j, i < 5 + tN T 2 → j < 5 + tN T 2 → la A ab i = la A ab j → i = j
def hD (x : q_S) (ab : Nat → Nat → Nat) (T : tT) : Prop := ∀ i, i < tN T 2 → oD x (ab 6 i) (T.2 10 i) (T.2 11 i) (T.2 12 i) (T.2 13 i) (ab 2 i) ∧ ∀ k, k < tV T 14 i → oN x (ab 7 (3 * i + k)) (T.2 15 (3 * i + k)) (T.2 16 (3 * i + k)) (T.2 17 (3 * i + k))
def hK (x : q_S) (ab : Nat → Nat → Nat) (v : Nat → Nat → Int32) (rp : Nat → Nat) (T : tT) : Prop := (∀ j, j < tN T 11 → oK x (ab 8 j) (nI (rp j)) (T.2 18 j) (T.2 19 j) (v 2 j) (v 3 j) ((tO T 20 j).map (ab 8)) (T.2 21 (rp j))) ∧ ∀ i j, i < tN T 11 → j < tN T 11 → (ab 8 i = ab 8 j ↔ rp i = rp j)
def hC (x : q_S) (ab : Nat → Nat → Nat) (v sg : Nat → Nat → Int32) (T : tT) : Prop := (∀ c, c < tN T 16 → oC x (ab 9 c) (nI c) (ab 8 (tV T 22 c)) ((tO T 23 c).map (ab 9)) (ab 12 c) (v 0 c) (T.2 101 c) (v 1 c) ∧ q_ai x 2 (ab 12 c) = some (10, sg c)) ∧ ∀ c d, c < tN T 16 → d < tN T 16 → (ab 9 c = ab 9 d → c = d) ∧ (ab 12 c = ab 12 d → c = d)
def hB (x : q_S) (ab : Nat → Nat → Nat) (T : tT) : Prop := (∀ b, b < tN T 23 → oB x (ab 10 b) (T.2 26 b) (ab 9 (tV T 25 b)) (T.2 102 b) (ab 13 b) (T.2 28 b) (T.2 29 b) (T.2 30 b) ∧ ∃ w, q_ai x 4 (ab 13 b) = some (wl T b, w) ∧ ∀ k, k < wl T b → w k = T.2 27 (3 * b + k)) ∧ ∀ b d, b < tN T 23 → d < tN T 23 → ab 10 b = ab 10 d → b = d
/-- the class's part of the state x stands for the numbers T -/
def hI (x : q_S) (A : Nat → Nat) (ab : Nat → Nat → Nat) (L : Nat → Option (List Nat)) (O : List Nat) (v sg : Nat → Nat → Int32) (rp : Nat → Nat) (T : tT) : Prop :=
  (∃ kn, cS x A (T.1 22) (T.1 0) (T.1 38) kn (T.2 35) ∧ Rk kn (T.2 100)) ∧ hL x A ab L O T ∧ hD x ab T ∧ hK x ab v rp T ∧ hC x ab v sg T ∧ hB x ab T

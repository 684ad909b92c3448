/-! A context is used: the order. -/
def cl (T : tT) : Nat → Option Nat → List Nat
  | 0, _ => []
  | _ + 1, none => []
  | n + 1, some c => c :: cl T n (tO T 23 c)
def pJ (T : tT) (E : Nat) (v sg : Nat → Nat → Int32) (rp : Nat → Nat) : Prop := cI T E ∧ dI T ∧ kI T rp (tN T 11) ∧ bI T v ∧ xI T rp ∧ eI T v sg
/-- as before but for the clock -/
def tU (T T' : tT) : Prop := (∀ k, k ≠ 21 → T'.1 k = T.1 k) ∧ ∀ t, t ≠ 24 → T'.2 t = T.2 t
theorem tU.rf (T : tT) : tU T T := ⟨fun _ _ => rfl, fun _ _ => rfl⟩
theorem tU.tr {T T' T'' : tT} (h : tU T T') (g : tU T' T'') : tU T T'' := ⟨fun k hk => (g.1 k hk).trans (h.1 k hk), fun t ht => (g.2 t ht).trans (h.2 t ht)⟩
def tSm (T : tT) (c : Nat) : tT := tset (tp T 21 (nI (tN T 21 + 1))) 24 (upd (T.2 24) c (nI (tN T 21 + 1)))
theorem tU_sm (T : tT) (c : Nat) : tU T (tSm T c) := ⟨fun k hk => if_neg hk, fun t ht => if_neg ht⟩
section US
variable {x y : q_S} {A : Nat → Nat} {T : tT} {E : Nat} {ab : Nat → Nat → Nat} {L : Nat → Option (List Nat)} {O : List Nat} {v sg : Nat → Nat → Int32} {rp : Nat → Nat}
theorem hI_sm {c : Nat} (hh : hI x A ab L O v sg rp T) : hI x A ab L O v sg rp (tSm T c) := hh
theorem cl_lt (hx : xI T rp) : ∀ (n : Nat) (o : Option Nat), chl T n o → ∀ w, w ∈ cl T n o → w < tN T 16 ∧ ∀ c, o = some c → w ≤ c
  | 0, _, _, _, hw => by cases hw
  | n + 1, none, _, _, hw => by cases hw
  | n + 1, some c, h, w, hw => by
    obtain ⟨h1, h2⟩ := h c rfl
    rcases List.mem_cons.mp hw with rfl | hw
    · exact ⟨h1, fun c' hc' => by cases hc'; exact Nat.le_refl _⟩
    · have := cl_lt hx n (tO T 23 c) h2 w hw
      refine ⟨this.1, fun c' hc' => ?_⟩
      cases hc'
      cases e : tO T 23 c with
      | none => rw [e] at hw; cases n <;> cases hw
      | some u =>
        have l1 := ((hx.1 c h1).2.1.2 u e).1
        have l2 := this.2 u e
        omega
theorem stamp_eq {c : Nat} (hc : c < 30) (h21 : T.1 21 = nI (tN T 21)) : jt_Mo_stamp T (nI c) = some (tSm T c, ()) := by
  unfold jt_Mo_stamp
  rw [if_pos (nI_pos' (by omega))]
  dsimp only [tpi]
  have e : tf T 21 + 1 = nI (tN T 21 + 1) := by rw [show tf T 21 = nI (tN T 21) from h21, nI_1]
  rw [Option.bind_some, e, tw_n hc (by decide), Option.bind_some]
  rfl
theorem pJ_sm {c : Nat} (hp : pJ T E v sg rp) (hE : E + 1 ≤ 1000000000) (hc : c < tN T 16) : pJ (tSm T c) (E + 1) v sg rp := by
  obtain ⟨⟨h1, h2, h3, h4, h5, h6, h7, h8, h9⟩, hd, hk, hb, ⟨hx1, hx2⟩, he⟩ := hp
  have e : (nI (tN T 21 + 1)).toNatClampNeg = tN T 21 + 1 := nI_clamp (by omega)
  refine ⟨⟨h1, h2, h3, h4, h5, ⟨show nI (tN T 21 + 1) = nI (nI (tN T 21 + 1)).toNatClampNeg by rw [e], show (nI (tN T 21 + 1)).toNatClampNeg ≤ E + 1 by rw [e]; omega⟩, ⟨h7.1, Nat.le_succ_of_le h7.2⟩, h8, hE⟩, hd, hk, hb, ⟨fun d hd => ?_, fun d hd => ⟨(hx2 d hd).1, ?_⟩⟩, he⟩
  · obtain ⟨q1, q2, q3, q4, q5, q6⟩ := hx1 d hd
    refine ⟨q1, q2, q3, q4, ?_⟩
    show upd (T.2 24) c (nI (tN T 21 + 1)) d = nI (upd (T.2 24) c (nI (tN T 21 + 1)) d).toNatClampNeg ∧ (upd (T.2 24) c (nI (tN T 21 + 1)) d).toNatClampNeg ≤ (nI (tN T 21 + 1)).toNatClampNeg
    by_cases h : d = c
    · subst h
      rw [upd_s, e]; exact ⟨rfl, Nat.le_refl _⟩
    · rw [upd_n h, e]
      exact ⟨q5, Nat.le_succ_of_le q6⟩
  · have hd : tN T 16 ≤ d := hd
    show upd (T.2 24) c (nI (tN T 21 + 1)) d = 0
    rw [upd_n (by omega)]; exact (hx2 d hd).2
theorem srt_sm {c : Nat} {R : List Nat} (h21 : tN T 21 < 1000000000) (hs : R.Pairwise (fun a b => tV T 24 b < tV T 24 a)) (hc : c ∉ R) (hR : ∀ w, w ∈ R → tV T 24 w ≤ tN T 21) : (c :: R).Pairwise (fun a b => tV (tSm T c) 24 b < tV (tSm T c) 24 a) := by
  have own : tV (tSm T c) 24 c = tN T 21 + 1 := by
    show (upd (T.2 24) c (nI (tN T 21 + 1)) c).toNatClampNeg = _
    rw [upd_s, nI_clamp (by omega)]
  have oth : ∀ w, w ∈ R → tV (tSm T c) 24 w = tV T 24 w := fun w hw => by
    show (upd (T.2 24) c (nI (tN T 21 + 1)) w).toNatClampNeg = _
    rw [upd_n (fun z => hc (by rw [← z]; exact hw))]
  refine List.pairwise_cons.mpr ⟨fun w hw => ?_, ?_⟩
  · rw [own, oth w hw]
    have := hR w hw
    omega
  · refine List.Pairwise.imp_of_mem ?_ hs
    intro a b ha hb hab
    rw [oth a ha, oth b hb]; exact hab
/-- the class's part -/
theorem use_L (hx : xI T rp) : ∀ (n : Nat) (o : Option Nat) (m : Nat) (x : q_S) (L : Nat → Option (List Nat)) (P R : List Nat), n < m → hI x A ab L (P ++ R) v sg rp T → chl T n o → (P ++ R).Nodup → (P ++ R).length + n ≤ 10 → (∀ w, w ∈ P ++ R → w < tN T 16) → (∀ p, p ∈ P → ∀ c, o = some c → c < p) → ∃ y L' R', jf_Sh_use_L4 m x (A 5) (nI P.length) (o.map (ab 9)) = some (y, ()) ∧ hI y A ab L' (P ++ (cl T n o ++ R')) v sg rp T ∧ R'.Sublist R ∧ (∀ w, w ∈ R' ↔ w ∈ R ∧ w ∉ cl T n o) ∧ cFr x y ∧ q_sz y ≤ q_sz x + n ∧ q_sl y ≤ q_sl x + 40 * n := by
  have done : ∀ (m : Nat) (x : q_S) (p : Int32), 0 < m → jf_Sh_use_L4 m x (A 5) p none = some (x, ()) := fun m x p hm => by
    obtain ⟨m, rfl⟩ : ∃ m', m = m' + 1 := ⟨m - 1, by omega⟩
    show jf_Sh_use_B4 (jf_Sh_use_L4 m) x (A 5) p none = _
    unfold jf_Sh_use_B4
    rw [if_pos rfl]
  intro n
  induction n with
  | zero =>
    intro o m x L P R hm hh hch hnd hl hlt hP
    cases (show o = none from hch)
    exact ⟨x, L, R, done m x _ (by omega), hh, List.Sublist.refl R, fun w => ⟨(fun z => ⟨z, fun q => by cases q⟩), fun z => z.1⟩, cFr.rf x, Nat.le_refl _, Nat.le_refl _⟩
  | succ n ih =>
    intro o m x L P R hm hh hch hnd hl hlt hP
    cases o with
    | none => exact ⟨x, L, R, done m x _ (by omega), hh, List.Sublist.refl R, fun w => ⟨(fun z => ⟨z, fun q => by cases q⟩), fun z => z.1⟩, cFr.rf x, by omega, by omega⟩
    | some c =>
      obtain ⟨hc, hch'⟩ := hch c rfl
      obtain ⟨m, rfl⟩ : ∃ m', m = m' + 1 := ⟨m - 1, by omega⟩
      have hcP : c ∉ P := fun z => by have := hP c z c rfl; omega
      -- removed
      have rm : ∃ y1 L1 R1, jf_Sh_removeFromOrder x (A 5) (some (ab 9 c)) = some (y1, ()) ∧ hI y1 A ab L1 (P ++ R1) v sg rp T ∧ R1.Sublist R ∧ (∀ w, w ∈ R1 ↔ w ∈ R ∧ w ≠ c) ∧ cFr x y1 ∧ q_sz y1 = q_sz x ∧ q_sl y1 = q_sl x := by
        unfold jf_Sh_removeFromOrder
        rcases rm_L hh hlt hc lpK (P ++ R).length 0 (Nat.zero_add _) (by unfold lpK; omega) (fun p hp => absurd hp (Nat.not_lt_zero p)) with ⟨h1, h2⟩ | ⟨p, y, L', h1, h2, h3, h4, h5, h6⟩
        · exact ⟨x, L, R, h2, hh, List.Sublist.refl R, fun w => ⟨fun z => ⟨z, fun e => h1 (by rw [← e]; exact List.mem_append_right P z)⟩, fun z => z.1⟩, cFr.rf x, rfl, rfl⟩
        · have hp : P.length ≤ p := Nat.le_of_not_lt (fun z => by
            rw [List.getElem?_append_left z] at h1
            exact hcP (List.mem_of_getElem? h1))
          rw [List.eraseIdx_append_of_length_le hp] at h3
          have hR : R[p - P.length]? = some c := by rw [List.getElem?_append_right hp] at h1; exact h1
          exact ⟨y, L', R.eraseIdx (p - P.length), h2, h3, List.eraseIdx_sublist R _, mem_er (List.nodup_append.mp hnd).2.1 hR, cFr_oL h4, h5, h6⟩
      obtain ⟨y1, L1, R1, r1, r2, r3, r4, r5, r6, r7⟩ := rm
      have s1x : q_al x 5 (A 5) = true := by
        obtain ⟨⟨kn, ⟨-, -, -, -, ⟨s1, -⟩, -⟩, -⟩, -⟩ := id hh
        exact s1
      have hl1 : R1.length ≤ R.length := r3.length_le
      rw [List.length_append] at hl
      have r20 := r2
      obtain ⟨⟨kn, ⟨-, -, -, -, ⟨s1, s2, s3, s4, s5, s6⟩, -⟩, hR⟩, ⟨hJ, hw, l2, l7, l9, l10, l11, -⟩, -, -, hCC, -⟩ := r2
      obtain ⟨⟨g1, g2, g3, g4, -⟩, -⟩ := hCC.1 c hc
      obtain ⟨y2, a1, a2, a3, a4⟩ := L_addAt (p := P.length) (v := ab 9 c) hJ l11 hw (q_ok_c g1 (by decide)) (by rw [List.length_map, List.length_append]; omega) (by rw [List.length_map, List.length_append]; omega)
      have i11 := (hJ.1 _ _ l11).1
      have eL : ((P ++ R1).map (ab 9)).take P.length ++ ab 9 c :: ((P ++ R1).map (ab 9)).drop P.length = (P ++ [c] ++ R1).map (ab 9) := by
        rw [List.map_append, List.take_left' (by rw [List.length_map]), List.drop_left' (by rw [List.length_map]), List.map_append, List.map_append, List.append_assoc]
        rfl
      have H2 : hI y2 A ab _ (P ++ [c] ++ R1) v sg rp T := hI_ord (O' := P ++ [c] ++ R1) r20 a2 a3 (by rw [if_pos rfl, eL]) (fun b hb => if_neg hb)
      obtain ⟨⟨k1, k2, k3, k4, -⟩, -⟩ := H2.2.2.2.2.1.1 c hc
      rw [List.length_map, List.length_append] at a4
      have nd2 : (P ++ [c] ++ R1).Nodup := by
        rw [List.append_assoc]
        obtain ⟨n1, n2, n3⟩ := List.nodup_append.mp hnd
        refine List.nodup_append.mpr ⟨n1, List.nodup_cons.mpr ⟨fun z => ((r4 c).mp z).2 rfl, n2.sublist r3⟩, fun a ha b hb => ?_⟩
        rcases List.mem_cons.mp hb with rfl | hb
        · exact fun z => hcP (by rw [← z]; exact ha)
        · exact n3 a ha b ((r4 b).mp hb).1
      obtain ⟨y, L', R', z1, z2, z3, z4, z5, z6, z7⟩ := ih (tO T 23 c) m y2 _ (P ++ [c]) R1 (by omega) H2 hch' nd2 (by rw [List.length_append, List.length_append, List.length_singleton]; omega) (fun w hw => by
        rcases List.mem_append.mp hw with hw | hw
        · rcases List.mem_append.mp hw with hw | hw
          · exact hlt w (List.mem_append_left R hw)
          · rw [List.mem_singleton.mp hw]; exact hc
        · exact hlt w (List.mem_append_right P ((r4 w).mp hw).1)) (fun p hp u hu => by
        have lu := ((hx.1 c hc).2.1.2 u hu).1
        rcases List.mem_append.mp hp with hp | hp
        · have := hP p hp c rfl; omega
        · rw [List.mem_singleton.mp hp]; exact lu)
      refine ⟨y, L', R', ?_, ?_, z3.trans r3, fun w => ?_, (r5.tr (cFr_oL a3)).tr z5, ?_, ?_⟩
      · show jf_Sh_use_B4 (jf_Sh_use_L4 m) x (A 5) (nI P.length) (some (ab 9 c)) = _
        unfold jf_Sh_use_B4
        rw [if_neg (fun z => by cases z), y_av s1x, Option.bind_some, r1, Option.bind_some]
        dsimp only
        rw [y_gRs s1 s6, Option.bind_some, y_av i11.1, Option.bind_some, a1, Option.bind_some]
        dsimp only
        rw [y_gR k1 k4, Option.bind_some, nI_1]
        rw [List.length_append, List.length_singleton] at z1
        exact z1
      · have e : P ++ [c] ++ (cl T n (tO T 23 c) ++ R') = P ++ (cl T (n + 1) (some c) ++ R') := by
          rw [List.append_assoc]; rfl
        rw [e] at z2
        exact z2
      · rw [z4, r4]
        show _ ↔ w ∈ R ∧ w ∉ c :: cl T n (tO T 23 c)
        rw [List.mem_cons]
        exact ⟨fun z => ⟨z.1.1, fun q => q.elim z.1.2 z.2⟩, fun z => ⟨⟨z.1, fun q => z.2 (Or.inl q)⟩, fun q => z.2 (Or.inr q)⟩⟩
      · have := a3.2.2.2.2.2.1; omega
      · omega
set_option maxHeartbeats 2000000 in
theorem use_eq {c : Nat} (hh : hI x A ab L O v sg rp T) (hp : pJ T E v sg rp) (hE : E + 3 ≤ 1000000000) (hc : c < tN T 16) (hch : chl T 3 (some c)) (hO : ∀ w, w ∈ O → w < tN T 16) (hs : O.Pairwise (fun a b => tV T 24 b < tV T 24 a)) (hl : O.length ≤ 6) : ∃ y T' L' R, jf_Sh_use x (A 5) (some (ab 9 c)) = some (y, ()) ∧ jt_Mo_use T (nI c) = some (T', ()) ∧ hI y A ab L' (cl T 3 (some c) ++ R) v sg rp T' ∧ pJ T' (E + 3) v sg rp ∧ (cl T 3 (some c) ++ R).Pairwise (fun a b => tV T' 24 b < tV T' 24 a) ∧ (∀ w, w ∈ R ↔ w ∈ O ∧ w ∉ cl T 3 (some c)) ∧ tU T T' ∧ cFr x y ∧ q_sz y ≤ q_sz x + 3 ∧ q_sl y ≤ q_sl x + 120 := by
  have hx := hp.2.2.2.2.1
  have h30 := hp.1.2.2.1.2
  have hEE := hp.1.2.2.2.2.2.2.2.2
  obtain ⟨y, L', R, z1, z2, z3, z4, z5, z6, z7⟩ := use_L (A := A) (ab := ab) (v := v) (sg := sg) hx 3 (some c) lpK x L [] O (by decide) hh hch (srt_nd hs) (by show O.length + 3 ≤ 10; omega) hO (fun p hp => by cases hp)
  have sR : R.Pairwise (fun a b => tV T 24 b < tV T 24 a) := hs.sublist z3
  have bR : ∀ w, w ∈ R → tV T 24 w ≤ tN T 21 := fun w hw => (hx.1 w (hO w ((z4 w).mp hw).1)).2.2.2.2.2
  have z1' : jf_Sh_use x (A 5) (some (ab 9 c)) = some (y, ()) := z1
  rw [List.nil_append] at z2
  have lt21 : ∀ T : tT, ∀ F, pJ T F v sg rp → F ≤ 1000000000 → tN T 21 ≤ F := fun T F h _ => h.1.2.2.2.2.2.1.2
  obtain ⟨⟨x1, x2⟩, -⟩ := (hx.1 c hc).2
  -- one stamp
  have stp : ∀ (T0 : tT) (F w : Nat) (Q : List Nat), pJ T0 F v sg rp → F + 1 ≤ 1000000000 → tN T0 16 = tN T 16 → w < tN T 16 → hI y A ab L' (cl T 3 (some c) ++ R) v sg rp T0 → Q.Pairwise (fun a b => tV T0 24 b < tV T0 24 a) → w ∉ Q → (∀ z, z ∈ Q → tV T0 24 z ≤ tN T0 21) → jt_Mo_stamp T0 (nI w) = some (tSm T0 w, ()) ∧ pJ (tSm T0 w) (F + 1) v sg rp ∧ hI y A ab L' (cl T 3 (some c) ++ R) v sg rp (tSm T0 w) ∧ (w :: Q).Pairwise (fun a b => tV (tSm T0 w) 24 b < tV (tSm T0 w) 24 a) ∧ (∀ z, z ∈ w :: Q → tV (tSm T0 w) 24 z ≤ tN (tSm T0 w) 21) := by
    intro T0 F w Q hJ hF h16 hw hi hs0 hwQ hb
    have l21 := lt21 T0 F hJ (by omega)
    have e21 : tN (tSm T0 w) 21 = tN T0 21 + 1 := nI_clamp (n := tN T0 21 + 1) (by omega)
    refine ⟨stamp_eq (by omega) hJ.1.2.2.2.2.2.1.1, pJ_sm hJ hF (by omega), hI_sm hi, srt_sm (by omega) hs0 hwQ hb, fun z hz => ?_⟩
    rw [e21]
    show (upd (T0.2 24) w (nI (tN T0 21 + 1)) z).toNatClampNeg ≤ _
    by_cases e : z = w
    · rw [e, upd_s, nI_clamp (by omega)]
      exact Nat.le_refl _
    · rw [upd_n e]
      have : tV T0 24 z ≤ tN T0 21 := hb z ((List.mem_cons.mp hz).resolve_left e)
      exact Nat.le_succ_of_le this
  have stn : ∀ T0 : tT, jt_Mo_stamp T0 (-1) = some (T0, ()) := fun T0 => by
    unfold jt_Mo_stamp; rw [if_neg (by decide)]
  have mR : ∀ w, w ∈ cl T 3 (some c) → w ∉ R := fun w hw z => ((z4 w).mp z).2 hw
  have hi0 : hI y A ab L' (cl T 3 (some c) ++ R) v sg rp T := z2
  unfold jt_Mo_use
  rw [tl_n (by omega) (by decide), Option.bind_some, x1]
  cases hu : tO T 23 c with
  | none =>
    have ec : cl T 3 (some c) = [c] := by show c :: cl T 2 (tO T 23 c) = _; rw [hu]; rfl
    obtain ⟨t1, t2, t3, t4, t5⟩ := stp T E c R hp (by omega) rfl hc hi0 sR (mR c (by rw [ec]; exact List.mem_singleton.mpr rfl)) bR
    rw [if_neg (show ¬ 0 ≤ oI none by decide), stn, Option.bind_some]
    dsimp only
    rw [show oI none = -1 from rfl, stn, Option.bind_some]
    dsimp only
    rw [t1, Option.bind_some]
    rw [ec] at t3 z4 ⊢
    exact ⟨y, _, L', R, z1', rfl, t3, ⟨t2.1.mono (by omega) (by omega), t2.2⟩, t4, z4, tU_sm T c, z5, by omega, by omega⟩
  | some u =>
    have lu := (x2 u hu).1
    obtain ⟨⟨u1, u2⟩, -⟩ := (hx.1 u (by omega)).2
    rw [if_pos (show 0 ≤ oI (some u) from nI_pos' (by omega)), show oI (some u) = nI u from rfl, tl_n (by omega) (by decide), Option.bind_some, u1]
    cases hw : tO T 23 u with
    | none =>
      have ec : cl T 3 (some c) = [c, u] := by show c :: cl T 2 (tO T 23 c) = _; rw [hu]; show c :: u :: cl T 1 (tO T 23 u) = _; rw [hw]; rfl
      obtain ⟨t1, t2, t3, t4, t5⟩ := stp T E u R hp (by omega) rfl (by omega) hi0 sR (mR u (by rw [ec]; exact List.mem_cons_of_mem _ (List.mem_singleton.mpr rfl))) bR
      obtain ⟨q1, q2, q3, q4, q5⟩ := stp (tSm T u) (E + 1) c (u :: R) t2 (by omega) rfl hc t3 t4 (fun z => by
        rcases List.mem_cons.mp z with z | z
        · omega
        · exact mR c (by rw [ec]; exact List.mem_cons_self) z) t5
      rw [show oI none = -1 from rfl, stn, Option.bind_some]
      dsimp only
      rw [t1, Option.bind_some]
      dsimp only
      rw [q1, Option.bind_some]
      rw [ec] at q3 z4 ⊢
      exact ⟨y, _, L', R, z1', rfl, q3, ⟨q2.1.mono (by omega) (by omega), q2.2⟩, q4, z4, (tU_sm T u).tr (tU_sm _ c), z5, by omega, by omega⟩
    | some w =>
      have lw := (u2 w hw).1
      have hw3 : tO T 23 w = none := (((hch c rfl).2 u hu).2 w hw).2
      have ec : cl T 3 (some c) = [c, u, w] := by show c :: cl T 2 (tO T 23 c) = _; rw [hu]; show c :: u :: cl T 1 (tO T 23 u) = _; rw [hw]; rfl
      obtain ⟨t1, t2, t3, t4, t5⟩ := stp T E w R hp (by omega) rfl (by omega) hi0 sR (mR w (by rw [ec]; simp)) bR
      obtain ⟨q1, q2, q3, q4, q5⟩ := stp (tSm T w) (E + 1) u (w :: R) t2 (by omega) rfl (by omega) t3 t4 (fun z => by
        rcases List.mem_cons.mp z with z | z
        · omega
        · exact mR u (by rw [ec]; simp) z) t5
      obtain ⟨p1, p2, p3, p4, p5⟩ := stp (tSm (tSm T w) u) (E + 1 + 1) c (u :: w :: R) q2 (by omega) rfl hc q3 q4 (fun z => by
        rcases List.mem_cons.mp z with z | z
        · omega
        · rcases List.mem_cons.mp z with z | z
          · omega
          · exact mR c (by rw [ec]; simp) z) q5
      rw [show oI (some w) = nI w from rfl, t1, Option.bind_some]
      dsimp only
      rw [q1, Option.bind_some]
      dsimp only
      rw [p1, Option.bind_some]
      rw [ec] at p3 z4 ⊢
      exact ⟨y, _, L', R, z1', rfl, p3, ⟨p2.1.mono (by omega) (by omega), p2.2⟩, p4, z4, ((tU_sm T w).tr (tU_sm _ u)).tr (tU_sm _ c), z5, by omega, by omega⟩
end US

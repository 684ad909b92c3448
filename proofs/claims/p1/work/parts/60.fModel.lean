-- BeanContextsModel.<init>(I)V
def jf_Mo_init (x : q_S) (a0 : Nat) (a1 : Int32) : Option (q_S × Unit) :=
  (q_nI x 100 36).bind fun x1 =>
  (q_pR x1 (some a0) 11 1 (some (q_sz x))).bind fun x3 =>
  (q_nI x3 10 10).bind fun x5 =>
  (q_pR x5 (some a0) 11 3 (some (q_sz x3))).bind fun x7 =>
  (q_nI x7 11 10).bind fun x9 =>
  (q_pR x9 (some a0) 11 4 (some (q_sz x7))).bind fun x11 =>
  (q_nI x11 12 10).bind fun x13 =>
  (q_pR x13 (some a0) 11 5 (some (q_sz x11))).bind fun x15 =>
  (q_nI x15 13 10).bind fun x17 =>
  (q_pR x17 (some a0) 11 6 (some (q_sz x15))).bind fun x19 =>
  (q_nI x19 14 10).bind fun x21 =>
  (q_pR x21 (some a0) 11 7 (some (q_sz x19))).bind fun x23 =>
  (q_nI x23 15 30).bind fun x25 =>
  (q_pR x25 (some a0) 11 8 (some (q_sz x23))).bind fun x27 =>
  (q_nI x27 16 30).bind fun x29 =>
  (q_pR x29 (some a0) 11 9 (some (q_sz x27))).bind fun x31 =>
  (q_nI x31 17 30).bind fun x33 =>
  (q_pR x33 (some a0) 11 10 (some (q_sz x31))).bind fun x35 =>
  (q_nI x35 18 8).bind fun x37 =>
  (q_pR x37 (some a0) 11 12 (some (q_sz x35))).bind fun x39 =>
  (q_nI x39 19 8).bind fun x41 =>
  (q_pR x41 (some a0) 11 13 (some (q_sz x39))).bind fun x43 =>
  (q_nI x43 20 8).bind fun x45 =>
  (q_pR x45 (some a0) 11 14 (some (q_sz x43))).bind fun x47 =>
  (q_nI x47 21 8).bind fun x49 =>
  (q_pR x49 (some a0) 11 15 (some (q_sz x47))).bind fun x51 =>
  (q_nI x51 22 30).bind fun x53 =>
  (q_pR x53 (some a0) 11 17 (some (q_sz x51))).bind fun x55 =>
  (q_nI x55 23 30).bind fun x57 =>
  (q_pR x57 (some a0) 11 18 (some (q_sz x55))).bind fun x59 =>
  (q_nI x59 101 30).bind fun x61 =>
  (q_pR x61 (some a0) 11 19 (some (q_sz x59))).bind fun x63 =>
  (q_nI x63 24 30).bind fun x65 =>
  (q_pR x65 (some a0) 11 20 (some (q_sz x63))).bind fun x67 =>
  (q_nI x67 25 300).bind fun x69 =>
  (q_pR x69 (some a0) 11 24 (some (q_sz x67))).bind fun x71 =>
  (q_nI x71 26 300).bind fun x73 =>
  (q_pR x73 (some a0) 11 25 (some (q_sz x71))).bind fun x75 =>
  (q_nI x75 102 300).bind fun x77 =>
  (q_pR x77 (some a0) 11 26 (some (q_sz x75))).bind fun x79 =>
  (q_nI x79 103 300).bind fun x81 =>
  (q_pR x81 (some a0) 11 27 (some (q_sz x79))).bind fun x83 =>
  (q_nI x83 27 900).bind fun x85 =>
  (q_pR x85 (some a0) 11 28 (some (q_sz x83))).bind fun x87 =>
  (q_nI x87 28 300).bind fun x89 =>
  (q_pR x89 (some a0) 11 29 (some (q_sz x87))).bind fun x91 =>
  (q_nI x91 29 300).bind fun x93 =>
  (q_pR x93 (some a0) 11 30 (some (q_sz x91))).bind fun x95 =>
  (q_nI x95 30 300).bind fun x97 =>
  (q_pR x97 (some a0) 11 31 (some (q_sz x95))).bind fun x99 =>
  (q_nI x99 31 32).bind fun x101 =>
  (q_pR x101 (some a0) 11 33 (some (q_sz x99))).bind fun x103 =>
  (q_nI x103 32 32).bind fun x105 =>
  (q_pR x105 (some a0) 11 34 (some (q_sz x103))).bind fun x107 =>
  (q_nI x107 33 32).bind fun x109 =>
  (q_pR x109 (some a0) 11 35 (some (q_sz x107))).bind fun x111 =>
  (q_nI x111 34 96).bind fun x113 =>
  (q_pR x113 (some a0) 11 36 (some (q_sz x111))).bind fun x115 =>
  (q_nI x115 35 32).bind fun x117 =>
  (q_pR x117 (some a0) 11 39 (some (q_sz x115))).bind fun x119 =>
  if 3 ≤ a1 then
    if a1 ≤ 6 then
      (q_pI x119 (some a0) 11 0 a1).bind fun x123 =>
      some (x123, ())
    else
      (q_pI x119 (some a0) 11 0 6).bind fun x125 =>
      some (x125, ())
  else
    (q_pI x119 (some a0) 11 0 3).bind fun x127 =>
    some (x127, ())
theorem jm_Mo_init {x : q_S} {a0 : Nat} {a1 : Int32} {p : q_S × Unit} (hh : jf_Mo_init x a0 a1 = some p) : q_call 1 jq_Mo_init [va_rf (some a0), .int a1] x p.1 (none) := by
  unfold jf_Mo_init at hh
  refine ⟨List.mem_of_getElem? (i := 104) rfl, Nat.le_of_ble_eq_true rfl, List.forall_mem_cons.mpr ⟨rfl, List.forall_mem_cons.mpr ⟨rfl, fun _ h => by cases h⟩⟩, ?_⟩
  show q_X (q_call 0) _ jq_Mo_init 0 [(0, va_rf (some a0)), (1, .int a1)] [] x
  refine r_aload_n 1 0 jd_Mo_init_0 rfl rfl ?_
  refine r_obj 4 11 jd_Mo_init_1 rfl (q_s8 (Nat.le_of_ble_eq_true rfl)) rfl ?_
  refine r_aload_n 5 0 jd_Mo_init_4 rfl rfl ?_
  refine r_bipush 7 36 jd_Mo_init_5 (by decide) rfl ?_
  obtain ⟨x1, e2, hh⟩ := q_bind hh
  refine r_newZ 9 100 jd_Mo_init_7 rfl e2 rfl ?_
  obtain ⟨x3, e4, hh⟩ := q_bind hh
  refine r_putA 12 82 jd_Mo_init_9 rfl rfl (Or.inr ⟨rfl, rfl⟩) e4 rfl ?_
  refine r_aload_n 13 0 jd_Mo_init_12 rfl rfl ?_
  refine r_bipush 15 10 jd_Mo_init_13 (by decide) rfl ?_
  obtain ⟨x5, e6, hh⟩ := q_bind hh
  refine r_newI 17 10 jd_Mo_init_15 rfl e6 rfl ?_
  obtain ⟨x7, e8, hh⟩ := q_bind hh
  refine r_putA 20 83 jd_Mo_init_17 rfl rfl (Or.inr ⟨rfl, rfl⟩) e8 rfl ?_
  refine r_aload_n 21 0 jd_Mo_init_20 rfl rfl ?_
  refine r_bipush 23 10 jd_Mo_init_21 (by decide) rfl ?_
  obtain ⟨x9, e10, hh⟩ := q_bind hh
  refine r_newI 25 11 jd_Mo_init_23 rfl e10 rfl ?_
  obtain ⟨x11, e12, hh⟩ := q_bind hh
  refine r_putA 28 84 jd_Mo_init_25 rfl rfl (Or.inr ⟨rfl, rfl⟩) e12 rfl ?_
  refine r_aload_n 29 0 jd_Mo_init_28 rfl rfl ?_
  refine r_bipush 31 10 jd_Mo_init_29 (by decide) rfl ?_
  obtain ⟨x13, e14, hh⟩ := q_bind hh
  refine r_newI 33 12 jd_Mo_init_31 rfl e14 rfl ?_
  obtain ⟨x15, e16, hh⟩ := q_bind hh
  refine r_putA 36 85 jd_Mo_init_33 rfl rfl (Or.inr ⟨rfl, rfl⟩) e16 rfl ?_
  refine r_aload_n 37 0 jd_Mo_init_36 rfl rfl ?_
  refine r_bipush 39 10 jd_Mo_init_37 (by decide) rfl ?_
  obtain ⟨x17, e18, hh⟩ := q_bind hh
  refine r_newI 41 13 jd_Mo_init_39 rfl e18 rfl ?_
  obtain ⟨x19, e20, hh⟩ := q_bind hh
  refine r_putA 44 86 jd_Mo_init_41 rfl rfl (Or.inr ⟨rfl, rfl⟩) e20 rfl ?_
  refine r_aload_n 45 0 jd_Mo_init_44 rfl rfl ?_
  refine r_bipush 47 10 jd_Mo_init_45 (by decide) rfl ?_
  obtain ⟨x21, e22, hh⟩ := q_bind hh
  refine r_newI 49 14 jd_Mo_init_47 rfl e22 rfl ?_
  obtain ⟨x23, e24, hh⟩ := q_bind hh
  refine r_putA 52 87 jd_Mo_init_49 rfl rfl (Or.inr ⟨rfl, rfl⟩) e24 rfl ?_
  refine r_aload_n 53 0 jd_Mo_init_52 rfl rfl ?_
  refine r_bipush 55 30 jd_Mo_init_53 (by decide) rfl ?_
  obtain ⟨x25, e26, hh⟩ := q_bind hh
  refine r_newI 57 15 jd_Mo_init_55 rfl e26 rfl ?_
  obtain ⟨x27, e28, hh⟩ := q_bind hh
  refine r_putA 60 88 jd_Mo_init_57 rfl rfl (Or.inr ⟨rfl, rfl⟩) e28 rfl ?_
  refine r_aload_n 61 0 jd_Mo_init_60 rfl rfl ?_
  refine r_bipush 63 30 jd_Mo_init_61 (by decide) rfl ?_
  obtain ⟨x29, e30, hh⟩ := q_bind hh
  refine r_newI 65 16 jd_Mo_init_63 rfl e30 rfl ?_
  obtain ⟨x31, e32, hh⟩ := q_bind hh
  refine r_putA 68 89 jd_Mo_init_65 rfl rfl (Or.inr ⟨rfl, rfl⟩) e32 rfl ?_
  refine r_aload_n 69 0 jd_Mo_init_68 rfl rfl ?_
  refine r_bipush 71 30 jd_Mo_init_69 (by decide) rfl ?_
  obtain ⟨x33, e34, hh⟩ := q_bind hh
  refine r_newI 73 17 jd_Mo_init_71 rfl e34 rfl ?_
  obtain ⟨x35, e36, hh⟩ := q_bind hh
  refine r_putA 76 90 jd_Mo_init_73 rfl rfl (Or.inr ⟨rfl, rfl⟩) e36 rfl ?_
  refine r_aload_n 77 0 jd_Mo_init_76 rfl rfl ?_
  refine r_bipush 79 8 jd_Mo_init_77 (by decide) rfl ?_
  obtain ⟨x37, e38, hh⟩ := q_bind hh
  refine r_newI 81 18 jd_Mo_init_79 rfl e38 rfl ?_
  obtain ⟨x39, e40, hh⟩ := q_bind hh
  refine r_putA 84 91 jd_Mo_init_81 rfl rfl (Or.inr ⟨rfl, rfl⟩) e40 rfl ?_
  refine r_aload_n 85 0 jd_Mo_init_84 rfl rfl ?_
  refine r_bipush 87 8 jd_Mo_init_85 (by decide) rfl ?_
  obtain ⟨x41, e42, hh⟩ := q_bind hh
  refine r_newI 89 19 jd_Mo_init_87 rfl e42 rfl ?_
  obtain ⟨x43, e44, hh⟩ := q_bind hh
  refine r_putA 92 92 jd_Mo_init_89 rfl rfl (Or.inr ⟨rfl, rfl⟩) e44 rfl ?_
  refine r_aload_n 93 0 jd_Mo_init_92 rfl rfl ?_
  refine r_bipush 95 8 jd_Mo_init_93 (by decide) rfl ?_
  obtain ⟨x45, e46, hh⟩ := q_bind hh
  refine r_newI 97 20 jd_Mo_init_95 rfl e46 rfl ?_
  obtain ⟨x47, e48, hh⟩ := q_bind hh
  refine r_putA 100 93 jd_Mo_init_97 rfl rfl (Or.inr ⟨rfl, rfl⟩) e48 rfl ?_
  refine r_aload_n 101 0 jd_Mo_init_100 rfl rfl ?_
  refine r_bipush 103 8 jd_Mo_init_101 (by decide) rfl ?_
  obtain ⟨x49, e50, hh⟩ := q_bind hh
  refine r_newI 105 21 jd_Mo_init_103 rfl e50 rfl ?_
  obtain ⟨x51, e52, hh⟩ := q_bind hh
  refine r_putA 108 94 jd_Mo_init_105 rfl rfl (Or.inr ⟨rfl, rfl⟩) e52 rfl ?_
  refine r_aload_n 109 0 jd_Mo_init_108 rfl rfl ?_
  refine r_bipush 111 30 jd_Mo_init_109 (by decide) rfl ?_
  obtain ⟨x53, e54, hh⟩ := q_bind hh
  refine r_newI 113 22 jd_Mo_init_111 rfl e54 rfl ?_
  obtain ⟨x55, e56, hh⟩ := q_bind hh
  refine r_putA 116 95 jd_Mo_init_113 rfl rfl (Or.inr ⟨rfl, rfl⟩) e56 rfl ?_
  refine r_aload_n 117 0 jd_Mo_init_116 rfl rfl ?_
  refine r_bipush 119 30 jd_Mo_init_117 (by decide) rfl ?_
  obtain ⟨x57, e58, hh⟩ := q_bind hh
  refine r_newI 121 23 jd_Mo_init_119 rfl e58 rfl ?_
  obtain ⟨x59, e60, hh⟩ := q_bind hh
  refine r_putA 124 96 jd_Mo_init_121 rfl rfl (Or.inr ⟨rfl, rfl⟩) e60 rfl ?_
  refine r_aload_n 125 0 jd_Mo_init_124 rfl rfl ?_
  refine r_bipush 127 30 jd_Mo_init_125 (by decide) rfl ?_
  obtain ⟨x61, e62, hh⟩ := q_bind hh
  refine r_newZ 129 101 jd_Mo_init_127 rfl e62 rfl ?_
  obtain ⟨x63, e64, hh⟩ := q_bind hh
  refine r_putA 132 97 jd_Mo_init_129 rfl rfl (Or.inr ⟨rfl, rfl⟩) e64 rfl ?_
  refine r_aload_n 133 0 jd_Mo_init_132 rfl rfl ?_
  refine r_bipush 135 30 jd_Mo_init_133 (by decide) rfl ?_
  obtain ⟨x65, e66, hh⟩ := q_bind hh
  refine r_newI 137 24 jd_Mo_init_135 rfl e66 rfl ?_
  obtain ⟨x67, e68, hh⟩ := q_bind hh
  refine r_putA 140 98 jd_Mo_init_137 rfl rfl (Or.inr ⟨rfl, rfl⟩) e68 rfl ?_
  refine r_aload_n 141 0 jd_Mo_init_140 rfl rfl ?_
  refine r_sipush 144 300 jd_Mo_init_141 (by decide) rfl ?_
  obtain ⟨x69, e70, hh⟩ := q_bind hh
  refine r_newI 146 25 jd_Mo_init_144 rfl e70 rfl ?_
  obtain ⟨x71, e72, hh⟩ := q_bind hh
  refine r_putA 149 99 jd_Mo_init_146 rfl rfl (Or.inr ⟨rfl, rfl⟩) e72 rfl ?_
  refine r_aload_n 150 0 jd_Mo_init_149 rfl rfl ?_
  refine r_sipush 153 300 jd_Mo_init_150 (by decide) rfl ?_
  obtain ⟨x73, e74, hh⟩ := q_bind hh
  refine r_newI 155 26 jd_Mo_init_153 rfl e74 rfl ?_
  obtain ⟨x75, e76, hh⟩ := q_bind hh
  refine r_putA 158 100 jd_Mo_init_155 rfl rfl (Or.inr ⟨rfl, rfl⟩) e76 rfl ?_
  refine r_aload_n 159 0 jd_Mo_init_158 rfl rfl ?_
  refine r_sipush 162 300 jd_Mo_init_159 (by decide) rfl ?_
  obtain ⟨x77, e78, hh⟩ := q_bind hh
  refine r_newZ 164 102 jd_Mo_init_162 rfl e78 rfl ?_
  obtain ⟨x79, e80, hh⟩ := q_bind hh
  refine r_putA 167 101 jd_Mo_init_164 rfl rfl (Or.inr ⟨rfl, rfl⟩) e80 rfl ?_
  refine r_aload_n 168 0 jd_Mo_init_167 rfl rfl ?_
  refine r_sipush 171 300 jd_Mo_init_168 (by decide) rfl ?_
  obtain ⟨x81, e82, hh⟩ := q_bind hh
  refine r_newZ 173 103 jd_Mo_init_171 rfl e82 rfl ?_
  obtain ⟨x83, e84, hh⟩ := q_bind hh
  refine r_putA 176 102 jd_Mo_init_173 rfl rfl (Or.inr ⟨rfl, rfl⟩) e84 rfl ?_
  refine r_aload_n 177 0 jd_Mo_init_176 rfl rfl ?_
  refine r_sipush 180 900 jd_Mo_init_177 (by decide) rfl ?_
  obtain ⟨x85, e86, hh⟩ := q_bind hh
  refine r_newI 182 27 jd_Mo_init_180 rfl e86 rfl ?_
  obtain ⟨x87, e88, hh⟩ := q_bind hh
  refine r_putA 185 103 jd_Mo_init_182 rfl rfl (Or.inr ⟨rfl, rfl⟩) e88 rfl ?_
  refine r_aload_n 186 0 jd_Mo_init_185 rfl rfl ?_
  refine r_sipush 189 300 jd_Mo_init_186 (by decide) rfl ?_
  obtain ⟨x89, e90, hh⟩ := q_bind hh
  refine r_newI 191 28 jd_Mo_init_189 rfl e90 rfl ?_
  obtain ⟨x91, e92, hh⟩ := q_bind hh
  refine r_putA 194 104 jd_Mo_init_191 rfl rfl (Or.inr ⟨rfl, rfl⟩) e92 rfl ?_
  refine r_aload_n 195 0 jd_Mo_init_194 rfl rfl ?_
  refine r_sipush 198 300 jd_Mo_init_195 (by decide) rfl ?_
  obtain ⟨x93, e94, hh⟩ := q_bind hh
  refine r_newI 200 29 jd_Mo_init_198 rfl e94 rfl ?_
  obtain ⟨x95, e96, hh⟩ := q_bind hh
  refine r_putA 203 105 jd_Mo_init_200 rfl rfl (Or.inr ⟨rfl, rfl⟩) e96 rfl ?_
  refine r_aload_n 204 0 jd_Mo_init_203 rfl rfl ?_
  refine r_sipush 207 300 jd_Mo_init_204 (by decide) rfl ?_
  obtain ⟨x97, e98, hh⟩ := q_bind hh
  refine r_newI 209 30 jd_Mo_init_207 rfl e98 rfl ?_
  obtain ⟨x99, e100, hh⟩ := q_bind hh
  refine r_putA 212 106 jd_Mo_init_209 rfl rfl (Or.inr ⟨rfl, rfl⟩) e100 rfl ?_
  refine r_aload_n 213 0 jd_Mo_init_212 rfl rfl ?_
  refine r_bipush 215 32 jd_Mo_init_213 (by decide) rfl ?_
  obtain ⟨x101, e102, hh⟩ := q_bind hh
  refine r_newI 217 31 jd_Mo_init_215 rfl e102 rfl ?_
  obtain ⟨x103, e104, hh⟩ := q_bind hh
  refine r_putA 220 107 jd_Mo_init_217 rfl rfl (Or.inr ⟨rfl, rfl⟩) e104 rfl ?_
  refine r_aload_n 221 0 jd_Mo_init_220 rfl rfl ?_
  refine r_bipush 223 32 jd_Mo_init_221 (by decide) rfl ?_
  obtain ⟨x105, e106, hh⟩ := q_bind hh
  refine r_newI 225 32 jd_Mo_init_223 rfl e106 rfl ?_
  obtain ⟨x107, e108, hh⟩ := q_bind hh
  refine r_putA 228 108 jd_Mo_init_225 rfl rfl (Or.inr ⟨rfl, rfl⟩) e108 rfl ?_
  refine r_aload_n 229 0 jd_Mo_init_228 rfl rfl ?_
  refine r_bipush 231 32 jd_Mo_init_229 (by decide) rfl ?_
  obtain ⟨x109, e110, hh⟩ := q_bind hh
  refine r_newI 233 33 jd_Mo_init_231 rfl e110 rfl ?_
  obtain ⟨x111, e112, hh⟩ := q_bind hh
  refine r_putA 236 109 jd_Mo_init_233 rfl rfl (Or.inr ⟨rfl, rfl⟩) e112 rfl ?_
  refine r_aload_n 237 0 jd_Mo_init_236 rfl rfl ?_
  refine r_bipush 239 96 jd_Mo_init_237 (by decide) rfl ?_
  obtain ⟨x113, e114, hh⟩ := q_bind hh
  refine r_newI 241 34 jd_Mo_init_239 rfl e114 rfl ?_
  obtain ⟨x115, e116, hh⟩ := q_bind hh
  refine r_putA 244 110 jd_Mo_init_241 rfl rfl (Or.inr ⟨rfl, rfl⟩) e116 rfl ?_
  refine r_aload_n 245 0 jd_Mo_init_244 rfl rfl ?_
  refine r_bipush 247 32 jd_Mo_init_245 (by decide) rfl ?_
  obtain ⟨x117, e118, hh⟩ := q_bind hh
  refine r_newI 249 35 jd_Mo_init_247 rfl e118 rfl ?_
  obtain ⟨x119, e120, hh⟩ := q_bind hh
  refine r_putA 252 111 jd_Mo_init_249 rfl rfl (Or.inr ⟨rfl, rfl⟩) e120 rfl ?_
  refine r_aload_n 253 0 jd_Mo_init_252 rfl rfl ?_
  refine r_iload_n 254 1 jd_Mo_init_253 rfl rfl ?_
  refine r_iconst 255 3 jd_Mo_init_254 (by decide) rfl ?_
  rcases q_ite hh with ⟨c121, hh⟩ | ⟨c121, hh⟩
  · refine r_ic_t 262 jd_Mo_init_255 rfl c121 ?_
    refine r_iload_n 263 1 jd_Mo_init_262 rfl rfl ?_
    refine r_bipush 265 6 jd_Mo_init_263 (by decide) rfl ?_
    rcases q_ite hh with ⟨c122, hh⟩ | ⟨c122, hh⟩
    · refine r_ic_t 273 jd_Mo_init_265 rfl c122 ?_
      refine r_iload_n 274 1 jd_Mo_init_273 rfl rfl ?_
      obtain ⟨x123, e124, hh⟩ := q_bind hh
      refine r_putI 277 112 jd_Mo_init_274 rfl rfl (Or.inr ⟨rfl, rfl⟩) e124 rfl ?_
      cases hh
      exact r_vret jd_Mo_init_277 rfl ⟨rfl, rfl⟩
    · refine r_ic_f 268 273 jd_Mo_init_265 rfl c122 rfl ?_
      refine r_bipush 270 6 jd_Mo_init_268 (by decide) rfl ?_
      refine r_goto 274 jd_Mo_init_270 rfl ?_
      obtain ⟨x125, e126, hh⟩ := q_bind hh
      refine r_putI 277 112 jd_Mo_init_274 rfl rfl (Or.inr ⟨rfl, rfl⟩) e126 rfl ?_
      cases hh
      exact r_vret jd_Mo_init_277 rfl ⟨rfl, rfl⟩
  · refine r_ic_f 258 262 jd_Mo_init_255 rfl c121 rfl ?_
    refine r_iconst 259 3 jd_Mo_init_258 (by decide) rfl ?_
    refine r_goto 274 jd_Mo_init_259 rfl ?_
    obtain ⟨x127, e128, hh⟩ := q_bind hh
    refine r_putI 277 112 jd_Mo_init_274 rfl rfl (Or.inr ⟨rfl, rfl⟩) e128 rfl ?_
    cases hh
    exact r_vret jd_Mo_init_277 rfl ⟨rfl, rfl⟩
-- BeanContextsModel.cached(I)I
def jf_Mo_cached_B21 (kk : q_S → Nat → Int32 → Int32 → Int32 → Int32 → Option (q_S × Int32)) (rc : q_S → Nat → Int32 → Int32 → Int32 → Int32 → Option (q_S × Int32)) (x : q_S) (l0 : Nat) (l1 : Int32) (l2 : Int32) (l3 : Int32) (l4 : Int32) : Option (q_S × Int32) :=
  (q_gI x (some l0) 11 16).bind fun v5 =>
  if v5 ≤ l4 then
    kk x l0 l1 l2 l3 l4
  else
    (q_gR x (some l0) 11 19).bind fun v8 =>
    (q_lI x 101 v8 l4).bind fun v10 =>
    if v10 = 0 then
      rc x l0 l1 l2 l3 (l4 + 1)
    else
      (q_gR x (some l0) 11 20).bind fun v13 =>
      (q_lI x 24 v13 l4).bind fun v15 =>
      (q_gR x (some l0) 11 20).bind fun v17 =>
      (q_lI x 24 v17 l2).bind fun v19 =>
      if v15 ≤ v19 then
        rc x l0 l1 l2 l3 (l4 + 1)
      else
        rc x l0 l1 l2 (l3 + 1) (l4 + 1)
def jf_Mo_cached_L21 (kk : q_S → Nat → Int32 → Int32 → Int32 → Int32 → Option (q_S × Int32)) : Nat → q_S → Nat → Int32 → Int32 → Int32 → Int32 → Option (q_S × Int32)
  | 0, _, _, _, _, _, _ => none
  | n + 1, x, l0, l1, l2, l3, l4 => jf_Mo_cached_B21 kk (jf_Mo_cached_L21 kk n) x l0 l1 l2 l3 l4
theorem jm_Mo_cached_B21 {p : q_S × Int32} {kk : q_S → Nat → Int32 → Int32 → Int32 → Int32 → Option (q_S × Int32)} (hkk : ∀ (x : q_S) (l0 : Nat) (l1 : Int32) (l2 : Int32) (l3 : Int32) (l4 : Int32), kk x l0 l1 l2 l3 l4 = some p → q_X (q_call 0) (fun y o => y = p.1 ∧ o = some (.int p.2)) jq_Mo_cached 70 [(0, va_rf (some l0)), (1, .int l1), (2, .int l2), (3, .int l3), (4, .int l4)] [] x) {rc : q_S → Nat → Int32 → Int32 → Int32 → Int32 → Option (q_S × Int32)} (hrc : ∀ (x : q_S) (l0 : Nat) (l1 : Int32) (l2 : Int32) (l3 : Int32) (l4 : Int32), rc x l0 l1 l2 l3 l4 = some p → q_X (q_call 0) (fun y o => y = p.1 ∧ o = some (.int p.2)) jq_Mo_cached 21 [(0, va_rf (some l0)), (1, .int l1), (2, .int l2), (3, .int l3), (4, .int l4)] [] x) (x : q_S) (l0 : Nat) (l1 : Int32) (l2 : Int32) (l3 : Int32) (l4 : Int32) (hh : jf_Mo_cached_B21 kk rc x l0 l1 l2 l3 l4 = some p) : q_X (q_call 0) (fun y o => y = p.1 ∧ o = some (.int p.2)) jq_Mo_cached 21 [(0, va_rf (some l0)), (1, .int l1), (2, .int l2), (3, .int l3), (4, .int l4)] [] x := by
  unfold jf_Mo_cached_B21 at hh
  refine r_iload 23 4 jd_Mo_cached_21 rfl rfl ?_
  refine r_aload_n 24 0 jd_Mo_cached_23 rfl rfl ?_
  obtain ⟨v5, e6, hh⟩ := q_bind hh
  refine r_getI 27 113 jd_Mo_cached_24 rfl e6 rfl ?_
  rcases q_ite hh with ⟨c7, hh⟩ | ⟨c7, hh⟩
  · refine r_ic_t 70 jd_Mo_cached_27 rfl c7 ?_
    refine q_sub [0, 1, 2, 3, 4] rfl ?_
    exact hkk _ _ _ _ _ _ hh
  · refine r_ic_f 30 70 jd_Mo_cached_27 rfl c7 rfl ?_
    refine r_aload_n 31 0 jd_Mo_cached_30 rfl rfl ?_
    obtain ⟨v8, e9, hh⟩ := q_bind hh
    refine r_getR 34 97 jd_Mo_cached_31 rfl e9 rfl ?_
    refine r_iload 36 4 jd_Mo_cached_34 rfl rfl ?_
    obtain ⟨v10, e11, hh⟩ := q_bind hh
    refine r_ldZ 37 101 jd_Mo_cached_36 rfl e11 rfl ?_
    rcases q_ite hh with ⟨c12, hh⟩ | ⟨c12, hh⟩
    · refine r_if_t 62 jd_Mo_cached_37 rfl c12 ?_
      refine r_iload_n 63 3 jd_Mo_cached_62 rfl rfl ?_
      refine r_istore_n 64 [(3, .int l3), (0, va_rf (some l0)), (1, .int l1), (2, .int l2), (4, .int l4)] jd_Mo_cached_63 (by decide) rfl rfl ?_
      refine r_iinc 67 4 [(4, .int (l4 + 1)), (3, .int l3), (0, va_rf (some l0)), (1, .int l1), (2, .int l2)] 1 jd_Mo_cached_64 rfl (by decide) (by decide) rfl rfl ?_
      refine r_goto 21 jd_Mo_cached_67 rfl ?_
      refine q_sub [2, 3, 4, 1, 0] rfl ?_
      exact hrc _ _ _ _ _ _ hh
    · refine r_if_f 40 62 jd_Mo_cached_37 rfl c12 rfl ?_
      refine r_aload_n 41 0 jd_Mo_cached_40 rfl rfl ?_
      obtain ⟨v13, e14, hh⟩ := q_bind hh
      refine r_getR 44 98 jd_Mo_cached_41 rfl e14 rfl ?_
      refine r_iload 46 4 jd_Mo_cached_44 rfl rfl ?_
      obtain ⟨v15, e16, hh⟩ := q_bind hh
      refine r_ldI 47 24 jd_Mo_cached_46 rfl e16 rfl ?_
      refine r_aload_n 48 0 jd_Mo_cached_47 rfl rfl ?_
      obtain ⟨v17, e18, hh⟩ := q_bind hh
      refine r_getR 51 98 jd_Mo_cached_48 rfl e18 rfl ?_
      refine r_iload_n 52 2 jd_Mo_cached_51 rfl rfl ?_
      obtain ⟨v19, e20, hh⟩ := q_bind hh
      refine r_ldI 53 24 jd_Mo_cached_52 rfl e20 rfl ?_
      rcases q_ite hh with ⟨c21, hh⟩ | ⟨c21, hh⟩
      · refine r_ic_t 62 jd_Mo_cached_53 rfl c21 ?_
        refine r_iload_n 63 3 jd_Mo_cached_62 rfl rfl ?_
        refine r_istore_n 64 [(3, .int l3), (0, va_rf (some l0)), (1, .int l1), (2, .int l2), (4, .int l4)] jd_Mo_cached_63 (by decide) rfl rfl ?_
        refine r_iinc 67 4 [(4, .int (l4 + 1)), (3, .int l3), (0, va_rf (some l0)), (1, .int l1), (2, .int l2)] 1 jd_Mo_cached_64 rfl (by decide) (by decide) rfl rfl ?_
        refine r_goto 21 jd_Mo_cached_67 rfl ?_
        refine q_sub [2, 3, 4, 1, 0] rfl ?_
        exact hrc _ _ _ _ _ _ hh
      · refine r_ic_f 56 62 jd_Mo_cached_53 rfl c21 rfl ?_
        refine r_iload_n 57 3 jd_Mo_cached_56 rfl rfl ?_
        refine r_iconst 58 1 jd_Mo_cached_57 (by decide) rfl ?_
        refine r_iadd 59 jd_Mo_cached_58 rfl ?_
        refine r_goto 63 jd_Mo_cached_59 rfl ?_
        refine r_istore_n 64 [(3, .int (l3 + 1)), (0, va_rf (some l0)), (1, .int l1), (2, .int l2), (4, .int l4)] jd_Mo_cached_63 (by decide) rfl rfl ?_
        refine r_iinc 67 4 [(4, .int (l4 + 1)), (3, .int (l3 + 1)), (0, va_rf (some l0)), (1, .int l1), (2, .int l2)] 1 jd_Mo_cached_64 rfl (by decide) (by decide) rfl rfl ?_
        refine r_goto 21 jd_Mo_cached_67 rfl ?_
        refine q_sub [2, 3, 4, 1, 0] rfl ?_
        exact hrc _ _ _ _ _ _ hh
theorem jm_Mo_cached_L21 {p : q_S × Int32} {kk : q_S → Nat → Int32 → Int32 → Int32 → Int32 → Option (q_S × Int32)} (hkk : ∀ (x : q_S) (l0 : Nat) (l1 : Int32) (l2 : Int32) (l3 : Int32) (l4 : Int32), kk x l0 l1 l2 l3 l4 = some p → q_X (q_call 0) (fun y o => y = p.1 ∧ o = some (.int p.2)) jq_Mo_cached 70 [(0, va_rf (some l0)), (1, .int l1), (2, .int l2), (3, .int l3), (4, .int l4)] [] x) : ∀ (n : Nat) (x : q_S) (l0 : Nat) (l1 : Int32) (l2 : Int32) (l3 : Int32) (l4 : Int32), jf_Mo_cached_L21 kk n x l0 l1 l2 l3 l4 = some p → q_X (q_call 0) (fun y o => y = p.1 ∧ o = some (.int p.2)) jq_Mo_cached 21 [(0, va_rf (some l0)), (1, .int l1), (2, .int l2), (3, .int l3), (4, .int l4)] [] x
  | 0, _, _, _, _, _, _, hh => nomatch hh
  | n + 1, x, l0, l1, l2, l3, l4, hh => jm_Mo_cached_B21 hkk (jm_Mo_cached_L21 hkk n) x l0 l1 l2 l3 l4 hh
def jf_Mo_cached_B8 (rc : q_S → Nat → Int32 → Int32 → Option (q_S × Int32)) (x : q_S) (l0 : Nat) (l1 : Int32) (l2 : Int32) : Option (q_S × Int32) :=
  (q_gI x (some l0) 11 16).bind fun v2 =>
  if v2 ≤ l2 then
    some (x, (-1))
  else
    jf_Mo_cached_L21 (fun y22 l0_22 l1_22 l2_22 l3_22 l4_22 =>
      (q_gR y22 (some l0_22) 11 19).bind fun v23 =>
      (q_lI y22 101 v23 l2_22).bind fun v25 =>
      if v25 = 0 then
        rc y22 l0_22 l1_22 (l2_22 + 1)
      else
        if l3_22 = l1_22 then
          some (y22, l2_22)
        else
          rc y22 l0_22 l1_22 (l2_22 + 1)
    ) lpK x l0 l1 l2 0 0
def jf_Mo_cached_L8 : Nat → q_S → Nat → Int32 → Int32 → Option (q_S × Int32)
  | 0, _, _, _, _ => none
  | n + 1, x, l0, l1, l2 => jf_Mo_cached_B8 (jf_Mo_cached_L8 n) x l0 l1 l2
theorem jm_Mo_cached_B8 {p : q_S × Int32} {rc : q_S → Nat → Int32 → Int32 → Option (q_S × Int32)} (hrc : ∀ (x : q_S) (l0 : Nat) (l1 : Int32) (l2 : Int32), rc x l0 l1 l2 = some p → q_X (q_call 0) (fun y o => y = p.1 ∧ o = some (.int p.2)) jq_Mo_cached 8 [(0, va_rf (some l0)), (1, .int l1), (2, .int l2)] [] x) (x : q_S) (l0 : Nat) (l1 : Int32) (l2 : Int32) (hh : jf_Mo_cached_B8 rc x l0 l1 l2 = some p) : q_X (q_call 0) (fun y o => y = p.1 ∧ o = some (.int p.2)) jq_Mo_cached 8 [(0, va_rf (some l0)), (1, .int l1), (2, .int l2)] [] x := by
  unfold jf_Mo_cached_B8 at hh
  refine r_iload_n 9 2 jd_Mo_cached_8 rfl rfl ?_
  refine r_aload_n 10 0 jd_Mo_cached_9 rfl rfl ?_
  obtain ⟨v2, e3, hh⟩ := q_bind hh
  refine r_getI 13 113 jd_Mo_cached_10 rfl e3 rfl ?_
  rcases q_ite hh with ⟨c4, hh⟩ | ⟨c4, hh⟩
  · refine r_ic_t 92 jd_Mo_cached_13 rfl c4 ?_
    refine r_iconst 93 (-1) jd_Mo_cached_92 (by decide) rfl ?_
    cases hh
    exact r_iret jd_Mo_cached_93 rfl ⟨rfl, rfl⟩
  · refine r_ic_f 16 92 jd_Mo_cached_13 rfl c4 rfl ?_
    refine r_iconst 17 0 jd_Mo_cached_16 (by decide) rfl ?_
    refine r_istore_n 18 [(3, .int 0), (0, va_rf (some l0)), (1, .int l1), (2, .int l2)] jd_Mo_cached_17 (by decide) rfl rfl ?_
    refine r_iconst 19 0 jd_Mo_cached_18 (by decide) rfl ?_
    refine r_istore 21 [(4, .int 0), (3, .int 0), (0, va_rf (some l0)), (1, .int l1), (2, .int l2)] jd_Mo_cached_19 (by decide) rfl rfl ?_
    refine q_sub [2, 3, 4, 1, 0] rfl ?_
    refine jm_Mo_cached_L21 (fun y22 l0_22 l1_22 l2_22 l3_22 l4_22 hh => ?_) lpK _ _ _ _ _ _ hh
    refine r_aload_n 71 0 jd_Mo_cached_70 rfl rfl ?_
    obtain ⟨v23, e24, hh⟩ := q_bind hh
    refine r_getR 74 97 jd_Mo_cached_71 rfl e24 rfl ?_
    refine r_iload_n 75 2 jd_Mo_cached_74 rfl rfl ?_
    obtain ⟨v25, e26, hh⟩ := q_bind hh
    refine r_ldZ 76 101 jd_Mo_cached_75 rfl e26 rfl ?_
    rcases q_ite hh with ⟨c27, hh⟩ | ⟨c27, hh⟩
    · refine r_if_t 86 jd_Mo_cached_76 rfl c27 ?_
      refine r_iinc 89 2 [(2, .int (l2_22 + 1)), (0, va_rf (some l0_22)), (1, .int l1_22), (3, .int l3_22), (4, .int l4_22)] 1 jd_Mo_cached_86 rfl (by decide) (by decide) rfl rfl ?_
      refine r_goto 8 jd_Mo_cached_89 rfl ?_
      refine q_sub [1, 2, 0] rfl ?_
      exact hrc _ _ _ _ hh
    · refine r_if_f 79 86 jd_Mo_cached_76 rfl c27 rfl ?_
      refine r_iload_n 80 3 jd_Mo_cached_79 rfl rfl ?_
      refine r_iload_n 81 1 jd_Mo_cached_80 rfl rfl ?_
      rcases q_ite hh with ⟨c28, hh⟩ | ⟨c28, hh⟩
      · refine r_ic_f 84 86 jd_Mo_cached_81 rfl (fun z => z c28) rfl ?_
        refine r_iload_n 85 2 jd_Mo_cached_84 rfl rfl ?_
        cases hh
        exact r_iret jd_Mo_cached_85 rfl ⟨rfl, rfl⟩
      · refine r_ic_t 86 jd_Mo_cached_81 rfl c28 ?_
        refine r_iinc 89 2 [(2, .int (l2_22 + 1)), (0, va_rf (some l0_22)), (1, .int l1_22), (3, .int l3_22), (4, .int l4_22)] 1 jd_Mo_cached_86 rfl (by decide) (by decide) rfl rfl ?_
        refine r_goto 8 jd_Mo_cached_89 rfl ?_
        refine q_sub [1, 2, 0] rfl ?_
        exact hrc _ _ _ _ hh
theorem jm_Mo_cached_L8 {p : q_S × Int32} : ∀ (n : Nat) (x : q_S) (l0 : Nat) (l1 : Int32) (l2 : Int32), jf_Mo_cached_L8 n x l0 l1 l2 = some p → q_X (q_call 0) (fun y o => y = p.1 ∧ o = some (.int p.2)) jq_Mo_cached 8 [(0, va_rf (some l0)), (1, .int l1), (2, .int l2)] [] x
  | 0, _, _, _, _, hh => nomatch hh
  | n + 1, x, l0, l1, l2, hh => jm_Mo_cached_B8 (jm_Mo_cached_L8 n) x l0 l1 l2 hh
def jf_Mo_cached (x : q_S) (a0 : Nat) (a1 : Int32) : Option (q_S × Int32) :=
  if 0 ≤ a1 then
    jf_Mo_cached_L8 lpK x a0 a1 0
  else
    some (x, (-1))
theorem jm_Mo_cached {x : q_S} {a0 : Nat} {a1 : Int32} {p : q_S × Int32} (hh : jf_Mo_cached x a0 a1 = some p) : q_call 1 jq_Mo_cached [va_rf (some a0), .int a1] x p.1 (some (.int p.2)) := by
  unfold jf_Mo_cached at hh
  refine ⟨List.mem_of_getElem? (i := 105) rfl, Nat.le_of_ble_eq_true rfl, List.forall_mem_cons.mpr ⟨rfl, List.forall_mem_cons.mpr ⟨rfl, fun _ h => by cases h⟩⟩, ?_⟩
  show q_X (q_call 0) _ jq_Mo_cached 0 [(0, va_rf (some a0)), (1, .int a1)] [] x
  refine r_iload_n 1 1 jd_Mo_cached_0 rfl rfl ?_
  rcases q_ite hh with ⟨c1, hh⟩ | ⟨c1, hh⟩
  · refine r_if_t 6 jd_Mo_cached_1 rfl c1 ?_
    refine r_iconst 7 0 jd_Mo_cached_6 (by decide) rfl ?_
    refine r_istore_n 8 [(2, .int 0), (0, va_rf (some a0)), (1, .int a1)] jd_Mo_cached_7 (by decide) rfl rfl ?_
    refine q_sub [1, 2, 0] rfl ?_
    exact jm_Mo_cached_L8 lpK _ _ _ _ hh
  · refine r_if_f 4 6 jd_Mo_cached_1 rfl c1 rfl ?_
    refine r_iconst 5 (-1) jd_Mo_cached_4 (by decide) rfl ?_
    cases hh
    exact r_iret jd_Mo_cached_5 rfl ⟨rfl, rfl⟩
-- BeanContextsModel.in(III)Z
def jf_Mo_in (x : q_S) (a0 : Int32) (a1 : Int32) (a2 : Int32) : Option (q_S × Int32) :=
  if a0 < a1 then
    some (x, 0)
  else
    if a2 < a0 then
      some (x, 0)
    else
      some (x, 1)
theorem jm_Mo_in {x : q_S} {a0 : Int32} {a1 : Int32} {a2 : Int32} {p : q_S × Int32} (hh : jf_Mo_in x a0 a1 a2 = some p) : q_call 1 jq_Mo_in [.int a0, .int a1, .int a2] x p.1 (some (.int p.2)) := by
  unfold jf_Mo_in at hh
  refine ⟨List.mem_of_getElem? (i := 108) rfl, Nat.le_of_ble_eq_true rfl, List.forall_mem_cons.mpr ⟨rfl, List.forall_mem_cons.mpr ⟨rfl, List.forall_mem_cons.mpr ⟨rfl, fun _ h => by cases h⟩⟩⟩, ?_⟩
  show q_X (q_call 0) _ jq_Mo_in 0 [(0, .int a0), (1, .int a1), (2, .int a2)] [] x
  refine r_iload_n 1 0 jd_Mo_in_0 rfl rfl ?_
  refine r_iload_n 2 1 jd_Mo_in_1 rfl rfl ?_
  rcases q_ite hh with ⟨c1, hh⟩ | ⟨c1, hh⟩
  · refine r_ic_t 14 jd_Mo_in_2 rfl c1 ?_
    refine r_iconst 15 0 jd_Mo_in_14 (by decide) rfl ?_
    cases hh
    exact r_zret jd_Mo_in_15 rfl (by decide) ⟨rfl, rfl⟩
  · refine r_ic_f 5 14 jd_Mo_in_2 rfl c1 rfl ?_
    refine r_iload_n 6 0 jd_Mo_in_5 rfl rfl ?_
    refine r_iload_n 7 2 jd_Mo_in_6 rfl rfl ?_
    rcases q_ite hh with ⟨c2, hh⟩ | ⟨c2, hh⟩
    · refine r_ic_t 14 jd_Mo_in_7 rfl c2 ?_
      refine r_iconst 15 0 jd_Mo_in_14 (by decide) rfl ?_
      cases hh
      exact r_zret jd_Mo_in_15 rfl (by decide) ⟨rfl, rfl⟩
    · refine r_ic_f 10 14 jd_Mo_in_7 rfl c2 rfl ?_
      refine r_iconst 11 1 jd_Mo_in_10 (by decide) rfl ?_
      refine r_goto 15 jd_Mo_in_11 rfl ?_
      cases hh
      exact r_zret jd_Mo_in_15 rfl (by decide) ⟨rfl, rfl⟩
-- BeanContextsModel.live(I)Z
def jf_Mo_live (x : q_S) (a0 : Nat) (a1 : Int32) : Option (q_S × Int32) :=
  (q_gI x (some a0) 11 23).bind fun v1 =>
  (jf_Mo_in x a1 0 (v1 - 1)).bind fun p3 =>
  if p3.2 = 0 then
    some (p3.1, 0)
  else
    (q_gR p3.1 (some a0) 11 27).bind fun v6 =>
    (q_lI p3.1 103 v6 a1).bind fun v8 =>
    if v8 = 0 then
      some (p3.1, 1)
    else
      some (p3.1, 0)
theorem jm_Mo_live {x : q_S} {a0 : Nat} {a1 : Int32} {p : q_S × Int32} (hh : jf_Mo_live x a0 a1 = some p) : q_call 2 jq_Mo_live [va_rf (some a0), .int a1] x p.1 (some (.int p.2)) := by
  unfold jf_Mo_live at hh
  refine ⟨List.mem_of_getElem? (i := 107) rfl, Nat.le_of_ble_eq_true rfl, List.forall_mem_cons.mpr ⟨rfl, List.forall_mem_cons.mpr ⟨rfl, fun _ h => by cases h⟩⟩, ?_⟩
  show q_X (q_call 1) _ jq_Mo_live 0 [(0, va_rf (some a0)), (1, .int a1)] [] x
  refine r_iload_n 1 1 jd_Mo_live_0 rfl rfl ?_
  refine r_iconst 2 0 jd_Mo_live_1 (by decide) rfl ?_
  refine r_aload_n 3 0 jd_Mo_live_2 rfl rfl ?_
  obtain ⟨v1, e2, hh⟩ := q_bind hh
  refine r_getI 6 114 jd_Mo_live_3 rfl e2 rfl ?_
  refine r_iconst 7 1 jd_Mo_live_6 (by decide) rfl ?_
  refine r_isub 8 jd_Mo_live_7 rfl ?_
  obtain ⟨p3, e4, hh⟩ := q_bind hh
  refine r_cS (rest := []) 11 21 [.int a1, .int 0, .int (v1 - 1)] [.int p3.2] jd_Mo_live_8 rfl rfl rfl (q_s8 (Nat.le_of_ble_eq_true rfl)) (q_call_le (Nat.le_of_ble_eq_true rfl) (jm_Mo_in e4)) rfl rfl ?_
  rcases q_ite hh with ⟨c5, hh⟩ | ⟨c5, hh⟩
  · refine r_if_t 27 jd_Mo_live_11 rfl c5 ?_
    refine r_iconst 28 0 jd_Mo_live_27 (by decide) rfl ?_
    cases hh
    exact r_zret jd_Mo_live_28 rfl (by decide) ⟨rfl, rfl⟩
  · refine r_if_f 14 27 jd_Mo_live_11 rfl c5 rfl ?_
    refine r_aload_n 15 0 jd_Mo_live_14 rfl rfl ?_
    obtain ⟨v6, e7, hh⟩ := q_bind hh
    refine r_getR 18 102 jd_Mo_live_15 rfl e7 rfl ?_
    refine r_iload_n 19 1 jd_Mo_live_18 rfl rfl ?_
    obtain ⟨v8, e9, hh⟩ := q_bind hh
    refine r_ldZ 20 103 jd_Mo_live_19 rfl e9 rfl ?_
    rcases q_ite hh with ⟨c10, hh⟩ | ⟨c10, hh⟩
    · refine r_if_f 23 27 jd_Mo_live_20 rfl (fun z => z c10) rfl ?_
      refine r_iconst 24 1 jd_Mo_live_23 (by decide) rfl ?_
      refine r_goto 28 jd_Mo_live_24 rfl ?_
      cases hh
      exact r_zret jd_Mo_live_28 rfl (by decide) ⟨rfl, rfl⟩
    · refine r_if_t 27 jd_Mo_live_20 rfl c10 ?_
      refine r_iconst 28 0 jd_Mo_live_27 (by decide) rfl ?_
      cases hh
      exact r_zret jd_Mo_live_28 rfl (by decide) ⟨rfl, rfl⟩
-- BeanContextsModel.call(II)J
def jf_Mo_call_B23 (rc : q_S → Nat → Int32 → Int32 → Int32 → Int32 → Option (q_S × Int64)) (x : q_S) (l0 : Nat) (l3 : Int32) (l4 : Int32) (l5 : Int32) (l6 : Int32) : Option (q_S × Int64) :=
  if 301 ≤ l6 then
    some (x, 4294967296)
  else
    (q_gR x (some l0) 11 26).bind fun v7 =>
    (q_lI x 102 v7 l3).bind fun v9 =>
    if v9 = 0 then
      (q_gR x (some l0) 11 25).bind fun v12 =>
      (q_lI x 26 v12 l3).bind fun v14 =>
      (q_gR x (some l0) 11 28).bind fun v16 =>
      (q_lI x 27 v16 ((3 : Int32) * l3)).bind fun v18 =>
      if 0 ≤ v18 then
        (q_gR x (some l0) 11 28).bind fun v21 =>
        (q_lI x 27 v21 ((3 : Int32) * l3)).bind fun v23 =>
        rc x l0 v23 (l4 + 1) (l5 + v14) (l6 + 1)
      else
        some (x, ((l5 + v14) + l4).toInt64)
    else
      (q_gR x (some l0) 11 30).bind fun v25 =>
      (q_lI x 29 v25 l3).bind fun v27 =>
      (q_sI x 29 v25 l3 (v27 + 1)).bind fun x29 =>
      (q_gR x29 (some l0) 11 31).bind fun v31 =>
      (q_sI x29 30 v31 l3 l4).bind fun x33 =>
      (q_gR x33 (some l0) 11 29).bind fun v35 =>
      (q_lI x33 28 v35 l3).bind fun v37 =>
      some (x33, (l5 + v37).toInt64)
def jf_Mo_call_L23 : Nat → q_S → Nat → Int32 → Int32 → Int32 → Int32 → Option (q_S × Int64)
  | 0, _, _, _, _, _, _ => none
  | n + 1, x, l0, l3, l4, l5, l6 => jf_Mo_call_B23 (jf_Mo_call_L23 n) x l0 l3 l4 l5 l6
theorem jm_Mo_call_B23 {p : q_S × Int64} {rc : q_S → Nat → Int32 → Int32 → Int32 → Int32 → Option (q_S × Int64)} (hrc : ∀ (x : q_S) (l0 : Nat) (l3 : Int32) (l4 : Int32) (l5 : Int32) (l6 : Int32), rc x l0 l3 l4 l5 l6 = some p → q_X (q_call 2) (fun y o => y = p.1 ∧ o = some (.long p.2)) jq_Mo_call 23 [(0, va_rf (some l0)), (3, .int l3), (4, .int l4), (5, .int l5), (6, .int l6)] [] x) (x : q_S) (l0 : Nat) (l3 : Int32) (l4 : Int32) (l5 : Int32) (l6 : Int32) (hh : jf_Mo_call_B23 rc x l0 l3 l4 l5 l6 = some p) : q_X (q_call 2) (fun y o => y = p.1 ∧ o = some (.long p.2)) jq_Mo_call 23 [(0, va_rf (some l0)), (3, .int l3), (4, .int l4), (5, .int l5), (6, .int l6)] [] x := by
  unfold jf_Mo_call_B23 at hh
  refine r_iload 25 4 jd_Mo_call_23 rfl rfl ?_
  refine r_sipush 28 301 jd_Mo_call_25 (by decide) rfl ?_
  rcases q_ite hh with ⟨c6, hh⟩ | ⟨c6, hh⟩
  · refine r_ic_t 116 jd_Mo_call_28 rfl c6 ?_
    refine r_ldc2 119 1 jd_Mo_call_116 rfl rfl ?_
    cases hh
    exact r_lret jd_Mo_call_119 rfl ⟨rfl, rfl⟩
  · refine r_ic_f 31 116 jd_Mo_call_28 rfl c6 rfl ?_
    refine r_aload_n 32 0 jd_Mo_call_31 rfl rfl ?_
    obtain ⟨v7, e8, hh⟩ := q_bind hh
    refine r_getR 35 101 jd_Mo_call_32 rfl e8 rfl ?_
    refine r_iload_n 36 1 jd_Mo_call_35 rfl rfl ?_
    obtain ⟨v9, e10, hh⟩ := q_bind hh
    refine r_ldZ 37 102 jd_Mo_call_36 rfl e10 rfl ?_
    rcases q_ite hh with ⟨c11, hh⟩ | ⟨c11, hh⟩
    · refine r_if_t 69 jd_Mo_call_37 rfl c11 ?_
      refine r_iload 71 3 jd_Mo_call_69 rfl rfl ?_
      refine r_aload_n 72 0 jd_Mo_call_71 rfl rfl ?_
      obtain ⟨v12, e13, hh⟩ := q_bind hh
      refine r_getR 75 100 jd_Mo_call_72 rfl e13 rfl ?_
      refine r_iload_n 76 1 jd_Mo_call_75 rfl rfl ?_
      obtain ⟨v14, e15, hh⟩ := q_bind hh
      refine r_ldI 77 26 jd_Mo_call_76 rfl e15 rfl ?_
      refine r_iadd 78 jd_Mo_call_77 rfl ?_
      refine r_istore 80 [(5, .int (l5 + v14)), (0, va_rf (some l0)), (3, .int l3), (4, .int l4), (6, .int l6)] jd_Mo_call_78 (by decide) rfl rfl ?_
      refine r_aload_n 81 1 jd_Mo_call_80 rfl rfl ?_
      obtain ⟨v16, e17, hh⟩ := q_bind hh
      refine r_getR 84 103 jd_Mo_call_81 rfl e17 rfl ?_
      refine r_iconst 85 3 jd_Mo_call_84 (by decide) rfl ?_
      refine r_iload_n 86 2 jd_Mo_call_85 rfl rfl ?_
      refine r_imul 87 jd_Mo_call_86 rfl ?_
      obtain ⟨v18, e19, hh⟩ := q_bind hh
      refine r_ldI 88 27 jd_Mo_call_87 rfl e19 rfl ?_
      rcases q_ite hh with ⟨c20, hh⟩ | ⟨c20, hh⟩
      · refine r_if_t 98 jd_Mo_call_88 rfl c20 ?_
        refine r_aload_n 99 1 jd_Mo_call_98 rfl rfl ?_
        obtain ⟨v21, e22, hh⟩ := q_bind hh
        refine r_getR 102 103 jd_Mo_call_99 rfl e22 rfl ?_
        refine r_iconst 103 3 jd_Mo_call_102 (by decide) rfl ?_
        refine r_iload_n 104 2 jd_Mo_call_103 rfl rfl ?_
        refine r_imul 105 jd_Mo_call_104 rfl ?_
        obtain ⟨v23, e24, hh⟩ := q_bind hh
        refine r_ldI 106 27 jd_Mo_call_105 rfl e24 rfl ?_
        refine r_istore_n 107 [(3, .int v23), (5, .int (l5 + v14)), (0, va_rf (some l0)), (4, .int l4), (6, .int l6)] jd_Mo_call_106 (by decide) rfl rfl ?_
        refine r_iinc 110 3 [(4, .int (l4 + 1)), (3, .int v23), (5, .int (l5 + v14)), (0, va_rf (some l0)), (6, .int l6)] 1 jd_Mo_call_107 rfl (by decide) (by decide) rfl rfl ?_
        refine r_iinc 113 4 [(6, .int (l6 + 1)), (4, .int (l4 + 1)), (3, .int v23), (5, .int (l5 + v14)), (0, va_rf (some l0))] 1 jd_Mo_call_110 rfl (by decide) (by decide) rfl rfl ?_
        refine r_goto 23 jd_Mo_call_113 rfl ?_
        refine q_sub [4, 2, 1, 3, 0] rfl ?_
        exact hrc _ _ _ _ _ _ hh
      · refine r_if_f 91 98 jd_Mo_call_88 rfl c20 rfl ?_
        refine r_iload 93 0 jd_Mo_call_91 rfl rfl ?_
        refine r_iload 95 3 jd_Mo_call_93 rfl rfl ?_
        refine r_iadd 96 jd_Mo_call_95 rfl ?_
        refine r_i2l 97 jd_Mo_call_96 rfl ?_
        cases hh
        exact r_lret jd_Mo_call_97 rfl ⟨rfl, rfl⟩
    · refine r_if_f 40 69 jd_Mo_call_37 rfl c11 rfl ?_
      refine r_aload_n 41 0 jd_Mo_call_40 rfl rfl ?_
      obtain ⟨v25, e26, hh⟩ := q_bind hh
      refine r_getR 44 105 jd_Mo_call_41 rfl e26 rfl ?_
      refine r_iload_n 45 1 jd_Mo_call_44 rfl rfl ?_
      refine r_dup2IR 46 jd_Mo_call_45 rfl ?_
      obtain ⟨v27, e28, hh⟩ := q_bind hh
      refine r_ldI 47 29 jd_Mo_call_46 rfl e28 rfl ?_
      refine r_iconst 48 1 jd_Mo_call_47 (by decide) rfl ?_
      refine r_iadd 49 jd_Mo_call_48 rfl ?_
      obtain ⟨x29, e30, hh⟩ := q_bind hh
      refine r_stI 50 29 jd_Mo_call_49 rfl e30 rfl ?_
      refine r_aload_n 51 0 jd_Mo_call_50 rfl rfl ?_
      obtain ⟨v31, e32, hh⟩ := q_bind hh
      refine r_getR 54 106 jd_Mo_call_51 rfl e32 rfl ?_
      refine r_iload_n 55 1 jd_Mo_call_54 rfl rfl ?_
      refine r_iload 57 2 jd_Mo_call_55 rfl rfl ?_
      obtain ⟨x33, e34, hh⟩ := q_bind hh
      refine r_stI 58 30 jd_Mo_call_57 rfl e34 rfl ?_
      refine r_iload 60 3 jd_Mo_call_58 rfl rfl ?_
      refine r_aload_n 61 0 jd_Mo_call_60 rfl rfl ?_
      obtain ⟨v35, e36, hh⟩ := q_bind hh
      refine r_getR 64 104 jd_Mo_call_61 rfl e36 rfl ?_
      refine r_iload_n 65 1 jd_Mo_call_64 rfl rfl ?_
      obtain ⟨v37, e38, hh⟩ := q_bind hh
      refine r_ldI 66 28 jd_Mo_call_65 rfl e38 rfl ?_
      refine r_iadd 67 jd_Mo_call_66 rfl ?_
      refine r_i2l 68 jd_Mo_call_67 rfl ?_
      cases hh
      exact r_lret jd_Mo_call_68 rfl ⟨rfl, rfl⟩
theorem jm_Mo_call_L23 {p : q_S × Int64} : ∀ (n : Nat) (x : q_S) (l0 : Nat) (l3 : Int32) (l4 : Int32) (l5 : Int32) (l6 : Int32), jf_Mo_call_L23 n x l0 l3 l4 l5 l6 = some p → q_X (q_call 2) (fun y o => y = p.1 ∧ o = some (.long p.2)) jq_Mo_call 23 [(0, va_rf (some l0)), (3, .int l3), (4, .int l4), (5, .int l5), (6, .int l6)] [] x
  | 0, _, _, _, _, _, _, hh => nomatch hh
  | n + 1, x, l0, l3, l4, l5, l6, hh => jm_Mo_call_B23 (jm_Mo_call_L23 n) x l0 l3 l4 l5 l6 hh
def jf_Mo_call (x : q_S) (a0 : Nat) (a1 : Int32) (a2 : Int32) : Option (q_S × Int64) :=
  (q_av x (some a0) 11).bind fun b3 =>
  (jf_Mo_live x b3 a1).bind fun p1 =>
  if p1.2 = 0 then
    some (p1.1, 4294967296)
  else
    jf_Mo_call_L23 lpK p1.1 a0 a1 a2 0 0
theorem jm_Mo_call {x : q_S} {a0 : Nat} {a1 : Int32} {a2 : Int32} {p : q_S × Int64} (hh : jf_Mo_call x a0 a1 a2 = some p) : q_call 3 jq_Mo_call [va_rf (some a0), .int a1, .int a2] x p.1 (some (.long p.2)) := by
  unfold jf_Mo_call at hh
  refine ⟨List.mem_of_getElem? (i := 106) rfl, Nat.le_of_ble_eq_true rfl, List.forall_mem_cons.mpr ⟨rfl, List.forall_mem_cons.mpr ⟨rfl, List.forall_mem_cons.mpr ⟨rfl, fun _ h => by cases h⟩⟩⟩, ?_⟩
  show q_X (q_call 2) _ jq_Mo_call 0 [(0, va_rf (some a0)), (1, .int a1), (2, .int a2)] [] x
  refine r_aload_n 1 0 jd_Mo_call_0 rfl rfl ?_
  refine r_iload_n 2 1 jd_Mo_call_1 rfl rfl ?_
  obtain ⟨b3, e4, hh⟩ := q_bind hh
  obtain ⟨p1, e2, hh⟩ := q_bind hh
  refine r_cV (rest := []) 5 115 11 [.int a1] [.int p1.2] jd_Mo_call_2 rfl e4 rfl rfl rfl rfl (q_s8 (Nat.le_of_ble_eq_true rfl)) (q_call_le (Nat.le_of_ble_eq_true rfl) (jm_Mo_live e2)) rfl rfl ?_
  rcases q_ite hh with ⟨c5, hh⟩ | ⟨c5, hh⟩
  · refine r_if_f 8 12 jd_Mo_call_5 rfl (fun z => z c5) rfl ?_
    refine r_ldc2 11 1 jd_Mo_call_8 rfl rfl ?_
    cases hh
    exact r_lret jd_Mo_call_11 rfl ⟨rfl, rfl⟩
  · refine r_if_t 12 jd_Mo_call_5 rfl c5 ?_
    refine r_iload_n 13 1 jd_Mo_call_12 rfl rfl ?_
    refine r_istore_n 14 [(3, .int a1), (0, va_rf (some a0)), (1, .int a1), (2, .int a2)] jd_Mo_call_13 (by decide) rfl rfl ?_
    refine r_iload_n 15 3 jd_Mo_call_14 rfl rfl ?_
    refine r_istore 17 [(4, .int a2), (3, .int a1), (0, va_rf (some a0)), (1, .int a1), (2, .int a2)] jd_Mo_call_15 (by decide) rfl rfl ?_
    refine r_iconst 18 0 jd_Mo_call_17 (by decide) rfl ?_
    refine r_istore 20 [(5, .int 0), (4, .int a2), (3, .int a1), (0, va_rf (some a0)), (1, .int a1), (2, .int a2)] jd_Mo_call_18 (by decide) rfl rfl ?_
    refine r_iconst 21 0 jd_Mo_call_20 (by decide) rfl ?_
    refine r_istore 23 [(6, .int 0), (5, .int 0), (4, .int a2), (3, .int a1), (0, va_rf (some a0)), (1, .int a1), (2, .int a2)] jd_Mo_call_21 (by decide) rfl rfl ?_
    refine q_sub [4, 3, 2, 1, 0] rfl ?_
    exact jm_Mo_call_L23 lpK _ _ _ _ _ _ hh
-- BeanContextsModel.isConfiguration(I)Z
def jf_Mo_isConfiguration (x : q_S) (a0 : Nat) (a1 : Int32) : Option (q_S × Int32) :=
  (q_gI x (some a0) 11 11).bind fun v1 =>
  (jf_Mo_in x a1 0 (v1 - 1)).bind fun p3 =>
  if p3.2 &&& 1 = p3.2 then some (p3.1, p3.2) else none
theorem jm_Mo_isConfiguration {x : q_S} {a0 : Nat} {a1 : Int32} {p : q_S × Int32} (hh : jf_Mo_isConfiguration x a0 a1 = some p) : q_call 2 jq_Mo_isConfiguration [va_rf (some a0), .int a1] x p.1 (some (.int p.2)) := by
  unfold jf_Mo_isConfiguration at hh
  refine ⟨List.mem_of_getElem? (i := 110) rfl, Nat.le_of_ble_eq_true rfl, List.forall_mem_cons.mpr ⟨rfl, List.forall_mem_cons.mpr ⟨rfl, fun _ h => by cases h⟩⟩, ?_⟩
  show q_X (q_call 1) _ jq_Mo_isConfiguration 0 [(0, va_rf (some a0)), (1, .int a1)] [] x
  refine r_iload_n 1 1 jd_Mo_isConfiguration_0 rfl rfl ?_
  refine r_iconst 2 0 jd_Mo_isConfiguration_1 (by decide) rfl ?_
  refine r_aload_n 3 0 jd_Mo_isConfiguration_2 rfl rfl ?_
  obtain ⟨v1, e2, hh⟩ := q_bind hh
  refine r_getI 6 115 jd_Mo_isConfiguration_3 rfl e2 rfl ?_
  refine r_iconst 7 1 jd_Mo_isConfiguration_6 (by decide) rfl ?_
  refine r_isub 8 jd_Mo_isConfiguration_7 rfl ?_
  obtain ⟨p3, e4, hh⟩ := q_bind hh
  refine r_cS (rest := []) 11 21 [.int a1, .int 0, .int (v1 - 1)] [.int p3.2] jd_Mo_isConfiguration_8 rfl rfl rfl (q_s8 (Nat.le_of_ble_eq_true rfl)) (q_call_le (Nat.le_of_ble_eq_true rfl) (jm_Mo_in e4)) rfl rfl ?_
  rcases q_ite hh with ⟨c5, hh⟩ | ⟨-, hh⟩
  · cases hh
    exact r_zret jd_Mo_isConfiguration_11 rfl c5 ⟨rfl, rfl⟩
  · cases hh
-- BeanContextsModel.configure(IIII)I
def jf_Mo_configure_B74 (rc : q_S → Nat → Int32 → Int32 → Int32 → Int32 → Int32 → Int32 → Option (q_S × Int32)) (x : q_S) (l0 : Nat) (l1 : Int32) (l2 : Int32) (l3 : Int32) (l4 : Int32) (l6 : Int32) (l7 : Int32) : Option (q_S × Int32) :=
  (q_gI x (some l0) 11 2).bind fun v9 =>
  if v9 ≤ l7 then
    (q_gR x (some l0) 11 12).bind fun v12 =>
    (q_gI x (some l0) 11 11).bind fun v14 =>
    (q_sI x 18 v12 v14 l6).bind fun x16 =>
    (q_gR x16 (some l0) 11 13).bind fun v18 =>
    (q_gI x16 (some l0) 11 11).bind fun v20 =>
    (q_sI x16 19 v18 v20 (l6 &&& l4)).bind fun x22 =>
    (q_gR x22 (some l0) 11 14).bind fun v24 =>
    (q_gI x22 (some l0) 11 11).bind fun v26 =>
    (q_sI x22 20 v24 v26 l3).bind fun x28 =>
    (q_gI x28 (some l0) 11 11).bind fun v30 =>
    (q_pI x28 (some l0) 11 11 (v30 + 1)).bind fun x32 =>
    (q_gI x32 (some l0) 11 11).bind fun v34 =>
    some (x32, v34 - 1)
  else
    if ((l1 >>> (l7 &&& 31)) &&& 1) = 1 then
      (q_gR x (some l0) 11 6).bind fun v38 =>
      (q_lI x 13 v38 l7).bind fun v40 =>
      if v40 = 0 then
        rc x l0 l1 l2 l3 l4 (l6 ||| ((1 : Int32) <<< (l7 &&& 31))) (l7 + 1)
      else
        (q_gR x (some l0) 11 6).bind fun v44 =>
        (q_lI x 13 v44 l7).bind fun v46 =>
        if v46 = l2 then
          rc x l0 l1 l2 l3 l4 (l6 ||| ((1 : Int32) <<< (l7 &&& 31))) (l7 + 1)
        else
          rc x l0 l1 l2 l3 l4 l6 (l7 + 1)
    else
      rc x l0 l1 l2 l3 l4 l6 (l7 + 1)
def jf_Mo_configure_L74 : Nat → q_S → Nat → Int32 → Int32 → Int32 → Int32 → Int32 → Int32 → Option (q_S × Int32)
  | 0, _, _, _, _, _, _, _, _ => none
  | n + 1, x, l0, l1, l2, l3, l4, l6, l7 => jf_Mo_configure_B74 (jf_Mo_configure_L74 n) x l0 l1 l2 l3 l4 l6 l7
theorem jm_Mo_configure_B74 {p : q_S × Int32} {rc : q_S → Nat → Int32 → Int32 → Int32 → Int32 → Int32 → Int32 → Option (q_S × Int32)} (hrc : ∀ (x : q_S) (l0 : Nat) (l1 : Int32) (l2 : Int32) (l3 : Int32) (l4 : Int32) (l6 : Int32) (l7 : Int32), rc x l0 l1 l2 l3 l4 l6 l7 = some p → q_X (q_call 2) (fun y o => y = p.1 ∧ o = some (.int p.2)) jq_Mo_configure 74 [(0, va_rf (some l0)), (1, .int l1), (2, .int l2), (3, .int l3), (4, .int l4), (6, .int l6), (7, .int l7)] [] x) (x : q_S) (l0 : Nat) (l1 : Int32) (l2 : Int32) (l3 : Int32) (l4 : Int32) (l6 : Int32) (l7 : Int32) (hh : jf_Mo_configure_B74 rc x l0 l1 l2 l3 l4 l6 l7 = some p) : q_X (q_call 2) (fun y o => y = p.1 ∧ o = some (.int p.2)) jq_Mo_configure 74 [(0, va_rf (some l0)), (1, .int l1), (2, .int l2), (3, .int l3), (4, .int l4), (6, .int l6), (7, .int l7)] [] x := by
  unfold jf_Mo_configure_B74 at hh
  refine r_iload 76 6 jd_Mo_configure_74 rfl rfl ?_
  refine r_aload_n 77 0 jd_Mo_configure_76 rfl rfl ?_
  obtain ⟨v9, e10, hh⟩ := q_bind hh
  refine r_getI 80 116 jd_Mo_configure_77 rfl e10 rfl ?_
  rcases q_ite hh with ⟨c11, hh⟩ | ⟨c11, hh⟩
  · refine r_ic_t 146 jd_Mo_configure_80 rfl c11 ?_
    refine r_aload_n 147 0 jd_Mo_configure_146 rfl rfl ?_
    obtain ⟨v12, e13, hh⟩ := q_bind hh
    refine r_getR 150 91 jd_Mo_configure_147 rfl e13 rfl ?_
    refine r_aload_n 151 0 jd_Mo_configure_150 rfl rfl ?_
    obtain ⟨v14, e15, hh⟩ := q_bind hh
    refine r_getI 154 115 jd_Mo_configure_151 rfl e15 rfl ?_
    refine r_iload 156 5 jd_Mo_configure_154 rfl rfl ?_
    obtain ⟨x16, e17, hh⟩ := q_bind hh
    refine r_stI 157 18 jd_Mo_configure_156 rfl e17 rfl ?_
    refine r_aload_n 158 0 jd_Mo_configure_157 rfl rfl ?_
    obtain ⟨v18, e19, hh⟩ := q_bind hh
    refine r_getR 161 92 jd_Mo_configure_158 rfl e19 rfl ?_
    refine r_aload_n 162 0 jd_Mo_configure_161 rfl rfl ?_
    obtain ⟨v20, e21, hh⟩ := q_bind hh
    refine r_getI 165 115 jd_Mo_configure_162 rfl e21 rfl ?_
    refine r_iload 167 5 jd_Mo_configure_165 rfl rfl ?_
    refine r_iload 169 4 jd_Mo_configure_167 rfl rfl ?_
    refine r_iand 170 jd_Mo_configure_169 rfl ?_
    obtain ⟨x22, e23, hh⟩ := q_bind hh
    refine r_stI 171 19 jd_Mo_configure_170 rfl e23 rfl ?_
    refine r_aload_n 172 0 jd_Mo_configure_171 rfl rfl ?_
    obtain ⟨v24, e25, hh⟩ := q_bind hh
    refine r_getR 175 93 jd_Mo_configure_172 rfl e25 rfl ?_
    refine r_aload_n 176 0 jd_Mo_configure_175 rfl rfl ?_
    obtain ⟨v26, e27, hh⟩ := q_bind hh
    refine r_getI 179 115 jd_Mo_configure_176 rfl e27 rfl ?_
    refine r_iload_n 180 3 jd_Mo_configure_179 rfl rfl ?_
    obtain ⟨x28, e29, hh⟩ := q_bind hh
    refine r_stI 181 20 jd_Mo_configure_180 rfl e29 rfl ?_
    refine r_aload_n 182 0 jd_Mo_configure_181 rfl rfl ?_
    refine r_dupR 183 jd_Mo_configure_182 rfl ?_
    obtain ⟨v30, e31, hh⟩ := q_bind hh
    refine r_getI 186 115 jd_Mo_configure_183 rfl e31 rfl ?_
    refine r_iconst 187 1 jd_Mo_configure_186 (by decide) rfl ?_
    refine r_iadd 188 jd_Mo_configure_187 rfl ?_
    obtain ⟨x32, e33, hh⟩ := q_bind hh
    refine r_putI 191 115 jd_Mo_configure_188 rfl rfl (Or.inl rfl) e33 rfl ?_
    refine r_aload_n 192 0 jd_Mo_configure_191 rfl rfl ?_
    obtain ⟨v34, e35, hh⟩ := q_bind hh
    refine r_getI 195 115 jd_Mo_configure_192 rfl e35 rfl ?_
    refine r_iconst 196 1 jd_Mo_configure_195 (by decide) rfl ?_
    refine r_isub 197 jd_Mo_configure_196 rfl ?_
    cases hh
    exact r_iret jd_Mo_configure_197 rfl ⟨rfl, rfl⟩
  · refine r_ic_f 83 146 jd_Mo_configure_80 rfl c11 rfl ?_
    refine r_iload_n 84 1 jd_Mo_configure_83 rfl rfl ?_
    refine r_iload 86 6 jd_Mo_configure_84 rfl rfl ?_
    refine r_ishr 87 jd_Mo_configure_86 rfl ?_
    refine r_iconst 88 1 jd_Mo_configure_87 (by decide) rfl ?_
    refine r_iand 89 jd_Mo_configure_88 rfl ?_
    refine r_iconst 90 1 jd_Mo_configure_89 (by decide) rfl ?_
    rcases q_ite hh with ⟨c36, hh⟩ | ⟨c36, hh⟩
    · refine r_ic_f 93 118 jd_Mo_configure_90 rfl (fun z => z c36) rfl ?_
      refine r_aload_n 94 0 jd_Mo_configure_93 rfl rfl ?_
      obtain ⟨v38, e39, hh⟩ := q_bind hh
      refine r_getR 97 86 jd_Mo_configure_94 rfl e39 rfl ?_
      refine r_iload 99 6 jd_Mo_configure_97 rfl rfl ?_
      obtain ⟨v40, e41, hh⟩ := q_bind hh
      refine r_ldI 100 13 jd_Mo_configure_99 rfl e41 rfl ?_
      rcases q_ite hh with ⟨c42, hh⟩ | ⟨c42, hh⟩
      · refine r_if_t 114 jd_Mo_configure_100 rfl c42 ?_
        refine r_iconst 115 1 jd_Mo_configure_114 (by decide) rfl ?_
        refine r_goto 119 jd_Mo_configure_115 rfl ?_
        refine r_istore 121 [(8, .int 1), (0, va_rf (some l0)), (1, .int l1), (2, .int l2), (3, .int l3), (4, .int l4), (6, .int l6), (7, .int l7)] jd_Mo_configure_119 (by decide) rfl rfl ?_
        refine r_iload 123 0 jd_Mo_configure_121 rfl rfl ?_
        refine r_if_f 126 136 jd_Mo_configure_123 rfl (by unfold q_cnd; decide) rfl ?_
        refine r_iload 128 6 jd_Mo_configure_126 rfl rfl ?_
        refine r_iconst 129 1 jd_Mo_configure_128 (by decide) rfl ?_
        refine r_iload 131 7 jd_Mo_configure_129 rfl rfl ?_
        refine r_ishl 132 jd_Mo_configure_131 rfl ?_
        refine r_ior 133 jd_Mo_configure_132 rfl ?_
        refine r_goto 138 jd_Mo_configure_133 rfl ?_
        refine r_istore 140 [(6, .int (l6 ||| ((1 : Int32) <<< (l7 &&& 31)))), (8, .int 1), (0, va_rf (some l0)), (1, .int l1), (2, .int l2), (3, .int l3), (4, .int l4), (7, .int l7)] jd_Mo_configure_138 (by decide) rfl rfl ?_
        refine r_iinc 143 7 [(7, .int (l7 + 1)), (6, .int (l6 ||| ((1 : Int32) <<< (l7 &&& 31)))), (8, .int 1), (0, va_rf (some l0)), (1, .int l1), (2, .int l2), (3, .int l3), (4, .int l4)] 1 jd_Mo_configure_140 rfl (by decide) (by decide) rfl rfl ?_
        refine r_goto 74 jd_Mo_configure_143 rfl ?_
        refine q_sub [3, 4, 5, 6, 7, 1, 0] rfl ?_
        exact hrc _ _ _ _ _ _ _ _ hh
      · refine r_if_f 103 114 jd_Mo_configure_100 rfl c42 rfl ?_
        refine r_aload_n 104 0 jd_Mo_configure_103 rfl rfl ?_
        obtain ⟨v44, e45, hh⟩ := q_bind hh
        refine r_getR 107 86 jd_Mo_configure_104 rfl e45 rfl ?_
        refine r_iload 109 6 jd_Mo_configure_107 rfl rfl ?_
        obtain ⟨v46, e47, hh⟩ := q_bind hh
        refine r_ldI 110 13 jd_Mo_configure_109 rfl e47 rfl ?_
        refine r_iload_n 111 2 jd_Mo_configure_110 rfl rfl ?_
        rcases q_ite hh with ⟨c48, hh⟩ | ⟨c48, hh⟩
        · refine r_ic_f 114 118 jd_Mo_configure_111 rfl (fun z => z c48) rfl ?_
          refine r_iconst 115 1 jd_Mo_configure_114 (by decide) rfl ?_
          refine r_goto 119 jd_Mo_configure_115 rfl ?_
          refine r_istore 121 [(8, .int 1), (0, va_rf (some l0)), (1, .int l1), (2, .int l2), (3, .int l3), (4, .int l4), (6, .int l6), (7, .int l7)] jd_Mo_configure_119 (by decide) rfl rfl ?_
          refine r_iload 123 0 jd_Mo_configure_121 rfl rfl ?_
          refine r_if_f 126 136 jd_Mo_configure_123 rfl (by unfold q_cnd; decide) rfl ?_
          refine r_iload 128 6 jd_Mo_configure_126 rfl rfl ?_
          refine r_iconst 129 1 jd_Mo_configure_128 (by decide) rfl ?_
          refine r_iload 131 7 jd_Mo_configure_129 rfl rfl ?_
          refine r_ishl 132 jd_Mo_configure_131 rfl ?_
          refine r_ior 133 jd_Mo_configure_132 rfl ?_
          refine r_goto 138 jd_Mo_configure_133 rfl ?_
          refine r_istore 140 [(6, .int (l6 ||| ((1 : Int32) <<< (l7 &&& 31)))), (8, .int 1), (0, va_rf (some l0)), (1, .int l1), (2, .int l2), (3, .int l3), (4, .int l4), (7, .int l7)] jd_Mo_configure_138 (by decide) rfl rfl ?_
          refine r_iinc 143 7 [(7, .int (l7 + 1)), (6, .int (l6 ||| ((1 : Int32) <<< (l7 &&& 31)))), (8, .int 1), (0, va_rf (some l0)), (1, .int l1), (2, .int l2), (3, .int l3), (4, .int l4)] 1 jd_Mo_configure_140 rfl (by decide) (by decide) rfl rfl ?_
          refine r_goto 74 jd_Mo_configure_143 rfl ?_
          refine q_sub [3, 4, 5, 6, 7, 1, 0] rfl ?_
          exact hrc _ _ _ _ _ _ _ _ hh
        · refine r_ic_t 118 jd_Mo_configure_111 rfl c48 ?_
          refine r_iconst 119 0 jd_Mo_configure_118 (by decide) rfl ?_
          refine r_istore 121 [(8, .int 0), (0, va_rf (some l0)), (1, .int l1), (2, .int l2), (3, .int l3), (4, .int l4), (6, .int l6), (7, .int l7)] jd_Mo_configure_119 (by decide) rfl rfl ?_
          refine r_iload 123 0 jd_Mo_configure_121 rfl rfl ?_
          refine r_if_t 136 jd_Mo_configure_123 rfl (by unfold q_cnd; decide) ?_
          refine r_iload 138 6 jd_Mo_configure_136 rfl rfl ?_
          refine r_istore 140 [(6, .int l6), (8, .int 0), (0, va_rf (some l0)), (1, .int l1), (2, .int l2), (3, .int l3), (4, .int l4), (7, .int l7)] jd_Mo_configure_138 (by decide) rfl rfl ?_
          refine r_iinc 143 7 [(7, .int (l7 + 1)), (6, .int l6), (8, .int 0), (0, va_rf (some l0)), (1, .int l1), (2, .int l2), (3, .int l3), (4, .int l4)] 1 jd_Mo_configure_140 rfl (by decide) (by decide) rfl rfl ?_
          refine r_goto 74 jd_Mo_configure_143 rfl ?_
          refine q_sub [3, 4, 5, 6, 7, 1, 0] rfl ?_
          exact hrc _ _ _ _ _ _ _ _ hh
    · refine r_ic_t 118 jd_Mo_configure_90 rfl c36 ?_
      refine r_iconst 119 0 jd_Mo_configure_118 (by decide) rfl ?_
      refine r_istore 121 [(8, .int 0), (0, va_rf (some l0)), (1, .int l1), (2, .int l2), (3, .int l3), (4, .int l4), (6, .int l6), (7, .int l7)] jd_Mo_configure_119 (by decide) rfl rfl ?_
      refine r_iload 123 0 jd_Mo_configure_121 rfl rfl ?_
      refine r_if_t 136 jd_Mo_configure_123 rfl (by unfold q_cnd; decide) ?_
      refine r_iload 138 6 jd_Mo_configure_136 rfl rfl ?_
      refine r_istore 140 [(6, .int l6), (8, .int 0), (0, va_rf (some l0)), (1, .int l1), (2, .int l2), (3, .int l3), (4, .int l4), (7, .int l7)] jd_Mo_configure_138 (by decide) rfl rfl ?_
      refine r_iinc 143 7 [(7, .int (l7 + 1)), (6, .int l6), (8, .int 0), (0, va_rf (some l0)), (1, .int l1), (2, .int l2), (3, .int l3), (4, .int l4)] 1 jd_Mo_configure_140 rfl (by decide) (by decide) rfl rfl ?_
      refine r_goto 74 jd_Mo_configure_143 rfl ?_
      refine q_sub [3, 4, 5, 6, 7, 1, 0] rfl ?_
      exact hrc _ _ _ _ _ _ _ _ hh
theorem jm_Mo_configure_L74 {p : q_S × Int32} : ∀ (n : Nat) (x : q_S) (l0 : Nat) (l1 : Int32) (l2 : Int32) (l3 : Int32) (l4 : Int32) (l6 : Int32) (l7 : Int32), jf_Mo_configure_L74 n x l0 l1 l2 l3 l4 l6 l7 = some p → q_X (q_call 2) (fun y o => y = p.1 ∧ o = some (.int p.2)) jq_Mo_configure 74 [(0, va_rf (some l0)), (1, .int l1), (2, .int l2), (3, .int l3), (4, .int l4), (6, .int l6), (7, .int l7)] [] x
  | 0, _, _, _, _, _, _, _, _, hh => nomatch hh
  | n + 1, x, l0, l1, l2, l3, l4, l6, l7, hh => jm_Mo_configure_B74 (jm_Mo_configure_L74 n) x l0 l1 l2 l3 l4 l6 l7 hh
def jf_Mo_configure (x : q_S) (a0 : Nat) (a1 : Int32) (a2 : Int32) (a3 : Int32) (a4 : Int32) : Option (q_S × Int32) :=
  if a3 = (-1) then
    (jf_Mo_in x a2 0 3).bind fun p2 =>
    if p2.2 = 0 then
      some (p2.1, (-1))
    else
      (q_gI p2.1 (some a0) 11 11).bind fun v6 =>
      if v6 = 8 then
        some (p2.1, (-1))
      else
        jf_Mo_configure_L74 lpK p2.1 a0 a1 a2 a3 a4 0 0
  else
    (q_av x (some a0) 11).bind fun b53 =>
    (jf_Mo_isConfiguration x b53 a3).bind fun p51 =>
    if p51.2 = 0 then
      (jf_Mo_in p51.1 a2 0 3).bind fun p56 =>
      if p56.2 = 0 then
        some (p56.1, (-1))
      else
        some (p56.1, (-1))
    else
      (q_gR p51.1 (some a0) 11 14).bind fun v60 =>
      (q_lI p51.1 20 v60 a3).bind fun v62 =>
      if v62 < 0 then
        (jf_Mo_in p51.1 a2 0 3).bind fun p65 =>
        if p65.2 = 0 then
          some (p65.1, (-1))
        else
          (q_gI p65.1 (some a0) 11 11).bind fun v69 =>
          if v69 = 8 then
            some (p65.1, (-1))
          else
            jf_Mo_configure_L74 lpK p65.1 a0 a1 a2 a3 a4 0 0
      else
        (q_gR p51.1 (some a0) 11 14).bind fun v72 =>
        (q_gR p51.1 (some a0) 11 14).bind fun v74 =>
        (q_lI p51.1 20 v74 a3).bind fun v76 =>
        (q_lI p51.1 20 v72 v76).bind fun v78 =>
        if 0 ≤ v78 then
          (jf_Mo_in p51.1 a2 0 3).bind fun p81 =>
          if p81.2 = 0 then
            some (p81.1, (-1))
          else
            some (p81.1, (-1))
        else
          (jf_Mo_in p51.1 a2 0 3).bind fun p85 =>
          if p85.2 = 0 then
            some (p85.1, (-1))
          else
            (q_gI p85.1 (some a0) 11 11).bind fun v89 =>
            if v89 = 8 then
              some (p85.1, (-1))
            else
              jf_Mo_configure_L74 lpK p85.1 a0 a1 a2 a3 a4 0 0
theorem jm_Mo_configure {x : q_S} {a0 : Nat} {a1 : Int32} {a2 : Int32} {a3 : Int32} {a4 : Int32} {p : q_S × Int32} (hh : jf_Mo_configure x a0 a1 a2 a3 a4 = some p) : q_call 3 jq_Mo_configure [va_rf (some a0), .int a1, .int a2, .int a3, .int a4] x p.1 (some (.int p.2)) := by
  unfold jf_Mo_configure at hh
  refine ⟨List.mem_of_getElem? (i := 109) rfl, Nat.le_of_ble_eq_true rfl, List.forall_mem_cons.mpr ⟨rfl, List.forall_mem_cons.mpr ⟨rfl, List.forall_mem_cons.mpr ⟨rfl, List.forall_mem_cons.mpr ⟨rfl, List.forall_mem_cons.mpr ⟨rfl, fun _ h => by cases h⟩⟩⟩⟩⟩, ?_⟩
  show q_X (q_call 2) _ jq_Mo_configure 0 [(0, va_rf (some a0)), (1, .int a1), (2, .int a2), (3, .int a3), (4, .int a4)] [] x
  refine r_iload_n 1 3 jd_Mo_configure_0 rfl rfl ?_
  refine r_iconst 2 (-1) jd_Mo_configure_1 (by decide) rfl ?_
  rcases q_ite hh with ⟨c1, hh⟩ | ⟨c1, hh⟩
  · refine r_ic_t 36 jd_Mo_configure_2 rfl c1 ?_
    refine r_iconst 37 1 jd_Mo_configure_36 (by decide) rfl ?_
    refine r_goto 41 jd_Mo_configure_37 rfl ?_
    refine r_istore 43 [(5, .int 1), (0, va_rf (some a0)), (1, .int a1), (2, .int a2), (3, .int a3), (4, .int a4)] jd_Mo_configure_41 (by decide) rfl rfl ?_
    refine r_iload_n 44 3 jd_Mo_configure_43 rfl rfl ?_
    refine r_iconst 45 0 jd_Mo_configure_44 (by decide) rfl ?_
    refine r_iconst 46 3 jd_Mo_configure_45 (by decide) rfl ?_
    obtain ⟨p2, e3, hh⟩ := q_bind hh
    refine r_cS (rest := []) 49 21 [.int a2, .int 0, .int 3] [.int p2.2] jd_Mo_configure_46 rfl rfl rfl (q_s8 (Nat.le_of_ble_eq_true rfl)) (q_call_le (Nat.le_of_ble_eq_true rfl) (jm_Mo_in e3)) rfl rfl ?_
    rcases q_ite hh with ⟨c4, hh⟩ | ⟨c4, hh⟩
    · refine r_if_t 66 jd_Mo_configure_49 rfl c4 ?_
      refine r_iconst 67 (-1) jd_Mo_configure_66 (by decide) rfl ?_
      cases hh
      exact r_iret jd_Mo_configure_67 rfl ⟨rfl, rfl⟩
    · refine r_if_f 52 66 jd_Mo_configure_49 rfl c4 rfl ?_
      refine r_iload 54 0 jd_Mo_configure_52 rfl rfl ?_
      refine r_if_f 57 66 jd_Mo_configure_54 rfl (by unfold q_cnd; decide) rfl ?_
      refine r_aload_n 58 1 jd_Mo_configure_57 rfl rfl ?_
      obtain ⟨v6, e7, hh⟩ := q_bind hh
      refine r_getI 61 115 jd_Mo_configure_58 rfl e7 rfl ?_
      refine r_bipush 63 8 jd_Mo_configure_61 (by decide) rfl ?_
      rcases q_ite hh with ⟨c8, hh⟩ | ⟨c8, hh⟩
      · refine r_ic_f 66 68 jd_Mo_configure_63 rfl (fun z => z c8) rfl ?_
        refine r_iconst 67 (-1) jd_Mo_configure_66 (by decide) rfl ?_
        cases hh
        exact r_iret jd_Mo_configure_67 rfl ⟨rfl, rfl⟩
      · refine r_ic_t 68 jd_Mo_configure_63 rfl c8 ?_
        refine r_iconst 69 0 jd_Mo_configure_68 (by decide) rfl ?_
        refine r_istore 71 [(6, .int 0), (5, .int 1), (0, va_rf (some a0)), (1, .int a1), (2, .int a2), (3, .int a3), (4, .int a4)] jd_Mo_configure_69 (by decide) rfl rfl ?_
        refine r_iconst 72 0 jd_Mo_configure_71 (by decide) rfl ?_
        refine r_istore 74 [(7, .int 0), (6, .int 0), (5, .int 1), (0, va_rf (some a0)), (1, .int a1), (2, .int a2), (3, .int a3), (4, .int a4)] jd_Mo_configure_72 (by decide) rfl rfl ?_
        refine q_sub [3, 4, 5, 6, 7, 1, 0] rfl ?_
        exact jm_Mo_configure_L74 lpK _ _ _ _ _ _ _ _ hh
  · refine r_ic_f 5 36 jd_Mo_configure_2 rfl c1 rfl ?_
    refine r_aload_n 6 0 jd_Mo_configure_5 rfl rfl ?_
    refine r_iload_n 7 3 jd_Mo_configure_6 rfl rfl ?_
    obtain ⟨b53, e54, hh⟩ := q_bind hh
    obtain ⟨p51, e52, hh⟩ := q_bind hh
    refine r_cV (rest := []) 10 116 11 [.int a3] [.int p51.2] jd_Mo_configure_7 rfl e54 rfl rfl rfl rfl (q_s8 (Nat.le_of_ble_eq_true rfl)) (q_call_le (Nat.le_of_ble_eq_true rfl) (jm_Mo_isConfiguration e52)) rfl rfl ?_
    rcases q_ite hh with ⟨c55, hh⟩ | ⟨c55, hh⟩
    · refine r_if_t 40 jd_Mo_configure_10 rfl c55 ?_
      refine r_iconst 41 0 jd_Mo_configure_40 (by decide) rfl ?_
      refine r_istore 43 [(5, .int 0), (0, va_rf (some a0)), (1, .int a1), (2, .int a2), (3, .int a3), (4, .int a4)] jd_Mo_configure_41 (by decide) rfl rfl ?_
      refine r_iload_n 44 3 jd_Mo_configure_43 rfl rfl ?_
      refine r_iconst 45 0 jd_Mo_configure_44 (by decide) rfl ?_
      refine r_iconst 46 3 jd_Mo_configure_45 (by decide) rfl ?_
      obtain ⟨p56, e57, hh⟩ := q_bind hh
      refine r_cS (rest := []) 49 21 [.int a2, .int 0, .int 3] [.int p56.2] jd_Mo_configure_46 rfl rfl rfl (q_s8 (Nat.le_of_ble_eq_true rfl)) (q_call_le (Nat.le_of_ble_eq_true rfl) (jm_Mo_in e57)) rfl rfl ?_
      rcases q_ite hh with ⟨c58, hh⟩ | ⟨c58, hh⟩
      · refine r_if_t 66 jd_Mo_configure_49 rfl c58 ?_
        refine r_iconst 67 (-1) jd_Mo_configure_66 (by decide) rfl ?_
        cases hh
        exact r_iret jd_Mo_configure_67 rfl ⟨rfl, rfl⟩
      · refine r_if_f 52 66 jd_Mo_configure_49 rfl c58 rfl ?_
        refine r_iload 54 0 jd_Mo_configure_52 rfl rfl ?_
        refine r_if_t 66 jd_Mo_configure_54 rfl (by unfold q_cnd; decide) ?_
        refine r_iconst 67 (-1) jd_Mo_configure_66 (by decide) rfl ?_
        cases hh
        exact r_iret jd_Mo_configure_67 rfl ⟨rfl, rfl⟩
    · refine r_if_f 13 40 jd_Mo_configure_10 rfl c55 rfl ?_
      refine r_aload_n 14 0 jd_Mo_configure_13 rfl rfl ?_
      obtain ⟨v60, e61, hh⟩ := q_bind hh
      refine r_getR 17 93 jd_Mo_configure_14 rfl e61 rfl ?_
      refine r_iload_n 18 3 jd_Mo_configure_17 rfl rfl ?_
      obtain ⟨v62, e63, hh⟩ := q_bind hh
      refine r_ldI 19 20 jd_Mo_configure_18 rfl e63 rfl ?_
      rcases q_ite hh with ⟨c64, hh⟩ | ⟨c64, hh⟩
      · refine r_if_t 36 jd_Mo_configure_19 rfl c64 ?_
        refine r_iconst 37 1 jd_Mo_configure_36 (by decide) rfl ?_
        refine r_goto 41 jd_Mo_configure_37 rfl ?_
        refine r_istore 43 [(5, .int 1), (0, va_rf (some a0)), (1, .int a1), (2, .int a2), (3, .int a3), (4, .int a4)] jd_Mo_configure_41 (by decide) rfl rfl ?_
        refine r_iload_n 44 3 jd_Mo_configure_43 rfl rfl ?_
        refine r_iconst 45 0 jd_Mo_configure_44 (by decide) rfl ?_
        refine r_iconst 46 3 jd_Mo_configure_45 (by decide) rfl ?_
        obtain ⟨p65, e66, hh⟩ := q_bind hh
        refine r_cS (rest := []) 49 21 [.int a2, .int 0, .int 3] [.int p65.2] jd_Mo_configure_46 rfl rfl rfl (q_s8 (Nat.le_of_ble_eq_true rfl)) (q_call_le (Nat.le_of_ble_eq_true rfl) (jm_Mo_in e66)) rfl rfl ?_
        rcases q_ite hh with ⟨c67, hh⟩ | ⟨c67, hh⟩
        · refine r_if_t 66 jd_Mo_configure_49 rfl c67 ?_
          refine r_iconst 67 (-1) jd_Mo_configure_66 (by decide) rfl ?_
          cases hh
          exact r_iret jd_Mo_configure_67 rfl ⟨rfl, rfl⟩
        · refine r_if_f 52 66 jd_Mo_configure_49 rfl c67 rfl ?_
          refine r_iload 54 0 jd_Mo_configure_52 rfl rfl ?_
          refine r_if_f 57 66 jd_Mo_configure_54 rfl (by unfold q_cnd; decide) rfl ?_
          refine r_aload_n 58 1 jd_Mo_configure_57 rfl rfl ?_
          obtain ⟨v69, e70, hh⟩ := q_bind hh
          refine r_getI 61 115 jd_Mo_configure_58 rfl e70 rfl ?_
          refine r_bipush 63 8 jd_Mo_configure_61 (by decide) rfl ?_
          rcases q_ite hh with ⟨c71, hh⟩ | ⟨c71, hh⟩
          · refine r_ic_f 66 68 jd_Mo_configure_63 rfl (fun z => z c71) rfl ?_
            refine r_iconst 67 (-1) jd_Mo_configure_66 (by decide) rfl ?_
            cases hh
            exact r_iret jd_Mo_configure_67 rfl ⟨rfl, rfl⟩
          · refine r_ic_t 68 jd_Mo_configure_63 rfl c71 ?_
            refine r_iconst 69 0 jd_Mo_configure_68 (by decide) rfl ?_
            refine r_istore 71 [(6, .int 0), (5, .int 1), (0, va_rf (some a0)), (1, .int a1), (2, .int a2), (3, .int a3), (4, .int a4)] jd_Mo_configure_69 (by decide) rfl rfl ?_
            refine r_iconst 72 0 jd_Mo_configure_71 (by decide) rfl ?_
            refine r_istore 74 [(7, .int 0), (6, .int 0), (5, .int 1), (0, va_rf (some a0)), (1, .int a1), (2, .int a2), (3, .int a3), (4, .int a4)] jd_Mo_configure_72 (by decide) rfl rfl ?_
            refine q_sub [3, 4, 5, 6, 7, 1, 0] rfl ?_
            exact jm_Mo_configure_L74 lpK _ _ _ _ _ _ _ _ hh
      · refine r_if_f 22 36 jd_Mo_configure_19 rfl c64 rfl ?_
        refine r_aload_n 23 0 jd_Mo_configure_22 rfl rfl ?_
        obtain ⟨v72, e73, hh⟩ := q_bind hh
        refine r_getR 26 93 jd_Mo_configure_23 rfl e73 rfl ?_
        refine r_aload_n 27 0 jd_Mo_configure_26 rfl rfl ?_
        obtain ⟨v74, e75, hh⟩ := q_bind hh
        refine r_getR 30 93 jd_Mo_configure_27 rfl e75 rfl ?_
        refine r_iload_n 31 3 jd_Mo_configure_30 rfl rfl ?_
        obtain ⟨v76, e77, hh⟩ := q_bind hh
        refine r_ldI 32 20 jd_Mo_configure_31 rfl e77 rfl ?_
        obtain ⟨v78, e79, hh⟩ := q_bind hh
        refine r_ldI 33 20 jd_Mo_configure_32 rfl e79 rfl ?_
        rcases q_ite hh with ⟨c80, hh⟩ | ⟨c80, hh⟩
        · refine r_if_t 40 jd_Mo_configure_33 rfl c80 ?_
          refine r_iconst 41 0 jd_Mo_configure_40 (by decide) rfl ?_
          refine r_istore 43 [(5, .int 0), (0, va_rf (some a0)), (1, .int a1), (2, .int a2), (3, .int a3), (4, .int a4)] jd_Mo_configure_41 (by decide) rfl rfl ?_
          refine r_iload_n 44 3 jd_Mo_configure_43 rfl rfl ?_
          refine r_iconst 45 0 jd_Mo_configure_44 (by decide) rfl ?_
          refine r_iconst 46 3 jd_Mo_configure_45 (by decide) rfl ?_
          obtain ⟨p81, e82, hh⟩ := q_bind hh
          refine r_cS (rest := []) 49 21 [.int a2, .int 0, .int 3] [.int p81.2] jd_Mo_configure_46 rfl rfl rfl (q_s8 (Nat.le_of_ble_eq_true rfl)) (q_call_le (Nat.le_of_ble_eq_true rfl) (jm_Mo_in e82)) rfl rfl ?_
          rcases q_ite hh with ⟨c83, hh⟩ | ⟨c83, hh⟩
          · refine r_if_t 66 jd_Mo_configure_49 rfl c83 ?_
            refine r_iconst 67 (-1) jd_Mo_configure_66 (by decide) rfl ?_
            cases hh
            exact r_iret jd_Mo_configure_67 rfl ⟨rfl, rfl⟩
          · refine r_if_f 52 66 jd_Mo_configure_49 rfl c83 rfl ?_
            refine r_iload 54 0 jd_Mo_configure_52 rfl rfl ?_
            refine r_if_t 66 jd_Mo_configure_54 rfl (by unfold q_cnd; decide) ?_
            refine r_iconst 67 (-1) jd_Mo_configure_66 (by decide) rfl ?_
            cases hh
            exact r_iret jd_Mo_configure_67 rfl ⟨rfl, rfl⟩
        · refine r_if_f 36 40 jd_Mo_configure_33 rfl c80 rfl ?_
          refine r_iconst 37 1 jd_Mo_configure_36 (by decide) rfl ?_
          refine r_goto 41 jd_Mo_configure_37 rfl ?_
          refine r_istore 43 [(5, .int 1), (0, va_rf (some a0)), (1, .int a1), (2, .int a2), (3, .int a3), (4, .int a4)] jd_Mo_configure_41 (by decide) rfl rfl ?_
          refine r_iload_n 44 3 jd_Mo_configure_43 rfl rfl ?_
          refine r_iconst 45 0 jd_Mo_configure_44 (by decide) rfl ?_
          refine r_iconst 46 3 jd_Mo_configure_45 (by decide) rfl ?_
          obtain ⟨p85, e86, hh⟩ := q_bind hh
          refine r_cS (rest := []) 49 21 [.int a2, .int 0, .int 3] [.int p85.2] jd_Mo_configure_46 rfl rfl rfl (q_s8 (Nat.le_of_ble_eq_true rfl)) (q_call_le (Nat.le_of_ble_eq_true rfl) (jm_Mo_in e86)) rfl rfl ?_
          rcases q_ite hh with ⟨c87, hh⟩ | ⟨c87, hh⟩
          · refine r_if_t 66 jd_Mo_configure_49 rfl c87 ?_
            refine r_iconst 67 (-1) jd_Mo_configure_66 (by decide) rfl ?_
            cases hh
            exact r_iret jd_Mo_configure_67 rfl ⟨rfl, rfl⟩
          · refine r_if_f 52 66 jd_Mo_configure_49 rfl c87 rfl ?_
            refine r_iload 54 0 jd_Mo_configure_52 rfl rfl ?_
            refine r_if_f 57 66 jd_Mo_configure_54 rfl (by unfold q_cnd; decide) rfl ?_
            refine r_aload_n 58 1 jd_Mo_configure_57 rfl rfl ?_
            obtain ⟨v89, e90, hh⟩ := q_bind hh
            refine r_getI 61 115 jd_Mo_configure_58 rfl e90 rfl ?_
            refine r_bipush 63 8 jd_Mo_configure_61 (by decide) rfl ?_
            rcases q_ite hh with ⟨c91, hh⟩ | ⟨c91, hh⟩
            · refine r_ic_f 66 68 jd_Mo_configure_63 rfl (fun z => z c91) rfl ?_
              refine r_iconst 67 (-1) jd_Mo_configure_66 (by decide) rfl ?_
              cases hh
              exact r_iret jd_Mo_configure_67 rfl ⟨rfl, rfl⟩
            · refine r_ic_t 68 jd_Mo_configure_63 rfl c91 ?_
              refine r_iconst 69 0 jd_Mo_configure_68 (by decide) rfl ?_
              refine r_istore 71 [(6, .int 0), (5, .int 1), (0, va_rf (some a0)), (1, .int a1), (2, .int a2), (3, .int a3), (4, .int a4)] jd_Mo_configure_69 (by decide) rfl rfl ?_
              refine r_iconst 72 0 jd_Mo_configure_71 (by decide) rfl ?_
              refine r_istore 74 [(7, .int 0), (6, .int 0), (5, .int 1), (0, va_rf (some a0)), (1, .int a1), (2, .int a2), (3, .int a3), (4, .int a4)] jd_Mo_configure_72 (by decide) rfl rfl ?_
              refine q_sub [3, 4, 5, 6, 7, 1, 0] rfl ?_
              exact jm_Mo_configure_L74 lpK _ _ _ _ _ _ _ _ hh
-- BeanContextsModel.define(IIII)I
def jf_Mo_define (x : q_S) (a0 : Nat) (a1 : Int32) (a2 : Int32) (a3 : Int32) (a4 : Int32) : Option (q_S × Int32) :=
  (jf_Mo_in x a1 0 5).bind fun p1 =>
  if p1.2 = 0 then
    some (p1.1, (-1))
  else
    (jf_Mo_in p1.1 a2 0 15).bind fun p4 =>
    if p4.2 = 0 then
      some (p4.1, (-1))
    else
      (jf_Mo_in p4.1 a3 0 3).bind fun p7 =>
      if p7.2 = 0 then
        some (p7.1, (-1))
      else
        (jf_Mo_in p7.1 a4 0 3).bind fun p10 =>
        if p10.2 = 0 then
          some (p10.1, (-1))
        else
          (q_gI p10.1 (some a0) 11 2).bind fun v13 =>
          if v13 = 10 then
            some (p10.1, (-1))
          else
            (q_gI p10.1 (some a0) 11 11).bind fun v16 =>
            if v16 ≤ 0 then
              (q_gR p10.1 (some a0) 11 3).bind fun v19 =>
              (q_gI p10.1 (some a0) 11 2).bind fun v21 =>
              (q_sI p10.1 10 v19 v21 a1).bind fun x23 =>
              (q_gR x23 (some a0) 11 4).bind fun v25 =>
              (q_gI x23 (some a0) 11 2).bind fun v27 =>
              (q_sI x23 11 v25 v27 a2).bind fun x29 =>
              (q_gR x29 (some a0) 11 5).bind fun v31 =>
              (q_gI x29 (some a0) 11 2).bind fun v33 =>
              (q_sI x29 12 v31 v33 a3).bind fun x35 =>
              (q_gR x35 (some a0) 11 6).bind fun v37 =>
              (q_gI x35 (some a0) 11 2).bind fun v39 =>
              (q_sI x35 13 v37 v39 a4).bind fun x41 =>
              (q_gI x41 (some a0) 11 2).bind fun v43 =>
              (q_pI x41 (some a0) 11 2 (v43 + 1)).bind fun x45 =>
              (q_gI x45 (some a0) 11 2).bind fun v47 =>
              some (x45, v47 - 1)
            else
              some (p10.1, (-1))
theorem jm_Mo_define {x : q_S} {a0 : Nat} {a1 : Int32} {a2 : Int32} {a3 : Int32} {a4 : Int32} {p : q_S × Int32} (hh : jf_Mo_define x a0 a1 a2 a3 a4 = some p) : q_call 2 jq_Mo_define [va_rf (some a0), .int a1, .int a2, .int a3, .int a4] x p.1 (some (.int p.2)) := by
  unfold jf_Mo_define at hh
  refine ⟨List.mem_of_getElem? (i := 111) rfl, Nat.le_of_ble_eq_true rfl, List.forall_mem_cons.mpr ⟨rfl, List.forall_mem_cons.mpr ⟨rfl, List.forall_mem_cons.mpr ⟨rfl, List.forall_mem_cons.mpr ⟨rfl, List.forall_mem_cons.mpr ⟨rfl, fun _ h => by cases h⟩⟩⟩⟩⟩, ?_⟩
  show q_X (q_call 1) _ jq_Mo_define 0 [(0, va_rf (some a0)), (1, .int a1), (2, .int a2), (3, .int a3), (4, .int a4)] [] x
  refine r_iload_n 1 1 jd_Mo_define_0 rfl rfl ?_
  refine r_iconst 2 0 jd_Mo_define_1 (by decide) rfl ?_
  refine r_iconst 3 5 jd_Mo_define_2 (by decide) rfl ?_
  obtain ⟨p1, e2, hh⟩ := q_bind hh
  refine r_cS (rest := []) 6 21 [.int a1, .int 0, .int 5] [.int p1.2] jd_Mo_define_3 rfl rfl rfl (q_s8 (Nat.le_of_ble_eq_true rfl)) (q_call_le (Nat.le_of_ble_eq_true rfl) (jm_Mo_in e2)) rfl rfl ?_
  rcases q_ite hh with ⟨c3, hh⟩ | ⟨c3, hh⟩
  · refine r_if_t 54 jd_Mo_define_6 rfl c3 ?_
    refine r_iconst 55 (-1) jd_Mo_define_54 (by decide) rfl ?_
    cases hh
    exact r_iret jd_Mo_define_55 rfl ⟨rfl, rfl⟩
  · refine r_if_f 9 54 jd_Mo_define_6 rfl c3 rfl ?_
    refine r_iload_n 10 2 jd_Mo_define_9 rfl rfl ?_
    refine r_iconst 11 0 jd_Mo_define_10 (by decide) rfl ?_
    refine r_bipush 13 15 jd_Mo_define_11 (by decide) rfl ?_
    obtain ⟨p4, e5, hh⟩ := q_bind hh
    refine r_cS (rest := []) 16 21 [.int a2, .int 0, .int 15] [.int p4.2] jd_Mo_define_13 rfl rfl rfl (q_s8 (Nat.le_of_ble_eq_true rfl)) (q_call_le (Nat.le_of_ble_eq_true rfl) (jm_Mo_in e5)) rfl rfl ?_
    rcases q_ite hh with ⟨c6, hh⟩ | ⟨c6, hh⟩
    · refine r_if_t 54 jd_Mo_define_16 rfl c6 ?_
      refine r_iconst 55 (-1) jd_Mo_define_54 (by decide) rfl ?_
      cases hh
      exact r_iret jd_Mo_define_55 rfl ⟨rfl, rfl⟩
    · refine r_if_f 19 54 jd_Mo_define_16 rfl c6 rfl ?_
      refine r_iload_n 20 3 jd_Mo_define_19 rfl rfl ?_
      refine r_iconst 21 0 jd_Mo_define_20 (by decide) rfl ?_
      refine r_iconst 22 3 jd_Mo_define_21 (by decide) rfl ?_
      obtain ⟨p7, e8, hh⟩ := q_bind hh
      refine r_cS (rest := []) 25 21 [.int a3, .int 0, .int 3] [.int p7.2] jd_Mo_define_22 rfl rfl rfl (q_s8 (Nat.le_of_ble_eq_true rfl)) (q_call_le (Nat.le_of_ble_eq_true rfl) (jm_Mo_in e8)) rfl rfl ?_
      rcases q_ite hh with ⟨c9, hh⟩ | ⟨c9, hh⟩
      · refine r_if_t 54 jd_Mo_define_25 rfl c9 ?_
        refine r_iconst 55 (-1) jd_Mo_define_54 (by decide) rfl ?_
        cases hh
        exact r_iret jd_Mo_define_55 rfl ⟨rfl, rfl⟩
      · refine r_if_f 28 54 jd_Mo_define_25 rfl c9 rfl ?_
        refine r_iload 30 4 jd_Mo_define_28 rfl rfl ?_
        refine r_iconst 31 0 jd_Mo_define_30 (by decide) rfl ?_
        refine r_iconst 32 3 jd_Mo_define_31 (by decide) rfl ?_
        obtain ⟨p10, e11, hh⟩ := q_bind hh
        refine r_cS (rest := []) 35 21 [.int a4, .int 0, .int 3] [.int p10.2] jd_Mo_define_32 rfl rfl rfl (q_s8 (Nat.le_of_ble_eq_true rfl)) (q_call_le (Nat.le_of_ble_eq_true rfl) (jm_Mo_in e11)) rfl rfl ?_
        rcases q_ite hh with ⟨c12, hh⟩ | ⟨c12, hh⟩
        · refine r_if_t 54 jd_Mo_define_35 rfl c12 ?_
          refine r_iconst 55 (-1) jd_Mo_define_54 (by decide) rfl ?_
          cases hh
          exact r_iret jd_Mo_define_55 rfl ⟨rfl, rfl⟩
        · refine r_if_f 38 54 jd_Mo_define_35 rfl c12 rfl ?_
          refine r_aload_n 39 0 jd_Mo_define_38 rfl rfl ?_
          obtain ⟨v13, e14, hh⟩ := q_bind hh
          refine r_getI 42 116 jd_Mo_define_39 rfl e14 rfl ?_
          refine r_bipush 44 10 jd_Mo_define_42 (by decide) rfl ?_
          rcases q_ite hh with ⟨c15, hh⟩ | ⟨c15, hh⟩
          · refine r_ic_t 54 jd_Mo_define_44 rfl c15 ?_
            refine r_iconst 55 (-1) jd_Mo_define_54 (by decide) rfl ?_
            cases hh
            exact r_iret jd_Mo_define_55 rfl ⟨rfl, rfl⟩
          · refine r_ic_f 47 54 jd_Mo_define_44 rfl c15 rfl ?_
            refine r_aload_n 48 0 jd_Mo_define_47 rfl rfl ?_
            obtain ⟨v16, e17, hh⟩ := q_bind hh
            refine r_getI 51 115 jd_Mo_define_48 rfl e17 rfl ?_
            rcases q_ite hh with ⟨c18, hh⟩ | ⟨c18, hh⟩
            · refine r_if_t 56 jd_Mo_define_51 rfl c18 ?_
              refine r_aload_n 57 0 jd_Mo_define_56 rfl rfl ?_
              obtain ⟨v19, e20, hh⟩ := q_bind hh
              refine r_getR 60 83 jd_Mo_define_57 rfl e20 rfl ?_
              refine r_aload_n 61 0 jd_Mo_define_60 rfl rfl ?_
              obtain ⟨v21, e22, hh⟩ := q_bind hh
              refine r_getI 64 116 jd_Mo_define_61 rfl e22 rfl ?_
              refine r_iload_n 65 1 jd_Mo_define_64 rfl rfl ?_
              obtain ⟨x23, e24, hh⟩ := q_bind hh
              refine r_stI 66 10 jd_Mo_define_65 rfl e24 rfl ?_
              refine r_aload_n 67 0 jd_Mo_define_66 rfl rfl ?_
              obtain ⟨v25, e26, hh⟩ := q_bind hh
              refine r_getR 70 84 jd_Mo_define_67 rfl e26 rfl ?_
              refine r_aload_n 71 0 jd_Mo_define_70 rfl rfl ?_
              obtain ⟨v27, e28, hh⟩ := q_bind hh
              refine r_getI 74 116 jd_Mo_define_71 rfl e28 rfl ?_
              refine r_iload_n 75 2 jd_Mo_define_74 rfl rfl ?_
              obtain ⟨x29, e30, hh⟩ := q_bind hh
              refine r_stI 76 11 jd_Mo_define_75 rfl e30 rfl ?_
              refine r_aload_n 77 0 jd_Mo_define_76 rfl rfl ?_
              obtain ⟨v31, e32, hh⟩ := q_bind hh
              refine r_getR 80 85 jd_Mo_define_77 rfl e32 rfl ?_
              refine r_aload_n 81 0 jd_Mo_define_80 rfl rfl ?_
              obtain ⟨v33, e34, hh⟩ := q_bind hh
              refine r_getI 84 116 jd_Mo_define_81 rfl e34 rfl ?_
              refine r_iload_n 85 3 jd_Mo_define_84 rfl rfl ?_
              obtain ⟨x35, e36, hh⟩ := q_bind hh
              refine r_stI 86 12 jd_Mo_define_85 rfl e36 rfl ?_
              refine r_aload_n 87 0 jd_Mo_define_86 rfl rfl ?_
              obtain ⟨v37, e38, hh⟩ := q_bind hh
              refine r_getR 90 86 jd_Mo_define_87 rfl e38 rfl ?_
              refine r_aload_n 91 0 jd_Mo_define_90 rfl rfl ?_
              obtain ⟨v39, e40, hh⟩ := q_bind hh
              refine r_getI 94 116 jd_Mo_define_91 rfl e40 rfl ?_
              refine r_iload 96 4 jd_Mo_define_94 rfl rfl ?_
              obtain ⟨x41, e42, hh⟩ := q_bind hh
              refine r_stI 97 13 jd_Mo_define_96 rfl e42 rfl ?_
              refine r_aload_n 98 0 jd_Mo_define_97 rfl rfl ?_
              refine r_dupR 99 jd_Mo_define_98 rfl ?_
              obtain ⟨v43, e44, hh⟩ := q_bind hh
              refine r_getI 102 116 jd_Mo_define_99 rfl e44 rfl ?_
              refine r_iconst 103 1 jd_Mo_define_102 (by decide) rfl ?_
              refine r_iadd 104 jd_Mo_define_103 rfl ?_
              obtain ⟨x45, e46, hh⟩ := q_bind hh
              refine r_putI 107 116 jd_Mo_define_104 rfl rfl (Or.inl rfl) e46 rfl ?_
              refine r_aload_n 108 0 jd_Mo_define_107 rfl rfl ?_
              obtain ⟨v47, e48, hh⟩ := q_bind hh
              refine r_getI 111 116 jd_Mo_define_108 rfl e48 rfl ?_
              refine r_iconst 112 1 jd_Mo_define_111 (by decide) rfl ?_
              refine r_isub 113 jd_Mo_define_112 rfl ?_
              cases hh
              exact r_iret jd_Mo_define_113 rfl ⟨rfl, rfl⟩
            · refine r_if_f 54 56 jd_Mo_define_51 rfl c18 rfl ?_
              refine r_iconst 55 (-1) jd_Mo_define_54 (by decide) rfl ?_
              cases hh
              exact r_iret jd_Mo_define_55 rfl ⟨rfl, rfl⟩
-- BeanContextsModel.definition(I)I
def jf_Mo_definition (x : q_S) (a0 : Nat) (a1 : Int32) : Option (q_S × Int32) :=
  (q_av x (some a0) 11).bind fun b3 =>
  (jf_Mo_live x b3 a1).bind fun p1 =>
  if p1.2 = 0 then
    some (p1.1, (-1))
  else
    (q_gR p1.1 (some a0) 11 25).bind fun v6 =>
    (q_lI p1.1 26 v6 a1).bind fun v8 =>
    some (p1.1, v8)
theorem jm_Mo_definition {x : q_S} {a0 : Nat} {a1 : Int32} {p : q_S × Int32} (hh : jf_Mo_definition x a0 a1 = some p) : q_call 3 jq_Mo_definition [va_rf (some a0), .int a1] x p.1 (some (.int p.2)) := by
  unfold jf_Mo_definition at hh
  refine ⟨List.mem_of_getElem? (i := 112) rfl, Nat.le_of_ble_eq_true rfl, List.forall_mem_cons.mpr ⟨rfl, List.forall_mem_cons.mpr ⟨rfl, fun _ h => by cases h⟩⟩, ?_⟩
  show q_X (q_call 2) _ jq_Mo_definition 0 [(0, va_rf (some a0)), (1, .int a1)] [] x
  refine r_aload_n 1 0 jd_Mo_definition_0 rfl rfl ?_
  refine r_iload_n 2 1 jd_Mo_definition_1 rfl rfl ?_
  obtain ⟨b3, e4, hh⟩ := q_bind hh
  obtain ⟨p1, e2, hh⟩ := q_bind hh
  refine r_cV (rest := []) 5 115 11 [.int a1] [.int p1.2] jd_Mo_definition_2 rfl e4 rfl rfl rfl rfl (q_s8 (Nat.le_of_ble_eq_true rfl)) (q_call_le (Nat.le_of_ble_eq_true rfl) (jm_Mo_live e2)) rfl rfl ?_
  rcases q_ite hh with ⟨c5, hh⟩ | ⟨c5, hh⟩
  · refine r_if_t 17 jd_Mo_definition_5 rfl c5 ?_
    refine r_iconst 18 (-1) jd_Mo_definition_17 (by decide) rfl ?_
    cases hh
    exact r_iret jd_Mo_definition_18 rfl ⟨rfl, rfl⟩
  · refine r_if_f 8 17 jd_Mo_definition_5 rfl c5 rfl ?_
    refine r_aload_n 9 0 jd_Mo_definition_8 rfl rfl ?_
    obtain ⟨v6, e7, hh⟩ := q_bind hh
    refine r_getR 12 100 jd_Mo_definition_9 rfl e7 rfl ?_
    refine r_iload_n 13 1 jd_Mo_definition_12 rfl rfl ?_
    obtain ⟨v8, e9, hh⟩ := q_bind hh
    refine r_ldI 14 26 jd_Mo_definition_13 rfl e9 rfl ?_
    refine r_goto 18 jd_Mo_definition_14 rfl ?_
    cases hh
    exact r_iret jd_Mo_definition_18 rfl ⟨rfl, rfl⟩
-- BeanContextsModel.contextOf(I)I
def jf_Mo_contextOf_B2 (rc : q_S → Nat → Int32 → Int32 → Option (q_S × Int32)) (x : q_S) (l0 : Nat) (l1 : Int32) (l2 : Int32) : Option (q_S × Int32) :=
  (q_gI x (some l0) 11 16).bind fun v1 =>
  if v1 ≤ l2 then
    some (x, (-1))
  else
    (q_gR x (some l0) 11 19).bind fun v4 =>
    (q_lI x 101 v4 l2).bind fun v6 =>
    if v6 = 0 then
      rc x l0 l1 (l2 + 1)
    else
      (q_gR x (some l0) 11 17).bind fun v9 =>
      (q_lI x 22 v9 l2).bind fun v11 =>
      if v11 = l1 then
        some (x, l2)
      else
        rc x l0 l1 (l2 + 1)
def jf_Mo_contextOf_L2 : Nat → q_S → Nat → Int32 → Int32 → Option (q_S × Int32)
  | 0, _, _, _, _ => none
  | n + 1, x, l0, l1, l2 => jf_Mo_contextOf_B2 (jf_Mo_contextOf_L2 n) x l0 l1 l2
theorem jm_Mo_contextOf_B2 {p : q_S × Int32} {rc : q_S → Nat → Int32 → Int32 → Option (q_S × Int32)} (hrc : ∀ (x : q_S) (l0 : Nat) (l1 : Int32) (l2 : Int32), rc x l0 l1 l2 = some p → q_X (q_call 0) (fun y o => y = p.1 ∧ o = some (.int p.2)) jq_Mo_contextOf 2 [(0, va_rf (some l0)), (1, .int l1), (2, .int l2)] [] x) (x : q_S) (l0 : Nat) (l1 : Int32) (l2 : Int32) (hh : jf_Mo_contextOf_B2 rc x l0 l1 l2 = some p) : q_X (q_call 0) (fun y o => y = p.1 ∧ o = some (.int p.2)) jq_Mo_contextOf 2 [(0, va_rf (some l0)), (1, .int l1), (2, .int l2)] [] x := by
  unfold jf_Mo_contextOf_B2 at hh
  refine r_iload_n 3 2 jd_Mo_contextOf_2 rfl rfl ?_
  refine r_aload_n 4 0 jd_Mo_contextOf_3 rfl rfl ?_
  obtain ⟨v1, e2, hh⟩ := q_bind hh
  refine r_getI 7 113 jd_Mo_contextOf_4 rfl e2 rfl ?_
  rcases q_ite hh with ⟨c3, hh⟩ | ⟨c3, hh⟩
  · refine r_ic_t 37 jd_Mo_contextOf_7 rfl c3 ?_
    refine r_iconst 38 (-1) jd_Mo_contextOf_37 (by decide) rfl ?_
    cases hh
    exact r_iret jd_Mo_contextOf_38 rfl ⟨rfl, rfl⟩
  · refine r_ic_f 10 37 jd_Mo_contextOf_7 rfl c3 rfl ?_
    refine r_aload_n 11 0 jd_Mo_contextOf_10 rfl rfl ?_
    obtain ⟨v4, e5, hh⟩ := q_bind hh
    refine r_getR 14 97 jd_Mo_contextOf_11 rfl e5 rfl ?_
    refine r_iload_n 15 2 jd_Mo_contextOf_14 rfl rfl ?_
    obtain ⟨v6, e7, hh⟩ := q_bind hh
    refine r_ldZ 16 101 jd_Mo_contextOf_15 rfl e7 rfl ?_
    rcases q_ite hh with ⟨c8, hh⟩ | ⟨c8, hh⟩
    · refine r_if_t 31 jd_Mo_contextOf_16 rfl c8 ?_
      refine r_iinc 34 2 [(2, .int (l2 + 1)), (0, va_rf (some l0)), (1, .int l1)] 1 jd_Mo_contextOf_31 rfl (by decide) (by decide) rfl rfl ?_
      refine r_goto 2 jd_Mo_contextOf_34 rfl ?_
      refine q_sub [1, 2, 0] rfl ?_
      exact hrc _ _ _ _ hh
    · refine r_if_f 19 31 jd_Mo_contextOf_16 rfl c8 rfl ?_
      refine r_aload_n 20 0 jd_Mo_contextOf_19 rfl rfl ?_
      obtain ⟨v9, e10, hh⟩ := q_bind hh
      refine r_getR 23 95 jd_Mo_contextOf_20 rfl e10 rfl ?_
      refine r_iload_n 24 2 jd_Mo_contextOf_23 rfl rfl ?_
      obtain ⟨v11, e12, hh⟩ := q_bind hh
      refine r_ldI 25 22 jd_Mo_contextOf_24 rfl e12 rfl ?_
      refine r_iload_n 26 1 jd_Mo_contextOf_25 rfl rfl ?_
      rcases q_ite hh with ⟨c13, hh⟩ | ⟨c13, hh⟩
      · refine r_ic_f 29 31 jd_Mo_contextOf_26 rfl (fun z => z c13) rfl ?_
        refine r_iload_n 30 2 jd_Mo_contextOf_29 rfl rfl ?_
        cases hh
        exact r_iret jd_Mo_contextOf_30 rfl ⟨rfl, rfl⟩
      · refine r_ic_t 31 jd_Mo_contextOf_26 rfl c13 ?_
        refine r_iinc 34 2 [(2, .int (l2 + 1)), (0, va_rf (some l0)), (1, .int l1)] 1 jd_Mo_contextOf_31 rfl (by decide) (by decide) rfl rfl ?_
        refine r_goto 2 jd_Mo_contextOf_34 rfl ?_
        refine q_sub [1, 2, 0] rfl ?_
        exact hrc _ _ _ _ hh
theorem jm_Mo_contextOf_L2 {p : q_S × Int32} : ∀ (n : Nat) (x : q_S) (l0 : Nat) (l1 : Int32) (l2 : Int32), jf_Mo_contextOf_L2 n x l0 l1 l2 = some p → q_X (q_call 0) (fun y o => y = p.1 ∧ o = some (.int p.2)) jq_Mo_contextOf 2 [(0, va_rf (some l0)), (1, .int l1), (2, .int l2)] [] x
  | 0, _, _, _, _, hh => nomatch hh
  | n + 1, x, l0, l1, l2, hh => jm_Mo_contextOf_B2 (jm_Mo_contextOf_L2 n) x l0 l1 l2 hh
def jf_Mo_contextOf (x : q_S) (a0 : Nat) (a1 : Int32) : Option (q_S × Int32) :=
  jf_Mo_contextOf_L2 lpK x a0 a1 0
theorem jm_Mo_contextOf {x : q_S} {a0 : Nat} {a1 : Int32} {p : q_S × Int32} (hh : jf_Mo_contextOf x a0 a1 = some p) : q_call 1 jq_Mo_contextOf [va_rf (some a0), .int a1] x p.1 (some (.int p.2)) := by
  unfold jf_Mo_contextOf at hh
  refine ⟨List.mem_of_getElem? (i := 115) rfl, Nat.le_of_ble_eq_true rfl, List.forall_mem_cons.mpr ⟨rfl, List.forall_mem_cons.mpr ⟨rfl, fun _ h => by cases h⟩⟩, ?_⟩
  show q_X (q_call 0) _ jq_Mo_contextOf 0 [(0, va_rf (some a0)), (1, .int a1)] [] x
  refine r_iconst 1 0 jd_Mo_contextOf_0 (by decide) rfl ?_
  refine r_istore_n 2 [(2, .int 0), (0, va_rf (some a0)), (1, .int a1)] jd_Mo_contextOf_1 (by decide) rfl rfl ?_
  refine q_sub [1, 2, 0] rfl ?_
  exact jm_Mo_contextOf_L2 lpK _ _ _ _ hh
-- BeanContextsModel.equal(II)Z
def jf_Mo_equal_B8 (rc : q_S → Nat → Int32 → Int32 → Int32 → Option (q_S × Int32)) (x : q_S) (l0 : Nat) (l3 : Int32) (l4 : Int32) (l5 : Int32) : Option (q_S × Int32) :=
  if 4 ≤ l5 then
    some (x, 1)
  else
    if l3 < 0 then
      if 0 ≤ l3 then
        some (x, 0)
      else
        if 0 ≤ l4 then
          some (x, 0)
        else
          some (x, 1)
    else
      if 0 ≤ l4 then
        (q_gR x (some l0) 11 12).bind fun v6 =>
        (q_lI x 18 v6 l3).bind fun v8 =>
        (q_gR x (some l0) 11 12).bind fun v10 =>
        (q_lI x 18 v10 l4).bind fun v12 =>
        if v8 = v12 then
          (q_gR x (some l0) 11 13).bind fun v15 =>
          (q_lI x 19 v15 l3).bind fun v17 =>
          (q_gR x (some l0) 11 13).bind fun v19 =>
          (q_lI x 19 v19 l4).bind fun v21 =>
          if v17 = v21 then
            (q_gR x (some l0) 11 14).bind fun v24 =>
            (q_lI x 20 v24 l3).bind fun v26 =>
            (q_gR x (some l0) 11 14).bind fun v28 =>
            (q_lI x 20 v28 l4).bind fun v30 =>
            rc x l0 v26 v30 (l5 + 1)
          else
            some (x, 0)
        else
          some (x, 0)
      else
        if 0 ≤ l3 then
          some (x, 0)
        else
          if 0 ≤ l4 then
            some (x, 0)
          else
            some (x, 1)
def jf_Mo_equal_L8 : Nat → q_S → Nat → Int32 → Int32 → Int32 → Option (q_S × Int32)
  | 0, _, _, _, _, _ => none
  | n + 1, x, l0, l3, l4, l5 => jf_Mo_equal_B8 (jf_Mo_equal_L8 n) x l0 l3 l4 l5
theorem jm_Mo_equal_B8 {p : q_S × Int32} {rc : q_S → Nat → Int32 → Int32 → Int32 → Option (q_S × Int32)} (hrc : ∀ (x : q_S) (l0 : Nat) (l3 : Int32) (l4 : Int32) (l5 : Int32), rc x l0 l3 l4 l5 = some p → q_X (q_call 0) (fun y o => y = p.1 ∧ o = some (.int p.2)) jq_Mo_equal 8 [(0, va_rf (some l0)), (3, .int l3), (4, .int l4), (5, .int l5)] [] x) (x : q_S) (l0 : Nat) (l3 : Int32) (l4 : Int32) (l5 : Int32) (hh : jf_Mo_equal_B8 rc x l0 l3 l4 l5 = some p) : q_X (q_call 0) (fun y o => y = p.1 ∧ o = some (.int p.2)) jq_Mo_equal 8 [(0, va_rf (some l0)), (3, .int l3), (4, .int l4), (5, .int l5)] [] x := by
  unfold jf_Mo_equal_B8 at hh
  refine r_iload 10 3 jd_Mo_equal_8 rfl rfl ?_
  refine r_iconst 11 4 jd_Mo_equal_10 (by decide) rfl ?_
  rcases q_ite hh with ⟨c1, hh⟩ | ⟨c1, hh⟩
  · refine r_ic_t 94 jd_Mo_equal_11 rfl c1 ?_
    refine r_iconst 95 1 jd_Mo_equal_94 (by decide) rfl ?_
    cases hh
    exact r_zret jd_Mo_equal_95 rfl (by decide) ⟨rfl, rfl⟩
  · refine r_ic_f 14 94 jd_Mo_equal_11 rfl c1 rfl ?_
    refine r_iload_n 15 1 jd_Mo_equal_14 rfl rfl ?_
    rcases q_ite hh with ⟨c2, hh⟩ | ⟨c2, hh⟩
    · refine r_if_t 23 jd_Mo_equal_15 rfl c2 ?_
      refine r_iload_n 24 1 jd_Mo_equal_23 rfl rfl ?_
      rcases q_ite hh with ⟨c3, hh⟩ | ⟨c3, hh⟩
      · refine r_if_t 36 jd_Mo_equal_24 rfl c3 ?_
        refine r_iconst 37 0 jd_Mo_equal_36 (by decide) rfl ?_
        cases hh
        exact r_zret jd_Mo_equal_37 rfl (by decide) ⟨rfl, rfl⟩
      · refine r_if_f 27 36 jd_Mo_equal_24 rfl c3 rfl ?_
        refine r_iload 29 2 jd_Mo_equal_27 rfl rfl ?_
        rcases q_ite hh with ⟨c4, hh⟩ | ⟨c4, hh⟩
        · refine r_if_t 36 jd_Mo_equal_29 rfl c4 ?_
          refine r_iconst 37 0 jd_Mo_equal_36 (by decide) rfl ?_
          cases hh
          exact r_zret jd_Mo_equal_37 rfl (by decide) ⟨rfl, rfl⟩
        · refine r_if_f 32 36 jd_Mo_equal_29 rfl c4 rfl ?_
          refine r_iconst 33 1 jd_Mo_equal_32 (by decide) rfl ?_
          refine r_goto 37 jd_Mo_equal_33 rfl ?_
          cases hh
          exact r_zret jd_Mo_equal_37 rfl (by decide) ⟨rfl, rfl⟩
    · refine r_if_f 18 23 jd_Mo_equal_15 rfl c2 rfl ?_
      refine r_iload 20 2 jd_Mo_equal_18 rfl rfl ?_
      rcases q_ite hh with ⟨c5, hh⟩ | ⟨c5, hh⟩
      · refine r_if_t 38 jd_Mo_equal_20 rfl c5 ?_
        refine r_aload_n 39 0 jd_Mo_equal_38 rfl rfl ?_
        obtain ⟨v6, e7, hh⟩ := q_bind hh
        refine r_getR 42 91 jd_Mo_equal_39 rfl e7 rfl ?_
        refine r_iload_n 43 1 jd_Mo_equal_42 rfl rfl ?_
        obtain ⟨v8, e9, hh⟩ := q_bind hh
        refine r_ldI 44 18 jd_Mo_equal_43 rfl e9 rfl ?_
        refine r_aload_n 45 0 jd_Mo_equal_44 rfl rfl ?_
        obtain ⟨v10, e11, hh⟩ := q_bind hh
        refine r_getR 48 91 jd_Mo_equal_45 rfl e11 rfl ?_
        refine r_iload 50 2 jd_Mo_equal_48 rfl rfl ?_
        obtain ⟨v12, e13, hh⟩ := q_bind hh
        refine r_ldI 51 18 jd_Mo_equal_50 rfl e13 rfl ?_
        rcases q_ite hh with ⟨c14, hh⟩ | ⟨c14, hh⟩
        · refine r_ic_f 54 70 jd_Mo_equal_51 rfl (fun z => z c14) rfl ?_
          refine r_aload_n 55 0 jd_Mo_equal_54 rfl rfl ?_
          obtain ⟨v15, e16, hh⟩ := q_bind hh
          refine r_getR 58 92 jd_Mo_equal_55 rfl e16 rfl ?_
          refine r_iload_n 59 1 jd_Mo_equal_58 rfl rfl ?_
          obtain ⟨v17, e18, hh⟩ := q_bind hh
          refine r_ldI 60 19 jd_Mo_equal_59 rfl e18 rfl ?_
          refine r_aload_n 61 0 jd_Mo_equal_60 rfl rfl ?_
          obtain ⟨v19, e20, hh⟩ := q_bind hh
          refine r_getR 64 92 jd_Mo_equal_61 rfl e20 rfl ?_
          refine r_iload 66 2 jd_Mo_equal_64 rfl rfl ?_
          obtain ⟨v21, e22, hh⟩ := q_bind hh
          refine r_ldI 67 19 jd_Mo_equal_66 rfl e22 rfl ?_
          rcases q_ite hh with ⟨c23, hh⟩ | ⟨c23, hh⟩
          · refine r_ic_t 72 jd_Mo_equal_67 rfl c23 ?_
            refine r_aload_n 73 0 jd_Mo_equal_72 rfl rfl ?_
            obtain ⟨v24, e25, hh⟩ := q_bind hh
            refine r_getR 76 93 jd_Mo_equal_73 rfl e25 rfl ?_
            refine r_iload_n 77 1 jd_Mo_equal_76 rfl rfl ?_
            obtain ⟨v26, e27, hh⟩ := q_bind hh
            refine r_ldI 78 20 jd_Mo_equal_77 rfl e27 rfl ?_
            refine r_istore_n 79 [(3, .int v26), (0, va_rf (some l0)), (4, .int l4), (5, .int l5)] jd_Mo_equal_78 (by decide) rfl rfl ?_
            refine r_aload_n 80 1 jd_Mo_equal_79 rfl rfl ?_
            obtain ⟨v28, e29, hh⟩ := q_bind hh
            refine r_getR 83 93 jd_Mo_equal_80 rfl e29 rfl ?_
            refine r_iload 85 2 jd_Mo_equal_83 rfl rfl ?_
            obtain ⟨v30, e31, hh⟩ := q_bind hh
            refine r_ldI 86 20 jd_Mo_equal_85 rfl e31 rfl ?_
            refine r_istore 88 [(4, .int v30), (3, .int v26), (0, va_rf (some l0)), (5, .int l5)] jd_Mo_equal_86 (by decide) rfl rfl ?_
            refine r_iinc 91 3 [(5, .int (l5 + 1)), (4, .int v30), (3, .int v26), (0, va_rf (some l0))] 1 jd_Mo_equal_88 rfl (by decide) (by decide) rfl rfl ?_
            refine r_goto 8 jd_Mo_equal_91 rfl ?_
            refine q_sub [3, 2, 1, 0] rfl ?_
            exact hrc _ _ _ _ _ hh
          · refine r_ic_f 70 72 jd_Mo_equal_67 rfl c23 rfl ?_
            refine r_iconst 71 0 jd_Mo_equal_70 (by decide) rfl ?_
            cases hh
            exact r_zret jd_Mo_equal_71 rfl (by decide) ⟨rfl, rfl⟩
        · refine r_ic_t 70 jd_Mo_equal_51 rfl c14 ?_
          refine r_iconst 71 0 jd_Mo_equal_70 (by decide) rfl ?_
          cases hh
          exact r_zret jd_Mo_equal_71 rfl (by decide) ⟨rfl, rfl⟩
      · refine r_if_f 23 38 jd_Mo_equal_20 rfl c5 rfl ?_
        refine r_iload_n 24 1 jd_Mo_equal_23 rfl rfl ?_
        rcases q_ite hh with ⟨c32, hh⟩ | ⟨c32, hh⟩
        · refine r_if_t 36 jd_Mo_equal_24 rfl c32 ?_
          refine r_iconst 37 0 jd_Mo_equal_36 (by decide) rfl ?_
          cases hh
          exact r_zret jd_Mo_equal_37 rfl (by decide) ⟨rfl, rfl⟩
        · refine r_if_f 27 36 jd_Mo_equal_24 rfl c32 rfl ?_
          refine r_iload 29 2 jd_Mo_equal_27 rfl rfl ?_
          rcases q_ite hh with ⟨c33, hh⟩ | ⟨c33, hh⟩
          · refine r_if_t 36 jd_Mo_equal_29 rfl c33 ?_
            refine r_iconst 37 0 jd_Mo_equal_36 (by decide) rfl ?_
            cases hh
            exact r_zret jd_Mo_equal_37 rfl (by decide) ⟨rfl, rfl⟩
          · refine r_if_f 32 36 jd_Mo_equal_29 rfl c33 rfl ?_
            refine r_iconst 33 1 jd_Mo_equal_32 (by decide) rfl ?_
            refine r_goto 37 jd_Mo_equal_33 rfl ?_
            cases hh
            exact r_zret jd_Mo_equal_37 rfl (by decide) ⟨rfl, rfl⟩
theorem jm_Mo_equal_L8 {p : q_S × Int32} : ∀ (n : Nat) (x : q_S) (l0 : Nat) (l3 : Int32) (l4 : Int32) (l5 : Int32), jf_Mo_equal_L8 n x l0 l3 l4 l5 = some p → q_X (q_call 0) (fun y o => y = p.1 ∧ o = some (.int p.2)) jq_Mo_equal 8 [(0, va_rf (some l0)), (3, .int l3), (4, .int l4), (5, .int l5)] [] x
  | 0, _, _, _, _, _, hh => nomatch hh
  | n + 1, x, l0, l3, l4, l5, hh => jm_Mo_equal_B8 (jm_Mo_equal_L8 n) x l0 l3 l4 l5 hh
def jf_Mo_equal (x : q_S) (a0 : Nat) (a1 : Int32) (a2 : Int32) : Option (q_S × Int32) :=
  jf_Mo_equal_L8 lpK x a0 a1 a2 0
theorem jm_Mo_equal {x : q_S} {a0 : Nat} {a1 : Int32} {a2 : Int32} {p : q_S × Int32} (hh : jf_Mo_equal x a0 a1 a2 = some p) : q_call 1 jq_Mo_equal [va_rf (some a0), .int a1, .int a2] x p.1 (some (.int p.2)) := by
  unfold jf_Mo_equal at hh
  refine ⟨List.mem_of_getElem? (i := 117) rfl, Nat.le_of_ble_eq_true rfl, List.forall_mem_cons.mpr ⟨rfl, List.forall_mem_cons.mpr ⟨rfl, List.forall_mem_cons.mpr ⟨rfl, fun _ h => by cases h⟩⟩⟩, ?_⟩
  show q_X (q_call 0) _ jq_Mo_equal 0 [(0, va_rf (some a0)), (1, .int a1), (2, .int a2)] [] x
  refine r_iload_n 1 1 jd_Mo_equal_0 rfl rfl ?_
  refine r_istore_n 2 [(3, .int a1), (0, va_rf (some a0)), (1, .int a1), (2, .int a2)] jd_Mo_equal_1 (by decide) rfl rfl ?_
  refine r_iload_n 3 3 jd_Mo_equal_2 rfl rfl ?_
  refine r_istore 5 [(4, .int a2), (3, .int a1), (0, va_rf (some a0)), (1, .int a1), (2, .int a2)] jd_Mo_equal_3 (by decide) rfl rfl ?_
  refine r_iconst 6 0 jd_Mo_equal_5 (by decide) rfl ?_
  refine r_istore 8 [(5, .int 0), (4, .int a2), (3, .int a1), (0, va_rf (some a0)), (1, .int a1), (2, .int a2)] jd_Mo_equal_6 (by decide) rfl rfl ?_
  refine q_sub [3, 2, 1, 0] rfl ?_
  exact jm_Mo_equal_L8 lpK _ _ _ _ _ hh
-- BeanContextsModel.key(I)I
def jf_Mo_key_B12 (rc : q_S → Nat → Int32 → Int32 → Option (q_S × Int32)) (x : q_S) (l0 : Nat) (l1 : Int32) (l2 : Int32) : Option (q_S × Int32) :=
  if l1 ≤ l2 then
    some (x, l1)
  else
    (q_av x (some l0) 11).bind fun b9 =>
    (jf_Mo_equal x b9 l2 l1).bind fun p7 =>
    if p7.2 = 0 then
      rc p7.1 l0 l1 (l2 + 1)
    else
      some (p7.1, l2)
def jf_Mo_key_L12 : Nat → q_S → Nat → Int32 → Int32 → Option (q_S × Int32)
  | 0, _, _, _, _ => none
  | n + 1, x, l0, l1, l2 => jf_Mo_key_B12 (jf_Mo_key_L12 n) x l0 l1 l2
theorem jm_Mo_key_B12 {p : q_S × Int32} {rc : q_S → Nat → Int32 → Int32 → Option (q_S × Int32)} (hrc : ∀ (x : q_S) (l0 : Nat) (l1 : Int32) (l2 : Int32), rc x l0 l1 l2 = some p → q_X (q_call 2) (fun y o => y = p.1 ∧ o = some (.int p.2)) jq_Mo_key 12 [(0, va_rf (some l0)), (1, .int l1), (2, .int l2)] [] x) (x : q_S) (l0 : Nat) (l1 : Int32) (l2 : Int32) (hh : jf_Mo_key_B12 rc x l0 l1 l2 = some p) : q_X (q_call 2) (fun y o => y = p.1 ∧ o = some (.int p.2)) jq_Mo_key 12 [(0, va_rf (some l0)), (1, .int l1), (2, .int l2)] [] x := by
  unfold jf_Mo_key_B12 at hh
  refine r_iload_n 13 2 jd_Mo_key_12 rfl rfl ?_
  refine r_iload_n 14 1 jd_Mo_key_13 rfl rfl ?_
  rcases q_ite hh with ⟨c6, hh⟩ | ⟨c6, hh⟩
  · refine r_ic_t 34 jd_Mo_key_14 rfl c6 ?_
    refine r_iload_n 35 1 jd_Mo_key_34 rfl rfl ?_
    cases hh
    exact r_iret jd_Mo_key_35 rfl ⟨rfl, rfl⟩
  · refine r_ic_f 17 34 jd_Mo_key_14 rfl c6 rfl ?_
    refine r_aload_n 18 0 jd_Mo_key_17 rfl rfl ?_
    refine r_iload_n 19 2 jd_Mo_key_18 rfl rfl ?_
    refine r_iload_n 20 1 jd_Mo_key_19 rfl rfl ?_
    obtain ⟨b9, e10, hh⟩ := q_bind hh
    obtain ⟨p7, e8, hh⟩ := q_bind hh
    refine r_cV (rest := []) 23 121 11 [.int l2, .int l1] [.int p7.2] jd_Mo_key_20 rfl e10 rfl rfl rfl rfl (q_s8 (Nat.le_of_ble_eq_true rfl)) (q_call_le (Nat.le_of_ble_eq_true rfl) (jm_Mo_equal e8)) rfl rfl ?_
    rcases q_ite hh with ⟨c11, hh⟩ | ⟨c11, hh⟩
    · refine r_if_t 28 jd_Mo_key_23 rfl c11 ?_
      refine r_iinc 31 2 [(2, .int (l2 + 1)), (0, va_rf (some l0)), (1, .int l1)] 1 jd_Mo_key_28 rfl (by decide) (by decide) rfl rfl ?_
      refine r_goto 12 jd_Mo_key_31 rfl ?_
      refine q_sub [1, 2, 0] rfl ?_
      exact hrc _ _ _ _ hh
    · refine r_if_f 26 28 jd_Mo_key_23 rfl c11 rfl ?_
      refine r_iload_n 27 2 jd_Mo_key_26 rfl rfl ?_
      cases hh
      exact r_iret jd_Mo_key_27 rfl ⟨rfl, rfl⟩
theorem jm_Mo_key_L12 {p : q_S × Int32} : ∀ (n : Nat) (x : q_S) (l0 : Nat) (l1 : Int32) (l2 : Int32), jf_Mo_key_L12 n x l0 l1 l2 = some p → q_X (q_call 2) (fun y o => y = p.1 ∧ o = some (.int p.2)) jq_Mo_key 12 [(0, va_rf (some l0)), (1, .int l1), (2, .int l2)] [] x
  | 0, _, _, _, _, hh => nomatch hh
  | n + 1, x, l0, l1, l2, hh => jm_Mo_key_B12 (jm_Mo_key_L12 n) x l0 l1 l2 hh
def jf_Mo_key (x : q_S) (a0 : Nat) (a1 : Int32) : Option (q_S × Int32) :=
  (q_av x (some a0) 11).bind fun b3 =>
  (jf_Mo_isConfiguration x b3 a1).bind fun p1 =>
  if p1.2 = 0 then
    some (p1.1, (-1))
  else
    jf_Mo_key_L12 lpK p1.1 a0 a1 0
theorem jm_Mo_key {x : q_S} {a0 : Nat} {a1 : Int32} {p : q_S × Int32} (hh : jf_Mo_key x a0 a1 = some p) : q_call 3 jq_Mo_key [va_rf (some a0), .int a1] x p.1 (some (.int p.2)) := by
  unfold jf_Mo_key at hh
  refine ⟨List.mem_of_getElem? (i := 116) rfl, Nat.le_of_ble_eq_true rfl, List.forall_mem_cons.mpr ⟨rfl, List.forall_mem_cons.mpr ⟨rfl, fun _ h => by cases h⟩⟩, ?_⟩
  show q_X (q_call 2) _ jq_Mo_key 0 [(0, va_rf (some a0)), (1, .int a1)] [] x
  refine r_aload_n 1 0 jd_Mo_key_0 rfl rfl ?_
  refine r_iload_n 2 1 jd_Mo_key_1 rfl rfl ?_
  obtain ⟨b3, e4, hh⟩ := q_bind hh
  obtain ⟨p1, e2, hh⟩ := q_bind hh
  refine r_cV (rest := []) 5 116 11 [.int a1] [.int p1.2] jd_Mo_key_2 rfl e4 rfl rfl rfl rfl (q_s8 (Nat.le_of_ble_eq_true rfl)) (q_call_le (Nat.le_of_ble_eq_true rfl) (jm_Mo_isConfiguration e2)) rfl rfl ?_
  rcases q_ite hh with ⟨c5, hh⟩ | ⟨c5, hh⟩
  · refine r_if_f 8 10 jd_Mo_key_5 rfl (fun z => z c5) rfl ?_
    refine r_iconst 9 (-1) jd_Mo_key_8 (by decide) rfl ?_
    cases hh
    exact r_iret jd_Mo_key_9 rfl ⟨rfl, rfl⟩
  · refine r_if_t 10 jd_Mo_key_5 rfl c5 ?_
    refine r_iconst 11 0 jd_Mo_key_10 (by decide) rfl ?_
    refine r_istore_n 12 [(2, .int 0), (0, va_rf (some a0)), (1, .int a1)] jd_Mo_key_11 (by decide) rfl rfl ?_
    refine q_sub [1, 2, 0] rfl ?_
    exact jm_Mo_key_L12 lpK _ _ _ _ hh
-- BeanContextsModel.cachedFor(I)I
def jf_Mo_cachedFor (x : q_S) (a0 : Nat) (a1 : Int32) : Option (q_S × Int32) :=
  (q_av x (some a0) 11).bind fun b3 =>
  (jf_Mo_isConfiguration x b3 a1).bind fun p1 =>
  if p1.2 = 0 then
    some (p1.1, (-1))
  else
    (q_av p1.1 (some a0) 11).bind fun b8 =>
    (jf_Mo_key p1.1 b8 a1).bind fun p6 =>
    (q_av p6.1 (some a0) 11).bind fun b12 =>
    (jf_Mo_contextOf p6.1 b12 p6.2).bind fun p10 =>
    some (p10.1, p10.2)
theorem jm_Mo_cachedFor {x : q_S} {a0 : Nat} {a1 : Int32} {p : q_S × Int32} (hh : jf_Mo_cachedFor x a0 a1 = some p) : q_call 4 jq_Mo_cachedFor [va_rf (some a0), .int a1] x p.1 (some (.int p.2)) := by
  unfold jf_Mo_cachedFor at hh
  refine ⟨List.mem_of_getElem? (i := 114) rfl, Nat.le_of_ble_eq_true rfl, List.forall_mem_cons.mpr ⟨rfl, List.forall_mem_cons.mpr ⟨rfl, fun _ h => by cases h⟩⟩, ?_⟩
  show q_X (q_call 3) _ jq_Mo_cachedFor 0 [(0, va_rf (some a0)), (1, .int a1)] [] x
  refine r_aload_n 1 0 jd_Mo_cachedFor_0 rfl rfl ?_
  refine r_iload_n 2 1 jd_Mo_cachedFor_1 rfl rfl ?_
  obtain ⟨b3, e4, hh⟩ := q_bind hh
  obtain ⟨p1, e2, hh⟩ := q_bind hh
  refine r_cV (rest := []) 5 116 11 [.int a1] [.int p1.2] jd_Mo_cachedFor_2 rfl e4 rfl rfl rfl rfl (q_s8 (Nat.le_of_ble_eq_true rfl)) (q_call_le (Nat.le_of_ble_eq_true rfl) (jm_Mo_isConfiguration e2)) rfl rfl ?_
  rcases q_ite hh with ⟨c5, hh⟩ | ⟨c5, hh⟩
  · refine r_if_t 20 jd_Mo_cachedFor_5 rfl c5 ?_
    refine r_iconst 21 (-1) jd_Mo_cachedFor_20 (by decide) rfl ?_
    cases hh
    exact r_iret jd_Mo_cachedFor_21 rfl ⟨rfl, rfl⟩
  · refine r_if_f 8 20 jd_Mo_cachedFor_5 rfl c5 rfl ?_
    refine r_aload_n 9 0 jd_Mo_cachedFor_8 rfl rfl ?_
    refine r_aload_n 10 0 jd_Mo_cachedFor_9 rfl rfl ?_
    refine r_iload_n 11 1 jd_Mo_cachedFor_10 rfl rfl ?_
    obtain ⟨b8, e9, hh⟩ := q_bind hh
    obtain ⟨p6, e7, hh⟩ := q_bind hh
    refine r_cV (rest := [va_rf (some a0)]) 14 119 11 [.int a1] [.int p6.2, va_rf (some a0)] jd_Mo_cachedFor_11 rfl e9 rfl rfl rfl rfl (q_s8 (Nat.le_of_ble_eq_true rfl)) (q_call_le (Nat.le_of_ble_eq_true rfl) (jm_Mo_key e7)) rfl rfl ?_
    obtain ⟨b12, e13, hh⟩ := q_bind hh
    obtain ⟨p10, e11, hh⟩ := q_bind hh
    refine r_cV (rest := []) 17 120 11 [.int p6.2] [.int p10.2] jd_Mo_cachedFor_14 rfl e13 rfl rfl rfl rfl (q_s8 (Nat.le_of_ble_eq_true rfl)) (q_call_le (Nat.le_of_ble_eq_true rfl) (jm_Mo_contextOf e11)) rfl rfl ?_
    refine r_goto 21 jd_Mo_cachedFor_17 rfl ?_
    cases hh
    exact r_iret jd_Mo_cachedFor_21 rfl ⟨rfl, rfl⟩
-- BeanContextsModel.child(I)I
def jf_Mo_child_B7 (rc : q_S → Nat → Int32 → Int32 → Option (q_S × Int32)) (x : q_S) (l0 : Nat) (l1 : Int32) (l2 : Int32) : Option (q_S × Int32) :=
  if l2 < 0 then
    some (x, (-1))
  else
    (q_gR x (some l0) 11 19).bind fun v4 =>
    (q_lI x 101 v4 l2).bind fun v6 =>
    if v6 = 0 then
      rc x l0 l1 (l2 + (-1))
    else
      (q_gR x (some l0) 11 18).bind fun v9 =>
      (q_lI x 23 v9 l2).bind fun v11 =>
      if v11 = l1 then
        some (x, l2)
      else
        rc x l0 l1 (l2 + (-1))
def jf_Mo_child_L7 : Nat → q_S → Nat → Int32 → Int32 → Option (q_S × Int32)
  | 0, _, _, _, _ => none
  | n + 1, x, l0, l1, l2 => jf_Mo_child_B7 (jf_Mo_child_L7 n) x l0 l1 l2
theorem jm_Mo_child_B7 {p : q_S × Int32} {rc : q_S → Nat → Int32 → Int32 → Option (q_S × Int32)} (hrc : ∀ (x : q_S) (l0 : Nat) (l1 : Int32) (l2 : Int32), rc x l0 l1 l2 = some p → q_X (q_call 0) (fun y o => y = p.1 ∧ o = some (.int p.2)) jq_Mo_child 7 [(0, va_rf (some l0)), (1, .int l1), (2, .int l2)] [] x) (x : q_S) (l0 : Nat) (l1 : Int32) (l2 : Int32) (hh : jf_Mo_child_B7 rc x l0 l1 l2 = some p) : q_X (q_call 0) (fun y o => y = p.1 ∧ o = some (.int p.2)) jq_Mo_child 7 [(0, va_rf (some l0)), (1, .int l1), (2, .int l2)] [] x := by
  unfold jf_Mo_child_B7 at hh
  refine r_iload_n 8 2 jd_Mo_child_7 rfl rfl ?_
  rcases q_ite hh with ⟨c3, hh⟩ | ⟨c3, hh⟩
  · refine r_if_t 38 jd_Mo_child_8 rfl c3 ?_
    refine r_iconst 39 (-1) jd_Mo_child_38 (by decide) rfl ?_
    cases hh
    exact r_iret jd_Mo_child_39 rfl ⟨rfl, rfl⟩
  · refine r_if_f 11 38 jd_Mo_child_8 rfl c3 rfl ?_
    refine r_aload_n 12 0 jd_Mo_child_11 rfl rfl ?_
    obtain ⟨v4, e5, hh⟩ := q_bind hh
    refine r_getR 15 97 jd_Mo_child_12 rfl e5 rfl ?_
    refine r_iload_n 16 2 jd_Mo_child_15 rfl rfl ?_
    obtain ⟨v6, e7, hh⟩ := q_bind hh
    refine r_ldZ 17 101 jd_Mo_child_16 rfl e7 rfl ?_
    rcases q_ite hh with ⟨c8, hh⟩ | ⟨c8, hh⟩
    · refine r_if_t 32 jd_Mo_child_17 rfl c8 ?_
      refine r_iinc 35 2 [(2, .int (l2 + (-1))), (0, va_rf (some l0)), (1, .int l1)] (-1) jd_Mo_child_32 rfl (by decide) (by decide) rfl rfl ?_
      refine r_goto 7 jd_Mo_child_35 rfl ?_
      refine q_sub [1, 2, 0] rfl ?_
      exact hrc _ _ _ _ hh
    · refine r_if_f 20 32 jd_Mo_child_17 rfl c8 rfl ?_
      refine r_aload_n 21 0 jd_Mo_child_20 rfl rfl ?_
      obtain ⟨v9, e10, hh⟩ := q_bind hh
      refine r_getR 24 96 jd_Mo_child_21 rfl e10 rfl ?_
      refine r_iload_n 25 2 jd_Mo_child_24 rfl rfl ?_
      obtain ⟨v11, e12, hh⟩ := q_bind hh
      refine r_ldI 26 23 jd_Mo_child_25 rfl e12 rfl ?_
      refine r_iload_n 27 1 jd_Mo_child_26 rfl rfl ?_
      rcases q_ite hh with ⟨c13, hh⟩ | ⟨c13, hh⟩
      · refine r_ic_f 30 32 jd_Mo_child_27 rfl (fun z => z c13) rfl ?_
        refine r_iload_n 31 2 jd_Mo_child_30 rfl rfl ?_
        cases hh
        exact r_iret jd_Mo_child_31 rfl ⟨rfl, rfl⟩
      · refine r_ic_t 32 jd_Mo_child_27 rfl c13 ?_
        refine r_iinc 35 2 [(2, .int (l2 + (-1))), (0, va_rf (some l0)), (1, .int l1)] (-1) jd_Mo_child_32 rfl (by decide) (by decide) rfl rfl ?_
        refine r_goto 7 jd_Mo_child_35 rfl ?_
        refine q_sub [1, 2, 0] rfl ?_
        exact hrc _ _ _ _ hh
theorem jm_Mo_child_L7 {p : q_S × Int32} : ∀ (n : Nat) (x : q_S) (l0 : Nat) (l1 : Int32) (l2 : Int32), jf_Mo_child_L7 n x l0 l1 l2 = some p → q_X (q_call 0) (fun y o => y = p.1 ∧ o = some (.int p.2)) jq_Mo_child 7 [(0, va_rf (some l0)), (1, .int l1), (2, .int l2)] [] x
  | 0, _, _, _, _, hh => nomatch hh
  | n + 1, x, l0, l1, l2, hh => jm_Mo_child_B7 (jm_Mo_child_L7 n) x l0 l1 l2 hh
def jf_Mo_child (x : q_S) (a0 : Nat) (a1 : Int32) : Option (q_S × Int32) :=
  (q_gI x (some a0) 11 16).bind fun v1 =>
  jf_Mo_child_L7 lpK x a0 a1 (v1 - 1)
theorem jm_Mo_child {x : q_S} {a0 : Nat} {a1 : Int32} {p : q_S × Int32} (hh : jf_Mo_child x a0 a1 = some p) : q_call 1 jq_Mo_child [va_rf (some a0), .int a1] x p.1 (some (.int p.2)) := by
  unfold jf_Mo_child at hh
  refine ⟨List.mem_of_getElem? (i := 119) rfl, Nat.le_of_ble_eq_true rfl, List.forall_mem_cons.mpr ⟨rfl, List.forall_mem_cons.mpr ⟨rfl, fun _ h => by cases h⟩⟩, ?_⟩
  show q_X (q_call 0) _ jq_Mo_child 0 [(0, va_rf (some a0)), (1, .int a1)] [] x
  refine r_aload_n 1 0 jd_Mo_child_0 rfl rfl ?_
  obtain ⟨v1, e2, hh⟩ := q_bind hh
  refine r_getI 4 113 jd_Mo_child_1 rfl e2 rfl ?_
  refine r_iconst 5 1 jd_Mo_child_4 (by decide) rfl ?_
  refine r_isub 6 jd_Mo_child_5 rfl ?_
  refine r_istore_n 7 [(2, .int (v1 - 1)), (0, va_rf (some a0)), (1, .int a1)] jd_Mo_child_6 (by decide) rfl rfl ?_
  refine q_sub [1, 2, 0] rfl ?_
  exact jm_Mo_child_L7 lpK _ _ _ _ hh
-- BeanContextsModel.isMocked(II)Z
def jf_Mo_isMocked (x : q_S) (a0 : Nat) (a1 : Int32) (a2 : Int32) : Option (q_S × Int32) :=
  (q_gR x (some a0) 11 13).bind fun v1 =>
  (q_gR x (some a0) 11 17).bind fun v3 =>
  (q_lI x 22 v3 a1).bind fun v5 =>
  (q_lI x 19 v1 v5).bind fun v7 =>
  if ((v7 >>> (a2 &&& 31)) &&& 1) = 1 then
    some (x, 1)
  else
    some (x, 0)
theorem jm_Mo_isMocked {x : q_S} {a0 : Nat} {a1 : Int32} {a2 : Int32} {p : q_S × Int32} (hh : jf_Mo_isMocked x a0 a1 a2 = some p) : q_call 1 jq_Mo_isMocked [va_rf (some a0), .int a1, .int a2] x p.1 (some (.int p.2)) := by
  unfold jf_Mo_isMocked at hh
  refine ⟨List.mem_of_getElem? (i := 123) rfl, Nat.le_of_ble_eq_true rfl, List.forall_mem_cons.mpr ⟨rfl, List.forall_mem_cons.mpr ⟨rfl, List.forall_mem_cons.mpr ⟨rfl, fun _ h => by cases h⟩⟩⟩, ?_⟩
  show q_X (q_call 0) _ jq_Mo_isMocked 0 [(0, va_rf (some a0)), (1, .int a1), (2, .int a2)] [] x
  refine r_aload_n 1 0 jd_Mo_isMocked_0 rfl rfl ?_
  obtain ⟨v1, e2, hh⟩ := q_bind hh
  refine r_getR 4 92 jd_Mo_isMocked_1 rfl e2 rfl ?_
  refine r_aload_n 5 0 jd_Mo_isMocked_4 rfl rfl ?_
  obtain ⟨v3, e4, hh⟩ := q_bind hh
  refine r_getR 8 95 jd_Mo_isMocked_5 rfl e4 rfl ?_
  refine r_iload_n 9 1 jd_Mo_isMocked_8 rfl rfl ?_
  obtain ⟨v5, e6, hh⟩ := q_bind hh
  refine r_ldI 10 22 jd_Mo_isMocked_9 rfl e6 rfl ?_
  obtain ⟨v7, e8, hh⟩ := q_bind hh
  refine r_ldI 11 19 jd_Mo_isMocked_10 rfl e8 rfl ?_
  refine r_iload_n 12 2 jd_Mo_isMocked_11 rfl rfl ?_
  refine r_ishr 13 jd_Mo_isMocked_12 rfl ?_
  refine r_iconst 14 1 jd_Mo_isMocked_13 (by decide) rfl ?_
  refine r_iand 15 jd_Mo_isMocked_14 rfl ?_
  refine r_iconst 16 1 jd_Mo_isMocked_15 (by decide) rfl ?_
  rcases q_ite hh with ⟨c9, hh⟩ | ⟨c9, hh⟩
  · refine r_ic_f 19 23 jd_Mo_isMocked_16 rfl (fun z => z c9) rfl ?_
    refine r_iconst 20 1 jd_Mo_isMocked_19 (by decide) rfl ?_
    refine r_goto 24 jd_Mo_isMocked_20 rfl ?_
    cases hh
    exact r_zret jd_Mo_isMocked_24 rfl (by decide) ⟨rfl, rfl⟩
  · refine r_ic_t 23 jd_Mo_isMocked_16 rfl c9 ?_
    refine r_iconst 24 0 jd_Mo_isMocked_23 (by decide) rfl ?_
    cases hh
    exact r_zret jd_Mo_isMocked_24 rfl (by decide) ⟨rfl, rfl⟩
-- BeanContextsModel.many(II)Z
def jf_Mo_many (x : q_S) (a0 : Nat) (a1 : Int32) (a2 : Int32) : Option (q_S × Int32) :=
  (q_gR x (some a0) 11 4).bind fun v1 =>
  (q_lI x 11 v1 a2).bind fun v3 =>
  if (v3 &&& 4) = 0 then
    some (x, 0)
  else
    (q_av x (some a0) 11).bind fun b8 =>
    (jf_Mo_isMocked x b8 a1 a2).bind fun p6 =>
    if p6.2 = 0 then
      some (p6.1, 1)
    else
      some (p6.1, 0)
theorem jm_Mo_many {x : q_S} {a0 : Nat} {a1 : Int32} {a2 : Int32} {p : q_S × Int32} (hh : jf_Mo_many x a0 a1 a2 = some p) : q_call 2 jq_Mo_many [va_rf (some a0), .int a1, .int a2] x p.1 (some (.int p.2)) := by
  unfold jf_Mo_many at hh
  refine ⟨List.mem_of_getElem? (i := 122) rfl, Nat.le_of_ble_eq_true rfl, List.forall_mem_cons.mpr ⟨rfl, List.forall_mem_cons.mpr ⟨rfl, List.forall_mem_cons.mpr ⟨rfl, fun _ h => by cases h⟩⟩⟩, ?_⟩
  show q_X (q_call 1) _ jq_Mo_many 0 [(0, va_rf (some a0)), (1, .int a1), (2, .int a2)] [] x
  refine r_aload_n 1 0 jd_Mo_many_0 rfl rfl ?_
  obtain ⟨v1, e2, hh⟩ := q_bind hh
  refine r_getR 4 84 jd_Mo_many_1 rfl e2 rfl ?_
  refine r_iload_n 5 2 jd_Mo_many_4 rfl rfl ?_
  obtain ⟨v3, e4, hh⟩ := q_bind hh
  refine r_ldI 6 11 jd_Mo_many_5 rfl e4 rfl ?_
  refine r_iconst 7 4 jd_Mo_many_6 (by decide) rfl ?_
  refine r_iand 8 jd_Mo_many_7 rfl ?_
  rcases q_ite hh with ⟨c5, hh⟩ | ⟨c5, hh⟩
  · refine r_if_t 24 jd_Mo_many_8 rfl c5 ?_
    refine r_iconst 25 0 jd_Mo_many_24 (by decide) rfl ?_
    cases hh
    exact r_zret jd_Mo_many_25 rfl (by decide) ⟨rfl, rfl⟩
  · refine r_if_f 11 24 jd_Mo_many_8 rfl c5 rfl ?_
    refine r_aload_n 12 0 jd_Mo_many_11 rfl rfl ?_
    refine r_iload_n 13 1 jd_Mo_many_12 rfl rfl ?_
    refine r_iload_n 14 2 jd_Mo_many_13 rfl rfl ?_
    obtain ⟨b8, e9, hh⟩ := q_bind hh
    obtain ⟨p6, e7, hh⟩ := q_bind hh
    refine r_cV (rest := []) 17 127 11 [.int a1, .int a2] [.int p6.2] jd_Mo_many_14 rfl e9 rfl rfl rfl rfl (q_s8 (Nat.le_of_ble_eq_true rfl)) (q_call_le (Nat.le_of_ble_eq_true rfl) (jm_Mo_isMocked e7)) rfl rfl ?_
    rcases q_ite hh with ⟨c10, hh⟩ | ⟨c10, hh⟩
    · refine r_if_f 20 24 jd_Mo_many_17 rfl (fun z => z c10) rfl ?_
      refine r_iconst 21 1 jd_Mo_many_20 (by decide) rfl ?_
      refine r_goto 25 jd_Mo_many_21 rfl ?_
      cases hh
      exact r_zret jd_Mo_many_25 rfl (by decide) ⟨rfl, rfl⟩
    · refine r_if_t 24 jd_Mo_many_17 rfl c10 ?_
      refine r_iconst 25 0 jd_Mo_many_24 (by decide) rfl ?_
      cases hh
      exact r_zret jd_Mo_many_25 rfl (by decide) ⟨rfl, rfl⟩
-- BeanContextsModel.note(II)V
def jf_Mo_note (x : q_S) (a0 : Nat) (a1 : Int32) (a2 : Int32) : Option (q_S × Unit) :=
  (q_gR x (some a0) 11 39).bind fun v1 =>
  (q_gI x (some a0) 11 38).bind fun v3 =>
  (q_sI x 35 v1 (v3 - v3 / 32 * 32) (((64 : Int32) * a1) + a2)).bind fun x5 =>
  (q_gI x5 (some a0) 11 38).bind fun v7 =>
  (q_pI x5 (some a0) 11 38 (v7 + 1)).bind fun x9 =>
  some (x9, ())
theorem jm_Mo_note {x : q_S} {a0 : Nat} {a1 : Int32} {a2 : Int32} {p : q_S × Unit} (hh : jf_Mo_note x a0 a1 a2 = some p) : q_call 1 jq_Mo_note [va_rf (some a0), .int a1, .int a2] x p.1 (none) := by
  unfold jf_Mo_note at hh
  refine ⟨List.mem_of_getElem? (i := 124) rfl, Nat.le_of_ble_eq_true rfl, List.forall_mem_cons.mpr ⟨rfl, List.forall_mem_cons.mpr ⟨rfl, List.forall_mem_cons.mpr ⟨rfl, fun _ h => by cases h⟩⟩⟩, ?_⟩
  show q_X (q_call 0) _ jq_Mo_note 0 [(0, va_rf (some a0)), (1, .int a1), (2, .int a2)] [] x
  refine r_aload_n 1 0 jd_Mo_note_0 rfl rfl ?_
  obtain ⟨v1, e2, hh⟩ := q_bind hh
  refine r_getR 4 111 jd_Mo_note_1 rfl e2 rfl ?_
  refine r_aload_n 5 0 jd_Mo_note_4 rfl rfl ?_
  obtain ⟨v3, e4, hh⟩ := q_bind hh
  refine r_getI 8 117 jd_Mo_note_5 rfl e4 rfl ?_
  refine r_bipush 10 32 jd_Mo_note_8 (by decide) rfl ?_
  refine r_irem 11 jd_Mo_note_10 (by decide) rfl ?_
  refine r_bipush 13 64 jd_Mo_note_11 (by decide) rfl ?_
  refine r_iload_n 14 1 jd_Mo_note_13 rfl rfl ?_
  refine r_imul 15 jd_Mo_note_14 rfl ?_
  refine r_iload_n 16 2 jd_Mo_note_15 rfl rfl ?_
  refine r_iadd 17 jd_Mo_note_16 rfl ?_
  obtain ⟨x5, e6, hh⟩ := q_bind hh
  refine r_stI 18 35 jd_Mo_note_17 rfl e6 rfl ?_
  refine r_aload_n 19 0 jd_Mo_note_18 rfl rfl ?_
  refine r_dupR 20 jd_Mo_note_19 rfl ?_
  obtain ⟨v7, e8, hh⟩ := q_bind hh
  refine r_getI 23 117 jd_Mo_note_20 rfl e8 rfl ?_
  refine r_iconst 24 1 jd_Mo_note_23 (by decide) rfl ?_
  refine r_iadd 25 jd_Mo_note_24 rfl ?_
  obtain ⟨x9, e10, hh⟩ := q_bind hh
  refine r_putI 28 117 jd_Mo_note_25 rfl rfl (Or.inl rfl) e10 rfl ?_
  cases hh
  exact r_vret jd_Mo_note_28 rfl ⟨rfl, rfl⟩
-- BeanContextsModel.destroy(I)V
def jf_Mo_destroy_B7 (rc : q_S → Nat → Int32 → Int32 → Option (q_S × Unit)) (x : q_S) (l0 : Nat) (l1 : Int32) (l2 : Int32) : Option (q_S × Unit) :=
  if l2 < 0 then
    some (x, ())
  else
    (q_gR x (some l0) 11 24).bind fun v4 =>
    (q_lI x 25 v4 l2).bind fun v6 =>
    if v6 = l1 then
      (q_gR x (some l0) 11 27).bind fun v9 =>
      (q_lI x 103 v9 l2).bind fun v11 =>
      if v11 = 0 then
        (q_gR x (some l0) 11 27).bind fun v14 =>
        (q_sI x 103 v14 l2 ((1 : Int32) &&& 1)).bind fun x16 =>
        (q_gR x16 (some l0) 11 25).bind fun v18 =>
        (q_lI x16 26 v18 l2).bind fun v20 =>
        (q_av x16 (some l0) 11).bind fun b24 =>
        (jf_Mo_many x16 b24 l1 v20).bind fun p22 =>
        if p22.2 = 0 then
          (q_gR p22.1 (some l0) 11 25).bind fun v27 =>
          (q_lI p22.1 26 v27 l2).bind fun v29 =>
          (q_av p22.1 (some l0) 11).bind fun b33 =>
          (jf_Mo_note p22.1 b33 4 v29).bind fun p31 =>
          rc p31.1 l0 l1 (l2 + (-1))
        else
          rc p22.1 l0 l1 (l2 + (-1))
      else
        rc x l0 l1 (l2 + (-1))
    else
      rc x l0 l1 (l2 + (-1))
def jf_Mo_destroy_L7 : Nat → q_S → Nat → Int32 → Int32 → Option (q_S × Unit)
  | 0, _, _, _, _ => none
  | n + 1, x, l0, l1, l2 => jf_Mo_destroy_B7 (jf_Mo_destroy_L7 n) x l0 l1 l2
theorem jm_Mo_destroy_B7 {p : q_S × Unit} {rc : q_S → Nat → Int32 → Int32 → Option (q_S × Unit)} (hrc : ∀ (x : q_S) (l0 : Nat) (l1 : Int32) (l2 : Int32), rc x l0 l1 l2 = some p → q_X (q_call 2) (fun y o => y = p.1 ∧ o = none) jq_Mo_destroy 7 [(0, va_rf (some l0)), (1, .int l1), (2, .int l2)] [] x) (x : q_S) (l0 : Nat) (l1 : Int32) (l2 : Int32) (hh : jf_Mo_destroy_B7 rc x l0 l1 l2 = some p) : q_X (q_call 2) (fun y o => y = p.1 ∧ o = none) jq_Mo_destroy 7 [(0, va_rf (some l0)), (1, .int l1), (2, .int l2)] [] x := by
  unfold jf_Mo_destroy_B7 at hh
  refine r_iload_n 8 2 jd_Mo_destroy_7 rfl rfl ?_
  rcases q_ite hh with ⟨c3, hh⟩ | ⟨c3, hh⟩
  · refine r_if_t 71 jd_Mo_destroy_8 rfl c3 ?_
    cases hh
    exact r_vret jd_Mo_destroy_71 rfl ⟨rfl, rfl⟩
  · refine r_if_f 11 71 jd_Mo_destroy_8 rfl c3 rfl ?_
    refine r_aload_n 12 0 jd_Mo_destroy_11 rfl rfl ?_
    obtain ⟨v4, e5, hh⟩ := q_bind hh
    refine r_getR 15 99 jd_Mo_destroy_12 rfl e5 rfl ?_
    refine r_iload_n 16 2 jd_Mo_destroy_15 rfl rfl ?_
    obtain ⟨v6, e7, hh⟩ := q_bind hh
    refine r_ldI 17 25 jd_Mo_destroy_16 rfl e7 rfl ?_
    refine r_iload_n 18 1 jd_Mo_destroy_17 rfl rfl ?_
    rcases q_ite hh with ⟨c8, hh⟩ | ⟨c8, hh⟩
    · refine r_ic_f 21 65 jd_Mo_destroy_18 rfl (fun z => z c8) rfl ?_
      refine r_aload_n 22 0 jd_Mo_destroy_21 rfl rfl ?_
      obtain ⟨v9, e10, hh⟩ := q_bind hh
      refine r_getR 25 102 jd_Mo_destroy_22 rfl e10 rfl ?_
      refine r_iload_n 26 2 jd_Mo_destroy_25 rfl rfl ?_
      obtain ⟨v11, e12, hh⟩ := q_bind hh
      refine r_ldZ 27 103 jd_Mo_destroy_26 rfl e12 rfl ?_
      rcases q_ite hh with ⟨c13, hh⟩ | ⟨c13, hh⟩
      · refine r_if_t 33 jd_Mo_destroy_27 rfl c13 ?_
        refine r_aload_n 34 0 jd_Mo_destroy_33 rfl rfl ?_
        obtain ⟨v14, e15, hh⟩ := q_bind hh
        refine r_getR 37 102 jd_Mo_destroy_34 rfl e15 rfl ?_
        refine r_iload_n 38 2 jd_Mo_destroy_37 rfl rfl ?_
        refine r_iconst 39 1 jd_Mo_destroy_38 (by decide) rfl ?_
        obtain ⟨x16, e17, hh⟩ := q_bind hh
        refine r_stZ 40 103 jd_Mo_destroy_39 rfl e17 rfl ?_
        refine r_aload_n 41 0 jd_Mo_destroy_40 rfl rfl ?_
        refine r_iload_n 42 1 jd_Mo_destroy_41 rfl rfl ?_
        refine r_aload_n 43 0 jd_Mo_destroy_42 rfl rfl ?_
        obtain ⟨v18, e19, hh⟩ := q_bind hh
        refine r_getR 46 100 jd_Mo_destroy_43 rfl e19 rfl ?_
        refine r_iload_n 47 2 jd_Mo_destroy_46 rfl rfl ?_
        obtain ⟨v20, e21, hh⟩ := q_bind hh
        refine r_ldI 48 26 jd_Mo_destroy_47 rfl e21 rfl ?_
        obtain ⟨b24, e25, hh⟩ := q_bind hh
        obtain ⟨p22, e23, hh⟩ := q_bind hh
        refine r_cV (rest := []) 51 126 11 [.int l1, .int v20] [.int p22.2] jd_Mo_destroy_48 rfl e25 rfl rfl rfl rfl (q_s8 (Nat.le_of_ble_eq_true rfl)) (q_call_le (Nat.le_of_ble_eq_true rfl) (jm_Mo_many e23)) rfl rfl ?_
        rcases q_ite hh with ⟨c26, hh⟩ | ⟨c26, hh⟩
        · refine r_if_f 54 65 jd_Mo_destroy_51 rfl (fun z => z c26) rfl ?_
          refine r_aload_n 55 0 jd_Mo_destroy_54 rfl rfl ?_
          refine r_iconst 56 4 jd_Mo_destroy_55 (by decide) rfl ?_
          refine r_aload_n 57 0 jd_Mo_destroy_56 rfl rfl ?_
          obtain ⟨v27, e28, hh⟩ := q_bind hh
          refine r_getR 60 100 jd_Mo_destroy_57 rfl e28 rfl ?_
          refine r_iload_n 61 2 jd_Mo_destroy_60 rfl rfl ?_
          obtain ⟨v29, e30, hh⟩ := q_bind hh
          refine r_ldI 62 26 jd_Mo_destroy_61 rfl e30 rfl ?_
          obtain ⟨b33, e34, hh⟩ := q_bind hh
          obtain ⟨p31, e32, hh⟩ := q_bind hh
          refine r_cV (rest := []) 65 125 11 [.int 4, .int v29] [] jd_Mo_destroy_62 rfl e34 rfl rfl rfl rfl (q_s8 (Nat.le_of_ble_eq_true rfl)) (q_call_le (Nat.le_of_ble_eq_true rfl) (jm_Mo_note e32)) rfl rfl ?_
          refine r_iinc 68 2 [(2, .int (l2 + (-1))), (0, va_rf (some l0)), (1, .int l1)] (-1) jd_Mo_destroy_65 rfl (by decide) (by decide) rfl rfl ?_
          refine r_goto 7 jd_Mo_destroy_68 rfl ?_
          refine q_sub [1, 2, 0] rfl ?_
          exact hrc _ _ _ _ hh
        · refine r_if_t 65 jd_Mo_destroy_51 rfl c26 ?_
          refine r_iinc 68 2 [(2, .int (l2 + (-1))), (0, va_rf (some l0)), (1, .int l1)] (-1) jd_Mo_destroy_65 rfl (by decide) (by decide) rfl rfl ?_
          refine r_goto 7 jd_Mo_destroy_68 rfl ?_
          refine q_sub [1, 2, 0] rfl ?_
          exact hrc _ _ _ _ hh
      · refine r_if_f 30 33 jd_Mo_destroy_27 rfl c13 rfl ?_
        refine r_goto 65 jd_Mo_destroy_30 rfl ?_
        refine r_iinc 68 2 [(2, .int (l2 + (-1))), (0, va_rf (some l0)), (1, .int l1)] (-1) jd_Mo_destroy_65 rfl (by decide) (by decide) rfl rfl ?_
        refine r_goto 7 jd_Mo_destroy_68 rfl ?_
        refine q_sub [1, 2, 0] rfl ?_
        exact hrc _ _ _ _ hh
    · refine r_ic_t 65 jd_Mo_destroy_18 rfl c8 ?_
      refine r_iinc 68 2 [(2, .int (l2 + (-1))), (0, va_rf (some l0)), (1, .int l1)] (-1) jd_Mo_destroy_65 rfl (by decide) (by decide) rfl rfl ?_
      refine r_goto 7 jd_Mo_destroy_68 rfl ?_
      refine q_sub [1, 2, 0] rfl ?_
      exact hrc _ _ _ _ hh
theorem jm_Mo_destroy_L7 {p : q_S × Unit} : ∀ (n : Nat) (x : q_S) (l0 : Nat) (l1 : Int32) (l2 : Int32), jf_Mo_destroy_L7 n x l0 l1 l2 = some p → q_X (q_call 2) (fun y o => y = p.1 ∧ o = none) jq_Mo_destroy 7 [(0, va_rf (some l0)), (1, .int l1), (2, .int l2)] [] x
  | 0, _, _, _, _, hh => nomatch hh
  | n + 1, x, l0, l1, l2, hh => jm_Mo_destroy_B7 (jm_Mo_destroy_L7 n) x l0 l1 l2 hh
def jf_Mo_destroy (x : q_S) (a0 : Nat) (a1 : Int32) : Option (q_S × Unit) :=
  (q_gI x (some a0) 11 23).bind fun v1 =>
  jf_Mo_destroy_L7 lpK x a0 a1 (v1 - 1)
theorem jm_Mo_destroy {x : q_S} {a0 : Nat} {a1 : Int32} {p : q_S × Unit} (hh : jf_Mo_destroy x a0 a1 = some p) : q_call 3 jq_Mo_destroy [va_rf (some a0), .int a1] x p.1 (none) := by
  unfold jf_Mo_destroy at hh
  refine ⟨List.mem_of_getElem? (i := 121) rfl, Nat.le_of_ble_eq_true rfl, List.forall_mem_cons.mpr ⟨rfl, List.forall_mem_cons.mpr ⟨rfl, fun _ h => by cases h⟩⟩, ?_⟩
  show q_X (q_call 2) _ jq_Mo_destroy 0 [(0, va_rf (some a0)), (1, .int a1)] [] x
  refine r_aload_n 1 0 jd_Mo_destroy_0 rfl rfl ?_
  obtain ⟨v1, e2, hh⟩ := q_bind hh
  refine r_getI 4 114 jd_Mo_destroy_1 rfl e2 rfl ?_
  refine r_iconst 5 1 jd_Mo_destroy_4 (by decide) rfl ?_
  refine r_isub 6 jd_Mo_destroy_5 rfl ?_
  refine r_istore_n 7 [(2, .int (v1 - 1)), (0, va_rf (some a0)), (1, .int a1)] jd_Mo_destroy_6 (by decide) rfl rfl ?_
  refine q_sub [1, 2, 0] rfl ?_
  exact jm_Mo_destroy_L7 lpK _ _ _ _ hh
-- BeanContextsModel.closeOne(I)V
def jf_Mo_closeOne (x : q_S) (a0 : Nat) (a1 : Int32) : Option (q_S × Unit) :=
  (q_av x (some a0) 11).bind fun b3 =>
  (jf_Mo_destroy x b3 a1).bind fun p1 =>
  (q_gR p1.1 (some a0) 11 19).bind fun v5 =>
  (q_sI p1.1 101 v5 a1 ((0 : Int32) &&& 1)).bind fun x7 =>
  (q_av x7 (some a0) 11).bind fun b11 =>
  (jf_Mo_note x7 b11 5 a1).bind fun p9 =>
  some (p9.1, ())
theorem jm_Mo_closeOne {x : q_S} {a0 : Nat} {a1 : Int32} {p : q_S × Unit} (hh : jf_Mo_closeOne x a0 a1 = some p) : q_call 4 jq_Mo_closeOne [va_rf (some a0), .int a1] x p.1 (none) := by
  unfold jf_Mo_closeOne at hh
  refine ⟨List.mem_of_getElem? (i := 120) rfl, Nat.le_of_ble_eq_true rfl, List.forall_mem_cons.mpr ⟨rfl, List.forall_mem_cons.mpr ⟨rfl, fun _ h => by cases h⟩⟩, ?_⟩
  show q_X (q_call 3) _ jq_Mo_closeOne 0 [(0, va_rf (some a0)), (1, .int a1)] [] x
  refine r_aload_n 1 0 jd_Mo_closeOne_0 rfl rfl ?_
  refine r_iload_n 2 1 jd_Mo_closeOne_1 rfl rfl ?_
  obtain ⟨b3, e4, hh⟩ := q_bind hh
  obtain ⟨p1, e2, hh⟩ := q_bind hh
  refine r_cV (rest := []) 5 124 11 [.int a1] [] jd_Mo_closeOne_2 rfl e4 rfl rfl rfl rfl (q_s8 (Nat.le_of_ble_eq_true rfl)) (q_call_le (Nat.le_of_ble_eq_true rfl) (jm_Mo_destroy e2)) rfl rfl ?_
  refine r_aload_n 6 0 jd_Mo_closeOne_5 rfl rfl ?_
  obtain ⟨v5, e6, hh⟩ := q_bind hh
  refine r_getR 9 97 jd_Mo_closeOne_6 rfl e6 rfl ?_
  refine r_iload_n 10 1 jd_Mo_closeOne_9 rfl rfl ?_
  refine r_iconst 11 0 jd_Mo_closeOne_10 (by decide) rfl ?_
  obtain ⟨x7, e8, hh⟩ := q_bind hh
  refine r_stZ 12 101 jd_Mo_closeOne_11 rfl e8 rfl ?_
  refine r_aload_n 13 0 jd_Mo_closeOne_12 rfl rfl ?_
  refine r_iconst 14 5 jd_Mo_closeOne_13 (by decide) rfl ?_
  refine r_iload_n 15 1 jd_Mo_closeOne_14 rfl rfl ?_
  obtain ⟨b11, e12, hh⟩ := q_bind hh
  obtain ⟨p9, e10, hh⟩ := q_bind hh
  refine r_cV (rest := []) 18 125 11 [.int 5, .int a1] [] jd_Mo_closeOne_15 rfl e12 rfl rfl rfl rfl (q_s8 (Nat.le_of_ble_eq_true rfl)) (q_call_le (Nat.le_of_ble_eq_true rfl) (jm_Mo_note e10)) rfl rfl ?_
  cases hh
  exact r_vret jd_Mo_closeOne_18 rfl ⟨rfl, rfl⟩
-- BeanContextsModel.close(I)I
def jf_Mo_close_B19 (kk : q_S → Nat → Int32 → Int32 → Int32 → Int32 → Option (q_S × Int32)) (rc : q_S → Nat → Int32 → Int32 → Int32 → Int32 → Option (q_S × Int32)) (x : q_S) (l0 : Nat) (l1 : Int32) (l2 : Int32) (l3 : Int32) (l4 : Int32) : Option (q_S × Int32) :=
  if l4 < 0 then
    kk x l0 l1 l2 l3 l4
  else
    (q_av x (some l0) 11).bind fun b17 =>
    (jf_Mo_closeOne x b17 l4).bind fun p15 =>
    (q_av p15.1 (some l0) 11).bind fun b21 =>
    (jf_Mo_child p15.1 b21 l3).bind fun p19 =>
    rc p19.1 l0 l1 (l2 + 1) l3 p19.2
def jf_Mo_close_L19 (kk : q_S → Nat → Int32 → Int32 → Int32 → Int32 → Option (q_S × Int32)) : Nat → q_S → Nat → Int32 → Int32 → Int32 → Int32 → Option (q_S × Int32)
  | 0, _, _, _, _, _, _ => none
  | n + 1, x, l0, l1, l2, l3, l4 => jf_Mo_close_B19 kk (jf_Mo_close_L19 kk n) x l0 l1 l2 l3 l4
theorem jm_Mo_close_B19 {p : q_S × Int32} {kk : q_S → Nat → Int32 → Int32 → Int32 → Int32 → Option (q_S × Int32)} (hkk : ∀ (x : q_S) (l0 : Nat) (l1 : Int32) (l2 : Int32) (l3 : Int32) (l4 : Int32), kk x l0 l1 l2 l3 l4 = some p → q_X (q_call 4) (fun y o => y = p.1 ∧ o = some (.int p.2)) jq_Mo_close 43 [(0, va_rf (some l0)), (1, .int l1), (2, .int l2), (3, .int l3), (4, .int l4)] [] x) {rc : q_S → Nat → Int32 → Int32 → Int32 → Int32 → Option (q_S × Int32)} (hrc : ∀ (x : q_S) (l0 : Nat) (l1 : Int32) (l2 : Int32) (l3 : Int32) (l4 : Int32), rc x l0 l1 l2 l3 l4 = some p → q_X (q_call 4) (fun y o => y = p.1 ∧ o = some (.int p.2)) jq_Mo_close 19 [(0, va_rf (some l0)), (1, .int l1), (2, .int l2), (3, .int l3), (4, .int l4)] [] x) (x : q_S) (l0 : Nat) (l1 : Int32) (l2 : Int32) (l3 : Int32) (l4 : Int32) (hh : jf_Mo_close_B19 kk rc x l0 l1 l2 l3 l4 = some p) : q_X (q_call 4) (fun y o => y = p.1 ∧ o = some (.int p.2)) jq_Mo_close 19 [(0, va_rf (some l0)), (1, .int l1), (2, .int l2), (3, .int l3), (4, .int l4)] [] x := by
  unfold jf_Mo_close_B19 at hh
  refine r_iload 21 4 jd_Mo_close_19 rfl rfl ?_
  rcases q_ite hh with ⟨c14, hh⟩ | ⟨c14, hh⟩
  · refine r_if_t 43 jd_Mo_close_21 rfl c14 ?_
    refine q_sub [0, 1, 2, 3, 4] rfl ?_
    exact hkk _ _ _ _ _ _ hh
  · refine r_if_f 24 43 jd_Mo_close_21 rfl c14 rfl ?_
    refine r_aload_n 25 0 jd_Mo_close_24 rfl rfl ?_
    refine r_iload 27 4 jd_Mo_close_25 rfl rfl ?_
    obtain ⟨b17, e18, hh⟩ := q_bind hh
    obtain ⟨p15, e16, hh⟩ := q_bind hh
    refine r_cV (rest := []) 30 123 11 [.int l4] [] jd_Mo_close_27 rfl e18 rfl rfl rfl rfl (q_s8 (Nat.le_of_ble_eq_true rfl)) (q_call_le (Nat.le_of_ble_eq_true rfl) (jm_Mo_closeOne e16)) rfl rfl ?_
    refine r_iinc 33 2 [(2, .int (l2 + 1)), (0, va_rf (some l0)), (1, .int l1), (3, .int l3), (4, .int l4)] 1 jd_Mo_close_30 rfl (by decide) (by decide) rfl rfl ?_
    refine r_aload_n 34 1 jd_Mo_close_33 rfl rfl ?_
    refine r_iload_n 35 3 jd_Mo_close_34 rfl rfl ?_
    obtain ⟨b21, e22, hh⟩ := q_bind hh
    obtain ⟨p19, e20, hh⟩ := q_bind hh
    refine r_cV (rest := []) 38 122 11 [.int l3] [.int p19.2] jd_Mo_close_35 rfl e22 rfl rfl rfl rfl (q_s8 (Nat.le_of_ble_eq_true rfl)) (q_call_le (Nat.le_of_ble_eq_true rfl) (jm_Mo_child e20)) rfl rfl ?_
    refine r_istore 40 [(4, .int p19.2), (2, .int (l2 + 1)), (0, va_rf (some l0)), (1, .int l1), (3, .int l3)] jd_Mo_close_38 (by decide) rfl rfl ?_
    refine r_goto 19 jd_Mo_close_40 rfl ?_
    refine q_sub [2, 3, 1, 4, 0] rfl ?_
    exact hrc _ _ _ _ _ _ hh
theorem jm_Mo_close_L19 {p : q_S × Int32} {kk : q_S → Nat → Int32 → Int32 → Int32 → Int32 → Option (q_S × Int32)} (hkk : ∀ (x : q_S) (l0 : Nat) (l1 : Int32) (l2 : Int32) (l3 : Int32) (l4 : Int32), kk x l0 l1 l2 l3 l4 = some p → q_X (q_call 4) (fun y o => y = p.1 ∧ o = some (.int p.2)) jq_Mo_close 43 [(0, va_rf (some l0)), (1, .int l1), (2, .int l2), (3, .int l3), (4, .int l4)] [] x) : ∀ (n : Nat) (x : q_S) (l0 : Nat) (l1 : Int32) (l2 : Int32) (l3 : Int32) (l4 : Int32), jf_Mo_close_L19 kk n x l0 l1 l2 l3 l4 = some p → q_X (q_call 4) (fun y o => y = p.1 ∧ o = some (.int p.2)) jq_Mo_close 19 [(0, va_rf (some l0)), (1, .int l1), (2, .int l2), (3, .int l3), (4, .int l4)] [] x
  | 0, _, _, _, _, _, _, hh => nomatch hh
  | n + 1, x, l0, l1, l2, l3, l4, hh => jm_Mo_close_B19 hkk (jm_Mo_close_L19 hkk n) x l0 l1 l2 l3 l4 hh
def jf_Mo_close_B8 (rc : q_S → Nat → Int32 → Int32 → Int32 → Option (q_S × Int32)) (x : q_S) (l0 : Nat) (l1 : Int32) (l2 : Int32) (l3 : Int32) : Option (q_S × Int32) :=
  if l3 < 0 then
    (q_av x (some l0) 11).bind fun b8 =>
    (jf_Mo_closeOne x b8 l1).bind fun p6 =>
    some (p6.1, l2)
  else
    (q_av x (some l0) 11).bind fun b12 =>
    (jf_Mo_child x b12 l3).bind fun p10 =>
    jf_Mo_close_L19 (fun y23 l0_23 l1_23 l2_23 l3_23 l4_23 =>
      (q_av y23 (some l0_23) 11).bind fun b26 =>
      (jf_Mo_closeOne y23 b26 l3_23).bind fun p24 =>
      (q_av p24.1 (some l0_23) 11).bind fun b30 =>
      (jf_Mo_child p24.1 b30 l1_23).bind fun p28 =>
      rc p28.1 l0_23 l1_23 (l2_23 + 1) p28.2
    ) lpK p10.1 l0 l1 l2 l3 p10.2
def jf_Mo_close_L8 : Nat → q_S → Nat → Int32 → Int32 → Int32 → Option (q_S × Int32)
  | 0, _, _, _, _, _ => none
  | n + 1, x, l0, l1, l2, l3 => jf_Mo_close_B8 (jf_Mo_close_L8 n) x l0 l1 l2 l3
theorem jm_Mo_close_B8 {p : q_S × Int32} {rc : q_S → Nat → Int32 → Int32 → Int32 → Option (q_S × Int32)} (hrc : ∀ (x : q_S) (l0 : Nat) (l1 : Int32) (l2 : Int32) (l3 : Int32), rc x l0 l1 l2 l3 = some p → q_X (q_call 4) (fun y o => y = p.1 ∧ o = some (.int p.2)) jq_Mo_close 8 [(0, va_rf (some l0)), (1, .int l1), (2, .int l2), (3, .int l3)] [] x) (x : q_S) (l0 : Nat) (l1 : Int32) (l2 : Int32) (l3 : Int32) (hh : jf_Mo_close_B8 rc x l0 l1 l2 l3 = some p) : q_X (q_call 4) (fun y o => y = p.1 ∧ o = some (.int p.2)) jq_Mo_close 8 [(0, va_rf (some l0)), (1, .int l1), (2, .int l2), (3, .int l3)] [] x := by
  unfold jf_Mo_close_B8 at hh
  refine r_iload_n 9 3 jd_Mo_close_8 rfl rfl ?_
  rcases q_ite hh with ⟨c5, hh⟩ | ⟨c5, hh⟩
  · refine r_if_t 60 jd_Mo_close_9 rfl c5 ?_
    refine r_aload_n 61 0 jd_Mo_close_60 rfl rfl ?_
    refine r_iload_n 62 1 jd_Mo_close_61 rfl rfl ?_
    obtain ⟨b8, e9, hh⟩ := q_bind hh
    obtain ⟨p6, e7, hh⟩ := q_bind hh
    refine r_cV (rest := []) 65 123 11 [.int l1] [] jd_Mo_close_62 rfl e9 rfl rfl rfl rfl (q_s8 (Nat.le_of_ble_eq_true rfl)) (q_call_le (Nat.le_of_ble_eq_true rfl) (jm_Mo_closeOne e7)) rfl rfl ?_
    refine r_iload_n 66 2 jd_Mo_close_65 rfl rfl ?_
    cases hh
    exact r_iret jd_Mo_close_66 rfl ⟨rfl, rfl⟩
  · refine r_if_f 12 60 jd_Mo_close_9 rfl c5 rfl ?_
    refine r_aload_n 13 0 jd_Mo_close_12 rfl rfl ?_
    refine r_iload_n 14 3 jd_Mo_close_13 rfl rfl ?_
    obtain ⟨b12, e13, hh⟩ := q_bind hh
    obtain ⟨p10, e11, hh⟩ := q_bind hh
    refine r_cV (rest := []) 17 122 11 [.int l3] [.int p10.2] jd_Mo_close_14 rfl e13 rfl rfl rfl rfl (q_s8 (Nat.le_of_ble_eq_true rfl)) (q_call_le (Nat.le_of_ble_eq_true rfl) (jm_Mo_child e11)) rfl rfl ?_
    refine r_istore 19 [(4, .int p10.2), (0, va_rf (some l0)), (1, .int l1), (2, .int l2), (3, .int l3)] jd_Mo_close_17 (by decide) rfl rfl ?_
    refine q_sub [1, 2, 3, 4, 0] rfl ?_
    refine jm_Mo_close_L19 (fun y23 l0_23 l1_23 l2_23 l3_23 l4_23 hh => ?_) lpK _ _ _ _ _ _ hh
    refine r_aload_n 44 0 jd_Mo_close_43 rfl rfl ?_
    refine r_iload_n 45 3 jd_Mo_close_44 rfl rfl ?_
    obtain ⟨b26, e27, hh⟩ := q_bind hh
    obtain ⟨p24, e25, hh⟩ := q_bind hh
    refine r_cV (rest := []) 48 123 11 [.int l3_23] [] jd_Mo_close_45 rfl e27 rfl rfl rfl rfl (q_s8 (Nat.le_of_ble_eq_true rfl)) (q_call_le (Nat.le_of_ble_eq_true rfl) (jm_Mo_closeOne e25)) rfl rfl ?_
    refine r_iinc 51 2 [(2, .int (l2_23 + 1)), (0, va_rf (some l0_23)), (1, .int l1_23), (3, .int l3_23), (4, .int l4_23)] 1 jd_Mo_close_48 rfl (by decide) (by decide) rfl rfl ?_
    refine r_aload_n 52 1 jd_Mo_close_51 rfl rfl ?_
    refine r_iload_n 53 2 jd_Mo_close_52 rfl rfl ?_
    obtain ⟨b30, e31, hh⟩ := q_bind hh
    obtain ⟨p28, e29, hh⟩ := q_bind hh
    refine r_cV (rest := []) 56 122 11 [.int l1_23] [.int p28.2] jd_Mo_close_53 rfl e31 rfl rfl rfl rfl (q_s8 (Nat.le_of_ble_eq_true rfl)) (q_call_le (Nat.le_of_ble_eq_true rfl) (jm_Mo_child e29)) rfl rfl ?_
    refine r_istore_n 57 [(3, .int p28.2), (2, .int (l2_23 + 1)), (0, va_rf (some l0_23)), (1, .int l1_23), (4, .int l4_23)] jd_Mo_close_56 (by decide) rfl rfl ?_
    refine r_goto 8 jd_Mo_close_57 rfl ?_
    refine q_sub [2, 3, 1, 0] rfl ?_
    exact hrc _ _ _ _ _ hh
theorem jm_Mo_close_L8 {p : q_S × Int32} : ∀ (n : Nat) (x : q_S) (l0 : Nat) (l1 : Int32) (l2 : Int32) (l3 : Int32), jf_Mo_close_L8 n x l0 l1 l2 l3 = some p → q_X (q_call 4) (fun y o => y = p.1 ∧ o = some (.int p.2)) jq_Mo_close 8 [(0, va_rf (some l0)), (1, .int l1), (2, .int l2), (3, .int l3)] [] x
  | 0, _, _, _, _, _, hh => nomatch hh
  | n + 1, x, l0, l1, l2, l3, hh => jm_Mo_close_B8 (jm_Mo_close_L8 n) x l0 l1 l2 l3 hh
def jf_Mo_close (x : q_S) (a0 : Nat) (a1 : Int32) : Option (q_S × Int32) :=
  (q_av x (some a0) 11).bind fun b3 =>
  (jf_Mo_child x b3 a1).bind fun p1 =>
  jf_Mo_close_L8 lpK p1.1 a0 a1 1 p1.2
theorem jm_Mo_close {x : q_S} {a0 : Nat} {a1 : Int32} {p : q_S × Int32} (hh : jf_Mo_close x a0 a1 = some p) : q_call 5 jq_Mo_close [va_rf (some a0), .int a1] x p.1 (some (.int p.2)) := by
  unfold jf_Mo_close at hh
  refine ⟨List.mem_of_getElem? (i := 118) rfl, Nat.le_of_ble_eq_true rfl, List.forall_mem_cons.mpr ⟨rfl, List.forall_mem_cons.mpr ⟨rfl, fun _ h => by cases h⟩⟩, ?_⟩
  show q_X (q_call 4) _ jq_Mo_close 0 [(0, va_rf (some a0)), (1, .int a1)] [] x
  refine r_iconst 1 1 jd_Mo_close_0 (by decide) rfl ?_
  refine r_istore_n 2 [(2, .int 1), (0, va_rf (some a0)), (1, .int a1)] jd_Mo_close_1 (by decide) rfl rfl ?_
  refine r_aload_n 3 1 jd_Mo_close_2 rfl rfl ?_
  refine r_iload_n 4 2 jd_Mo_close_3 rfl rfl ?_
  obtain ⟨b3, e4, hh⟩ := q_bind hh
  obtain ⟨p1, e2, hh⟩ := q_bind hh
  refine r_cV (rest := []) 7 122 11 [.int a1] [.int p1.2] jd_Mo_close_4 rfl e4 rfl rfl rfl rfl (q_s8 (Nat.le_of_ble_eq_true rfl)) (q_call_le (Nat.le_of_ble_eq_true rfl) (jm_Mo_child e2)) rfl rfl ?_
  refine r_istore_n 8 [(3, .int p1.2), (2, .int 1), (0, va_rf (some a0)), (1, .int a1)] jd_Mo_close_7 (by decide) rfl rfl ?_
  refine q_sub [2, 3, 1, 0] rfl ?_
  exact jm_Mo_close_L8 lpK _ _ _ _ _ hh
-- BeanContextsModel.dirty(I)I
def jf_Mo_dirty (x : q_S) (a0 : Nat) (a1 : Int32) : Option (q_S × Int32) :=
  (q_av x (some a0) 11).bind fun b3 =>
  (jf_Mo_isConfiguration x b3 a1).bind fun p1 =>
  if p1.2 = 0 then
    some (p1.1, (-1))
  else
    (q_av p1.1 (some a0) 11).bind fun b8 =>
    (jf_Mo_cachedFor p1.1 b8 a1).bind fun p6 =>
    if 0 ≤ p6.2 then
      (q_av p6.1 (some a0) 11).bind fun b13 =>
      (jf_Mo_close p6.1 b13 p6.2).bind fun p11 =>
      some (p11.1, p11.2)
    else
      some (p6.1, 0)
theorem jm_Mo_dirty {x : q_S} {a0 : Nat} {a1 : Int32} {p : q_S × Int32} (hh : jf_Mo_dirty x a0 a1 = some p) : q_call 6 jq_Mo_dirty [va_rf (some a0), .int a1] x p.1 (some (.int p.2)) := by
  unfold jf_Mo_dirty at hh
  refine ⟨List.mem_of_getElem? (i := 113) rfl, Nat.le_of_ble_eq_true rfl, List.forall_mem_cons.mpr ⟨rfl, List.forall_mem_cons.mpr ⟨rfl, fun _ h => by cases h⟩⟩, ?_⟩
  show q_X (q_call 5) _ jq_Mo_dirty 0 [(0, va_rf (some a0)), (1, .int a1)] [] x
  refine r_aload_n 1 0 jd_Mo_dirty_0 rfl rfl ?_
  refine r_iload_n 2 1 jd_Mo_dirty_1 rfl rfl ?_
  obtain ⟨b3, e4, hh⟩ := q_bind hh
  obtain ⟨p1, e2, hh⟩ := q_bind hh
  refine r_cV (rest := []) 5 116 11 [.int a1] [.int p1.2] jd_Mo_dirty_2 rfl e4 rfl rfl rfl rfl (q_s8 (Nat.le_of_ble_eq_true rfl)) (q_call_le (Nat.le_of_ble_eq_true rfl) (jm_Mo_isConfiguration e2)) rfl rfl ?_
  rcases q_ite hh with ⟨c5, hh⟩ | ⟨c5, hh⟩
  · refine r_if_f 8 10 jd_Mo_dirty_5 rfl (fun z => z c5) rfl ?_
    refine r_iconst 9 (-1) jd_Mo_dirty_8 (by decide) rfl ?_
    cases hh
    exact r_iret jd_Mo_dirty_9 rfl ⟨rfl, rfl⟩
  · refine r_if_t 10 jd_Mo_dirty_5 rfl c5 ?_
    refine r_aload_n 11 0 jd_Mo_dirty_10 rfl rfl ?_
    refine r_iload_n 12 1 jd_Mo_dirty_11 rfl rfl ?_
    obtain ⟨b8, e9, hh⟩ := q_bind hh
    obtain ⟨p6, e7, hh⟩ := q_bind hh
    refine r_cV (rest := []) 15 117 11 [.int a1] [.int p6.2] jd_Mo_dirty_12 rfl e9 rfl rfl rfl rfl (q_s8 (Nat.le_of_ble_eq_true rfl)) (q_call_le (Nat.le_of_ble_eq_true rfl) (jm_Mo_cachedFor e7)) rfl rfl ?_
    refine r_istore_n 16 [(2, .int p6.2), (0, va_rf (some a0)), (1, .int a1)] jd_Mo_dirty_15 (by decide) rfl rfl ?_
    refine r_iload_n 17 0 jd_Mo_dirty_16 rfl rfl ?_
    rcases q_ite hh with ⟨c10, hh⟩ | ⟨c10, hh⟩
    · refine r_if_t 24 jd_Mo_dirty_17 rfl c10 ?_
      refine r_aload_n 25 1 jd_Mo_dirty_24 rfl rfl ?_
      refine r_iload_n 26 0 jd_Mo_dirty_25 rfl rfl ?_
      obtain ⟨b13, e14, hh⟩ := q_bind hh
      obtain ⟨p11, e12, hh⟩ := q_bind hh
      refine r_cV (rest := []) 29 118 11 [.int p6.2] [.int p11.2] jd_Mo_dirty_26 rfl e14 rfl rfl rfl rfl (q_s8 (Nat.le_of_ble_eq_true rfl)) (q_call_le (Nat.le_of_ble_eq_true rfl) (jm_Mo_close e12)) rfl rfl ?_
      cases hh
      exact r_iret jd_Mo_dirty_29 rfl ⟨rfl, rfl⟩
    · refine r_if_f 20 24 jd_Mo_dirty_17 rfl c10 rfl ?_
      refine r_iconst 21 0 jd_Mo_dirty_20 (by decide) rfl ?_
      refine r_goto 29 jd_Mo_dirty_21 rfl ?_
      cases hh
      exact r_iret jd_Mo_dirty_29 rfl ⟨rfl, rfl⟩
-- BeanContextsModel.event(I)I
def jf_Mo_event (x : q_S) (a0 : Nat) (a1 : Int32) : Option (q_S × Int32) :=
  (jf_Mo_in x a1 0 31).bind fun p1 =>
  if p1.2 = 0 then
    some (p1.1, (-1))
  else
    (q_gI p1.1 (some a0) 11 38).bind fun v4 =>
    if a1 < v4 then
      (q_gR p1.1 (some a0) 11 39).bind fun v7 =>
      (q_gI p1.1 (some a0) 11 38).bind fun v9 =>
      (q_lI p1.1 35 v7 (((v9 - 1) - a1) - ((v9 - 1) - a1) / 32 * 32)).bind fun v11 =>
      some (p1.1, v11)
    else
      some (p1.1, (-1))
theorem jm_Mo_event {x : q_S} {a0 : Nat} {a1 : Int32} {p : q_S × Int32} (hh : jf_Mo_event x a0 a1 = some p) : q_call 2 jq_Mo_event [va_rf (some a0), .int a1] x p.1 (some (.int p.2)) := by
  unfold jf_Mo_event at hh
  refine ⟨List.mem_of_getElem? (i := 125) rfl, Nat.le_of_ble_eq_true rfl, List.forall_mem_cons.mpr ⟨rfl, List.forall_mem_cons.mpr ⟨rfl, fun _ h => by cases h⟩⟩, ?_⟩
  show q_X (q_call 1) _ jq_Mo_event 0 [(0, va_rf (some a0)), (1, .int a1)] [] x
  refine r_iload_n 1 1 jd_Mo_event_0 rfl rfl ?_
  refine r_iconst 2 0 jd_Mo_event_1 (by decide) rfl ?_
  refine r_bipush 4 31 jd_Mo_event_2 (by decide) rfl ?_
  obtain ⟨p1, e2, hh⟩ := q_bind hh
  refine r_cS (rest := []) 7 21 [.int a1, .int 0, .int 31] [.int p1.2] jd_Mo_event_4 rfl rfl rfl (q_s8 (Nat.le_of_ble_eq_true rfl)) (q_call_le (Nat.le_of_ble_eq_true rfl) (jm_Mo_in e2)) rfl rfl ?_
  rcases q_ite hh with ⟨c3, hh⟩ | ⟨c3, hh⟩
  · refine r_if_t 18 jd_Mo_event_7 rfl c3 ?_
    refine r_iconst 19 (-1) jd_Mo_event_18 (by decide) rfl ?_
    refine r_goto 38 jd_Mo_event_19 rfl ?_
    cases hh
    exact r_iret jd_Mo_event_38 rfl ⟨rfl, rfl⟩
  · refine r_if_f 10 18 jd_Mo_event_7 rfl c3 rfl ?_
    refine r_iload_n 11 1 jd_Mo_event_10 rfl rfl ?_
    refine r_aload_n 12 0 jd_Mo_event_11 rfl rfl ?_
    obtain ⟨v4, e5, hh⟩ := q_bind hh
    refine r_getI 15 117 jd_Mo_event_12 rfl e5 rfl ?_
    rcases q_ite hh with ⟨c6, hh⟩ | ⟨c6, hh⟩
    · refine r_ic_t 22 jd_Mo_event_15 rfl c6 ?_
      refine r_aload_n 23 0 jd_Mo_event_22 rfl rfl ?_
      obtain ⟨v7, e8, hh⟩ := q_bind hh
      refine r_getR 26 111 jd_Mo_event_23 rfl e8 rfl ?_
      refine r_aload_n 27 0 jd_Mo_event_26 rfl rfl ?_
      obtain ⟨v9, e10, hh⟩ := q_bind hh
      refine r_getI 30 117 jd_Mo_event_27 rfl e10 rfl ?_
      refine r_iconst 31 1 jd_Mo_event_30 (by decide) rfl ?_
      refine r_isub 32 jd_Mo_event_31 rfl ?_
      refine r_iload_n 33 1 jd_Mo_event_32 rfl rfl ?_
      refine r_isub 34 jd_Mo_event_33 rfl ?_
      refine r_bipush 36 32 jd_Mo_event_34 (by decide) rfl ?_
      refine r_irem 37 jd_Mo_event_36 (by decide) rfl ?_
      obtain ⟨v11, e12, hh⟩ := q_bind hh
      refine r_ldI 38 35 jd_Mo_event_37 rfl e12 rfl ?_
      cases hh
      exact r_iret jd_Mo_event_38 rfl ⟨rfl, rfl⟩
    · refine r_ic_f 18 22 jd_Mo_event_15 rfl c6 rfl ?_
      refine r_iconst 19 (-1) jd_Mo_event_18 (by decide) rfl ?_
      refine r_goto 38 jd_Mo_event_19 rfl ?_
      cases hh
      exact r_iret jd_Mo_event_38 rfl ⟨rfl, rfl⟩
-- BeanContextsModel.events()I
def jf_Mo_events (x : q_S) (a0 : Nat) : Option (q_S × Int32) :=
  (q_gI x (some a0) 11 38).bind fun v1 =>
  some (x, v1)
theorem jm_Mo_events {x : q_S} {a0 : Nat} {p : q_S × Int32} (hh : jf_Mo_events x a0 = some p) : q_call 1 jq_Mo_events [va_rf (some a0)] x p.1 (some (.int p.2)) := by
  unfold jf_Mo_events at hh
  refine ⟨List.mem_of_getElem? (i := 126) rfl, Nat.le_of_ble_eq_true rfl, List.forall_mem_cons.mpr ⟨rfl, fun _ h => by cases h⟩, ?_⟩
  show q_X (q_call 0) _ jq_Mo_events 0 [(0, va_rf (some a0))] [] x
  refine r_aload_n 1 0 jd_Mo_events_0 rfl rfl ?_
  obtain ⟨v1, e2, hh⟩ := q_bind hh
  refine r_getI 4 117 jd_Mo_events_1 rfl e2 rfl ?_
  cases hh
  exact r_iret jd_Mo_events_4 rfl ⟨rfl, rfl⟩
-- BeanContextsModel.is(II)Z
def jf_Mo_is (x : q_S) (a0 : Nat) (a1 : Int32) (a2 : Int32) : Option (q_S × Int32) :=
  if a1 = a2 then
    some (x, 1)
  else
    (q_gR x (some a0) 11 1).bind fun v2 =>
    (q_lI x 100 v2 (((6 : Int32) * a1) + a2)).bind fun v4 =>
    if v4 = 0 then
      some (x, 0)
    else
      some (x, 1)
theorem jm_Mo_is {x : q_S} {a0 : Nat} {a1 : Int32} {a2 : Int32} {p : q_S × Int32} (hh : jf_Mo_is x a0 a1 a2 = some p) : q_call 1 jq_Mo_is [va_rf (some a0), .int a1, .int a2] x p.1 (some (.int p.2)) := by
  unfold jf_Mo_is at hh
  refine ⟨List.mem_of_getElem? (i := 128) rfl, Nat.le_of_ble_eq_true rfl, List.forall_mem_cons.mpr ⟨rfl, List.forall_mem_cons.mpr ⟨rfl, List.forall_mem_cons.mpr ⟨rfl, fun _ h => by cases h⟩⟩⟩, ?_⟩
  show q_X (q_call 0) _ jq_Mo_is 0 [(0, va_rf (some a0)), (1, .int a1), (2, .int a2)] [] x
  refine r_iload_n 1 1 jd_Mo_is_0 rfl rfl ?_
  refine r_iload_n 2 2 jd_Mo_is_1 rfl rfl ?_
  rcases q_ite hh with ⟨c1, hh⟩ | ⟨c1, hh⟩
  · refine r_ic_t 19 jd_Mo_is_2 rfl c1 ?_
    refine r_iconst 20 1 jd_Mo_is_19 (by decide) rfl ?_
    refine r_goto 24 jd_Mo_is_20 rfl ?_
    cases hh
    exact r_zret jd_Mo_is_24 rfl (by decide) ⟨rfl, rfl⟩
  · refine r_ic_f 5 19 jd_Mo_is_2 rfl c1 rfl ?_
    refine r_aload_n 6 0 jd_Mo_is_5 rfl rfl ?_
    obtain ⟨v2, e3, hh⟩ := q_bind hh
    refine r_getR 9 82 jd_Mo_is_6 rfl e3 rfl ?_
    refine r_bipush 11 6 jd_Mo_is_9 (by decide) rfl ?_
    refine r_iload_n 12 1 jd_Mo_is_11 rfl rfl ?_
    refine r_imul 13 jd_Mo_is_12 rfl ?_
    refine r_iload_n 14 2 jd_Mo_is_13 rfl rfl ?_
    refine r_iadd 15 jd_Mo_is_14 rfl ?_
    obtain ⟨v4, e5, hh⟩ := q_bind hh
    refine r_ldZ 16 100 jd_Mo_is_15 rfl e5 rfl ?_
    rcases q_ite hh with ⟨c6, hh⟩ | ⟨c6, hh⟩
    · refine r_if_t 23 jd_Mo_is_16 rfl c6 ?_
      refine r_iconst 24 0 jd_Mo_is_23 (by decide) rfl ?_
      cases hh
      exact r_zret jd_Mo_is_24 rfl (by decide) ⟨rfl, rfl⟩
    · refine r_if_f 19 23 jd_Mo_is_16 rfl c6 rfl ?_
      refine r_iconst 20 1 jd_Mo_is_19 (by decide) rfl ?_
      refine r_goto 24 jd_Mo_is_20 rfl ?_
      cases hh
      exact r_zret jd_Mo_is_24 rfl (by decide) ⟨rfl, rfl⟩
-- BeanContextsModel.extend(II)Z
def jf_Mo_extend_B56 (kk : q_S → Nat → Int32 → Int32 → Int32 → Int32 → Option (q_S × Int32)) (rc : q_S → Nat → Int32 → Int32 → Int32 → Int32 → Option (q_S × Int32)) (x : q_S) (l0 : Nat) (l1 : Int32) (l2 : Int32) (l3 : Int32) (l4 : Int32) : Option (q_S × Int32) :=
  if 6 ≤ l4 then
    kk x l0 l1 l2 l3 l4
  else
    (q_av x (some l0) 11).bind fun b24 =>
    (jf_Mo_is x b24 l3 l1).bind fun p22 =>
    if p22.2 = 0 then
      (q_gR p22.1 (some l0) 11 1).bind fun v27 =>
      (q_gR p22.1 (some l0) 11 1).bind fun v29 =>
      (q_lI p22.1 100 v29 (((6 : Int32) * l3) + l4)).bind fun v31 =>
      if v31 = 0 then
        (q_sI p22.1 100 v27 (((6 : Int32) * l3) + l4) ((0 : Int32) &&& 1)).bind fun x37 =>
        rc x37 l0 l1 l2 l3 (l4 + 1)
      else
        (q_sI p22.1 100 v27 (((6 : Int32) * l3) + l4) ((1 : Int32) &&& 1)).bind fun x34 =>
        rc x34 l0 l1 l2 l3 (l4 + 1)
    else
      (q_av p22.1 (some l0) 11).bind fun b41 =>
      (jf_Mo_is p22.1 b41 l2 l4).bind fun p39 =>
      if p39.2 = 0 then
        (q_gR p39.1 (some l0) 11 1).bind fun v44 =>
        (q_gR p39.1 (some l0) 11 1).bind fun v46 =>
        (q_lI p39.1 100 v46 (((6 : Int32) * l3) + l4)).bind fun v48 =>
        if v48 = 0 then
          (q_sI p39.1 100 v44 (((6 : Int32) * l3) + l4) ((0 : Int32) &&& 1)).bind fun x54 =>
          rc x54 l0 l1 l2 l3 (l4 + 1)
        else
          (q_sI p39.1 100 v44 (((6 : Int32) * l3) + l4) ((1 : Int32) &&& 1)).bind fun x51 =>
          rc x51 l0 l1 l2 l3 (l4 + 1)
      else
        (q_gR p39.1 (some l0) 11 1).bind fun v56 =>
        (q_gR p39.1 (some l0) 11 1).bind fun v58 =>
        (q_lI p39.1 100 v58 (((6 : Int32) * l3) + l4)).bind fun v60 =>
        if v60 = 0 then
          (q_sI p39.1 100 v56 (((6 : Int32) * l3) + l4) ((1 : Int32) &&& 1)).bind fun x66 =>
          rc x66 l0 l1 l2 l3 (l4 + 1)
        else
          (q_sI p39.1 100 v56 (((6 : Int32) * l3) + l4) ((1 : Int32) &&& 1)).bind fun x63 =>
          rc x63 l0 l1 l2 l3 (l4 + 1)
def jf_Mo_extend_L56 (kk : q_S → Nat → Int32 → Int32 → Int32 → Int32 → Option (q_S × Int32)) : Nat → q_S → Nat → Int32 → Int32 → Int32 → Int32 → Option (q_S × Int32)
  | 0, _, _, _, _, _, _ => none
  | n + 1, x, l0, l1, l2, l3, l4 => jf_Mo_extend_B56 kk (jf_Mo_extend_L56 kk n) x l0 l1 l2 l3 l4
theorem jm_Mo_extend_B56 {p : q_S × Int32} {kk : q_S → Nat → Int32 → Int32 → Int32 → Int32 → Option (q_S × Int32)} (hkk : ∀ (x : q_S) (l0 : Nat) (l1 : Int32) (l2 : Int32) (l3 : Int32) (l4 : Int32), kk x l0 l1 l2 l3 l4 = some p → q_X (q_call 1) (fun y o => y = p.1 ∧ o = some (.int p.2)) jq_Mo_extend 132 [(0, va_rf (some l0)), (1, .int l1), (2, .int l2), (3, .int l3), (4, .int l4)] [] x) {rc : q_S → Nat → Int32 → Int32 → Int32 → Int32 → Option (q_S × Int32)} (hrc : ∀ (x : q_S) (l0 : Nat) (l1 : Int32) (l2 : Int32) (l3 : Int32) (l4 : Int32), rc x l0 l1 l2 l3 l4 = some p → q_X (q_call 1) (fun y o => y = p.1 ∧ o = some (.int p.2)) jq_Mo_extend 56 [(0, va_rf (some l0)), (1, .int l1), (2, .int l2), (3, .int l3), (4, .int l4)] [] x) (x : q_S) (l0 : Nat) (l1 : Int32) (l2 : Int32) (l3 : Int32) (l4 : Int32) (hh : jf_Mo_extend_B56 kk rc x l0 l1 l2 l3 l4 = some p) : q_X (q_call 1) (fun y o => y = p.1 ∧ o = some (.int p.2)) jq_Mo_extend 56 [(0, va_rf (some l0)), (1, .int l1), (2, .int l2), (3, .int l3), (4, .int l4)] [] x := by
  unfold jf_Mo_extend_B56 at hh
  refine r_iload 58 4 jd_Mo_extend_56 rfl rfl ?_
  refine r_bipush 60 6 jd_Mo_extend_58 (by decide) rfl ?_
  rcases q_ite hh with ⟨c21, hh⟩ | ⟨c21, hh⟩
  · refine r_ic_t 132 jd_Mo_extend_60 rfl c21 ?_
    refine q_sub [0, 1, 2, 3, 4] rfl ?_
    exact hkk _ _ _ _ _ _ hh
  · refine r_ic_f 63 132 jd_Mo_extend_60 rfl c21 rfl ?_
    refine r_aload_n 64 0 jd_Mo_extend_63 rfl rfl ?_
    refine r_iload_n 65 3 jd_Mo_extend_64 rfl rfl ?_
    refine r_iload_n 66 1 jd_Mo_extend_65 rfl rfl ?_
    obtain ⟨b24, e25, hh⟩ := q_bind hh
    obtain ⟨p22, e23, hh⟩ := q_bind hh
    refine r_cV (rest := []) 69 128 11 [.int l3, .int l1] [.int p22.2] jd_Mo_extend_66 rfl e25 rfl rfl rfl rfl (q_s8 (Nat.le_of_ble_eq_true rfl)) (q_call_le (Nat.le_of_ble_eq_true rfl) (jm_Mo_is e23)) rfl rfl ?_
    rcases q_ite hh with ⟨c26, hh⟩ | ⟨c26, hh⟩
    · refine r_if_t 86 jd_Mo_extend_69 rfl c26 ?_
      refine r_iconst 87 0 jd_Mo_extend_86 (by decide) rfl ?_
      refine r_istore 89 [(5, .int 0), (0, va_rf (some l0)), (1, .int l1), (2, .int l2), (3, .int l3), (4, .int l4)] jd_Mo_extend_87 (by decide) rfl rfl ?_
      refine r_aload_n 90 1 jd_Mo_extend_89 rfl rfl ?_
      obtain ⟨v27, e28, hh⟩ := q_bind hh
      refine r_getR 93 82 jd_Mo_extend_90 rfl e28 rfl ?_
      refine r_bipush 95 6 jd_Mo_extend_93 (by decide) rfl ?_
      refine r_iload_n 96 4 jd_Mo_extend_95 rfl rfl ?_
      refine r_imul 97 jd_Mo_extend_96 rfl ?_
      refine r_iload 99 5 jd_Mo_extend_97 rfl rfl ?_
      refine r_iadd 100 jd_Mo_extend_99 rfl ?_
      refine r_aload_n 101 1 jd_Mo_extend_100 rfl rfl ?_
      obtain ⟨v29, e30, hh⟩ := q_bind hh
      refine r_getR 104 82 jd_Mo_extend_101 rfl e30 rfl ?_
      refine r_bipush 106 6 jd_Mo_extend_104 (by decide) rfl ?_
      refine r_iload_n 107 4 jd_Mo_extend_106 rfl rfl ?_
      refine r_imul 108 jd_Mo_extend_107 rfl ?_
      refine r_iload 110 5 jd_Mo_extend_108 rfl rfl ?_
      refine r_iadd 111 jd_Mo_extend_110 rfl ?_
      obtain ⟨v31, e32, hh⟩ := q_bind hh
      refine r_ldZ 112 100 jd_Mo_extend_111 rfl e32 rfl ?_
      rcases q_ite hh with ⟨c33, hh⟩ | ⟨c33, hh⟩
      · refine r_if_f 115 120 jd_Mo_extend_112 rfl (fun z => z c33) rfl ?_
        refine r_iload 117 0 jd_Mo_extend_115 rfl rfl ?_
        refine r_if_t 124 jd_Mo_extend_117 rfl (by unfold q_cnd; decide) ?_
        refine r_iconst 125 0 jd_Mo_extend_124 (by decide) rfl ?_
        obtain ⟨x37, e38, hh⟩ := q_bind hh
        refine r_stZ 126 100 jd_Mo_extend_125 rfl e38 rfl ?_
        refine r_iinc 129 5 [(4, .int (l4 + 1)), (5, .int 0), (0, va_rf (some l0)), (1, .int l1), (2, .int l2), (3, .int l3)] 1 jd_Mo_extend_126 rfl (by decide) (by decide) rfl rfl ?_
        refine r_goto 56 jd_Mo_extend_129 rfl ?_
        refine q_sub [2, 3, 4, 5, 0] rfl ?_
        exact hrc _ _ _ _ _ _ hh
      · refine r_if_t 120 jd_Mo_extend_112 rfl c33 ?_
        refine r_iconst 121 1 jd_Mo_extend_120 (by decide) rfl ?_
        refine r_goto 125 jd_Mo_extend_121 rfl ?_
        obtain ⟨x34, e35, hh⟩ := q_bind hh
        refine r_stZ 126 100 jd_Mo_extend_125 rfl e35 rfl ?_
        refine r_iinc 129 5 [(4, .int (l4 + 1)), (5, .int 0), (0, va_rf (some l0)), (1, .int l1), (2, .int l2), (3, .int l3)] 1 jd_Mo_extend_126 rfl (by decide) (by decide) rfl rfl ?_
        refine r_goto 56 jd_Mo_extend_129 rfl ?_
        refine q_sub [2, 3, 4, 5, 0] rfl ?_
        exact hrc _ _ _ _ _ _ hh
    · refine r_if_f 72 86 jd_Mo_extend_69 rfl c26 rfl ?_
      refine r_aload_n 73 0 jd_Mo_extend_72 rfl rfl ?_
      refine r_iload_n 74 2 jd_Mo_extend_73 rfl rfl ?_
      refine r_iload 76 4 jd_Mo_extend_74 rfl rfl ?_
      obtain ⟨b41, e42, hh⟩ := q_bind hh
      obtain ⟨p39, e40, hh⟩ := q_bind hh
      refine r_cV (rest := []) 79 128 11 [.int l2, .int l4] [.int p39.2] jd_Mo_extend_76 rfl e42 rfl rfl rfl rfl (q_s8 (Nat.le_of_ble_eq_true rfl)) (q_call_le (Nat.le_of_ble_eq_true rfl) (jm_Mo_is e40)) rfl rfl ?_
      rcases q_ite hh with ⟨c43, hh⟩ | ⟨c43, hh⟩
      · refine r_if_t 86 jd_Mo_extend_79 rfl c43 ?_
        refine r_iconst 87 0 jd_Mo_extend_86 (by decide) rfl ?_
        refine r_istore 89 [(5, .int 0), (0, va_rf (some l0)), (1, .int l1), (2, .int l2), (3, .int l3), (4, .int l4)] jd_Mo_extend_87 (by decide) rfl rfl ?_
        refine r_aload_n 90 1 jd_Mo_extend_89 rfl rfl ?_
        obtain ⟨v44, e45, hh⟩ := q_bind hh
        refine r_getR 93 82 jd_Mo_extend_90 rfl e45 rfl ?_
        refine r_bipush 95 6 jd_Mo_extend_93 (by decide) rfl ?_
        refine r_iload_n 96 4 jd_Mo_extend_95 rfl rfl ?_
        refine r_imul 97 jd_Mo_extend_96 rfl ?_
        refine r_iload 99 5 jd_Mo_extend_97 rfl rfl ?_
        refine r_iadd 100 jd_Mo_extend_99 rfl ?_
        refine r_aload_n 101 1 jd_Mo_extend_100 rfl rfl ?_
        obtain ⟨v46, e47, hh⟩ := q_bind hh
        refine r_getR 104 82 jd_Mo_extend_101 rfl e47 rfl ?_
        refine r_bipush 106 6 jd_Mo_extend_104 (by decide) rfl ?_
        refine r_iload_n 107 4 jd_Mo_extend_106 rfl rfl ?_
        refine r_imul 108 jd_Mo_extend_107 rfl ?_
        refine r_iload 110 5 jd_Mo_extend_108 rfl rfl ?_
        refine r_iadd 111 jd_Mo_extend_110 rfl ?_
        obtain ⟨v48, e49, hh⟩ := q_bind hh
        refine r_ldZ 112 100 jd_Mo_extend_111 rfl e49 rfl ?_
        rcases q_ite hh with ⟨c50, hh⟩ | ⟨c50, hh⟩
        · refine r_if_f 115 120 jd_Mo_extend_112 rfl (fun z => z c50) rfl ?_
          refine r_iload 117 0 jd_Mo_extend_115 rfl rfl ?_
          refine r_if_t 124 jd_Mo_extend_117 rfl (by unfold q_cnd; decide) ?_
          refine r_iconst 125 0 jd_Mo_extend_124 (by decide) rfl ?_
          obtain ⟨x54, e55, hh⟩ := q_bind hh
          refine r_stZ 126 100 jd_Mo_extend_125 rfl e55 rfl ?_
          refine r_iinc 129 5 [(4, .int (l4 + 1)), (5, .int 0), (0, va_rf (some l0)), (1, .int l1), (2, .int l2), (3, .int l3)] 1 jd_Mo_extend_126 rfl (by decide) (by decide) rfl rfl ?_
          refine r_goto 56 jd_Mo_extend_129 rfl ?_
          refine q_sub [2, 3, 4, 5, 0] rfl ?_
          exact hrc _ _ _ _ _ _ hh
        · refine r_if_t 120 jd_Mo_extend_112 rfl c50 ?_
          refine r_iconst 121 1 jd_Mo_extend_120 (by decide) rfl ?_
          refine r_goto 125 jd_Mo_extend_121 rfl ?_
          obtain ⟨x51, e52, hh⟩ := q_bind hh
          refine r_stZ 126 100 jd_Mo_extend_125 rfl e52 rfl ?_
          refine r_iinc 129 5 [(4, .int (l4 + 1)), (5, .int 0), (0, va_rf (some l0)), (1, .int l1), (2, .int l2), (3, .int l3)] 1 jd_Mo_extend_126 rfl (by decide) (by decide) rfl rfl ?_
          refine r_goto 56 jd_Mo_extend_129 rfl ?_
          refine q_sub [2, 3, 4, 5, 0] rfl ?_
          exact hrc _ _ _ _ _ _ hh
      · refine r_if_f 82 86 jd_Mo_extend_79 rfl c43 rfl ?_
        refine r_iconst 83 1 jd_Mo_extend_82 (by decide) rfl ?_
        refine r_goto 87 jd_Mo_extend_83 rfl ?_
        refine r_istore 89 [(5, .int 1), (0, va_rf (some l0)), (1, .int l1), (2, .int l2), (3, .int l3), (4, .int l4)] jd_Mo_extend_87 (by decide) rfl rfl ?_
        refine r_aload_n 90 1 jd_Mo_extend_89 rfl rfl ?_
        obtain ⟨v56, e57, hh⟩ := q_bind hh
        refine r_getR 93 82 jd_Mo_extend_90 rfl e57 rfl ?_
        refine r_bipush 95 6 jd_Mo_extend_93 (by decide) rfl ?_
        refine r_iload_n 96 4 jd_Mo_extend_95 rfl rfl ?_
        refine r_imul 97 jd_Mo_extend_96 rfl ?_
        refine r_iload 99 5 jd_Mo_extend_97 rfl rfl ?_
        refine r_iadd 100 jd_Mo_extend_99 rfl ?_
        refine r_aload_n 101 1 jd_Mo_extend_100 rfl rfl ?_
        obtain ⟨v58, e59, hh⟩ := q_bind hh
        refine r_getR 104 82 jd_Mo_extend_101 rfl e59 rfl ?_
        refine r_bipush 106 6 jd_Mo_extend_104 (by decide) rfl ?_
        refine r_iload_n 107 4 jd_Mo_extend_106 rfl rfl ?_
        refine r_imul 108 jd_Mo_extend_107 rfl ?_
        refine r_iload 110 5 jd_Mo_extend_108 rfl rfl ?_
        refine r_iadd 111 jd_Mo_extend_110 rfl ?_
        obtain ⟨v60, e61, hh⟩ := q_bind hh
        refine r_ldZ 112 100 jd_Mo_extend_111 rfl e61 rfl ?_
        rcases q_ite hh with ⟨c62, hh⟩ | ⟨c62, hh⟩
        · refine r_if_f 115 120 jd_Mo_extend_112 rfl (fun z => z c62) rfl ?_
          refine r_iload 117 0 jd_Mo_extend_115 rfl rfl ?_
          refine r_if_f 120 124 jd_Mo_extend_117 rfl (by unfold q_cnd; decide) rfl ?_
          refine r_iconst 121 1 jd_Mo_extend_120 (by decide) rfl ?_
          refine r_goto 125 jd_Mo_extend_121 rfl ?_
          obtain ⟨x66, e67, hh⟩ := q_bind hh
          refine r_stZ 126 100 jd_Mo_extend_125 rfl e67 rfl ?_
          refine r_iinc 129 5 [(4, .int (l4 + 1)), (5, .int 1), (0, va_rf (some l0)), (1, .int l1), (2, .int l2), (3, .int l3)] 1 jd_Mo_extend_126 rfl (by decide) (by decide) rfl rfl ?_
          refine r_goto 56 jd_Mo_extend_129 rfl ?_
          refine q_sub [2, 3, 4, 5, 0] rfl ?_
          exact hrc _ _ _ _ _ _ hh
        · refine r_if_t 120 jd_Mo_extend_112 rfl c62 ?_
          refine r_iconst 121 1 jd_Mo_extend_120 (by decide) rfl ?_
          refine r_goto 125 jd_Mo_extend_121 rfl ?_
          obtain ⟨x63, e64, hh⟩ := q_bind hh
          refine r_stZ 126 100 jd_Mo_extend_125 rfl e64 rfl ?_
          refine r_iinc 129 5 [(4, .int (l4 + 1)), (5, .int 1), (0, va_rf (some l0)), (1, .int l1), (2, .int l2), (3, .int l3)] 1 jd_Mo_extend_126 rfl (by decide) (by decide) rfl rfl ?_
          refine r_goto 56 jd_Mo_extend_129 rfl ?_
          refine q_sub [2, 3, 4, 5, 0] rfl ?_
          exact hrc _ _ _ _ _ _ hh
theorem jm_Mo_extend_L56 {p : q_S × Int32} {kk : q_S → Nat → Int32 → Int32 → Int32 → Int32 → Option (q_S × Int32)} (hkk : ∀ (x : q_S) (l0 : Nat) (l1 : Int32) (l2 : Int32) (l3 : Int32) (l4 : Int32), kk x l0 l1 l2 l3 l4 = some p → q_X (q_call 1) (fun y o => y = p.1 ∧ o = some (.int p.2)) jq_Mo_extend 132 [(0, va_rf (some l0)), (1, .int l1), (2, .int l2), (3, .int l3), (4, .int l4)] [] x) : ∀ (n : Nat) (x : q_S) (l0 : Nat) (l1 : Int32) (l2 : Int32) (l3 : Int32) (l4 : Int32), jf_Mo_extend_L56 kk n x l0 l1 l2 l3 l4 = some p → q_X (q_call 1) (fun y o => y = p.1 ∧ o = some (.int p.2)) jq_Mo_extend 56 [(0, va_rf (some l0)), (1, .int l1), (2, .int l2), (3, .int l3), (4, .int l4)] [] x
  | 0, _, _, _, _, _, _, hh => nomatch hh
  | n + 1, x, l0, l1, l2, l3, l4, hh => jm_Mo_extend_B56 hkk (jm_Mo_extend_L56 hkk n) x l0 l1 l2 l3 l4 hh
def jf_Mo_extend_B47 (rc : q_S → Nat → Int32 → Int32 → Int32 → Option (q_S × Int32)) (x : q_S) (l0 : Nat) (l1 : Int32) (l2 : Int32) (l3 : Int32) : Option (q_S × Int32) :=
  if 6 ≤ l3 then
    some (x, 1)
  else
    jf_Mo_extend_L56 (fun y68 l0_68 l1_68 l2_68 l3_68 l4_68 =>
      rc y68 l0_68 l1_68 l2_68 (l3_68 + 1)
    ) lpK x l0 l1 l2 l3 0
def jf_Mo_extend_L47 : Nat → q_S → Nat → Int32 → Int32 → Int32 → Option (q_S × Int32)
  | 0, _, _, _, _, _ => none
  | n + 1, x, l0, l1, l2, l3 => jf_Mo_extend_B47 (jf_Mo_extend_L47 n) x l0 l1 l2 l3
theorem jm_Mo_extend_B47 {p : q_S × Int32} {rc : q_S → Nat → Int32 → Int32 → Int32 → Option (q_S × Int32)} (hrc : ∀ (x : q_S) (l0 : Nat) (l1 : Int32) (l2 : Int32) (l3 : Int32), rc x l0 l1 l2 l3 = some p → q_X (q_call 1) (fun y o => y = p.1 ∧ o = some (.int p.2)) jq_Mo_extend 47 [(0, va_rf (some l0)), (1, .int l1), (2, .int l2), (3, .int l3)] [] x) (x : q_S) (l0 : Nat) (l1 : Int32) (l2 : Int32) (l3 : Int32) (hh : jf_Mo_extend_B47 rc x l0 l1 l2 l3 = some p) : q_X (q_call 1) (fun y o => y = p.1 ∧ o = some (.int p.2)) jq_Mo_extend 47 [(0, va_rf (some l0)), (1, .int l1), (2, .int l2), (3, .int l3)] [] x := by
  unfold jf_Mo_extend_B47 at hh
  refine r_iload_n 48 3 jd_Mo_extend_47 rfl rfl ?_
  refine r_bipush 50 6 jd_Mo_extend_48 (by decide) rfl ?_
  rcases q_ite hh with ⟨c20, hh⟩ | ⟨c20, hh⟩
  · refine r_ic_t 138 jd_Mo_extend_50 rfl c20 ?_
    refine r_iconst 139 1 jd_Mo_extend_138 (by decide) rfl ?_
    cases hh
    exact r_zret jd_Mo_extend_139 rfl (by decide) ⟨rfl, rfl⟩
  · refine r_ic_f 53 138 jd_Mo_extend_50 rfl c20 rfl ?_
    refine r_iconst 54 0 jd_Mo_extend_53 (by decide) rfl ?_
    refine r_istore 56 [(4, .int 0), (0, va_rf (some l0)), (1, .int l1), (2, .int l2), (3, .int l3)] jd_Mo_extend_54 (by decide) rfl rfl ?_
    refine q_sub [1, 2, 3, 4, 0] rfl ?_
    refine jm_Mo_extend_L56 (fun y68 l0_68 l1_68 l2_68 l3_68 l4_68 hh => ?_) lpK _ _ _ _ _ _ hh
    refine r_iinc 135 3 [(3, .int (l3_68 + 1)), (0, va_rf (some l0_68)), (1, .int l1_68), (2, .int l2_68), (4, .int l4_68)] 1 jd_Mo_extend_132 rfl (by decide) (by decide) rfl rfl ?_
    refine r_goto 47 jd_Mo_extend_135 rfl ?_
    refine q_sub [1, 2, 3, 0] rfl ?_
    exact hrc _ _ _ _ _ hh
theorem jm_Mo_extend_L47 {p : q_S × Int32} : ∀ (n : Nat) (x : q_S) (l0 : Nat) (l1 : Int32) (l2 : Int32) (l3 : Int32), jf_Mo_extend_L47 n x l0 l1 l2 l3 = some p → q_X (q_call 1) (fun y o => y = p.1 ∧ o = some (.int p.2)) jq_Mo_extend 47 [(0, va_rf (some l0)), (1, .int l1), (2, .int l2), (3, .int l3)] [] x
  | 0, _, _, _, _, _, hh => nomatch hh
  | n + 1, x, l0, l1, l2, l3, hh => jm_Mo_extend_B47 (jm_Mo_extend_L47 n) x l0 l1 l2 l3 hh
def jf_Mo_extend (x : q_S) (a0 : Nat) (a1 : Int32) (a2 : Int32) : Option (q_S × Int32) :=
  (jf_Mo_in x a1 0 5).bind fun p1 =>
  if p1.2 = 0 then
    some (p1.1, 0)
  else
    (jf_Mo_in p1.1 a2 0 5).bind fun p4 =>
    if p4.2 = 0 then
      some (p4.1, 0)
    else
      (q_av p4.1 (some a0) 11).bind fun b9 =>
      (jf_Mo_is p4.1 b9 a1 a2).bind fun p7 =>
      if p7.2 = 0 then
        (q_av p7.1 (some a0) 11).bind fun b14 =>
        (jf_Mo_is p7.1 b14 a2 a1).bind fun p12 =>
        if p12.2 = 0 then
          (q_gI p12.1 (some a0) 11 11).bind fun v17 =>
          if v17 ≤ 0 then
            jf_Mo_extend_L47 lpK p12.1 a0 a1 a2 0
          else
            some (p12.1, 0)
        else
          some (p12.1, 0)
      else
        some (p7.1, 0)
theorem jm_Mo_extend {x : q_S} {a0 : Nat} {a1 : Int32} {a2 : Int32} {p : q_S × Int32} (hh : jf_Mo_extend x a0 a1 a2 = some p) : q_call 2 jq_Mo_extend [va_rf (some a0), .int a1, .int a2] x p.1 (some (.int p.2)) := by
  unfold jf_Mo_extend at hh
  refine ⟨List.mem_of_getElem? (i := 127) rfl, Nat.le_of_ble_eq_true rfl, List.forall_mem_cons.mpr ⟨rfl, List.forall_mem_cons.mpr ⟨rfl, List.forall_mem_cons.mpr ⟨rfl, fun _ h => by cases h⟩⟩⟩, ?_⟩
  show q_X (q_call 1) _ jq_Mo_extend 0 [(0, va_rf (some a0)), (1, .int a1), (2, .int a2)] [] x
  refine r_iload_n 1 1 jd_Mo_extend_0 rfl rfl ?_
  refine r_iconst 2 0 jd_Mo_extend_1 (by decide) rfl ?_
  refine r_iconst 3 5 jd_Mo_extend_2 (by decide) rfl ?_
  obtain ⟨p1, e2, hh⟩ := q_bind hh
  refine r_cS (rest := []) 6 21 [.int a1, .int 0, .int 5] [.int p1.2] jd_Mo_extend_3 rfl rfl rfl (q_s8 (Nat.le_of_ble_eq_true rfl)) (q_call_le (Nat.le_of_ble_eq_true rfl) (jm_Mo_in e2)) rfl rfl ?_
  rcases q_ite hh with ⟨c3, hh⟩ | ⟨c3, hh⟩
  · refine r_if_t 43 jd_Mo_extend_6 rfl c3 ?_
    refine r_iconst 44 0 jd_Mo_extend_43 (by decide) rfl ?_
    cases hh
    exact r_zret jd_Mo_extend_44 rfl (by decide) ⟨rfl, rfl⟩
  · refine r_if_f 9 43 jd_Mo_extend_6 rfl c3 rfl ?_
    refine r_iload_n 10 2 jd_Mo_extend_9 rfl rfl ?_
    refine r_iconst 11 0 jd_Mo_extend_10 (by decide) rfl ?_
    refine r_iconst 12 5 jd_Mo_extend_11 (by decide) rfl ?_
    obtain ⟨p4, e5, hh⟩ := q_bind hh
    refine r_cS (rest := []) 15 21 [.int a2, .int 0, .int 5] [.int p4.2] jd_Mo_extend_12 rfl rfl rfl (q_s8 (Nat.le_of_ble_eq_true rfl)) (q_call_le (Nat.le_of_ble_eq_true rfl) (jm_Mo_in e5)) rfl rfl ?_
    rcases q_ite hh with ⟨c6, hh⟩ | ⟨c6, hh⟩
    · refine r_if_t 43 jd_Mo_extend_15 rfl c6 ?_
      refine r_iconst 44 0 jd_Mo_extend_43 (by decide) rfl ?_
      cases hh
      exact r_zret jd_Mo_extend_44 rfl (by decide) ⟨rfl, rfl⟩
    · refine r_if_f 18 43 jd_Mo_extend_15 rfl c6 rfl ?_
      refine r_aload_n 19 0 jd_Mo_extend_18 rfl rfl ?_
      refine r_iload_n 20 1 jd_Mo_extend_19 rfl rfl ?_
      refine r_iload_n 21 2 jd_Mo_extend_20 rfl rfl ?_
      obtain ⟨b9, e10, hh⟩ := q_bind hh
      obtain ⟨p7, e8, hh⟩ := q_bind hh
      refine r_cV (rest := []) 24 128 11 [.int a1, .int a2] [.int p7.2] jd_Mo_extend_21 rfl e10 rfl rfl rfl rfl (q_s8 (Nat.le_of_ble_eq_true rfl)) (q_call_le (Nat.le_of_ble_eq_true rfl) (jm_Mo_is e8)) rfl rfl ?_
      rcases q_ite hh with ⟨c11, hh⟩ | ⟨c11, hh⟩
      · refine r_if_f 27 43 jd_Mo_extend_24 rfl (fun z => z c11) rfl ?_
        refine r_aload_n 28 0 jd_Mo_extend_27 rfl rfl ?_
        refine r_iload_n 29 2 jd_Mo_extend_28 rfl rfl ?_
        refine r_iload_n 30 1 jd_Mo_extend_29 rfl rfl ?_
        obtain ⟨b14, e15, hh⟩ := q_bind hh
        obtain ⟨p12, e13, hh⟩ := q_bind hh
        refine r_cV (rest := []) 33 128 11 [.int a2, .int a1] [.int p12.2] jd_Mo_extend_30 rfl e15 rfl rfl rfl rfl (q_s8 (Nat.le_of_ble_eq_true rfl)) (q_call_le (Nat.le_of_ble_eq_true rfl) (jm_Mo_is e13)) rfl rfl ?_
        rcases q_ite hh with ⟨c16, hh⟩ | ⟨c16, hh⟩
        · refine r_if_f 36 43 jd_Mo_extend_33 rfl (fun z => z c16) rfl ?_
          refine r_aload_n 37 0 jd_Mo_extend_36 rfl rfl ?_
          obtain ⟨v17, e18, hh⟩ := q_bind hh
          refine r_getI 40 115 jd_Mo_extend_37 rfl e18 rfl ?_
          rcases q_ite hh with ⟨c19, hh⟩ | ⟨c19, hh⟩
          · refine r_if_t 45 jd_Mo_extend_40 rfl c19 ?_
            refine r_iconst 46 0 jd_Mo_extend_45 (by decide) rfl ?_
            refine r_istore_n 47 [(3, .int 0), (0, va_rf (some a0)), (1, .int a1), (2, .int a2)] jd_Mo_extend_46 (by decide) rfl rfl ?_
            refine q_sub [1, 2, 3, 0] rfl ?_
            exact jm_Mo_extend_L47 lpK _ _ _ _ _ hh
          · refine r_if_f 43 45 jd_Mo_extend_40 rfl c19 rfl ?_
            refine r_iconst 44 0 jd_Mo_extend_43 (by decide) rfl ?_
            cases hh
            exact r_zret jd_Mo_extend_44 rfl (by decide) ⟨rfl, rfl⟩
        · refine r_if_t 43 jd_Mo_extend_33 rfl c16 ?_
          refine r_iconst 44 0 jd_Mo_extend_43 (by decide) rfl ?_
          cases hh
          exact r_zret jd_Mo_extend_44 rfl (by decide) ⟨rfl, rfl⟩
      · refine r_if_t 43 jd_Mo_extend_24 rfl c11 ?_
        refine r_iconst 44 0 jd_Mo_extend_43 (by decide) rfl ?_
        cases hh
        exact r_zret jd_Mo_extend_44 rfl (by decide) ⟨rfl, rfl⟩
-- BeanContextsModel.failures(I)I
def jf_Mo_failures (x : q_S) (a0 : Nat) (a1 : Int32) : Option (q_S × Int32) :=
  (q_av x (some a0) 11).bind fun b3 =>
  (jf_Mo_isConfiguration x b3 a1).bind fun p1 =>
  if p1.2 = 0 then
    some (p1.1, (-1))
  else
    (q_gR p1.1 (some a0) 11 15).bind fun v6 =>
    (q_av p1.1 (some a0) 11).bind fun b10 =>
    (jf_Mo_key p1.1 b10 a1).bind fun p8 =>
    (q_lI p8.1 21 v6 p8.2).bind fun v12 =>
    some (p8.1, v12)
theorem jm_Mo_failures {x : q_S} {a0 : Nat} {a1 : Int32} {p : q_S × Int32} (hh : jf_Mo_failures x a0 a1 = some p) : q_call 4 jq_Mo_failures [va_rf (some a0), .int a1] x p.1 (some (.int p.2)) := by
  unfold jf_Mo_failures at hh
  refine ⟨List.mem_of_getElem? (i := 129) rfl, Nat.le_of_ble_eq_true rfl, List.forall_mem_cons.mpr ⟨rfl, List.forall_mem_cons.mpr ⟨rfl, fun _ h => by cases h⟩⟩, ?_⟩
  show q_X (q_call 3) _ jq_Mo_failures 0 [(0, va_rf (some a0)), (1, .int a1)] [] x
  refine r_aload_n 1 0 jd_Mo_failures_0 rfl rfl ?_
  refine r_iload_n 2 1 jd_Mo_failures_1 rfl rfl ?_
  obtain ⟨b3, e4, hh⟩ := q_bind hh
  obtain ⟨p1, e2, hh⟩ := q_bind hh
  refine r_cV (rest := []) 5 116 11 [.int a1] [.int p1.2] jd_Mo_failures_2 rfl e4 rfl rfl rfl rfl (q_s8 (Nat.le_of_ble_eq_true rfl)) (q_call_le (Nat.le_of_ble_eq_true rfl) (jm_Mo_isConfiguration e2)) rfl rfl ?_
  rcases q_ite hh with ⟨c5, hh⟩ | ⟨c5, hh⟩
  · refine r_if_t 21 jd_Mo_failures_5 rfl c5 ?_
    refine r_iconst 22 (-1) jd_Mo_failures_21 (by decide) rfl ?_
    cases hh
    exact r_iret jd_Mo_failures_22 rfl ⟨rfl, rfl⟩
  · refine r_if_f 8 21 jd_Mo_failures_5 rfl c5 rfl ?_
    refine r_aload_n 9 0 jd_Mo_failures_8 rfl rfl ?_
    obtain ⟨v6, e7, hh⟩ := q_bind hh
    refine r_getR 12 94 jd_Mo_failures_9 rfl e7 rfl ?_
    refine r_aload_n 13 0 jd_Mo_failures_12 rfl rfl ?_
    refine r_iload_n 14 1 jd_Mo_failures_13 rfl rfl ?_
    obtain ⟨b10, e11, hh⟩ := q_bind hh
    obtain ⟨p8, e9, hh⟩ := q_bind hh
    refine r_cV (rest := [va_rf v6]) 17 119 11 [.int a1] [.int p8.2, va_rf v6] jd_Mo_failures_14 rfl e11 rfl rfl rfl rfl (q_s8 (Nat.le_of_ble_eq_true rfl)) (q_call_le (Nat.le_of_ble_eq_true rfl) (jm_Mo_key e9)) rfl rfl ?_
    obtain ⟨v12, e13, hh⟩ := q_bind hh
    refine r_ldI 18 21 jd_Mo_failures_17 rfl e13 rfl ?_
    refine r_goto 22 jd_Mo_failures_18 rfl ?_
    cases hh
    exact r_iret jd_Mo_failures_22 rfl ⟨rfl, rfl⟩
-- BeanContextsModel.asked(III)Z
def jf_Mo_asked (x : q_S) (a0 : Int32) (a1 : Int32) (a2 : Int32) : Option (q_S × Int32) :=
  (jf_Mo_in x a0 0 5).bind fun p1 =>
  if p1.2 = 0 then
    some (p1.1, 0)
  else
    (jf_Mo_in p1.1 a1 0 3).bind fun p4 =>
    if p4.2 = 0 then
      some (p4.1, 0)
    else
      (jf_Mo_in p4.1 a2 (-1) 9).bind fun p7 =>
      if p7.2 = 0 then
        some (p7.1, 0)
      else
        some (p7.1, 1)
theorem jm_Mo_asked {x : q_S} {a0 : Int32} {a1 : Int32} {a2 : Int32} {p : q_S × Int32} (hh : jf_Mo_asked x a0 a1 a2 = some p) : q_call 2 jq_Mo_asked [.int a0, .int a1, .int a2] x p.1 (some (.int p.2)) := by
  unfold jf_Mo_asked at hh
  refine ⟨List.mem_of_getElem? (i := 131) rfl, Nat.le_of_ble_eq_true rfl, List.forall_mem_cons.mpr ⟨rfl, List.forall_mem_cons.mpr ⟨rfl, List.forall_mem_cons.mpr ⟨rfl, fun _ h => by cases h⟩⟩⟩, ?_⟩
  show q_X (q_call 1) _ jq_Mo_asked 0 [(0, .int a0), (1, .int a1), (2, .int a2)] [] x
  refine r_iload_n 1 0 jd_Mo_asked_0 rfl rfl ?_
  refine r_iconst 2 0 jd_Mo_asked_1 (by decide) rfl ?_
  refine r_iconst 3 5 jd_Mo_asked_2 (by decide) rfl ?_
  obtain ⟨p1, e2, hh⟩ := q_bind hh
  refine r_cS (rest := []) 6 21 [.int a0, .int 0, .int 5] [.int p1.2] jd_Mo_asked_3 rfl rfl rfl (q_s8 (Nat.le_of_ble_eq_true rfl)) (q_call_le (Nat.le_of_ble_eq_true rfl) (jm_Mo_in e2)) rfl rfl ?_
  rcases q_ite hh with ⟨c3, hh⟩ | ⟨c3, hh⟩
  · refine r_if_t 32 jd_Mo_asked_6 rfl c3 ?_
    refine r_iconst 33 0 jd_Mo_asked_32 (by decide) rfl ?_
    cases hh
    exact r_zret jd_Mo_asked_33 rfl (by decide) ⟨rfl, rfl⟩
  · refine r_if_f 9 32 jd_Mo_asked_6 rfl c3 rfl ?_
    refine r_iload_n 10 1 jd_Mo_asked_9 rfl rfl ?_
    refine r_iconst 11 0 jd_Mo_asked_10 (by decide) rfl ?_
    refine r_iconst 12 3 jd_Mo_asked_11 (by decide) rfl ?_
    obtain ⟨p4, e5, hh⟩ := q_bind hh
    refine r_cS (rest := []) 15 21 [.int a1, .int 0, .int 3] [.int p4.2] jd_Mo_asked_12 rfl rfl rfl (q_s8 (Nat.le_of_ble_eq_true rfl)) (q_call_le (Nat.le_of_ble_eq_true rfl) (jm_Mo_in e5)) rfl rfl ?_
    rcases q_ite hh with ⟨c6, hh⟩ | ⟨c6, hh⟩
    · refine r_if_t 32 jd_Mo_asked_15 rfl c6 ?_
      refine r_iconst 33 0 jd_Mo_asked_32 (by decide) rfl ?_
      cases hh
      exact r_zret jd_Mo_asked_33 rfl (by decide) ⟨rfl, rfl⟩
    · refine r_if_f 18 32 jd_Mo_asked_15 rfl c6 rfl ?_
      refine r_iload_n 19 2 jd_Mo_asked_18 rfl rfl ?_
      refine r_iconst 20 (-1) jd_Mo_asked_19 (by decide) rfl ?_
      refine r_bipush 22 9 jd_Mo_asked_20 (by decide) rfl ?_
      obtain ⟨p7, e8, hh⟩ := q_bind hh
      refine r_cS (rest := []) 25 21 [.int a2, .int (-1), .int 9] [.int p7.2] jd_Mo_asked_22 rfl rfl rfl (q_s8 (Nat.le_of_ble_eq_true rfl)) (q_call_le (Nat.le_of_ble_eq_true rfl) (jm_Mo_in e8)) rfl rfl ?_
      rcases q_ite hh with ⟨c9, hh⟩ | ⟨c9, hh⟩
      · refine r_if_t 32 jd_Mo_asked_25 rfl c9 ?_
        refine r_iconst 33 0 jd_Mo_asked_32 (by decide) rfl ?_
        cases hh
        exact r_zret jd_Mo_asked_33 rfl (by decide) ⟨rfl, rfl⟩
      · refine r_if_f 28 32 jd_Mo_asked_25 rfl c9 rfl ?_
        refine r_iconst 29 1 jd_Mo_asked_28 (by decide) rfl ?_
        refine r_goto 33 jd_Mo_asked_29 rfl ?_
        cases hh
        exact r_zret jd_Mo_asked_33 rfl (by decide) ⟨rfl, rfl⟩
-- BeanContextsModel.isIn(II)Z
def jf_Mo_isIn (x : q_S) (a0 : Nat) (a1 : Int32) (a2 : Int32) : Option (q_S × Int32) :=
  (q_gR x (some a0) 11 12).bind fun v1 =>
  (q_gR x (some a0) 11 17).bind fun v3 =>
  (q_lI x 22 v3 a1).bind fun v5 =>
  (q_lI x 18 v1 v5).bind fun v7 =>
  if ((v7 >>> (a2 &&& 31)) &&& 1) = 1 then
    some (x, 1)
  else
    some (x, 0)
theorem jm_Mo_isIn {x : q_S} {a0 : Nat} {a1 : Int32} {a2 : Int32} {p : q_S × Int32} (hh : jf_Mo_isIn x a0 a1 a2 = some p) : q_call 1 jq_Mo_isIn [va_rf (some a0), .int a1, .int a2] x p.1 (some (.int p.2)) := by
  unfold jf_Mo_isIn at hh
  refine ⟨List.mem_of_getElem? (i := 133) rfl, Nat.le_of_ble_eq_true rfl, List.forall_mem_cons.mpr ⟨rfl, List.forall_mem_cons.mpr ⟨rfl, List.forall_mem_cons.mpr ⟨rfl, fun _ h => by cases h⟩⟩⟩, ?_⟩
  show q_X (q_call 0) _ jq_Mo_isIn 0 [(0, va_rf (some a0)), (1, .int a1), (2, .int a2)] [] x
  refine r_aload_n 1 0 jd_Mo_isIn_0 rfl rfl ?_
  obtain ⟨v1, e2, hh⟩ := q_bind hh
  refine r_getR 4 91 jd_Mo_isIn_1 rfl e2 rfl ?_
  refine r_aload_n 5 0 jd_Mo_isIn_4 rfl rfl ?_
  obtain ⟨v3, e4, hh⟩ := q_bind hh
  refine r_getR 8 95 jd_Mo_isIn_5 rfl e4 rfl ?_
  refine r_iload_n 9 1 jd_Mo_isIn_8 rfl rfl ?_
  obtain ⟨v5, e6, hh⟩ := q_bind hh
  refine r_ldI 10 22 jd_Mo_isIn_9 rfl e6 rfl ?_
  obtain ⟨v7, e8, hh⟩ := q_bind hh
  refine r_ldI 11 18 jd_Mo_isIn_10 rfl e8 rfl ?_
  refine r_iload_n 12 2 jd_Mo_isIn_11 rfl rfl ?_
  refine r_ishr 13 jd_Mo_isIn_12 rfl ?_
  refine r_iconst 14 1 jd_Mo_isIn_13 (by decide) rfl ?_
  refine r_iand 15 jd_Mo_isIn_14 rfl ?_
  refine r_iconst 16 1 jd_Mo_isIn_15 (by decide) rfl ?_
  rcases q_ite hh with ⟨c9, hh⟩ | ⟨c9, hh⟩
  · refine r_ic_f 19 23 jd_Mo_isIn_16 rfl (fun z => z c9) rfl ?_
    refine r_iconst 20 1 jd_Mo_isIn_19 (by decide) rfl ?_
    refine r_goto 24 jd_Mo_isIn_20 rfl ?_
    cases hh
    exact r_zret jd_Mo_isIn_24 rfl (by decide) ⟨rfl, rfl⟩
  · refine r_ic_t 23 jd_Mo_isIn_16 rfl c9 ?_
    refine r_iconst 24 0 jd_Mo_isIn_23 (by decide) rfl ?_
    cases hh
    exact r_zret jd_Mo_isIn_24 rfl (by decide) ⟨rfl, rfl⟩
-- BeanContextsModel.find(IIII)I
def jf_Mo_find_B35 (kk : q_S → Nat → Int32 → Int32 → Int32 → Int32 → Int32 → Int32 → Int32 → Int32 → Int32 → Int32 → Int32 → Option (q_S × Int32)) (rc : q_S → Nat → Int32 → Int32 → Int32 → Int32 → Int32 → Int32 → Int32 → Int32 → Int32 → Int32 → Int32 → Option (q_S × Int32)) (x : q_S) (l0 : Nat) (l2 : Int32) (l3 : Int32) (l4 : Int32) (l5 : Int32) (l6 : Int32) (l7 : Int32) (l8 : Int32) (l9 : Int32) (l10 : Int32) (l11 : Int32) (l12 : Int32) : Option (q_S × Int32) :=
  (q_gI x (some l0) 11 2).bind fun v3 =>
  if v3 ≤ l12 then
    kk x l0 l2 l3 l4 l5 l6 l7 l8 l9 l10 l11 l12
  else
    (q_av x (some l0) 11).bind fun b8 =>
    (jf_Mo_isIn x b8 l5 l12).bind fun p6 =>
    if p6.2 = 0 then
      rc p6.1 l0 l2 l3 l4 l5 l6 l7 l8 l9 l10 l11 (l12 + 1)
    else
      (q_gR p6.1 (some l0) 11 3).bind fun v11 =>
      (q_lI p6.1 10 v11 l12).bind fun v13 =>
      (q_av p6.1 (some l0) 11).bind fun b17 =>
      (jf_Mo_is p6.1 b17 v13 l2).bind fun p15 =>
      if p15.2 = 0 then
        rc p15.1 l0 l2 l3 l4 l5 l6 l7 l8 l9 l10 l11 (l12 + 1)
      else
        if l3 = 0 then
          if l11 = 0 then
            if l12 = l4 then
              (q_gR p15.1 (some l0) 11 4).bind fun v33 =>
              (q_lI p15.1 11 v33 l12).bind fun v35 =>
              if (v35 &&& 1) = 0 then
                rc p15.1 l0 l2 l3 l4 l5 l6 (l7 + 1) l12 l9 l10 1 (l12 + 1)
              else
                rc p15.1 l0 l2 l3 l4 l5 l6 (l7 + 1) l12 (l9 + 1) l12 1 (l12 + 1)
            else
              (q_gR p15.1 (some l0) 11 4).bind fun v28 =>
              (q_lI p15.1 11 v28 l12).bind fun v30 =>
              if (v30 &&& 1) = 0 then
                rc p15.1 l0 l2 l3 l4 l5 l6 (l7 + 1) l12 l9 l10 0 (l12 + 1)
              else
                rc p15.1 l0 l2 l3 l4 l5 l6 (l7 + 1) l12 (l9 + 1) l12 0 (l12 + 1)
          else
            (q_gR p15.1 (some l0) 11 4).bind fun v22 =>
            (q_lI p15.1 11 v22 l12).bind fun v24 =>
            if (v24 &&& 1) = 0 then
              rc p15.1 l0 l2 l3 l4 l5 l6 (l7 + 1) l12 l9 l10 1 (l12 + 1)
            else
              rc p15.1 l0 l2 l3 l4 l5 l6 (l7 + 1) l12 (l9 + 1) l12 1 (l12 + 1)
        else
          (q_gR p15.1 (some l0) 11 5).bind fun v38 =>
          (q_lI p15.1 12 v38 l12).bind fun v40 =>
          if v40 = l3 then
            if l11 = 0 then
              if l12 = l4 then
                (q_gR p15.1 (some l0) 11 4).bind fun v55 =>
                (q_lI p15.1 11 v55 l12).bind fun v57 =>
                if (v57 &&& 1) = 0 then
                  rc p15.1 l0 l2 l3 l4 l5 l6 (l7 + 1) l12 l9 l10 1 (l12 + 1)
                else
                  rc p15.1 l0 l2 l3 l4 l5 l6 (l7 + 1) l12 (l9 + 1) l12 1 (l12 + 1)
              else
                (q_gR p15.1 (some l0) 11 4).bind fun v50 =>
                (q_lI p15.1 11 v50 l12).bind fun v52 =>
                if (v52 &&& 1) = 0 then
                  rc p15.1 l0 l2 l3 l4 l5 l6 (l7 + 1) l12 l9 l10 0 (l12 + 1)
                else
                  rc p15.1 l0 l2 l3 l4 l5 l6 (l7 + 1) l12 (l9 + 1) l12 0 (l12 + 1)
            else
              (q_gR p15.1 (some l0) 11 4).bind fun v44 =>
              (q_lI p15.1 11 v44 l12).bind fun v46 =>
              if (v46 &&& 1) = 0 then
                rc p15.1 l0 l2 l3 l4 l5 l6 (l7 + 1) l12 l9 l10 1 (l12 + 1)
              else
                rc p15.1 l0 l2 l3 l4 l5 l6 (l7 + 1) l12 (l9 + 1) l12 1 (l12 + 1)
          else
            rc p15.1 l0 l2 l3 l4 l5 l6 l7 l8 l9 l10 l11 (l12 + 1)
def jf_Mo_find_L35 (kk : q_S → Nat → Int32 → Int32 → Int32 → Int32 → Int32 → Int32 → Int32 → Int32 → Int32 → Int32 → Int32 → Option (q_S × Int32)) : Nat → q_S → Nat → Int32 → Int32 → Int32 → Int32 → Int32 → Int32 → Int32 → Int32 → Int32 → Int32 → Int32 → Option (q_S × Int32)
  | 0, _, _, _, _, _, _, _, _, _, _, _, _, _ => none
  | n + 1, x, l0, l2, l3, l4, l5, l6, l7, l8, l9, l10, l11, l12 => jf_Mo_find_B35 kk (jf_Mo_find_L35 kk n) x l0 l2 l3 l4 l5 l6 l7 l8 l9 l10 l11 l12
theorem jm_Mo_find_B35 {p : q_S × Int32} {kk : q_S → Nat → Int32 → Int32 → Int32 → Int32 → Int32 → Int32 → Int32 → Int32 → Int32 → Int32 → Int32 → Option (q_S × Int32)} (hkk : ∀ (x : q_S) (l0 : Nat) (l2 : Int32) (l3 : Int32) (l4 : Int32) (l5 : Int32) (l6 : Int32) (l7 : Int32) (l8 : Int32) (l9 : Int32) (l10 : Int32) (l11 : Int32) (l12 : Int32), kk x l0 l2 l3 l4 l5 l6 l7 l8 l9 l10 l11 l12 = some p → q_X (q_call 1) (fun y o => y = p.1 ∧ o = some (.int p.2)) jq_Mo_find 139 [(0, va_rf (some l0)), (2, .int l2), (3, .int l3), (4, .int l4), (5, .int l5), (6, .int l6), (7, .int l7), (8, .int l8), (9, .int l9), (10, .int l10), (11, .int l11), (12, .int l12)] [] x) {rc : q_S → Nat → Int32 → Int32 → Int32 → Int32 → Int32 → Int32 → Int32 → Int32 → Int32 → Int32 → Int32 → Option (q_S × Int32)} (hrc : ∀ (x : q_S) (l0 : Nat) (l2 : Int32) (l3 : Int32) (l4 : Int32) (l5 : Int32) (l6 : Int32) (l7 : Int32) (l8 : Int32) (l9 : Int32) (l10 : Int32) (l11 : Int32) (l12 : Int32), rc x l0 l2 l3 l4 l5 l6 l7 l8 l9 l10 l11 l12 = some p → q_X (q_call 1) (fun y o => y = p.1 ∧ o = some (.int p.2)) jq_Mo_find 35 [(0, va_rf (some l0)), (2, .int l2), (3, .int l3), (4, .int l4), (5, .int l5), (6, .int l6), (7, .int l7), (8, .int l8), (9, .int l9), (10, .int l10), (11, .int l11), (12, .int l12)] [] x) (x : q_S) (l0 : Nat) (l2 : Int32) (l3 : Int32) (l4 : Int32) (l5 : Int32) (l6 : Int32) (l7 : Int32) (l8 : Int32) (l9 : Int32) (l10 : Int32) (l11 : Int32) (l12 : Int32) (hh : jf_Mo_find_B35 kk rc x l0 l2 l3 l4 l5 l6 l7 l8 l9 l10 l11 l12 = some p) : q_X (q_call 1) (fun y o => y = p.1 ∧ o = some (.int p.2)) jq_Mo_find 35 [(0, va_rf (some l0)), (2, .int l2), (3, .int l3), (4, .int l4), (5, .int l5), (6, .int l6), (7, .int l7), (8, .int l8), (9, .int l9), (10, .int l10), (11, .int l11), (12, .int l12)] [] x := by
  unfold jf_Mo_find_B35 at hh
  refine r_iload 37 11 jd_Mo_find_35 rfl rfl ?_
  refine r_aload_n 38 0 jd_Mo_find_37 rfl rfl ?_
  obtain ⟨v3, e4, hh⟩ := q_bind hh
  refine r_getI 41 116 jd_Mo_find_38 rfl e4 rfl ?_
  rcases q_ite hh with ⟨c5, hh⟩ | ⟨c5, hh⟩
  · refine r_ic_t 139 jd_Mo_find_41 rfl c5 ?_
    refine q_sub [0, 1, 2, 3, 4, 5, 6, 7, 8, 9, 10, 11] rfl ?_
    exact hkk _ _ _ _ _ _ _ _ _ _ _ _ _ hh
  · refine r_ic_f 44 139 jd_Mo_find_41 rfl c5 rfl ?_
    refine r_aload_n 45 0 jd_Mo_find_44 rfl rfl ?_
    refine r_iload 47 4 jd_Mo_find_45 rfl rfl ?_
    refine r_iload 49 11 jd_Mo_find_47 rfl rfl ?_
    obtain ⟨b8, e9, hh⟩ := q_bind hh
    obtain ⟨p6, e7, hh⟩ := q_bind hh
    refine r_cV (rest := []) 52 131 11 [.int l5, .int l12] [.int p6.2] jd_Mo_find_49 rfl e9 rfl rfl rfl rfl (q_s8 (Nat.le_of_ble_eq_true rfl)) (q_call_le (Nat.le_of_ble_eq_true rfl) (jm_Mo_isIn e7)) rfl rfl ?_
    rcases q_ite hh with ⟨c10, hh⟩ | ⟨c10, hh⟩
    · refine r_if_t 133 jd_Mo_find_52 rfl c10 ?_
      refine r_iinc 136 11 [(12, .int (l12 + 1)), (0, va_rf (some l0)), (2, .int l2), (3, .int l3), (4, .int l4), (5, .int l5), (6, .int l6), (7, .int l7), (8, .int l8), (9, .int l9), (10, .int l10), (11, .int l11)] 1 jd_Mo_find_133 rfl (by decide) (by decide) rfl rfl ?_
      refine r_goto 35 jd_Mo_find_136 rfl ?_
      refine q_sub [1, 2, 3, 4, 5, 6, 7, 8, 9, 10, 11, 0] rfl ?_
      exact hrc _ _ _ _ _ _ _ _ _ _ _ _ _ hh
    · refine r_if_f 55 133 jd_Mo_find_52 rfl c10 rfl ?_
      refine r_aload_n 56 0 jd_Mo_find_55 rfl rfl ?_
      refine r_aload_n 57 0 jd_Mo_find_56 rfl rfl ?_
      obtain ⟨v11, e12, hh⟩ := q_bind hh
      refine r_getR 60 83 jd_Mo_find_57 rfl e12 rfl ?_
      refine r_iload 62 11 jd_Mo_find_60 rfl rfl ?_
      obtain ⟨v13, e14, hh⟩ := q_bind hh
      refine r_ldI 63 10 jd_Mo_find_62 rfl e14 rfl ?_
      refine r_iload_n 64 1 jd_Mo_find_63 rfl rfl ?_
      obtain ⟨b17, e18, hh⟩ := q_bind hh
      obtain ⟨p15, e16, hh⟩ := q_bind hh
      refine r_cV (rest := []) 67 128 11 [.int v13, .int l2] [.int p15.2] jd_Mo_find_64 rfl e18 rfl rfl rfl rfl (q_s8 (Nat.le_of_ble_eq_true rfl)) (q_call_le (Nat.le_of_ble_eq_true rfl) (jm_Mo_is e16)) rfl rfl ?_
      rcases q_ite hh with ⟨c19, hh⟩ | ⟨c19, hh⟩
      · refine r_if_t 133 jd_Mo_find_67 rfl c19 ?_
        refine r_iinc 136 11 [(12, .int (l12 + 1)), (0, va_rf (some l0)), (2, .int l2), (3, .int l3), (4, .int l4), (5, .int l5), (6, .int l6), (7, .int l7), (8, .int l8), (9, .int l9), (10, .int l10), (11, .int l11)] 1 jd_Mo_find_133 rfl (by decide) (by decide) rfl rfl ?_
        refine r_goto 35 jd_Mo_find_136 rfl ?_
        refine q_sub [1, 2, 3, 4, 5, 6, 7, 8, 9, 10, 11, 0] rfl ?_
        exact hrc _ _ _ _ _ _ _ _ _ _ _ _ _ hh
      · refine r_if_f 70 133 jd_Mo_find_67 rfl c19 rfl ?_
        refine r_iload_n 71 2 jd_Mo_find_70 rfl rfl ?_
        rcases q_ite hh with ⟨c20, hh⟩ | ⟨c20, hh⟩
        · refine r_if_t 88 jd_Mo_find_71 rfl c20 ?_
          refine r_iinc 91 6 [(7, .int (l7 + 1)), (0, va_rf (some l0)), (2, .int l2), (3, .int l3), (4, .int l4), (5, .int l5), (6, .int l6), (8, .int l8), (9, .int l9), (10, .int l10), (11, .int l11), (12, .int l12)] 1 jd_Mo_find_88 rfl (by decide) (by decide) rfl rfl ?_
          refine r_iload 93 11 jd_Mo_find_91 rfl rfl ?_
          refine r_istore 95 [(8, .int l12), (7, .int (l7 + 1)), (0, va_rf (some l0)), (2, .int l2), (3, .int l3), (4, .int l4), (5, .int l5), (6, .int l6), (9, .int l9), (10, .int l10), (11, .int l11), (12, .int l12)] jd_Mo_find_93 (by decide) rfl rfl ?_
          refine r_iload 97 10 jd_Mo_find_95 rfl rfl ?_
          rcases q_ite hh with ⟨c21, hh⟩ | ⟨c21, hh⟩
          · refine r_if_f 100 107 jd_Mo_find_97 rfl (fun z => z c21) rfl ?_
            refine r_iload 102 11 jd_Mo_find_100 rfl rfl ?_
            refine r_iload 104 5 jd_Mo_find_102 rfl rfl ?_
            rcases q_ite hh with ⟨c27, hh⟩ | ⟨c27, hh⟩
            · refine r_ic_f 107 111 jd_Mo_find_104 rfl (fun z => z c27) rfl ?_
              refine r_iconst 108 1 jd_Mo_find_107 (by decide) rfl ?_
              refine r_goto 112 jd_Mo_find_108 rfl ?_
              refine r_istore 114 [(11, .int 1), (8, .int l12), (7, .int (l7 + 1)), (0, va_rf (some l0)), (2, .int l2), (3, .int l3), (4, .int l4), (5, .int l5), (6, .int l6), (9, .int l9), (10, .int l10), (12, .int l12)] jd_Mo_find_112 (by decide) rfl rfl ?_
              refine r_aload_n 115 3 jd_Mo_find_114 rfl rfl ?_
              obtain ⟨v33, e34, hh⟩ := q_bind hh
              refine r_getR 118 84 jd_Mo_find_115 rfl e34 rfl ?_
              refine r_iload 120 11 jd_Mo_find_118 rfl rfl ?_
              obtain ⟨v35, e36, hh⟩ := q_bind hh
              refine r_ldI 121 11 jd_Mo_find_120 rfl e36 rfl ?_
              refine r_iconst 122 1 jd_Mo_find_121 (by decide) rfl ?_
              refine r_iand 123 jd_Mo_find_122 rfl ?_
              rcases q_ite hh with ⟨c37, hh⟩ | ⟨c37, hh⟩
              · refine r_if_t 133 jd_Mo_find_123 rfl c37 ?_
                refine r_iinc 136 11 [(12, .int (l12 + 1)), (11, .int 1), (8, .int l12), (7, .int (l7 + 1)), (0, va_rf (some l0)), (2, .int l2), (3, .int l3), (4, .int l4), (5, .int l5), (6, .int l6), (9, .int l9), (10, .int l10)] 1 jd_Mo_find_133 rfl (by decide) (by decide) rfl rfl ?_
                refine r_goto 35 jd_Mo_find_136 rfl ?_
                refine q_sub [4, 5, 6, 7, 8, 9, 3, 2, 10, 11, 1, 0] rfl ?_
                exact hrc _ _ _ _ _ _ _ _ _ _ _ _ _ hh
              · refine r_if_f 126 133 jd_Mo_find_123 rfl c37 rfl ?_
                refine r_iinc 129 9 [(9, .int (l9 + 1)), (11, .int 1), (8, .int l12), (7, .int (l7 + 1)), (0, va_rf (some l0)), (2, .int l2), (3, .int l3), (4, .int l4), (5, .int l5), (6, .int l6), (10, .int l10), (12, .int l12)] 1 jd_Mo_find_126 rfl (by decide) (by decide) rfl rfl ?_
                refine r_iload 131 11 jd_Mo_find_129 rfl rfl ?_
                refine r_istore 133 [(10, .int l12), (9, .int (l9 + 1)), (11, .int 1), (8, .int l12), (7, .int (l7 + 1)), (0, va_rf (some l0)), (2, .int l2), (3, .int l3), (4, .int l4), (5, .int l5), (6, .int l6), (12, .int l12)] jd_Mo_find_131 (by decide) rfl rfl ?_
                refine r_iinc 136 11 [(12, .int (l12 + 1)), (10, .int l12), (9, .int (l9 + 1)), (11, .int 1), (8, .int l12), (7, .int (l7 + 1)), (0, va_rf (some l0)), (2, .int l2), (3, .int l3), (4, .int l4), (5, .int l5), (6, .int l6)] 1 jd_Mo_find_133 rfl (by decide) (by decide) rfl rfl ?_
                refine r_goto 35 jd_Mo_find_136 rfl ?_
                refine q_sub [6, 7, 8, 9, 10, 11, 5, 4, 2, 1, 3, 0] rfl ?_
                exact hrc _ _ _ _ _ _ _ _ _ _ _ _ _ hh
            · refine r_ic_t 111 jd_Mo_find_104 rfl c27 ?_
              refine r_iconst 112 0 jd_Mo_find_111 (by decide) rfl ?_
              refine r_istore 114 [(11, .int 0), (8, .int l12), (7, .int (l7 + 1)), (0, va_rf (some l0)), (2, .int l2), (3, .int l3), (4, .int l4), (5, .int l5), (6, .int l6), (9, .int l9), (10, .int l10), (12, .int l12)] jd_Mo_find_112 (by decide) rfl rfl ?_
              refine r_aload_n 115 3 jd_Mo_find_114 rfl rfl ?_
              obtain ⟨v28, e29, hh⟩ := q_bind hh
              refine r_getR 118 84 jd_Mo_find_115 rfl e29 rfl ?_
              refine r_iload 120 11 jd_Mo_find_118 rfl rfl ?_
              obtain ⟨v30, e31, hh⟩ := q_bind hh
              refine r_ldI 121 11 jd_Mo_find_120 rfl e31 rfl ?_
              refine r_iconst 122 1 jd_Mo_find_121 (by decide) rfl ?_
              refine r_iand 123 jd_Mo_find_122 rfl ?_
              rcases q_ite hh with ⟨c32, hh⟩ | ⟨c32, hh⟩
              · refine r_if_t 133 jd_Mo_find_123 rfl c32 ?_
                refine r_iinc 136 11 [(12, .int (l12 + 1)), (11, .int 0), (8, .int l12), (7, .int (l7 + 1)), (0, va_rf (some l0)), (2, .int l2), (3, .int l3), (4, .int l4), (5, .int l5), (6, .int l6), (9, .int l9), (10, .int l10)] 1 jd_Mo_find_133 rfl (by decide) (by decide) rfl rfl ?_
                refine r_goto 35 jd_Mo_find_136 rfl ?_
                refine q_sub [4, 5, 6, 7, 8, 9, 3, 2, 10, 11, 1, 0] rfl ?_
                exact hrc _ _ _ _ _ _ _ _ _ _ _ _ _ hh
              · refine r_if_f 126 133 jd_Mo_find_123 rfl c32 rfl ?_
                refine r_iinc 129 9 [(9, .int (l9 + 1)), (11, .int 0), (8, .int l12), (7, .int (l7 + 1)), (0, va_rf (some l0)), (2, .int l2), (3, .int l3), (4, .int l4), (5, .int l5), (6, .int l6), (10, .int l10), (12, .int l12)] 1 jd_Mo_find_126 rfl (by decide) (by decide) rfl rfl ?_
                refine r_iload 131 11 jd_Mo_find_129 rfl rfl ?_
                refine r_istore 133 [(10, .int l12), (9, .int (l9 + 1)), (11, .int 0), (8, .int l12), (7, .int (l7 + 1)), (0, va_rf (some l0)), (2, .int l2), (3, .int l3), (4, .int l4), (5, .int l5), (6, .int l6), (12, .int l12)] jd_Mo_find_131 (by decide) rfl rfl ?_
                refine r_iinc 136 11 [(12, .int (l12 + 1)), (10, .int l12), (9, .int (l9 + 1)), (11, .int 0), (8, .int l12), (7, .int (l7 + 1)), (0, va_rf (some l0)), (2, .int l2), (3, .int l3), (4, .int l4), (5, .int l5), (6, .int l6)] 1 jd_Mo_find_133 rfl (by decide) (by decide) rfl rfl ?_
                refine r_goto 35 jd_Mo_find_136 rfl ?_
                refine q_sub [6, 7, 8, 9, 10, 11, 5, 4, 2, 1, 3, 0] rfl ?_
                exact hrc _ _ _ _ _ _ _ _ _ _ _ _ _ hh
          · refine r_if_t 107 jd_Mo_find_97 rfl c21 ?_
            refine r_iconst 108 1 jd_Mo_find_107 (by decide) rfl ?_
            refine r_goto 112 jd_Mo_find_108 rfl ?_
            refine r_istore 114 [(11, .int 1), (8, .int l12), (7, .int (l7 + 1)), (0, va_rf (some l0)), (2, .int l2), (3, .int l3), (4, .int l4), (5, .int l5), (6, .int l6), (9, .int l9), (10, .int l10), (12, .int l12)] jd_Mo_find_112 (by decide) rfl rfl ?_
            refine r_aload_n 115 3 jd_Mo_find_114 rfl rfl ?_
            obtain ⟨v22, e23, hh⟩ := q_bind hh
            refine r_getR 118 84 jd_Mo_find_115 rfl e23 rfl ?_
            refine r_iload 120 11 jd_Mo_find_118 rfl rfl ?_
            obtain ⟨v24, e25, hh⟩ := q_bind hh
            refine r_ldI 121 11 jd_Mo_find_120 rfl e25 rfl ?_
            refine r_iconst 122 1 jd_Mo_find_121 (by decide) rfl ?_
            refine r_iand 123 jd_Mo_find_122 rfl ?_
            rcases q_ite hh with ⟨c26, hh⟩ | ⟨c26, hh⟩
            · refine r_if_t 133 jd_Mo_find_123 rfl c26 ?_
              refine r_iinc 136 11 [(12, .int (l12 + 1)), (11, .int 1), (8, .int l12), (7, .int (l7 + 1)), (0, va_rf (some l0)), (2, .int l2), (3, .int l3), (4, .int l4), (5, .int l5), (6, .int l6), (9, .int l9), (10, .int l10)] 1 jd_Mo_find_133 rfl (by decide) (by decide) rfl rfl ?_
              refine r_goto 35 jd_Mo_find_136 rfl ?_
              refine q_sub [4, 5, 6, 7, 8, 9, 3, 2, 10, 11, 1, 0] rfl ?_
              exact hrc _ _ _ _ _ _ _ _ _ _ _ _ _ hh
            · refine r_if_f 126 133 jd_Mo_find_123 rfl c26 rfl ?_
              refine r_iinc 129 9 [(9, .int (l9 + 1)), (11, .int 1), (8, .int l12), (7, .int (l7 + 1)), (0, va_rf (some l0)), (2, .int l2), (3, .int l3), (4, .int l4), (5, .int l5), (6, .int l6), (10, .int l10), (12, .int l12)] 1 jd_Mo_find_126 rfl (by decide) (by decide) rfl rfl ?_
              refine r_iload 131 11 jd_Mo_find_129 rfl rfl ?_
              refine r_istore 133 [(10, .int l12), (9, .int (l9 + 1)), (11, .int 1), (8, .int l12), (7, .int (l7 + 1)), (0, va_rf (some l0)), (2, .int l2), (3, .int l3), (4, .int l4), (5, .int l5), (6, .int l6), (12, .int l12)] jd_Mo_find_131 (by decide) rfl rfl ?_
              refine r_iinc 136 11 [(12, .int (l12 + 1)), (10, .int l12), (9, .int (l9 + 1)), (11, .int 1), (8, .int l12), (7, .int (l7 + 1)), (0, va_rf (some l0)), (2, .int l2), (3, .int l3), (4, .int l4), (5, .int l5), (6, .int l6)] 1 jd_Mo_find_133 rfl (by decide) (by decide) rfl rfl ?_
              refine r_goto 35 jd_Mo_find_136 rfl ?_
              refine q_sub [6, 7, 8, 9, 10, 11, 5, 4, 2, 1, 3, 0] rfl ?_
              exact hrc _ _ _ _ _ _ _ _ _ _ _ _ _ hh
        · refine r_if_f 74 88 jd_Mo_find_71 rfl c20 rfl ?_
          refine r_aload_n 75 0 jd_Mo_find_74 rfl rfl ?_
          obtain ⟨v38, e39, hh⟩ := q_bind hh
          refine r_getR 78 85 jd_Mo_find_75 rfl e39 rfl ?_
          refine r_iload 80 11 jd_Mo_find_78 rfl rfl ?_
          obtain ⟨v40, e41, hh⟩ := q_bind hh
          refine r_ldI 81 12 jd_Mo_find_80 rfl e41 rfl ?_
          refine r_iload_n 82 2 jd_Mo_find_81 rfl rfl ?_
          rcases q_ite hh with ⟨c42, hh⟩ | ⟨c42, hh⟩
          · refine r_ic_t 88 jd_Mo_find_82 rfl c42 ?_
            refine r_iinc 91 6 [(7, .int (l7 + 1)), (0, va_rf (some l0)), (2, .int l2), (3, .int l3), (4, .int l4), (5, .int l5), (6, .int l6), (8, .int l8), (9, .int l9), (10, .int l10), (11, .int l11), (12, .int l12)] 1 jd_Mo_find_88 rfl (by decide) (by decide) rfl rfl ?_
            refine r_iload 93 11 jd_Mo_find_91 rfl rfl ?_
            refine r_istore 95 [(8, .int l12), (7, .int (l7 + 1)), (0, va_rf (some l0)), (2, .int l2), (3, .int l3), (4, .int l4), (5, .int l5), (6, .int l6), (9, .int l9), (10, .int l10), (11, .int l11), (12, .int l12)] jd_Mo_find_93 (by decide) rfl rfl ?_
            refine r_iload 97 10 jd_Mo_find_95 rfl rfl ?_
            rcases q_ite hh with ⟨c43, hh⟩ | ⟨c43, hh⟩
            · refine r_if_f 100 107 jd_Mo_find_97 rfl (fun z => z c43) rfl ?_
              refine r_iload 102 11 jd_Mo_find_100 rfl rfl ?_
              refine r_iload 104 5 jd_Mo_find_102 rfl rfl ?_
              rcases q_ite hh with ⟨c49, hh⟩ | ⟨c49, hh⟩
              · refine r_ic_f 107 111 jd_Mo_find_104 rfl (fun z => z c49) rfl ?_
                refine r_iconst 108 1 jd_Mo_find_107 (by decide) rfl ?_
                refine r_goto 112 jd_Mo_find_108 rfl ?_
                refine r_istore 114 [(11, .int 1), (8, .int l12), (7, .int (l7 + 1)), (0, va_rf (some l0)), (2, .int l2), (3, .int l3), (4, .int l4), (5, .int l5), (6, .int l6), (9, .int l9), (10, .int l10), (12, .int l12)] jd_Mo_find_112 (by decide) rfl rfl ?_
                refine r_aload_n 115 3 jd_Mo_find_114 rfl rfl ?_
                obtain ⟨v55, e56, hh⟩ := q_bind hh
                refine r_getR 118 84 jd_Mo_find_115 rfl e56 rfl ?_
                refine r_iload 120 11 jd_Mo_find_118 rfl rfl ?_
                obtain ⟨v57, e58, hh⟩ := q_bind hh
                refine r_ldI 121 11 jd_Mo_find_120 rfl e58 rfl ?_
                refine r_iconst 122 1 jd_Mo_find_121 (by decide) rfl ?_
                refine r_iand 123 jd_Mo_find_122 rfl ?_
                rcases q_ite hh with ⟨c59, hh⟩ | ⟨c59, hh⟩
                · refine r_if_t 133 jd_Mo_find_123 rfl c59 ?_
                  refine r_iinc 136 11 [(12, .int (l12 + 1)), (11, .int 1), (8, .int l12), (7, .int (l7 + 1)), (0, va_rf (some l0)), (2, .int l2), (3, .int l3), (4, .int l4), (5, .int l5), (6, .int l6), (9, .int l9), (10, .int l10)] 1 jd_Mo_find_133 rfl (by decide) (by decide) rfl rfl ?_
                  refine r_goto 35 jd_Mo_find_136 rfl ?_
                  refine q_sub [4, 5, 6, 7, 8, 9, 3, 2, 10, 11, 1, 0] rfl ?_
                  exact hrc _ _ _ _ _ _ _ _ _ _ _ _ _ hh
                · refine r_if_f 126 133 jd_Mo_find_123 rfl c59 rfl ?_
                  refine r_iinc 129 9 [(9, .int (l9 + 1)), (11, .int 1), (8, .int l12), (7, .int (l7 + 1)), (0, va_rf (some l0)), (2, .int l2), (3, .int l3), (4, .int l4), (5, .int l5), (6, .int l6), (10, .int l10), (12, .int l12)] 1 jd_Mo_find_126 rfl (by decide) (by decide) rfl rfl ?_
                  refine r_iload 131 11 jd_Mo_find_129 rfl rfl ?_
                  refine r_istore 133 [(10, .int l12), (9, .int (l9 + 1)), (11, .int 1), (8, .int l12), (7, .int (l7 + 1)), (0, va_rf (some l0)), (2, .int l2), (3, .int l3), (4, .int l4), (5, .int l5), (6, .int l6), (12, .int l12)] jd_Mo_find_131 (by decide) rfl rfl ?_
                  refine r_iinc 136 11 [(12, .int (l12 + 1)), (10, .int l12), (9, .int (l9 + 1)), (11, .int 1), (8, .int l12), (7, .int (l7 + 1)), (0, va_rf (some l0)), (2, .int l2), (3, .int l3), (4, .int l4), (5, .int l5), (6, .int l6)] 1 jd_Mo_find_133 rfl (by decide) (by decide) rfl rfl ?_
                  refine r_goto 35 jd_Mo_find_136 rfl ?_
                  refine q_sub [6, 7, 8, 9, 10, 11, 5, 4, 2, 1, 3, 0] rfl ?_
                  exact hrc _ _ _ _ _ _ _ _ _ _ _ _ _ hh
              · refine r_ic_t 111 jd_Mo_find_104 rfl c49 ?_
                refine r_iconst 112 0 jd_Mo_find_111 (by decide) rfl ?_
                refine r_istore 114 [(11, .int 0), (8, .int l12), (7, .int (l7 + 1)), (0, va_rf (some l0)), (2, .int l2), (3, .int l3), (4, .int l4), (5, .int l5), (6, .int l6), (9, .int l9), (10, .int l10), (12, .int l12)] jd_Mo_find_112 (by decide) rfl rfl ?_
                refine r_aload_n 115 3 jd_Mo_find_114 rfl rfl ?_
                obtain ⟨v50, e51, hh⟩ := q_bind hh
                refine r_getR 118 84 jd_Mo_find_115 rfl e51 rfl ?_
                refine r_iload 120 11 jd_Mo_find_118 rfl rfl ?_
                obtain ⟨v52, e53, hh⟩ := q_bind hh
                refine r_ldI 121 11 jd_Mo_find_120 rfl e53 rfl ?_
                refine r_iconst 122 1 jd_Mo_find_121 (by decide) rfl ?_
                refine r_iand 123 jd_Mo_find_122 rfl ?_
                rcases q_ite hh with ⟨c54, hh⟩ | ⟨c54, hh⟩
                · refine r_if_t 133 jd_Mo_find_123 rfl c54 ?_
                  refine r_iinc 136 11 [(12, .int (l12 + 1)), (11, .int 0), (8, .int l12), (7, .int (l7 + 1)), (0, va_rf (some l0)), (2, .int l2), (3, .int l3), (4, .int l4), (5, .int l5), (6, .int l6), (9, .int l9), (10, .int l10)] 1 jd_Mo_find_133 rfl (by decide) (by decide) rfl rfl ?_
                  refine r_goto 35 jd_Mo_find_136 rfl ?_
                  refine q_sub [4, 5, 6, 7, 8, 9, 3, 2, 10, 11, 1, 0] rfl ?_
                  exact hrc _ _ _ _ _ _ _ _ _ _ _ _ _ hh
                · refine r_if_f 126 133 jd_Mo_find_123 rfl c54 rfl ?_
                  refine r_iinc 129 9 [(9, .int (l9 + 1)), (11, .int 0), (8, .int l12), (7, .int (l7 + 1)), (0, va_rf (some l0)), (2, .int l2), (3, .int l3), (4, .int l4), (5, .int l5), (6, .int l6), (10, .int l10), (12, .int l12)] 1 jd_Mo_find_126 rfl (by decide) (by decide) rfl rfl ?_
                  refine r_iload 131 11 jd_Mo_find_129 rfl rfl ?_
                  refine r_istore 133 [(10, .int l12), (9, .int (l9 + 1)), (11, .int 0), (8, .int l12), (7, .int (l7 + 1)), (0, va_rf (some l0)), (2, .int l2), (3, .int l3), (4, .int l4), (5, .int l5), (6, .int l6), (12, .int l12)] jd_Mo_find_131 (by decide) rfl rfl ?_
                  refine r_iinc 136 11 [(12, .int (l12 + 1)), (10, .int l12), (9, .int (l9 + 1)), (11, .int 0), (8, .int l12), (7, .int (l7 + 1)), (0, va_rf (some l0)), (2, .int l2), (3, .int l3), (4, .int l4), (5, .int l5), (6, .int l6)] 1 jd_Mo_find_133 rfl (by decide) (by decide) rfl rfl ?_
                  refine r_goto 35 jd_Mo_find_136 rfl ?_
                  refine q_sub [6, 7, 8, 9, 10, 11, 5, 4, 2, 1, 3, 0] rfl ?_
                  exact hrc _ _ _ _ _ _ _ _ _ _ _ _ _ hh
            · refine r_if_t 107 jd_Mo_find_97 rfl c43 ?_
              refine r_iconst 108 1 jd_Mo_find_107 (by decide) rfl ?_
              refine r_goto 112 jd_Mo_find_108 rfl ?_
              refine r_istore 114 [(11, .int 1), (8, .int l12), (7, .int (l7 + 1)), (0, va_rf (some l0)), (2, .int l2), (3, .int l3), (4, .int l4), (5, .int l5), (6, .int l6), (9, .int l9), (10, .int l10), (12, .int l12)] jd_Mo_find_112 (by decide) rfl rfl ?_
              refine r_aload_n 115 3 jd_Mo_find_114 rfl rfl ?_
              obtain ⟨v44, e45, hh⟩ := q_bind hh
              refine r_getR 118 84 jd_Mo_find_115 rfl e45 rfl ?_
              refine r_iload 120 11 jd_Mo_find_118 rfl rfl ?_
              obtain ⟨v46, e47, hh⟩ := q_bind hh
              refine r_ldI 121 11 jd_Mo_find_120 rfl e47 rfl ?_
              refine r_iconst 122 1 jd_Mo_find_121 (by decide) rfl ?_
              refine r_iand 123 jd_Mo_find_122 rfl ?_
              rcases q_ite hh with ⟨c48, hh⟩ | ⟨c48, hh⟩
              · refine r_if_t 133 jd_Mo_find_123 rfl c48 ?_
                refine r_iinc 136 11 [(12, .int (l12 + 1)), (11, .int 1), (8, .int l12), (7, .int (l7 + 1)), (0, va_rf (some l0)), (2, .int l2), (3, .int l3), (4, .int l4), (5, .int l5), (6, .int l6), (9, .int l9), (10, .int l10)] 1 jd_Mo_find_133 rfl (by decide) (by decide) rfl rfl ?_
                refine r_goto 35 jd_Mo_find_136 rfl ?_
                refine q_sub [4, 5, 6, 7, 8, 9, 3, 2, 10, 11, 1, 0] rfl ?_
                exact hrc _ _ _ _ _ _ _ _ _ _ _ _ _ hh
              · refine r_if_f 126 133 jd_Mo_find_123 rfl c48 rfl ?_
                refine r_iinc 129 9 [(9, .int (l9 + 1)), (11, .int 1), (8, .int l12), (7, .int (l7 + 1)), (0, va_rf (some l0)), (2, .int l2), (3, .int l3), (4, .int l4), (5, .int l5), (6, .int l6), (10, .int l10), (12, .int l12)] 1 jd_Mo_find_126 rfl (by decide) (by decide) rfl rfl ?_
                refine r_iload 131 11 jd_Mo_find_129 rfl rfl ?_
                refine r_istore 133 [(10, .int l12), (9, .int (l9 + 1)), (11, .int 1), (8, .int l12), (7, .int (l7 + 1)), (0, va_rf (some l0)), (2, .int l2), (3, .int l3), (4, .int l4), (5, .int l5), (6, .int l6), (12, .int l12)] jd_Mo_find_131 (by decide) rfl rfl ?_
                refine r_iinc 136 11 [(12, .int (l12 + 1)), (10, .int l12), (9, .int (l9 + 1)), (11, .int 1), (8, .int l12), (7, .int (l7 + 1)), (0, va_rf (some l0)), (2, .int l2), (3, .int l3), (4, .int l4), (5, .int l5), (6, .int l6)] 1 jd_Mo_find_133 rfl (by decide) (by decide) rfl rfl ?_
                refine r_goto 35 jd_Mo_find_136 rfl ?_
                refine q_sub [6, 7, 8, 9, 10, 11, 5, 4, 2, 1, 3, 0] rfl ?_
                exact hrc _ _ _ _ _ _ _ _ _ _ _ _ _ hh
          · refine r_ic_f 85 88 jd_Mo_find_82 rfl c42 rfl ?_
            refine r_goto 133 jd_Mo_find_85 rfl ?_
            refine r_iinc 136 11 [(12, .int (l12 + 1)), (0, va_rf (some l0)), (2, .int l2), (3, .int l3), (4, .int l4), (5, .int l5), (6, .int l6), (7, .int l7), (8, .int l8), (9, .int l9), (10, .int l10), (11, .int l11)] 1 jd_Mo_find_133 rfl (by decide) (by decide) rfl rfl ?_
            refine r_goto 35 jd_Mo_find_136 rfl ?_
            refine q_sub [1, 2, 3, 4, 5, 6, 7, 8, 9, 10, 11, 0] rfl ?_
            exact hrc _ _ _ _ _ _ _ _ _ _ _ _ _ hh
theorem jm_Mo_find_L35 {p : q_S × Int32} {kk : q_S → Nat → Int32 → Int32 → Int32 → Int32 → Int32 → Int32 → Int32 → Int32 → Int32 → Int32 → Int32 → Option (q_S × Int32)} (hkk : ∀ (x : q_S) (l0 : Nat) (l2 : Int32) (l3 : Int32) (l4 : Int32) (l5 : Int32) (l6 : Int32) (l7 : Int32) (l8 : Int32) (l9 : Int32) (l10 : Int32) (l11 : Int32) (l12 : Int32), kk x l0 l2 l3 l4 l5 l6 l7 l8 l9 l10 l11 l12 = some p → q_X (q_call 1) (fun y o => y = p.1 ∧ o = some (.int p.2)) jq_Mo_find 139 [(0, va_rf (some l0)), (2, .int l2), (3, .int l3), (4, .int l4), (5, .int l5), (6, .int l6), (7, .int l7), (8, .int l8), (9, .int l9), (10, .int l10), (11, .int l11), (12, .int l12)] [] x) : ∀ (n : Nat) (x : q_S) (l0 : Nat) (l2 : Int32) (l3 : Int32) (l4 : Int32) (l5 : Int32) (l6 : Int32) (l7 : Int32) (l8 : Int32) (l9 : Int32) (l10 : Int32) (l11 : Int32) (l12 : Int32), jf_Mo_find_L35 kk n x l0 l2 l3 l4 l5 l6 l7 l8 l9 l10 l11 l12 = some p → q_X (q_call 1) (fun y o => y = p.1 ∧ o = some (.int p.2)) jq_Mo_find 35 [(0, va_rf (some l0)), (2, .int l2), (3, .int l3), (4, .int l4), (5, .int l5), (6, .int l6), (7, .int l7), (8, .int l8), (9, .int l9), (10, .int l10), (11, .int l11), (12, .int l12)] [] x
  | 0, _, _, _, _, _, _, _, _, _, _, _, _, _, hh => nomatch hh
  | n + 1, x, l0, l2, l3, l4, l5, l6, l7, l8, l9, l10, l11, l12, hh => jm_Mo_find_B35 hkk (jm_Mo_find_L35 hkk n) x l0 l2 l3 l4 l5 l6 l7 l8 l9 l10 l11 l12 hh
def jf_Mo_find_B6 (rc : q_S → Nat → Int32 → Int32 → Int32 → Int32 → Int32 → Option (q_S × Int32)) (x : q_S) (l0 : Nat) (l2 : Int32) (l3 : Int32) (l4 : Int32) (l5 : Int32) (l6 : Int32) : Option (q_S × Int32) :=
  if 4 ≤ l6 then
    some (x, (-3))
  else
    if l5 < 0 then
      some (x, (-3))
    else
      jf_Mo_find_L35 (fun y60 l0_60 l2_60 l3_60 l4_60 l5_60 l6_60 l7_60 l8_60 l9_60 l10_60 l11_60 l12_60 =>
        (q_pI y60 (some l0_60) 11 37 l5_60).bind fun x61 =>
        if l7_60 = 1 then
          some (x61, l8_60)
        else
          if l7_60 ≤ 1 then
            (q_gR x61 (some l0_60) 11 18).bind fun v65 =>
            (q_lI x61 23 v65 l5_60).bind fun v67 =>
            rc x61 l0_60 l2_60 l3_60 l4_60 v67 (l6_60 + 1)
          else
            if l9_60 = 1 then
              some (x61, l10_60)
            else
              if l9_60 = 0 then
                if l11_60 = 0 then
                  some (x61, (-4))
                else
                  some (x61, l4_60)
              else
                some (x61, (-4))
      ) lpK x l0 l2 l3 l4 l5 l6 0 (-1) 0 (-1) 0 0
def jf_Mo_find_L6 : Nat → q_S → Nat → Int32 → Int32 → Int32 → Int32 → Int32 → Option (q_S × Int32)
  | 0, _, _, _, _, _, _, _ => none
  | n + 1, x, l0, l2, l3, l4, l5, l6 => jf_Mo_find_B6 (jf_Mo_find_L6 n) x l0 l2 l3 l4 l5 l6
theorem jm_Mo_find_B6 {p : q_S × Int32} {rc : q_S → Nat → Int32 → Int32 → Int32 → Int32 → Int32 → Option (q_S × Int32)} (hrc : ∀ (x : q_S) (l0 : Nat) (l2 : Int32) (l3 : Int32) (l4 : Int32) (l5 : Int32) (l6 : Int32), rc x l0 l2 l3 l4 l5 l6 = some p → q_X (q_call 1) (fun y o => y = p.1 ∧ o = some (.int p.2)) jq_Mo_find 6 [(0, va_rf (some l0)), (2, .int l2), (3, .int l3), (4, .int l4), (5, .int l5), (6, .int l6)] [] x) (x : q_S) (l0 : Nat) (l2 : Int32) (l3 : Int32) (l4 : Int32) (l5 : Int32) (l6 : Int32) (hh : jf_Mo_find_B6 rc x l0 l2 l3 l4 l5 l6 = some p) : q_X (q_call 1) (fun y o => y = p.1 ∧ o = some (.int p.2)) jq_Mo_find 6 [(0, va_rf (some l0)), (2, .int l2), (3, .int l3), (4, .int l4), (5, .int l5), (6, .int l6)] [] x := by
  unfold jf_Mo_find_B6 at hh
  refine r_iload 8 5 jd_Mo_find_6 rfl rfl ?_
  refine r_iconst 9 4 jd_Mo_find_8 (by decide) rfl ?_
  rcases q_ite hh with ⟨c1, hh⟩ | ⟨c1, hh⟩
  · refine r_ic_t 204 jd_Mo_find_9 rfl c1 ?_
    refine r_bipush 206 (-3) jd_Mo_find_204 (by decide) rfl ?_
    cases hh
    exact r_iret jd_Mo_find_206 rfl ⟨rfl, rfl⟩
  · refine r_ic_f 12 204 jd_Mo_find_9 rfl c1 rfl ?_
    refine r_iload 14 4 jd_Mo_find_12 rfl rfl ?_
    rcases q_ite hh with ⟨c2, hh⟩ | ⟨c2, hh⟩
    · refine r_if_t 204 jd_Mo_find_14 rfl c2 ?_
      refine r_bipush 206 (-3) jd_Mo_find_204 (by decide) rfl ?_
      cases hh
      exact r_iret jd_Mo_find_206 rfl ⟨rfl, rfl⟩
    · refine r_if_f 17 204 jd_Mo_find_14 rfl c2 rfl ?_
      refine r_iconst 18 0 jd_Mo_find_17 (by decide) rfl ?_
      refine r_istore 20 [(7, .int 0), (0, va_rf (some l0)), (2, .int l2), (3, .int l3), (4, .int l4), (5, .int l5), (6, .int l6)] jd_Mo_find_18 (by decide) rfl rfl ?_
      refine r_iconst 21 (-1) jd_Mo_find_20 (by decide) rfl ?_
      refine r_istore 23 [(8, .int (-1)), (7, .int 0), (0, va_rf (some l0)), (2, .int l2), (3, .int l3), (4, .int l4), (5, .int l5), (6, .int l6)] jd_Mo_find_21 (by decide) rfl rfl ?_
      refine r_iconst 24 0 jd_Mo_find_23 (by decide) rfl ?_
      refine r_istore 26 [(9, .int 0), (8, .int (-1)), (7, .int 0), (0, va_rf (some l0)), (2, .int l2), (3, .int l3), (4, .int l4), (5, .int l5), (6, .int l6)] jd_Mo_find_24 (by decide) rfl rfl ?_
      refine r_iconst 27 (-1) jd_Mo_find_26 (by decide) rfl ?_
      refine r_istore 29 [(10, .int (-1)), (9, .int 0), (8, .int (-1)), (7, .int 0), (0, va_rf (some l0)), (2, .int l2), (3, .int l3), (4, .int l4), (5, .int l5), (6, .int l6)] jd_Mo_find_27 (by decide) rfl rfl ?_
      refine r_iconst 30 0 jd_Mo_find_29 (by decide) rfl ?_
      refine r_istore 32 [(11, .int 0), (10, .int (-1)), (9, .int 0), (8, .int (-1)), (7, .int 0), (0, va_rf (some l0)), (2, .int l2), (3, .int l3), (4, .int l4), (5, .int l5), (6, .int l6)] jd_Mo_find_30 (by decide) rfl rfl ?_
      refine r_iconst 33 0 jd_Mo_find_32 (by decide) rfl ?_
      refine r_istore 35 [(12, .int 0), (11, .int 0), (10, .int (-1)), (9, .int 0), (8, .int (-1)), (7, .int 0), (0, va_rf (some l0)), (2, .int l2), (3, .int l3), (4, .int l4), (5, .int l5), (6, .int l6)] jd_Mo_find_33 (by decide) rfl rfl ?_
      refine q_sub [6, 7, 8, 9, 10, 11, 5, 4, 3, 2, 1, 0] rfl ?_
      refine jm_Mo_find_L35 (fun y60 l0_60 l2_60 l3_60 l4_60 l5_60 l6_60 l7_60 l8_60 l9_60 l10_60 l11_60 l12_60 hh => ?_) lpK _ _ _ _ _ _ _ _ _ _ _ _ _ hh
      refine r_aload_n 140 0 jd_Mo_find_139 rfl rfl ?_
      refine r_iload 142 4 jd_Mo_find_140 rfl rfl ?_
      obtain ⟨x61, e62, hh⟩ := q_bind hh
      refine r_putI 145 118 jd_Mo_find_142 rfl rfl (Or.inl rfl) e62 rfl ?_
      refine r_iload 147 6 jd_Mo_find_145 rfl rfl ?_
      refine r_iconst 148 1 jd_Mo_find_147 (by decide) rfl ?_
      rcases q_ite hh with ⟨c63, hh⟩ | ⟨c63, hh⟩
      · refine r_ic_f 151 154 jd_Mo_find_148 rfl (fun z => z c63) rfl ?_
        refine r_iload 153 7 jd_Mo_find_151 rfl rfl ?_
        cases hh
        exact r_iret jd_Mo_find_153 rfl ⟨rfl, rfl⟩
      · refine r_ic_t 154 jd_Mo_find_148 rfl c63 ?_
        refine r_iload 156 6 jd_Mo_find_154 rfl rfl ?_
        refine r_iconst 157 1 jd_Mo_find_156 (by decide) rfl ?_
        rcases q_ite hh with ⟨c64, hh⟩ | ⟨c64, hh⟩
        · refine r_ic_t 189 jd_Mo_find_157 rfl c64 ?_
          refine r_aload_n 190 0 jd_Mo_find_189 rfl rfl ?_
          obtain ⟨v65, e66, hh⟩ := q_bind hh
          refine r_getR 193 96 jd_Mo_find_190 rfl e66 rfl ?_
          refine r_iload 195 4 jd_Mo_find_193 rfl rfl ?_
          obtain ⟨v67, e68, hh⟩ := q_bind hh
          refine r_ldI 196 23 jd_Mo_find_195 rfl e68 rfl ?_
          refine r_istore 198 [(5, .int v67), (0, va_rf (some l0_60)), (2, .int l2_60), (3, .int l3_60), (4, .int l4_60), (6, .int l6_60), (7, .int l7_60), (8, .int l8_60), (9, .int l9_60), (10, .int l10_60), (11, .int l11_60), (12, .int l12_60)] jd_Mo_find_196 (by decide) rfl rfl ?_
          refine r_iinc 201 5 [(6, .int (l6_60 + 1)), (5, .int v67), (0, va_rf (some l0_60)), (2, .int l2_60), (3, .int l3_60), (4, .int l4_60), (7, .int l7_60), (8, .int l8_60), (9, .int l9_60), (10, .int l10_60), (11, .int l11_60), (12, .int l12_60)] 1 jd_Mo_find_198 rfl (by decide) (by decide) rfl rfl ?_
          refine r_goto 6 jd_Mo_find_201 rfl ?_
          refine q_sub [2, 3, 4, 5, 1, 0] rfl ?_
          exact hrc _ _ _ _ _ _ _ hh
        · refine r_ic_f 160 189 jd_Mo_find_157 rfl c64 rfl ?_
          refine r_iload 162 8 jd_Mo_find_160 rfl rfl ?_
          refine r_iconst 163 1 jd_Mo_find_162 (by decide) rfl ?_
          rcases q_ite hh with ⟨c69, hh⟩ | ⟨c69, hh⟩
          · refine r_ic_f 166 171 jd_Mo_find_163 rfl (fun z => z c69) rfl ?_
            refine r_iload 168 9 jd_Mo_find_166 rfl rfl ?_
            refine r_goto 188 jd_Mo_find_168 rfl ?_
            cases hh
            exact r_iret jd_Mo_find_188 rfl ⟨rfl, rfl⟩
          · refine r_ic_t 171 jd_Mo_find_163 rfl c69 ?_
            refine r_iload 173 8 jd_Mo_find_171 rfl rfl ?_
            rcases q_ite hh with ⟨c70, hh⟩ | ⟨c70, hh⟩
            · refine r_if_f 176 186 jd_Mo_find_173 rfl (fun z => z c70) rfl ?_
              refine r_iload 178 10 jd_Mo_find_176 rfl rfl ?_
              rcases q_ite hh with ⟨c71, hh⟩ | ⟨c71, hh⟩
              · refine r_if_t 186 jd_Mo_find_178 rfl c71 ?_
                refine r_bipush 188 (-4) jd_Mo_find_186 (by decide) rfl ?_
                cases hh
                exact r_iret jd_Mo_find_188 rfl ⟨rfl, rfl⟩
              · refine r_if_f 181 186 jd_Mo_find_178 rfl c71 rfl ?_
                refine r_iload 183 3 jd_Mo_find_181 rfl rfl ?_
                refine r_goto 188 jd_Mo_find_183 rfl ?_
                cases hh
                exact r_iret jd_Mo_find_188 rfl ⟨rfl, rfl⟩
            · refine r_if_t 186 jd_Mo_find_173 rfl c70 ?_
              refine r_bipush 188 (-4) jd_Mo_find_186 (by decide) rfl ?_
              cases hh
              exact r_iret jd_Mo_find_188 rfl ⟨rfl, rfl⟩
theorem jm_Mo_find_L6 {p : q_S × Int32} : ∀ (n : Nat) (x : q_S) (l0 : Nat) (l2 : Int32) (l3 : Int32) (l4 : Int32) (l5 : Int32) (l6 : Int32), jf_Mo_find_L6 n x l0 l2 l3 l4 l5 l6 = some p → q_X (q_call 1) (fun y o => y = p.1 ∧ o = some (.int p.2)) jq_Mo_find 6 [(0, va_rf (some l0)), (2, .int l2), (3, .int l3), (4, .int l4), (5, .int l5), (6, .int l6)] [] x
  | 0, _, _, _, _, _, _, _, hh => nomatch hh
  | n + 1, x, l0, l2, l3, l4, l5, l6, hh => jm_Mo_find_B6 (jm_Mo_find_L6 n) x l0 l2 l3 l4 l5 l6 hh
def jf_Mo_find (x : q_S) (a0 : Nat) (a1 : Int32) (a2 : Int32) (a3 : Int32) (a4 : Int32) : Option (q_S × Int32) :=
  jf_Mo_find_L6 lpK x a0 a2 a3 a4 a1 0
theorem jm_Mo_find {x : q_S} {a0 : Nat} {a1 : Int32} {a2 : Int32} {a3 : Int32} {a4 : Int32} {p : q_S × Int32} (hh : jf_Mo_find x a0 a1 a2 a3 a4 = some p) : q_call 2 jq_Mo_find [va_rf (some a0), .int a1, .int a2, .int a3, .int a4] x p.1 (some (.int p.2)) := by
  unfold jf_Mo_find at hh
  refine ⟨List.mem_of_getElem? (i := 132) rfl, Nat.le_of_ble_eq_true rfl, List.forall_mem_cons.mpr ⟨rfl, List.forall_mem_cons.mpr ⟨rfl, List.forall_mem_cons.mpr ⟨rfl, List.forall_mem_cons.mpr ⟨rfl, List.forall_mem_cons.mpr ⟨rfl, fun _ h => by cases h⟩⟩⟩⟩⟩, ?_⟩
  show q_X (q_call 1) _ jq_Mo_find 0 [(0, va_rf (some a0)), (1, .int a1), (2, .int a2), (3, .int a3), (4, .int a4)] [] x
  refine r_iload_n 1 1 jd_Mo_find_0 rfl rfl ?_
  refine r_istore 3 [(5, .int a1), (0, va_rf (some a0)), (1, .int a1), (2, .int a2), (3, .int a3), (4, .int a4)] jd_Mo_find_1 (by decide) rfl rfl ?_
  refine r_iconst 4 0 jd_Mo_find_3 (by decide) rfl ?_
  refine r_istore 6 [(6, .int 0), (5, .int a1), (0, va_rf (some a0)), (1, .int a1), (2, .int a2), (3, .int a3), (4, .int a4)] jd_Mo_find_4 (by decide) rfl rfl ?_
  refine q_sub [2, 4, 5, 6, 1, 0] rfl ?_
  exact jm_Mo_find_L6 lpK _ _ _ _ _ _ _ hh
-- BeanContextsModel.make(III)I
def jf_Mo_make_B54 (rc : q_S → Nat → Int32 → Int32 → Int32 → Option (q_S × Int32)) (x : q_S) (l0 : Nat) (l2 : Int32) (l3 : Int32) (l4 : Int32) : Option (q_S × Int32) :=
  if 3 ≤ l4 then
    (q_gI x (some l0) 11 23).bind fun v24 =>
    (q_pI x (some l0) 11 23 (v24 + 1)).bind fun x26 =>
    (q_av x26 (some l0) 11).bind fun b30 =>
    (jf_Mo_note x26 b30 1 l2).bind fun p28 =>
    (q_gI p28.1 (some l0) 11 23).bind fun v32 =>
    some (p28.1, v32 - 1)
  else
    (q_gR x (some l0) 11 28).bind fun v34 =>
    (q_gI x (some l0) 11 23).bind fun v36 =>
    if l3 < 0 then
      (q_sI x 27 v34 (((3 : Int32) * v36) + l4) (-1)).bind fun x39 =>
      rc x39 l0 l2 l3 (l4 + 1)
    else
      (q_gR x (some l0) 11 7).bind fun v41 =>
      (q_lI x 14 v41 l2).bind fun v43 =>
      if v43 ≤ l4 then
        (q_sI x 27 v34 (((3 : Int32) * v36) + l4) (-1)).bind fun x46 =>
        rc x46 l0 l2 l3 (l4 + 1)
      else
        (q_gR x (some l0) 11 36).bind fun v48 =>
        (q_lI x 34 v48 (((3 : Int32) * l3) + l4)).bind fun v50 =>
        (q_sI x 27 v34 (((3 : Int32) * v36) + l4) v50).bind fun x52 =>
        rc x52 l0 l2 l3 (l4 + 1)
def jf_Mo_make_L54 : Nat → q_S → Nat → Int32 → Int32 → Int32 → Option (q_S × Int32)
  | 0, _, _, _, _, _ => none
  | n + 1, x, l0, l2, l3, l4 => jf_Mo_make_B54 (jf_Mo_make_L54 n) x l0 l2 l3 l4
theorem jm_Mo_make_B54 {p : q_S × Int32} {rc : q_S → Nat → Int32 → Int32 → Int32 → Option (q_S × Int32)} (hrc : ∀ (x : q_S) (l0 : Nat) (l2 : Int32) (l3 : Int32) (l4 : Int32), rc x l0 l2 l3 l4 = some p → q_X (q_call 1) (fun y o => y = p.1 ∧ o = some (.int p.2)) jq_Mo_make 54 [(0, va_rf (some l0)), (2, .int l2), (3, .int l3), (4, .int l4)] [] x) (x : q_S) (l0 : Nat) (l2 : Int32) (l3 : Int32) (l4 : Int32) (hh : jf_Mo_make_B54 rc x l0 l2 l3 l4 = some p) : q_X (q_call 1) (fun y o => y = p.1 ∧ o = some (.int p.2)) jq_Mo_make 54 [(0, va_rf (some l0)), (2, .int l2), (3, .int l3), (4, .int l4)] [] x := by
  unfold jf_Mo_make_B54 at hh
  refine r_iload 56 3 jd_Mo_make_54 rfl rfl ?_
  refine r_iconst 57 3 jd_Mo_make_56 (by decide) rfl ?_
  rcases q_ite hh with ⟨c23, hh⟩ | ⟨c23, hh⟩
  · refine r_ic_t 110 jd_Mo_make_57 rfl c23 ?_
    refine r_aload_n 111 0 jd_Mo_make_110 rfl rfl ?_
    refine r_dupR 112 jd_Mo_make_111 rfl ?_
    obtain ⟨v24, e25, hh⟩ := q_bind hh
    refine r_getI 115 114 jd_Mo_make_112 rfl e25 rfl ?_
    refine r_iconst 116 1 jd_Mo_make_115 (by decide) rfl ?_
    refine r_iadd 117 jd_Mo_make_116 rfl ?_
    obtain ⟨x26, e27, hh⟩ := q_bind hh
    refine r_putI 120 114 jd_Mo_make_117 rfl rfl (Or.inl rfl) e27 rfl ?_
    refine r_aload_n 121 0 jd_Mo_make_120 rfl rfl ?_
    refine r_iconst 122 1 jd_Mo_make_121 (by decide) rfl ?_
    refine r_iload_n 123 1 jd_Mo_make_122 rfl rfl ?_
    obtain ⟨b30, e31, hh⟩ := q_bind hh
    obtain ⟨p28, e29, hh⟩ := q_bind hh
    refine r_cV (rest := []) 126 125 11 [.int 1, .int l2] [] jd_Mo_make_123 rfl e31 rfl rfl rfl rfl (q_s8 (Nat.le_of_ble_eq_true rfl)) (q_call_le (Nat.le_of_ble_eq_true rfl) (jm_Mo_note e29)) rfl rfl ?_
    refine r_aload_n 127 0 jd_Mo_make_126 rfl rfl ?_
    obtain ⟨v32, e33, hh⟩ := q_bind hh
    refine r_getI 130 114 jd_Mo_make_127 rfl e33 rfl ?_
    refine r_iconst 131 1 jd_Mo_make_130 (by decide) rfl ?_
    refine r_isub 132 jd_Mo_make_131 rfl ?_
    cases hh
    exact r_iret jd_Mo_make_132 rfl ⟨rfl, rfl⟩
  · refine r_ic_f 60 110 jd_Mo_make_57 rfl c23 rfl ?_
    refine r_aload_n 61 0 jd_Mo_make_60 rfl rfl ?_
    obtain ⟨v34, e35, hh⟩ := q_bind hh
    refine r_getR 64 103 jd_Mo_make_61 rfl e35 rfl ?_
    refine r_iconst 65 3 jd_Mo_make_64 (by decide) rfl ?_
    refine r_aload_n 66 0 jd_Mo_make_65 rfl rfl ?_
    obtain ⟨v36, e37, hh⟩ := q_bind hh
    refine r_getI 69 114 jd_Mo_make_66 rfl e37 rfl ?_
    refine r_imul 70 jd_Mo_make_69 rfl ?_
    refine r_iload 72 3 jd_Mo_make_70 rfl rfl ?_
    refine r_iadd 73 jd_Mo_make_72 rfl ?_
    refine r_iload_n 74 2 jd_Mo_make_73 rfl rfl ?_
    rcases q_ite hh with ⟨c38, hh⟩ | ⟨c38, hh⟩
    · refine r_if_t 102 jd_Mo_make_74 rfl c38 ?_
      refine r_iconst 103 (-1) jd_Mo_make_102 (by decide) rfl ?_
      obtain ⟨x39, e40, hh⟩ := q_bind hh
      refine r_stI 104 27 jd_Mo_make_103 rfl e40 rfl ?_
      refine r_iinc 107 3 [(4, .int (l4 + 1)), (0, va_rf (some l0)), (2, .int l2), (3, .int l3)] 1 jd_Mo_make_104 rfl (by decide) (by decide) rfl rfl ?_
      refine r_goto 54 jd_Mo_make_107 rfl ?_
      refine q_sub [1, 2, 3, 0] rfl ?_
      exact hrc _ _ _ _ _ hh
    · refine r_if_f 77 102 jd_Mo_make_74 rfl c38 rfl ?_
      refine r_iload 79 3 jd_Mo_make_77 rfl rfl ?_
      refine r_aload_n 80 0 jd_Mo_make_79 rfl rfl ?_
      obtain ⟨v41, e42, hh⟩ := q_bind hh
      refine r_getR 83 87 jd_Mo_make_80 rfl e42 rfl ?_
      refine r_iload_n 84 1 jd_Mo_make_83 rfl rfl ?_
      obtain ⟨v43, e44, hh⟩ := q_bind hh
      refine r_ldI 85 14 jd_Mo_make_84 rfl e44 rfl ?_
      rcases q_ite hh with ⟨c45, hh⟩ | ⟨c45, hh⟩
      · refine r_ic_t 102 jd_Mo_make_85 rfl c45 ?_
        refine r_iconst 103 (-1) jd_Mo_make_102 (by decide) rfl ?_
        obtain ⟨x46, e47, hh⟩ := q_bind hh
        refine r_stI 104 27 jd_Mo_make_103 rfl e47 rfl ?_
        refine r_iinc 107 3 [(4, .int (l4 + 1)), (0, va_rf (some l0)), (2, .int l2), (3, .int l3)] 1 jd_Mo_make_104 rfl (by decide) (by decide) rfl rfl ?_
        refine r_goto 54 jd_Mo_make_107 rfl ?_
        refine q_sub [1, 2, 3, 0] rfl ?_
        exact hrc _ _ _ _ _ hh
      · refine r_ic_f 88 102 jd_Mo_make_85 rfl c45 rfl ?_
        refine r_aload_n 89 0 jd_Mo_make_88 rfl rfl ?_
        obtain ⟨v48, e49, hh⟩ := q_bind hh
        refine r_getR 92 110 jd_Mo_make_89 rfl e49 rfl ?_
        refine r_iconst 93 3 jd_Mo_make_92 (by decide) rfl ?_
        refine r_iload_n 94 2 jd_Mo_make_93 rfl rfl ?_
        refine r_imul 95 jd_Mo_make_94 rfl ?_
        refine r_iload 97 3 jd_Mo_make_95 rfl rfl ?_
        refine r_iadd 98 jd_Mo_make_97 rfl ?_
        obtain ⟨v50, e51, hh⟩ := q_bind hh
        refine r_ldI 99 34 jd_Mo_make_98 rfl e51 rfl ?_
        refine r_goto 103 jd_Mo_make_99 rfl ?_
        obtain ⟨x52, e53, hh⟩ := q_bind hh
        refine r_stI 104 27 jd_Mo_make_103 rfl e53 rfl ?_
        refine r_iinc 107 3 [(4, .int (l4 + 1)), (0, va_rf (some l0)), (2, .int l2), (3, .int l3)] 1 jd_Mo_make_104 rfl (by decide) (by decide) rfl rfl ?_
        refine r_goto 54 jd_Mo_make_107 rfl ?_
        refine q_sub [1, 2, 3, 0] rfl ?_
        exact hrc _ _ _ _ _ hh
theorem jm_Mo_make_L54 {p : q_S × Int32} : ∀ (n : Nat) (x : q_S) (l0 : Nat) (l2 : Int32) (l3 : Int32) (l4 : Int32), jf_Mo_make_L54 n x l0 l2 l3 l4 = some p → q_X (q_call 1) (fun y o => y = p.1 ∧ o = some (.int p.2)) jq_Mo_make 54 [(0, va_rf (some l0)), (2, .int l2), (3, .int l3), (4, .int l4)] [] x
  | 0, _, _, _, _, _, hh => nomatch hh
  | n + 1, x, l0, l2, l3, l4, hh => jm_Mo_make_B54 (jm_Mo_make_L54 n) x l0 l2 l3 l4 hh
def jf_Mo_make (x : q_S) (a0 : Nat) (a1 : Int32) (a2 : Int32) (a3 : Int32) : Option (q_S × Int32) :=
  (q_gI x (some a0) 11 23).bind fun v1 =>
  if v1 = 200 then
    some (x, (-7))
  else
    (q_gR x (some a0) 11 24).bind fun v4 =>
    (q_gI x (some a0) 11 23).bind fun v6 =>
    (q_sI x 25 v4 v6 a1).bind fun x8 =>
    (q_gR x8 (some a0) 11 25).bind fun v10 =>
    (q_gI x8 (some a0) 11 23).bind fun v12 =>
    (q_sI x8 26 v10 v12 a2).bind fun x14 =>
    (q_gR x14 (some a0) 11 26).bind fun v16 =>
    (q_gI x14 (some a0) 11 23).bind fun v18 =>
    if 0 ≤ a3 then
      (q_sI x14 102 v16 v18 ((0 : Int32) &&& 1)).bind fun x21 =>
      jf_Mo_make_L54 lpK x21 a0 a2 a3 0
    else
      (q_sI x14 102 v16 v18 ((1 : Int32) &&& 1)).bind fun x54 =>
      jf_Mo_make_L54 lpK x54 a0 a2 a3 0
theorem jm_Mo_make {x : q_S} {a0 : Nat} {a1 : Int32} {a2 : Int32} {a3 : Int32} {p : q_S × Int32} (hh : jf_Mo_make x a0 a1 a2 a3 = some p) : q_call 2 jq_Mo_make [va_rf (some a0), .int a1, .int a2, .int a3] x p.1 (some (.int p.2)) := by
  unfold jf_Mo_make at hh
  refine ⟨List.mem_of_getElem? (i := 135) rfl, Nat.le_of_ble_eq_true rfl, List.forall_mem_cons.mpr ⟨rfl, List.forall_mem_cons.mpr ⟨rfl, List.forall_mem_cons.mpr ⟨rfl, List.forall_mem_cons.mpr ⟨rfl, fun _ h => by cases h⟩⟩⟩⟩, ?_⟩
  show q_X (q_call 1) _ jq_Mo_make 0 [(0, va_rf (some a0)), (1, .int a1), (2, .int a2), (3, .int a3)] [] x
  refine r_aload_n 1 0 jd_Mo_make_0 rfl rfl ?_
  obtain ⟨v1, e2, hh⟩ := q_bind hh
  refine r_getI 4 114 jd_Mo_make_1 rfl e2 rfl ?_
  refine r_sipush 7 200 jd_Mo_make_4 (by decide) rfl ?_
  rcases q_ite hh with ⟨c3, hh⟩ | ⟨c3, hh⟩
  · refine r_ic_f 10 13 jd_Mo_make_7 rfl (fun z => z c3) rfl ?_
    refine r_bipush 12 (-7) jd_Mo_make_10 (by decide) rfl ?_
    cases hh
    exact r_iret jd_Mo_make_12 rfl ⟨rfl, rfl⟩
  · refine r_ic_t 13 jd_Mo_make_7 rfl c3 ?_
    refine r_aload_n 14 0 jd_Mo_make_13 rfl rfl ?_
    obtain ⟨v4, e5, hh⟩ := q_bind hh
    refine r_getR 17 99 jd_Mo_make_14 rfl e5 rfl ?_
    refine r_aload_n 18 0 jd_Mo_make_17 rfl rfl ?_
    obtain ⟨v6, e7, hh⟩ := q_bind hh
    refine r_getI 21 114 jd_Mo_make_18 rfl e7 rfl ?_
    refine r_iload_n 22 1 jd_Mo_make_21 rfl rfl ?_
    obtain ⟨x8, e9, hh⟩ := q_bind hh
    refine r_stI 23 25 jd_Mo_make_22 rfl e9 rfl ?_
    refine r_aload_n 24 0 jd_Mo_make_23 rfl rfl ?_
    obtain ⟨v10, e11, hh⟩ := q_bind hh
    refine r_getR 27 100 jd_Mo_make_24 rfl e11 rfl ?_
    refine r_aload_n 28 0 jd_Mo_make_27 rfl rfl ?_
    obtain ⟨v12, e13, hh⟩ := q_bind hh
    refine r_getI 31 114 jd_Mo_make_28 rfl e13 rfl ?_
    refine r_iload_n 32 2 jd_Mo_make_31 rfl rfl ?_
    obtain ⟨x14, e15, hh⟩ := q_bind hh
    refine r_stI 33 26 jd_Mo_make_32 rfl e15 rfl ?_
    refine r_aload_n 34 0 jd_Mo_make_33 rfl rfl ?_
    obtain ⟨v16, e17, hh⟩ := q_bind hh
    refine r_getR 37 101 jd_Mo_make_34 rfl e17 rfl ?_
    refine r_aload_n 38 0 jd_Mo_make_37 rfl rfl ?_
    obtain ⟨v18, e19, hh⟩ := q_bind hh
    refine r_getI 41 114 jd_Mo_make_38 rfl e19 rfl ?_
    refine r_iload_n 42 3 jd_Mo_make_41 rfl rfl ?_
    rcases q_ite hh with ⟨c20, hh⟩ | ⟨c20, hh⟩
    · refine r_if_t 49 jd_Mo_make_42 rfl c20 ?_
      refine r_iconst 50 0 jd_Mo_make_49 (by decide) rfl ?_
      obtain ⟨x21, e22, hh⟩ := q_bind hh
      refine r_stZ 51 102 jd_Mo_make_50 rfl e22 rfl ?_
      refine r_iconst 52 0 jd_Mo_make_51 (by decide) rfl ?_
      refine r_istore 54 [(4, .int 0), (0, va_rf (some a0)), (1, .int a1), (2, .int a2), (3, .int a3)] jd_Mo_make_52 (by decide) rfl rfl ?_
      refine q_sub [1, 3, 4, 0] rfl ?_
      exact jm_Mo_make_L54 lpK _ _ _ _ _ hh
    · refine r_if_f 45 49 jd_Mo_make_42 rfl c20 rfl ?_
      refine r_iconst 46 1 jd_Mo_make_45 (by decide) rfl ?_
      refine r_goto 50 jd_Mo_make_46 rfl ?_
      obtain ⟨x54, e55, hh⟩ := q_bind hh
      refine r_stZ 51 102 jd_Mo_make_50 rfl e55 rfl ?_
      refine r_iconst 52 0 jd_Mo_make_51 (by decide) rfl ?_
      refine r_istore 54 [(4, .int 0), (0, va_rf (some a0)), (1, .int a1), (2, .int a2), (3, .int a3)] jd_Mo_make_52 (by decide) rfl rfl ?_
      refine q_sub [1, 3, 4, 0] rfl ?_
      exact jm_Mo_make_L54 lpK _ _ _ _ _ hh
-- BeanContextsModel.beanOf(II)I
def jf_Mo_beanOf_B2 (rc : q_S → Nat → Int32 → Int32 → Int32 → Option (q_S × Int32)) (x : q_S) (l0 : Nat) (l1 : Int32) (l2 : Int32) (l3 : Int32) : Option (q_S × Int32) :=
  (q_gI x (some l0) 11 23).bind fun v1 =>
  if v1 ≤ l3 then
    some (x, (-1))
  else
    (q_gR x (some l0) 11 24).bind fun v4 =>
    (q_lI x 25 v4 l3).bind fun v6 =>
    if v6 = l1 then
      (q_gR x (some l0) 11 25).bind fun v9 =>
      (q_lI x 26 v9 l3).bind fun v11 =>
      if v11 = l2 then
        some (x, l3)
      else
        rc x l0 l1 l2 (l3 + 1)
    else
      rc x l0 l1 l2 (l3 + 1)
def jf_Mo_beanOf_L2 : Nat → q_S → Nat → Int32 → Int32 → Int32 → Option (q_S × Int32)
  | 0, _, _, _, _, _ => none
  | n + 1, x, l0, l1, l2, l3 => jf_Mo_beanOf_B2 (jf_Mo_beanOf_L2 n) x l0 l1 l2 l3
theorem jm_Mo_beanOf_B2 {p : q_S × Int32} {rc : q_S → Nat → Int32 → Int32 → Int32 → Option (q_S × Int32)} (hrc : ∀ (x : q_S) (l0 : Nat) (l1 : Int32) (l2 : Int32) (l3 : Int32), rc x l0 l1 l2 l3 = some p → q_X (q_call 0) (fun y o => y = p.1 ∧ o = some (.int p.2)) jq_Mo_beanOf 2 [(0, va_rf (some l0)), (1, .int l1), (2, .int l2), (3, .int l3)] [] x) (x : q_S) (l0 : Nat) (l1 : Int32) (l2 : Int32) (l3 : Int32) (hh : jf_Mo_beanOf_B2 rc x l0 l1 l2 l3 = some p) : q_X (q_call 0) (fun y o => y = p.1 ∧ o = some (.int p.2)) jq_Mo_beanOf 2 [(0, va_rf (some l0)), (1, .int l1), (2, .int l2), (3, .int l3)] [] x := by
  unfold jf_Mo_beanOf_B2 at hh
  refine r_iload_n 3 3 jd_Mo_beanOf_2 rfl rfl ?_
  refine r_aload_n 4 0 jd_Mo_beanOf_3 rfl rfl ?_
  obtain ⟨v1, e2, hh⟩ := q_bind hh
  refine r_getI 7 114 jd_Mo_beanOf_4 rfl e2 rfl ?_
  rcases q_ite hh with ⟨c3, hh⟩ | ⟨c3, hh⟩
  · refine r_ic_t 38 jd_Mo_beanOf_7 rfl c3 ?_
    refine r_iconst 39 (-1) jd_Mo_beanOf_38 (by decide) rfl ?_
    cases hh
    exact r_iret jd_Mo_beanOf_39 rfl ⟨rfl, rfl⟩
  · refine r_ic_f 10 38 jd_Mo_beanOf_7 rfl c3 rfl ?_
    refine r_aload_n 11 0 jd_Mo_beanOf_10 rfl rfl ?_
    obtain ⟨v4, e5, hh⟩ := q_bind hh
    refine r_getR 14 99 jd_Mo_beanOf_11 rfl e5 rfl ?_
    refine r_iload_n 15 3 jd_Mo_beanOf_14 rfl rfl ?_
    obtain ⟨v6, e7, hh⟩ := q_bind hh
    refine r_ldI 16 25 jd_Mo_beanOf_15 rfl e7 rfl ?_
    refine r_iload_n 17 1 jd_Mo_beanOf_16 rfl rfl ?_
    rcases q_ite hh with ⟨c8, hh⟩ | ⟨c8, hh⟩
    · refine r_ic_f 20 32 jd_Mo_beanOf_17 rfl (fun z => z c8) rfl ?_
      refine r_aload_n 21 0 jd_Mo_beanOf_20 rfl rfl ?_
      obtain ⟨v9, e10, hh⟩ := q_bind hh
      refine r_getR 24 100 jd_Mo_beanOf_21 rfl e10 rfl ?_
      refine r_iload_n 25 3 jd_Mo_beanOf_24 rfl rfl ?_
      obtain ⟨v11, e12, hh⟩ := q_bind hh
      refine r_ldI 26 26 jd_Mo_beanOf_25 rfl e12 rfl ?_
      refine r_iload_n 27 2 jd_Mo_beanOf_26 rfl rfl ?_
      rcases q_ite hh with ⟨c13, hh⟩ | ⟨c13, hh⟩
      · refine r_ic_f 30 32 jd_Mo_beanOf_27 rfl (fun z => z c13) rfl ?_
        refine r_iload_n 31 3 jd_Mo_beanOf_30 rfl rfl ?_
        cases hh
        exact r_iret jd_Mo_beanOf_31 rfl ⟨rfl, rfl⟩
      · refine r_ic_t 32 jd_Mo_beanOf_27 rfl c13 ?_
        refine r_iinc 35 3 [(3, .int (l3 + 1)), (0, va_rf (some l0)), (1, .int l1), (2, .int l2)] 1 jd_Mo_beanOf_32 rfl (by decide) (by decide) rfl rfl ?_
        refine r_goto 2 jd_Mo_beanOf_35 rfl ?_
        refine q_sub [1, 2, 3, 0] rfl ?_
        exact hrc _ _ _ _ _ hh
    · refine r_ic_t 32 jd_Mo_beanOf_17 rfl c8 ?_
      refine r_iinc 35 3 [(3, .int (l3 + 1)), (0, va_rf (some l0)), (1, .int l1), (2, .int l2)] 1 jd_Mo_beanOf_32 rfl (by decide) (by decide) rfl rfl ?_
      refine r_goto 2 jd_Mo_beanOf_35 rfl ?_
      refine q_sub [1, 2, 3, 0] rfl ?_
      exact hrc _ _ _ _ _ hh
theorem jm_Mo_beanOf_L2 {p : q_S × Int32} : ∀ (n : Nat) (x : q_S) (l0 : Nat) (l1 : Int32) (l2 : Int32) (l3 : Int32), jf_Mo_beanOf_L2 n x l0 l1 l2 l3 = some p → q_X (q_call 0) (fun y o => y = p.1 ∧ o = some (.int p.2)) jq_Mo_beanOf 2 [(0, va_rf (some l0)), (1, .int l1), (2, .int l2), (3, .int l3)] [] x
  | 0, _, _, _, _, _, hh => nomatch hh
  | n + 1, x, l0, l1, l2, l3, hh => jm_Mo_beanOf_B2 (jm_Mo_beanOf_L2 n) x l0 l1 l2 l3 hh
def jf_Mo_beanOf (x : q_S) (a0 : Nat) (a1 : Int32) (a2 : Int32) : Option (q_S × Int32) :=
  jf_Mo_beanOf_L2 lpK x a0 a1 a2 0
theorem jm_Mo_beanOf {x : q_S} {a0 : Nat} {a1 : Int32} {a2 : Int32} {p : q_S × Int32} (hh : jf_Mo_beanOf x a0 a1 a2 = some p) : q_call 1 jq_Mo_beanOf [va_rf (some a0), .int a1, .int a2] x p.1 (some (.int p.2)) := by
  unfold jf_Mo_beanOf at hh
  refine ⟨List.mem_of_getElem? (i := 137) rfl, Nat.le_of_ble_eq_true rfl, List.forall_mem_cons.mpr ⟨rfl, List.forall_mem_cons.mpr ⟨rfl, List.forall_mem_cons.mpr ⟨rfl, fun _ h => by cases h⟩⟩⟩, ?_⟩
  show q_X (q_call 0) _ jq_Mo_beanOf 0 [(0, va_rf (some a0)), (1, .int a1), (2, .int a2)] [] x
  refine r_iconst 1 0 jd_Mo_beanOf_0 (by decide) rfl ?_
  refine r_istore_n 2 [(3, .int 0), (0, va_rf (some a0)), (1, .int a1), (2, .int a2)] jd_Mo_beanOf_1 (by decide) rfl rfl ?_
  refine q_sub [1, 2, 3, 0] rfl ?_
  exact jm_Mo_beanOf_L2 lpK _ _ _ _ _ hh
-- BeanContextsModel.start(II)I
def jf_Mo_start_B46 (rc : q_S → Nat → Int32 → Int32 → Int32 → Option (q_S × Int32)) (x : q_S) (l0 : Nat) (l1 : Int32) (l2 : Int32) (l4 : Int32) : Option (q_S × Int32) :=
  (q_gI x (some l0) 11 32).bind fun v16 =>
  if v16 ≤ l4 then
    (q_gR x (some l0) 11 33).bind fun v19 =>
    (q_gI x (some l0) 11 32).bind fun v21 =>
    (q_sI x 31 v19 v21 l1).bind fun x23 =>
    (q_gR x23 (some l0) 11 34).bind fun v25 =>
    (q_gI x23 (some l0) 11 32).bind fun v27 =>
    (q_sI x23 32 v25 v27 l2).bind fun x29 =>
    (q_gR x29 (some l0) 11 35).bind fun v31 =>
    (q_gI x29 (some l0) 11 32).bind fun v33 =>
    (q_sI x29 33 v31 v33 0).bind fun x35 =>
    (q_gI x35 (some l0) 11 32).bind fun v37 =>
    (q_pI x35 (some l0) 11 32 (v37 + 1)).bind fun x39 =>
    some (x39, (-1))
  else
    (q_gR x (some l0) 11 33).bind fun v41 =>
    (q_lI x 31 v41 l4).bind fun v43 =>
    if v43 = l1 then
      (q_gR x (some l0) 11 34).bind fun v46 =>
      (q_lI x 32 v46 l4).bind fun v48 =>
      if v48 = l2 then
        some (x, (-5))
      else
        rc x l0 l1 l2 (l4 + 1)
    else
      rc x l0 l1 l2 (l4 + 1)
def jf_Mo_start_L46 : Nat → q_S → Nat → Int32 → Int32 → Int32 → Option (q_S × Int32)
  | 0, _, _, _, _, _ => none
  | n + 1, x, l0, l1, l2, l4 => jf_Mo_start_B46 (jf_Mo_start_L46 n) x l0 l1 l2 l4
theorem jm_Mo_start_B46 {p : q_S × Int32} {rc : q_S → Nat → Int32 → Int32 → Int32 → Option (q_S × Int32)} (hrc : ∀ (x : q_S) (l0 : Nat) (l1 : Int32) (l2 : Int32) (l4 : Int32), rc x l0 l1 l2 l4 = some p → q_X (q_call 2) (fun y o => y = p.1 ∧ o = some (.int p.2)) jq_Mo_start 46 [(0, va_rf (some l0)), (1, .int l1), (2, .int l2), (4, .int l4)] [] x) (x : q_S) (l0 : Nat) (l1 : Int32) (l2 : Int32) (l4 : Int32) (hh : jf_Mo_start_B46 rc x l0 l1 l2 l4 = some p) : q_X (q_call 2) (fun y o => y = p.1 ∧ o = some (.int p.2)) jq_Mo_start 46 [(0, va_rf (some l0)), (1, .int l1), (2, .int l2), (4, .int l4)] [] x := by
  unfold jf_Mo_start_B46 at hh
  refine r_iload 48 3 jd_Mo_start_46 rfl rfl ?_
  refine r_aload_n 49 0 jd_Mo_start_48 rfl rfl ?_
  obtain ⟨v16, e17, hh⟩ := q_bind hh
  refine r_getI 52 119 jd_Mo_start_49 rfl e17 rfl ?_
  rcases q_ite hh with ⟨c18, hh⟩ | ⟨c18, hh⟩
  · refine r_ic_t 86 jd_Mo_start_52 rfl c18 ?_
    refine r_aload_n 87 0 jd_Mo_start_86 rfl rfl ?_
    obtain ⟨v19, e20, hh⟩ := q_bind hh
    refine r_getR 90 107 jd_Mo_start_87 rfl e20 rfl ?_
    refine r_aload_n 91 0 jd_Mo_start_90 rfl rfl ?_
    obtain ⟨v21, e22, hh⟩ := q_bind hh
    refine r_getI 94 119 jd_Mo_start_91 rfl e22 rfl ?_
    refine r_iload_n 95 1 jd_Mo_start_94 rfl rfl ?_
    obtain ⟨x23, e24, hh⟩ := q_bind hh
    refine r_stI 96 31 jd_Mo_start_95 rfl e24 rfl ?_
    refine r_aload_n 97 0 jd_Mo_start_96 rfl rfl ?_
    obtain ⟨v25, e26, hh⟩ := q_bind hh
    refine r_getR 100 108 jd_Mo_start_97 rfl e26 rfl ?_
    refine r_aload_n 101 0 jd_Mo_start_100 rfl rfl ?_
    obtain ⟨v27, e28, hh⟩ := q_bind hh
    refine r_getI 104 119 jd_Mo_start_101 rfl e28 rfl ?_
    refine r_iload_n 105 2 jd_Mo_start_104 rfl rfl ?_
    obtain ⟨x29, e30, hh⟩ := q_bind hh
    refine r_stI 106 32 jd_Mo_start_105 rfl e30 rfl ?_
    refine r_aload_n 107 0 jd_Mo_start_106 rfl rfl ?_
    obtain ⟨v31, e32, hh⟩ := q_bind hh
    refine r_getR 110 109 jd_Mo_start_107 rfl e32 rfl ?_
    refine r_aload_n 111 0 jd_Mo_start_110 rfl rfl ?_
    obtain ⟨v33, e34, hh⟩ := q_bind hh
    refine r_getI 114 119 jd_Mo_start_111 rfl e34 rfl ?_
    refine r_iconst 115 0 jd_Mo_start_114 (by decide) rfl ?_
    obtain ⟨x35, e36, hh⟩ := q_bind hh
    refine r_stI 116 33 jd_Mo_start_115 rfl e36 rfl ?_
    refine r_aload_n 117 0 jd_Mo_start_116 rfl rfl ?_
    refine r_dupR 118 jd_Mo_start_117 rfl ?_
    obtain ⟨v37, e38, hh⟩ := q_bind hh
    refine r_getI 121 119 jd_Mo_start_118 rfl e38 rfl ?_
    refine r_iconst 122 1 jd_Mo_start_121 (by decide) rfl ?_
    refine r_iadd 123 jd_Mo_start_122 rfl ?_
    obtain ⟨x39, e40, hh⟩ := q_bind hh
    refine r_putI 126 119 jd_Mo_start_123 rfl rfl (Or.inl rfl) e40 rfl ?_
    refine r_iconst 127 (-1) jd_Mo_start_126 (by decide) rfl ?_
    cases hh
    exact r_iret jd_Mo_start_127 rfl ⟨rfl, rfl⟩
  · refine r_ic_f 55 86 jd_Mo_start_52 rfl c18 rfl ?_
    refine r_aload_n 56 0 jd_Mo_start_55 rfl rfl ?_
    obtain ⟨v41, e42, hh⟩ := q_bind hh
    refine r_getR 59 107 jd_Mo_start_56 rfl e42 rfl ?_
    refine r_iload 61 3 jd_Mo_start_59 rfl rfl ?_
    obtain ⟨v43, e44, hh⟩ := q_bind hh
    refine r_ldI 62 31 jd_Mo_start_61 rfl e44 rfl ?_
    refine r_iload_n 63 1 jd_Mo_start_62 rfl rfl ?_
    rcases q_ite hh with ⟨c45, hh⟩ | ⟨c45, hh⟩
    · refine r_ic_f 66 80 jd_Mo_start_63 rfl (fun z => z c45) rfl ?_
      refine r_aload_n 67 0 jd_Mo_start_66 rfl rfl ?_
      obtain ⟨v46, e47, hh⟩ := q_bind hh
      refine r_getR 70 108 jd_Mo_start_67 rfl e47 rfl ?_
      refine r_iload 72 3 jd_Mo_start_70 rfl rfl ?_
      obtain ⟨v48, e49, hh⟩ := q_bind hh
      refine r_ldI 73 32 jd_Mo_start_72 rfl e49 rfl ?_
      refine r_iload_n 74 2 jd_Mo_start_73 rfl rfl ?_
      rcases q_ite hh with ⟨c50, hh⟩ | ⟨c50, hh⟩
      · refine r_ic_f 77 80 jd_Mo_start_74 rfl (fun z => z c50) rfl ?_
        refine r_bipush 79 (-5) jd_Mo_start_77 (by decide) rfl ?_
        cases hh
        exact r_iret jd_Mo_start_79 rfl ⟨rfl, rfl⟩
      · refine r_ic_t 80 jd_Mo_start_74 rfl c50 ?_
        refine r_iinc 83 3 [(4, .int (l4 + 1)), (0, va_rf (some l0)), (1, .int l1), (2, .int l2)] 1 jd_Mo_start_80 rfl (by decide) (by decide) rfl rfl ?_
        refine r_goto 46 jd_Mo_start_83 rfl ?_
        refine q_sub [1, 2, 3, 0] rfl ?_
        exact hrc _ _ _ _ _ hh
    · refine r_ic_t 80 jd_Mo_start_63 rfl c45 ?_
      refine r_iinc 83 3 [(4, .int (l4 + 1)), (0, va_rf (some l0)), (1, .int l1), (2, .int l2)] 1 jd_Mo_start_80 rfl (by decide) (by decide) rfl rfl ?_
      refine r_goto 46 jd_Mo_start_83 rfl ?_
      refine q_sub [1, 2, 3, 0] rfl ?_
      exact hrc _ _ _ _ _ hh
theorem jm_Mo_start_L46 {p : q_S × Int32} : ∀ (n : Nat) (x : q_S) (l0 : Nat) (l1 : Int32) (l2 : Int32) (l4 : Int32), jf_Mo_start_L46 n x l0 l1 l2 l4 = some p → q_X (q_call 2) (fun y o => y = p.1 ∧ o = some (.int p.2)) jq_Mo_start 46 [(0, va_rf (some l0)), (1, .int l1), (2, .int l2), (4, .int l4)] [] x
  | 0, _, _, _, _, _, hh => nomatch hh
  | n + 1, x, l0, l1, l2, l4, hh => jm_Mo_start_B46 (jm_Mo_start_L46 n) x l0 l1 l2 l4 hh
def jf_Mo_start (x : q_S) (a0 : Nat) (a1 : Int32) (a2 : Int32) : Option (q_S × Int32) :=
  (q_av x (some a0) 11).bind fun b3 =>
  (jf_Mo_many x b3 a1 a2).bind fun p1 =>
  if p1.2 = 0 then
    (q_av p1.1 (some a0) 11).bind fun b8 =>
    (jf_Mo_beanOf p1.1 b8 a1 a2).bind fun p6 =>
    if p6.2 < 0 then
      (q_av p6.1 (some a0) 11).bind fun b13 =>
      (jf_Mo_isMocked p6.1 b13 a1 a2).bind fun p11 =>
      if p11.2 = 0 then
        jf_Mo_start_L46 lpK p11.1 a0 a1 a2 0
      else
        (q_av p11.1 (some a0) 11).bind fun b53 =>
        (jf_Mo_make p11.1 b53 a1 a2 (-1)).bind fun p51 =>
        some (p51.1, p51.2)
    else
      some (p6.1, p6.2)
  else
    (q_av p1.1 (some a0) 11).bind fun b58 =>
    (jf_Mo_isMocked p1.1 b58 a1 a2).bind fun p56 =>
    if p56.2 = 0 then
      jf_Mo_start_L46 lpK p56.1 a0 a1 a2 0
    else
      (q_av p56.1 (some a0) 11).bind fun b63 =>
      (jf_Mo_make p56.1 b63 a1 a2 (-1)).bind fun p61 =>
      some (p61.1, p61.2)
theorem jm_Mo_start {x : q_S} {a0 : Nat} {a1 : Int32} {a2 : Int32} {p : q_S × Int32} (hh : jf_Mo_start x a0 a1 a2 = some p) : q_call 3 jq_Mo_start [va_rf (some a0), .int a1, .int a2] x p.1 (some (.int p.2)) := by
  unfold jf_Mo_start at hh
  refine ⟨List.mem_of_getElem? (i := 136) rfl, Nat.le_of_ble_eq_true rfl, List.forall_mem_cons.mpr ⟨rfl, List.forall_mem_cons.mpr ⟨rfl, List.forall_mem_cons.mpr ⟨rfl, fun _ h => by cases h⟩⟩⟩, ?_⟩
  show q_X (q_call 2) _ jq_Mo_start 0 [(0, va_rf (some a0)), (1, .int a1), (2, .int a2)] [] x
  refine r_aload_n 1 0 jd_Mo_start_0 rfl rfl ?_
  refine r_iload_n 2 1 jd_Mo_start_1 rfl rfl ?_
  refine r_iload_n 3 2 jd_Mo_start_2 rfl rfl ?_
  obtain ⟨b3, e4, hh⟩ := q_bind hh
  obtain ⟨p1, e2, hh⟩ := q_bind hh
  refine r_cV (rest := []) 6 126 11 [.int a1, .int a2] [.int p1.2] jd_Mo_start_3 rfl e4 rfl rfl rfl rfl (q_s8 (Nat.le_of_ble_eq_true rfl)) (q_call_le (Nat.le_of_ble_eq_true rfl) (jm_Mo_many e2)) rfl rfl ?_
  rcases q_ite hh with ⟨c5, hh⟩ | ⟨c5, hh⟩
  · refine r_if_t 13 jd_Mo_start_6 rfl c5 ?_
    refine r_aload_n 14 0 jd_Mo_start_13 rfl rfl ?_
    refine r_iload_n 15 1 jd_Mo_start_14 rfl rfl ?_
    refine r_iload_n 16 2 jd_Mo_start_15 rfl rfl ?_
    obtain ⟨b8, e9, hh⟩ := q_bind hh
    obtain ⟨p6, e7, hh⟩ := q_bind hh
    refine r_cV (rest := []) 19 134 11 [.int a1, .int a2] [.int p6.2] jd_Mo_start_16 rfl e9 rfl rfl rfl rfl (q_s8 (Nat.le_of_ble_eq_true rfl)) (q_call_le (Nat.le_of_ble_eq_true rfl) (jm_Mo_beanOf e7)) rfl rfl ?_
    refine r_istore_n 20 [(3, .int p6.2), (0, va_rf (some a0)), (1, .int a1), (2, .int a2)] jd_Mo_start_19 (by decide) rfl rfl ?_
    refine r_iload_n 21 0 jd_Mo_start_20 rfl rfl ?_
    rcases q_ite hh with ⟨c10, hh⟩ | ⟨c10, hh⟩
    · refine r_if_t 26 jd_Mo_start_21 rfl c10 ?_
      refine r_aload_n 27 1 jd_Mo_start_26 rfl rfl ?_
      refine r_iload_n 28 2 jd_Mo_start_27 rfl rfl ?_
      refine r_iload_n 29 3 jd_Mo_start_28 rfl rfl ?_
      obtain ⟨b13, e14, hh⟩ := q_bind hh
      obtain ⟨p11, e12, hh⟩ := q_bind hh
      refine r_cV (rest := []) 32 127 11 [.int a1, .int a2] [.int p11.2] jd_Mo_start_29 rfl e14 rfl rfl rfl rfl (q_s8 (Nat.le_of_ble_eq_true rfl)) (q_call_le (Nat.le_of_ble_eq_true rfl) (jm_Mo_isMocked e12)) rfl rfl ?_
      rcases q_ite hh with ⟨c15, hh⟩ | ⟨c15, hh⟩
      · refine r_if_t 43 jd_Mo_start_32 rfl c15 ?_
        refine r_iconst 44 0 jd_Mo_start_43 (by decide) rfl ?_
        refine r_istore 46 [(4, .int 0), (3, .int p6.2), (0, va_rf (some a0)), (1, .int a1), (2, .int a2)] jd_Mo_start_44 (by decide) rfl rfl ?_
        refine q_sub [2, 3, 4, 0] rfl ?_
        exact jm_Mo_start_L46 lpK _ _ _ _ _ hh
      · refine r_if_f 35 43 jd_Mo_start_32 rfl c15 rfl ?_
        refine r_aload_n 36 1 jd_Mo_start_35 rfl rfl ?_
        refine r_iload_n 37 2 jd_Mo_start_36 rfl rfl ?_
        refine r_iload_n 38 3 jd_Mo_start_37 rfl rfl ?_
        refine r_iconst 39 (-1) jd_Mo_start_38 (by decide) rfl ?_
        obtain ⟨b53, e54, hh⟩ := q_bind hh
        obtain ⟨p51, e52, hh⟩ := q_bind hh
        refine r_cV (rest := []) 42 133 11 [.int a1, .int a2, .int (-1)] [.int p51.2] jd_Mo_start_39 rfl e54 rfl rfl rfl rfl (q_s8 (Nat.le_of_ble_eq_true rfl)) (q_call_le (Nat.le_of_ble_eq_true rfl) (jm_Mo_make e52)) rfl rfl ?_
        cases hh
        exact r_iret jd_Mo_start_42 rfl ⟨rfl, rfl⟩
    · refine r_if_f 24 26 jd_Mo_start_21 rfl c10 rfl ?_
      refine r_iload_n 25 0 jd_Mo_start_24 rfl rfl ?_
      cases hh
      exact r_iret jd_Mo_start_25 rfl ⟨rfl, rfl⟩
  · refine r_if_f 9 13 jd_Mo_start_6 rfl c5 rfl ?_
    refine r_iconst 10 (-1) jd_Mo_start_9 (by decide) rfl ?_
    refine r_goto 19 jd_Mo_start_10 rfl ?_
    refine r_istore_n 20 [(3, .int (-1)), (0, va_rf (some a0)), (1, .int a1), (2, .int a2)] jd_Mo_start_19 (by decide) rfl rfl ?_
    refine r_iload_n 21 0 jd_Mo_start_20 rfl rfl ?_
    refine r_if_t 26 jd_Mo_start_21 rfl (by unfold q_cnd; decide) ?_
    refine r_aload_n 27 1 jd_Mo_start_26 rfl rfl ?_
    refine r_iload_n 28 2 jd_Mo_start_27 rfl rfl ?_
    refine r_iload_n 29 3 jd_Mo_start_28 rfl rfl ?_
    obtain ⟨b58, e59, hh⟩ := q_bind hh
    obtain ⟨p56, e57, hh⟩ := q_bind hh
    refine r_cV (rest := []) 32 127 11 [.int a1, .int a2] [.int p56.2] jd_Mo_start_29 rfl e59 rfl rfl rfl rfl (q_s8 (Nat.le_of_ble_eq_true rfl)) (q_call_le (Nat.le_of_ble_eq_true rfl) (jm_Mo_isMocked e57)) rfl rfl ?_
    rcases q_ite hh with ⟨c60, hh⟩ | ⟨c60, hh⟩
    · refine r_if_t 43 jd_Mo_start_32 rfl c60 ?_
      refine r_iconst 44 0 jd_Mo_start_43 (by decide) rfl ?_
      refine r_istore 46 [(4, .int 0), (3, .int (-1)), (0, va_rf (some a0)), (1, .int a1), (2, .int a2)] jd_Mo_start_44 (by decide) rfl rfl ?_
      refine q_sub [2, 3, 4, 0] rfl ?_
      exact jm_Mo_start_L46 lpK _ _ _ _ _ hh
    · refine r_if_f 35 43 jd_Mo_start_32 rfl c60 rfl ?_
      refine r_aload_n 36 1 jd_Mo_start_35 rfl rfl ?_
      refine r_iload_n 37 2 jd_Mo_start_36 rfl rfl ?_
      refine r_iload_n 38 3 jd_Mo_start_37 rfl rfl ?_
      refine r_iconst 39 (-1) jd_Mo_start_38 (by decide) rfl ?_
      obtain ⟨b63, e64, hh⟩ := q_bind hh
      obtain ⟨p61, e62, hh⟩ := q_bind hh
      refine r_cV (rest := []) 42 133 11 [.int a1, .int a2, .int (-1)] [.int p61.2] jd_Mo_start_39 rfl e64 rfl rfl rfl rfl (q_s8 (Nat.le_of_ble_eq_true rfl)) (q_call_le (Nat.le_of_ble_eq_true rfl) (jm_Mo_make e62)) rfl rfl ?_
      cases hh
      exact r_iret jd_Mo_start_42 rfl ⟨rfl, rfl⟩
-- BeanContextsModel.supply(II)I
def jf_Mo_supply_B12 (rc : q_S → Nat → Int32 → Option (q_S × Int32)) (x : q_S) (l0 : Nat) (l3 : Int32) : Option (q_S × Int32) :=
  (q_gI x (some l0) 11 32).bind fun v7 =>
  if v7 ≤ 0 then
    some (x, l3)
  else
    (q_gI x (some l0) 11 32).bind fun v10 =>
    if (-1) ≤ l3 then
      if l3 < 0 then
        (q_gR x (some l0) 11 34).bind fun v14 =>
        (q_lI x 32 v14 (v10 - 1)).bind fun v16 =>
        (q_gR x (some l0) 11 35).bind fun v18 =>
        (q_lI x 33 v18 (v10 - 1)).bind fun v20 =>
        (q_gR x (some l0) 11 7).bind fun v22 =>
        (q_lI x 14 v22 v16).bind fun v24 =>
        if v24 ≤ v20 then
          (q_gR x (some l0) 11 4).bind fun v27 =>
          (q_lI x 11 v27 v16).bind fun v29 =>
          if (v29 &&& 8) = 0 then
            (q_gR x (some l0) 11 33).bind fun v32 =>
            (q_lI x 31 v32 (v10 - 1)).bind fun v34 =>
            (q_av x (some l0) 11).bind fun b38 =>
            (jf_Mo_make x b38 v34 v16 (v10 - 1)).bind fun p36 =>
            (q_gI p36.1 (some l0) 11 32).bind fun v40 =>
            (q_pI p36.1 (some l0) 11 32 (v40 - 1)).bind fun x42 =>
            rc x42 l0 p36.2
          else
            some (x, (-6))
        else
          (q_gR x (some l0) 11 35).bind fun v44 =>
          (q_lI x 33 v44 (v10 - 1)).bind fun v46 =>
          (q_gR x (some l0) 11 33).bind fun v48 =>
          (q_lI x 31 v48 (v10 - 1)).bind fun v50 =>
          (q_gR x (some l0) 11 8).bind fun v52 =>
          (q_lI x 15 v52 (((3 : Int32) * v16) + v46)).bind fun v54 =>
          (q_gR x (some l0) 11 9).bind fun v56 =>
          (q_lI x 16 v56 (((3 : Int32) * v16) + v46)).bind fun v58 =>
          (q_gR x (some l0) 11 10).bind fun v60 =>
          (q_lI x 17 v60 (((3 : Int32) * v16) + v46)).bind fun v62 =>
          (q_av x (some l0) 11).bind fun b66 =>
          (jf_Mo_find x b66 v50 v54 v58 v62).bind fun p64 =>
          if 0 ≤ p64.2 then
            (q_gI p64.1 (some l0) 11 37).bind fun v69 =>
            (q_av p64.1 (some l0) 11).bind fun b73 =>
            (jf_Mo_start p64.1 b73 v69 p64.2).bind fun p71 =>
            rc p71.1 l0 p71.2
          else
            rc p64.1 l0 p64.2
      else
        (q_gR x (some l0) 11 36).bind fun v75 =>
        (q_gR x (some l0) 11 35).bind fun v77 =>
        (q_lI x 33 v77 (v10 - 1)).bind fun v79 =>
        (q_sI x 34 v75 (((3 : Int32) * (v10 - 1)) + v79) l3).bind fun x81 =>
        (q_gR x81 (some l0) 11 35).bind fun v83 =>
        (q_lI x81 33 v83 (v10 - 1)).bind fun v85 =>
        (q_sI x81 33 v83 (v10 - 1) (v85 + 1)).bind fun x87 =>
        (q_gR x87 (some l0) 11 34).bind fun v89 =>
        (q_lI x87 32 v89 (v10 - 1)).bind fun v91 =>
        (q_gR x87 (some l0) 11 35).bind fun v93 =>
        (q_lI x87 33 v93 (v10 - 1)).bind fun v95 =>
        (q_gR x87 (some l0) 11 7).bind fun v97 =>
        (q_lI x87 14 v97 v91).bind fun v99 =>
        if v99 ≤ v95 then
          (q_gR x87 (some l0) 11 4).bind fun v102 =>
          (q_lI x87 11 v102 v91).bind fun v104 =>
          if (v104 &&& 8) = 0 then
            (q_gR x87 (some l0) 11 33).bind fun v107 =>
            (q_lI x87 31 v107 (v10 - 1)).bind fun v109 =>
            (q_av x87 (some l0) 11).bind fun b113 =>
            (jf_Mo_make x87 b113 v109 v91 (v10 - 1)).bind fun p111 =>
            (q_gI p111.1 (some l0) 11 32).bind fun v115 =>
            (q_pI p111.1 (some l0) 11 32 (v115 - 1)).bind fun x117 =>
            rc x117 l0 p111.2
          else
            some (x87, (-6))
        else
          (q_gR x87 (some l0) 11 35).bind fun v119 =>
          (q_lI x87 33 v119 (v10 - 1)).bind fun v121 =>
          (q_gR x87 (some l0) 11 33).bind fun v123 =>
          (q_lI x87 31 v123 (v10 - 1)).bind fun v125 =>
          (q_gR x87 (some l0) 11 8).bind fun v127 =>
          (q_lI x87 15 v127 (((3 : Int32) * v91) + v121)).bind fun v129 =>
          (q_gR x87 (some l0) 11 9).bind fun v131 =>
          (q_lI x87 16 v131 (((3 : Int32) * v91) + v121)).bind fun v133 =>
          (q_gR x87 (some l0) 11 10).bind fun v135 =>
          (q_lI x87 17 v135 (((3 : Int32) * v91) + v121)).bind fun v137 =>
          (q_av x87 (some l0) 11).bind fun b141 =>
          (jf_Mo_find x87 b141 v125 v129 v133 v137).bind fun p139 =>
          if 0 ≤ p139.2 then
            (q_gI p139.1 (some l0) 11 37).bind fun v144 =>
            (q_av p139.1 (some l0) 11).bind fun b148 =>
            (jf_Mo_start p139.1 b148 v144 p139.2).bind fun p146 =>
            rc p146.1 l0 p146.2
          else
            rc p139.1 l0 p139.2
    else
      some (x, l3)
def jf_Mo_supply_L12 : Nat → q_S → Nat → Int32 → Option (q_S × Int32)
  | 0, _, _, _ => none
  | n + 1, x, l0, l3 => jf_Mo_supply_B12 (jf_Mo_supply_L12 n) x l0 l3
theorem jm_Mo_supply_B12 {p : q_S × Int32} {rc : q_S → Nat → Int32 → Option (q_S × Int32)} (hrc : ∀ (x : q_S) (l0 : Nat) (l3 : Int32), rc x l0 l3 = some p → q_X (q_call 3) (fun y o => y = p.1 ∧ o = some (.int p.2)) jq_Mo_supply 12 [(0, va_rf (some l0)), (3, .int l3)] [] x) (x : q_S) (l0 : Nat) (l3 : Int32) (hh : jf_Mo_supply_B12 rc x l0 l3 = some p) : q_X (q_call 3) (fun y o => y = p.1 ∧ o = some (.int p.2)) jq_Mo_supply 12 [(0, va_rf (some l0)), (3, .int l3)] [] x := by
  unfold jf_Mo_supply_B12 at hh
  refine r_aload_n 13 0 jd_Mo_supply_12 rfl rfl ?_
  obtain ⟨v7, e8, hh⟩ := q_bind hh
  refine r_getI 16 119 jd_Mo_supply_13 rfl e8 rfl ?_
  rcases q_ite hh with ⟨c9, hh⟩ | ⟨c9, hh⟩
  · refine r_if_t 210 jd_Mo_supply_16 rfl c9 ?_
    refine r_iload_n 211 1 jd_Mo_supply_210 rfl rfl ?_
    cases hh
    exact r_iret jd_Mo_supply_211 rfl ⟨rfl, rfl⟩
  · refine r_if_f 19 210 jd_Mo_supply_16 rfl c9 rfl ?_
    refine r_aload_n 20 0 jd_Mo_supply_19 rfl rfl ?_
    obtain ⟨v10, e11, hh⟩ := q_bind hh
    refine r_getI 23 119 jd_Mo_supply_20 rfl e11 rfl ?_
    refine r_iconst 24 1 jd_Mo_supply_23 (by decide) rfl ?_
    refine r_isub 25 jd_Mo_supply_24 rfl ?_
    refine r_istore 27 [(4, .int (v10 - 1)), (0, va_rf (some l0)), (3, .int l3)] jd_Mo_supply_25 (by decide) rfl rfl ?_
    refine r_iload_n 28 2 jd_Mo_supply_27 rfl rfl ?_
    refine r_iconst 29 (-1) jd_Mo_supply_28 (by decide) rfl ?_
    rcases q_ite hh with ⟨c12, hh⟩ | ⟨c12, hh⟩
    · refine r_ic_t 34 jd_Mo_supply_29 rfl c12 ?_
      refine r_iload_n 35 2 jd_Mo_supply_34 rfl rfl ?_
      rcases q_ite hh with ⟨c13, hh⟩ | ⟨c13, hh⟩
      · refine r_if_t 67 jd_Mo_supply_35 rfl c13 ?_
        refine r_aload_n 68 1 jd_Mo_supply_67 rfl rfl ?_
        obtain ⟨v14, e15, hh⟩ := q_bind hh
        refine r_getR 71 108 jd_Mo_supply_68 rfl e15 rfl ?_
        refine r_iload 73 0 jd_Mo_supply_71 rfl rfl ?_
        obtain ⟨v16, e17, hh⟩ := q_bind hh
        refine r_ldI 74 32 jd_Mo_supply_73 rfl e17 rfl ?_
        refine r_istore 76 [(5, .int v16), (4, .int (v10 - 1)), (0, va_rf (some l0)), (3, .int l3)] jd_Mo_supply_74 (by decide) rfl rfl ?_
        refine r_aload_n 77 2 jd_Mo_supply_76 rfl rfl ?_
        obtain ⟨v18, e19, hh⟩ := q_bind hh
        refine r_getR 80 109 jd_Mo_supply_77 rfl e19 rfl ?_
        refine r_iload 82 1 jd_Mo_supply_80 rfl rfl ?_
        obtain ⟨v20, e21, hh⟩ := q_bind hh
        refine r_ldI 83 33 jd_Mo_supply_82 rfl e21 rfl ?_
        refine r_aload_n 84 2 jd_Mo_supply_83 rfl rfl ?_
        obtain ⟨v22, e23, hh⟩ := q_bind hh
        refine r_getR 87 87 jd_Mo_supply_84 rfl e23 rfl ?_
        refine r_iload 89 0 jd_Mo_supply_87 rfl rfl ?_
        obtain ⟨v24, e25, hh⟩ := q_bind hh
        refine r_ldI 90 14 jd_Mo_supply_89 rfl e25 rfl ?_
        rcases q_ite hh with ⟨c26, hh⟩ | ⟨c26, hh⟩
        · refine r_ic_t 165 jd_Mo_supply_90 rfl c26 ?_
          refine r_aload_n 166 2 jd_Mo_supply_165 rfl rfl ?_
          obtain ⟨v27, e28, hh⟩ := q_bind hh
          refine r_getR 169 84 jd_Mo_supply_166 rfl e28 rfl ?_
          refine r_iload 171 0 jd_Mo_supply_169 rfl rfl ?_
          obtain ⟨v29, e30, hh⟩ := q_bind hh
          refine r_ldI 172 11 jd_Mo_supply_171 rfl e30 rfl ?_
          refine r_bipush 174 8 jd_Mo_supply_172 (by decide) rfl ?_
          refine r_iand 175 jd_Mo_supply_174 rfl ?_
          rcases q_ite hh with ⟨c31, hh⟩ | ⟨c31, hh⟩
          · refine r_if_t 181 jd_Mo_supply_175 rfl c31 ?_
            refine r_aload_n 182 2 jd_Mo_supply_181 rfl rfl ?_
            refine r_aload_n 183 2 jd_Mo_supply_182 rfl rfl ?_
            obtain ⟨v32, e33, hh⟩ := q_bind hh
            refine r_getR 186 107 jd_Mo_supply_183 rfl e33 rfl ?_
            refine r_iload 188 1 jd_Mo_supply_186 rfl rfl ?_
            obtain ⟨v34, e35, hh⟩ := q_bind hh
            refine r_ldI 189 31 jd_Mo_supply_188 rfl e35 rfl ?_
            refine r_iload 191 0 jd_Mo_supply_189 rfl rfl ?_
            refine r_iload 193 1 jd_Mo_supply_191 rfl rfl ?_
            obtain ⟨b38, e39, hh⟩ := q_bind hh
            obtain ⟨p36, e37, hh⟩ := q_bind hh
            refine r_cV (rest := []) 196 133 11 [.int v34, .int v16, .int (v10 - 1)] [.int p36.2] jd_Mo_supply_193 rfl e39 rfl rfl rfl rfl (q_s8 (Nat.le_of_ble_eq_true rfl)) (q_call_le (Nat.le_of_ble_eq_true rfl) (jm_Mo_make e37)) rfl rfl ?_
            refine r_istore_n 197 [(3, .int p36.2), (5, .int v16), (4, .int (v10 - 1)), (0, va_rf (some l0))] jd_Mo_supply_196 (by decide) rfl rfl ?_
            refine r_aload_n 198 3 jd_Mo_supply_197 rfl rfl ?_
            refine r_dupR 199 jd_Mo_supply_198 rfl ?_
            obtain ⟨v40, e41, hh⟩ := q_bind hh
            refine r_getI 202 119 jd_Mo_supply_199 rfl e41 rfl ?_
            refine r_iconst 203 1 jd_Mo_supply_202 (by decide) rfl ?_
            refine r_isub 204 jd_Mo_supply_203 rfl ?_
            obtain ⟨x42, e43, hh⟩ := q_bind hh
            refine r_putI 207 119 jd_Mo_supply_204 rfl rfl (Or.inl rfl) e43 rfl ?_
            refine r_goto 12 jd_Mo_supply_207 rfl ?_
            refine q_sub [3, 0] rfl ?_
            exact hrc _ _ _ hh
          · refine r_if_f 178 181 jd_Mo_supply_175 rfl c31 rfl ?_
            refine r_bipush 180 (-6) jd_Mo_supply_178 (by decide) rfl ?_
            cases hh
            exact r_iret jd_Mo_supply_180 rfl ⟨rfl, rfl⟩
        · refine r_ic_f 93 165 jd_Mo_supply_90 rfl c26 rfl ?_
          refine r_iconst 94 3 jd_Mo_supply_93 (by decide) rfl ?_
          refine r_iload 96 0 jd_Mo_supply_94 rfl rfl ?_
          refine r_imul 97 jd_Mo_supply_96 rfl ?_
          refine r_aload_n 98 2 jd_Mo_supply_97 rfl rfl ?_
          obtain ⟨v44, e45, hh⟩ := q_bind hh
          refine r_getR 101 109 jd_Mo_supply_98 rfl e45 rfl ?_
          refine r_iload 103 1 jd_Mo_supply_101 rfl rfl ?_
          obtain ⟨v46, e47, hh⟩ := q_bind hh
          refine r_ldI 104 33 jd_Mo_supply_103 rfl e47 rfl ?_
          refine r_iadd 105 jd_Mo_supply_104 rfl ?_
          refine r_istore 107 [(6, .int (((3 : Int32) * v16) + v46)), (5, .int v16), (4, .int (v10 - 1)), (0, va_rf (some l0)), (3, .int l3)] jd_Mo_supply_105 (by decide) rfl rfl ?_
          refine r_aload_n 108 3 jd_Mo_supply_107 rfl rfl ?_
          refine r_aload_n 109 3 jd_Mo_supply_108 rfl rfl ?_
          obtain ⟨v48, e49, hh⟩ := q_bind hh
          refine r_getR 112 107 jd_Mo_supply_109 rfl e49 rfl ?_
          refine r_iload 114 2 jd_Mo_supply_112 rfl rfl ?_
          obtain ⟨v50, e51, hh⟩ := q_bind hh
          refine r_ldI 115 31 jd_Mo_supply_114 rfl e51 rfl ?_
          refine r_aload_n 116 3 jd_Mo_supply_115 rfl rfl ?_
          obtain ⟨v52, e53, hh⟩ := q_bind hh
          refine r_getR 119 88 jd_Mo_supply_116 rfl e53 rfl ?_
          refine r_iload 121 0 jd_Mo_supply_119 rfl rfl ?_
          obtain ⟨v54, e55, hh⟩ := q_bind hh
          refine r_ldI 122 15 jd_Mo_supply_121 rfl e55 rfl ?_
          refine r_aload_n 123 3 jd_Mo_supply_122 rfl rfl ?_
          obtain ⟨v56, e57, hh⟩ := q_bind hh
          refine r_getR 126 89 jd_Mo_supply_123 rfl e57 rfl ?_
          refine r_iload 128 0 jd_Mo_supply_126 rfl rfl ?_
          obtain ⟨v58, e59, hh⟩ := q_bind hh
          refine r_ldI 129 16 jd_Mo_supply_128 rfl e59 rfl ?_
          refine r_aload_n 130 3 jd_Mo_supply_129 rfl rfl ?_
          obtain ⟨v60, e61, hh⟩ := q_bind hh
          refine r_getR 133 90 jd_Mo_supply_130 rfl e61 rfl ?_
          refine r_iload 135 0 jd_Mo_supply_133 rfl rfl ?_
          obtain ⟨v62, e63, hh⟩ := q_bind hh
          refine r_ldI 136 17 jd_Mo_supply_135 rfl e63 rfl ?_
          obtain ⟨b66, e67, hh⟩ := q_bind hh
          obtain ⟨p64, e65, hh⟩ := q_bind hh
          refine r_cV (rest := []) 139 129 11 [.int v50, .int v54, .int v58, .int v62] [.int p64.2] jd_Mo_supply_136 rfl e67 rfl rfl rfl rfl (q_s8 (Nat.le_of_ble_eq_true rfl)) (q_call_le (Nat.le_of_ble_eq_true rfl) (jm_Mo_find e65)) rfl rfl ?_
          refine r_istore 141 [(7, .int p64.2), (6, .int (((3 : Int32) * v16) + v46)), (5, .int v16), (4, .int (v10 - 1)), (0, va_rf (some l0)), (3, .int l3)] jd_Mo_supply_139 (by decide) rfl rfl ?_
          refine r_iload 143 0 jd_Mo_supply_141 rfl rfl ?_
          rcases q_ite hh with ⟨c68, hh⟩ | ⟨c68, hh⟩
          · refine r_if_t 151 jd_Mo_supply_143 rfl c68 ?_
            refine r_aload_n 152 4 jd_Mo_supply_151 rfl rfl ?_
            refine r_aload_n 153 4 jd_Mo_supply_152 rfl rfl ?_
            obtain ⟨v69, e70, hh⟩ := q_bind hh
            refine r_getI 156 118 jd_Mo_supply_153 rfl e70 rfl ?_
            refine r_iload 158 0 jd_Mo_supply_156 rfl rfl ?_
            obtain ⟨b73, e74, hh⟩ := q_bind hh
            obtain ⟨p71, e72, hh⟩ := q_bind hh
            refine r_cV (rest := []) 161 132 11 [.int v69, .int p64.2] [.int p71.2] jd_Mo_supply_158 rfl e74 rfl rfl rfl rfl (q_s8 (Nat.le_of_ble_eq_true rfl)) (q_call_le (Nat.le_of_ble_eq_true rfl) (jm_Mo_start e72)) rfl rfl ?_
            refine r_istore_n 162 [(3, .int p71.2), (7, .int p64.2), (6, .int (((3 : Int32) * v16) + v46)), (5, .int v16), (4, .int (v10 - 1)), (0, va_rf (some l0))] jd_Mo_supply_161 (by decide) rfl rfl ?_
            refine r_goto 207 jd_Mo_supply_162 rfl ?_
            refine r_goto 12 jd_Mo_supply_207 rfl ?_
            refine q_sub [5, 0] rfl ?_
            exact hrc _ _ _ hh
          · refine r_if_f 146 151 jd_Mo_supply_143 rfl c68 rfl ?_
            refine r_iload 148 0 jd_Mo_supply_146 rfl rfl ?_
            refine r_goto 161 jd_Mo_supply_148 rfl ?_
            refine r_istore_n 162 [(3, .int p64.2), (7, .int p64.2), (6, .int (((3 : Int32) * v16) + v46)), (5, .int v16), (4, .int (v10 - 1)), (0, va_rf (some l0))] jd_Mo_supply_161 (by decide) rfl rfl ?_
            refine r_goto 207 jd_Mo_supply_162 rfl ?_
            refine r_goto 12 jd_Mo_supply_207 rfl ?_
            refine q_sub [5, 0] rfl ?_
            exact hrc _ _ _ hh
      · refine r_if_f 38 67 jd_Mo_supply_35 rfl c13 rfl ?_
        refine r_aload_n 39 1 jd_Mo_supply_38 rfl rfl ?_
        obtain ⟨v75, e76, hh⟩ := q_bind hh
        refine r_getR 42 110 jd_Mo_supply_39 rfl e76 rfl ?_
        refine r_iconst 43 3 jd_Mo_supply_42 (by decide) rfl ?_
        refine r_iload 45 0 jd_Mo_supply_43 rfl rfl ?_
        refine r_imul 46 jd_Mo_supply_45 rfl ?_
        refine r_aload_n 47 1 jd_Mo_supply_46 rfl rfl ?_
        obtain ⟨v77, e78, hh⟩ := q_bind hh
        refine r_getR 50 109 jd_Mo_supply_47 rfl e78 rfl ?_
        refine r_iload 52 0 jd_Mo_supply_50 rfl rfl ?_
        obtain ⟨v79, e80, hh⟩ := q_bind hh
        refine r_ldI 53 33 jd_Mo_supply_52 rfl e80 rfl ?_
        refine r_iadd 54 jd_Mo_supply_53 rfl ?_
        refine r_iload_n 55 2 jd_Mo_supply_54 rfl rfl ?_
        obtain ⟨x81, e82, hh⟩ := q_bind hh
        refine r_stI 56 34 jd_Mo_supply_55 rfl e82 rfl ?_
        refine r_aload_n 57 1 jd_Mo_supply_56 rfl rfl ?_
        obtain ⟨v83, e84, hh⟩ := q_bind hh
        refine r_getR 60 109 jd_Mo_supply_57 rfl e84 rfl ?_
        refine r_iload 62 0 jd_Mo_supply_60 rfl rfl ?_
        refine r_dup2IR 63 jd_Mo_supply_62 rfl ?_
        obtain ⟨v85, e86, hh⟩ := q_bind hh
        refine r_ldI 64 33 jd_Mo_supply_63 rfl e86 rfl ?_
        refine r_iconst 65 1 jd_Mo_supply_64 (by decide) rfl ?_
        refine r_iadd 66 jd_Mo_supply_65 rfl ?_
        obtain ⟨x87, e88, hh⟩ := q_bind hh
        refine r_stI 67 33 jd_Mo_supply_66 rfl e88 rfl ?_
        refine r_aload_n 68 1 jd_Mo_supply_67 rfl rfl ?_
        obtain ⟨v89, e90, hh⟩ := q_bind hh
        refine r_getR 71 108 jd_Mo_supply_68 rfl e90 rfl ?_
        refine r_iload 73 0 jd_Mo_supply_71 rfl rfl ?_
        obtain ⟨v91, e92, hh⟩ := q_bind hh
        refine r_ldI 74 32 jd_Mo_supply_73 rfl e92 rfl ?_
        refine r_istore 76 [(5, .int v91), (4, .int (v10 - 1)), (0, va_rf (some l0)), (3, .int l3)] jd_Mo_supply_74 (by decide) rfl rfl ?_
        refine r_aload_n 77 2 jd_Mo_supply_76 rfl rfl ?_
        obtain ⟨v93, e94, hh⟩ := q_bind hh
        refine r_getR 80 109 jd_Mo_supply_77 rfl e94 rfl ?_
        refine r_iload 82 1 jd_Mo_supply_80 rfl rfl ?_
        obtain ⟨v95, e96, hh⟩ := q_bind hh
        refine r_ldI 83 33 jd_Mo_supply_82 rfl e96 rfl ?_
        refine r_aload_n 84 2 jd_Mo_supply_83 rfl rfl ?_
        obtain ⟨v97, e98, hh⟩ := q_bind hh
        refine r_getR 87 87 jd_Mo_supply_84 rfl e98 rfl ?_
        refine r_iload 89 0 jd_Mo_supply_87 rfl rfl ?_
        obtain ⟨v99, e100, hh⟩ := q_bind hh
        refine r_ldI 90 14 jd_Mo_supply_89 rfl e100 rfl ?_
        rcases q_ite hh with ⟨c101, hh⟩ | ⟨c101, hh⟩
        · refine r_ic_t 165 jd_Mo_supply_90 rfl c101 ?_
          refine r_aload_n 166 2 jd_Mo_supply_165 rfl rfl ?_
          obtain ⟨v102, e103, hh⟩ := q_bind hh
          refine r_getR 169 84 jd_Mo_supply_166 rfl e103 rfl ?_
          refine r_iload 171 0 jd_Mo_supply_169 rfl rfl ?_
          obtain ⟨v104, e105, hh⟩ := q_bind hh
          refine r_ldI 172 11 jd_Mo_supply_171 rfl e105 rfl ?_
          refine r_bipush 174 8 jd_Mo_supply_172 (by decide) rfl ?_
          refine r_iand 175 jd_Mo_supply_174 rfl ?_
          rcases q_ite hh with ⟨c106, hh⟩ | ⟨c106, hh⟩
          · refine r_if_t 181 jd_Mo_supply_175 rfl c106 ?_
            refine r_aload_n 182 2 jd_Mo_supply_181 rfl rfl ?_
            refine r_aload_n 183 2 jd_Mo_supply_182 rfl rfl ?_
            obtain ⟨v107, e108, hh⟩ := q_bind hh
            refine r_getR 186 107 jd_Mo_supply_183 rfl e108 rfl ?_
            refine r_iload 188 1 jd_Mo_supply_186 rfl rfl ?_
            obtain ⟨v109, e110, hh⟩ := q_bind hh
            refine r_ldI 189 31 jd_Mo_supply_188 rfl e110 rfl ?_
            refine r_iload 191 0 jd_Mo_supply_189 rfl rfl ?_
            refine r_iload 193 1 jd_Mo_supply_191 rfl rfl ?_
            obtain ⟨b113, e114, hh⟩ := q_bind hh
            obtain ⟨p111, e112, hh⟩ := q_bind hh
            refine r_cV (rest := []) 196 133 11 [.int v109, .int v91, .int (v10 - 1)] [.int p111.2] jd_Mo_supply_193 rfl e114 rfl rfl rfl rfl (q_s8 (Nat.le_of_ble_eq_true rfl)) (q_call_le (Nat.le_of_ble_eq_true rfl) (jm_Mo_make e112)) rfl rfl ?_
            refine r_istore_n 197 [(3, .int p111.2), (5, .int v91), (4, .int (v10 - 1)), (0, va_rf (some l0))] jd_Mo_supply_196 (by decide) rfl rfl ?_
            refine r_aload_n 198 3 jd_Mo_supply_197 rfl rfl ?_
            refine r_dupR 199 jd_Mo_supply_198 rfl ?_
            obtain ⟨v115, e116, hh⟩ := q_bind hh
            refine r_getI 202 119 jd_Mo_supply_199 rfl e116 rfl ?_
            refine r_iconst 203 1 jd_Mo_supply_202 (by decide) rfl ?_
            refine r_isub 204 jd_Mo_supply_203 rfl ?_
            obtain ⟨x117, e118, hh⟩ := q_bind hh
            refine r_putI 207 119 jd_Mo_supply_204 rfl rfl (Or.inl rfl) e118 rfl ?_
            refine r_goto 12 jd_Mo_supply_207 rfl ?_
            refine q_sub [3, 0] rfl ?_
            exact hrc _ _ _ hh
          · refine r_if_f 178 181 jd_Mo_supply_175 rfl c106 rfl ?_
            refine r_bipush 180 (-6) jd_Mo_supply_178 (by decide) rfl ?_
            cases hh
            exact r_iret jd_Mo_supply_180 rfl ⟨rfl, rfl⟩
        · refine r_ic_f 93 165 jd_Mo_supply_90 rfl c101 rfl ?_
          refine r_iconst 94 3 jd_Mo_supply_93 (by decide) rfl ?_
          refine r_iload 96 0 jd_Mo_supply_94 rfl rfl ?_
          refine r_imul 97 jd_Mo_supply_96 rfl ?_
          refine r_aload_n 98 2 jd_Mo_supply_97 rfl rfl ?_
          obtain ⟨v119, e120, hh⟩ := q_bind hh
          refine r_getR 101 109 jd_Mo_supply_98 rfl e120 rfl ?_
          refine r_iload 103 1 jd_Mo_supply_101 rfl rfl ?_
          obtain ⟨v121, e122, hh⟩ := q_bind hh
          refine r_ldI 104 33 jd_Mo_supply_103 rfl e122 rfl ?_
          refine r_iadd 105 jd_Mo_supply_104 rfl ?_
          refine r_istore 107 [(6, .int (((3 : Int32) * v91) + v121)), (5, .int v91), (4, .int (v10 - 1)), (0, va_rf (some l0)), (3, .int l3)] jd_Mo_supply_105 (by decide) rfl rfl ?_
          refine r_aload_n 108 3 jd_Mo_supply_107 rfl rfl ?_
          refine r_aload_n 109 3 jd_Mo_supply_108 rfl rfl ?_
          obtain ⟨v123, e124, hh⟩ := q_bind hh
          refine r_getR 112 107 jd_Mo_supply_109 rfl e124 rfl ?_
          refine r_iload 114 2 jd_Mo_supply_112 rfl rfl ?_
          obtain ⟨v125, e126, hh⟩ := q_bind hh
          refine r_ldI 115 31 jd_Mo_supply_114 rfl e126 rfl ?_
          refine r_aload_n 116 3 jd_Mo_supply_115 rfl rfl ?_
          obtain ⟨v127, e128, hh⟩ := q_bind hh
          refine r_getR 119 88 jd_Mo_supply_116 rfl e128 rfl ?_
          refine r_iload 121 0 jd_Mo_supply_119 rfl rfl ?_
          obtain ⟨v129, e130, hh⟩ := q_bind hh
          refine r_ldI 122 15 jd_Mo_supply_121 rfl e130 rfl ?_
          refine r_aload_n 123 3 jd_Mo_supply_122 rfl rfl ?_
          obtain ⟨v131, e132, hh⟩ := q_bind hh
          refine r_getR 126 89 jd_Mo_supply_123 rfl e132 rfl ?_
          refine r_iload 128 0 jd_Mo_supply_126 rfl rfl ?_
          obtain ⟨v133, e134, hh⟩ := q_bind hh
          refine r_ldI 129 16 jd_Mo_supply_128 rfl e134 rfl ?_
          refine r_aload_n 130 3 jd_Mo_supply_129 rfl rfl ?_
          obtain ⟨v135, e136, hh⟩ := q_bind hh
          refine r_getR 133 90 jd_Mo_supply_130 rfl e136 rfl ?_
          refine r_iload 135 0 jd_Mo_supply_133 rfl rfl ?_
          obtain ⟨v137, e138, hh⟩ := q_bind hh
          refine r_ldI 136 17 jd_Mo_supply_135 rfl e138 rfl ?_
          obtain ⟨b141, e142, hh⟩ := q_bind hh
          obtain ⟨p139, e140, hh⟩ := q_bind hh
          refine r_cV (rest := []) 139 129 11 [.int v125, .int v129, .int v133, .int v137] [.int p139.2] jd_Mo_supply_136 rfl e142 rfl rfl rfl rfl (q_s8 (Nat.le_of_ble_eq_true rfl)) (q_call_le (Nat.le_of_ble_eq_true rfl) (jm_Mo_find e140)) rfl rfl ?_
          refine r_istore 141 [(7, .int p139.2), (6, .int (((3 : Int32) * v91) + v121)), (5, .int v91), (4, .int (v10 - 1)), (0, va_rf (some l0)), (3, .int l3)] jd_Mo_supply_139 (by decide) rfl rfl ?_
          refine r_iload 143 0 jd_Mo_supply_141 rfl rfl ?_
          rcases q_ite hh with ⟨c143, hh⟩ | ⟨c143, hh⟩
          · refine r_if_t 151 jd_Mo_supply_143 rfl c143 ?_
            refine r_aload_n 152 4 jd_Mo_supply_151 rfl rfl ?_
            refine r_aload_n 153 4 jd_Mo_supply_152 rfl rfl ?_
            obtain ⟨v144, e145, hh⟩ := q_bind hh
            refine r_getI 156 118 jd_Mo_supply_153 rfl e145 rfl ?_
            refine r_iload 158 0 jd_Mo_supply_156 rfl rfl ?_
            obtain ⟨b148, e149, hh⟩ := q_bind hh
            obtain ⟨p146, e147, hh⟩ := q_bind hh
            refine r_cV (rest := []) 161 132 11 [.int v144, .int p139.2] [.int p146.2] jd_Mo_supply_158 rfl e149 rfl rfl rfl rfl (q_s8 (Nat.le_of_ble_eq_true rfl)) (q_call_le (Nat.le_of_ble_eq_true rfl) (jm_Mo_start e147)) rfl rfl ?_
            refine r_istore_n 162 [(3, .int p146.2), (7, .int p139.2), (6, .int (((3 : Int32) * v91) + v121)), (5, .int v91), (4, .int (v10 - 1)), (0, va_rf (some l0))] jd_Mo_supply_161 (by decide) rfl rfl ?_
            refine r_goto 207 jd_Mo_supply_162 rfl ?_
            refine r_goto 12 jd_Mo_supply_207 rfl ?_
            refine q_sub [5, 0] rfl ?_
            exact hrc _ _ _ hh
          · refine r_if_f 146 151 jd_Mo_supply_143 rfl c143 rfl ?_
            refine r_iload 148 0 jd_Mo_supply_146 rfl rfl ?_
            refine r_goto 161 jd_Mo_supply_148 rfl ?_
            refine r_istore_n 162 [(3, .int p139.2), (7, .int p139.2), (6, .int (((3 : Int32) * v91) + v121)), (5, .int v91), (4, .int (v10 - 1)), (0, va_rf (some l0))] jd_Mo_supply_161 (by decide) rfl rfl ?_
            refine r_goto 207 jd_Mo_supply_162 rfl ?_
            refine r_goto 12 jd_Mo_supply_207 rfl ?_
            refine q_sub [5, 0] rfl ?_
            exact hrc _ _ _ hh
    · refine r_ic_f 32 34 jd_Mo_supply_29 rfl c12 rfl ?_
      refine r_iload_n 33 2 jd_Mo_supply_32 rfl rfl ?_
      cases hh
      exact r_iret jd_Mo_supply_33 rfl ⟨rfl, rfl⟩
theorem jm_Mo_supply_L12 {p : q_S × Int32} : ∀ (n : Nat) (x : q_S) (l0 : Nat) (l3 : Int32), jf_Mo_supply_L12 n x l0 l3 = some p → q_X (q_call 3) (fun y o => y = p.1 ∧ o = some (.int p.2)) jq_Mo_supply 12 [(0, va_rf (some l0)), (3, .int l3)] [] x
  | 0, _, _, _, hh => nomatch hh
  | n + 1, x, l0, l3, hh => jm_Mo_supply_B12 (jm_Mo_supply_L12 n) x l0 l3 hh
def jf_Mo_supply (x : q_S) (a0 : Nat) (a1 : Int32) (a2 : Int32) : Option (q_S × Int32) :=
  (q_pI x (some a0) 11 32 0).bind fun x1 =>
  (q_av x1 (some a0) 11).bind fun b5 =>
  (jf_Mo_start x1 b5 a1 a2).bind fun p3 =>
  jf_Mo_supply_L12 lpK p3.1 a0 p3.2
theorem jm_Mo_supply {x : q_S} {a0 : Nat} {a1 : Int32} {a2 : Int32} {p : q_S × Int32} (hh : jf_Mo_supply x a0 a1 a2 = some p) : q_call 4 jq_Mo_supply [va_rf (some a0), .int a1, .int a2] x p.1 (some (.int p.2)) := by
  unfold jf_Mo_supply at hh
  refine ⟨List.mem_of_getElem? (i := 134) rfl, Nat.le_of_ble_eq_true rfl, List.forall_mem_cons.mpr ⟨rfl, List.forall_mem_cons.mpr ⟨rfl, List.forall_mem_cons.mpr ⟨rfl, fun _ h => by cases h⟩⟩⟩, ?_⟩
  show q_X (q_call 3) _ jq_Mo_supply 0 [(0, va_rf (some a0)), (1, .int a1), (2, .int a2)] [] x
  refine r_aload_n 1 0 jd_Mo_supply_0 rfl rfl ?_
  refine r_iconst 2 0 jd_Mo_supply_1 (by decide) rfl ?_
  obtain ⟨x1, e2, hh⟩ := q_bind hh
  refine r_putI 5 119 jd_Mo_supply_2 rfl rfl (Or.inl rfl) e2 rfl ?_
  refine r_aload_n 6 0 jd_Mo_supply_5 rfl rfl ?_
  refine r_iload_n 7 1 jd_Mo_supply_6 rfl rfl ?_
  refine r_iload_n 8 2 jd_Mo_supply_7 rfl rfl ?_
  obtain ⟨b5, e6, hh⟩ := q_bind hh
  obtain ⟨p3, e4, hh⟩ := q_bind hh
  refine r_cV (rest := []) 11 132 11 [.int a1, .int a2] [.int p3.2] jd_Mo_supply_8 rfl e6 rfl rfl rfl rfl (q_s8 (Nat.le_of_ble_eq_true rfl)) (q_call_le (Nat.le_of_ble_eq_true rfl) (jm_Mo_start e4)) rfl rfl ?_
  refine r_istore_n 12 [(3, .int p3.2), (0, va_rf (some a0)), (1, .int a1), (2, .int a2)] jd_Mo_supply_11 (by decide) rfl rfl ?_
  refine q_sub [1, 0] rfl ?_
  exact jm_Mo_supply_L12 lpK _ _ _ hh
-- BeanContextsModel.get(IIII)I
def jf_Mo_get (x : q_S) (a0 : Nat) (a1 : Int32) (a2 : Int32) (a3 : Int32) (a4 : Int32) : Option (q_S × Int32) :=
  (q_av x (some a0) 11).bind fun b3 =>
  (jf_Mo_cachedFor x b3 a1).bind fun p1 =>
  if p1.2 < 0 then
    some (p1.1, (-1))
  else
    (jf_Mo_asked p1.1 a2 a3 a4).bind fun p6 =>
    if p6.2 = 0 then
      some (p6.1, (-1))
    else
      (q_av p6.1 (some a0) 11).bind fun b11 =>
      (jf_Mo_find p6.1 b11 p1.2 a2 a3 a4).bind fun p9 =>
      if 0 ≤ p9.2 then
        (q_gI p9.1 (some a0) 11 37).bind fun v14 =>
        (q_av p9.1 (some a0) 11).bind fun b18 =>
        (jf_Mo_supply p9.1 b18 v14 p9.2).bind fun p16 =>
        some (p16.1, p16.2)
      else
        some (p9.1, p9.2)
theorem jm_Mo_get {x : q_S} {a0 : Nat} {a1 : Int32} {a2 : Int32} {a3 : Int32} {a4 : Int32} {p : q_S × Int32} (hh : jf_Mo_get x a0 a1 a2 a3 a4 = some p) : q_call 5 jq_Mo_get [va_rf (some a0), .int a1, .int a2, .int a3, .int a4] x p.1 (some (.int p.2)) := by
  unfold jf_Mo_get at hh
  refine ⟨List.mem_of_getElem? (i := 130) rfl, Nat.le_of_ble_eq_true rfl, List.forall_mem_cons.mpr ⟨rfl, List.forall_mem_cons.mpr ⟨rfl, List.forall_mem_cons.mpr ⟨rfl, List.forall_mem_cons.mpr ⟨rfl, List.forall_mem_cons.mpr ⟨rfl, fun _ h => by cases h⟩⟩⟩⟩⟩, ?_⟩
  show q_X (q_call 4) _ jq_Mo_get 0 [(0, va_rf (some a0)), (1, .int a1), (2, .int a2), (3, .int a3), (4, .int a4)] [] x
  refine r_aload_n 1 0 jd_Mo_get_0 rfl rfl ?_
  refine r_iload_n 2 1 jd_Mo_get_1 rfl rfl ?_
  obtain ⟨b3, e4, hh⟩ := q_bind hh
  obtain ⟨p1, e2, hh⟩ := q_bind hh
  refine r_cV (rest := []) 5 117 11 [.int a1] [.int p1.2] jd_Mo_get_2 rfl e4 rfl rfl rfl rfl (q_s8 (Nat.le_of_ble_eq_true rfl)) (q_call_le (Nat.le_of_ble_eq_true rfl) (jm_Mo_cachedFor e2)) rfl rfl ?_
  refine r_istore 7 [(5, .int p1.2), (0, va_rf (some a0)), (1, .int a1), (2, .int a2), (3, .int a3), (4, .int a4)] jd_Mo_get_5 (by decide) rfl rfl ?_
  refine r_iload 9 0 jd_Mo_get_7 rfl rfl ?_
  rcases q_ite hh with ⟨c5, hh⟩ | ⟨c5, hh⟩
  · refine r_if_t 22 jd_Mo_get_9 rfl c5 ?_
    refine r_iconst 23 (-1) jd_Mo_get_22 (by decide) rfl ?_
    cases hh
    exact r_iret jd_Mo_get_23 rfl ⟨rfl, rfl⟩
  · refine r_if_f 12 22 jd_Mo_get_9 rfl c5 rfl ?_
    refine r_iload_n 13 3 jd_Mo_get_12 rfl rfl ?_
    refine r_iload_n 14 4 jd_Mo_get_13 rfl rfl ?_
    refine r_iload 16 5 jd_Mo_get_14 rfl rfl ?_
    obtain ⟨p6, e7, hh⟩ := q_bind hh
    refine r_cS (rest := []) 19 22 [.int a2, .int a3, .int a4] [.int p6.2] jd_Mo_get_16 rfl rfl rfl (q_s8 (Nat.le_of_ble_eq_true rfl)) (q_call_le (Nat.le_of_ble_eq_true rfl) (jm_Mo_asked e7)) rfl rfl ?_
    rcases q_ite hh with ⟨c8, hh⟩ | ⟨c8, hh⟩
    · refine r_if_f 22 24 jd_Mo_get_19 rfl (fun z => z c8) rfl ?_
      refine r_iconst 23 (-1) jd_Mo_get_22 (by decide) rfl ?_
      cases hh
      exact r_iret jd_Mo_get_23 rfl ⟨rfl, rfl⟩
    · refine r_if_t 24 jd_Mo_get_19 rfl c8 ?_
      refine r_aload_n 25 1 jd_Mo_get_24 rfl rfl ?_
      refine r_iload 27 0 jd_Mo_get_25 rfl rfl ?_
      refine r_iload_n 28 3 jd_Mo_get_27 rfl rfl ?_
      refine r_iload_n 29 4 jd_Mo_get_28 rfl rfl ?_
      refine r_iload 31 5 jd_Mo_get_29 rfl rfl ?_
      obtain ⟨b11, e12, hh⟩ := q_bind hh
      obtain ⟨p9, e10, hh⟩ := q_bind hh
      refine r_cV (rest := []) 34 129 11 [.int p1.2, .int a2, .int a3, .int a4] [.int p9.2] jd_Mo_get_31 rfl e12 rfl rfl rfl rfl (q_s8 (Nat.le_of_ble_eq_true rfl)) (q_call_le (Nat.le_of_ble_eq_true rfl) (jm_Mo_find e10)) rfl rfl ?_
      refine r_istore 36 [(6, .int p9.2), (5, .int p1.2), (0, va_rf (some a0)), (1, .int a1), (2, .int a2), (3, .int a3), (4, .int a4)] jd_Mo_get_34 (by decide) rfl rfl ?_
      refine r_iload 38 0 jd_Mo_get_36 rfl rfl ?_
      rcases q_ite hh with ⟨c13, hh⟩ | ⟨c13, hh⟩
      · refine r_if_t 46 jd_Mo_get_38 rfl c13 ?_
        refine r_aload_n 47 2 jd_Mo_get_46 rfl rfl ?_
        refine r_aload_n 48 2 jd_Mo_get_47 rfl rfl ?_
        obtain ⟨v14, e15, hh⟩ := q_bind hh
        refine r_getI 51 118 jd_Mo_get_48 rfl e15 rfl ?_
        refine r_iload 53 0 jd_Mo_get_51 rfl rfl ?_
        obtain ⟨b18, e19, hh⟩ := q_bind hh
        obtain ⟨p16, e17, hh⟩ := q_bind hh
        refine r_cV (rest := []) 56 130 11 [.int v14, .int p9.2] [.int p16.2] jd_Mo_get_53 rfl e19 rfl rfl rfl rfl (q_s8 (Nat.le_of_ble_eq_true rfl)) (q_call_le (Nat.le_of_ble_eq_true rfl) (jm_Mo_supply e17)) rfl rfl ?_
        cases hh
        exact r_iret jd_Mo_get_56 rfl ⟨rfl, rfl⟩
      · refine r_if_f 41 46 jd_Mo_get_38 rfl c13 rfl ?_
        refine r_iload 43 0 jd_Mo_get_41 rfl rfl ?_
        refine r_goto 56 jd_Mo_get_43 rfl ?_
        cases hh
        exact r_iret jd_Mo_get_56 rfl ⟨rfl, rfl⟩
-- BeanContextsModel.need(IIII)Z
def jf_Mo_need (x : q_S) (a0 : Nat) (a1 : Int32) (a2 : Int32) (a3 : Int32) (a4 : Int32) : Option (q_S × Int32) :=
  (q_gI x (some a0) 11 2).bind fun v1 =>
  (jf_Mo_in x a1 0 (v1 - 1)).bind fun p3 =>
  if p3.2 = 0 then
    some (p3.1, 0)
  else
    (jf_Mo_asked p3.1 a2 a3 a4).bind fun p6 =>
    if p6.2 = 0 then
      some (p6.1, 0)
    else
      (q_gR p6.1 (some a0) 11 7).bind fun v9 =>
      (q_lI p6.1 14 v9 a1).bind fun v11 =>
      if v11 = 3 then
        some (p6.1, 0)
      else
        (q_gI p6.1 (some a0) 11 11).bind fun v14 =>
        if v14 ≤ 0 then
          (q_gR p6.1 (some a0) 11 7).bind fun v17 =>
          (q_lI p6.1 14 v17 a1).bind fun v19 =>
          (q_gR p6.1 (some a0) 11 8).bind fun v21 =>
          (q_sI p6.1 15 v21 (((3 : Int32) * a1) + v19) a2).bind fun x23 =>
          (q_gR x23 (some a0) 11 9).bind fun v25 =>
          (q_sI x23 16 v25 (((3 : Int32) * a1) + v19) a3).bind fun x27 =>
          (q_gR x27 (some a0) 11 10).bind fun v29 =>
          (q_sI x27 17 v29 (((3 : Int32) * a1) + v19) a4).bind fun x31 =>
          (q_gR x31 (some a0) 11 7).bind fun v33 =>
          (q_lI x31 14 v33 a1).bind fun v35 =>
          (q_sI x31 14 v33 a1 (v35 + 1)).bind fun x37 =>
          some (x37, 1)
        else
          some (p6.1, 0)
theorem jm_Mo_need {x : q_S} {a0 : Nat} {a1 : Int32} {a2 : Int32} {a3 : Int32} {a4 : Int32} {p : q_S × Int32} (hh : jf_Mo_need x a0 a1 a2 a3 a4 = some p) : q_call 3 jq_Mo_need [va_rf (some a0), .int a1, .int a2, .int a3, .int a4] x p.1 (some (.int p.2)) := by
  unfold jf_Mo_need at hh
  refine ⟨List.mem_of_getElem? (i := 138) rfl, Nat.le_of_ble_eq_true rfl, List.forall_mem_cons.mpr ⟨rfl, List.forall_mem_cons.mpr ⟨rfl, List.forall_mem_cons.mpr ⟨rfl, List.forall_mem_cons.mpr ⟨rfl, List.forall_mem_cons.mpr ⟨rfl, fun _ h => by cases h⟩⟩⟩⟩⟩, ?_⟩
  show q_X (q_call 2) _ jq_Mo_need 0 [(0, va_rf (some a0)), (1, .int a1), (2, .int a2), (3, .int a3), (4, .int a4)] [] x
  refine r_iload_n 1 1 jd_Mo_need_0 rfl rfl ?_
  refine r_iconst 2 0 jd_Mo_need_1 (by decide) rfl ?_
  refine r_aload_n 3 0 jd_Mo_need_2 rfl rfl ?_
  obtain ⟨v1, e2, hh⟩ := q_bind hh
  refine r_getI 6 116 jd_Mo_need_3 rfl e2 rfl ?_
  refine r_iconst 7 1 jd_Mo_need_6 (by decide) rfl ?_
  refine r_isub 8 jd_Mo_need_7 rfl ?_
  obtain ⟨p3, e4, hh⟩ := q_bind hh
  refine r_cS (rest := []) 11 21 [.int a1, .int 0, .int (v1 - 1)] [.int p3.2] jd_Mo_need_8 rfl rfl rfl (q_s8 (Nat.le_of_ble_eq_true rfl)) (q_call_le (Nat.le_of_ble_eq_true rfl) (jm_Mo_in e4)) rfl rfl ?_
  rcases q_ite hh with ⟨c5, hh⟩ | ⟨c5, hh⟩
  · refine r_if_t 41 jd_Mo_need_11 rfl c5 ?_
    refine r_iconst 42 0 jd_Mo_need_41 (by decide) rfl ?_
    cases hh
    exact r_zret jd_Mo_need_42 rfl (by decide) ⟨rfl, rfl⟩
  · refine r_if_f 14 41 jd_Mo_need_11 rfl c5 rfl ?_
    refine r_iload_n 15 2 jd_Mo_need_14 rfl rfl ?_
    refine r_iload_n 16 3 jd_Mo_need_15 rfl rfl ?_
    refine r_iload 18 4 jd_Mo_need_16 rfl rfl ?_
    obtain ⟨p6, e7, hh⟩ := q_bind hh
    refine r_cS (rest := []) 21 22 [.int a2, .int a3, .int a4] [.int p6.2] jd_Mo_need_18 rfl rfl rfl (q_s8 (Nat.le_of_ble_eq_true rfl)) (q_call_le (Nat.le_of_ble_eq_true rfl) (jm_Mo_asked e7)) rfl rfl ?_
    rcases q_ite hh with ⟨c8, hh⟩ | ⟨c8, hh⟩
    · refine r_if_t 41 jd_Mo_need_21 rfl c8 ?_
      refine r_iconst 42 0 jd_Mo_need_41 (by decide) rfl ?_
      cases hh
      exact r_zret jd_Mo_need_42 rfl (by decide) ⟨rfl, rfl⟩
    · refine r_if_f 24 41 jd_Mo_need_21 rfl c8 rfl ?_
      refine r_aload_n 25 0 jd_Mo_need_24 rfl rfl ?_
      obtain ⟨v9, e10, hh⟩ := q_bind hh
      refine r_getR 28 87 jd_Mo_need_25 rfl e10 rfl ?_
      refine r_iload_n 29 1 jd_Mo_need_28 rfl rfl ?_
      obtain ⟨v11, e12, hh⟩ := q_bind hh
      refine r_ldI 30 14 jd_Mo_need_29 rfl e12 rfl ?_
      refine r_iconst 31 3 jd_Mo_need_30 (by decide) rfl ?_
      rcases q_ite hh with ⟨c13, hh⟩ | ⟨c13, hh⟩
      · refine r_ic_t 41 jd_Mo_need_31 rfl c13 ?_
        refine r_iconst 42 0 jd_Mo_need_41 (by decide) rfl ?_
        cases hh
        exact r_zret jd_Mo_need_42 rfl (by decide) ⟨rfl, rfl⟩
      · refine r_ic_f 34 41 jd_Mo_need_31 rfl c13 rfl ?_
        refine r_aload_n 35 0 jd_Mo_need_34 rfl rfl ?_
        obtain ⟨v14, e15, hh⟩ := q_bind hh
        refine r_getI 38 115 jd_Mo_need_35 rfl e15 rfl ?_
        rcases q_ite hh with ⟨c16, hh⟩ | ⟨c16, hh⟩
        · refine r_if_t 43 jd_Mo_need_38 rfl c16 ?_
          refine r_iconst 44 3 jd_Mo_need_43 (by decide) rfl ?_
          refine r_iload_n 45 1 jd_Mo_need_44 rfl rfl ?_
          refine r_imul 46 jd_Mo_need_45 rfl ?_
          refine r_aload_n 47 0 jd_Mo_need_46 rfl rfl ?_
          obtain ⟨v17, e18, hh⟩ := q_bind hh
          refine r_getR 50 87 jd_Mo_need_47 rfl e18 rfl ?_
          refine r_iload_n 51 1 jd_Mo_need_50 rfl rfl ?_
          obtain ⟨v19, e20, hh⟩ := q_bind hh
          refine r_ldI 52 14 jd_Mo_need_51 rfl e20 rfl ?_
          refine r_iadd 53 jd_Mo_need_52 rfl ?_
          refine r_istore 55 [(5, .int (((3 : Int32) * a1) + v19)), (0, va_rf (some a0)), (1, .int a1), (2, .int a2), (3, .int a3), (4, .int a4)] jd_Mo_need_53 (by decide) rfl rfl ?_
          refine r_aload_n 56 1 jd_Mo_need_55 rfl rfl ?_
          obtain ⟨v21, e22, hh⟩ := q_bind hh
          refine r_getR 59 88 jd_Mo_need_56 rfl e22 rfl ?_
          refine r_iload 61 0 jd_Mo_need_59 rfl rfl ?_
          refine r_iload_n 62 3 jd_Mo_need_61 rfl rfl ?_
          obtain ⟨x23, e24, hh⟩ := q_bind hh
          refine r_stI 63 15 jd_Mo_need_62 rfl e24 rfl ?_
          refine r_aload_n 64 1 jd_Mo_need_63 rfl rfl ?_
          obtain ⟨v25, e26, hh⟩ := q_bind hh
          refine r_getR 67 89 jd_Mo_need_64 rfl e26 rfl ?_
          refine r_iload 69 0 jd_Mo_need_67 rfl rfl ?_
          refine r_iload_n 70 4 jd_Mo_need_69 rfl rfl ?_
          obtain ⟨x27, e28, hh⟩ := q_bind hh
          refine r_stI 71 16 jd_Mo_need_70 rfl e28 rfl ?_
          refine r_aload_n 72 1 jd_Mo_need_71 rfl rfl ?_
          obtain ⟨v29, e30, hh⟩ := q_bind hh
          refine r_getR 75 90 jd_Mo_need_72 rfl e30 rfl ?_
          refine r_iload 77 0 jd_Mo_need_75 rfl rfl ?_
          refine r_iload 79 5 jd_Mo_need_77 rfl rfl ?_
          obtain ⟨x31, e32, hh⟩ := q_bind hh
          refine r_stI 80 17 jd_Mo_need_79 rfl e32 rfl ?_
          refine r_aload_n 81 1 jd_Mo_need_80 rfl rfl ?_
          obtain ⟨v33, e34, hh⟩ := q_bind hh
          refine r_getR 84 87 jd_Mo_need_81 rfl e34 rfl ?_
          refine r_iload_n 85 2 jd_Mo_need_84 rfl rfl ?_
          refine r_dup2IR 86 jd_Mo_need_85 rfl ?_
          obtain ⟨v35, e36, hh⟩ := q_bind hh
          refine r_ldI 87 14 jd_Mo_need_86 rfl e36 rfl ?_
          refine r_iconst 88 1 jd_Mo_need_87 (by decide) rfl ?_
          refine r_iadd 89 jd_Mo_need_88 rfl ?_
          obtain ⟨x37, e38, hh⟩ := q_bind hh
          refine r_stI 90 14 jd_Mo_need_89 rfl e38 rfl ?_
          refine r_iconst 91 1 jd_Mo_need_90 (by decide) rfl ?_
          cases hh
          exact r_zret jd_Mo_need_91 rfl (by decide) ⟨rfl, rfl⟩
        · refine r_if_f 41 43 jd_Mo_need_38 rfl c16 rfl ?_
          refine r_iconst 42 0 jd_Mo_need_41 (by decide) rfl ?_
          cases hh
          exact r_zret jd_Mo_need_42 rfl (by decide) ⟨rfl, rfl⟩
-- BeanContextsModel.recorded(II)J
def jf_Mo_recorded (x : q_S) (a0 : Nat) (a1 : Int32) (a2 : Int32) : Option (q_S × Int64) :=
  (q_av x (some a0) 11).bind fun b3 =>
  (jf_Mo_live x b3 a1).bind fun p1 =>
  if p1.2 = 0 then
    some (p1.1, 4294967296)
  else
    (q_gR p1.1 (some a0) 11 26).bind fun v6 =>
    (q_lI p1.1 102 v6 a1).bind fun v8 =>
    if v8 = 0 then
      some (p1.1, 4294967296)
    else
      (jf_Mo_in p1.1 a2 0 1).bind fun p11 =>
      if p11.2 = 0 then
        some (p11.1, 4294967296)
      else
        if a2 = 0 then
          (q_gR p11.1 (some a0) 11 30).bind fun v19 =>
          (q_lI p11.1 29 v19 a1).bind fun v21 =>
          some (p11.1, v21.toInt64)
        else
          (q_gR p11.1 (some a0) 11 31).bind fun v15 =>
          (q_lI p11.1 30 v15 a1).bind fun v17 =>
          some (p11.1, v17.toInt64)
theorem jm_Mo_recorded {x : q_S} {a0 : Nat} {a1 : Int32} {a2 : Int32} {p : q_S × Int64} (hh : jf_Mo_recorded x a0 a1 a2 = some p) : q_call 3 jq_Mo_recorded [va_rf (some a0), .int a1, .int a2] x p.1 (some (.long p.2)) := by
  unfold jf_Mo_recorded at hh
  refine ⟨List.mem_of_getElem? (i := 139) rfl, Nat.le_of_ble_eq_true rfl, List.forall_mem_cons.mpr ⟨rfl, List.forall_mem_cons.mpr ⟨rfl, List.forall_mem_cons.mpr ⟨rfl, fun _ h => by cases h⟩⟩⟩, ?_⟩
  show q_X (q_call 2) _ jq_Mo_recorded 0 [(0, va_rf (some a0)), (1, .int a1), (2, .int a2)] [] x
  refine r_aload_n 1 0 jd_Mo_recorded_0 rfl rfl ?_
  refine r_iload_n 2 1 jd_Mo_recorded_1 rfl rfl ?_
  obtain ⟨b3, e4, hh⟩ := q_bind hh
  obtain ⟨p1, e2, hh⟩ := q_bind hh
  refine r_cV (rest := []) 5 115 11 [.int a1] [.int p1.2] jd_Mo_recorded_2 rfl e4 rfl rfl rfl rfl (q_s8 (Nat.le_of_ble_eq_true rfl)) (q_call_le (Nat.le_of_ble_eq_true rfl) (jm_Mo_live e2)) rfl rfl ?_
  rcases q_ite hh with ⟨c5, hh⟩ | ⟨c5, hh⟩
  · refine r_if_t 26 jd_Mo_recorded_5 rfl c5 ?_
    refine r_ldc2 29 1 jd_Mo_recorded_26 rfl rfl ?_
    cases hh
    exact r_lret jd_Mo_recorded_29 rfl ⟨rfl, rfl⟩
  · refine r_if_f 8 26 jd_Mo_recorded_5 rfl c5 rfl ?_
    refine r_aload_n 9 0 jd_Mo_recorded_8 rfl rfl ?_
    obtain ⟨v6, e7, hh⟩ := q_bind hh
    refine r_getR 12 101 jd_Mo_recorded_9 rfl e7 rfl ?_
    refine r_iload_n 13 1 jd_Mo_recorded_12 rfl rfl ?_
    obtain ⟨v8, e9, hh⟩ := q_bind hh
    refine r_ldZ 14 102 jd_Mo_recorded_13 rfl e9 rfl ?_
    rcases q_ite hh with ⟨c10, hh⟩ | ⟨c10, hh⟩
    · refine r_if_t 26 jd_Mo_recorded_14 rfl c10 ?_
      refine r_ldc2 29 1 jd_Mo_recorded_26 rfl rfl ?_
      cases hh
      exact r_lret jd_Mo_recorded_29 rfl ⟨rfl, rfl⟩
    · refine r_if_f 17 26 jd_Mo_recorded_14 rfl c10 rfl ?_
      refine r_iload_n 18 2 jd_Mo_recorded_17 rfl rfl ?_
      refine r_iconst 19 0 jd_Mo_recorded_18 (by decide) rfl ?_
      refine r_iconst 20 1 jd_Mo_recorded_19 (by decide) rfl ?_
      obtain ⟨p11, e12, hh⟩ := q_bind hh
      refine r_cS (rest := []) 23 21 [.int a2, .int 0, .int 1] [.int p11.2] jd_Mo_recorded_20 rfl rfl rfl (q_s8 (Nat.le_of_ble_eq_true rfl)) (q_call_le (Nat.le_of_ble_eq_true rfl) (jm_Mo_in e12)) rfl rfl ?_
      rcases q_ite hh with ⟨c13, hh⟩ | ⟨c13, hh⟩
      · refine r_if_f 26 30 jd_Mo_recorded_23 rfl (fun z => z c13) rfl ?_
        refine r_ldc2 29 1 jd_Mo_recorded_26 rfl rfl ?_
        cases hh
        exact r_lret jd_Mo_recorded_29 rfl ⟨rfl, rfl⟩
      · refine r_if_t 30 jd_Mo_recorded_23 rfl c13 ?_
        refine r_iload_n 31 2 jd_Mo_recorded_30 rfl rfl ?_
        rcases q_ite hh with ⟨c14, hh⟩ | ⟨c14, hh⟩
        · refine r_if_f 34 44 jd_Mo_recorded_31 rfl (fun z => z c14) rfl ?_
          refine r_aload_n 35 0 jd_Mo_recorded_34 rfl rfl ?_
          obtain ⟨v19, e20, hh⟩ := q_bind hh
          refine r_getR 38 105 jd_Mo_recorded_35 rfl e20 rfl ?_
          refine r_iload_n 39 1 jd_Mo_recorded_38 rfl rfl ?_
          obtain ⟨v21, e22, hh⟩ := q_bind hh
          refine r_ldI 40 29 jd_Mo_recorded_39 rfl e22 rfl ?_
          refine r_i2l 41 jd_Mo_recorded_40 rfl ?_
          refine r_goto 51 jd_Mo_recorded_41 rfl ?_
          cases hh
          exact r_lret jd_Mo_recorded_51 rfl ⟨rfl, rfl⟩
        · refine r_if_t 44 jd_Mo_recorded_31 rfl c14 ?_
          refine r_aload_n 45 0 jd_Mo_recorded_44 rfl rfl ?_
          obtain ⟨v15, e16, hh⟩ := q_bind hh
          refine r_getR 48 106 jd_Mo_recorded_45 rfl e16 rfl ?_
          refine r_iload_n 49 1 jd_Mo_recorded_48 rfl rfl ?_
          obtain ⟨v17, e18, hh⟩ := q_bind hh
          refine r_ldI 50 30 jd_Mo_recorded_49 rfl e18 rfl ?_
          refine r_i2l 51 jd_Mo_recorded_50 rfl ?_
          cases hh
          exact r_lret jd_Mo_recorded_51 rfl ⟨rfl, rfl⟩
-- BeanContextsModel.isAbove(II)Z
def jf_Mo_isAbove (x : q_S) (a0 : Nat) (a1 : Int32) (a2 : Int32) : Option (q_S × Int32) :=
  (q_gR x (some a0) 11 18).bind fun v1 =>
  (q_lI x 23 v1 a2).bind fun v3 =>
  if v3 < 0 then
    some (x, 0)
  else
    if v3 = a1 then
      some (x, 1)
    else
      (q_gR x (some a0) 11 18).bind fun v7 =>
      (q_lI x 23 v7 v3).bind fun v9 =>
      if v9 = a1 then
        some (x, 1)
      else
        some (x, 0)
theorem jm_Mo_isAbove {x : q_S} {a0 : Nat} {a1 : Int32} {a2 : Int32} {p : q_S × Int32} (hh : jf_Mo_isAbove x a0 a1 a2 = some p) : q_call 1 jq_Mo_isAbove [va_rf (some a0), .int a1, .int a2] x p.1 (some (.int p.2)) := by
  unfold jf_Mo_isAbove at hh
  refine ⟨List.mem_of_getElem? (i := 144) rfl, Nat.le_of_ble_eq_true rfl, List.forall_mem_cons.mpr ⟨rfl, List.forall_mem_cons.mpr ⟨rfl, List.forall_mem_cons.mpr ⟨rfl, fun _ h => by cases h⟩⟩⟩, ?_⟩
  show q_X (q_call 0) _ jq_Mo_isAbove 0 [(0, va_rf (some a0)), (1, .int a1), (2, .int a2)] [] x
  refine r_aload_n 1 0 jd_Mo_isAbove_0 rfl rfl ?_
  obtain ⟨v1, e2, hh⟩ := q_bind hh
  refine r_getR 4 96 jd_Mo_isAbove_1 rfl e2 rfl ?_
  refine r_iload_n 5 2 jd_Mo_isAbove_4 rfl rfl ?_
  obtain ⟨v3, e4, hh⟩ := q_bind hh
  refine r_ldI 6 23 jd_Mo_isAbove_5 rfl e4 rfl ?_
  refine r_istore_n 7 [(3, .int v3), (0, va_rf (some a0)), (1, .int a1), (2, .int a2)] jd_Mo_isAbove_6 (by decide) rfl rfl ?_
  refine r_iload_n 8 0 jd_Mo_isAbove_7 rfl rfl ?_
  rcases q_ite hh with ⟨c5, hh⟩ | ⟨c5, hh⟩
  · refine r_if_t 30 jd_Mo_isAbove_8 rfl c5 ?_
    refine r_iconst 31 0 jd_Mo_isAbove_30 (by decide) rfl ?_
    cases hh
    exact r_zret jd_Mo_isAbove_31 rfl (by decide) ⟨rfl, rfl⟩
  · refine r_if_f 11 30 jd_Mo_isAbove_8 rfl c5 rfl ?_
    refine r_iload_n 12 0 jd_Mo_isAbove_11 rfl rfl ?_
    refine r_iload_n 13 2 jd_Mo_isAbove_12 rfl rfl ?_
    rcases q_ite hh with ⟨c6, hh⟩ | ⟨c6, hh⟩
    · refine r_ic_t 26 jd_Mo_isAbove_13 rfl c6 ?_
      refine r_iconst 27 1 jd_Mo_isAbove_26 (by decide) rfl ?_
      refine r_goto 31 jd_Mo_isAbove_27 rfl ?_
      cases hh
      exact r_zret jd_Mo_isAbove_31 rfl (by decide) ⟨rfl, rfl⟩
    · refine r_ic_f 16 26 jd_Mo_isAbove_13 rfl c6 rfl ?_
      refine r_aload_n 17 1 jd_Mo_isAbove_16 rfl rfl ?_
      obtain ⟨v7, e8, hh⟩ := q_bind hh
      refine r_getR 20 96 jd_Mo_isAbove_17 rfl e8 rfl ?_
      refine r_iload_n 21 0 jd_Mo_isAbove_20 rfl rfl ?_
      obtain ⟨v9, e10, hh⟩ := q_bind hh
      refine r_ldI 22 23 jd_Mo_isAbove_21 rfl e10 rfl ?_
      refine r_iload_n 23 2 jd_Mo_isAbove_22 rfl rfl ?_
      rcases q_ite hh with ⟨c11, hh⟩ | ⟨c11, hh⟩
      · refine r_ic_f 26 30 jd_Mo_isAbove_23 rfl (fun z => z c11) rfl ?_
        refine r_iconst 27 1 jd_Mo_isAbove_26 (by decide) rfl ?_
        refine r_goto 31 jd_Mo_isAbove_27 rfl ?_
        cases hh
        exact r_zret jd_Mo_isAbove_31 rfl (by decide) ⟨rfl, rfl⟩
      · refine r_ic_t 30 jd_Mo_isAbove_23 rfl c11 ?_
        refine r_iconst 31 0 jd_Mo_isAbove_30 (by decide) rfl ?_
        cases hh
        exact r_zret jd_Mo_isAbove_31 rfl (by decide) ⟨rfl, rfl⟩
-- BeanContextsModel.displace(I)V
def jf_Mo_displace_B4 (rc : q_S → Nat → Int32 → Int32 → Int32 → Option (q_S × Unit)) (x : q_S) (l0 : Nat) (l1 : Int32) (l2 : Int32) (l3 : Int32) : Option (q_S × Unit) :=
  (q_gI x (some l0) 11 16).bind fun v1 =>
  if v1 ≤ l3 then
    if l2 < 0 then
      some (x, ())
    else
      (q_av x (some l0) 11).bind fun b7 =>
      (jf_Mo_close x b7 l2).bind fun p5 =>
      some (p5.1, ())
  else
    (q_gR x (some l0) 11 19).bind fun v9 =>
    (q_lI x 101 v9 l3).bind fun v11 =>
    if v11 = 0 then
      rc x l0 l1 l2 (l3 + 1)
    else
      (q_av x (some l0) 11).bind fun b17 =>
      (jf_Mo_isAbove x b17 l3 l1).bind fun p15 =>
      if p15.2 = 0 then
        if l2 < 0 then
          rc p15.1 l0 l1 l3 (l3 + 1)
        else
          (q_gR p15.1 (some l0) 11 20).bind fun v23 =>
          (q_lI p15.1 24 v23 l3).bind fun v25 =>
          (q_gR p15.1 (some l0) 11 20).bind fun v27 =>
          (q_lI p15.1 24 v27 l2).bind fun v29 =>
          if v29 ≤ v25 then
            rc p15.1 l0 l1 l2 (l3 + 1)
          else
            rc p15.1 l0 l1 l3 (l3 + 1)
      else
        rc p15.1 l0 l1 l2 (l3 + 1)
def jf_Mo_displace_L4 : Nat → q_S → Nat → Int32 → Int32 → Int32 → Option (q_S × Unit)
  | 0, _, _, _, _, _ => none
  | n + 1, x, l0, l1, l2, l3 => jf_Mo_displace_B4 (jf_Mo_displace_L4 n) x l0 l1 l2 l3
theorem jm_Mo_displace_B4 {p : q_S × Unit} {rc : q_S → Nat → Int32 → Int32 → Int32 → Option (q_S × Unit)} (hrc : ∀ (x : q_S) (l0 : Nat) (l1 : Int32) (l2 : Int32) (l3 : Int32), rc x l0 l1 l2 l3 = some p → q_X (q_call 5) (fun y o => y = p.1 ∧ o = none) jq_Mo_displace 4 [(0, va_rf (some l0)), (1, .int l1), (2, .int l2), (3, .int l3)] [] x) (x : q_S) (l0 : Nat) (l1 : Int32) (l2 : Int32) (l3 : Int32) (hh : jf_Mo_displace_B4 rc x l0 l1 l2 l3 = some p) : q_X (q_call 5) (fun y o => y = p.1 ∧ o = none) jq_Mo_displace 4 [(0, va_rf (some l0)), (1, .int l1), (2, .int l2), (3, .int l3)] [] x := by
  unfold jf_Mo_displace_B4 at hh
  refine r_iload_n 5 3 jd_Mo_displace_4 rfl rfl ?_
  refine r_aload_n 6 0 jd_Mo_displace_5 rfl rfl ?_
  obtain ⟨v1, e2, hh⟩ := q_bind hh
  refine r_getI 9 113 jd_Mo_displace_6 rfl e2 rfl ?_
  rcases q_ite hh with ⟨c3, hh⟩ | ⟨c3, hh⟩
  · refine r_ic_t 69 jd_Mo_displace_9 rfl c3 ?_
    refine r_iload_n 70 2 jd_Mo_displace_69 rfl rfl ?_
    rcases q_ite hh with ⟨c4, hh⟩ | ⟨c4, hh⟩
    · refine r_if_t 79 jd_Mo_displace_70 rfl c4 ?_
      cases hh
      exact r_vret jd_Mo_displace_79 rfl ⟨rfl, rfl⟩
    · refine r_if_f 73 79 jd_Mo_displace_70 rfl c4 rfl ?_
      refine r_aload_n 74 0 jd_Mo_displace_73 rfl rfl ?_
      refine r_iload_n 75 2 jd_Mo_displace_74 rfl rfl ?_
      obtain ⟨b7, e8, hh⟩ := q_bind hh
      obtain ⟨p5, e6, hh⟩ := q_bind hh
      refine r_cV (rest := []) 78 118 11 [.int l2] [.int p5.2] jd_Mo_displace_75 rfl e8 rfl rfl rfl rfl (q_s8 (Nat.le_of_ble_eq_true rfl)) (q_call_le (Nat.le_of_ble_eq_true rfl) (jm_Mo_close e6)) rfl rfl ?_
      refine r_popI 79 jd_Mo_displace_78 rfl ?_
      cases hh
      exact r_vret jd_Mo_displace_79 rfl ⟨rfl, rfl⟩
  · refine r_ic_f 12 69 jd_Mo_displace_9 rfl c3 rfl ?_
    refine r_aload_n 13 0 jd_Mo_displace_12 rfl rfl ?_
    obtain ⟨v9, e10, hh⟩ := q_bind hh
    refine r_getR 16 97 jd_Mo_displace_13 rfl e10 rfl ?_
    refine r_iload_n 17 3 jd_Mo_displace_16 rfl rfl ?_
    obtain ⟨v11, e12, hh⟩ := q_bind hh
    refine r_ldZ 18 101 jd_Mo_displace_17 rfl e12 rfl ?_
    rcases q_ite hh with ⟨c13, hh⟩ | ⟨c13, hh⟩
    · refine r_if_t 34 jd_Mo_displace_18 rfl c13 ?_
      refine r_iconst 35 0 jd_Mo_displace_34 (by decide) rfl ?_
      refine r_istore 37 [(4, .int 0), (0, va_rf (some l0)), (1, .int l1), (2, .int l2), (3, .int l3)] jd_Mo_displace_35 (by decide) rfl rfl ?_
      refine r_iload 39 0 jd_Mo_displace_37 rfl rfl ?_
      refine r_if_t 63 jd_Mo_displace_39 rfl (by unfold q_cnd; decide) ?_
      refine r_iinc 66 4 [(3, .int (l3 + 1)), (4, .int 0), (0, va_rf (some l0)), (1, .int l1), (2, .int l2)] 1 jd_Mo_displace_63 rfl (by decide) (by decide) rfl rfl ?_
      refine r_goto 4 jd_Mo_displace_66 rfl ?_
      refine q_sub [2, 3, 4, 0] rfl ?_
      exact hrc _ _ _ _ _ hh
    · refine r_if_f 21 34 jd_Mo_displace_18 rfl c13 rfl ?_
      refine r_aload_n 22 0 jd_Mo_displace_21 rfl rfl ?_
      refine r_iload_n 23 3 jd_Mo_displace_22 rfl rfl ?_
      refine r_iload_n 24 1 jd_Mo_displace_23 rfl rfl ?_
      obtain ⟨b17, e18, hh⟩ := q_bind hh
      obtain ⟨p15, e16, hh⟩ := q_bind hh
      refine r_cV (rest := []) 27 141 11 [.int l3, .int l1] [.int p15.2] jd_Mo_displace_24 rfl e18 rfl rfl rfl rfl (q_s8 (Nat.le_of_ble_eq_true rfl)) (q_call_le (Nat.le_of_ble_eq_true rfl) (jm_Mo_isAbove e16)) rfl rfl ?_
      rcases q_ite hh with ⟨c19, hh⟩ | ⟨c19, hh⟩
      · refine r_if_f 30 34 jd_Mo_displace_27 rfl (fun z => z c19) rfl ?_
        refine r_iconst 31 1 jd_Mo_displace_30 (by decide) rfl ?_
        refine r_goto 35 jd_Mo_displace_31 rfl ?_
        refine r_istore 37 [(4, .int 1), (0, va_rf (some l0)), (1, .int l1), (2, .int l2), (3, .int l3)] jd_Mo_displace_35 (by decide) rfl rfl ?_
        refine r_iload 39 0 jd_Mo_displace_37 rfl rfl ?_
        refine r_if_f 42 63 jd_Mo_displace_39 rfl (by unfold q_cnd; decide) rfl ?_
        refine r_iload_n 43 3 jd_Mo_displace_42 rfl rfl ?_
        rcases q_ite hh with ⟨c22, hh⟩ | ⟨c22, hh⟩
        · refine r_if_t 61 jd_Mo_displace_43 rfl c22 ?_
          refine r_iload_n 62 4 jd_Mo_displace_61 rfl rfl ?_
          refine r_istore_n 63 [(2, .int l3), (4, .int 1), (0, va_rf (some l0)), (1, .int l1), (3, .int l3)] jd_Mo_displace_62 (by decide) rfl rfl ?_
          refine r_iinc 66 4 [(3, .int (l3 + 1)), (2, .int l3), (4, .int 1), (0, va_rf (some l0)), (1, .int l1)] 1 jd_Mo_displace_63 rfl (by decide) (by decide) rfl rfl ?_
          refine r_goto 4 jd_Mo_displace_66 rfl ?_
          refine q_sub [3, 4, 1, 0] rfl ?_
          exact hrc _ _ _ _ _ hh
        · refine r_if_f 46 61 jd_Mo_displace_43 rfl c22 rfl ?_
          refine r_aload_n 47 1 jd_Mo_displace_46 rfl rfl ?_
          obtain ⟨v23, e24, hh⟩ := q_bind hh
          refine r_getR 50 98 jd_Mo_displace_47 rfl e24 rfl ?_
          refine r_iload_n 51 4 jd_Mo_displace_50 rfl rfl ?_
          obtain ⟨v25, e26, hh⟩ := q_bind hh
          refine r_ldI 52 24 jd_Mo_displace_51 rfl e26 rfl ?_
          refine r_aload_n 53 1 jd_Mo_displace_52 rfl rfl ?_
          obtain ⟨v27, e28, hh⟩ := q_bind hh
          refine r_getR 56 98 jd_Mo_displace_53 rfl e28 rfl ?_
          refine r_iload_n 57 3 jd_Mo_displace_56 rfl rfl ?_
          obtain ⟨v29, e30, hh⟩ := q_bind hh
          refine r_ldI 58 24 jd_Mo_displace_57 rfl e30 rfl ?_
          rcases q_ite hh with ⟨c31, hh⟩ | ⟨c31, hh⟩
          · refine r_ic_t 63 jd_Mo_displace_58 rfl c31 ?_
            refine r_iinc 66 4 [(3, .int (l3 + 1)), (4, .int 1), (0, va_rf (some l0)), (1, .int l1), (2, .int l2)] 1 jd_Mo_displace_63 rfl (by decide) (by decide) rfl rfl ?_
            refine r_goto 4 jd_Mo_displace_66 rfl ?_
            refine q_sub [2, 3, 4, 0] rfl ?_
            exact hrc _ _ _ _ _ hh
          · refine r_ic_f 61 63 jd_Mo_displace_58 rfl c31 rfl ?_
            refine r_iload_n 62 4 jd_Mo_displace_61 rfl rfl ?_
            refine r_istore_n 63 [(2, .int l3), (4, .int 1), (0, va_rf (some l0)), (1, .int l1), (3, .int l3)] jd_Mo_displace_62 (by decide) rfl rfl ?_
            refine r_iinc 66 4 [(3, .int (l3 + 1)), (2, .int l3), (4, .int 1), (0, va_rf (some l0)), (1, .int l1)] 1 jd_Mo_displace_63 rfl (by decide) (by decide) rfl rfl ?_
            refine r_goto 4 jd_Mo_displace_66 rfl ?_
            refine q_sub [3, 4, 1, 0] rfl ?_
            exact hrc _ _ _ _ _ hh
      · refine r_if_t 34 jd_Mo_displace_27 rfl c19 ?_
        refine r_iconst 35 0 jd_Mo_displace_34 (by decide) rfl ?_
        refine r_istore 37 [(4, .int 0), (0, va_rf (some l0)), (1, .int l1), (2, .int l2), (3, .int l3)] jd_Mo_displace_35 (by decide) rfl rfl ?_
        refine r_iload 39 0 jd_Mo_displace_37 rfl rfl ?_
        refine r_if_t 63 jd_Mo_displace_39 rfl (by unfold q_cnd; decide) ?_
        refine r_iinc 66 4 [(3, .int (l3 + 1)), (4, .int 0), (0, va_rf (some l0)), (1, .int l1), (2, .int l2)] 1 jd_Mo_displace_63 rfl (by decide) (by decide) rfl rfl ?_
        refine r_goto 4 jd_Mo_displace_66 rfl ?_
        refine q_sub [2, 3, 4, 0] rfl ?_
        exact hrc _ _ _ _ _ hh
theorem jm_Mo_displace_L4 {p : q_S × Unit} : ∀ (n : Nat) (x : q_S) (l0 : Nat) (l1 : Int32) (l2 : Int32) (l3 : Int32), jf_Mo_displace_L4 n x l0 l1 l2 l3 = some p → q_X (q_call 5) (fun y o => y = p.1 ∧ o = none) jq_Mo_displace 4 [(0, va_rf (some l0)), (1, .int l1), (2, .int l2), (3, .int l3)] [] x
  | 0, _, _, _, _, _, hh => nomatch hh
  | n + 1, x, l0, l1, l2, l3, hh => jm_Mo_displace_B4 (jm_Mo_displace_L4 n) x l0 l1 l2 l3 hh
def jf_Mo_displace (x : q_S) (a0 : Nat) (a1 : Int32) : Option (q_S × Unit) :=
  jf_Mo_displace_L4 lpK x a0 a1 (-1) 0
theorem jm_Mo_displace {x : q_S} {a0 : Nat} {a1 : Int32} {p : q_S × Unit} (hh : jf_Mo_displace x a0 a1 = some p) : q_call 6 jq_Mo_displace [va_rf (some a0), .int a1] x p.1 (none) := by
  unfold jf_Mo_displace at hh
  refine ⟨List.mem_of_getElem? (i := 143) rfl, Nat.le_of_ble_eq_true rfl, List.forall_mem_cons.mpr ⟨rfl, List.forall_mem_cons.mpr ⟨rfl, fun _ h => by cases h⟩⟩, ?_⟩
  show q_X (q_call 5) _ jq_Mo_displace 0 [(0, va_rf (some a0)), (1, .int a1)] [] x
  refine r_iconst 1 (-1) jd_Mo_displace_0 (by decide) rfl ?_
  refine r_istore_n 2 [(2, .int (-1)), (0, va_rf (some a0)), (1, .int a1)] jd_Mo_displace_1 (by decide) rfl rfl ?_
  refine r_iconst 3 0 jd_Mo_displace_2 (by decide) rfl ?_
  refine r_istore_n 4 [(3, .int 0), (2, .int (-1)), (0, va_rf (some a0)), (1, .int a1)] jd_Mo_displace_3 (by decide) rfl rfl ?_
  refine q_sub [2, 3, 1, 0] rfl ?_
  exact jm_Mo_displace_L4 lpK _ _ _ _ _ hh
-- BeanContextsModel.keptNow()I
def jf_Mo_keptNow_B4 (rc : q_S → Nat → Int32 → Int32 → Option (q_S × Int32)) (x : q_S) (l0 : Nat) (l1 : Int32) (l2 : Int32) : Option (q_S × Int32) :=
  (q_gI x (some l0) 11 16).bind fun v1 =>
  if v1 ≤ l2 then
    some (x, l1)
  else
    (q_gR x (some l0) 11 19).bind fun v4 =>
    (q_lI x 101 v4 l2).bind fun v6 =>
    if v6 = 0 then
      rc x l0 l1 (l2 + 1)
    else
      rc x l0 (l1 + 1) (l2 + 1)
def jf_Mo_keptNow_L4 : Nat → q_S → Nat → Int32 → Int32 → Option (q_S × Int32)
  | 0, _, _, _, _ => none
  | n + 1, x, l0, l1, l2 => jf_Mo_keptNow_B4 (jf_Mo_keptNow_L4 n) x l0 l1 l2
theorem jm_Mo_keptNow_B4 {p : q_S × Int32} {rc : q_S → Nat → Int32 → Int32 → Option (q_S × Int32)} (hrc : ∀ (x : q_S) (l0 : Nat) (l1 : Int32) (l2 : Int32), rc x l0 l1 l2 = some p → q_X (q_call 0) (fun y o => y = p.1 ∧ o = some (.int p.2)) jq_Mo_keptNow 4 [(0, va_rf (some l0)), (1, .int l1), (2, .int l2)] [] x) (x : q_S) (l0 : Nat) (l1 : Int32) (l2 : Int32) (hh : jf_Mo_keptNow_B4 rc x l0 l1 l2 = some p) : q_X (q_call 0) (fun y o => y = p.1 ∧ o = some (.int p.2)) jq_Mo_keptNow 4 [(0, va_rf (some l0)), (1, .int l1), (2, .int l2)] [] x := by
  unfold jf_Mo_keptNow_B4 at hh
  refine r_iload_n 5 2 jd_Mo_keptNow_4 rfl rfl ?_
  refine r_aload_n 6 0 jd_Mo_keptNow_5 rfl rfl ?_
  obtain ⟨v1, e2, hh⟩ := q_bind hh
  refine r_getI 9 113 jd_Mo_keptNow_6 rfl e2 rfl ?_
  rcases q_ite hh with ⟨c3, hh⟩ | ⟨c3, hh⟩
  · refine r_ic_t 35 jd_Mo_keptNow_9 rfl c3 ?_
    refine r_iload_n 36 1 jd_Mo_keptNow_35 rfl rfl ?_
    cases hh
    exact r_iret jd_Mo_keptNow_36 rfl ⟨rfl, rfl⟩
  · refine r_ic_f 12 35 jd_Mo_keptNow_9 rfl c3 rfl ?_
    refine r_aload_n 13 0 jd_Mo_keptNow_12 rfl rfl ?_
    obtain ⟨v4, e5, hh⟩ := q_bind hh
    refine r_getR 16 97 jd_Mo_keptNow_13 rfl e5 rfl ?_
    refine r_iload_n 17 2 jd_Mo_keptNow_16 rfl rfl ?_
    obtain ⟨v6, e7, hh⟩ := q_bind hh
    refine r_ldZ 18 101 jd_Mo_keptNow_17 rfl e7 rfl ?_
    rcases q_ite hh with ⟨c8, hh⟩ | ⟨c8, hh⟩
    · refine r_if_t 27 jd_Mo_keptNow_18 rfl c8 ?_
      refine r_iload_n 28 1 jd_Mo_keptNow_27 rfl rfl ?_
      refine r_istore_n 29 [(1, .int l1), (0, va_rf (some l0)), (2, .int l2)] jd_Mo_keptNow_28 (by decide) rfl rfl ?_
      refine r_iinc 32 2 [(2, .int (l2 + 1)), (1, .int l1), (0, va_rf (some l0))] 1 jd_Mo_keptNow_29 rfl (by decide) (by decide) rfl rfl ?_
      refine r_goto 4 jd_Mo_keptNow_32 rfl ?_
      refine q_sub [2, 1, 0] rfl ?_
      exact hrc _ _ _ _ hh
    · refine r_if_f 21 27 jd_Mo_keptNow_18 rfl c8 rfl ?_
      refine r_iload_n 22 1 jd_Mo_keptNow_21 rfl rfl ?_
      refine r_iconst 23 1 jd_Mo_keptNow_22 (by decide) rfl ?_
      refine r_iadd 24 jd_Mo_keptNow_23 rfl ?_
      refine r_goto 28 jd_Mo_keptNow_24 rfl ?_
      refine r_istore_n 29 [(1, .int (l1 + 1)), (0, va_rf (some l0)), (2, .int l2)] jd_Mo_keptNow_28 (by decide) rfl rfl ?_
      refine r_iinc 32 2 [(2, .int (l2 + 1)), (1, .int (l1 + 1)), (0, va_rf (some l0))] 1 jd_Mo_keptNow_29 rfl (by decide) (by decide) rfl rfl ?_
      refine r_goto 4 jd_Mo_keptNow_32 rfl ?_
      refine q_sub [2, 1, 0] rfl ?_
      exact hrc _ _ _ _ hh
theorem jm_Mo_keptNow_L4 {p : q_S × Int32} : ∀ (n : Nat) (x : q_S) (l0 : Nat) (l1 : Int32) (l2 : Int32), jf_Mo_keptNow_L4 n x l0 l1 l2 = some p → q_X (q_call 0) (fun y o => y = p.1 ∧ o = some (.int p.2)) jq_Mo_keptNow 4 [(0, va_rf (some l0)), (1, .int l1), (2, .int l2)] [] x
  | 0, _, _, _, _, hh => nomatch hh
  | n + 1, x, l0, l1, l2, hh => jm_Mo_keptNow_B4 (jm_Mo_keptNow_L4 n) x l0 l1 l2 hh
def jf_Mo_keptNow (x : q_S) (a0 : Nat) : Option (q_S × Int32) :=
  jf_Mo_keptNow_L4 lpK x a0 0 0
theorem jm_Mo_keptNow {x : q_S} {a0 : Nat} {p : q_S × Int32} (hh : jf_Mo_keptNow x a0 = some p) : q_call 1 jq_Mo_keptNow [va_rf (some a0)] x p.1 (some (.int p.2)) := by
  unfold jf_Mo_keptNow at hh
  refine ⟨List.mem_of_getElem? (i := 145) rfl, Nat.le_of_ble_eq_true rfl, List.forall_mem_cons.mpr ⟨rfl, fun _ h => by cases h⟩, ?_⟩
  show q_X (q_call 0) _ jq_Mo_keptNow 0 [(0, va_rf (some a0))] [] x
  refine r_iconst 1 0 jd_Mo_keptNow_0 (by decide) rfl ?_
  refine r_istore_n 2 [(1, .int 0), (0, va_rf (some a0))] jd_Mo_keptNow_1 (by decide) rfl rfl ?_
  refine r_iconst 3 0 jd_Mo_keptNow_2 (by decide) rfl ?_
  refine r_istore_n 4 [(2, .int 0), (1, .int 0), (0, va_rf (some a0))] jd_Mo_keptNow_3 (by decide) rfl rfl ?_
  refine q_sub [2, 1, 0] rfl ?_
  exact jm_Mo_keptNow_L4 lpK _ _ _ _ hh
-- BeanContextsModel.stamp(I)V
def jf_Mo_stamp (x : q_S) (a0 : Nat) (a1 : Int32) : Option (q_S × Unit) :=
  if 0 ≤ a1 then
    (q_gI x (some a0) 11 21).bind fun v2 =>
    (q_pI x (some a0) 11 21 (v2 + 1)).bind fun x4 =>
    (q_gR x4 (some a0) 11 20).bind fun v6 =>
    (q_gI x4 (some a0) 11 21).bind fun v8 =>
    (q_sI x4 24 v6 a1 v8).bind fun x10 =>
    some (x10, ())
  else
    some (x, ())
theorem jm_Mo_stamp {x : q_S} {a0 : Nat} {a1 : Int32} {p : q_S × Unit} (hh : jf_Mo_stamp x a0 a1 = some p) : q_call 1 jq_Mo_stamp [va_rf (some a0), .int a1] x p.1 (none) := by
  unfold jf_Mo_stamp at hh
  refine ⟨List.mem_of_getElem? (i := 147) rfl, Nat.le_of_ble_eq_true rfl, List.forall_mem_cons.mpr ⟨rfl, List.forall_mem_cons.mpr ⟨rfl, fun _ h => by cases h⟩⟩, ?_⟩
  show q_X (q_call 0) _ jq_Mo_stamp 0 [(0, va_rf (some a0)), (1, .int a1)] [] x
  refine r_iload_n 1 1 jd_Mo_stamp_0 rfl rfl ?_
  rcases q_ite hh with ⟨c1, hh⟩ | ⟨c1, hh⟩
  · refine r_if_t 5 jd_Mo_stamp_1 rfl c1 ?_
    refine r_aload_n 6 0 jd_Mo_stamp_5 rfl rfl ?_
    refine r_dupR 7 jd_Mo_stamp_6 rfl ?_
    obtain ⟨v2, e3, hh⟩ := q_bind hh
    refine r_getI 10 121 jd_Mo_stamp_7 rfl e3 rfl ?_
    refine r_iconst 11 1 jd_Mo_stamp_10 (by decide) rfl ?_
    refine r_iadd 12 jd_Mo_stamp_11 rfl ?_
    obtain ⟨x4, e5, hh⟩ := q_bind hh
    refine r_putI 15 121 jd_Mo_stamp_12 rfl rfl (Or.inl rfl) e5 rfl ?_
    refine r_aload_n 16 0 jd_Mo_stamp_15 rfl rfl ?_
    obtain ⟨v6, e7, hh⟩ := q_bind hh
    refine r_getR 19 98 jd_Mo_stamp_16 rfl e7 rfl ?_
    refine r_iload_n 20 1 jd_Mo_stamp_19 rfl rfl ?_
    refine r_aload_n 21 0 jd_Mo_stamp_20 rfl rfl ?_
    obtain ⟨v8, e9, hh⟩ := q_bind hh
    refine r_getI 24 121 jd_Mo_stamp_21 rfl e9 rfl ?_
    obtain ⟨x10, e11, hh⟩ := q_bind hh
    refine r_stI 25 24 jd_Mo_stamp_24 rfl e11 rfl ?_
    cases hh
    exact r_vret jd_Mo_stamp_25 rfl ⟨rfl, rfl⟩
  · refine r_if_f 4 5 jd_Mo_stamp_1 rfl c1 rfl ?_
    cases hh
    exact r_vret jd_Mo_stamp_4 rfl ⟨rfl, rfl⟩
-- BeanContextsModel.use(I)V
def jf_Mo_use (x : q_S) (a0 : Nat) (a1 : Int32) : Option (q_S × Unit) :=
  (q_gR x (some a0) 11 18).bind fun v1 =>
  (q_lI x 23 v1 a1).bind fun v3 =>
  if 0 ≤ v3 then
    (q_gR x (some a0) 11 18).bind fun v6 =>
    (q_lI x 23 v6 v3).bind fun v8 =>
    (q_av x (some a0) 11).bind fun b12 =>
    (jf_Mo_stamp x b12 v8).bind fun p10 =>
    (q_av p10.1 (some a0) 11).bind fun b16 =>
    (jf_Mo_stamp p10.1 b16 v3).bind fun p14 =>
    (q_av p14.1 (some a0) 11).bind fun b20 =>
    (jf_Mo_stamp p14.1 b20 a1).bind fun p18 =>
    some (p18.1, ())
  else
    (q_av x (some a0) 11).bind fun b24 =>
    (jf_Mo_stamp x b24 (-1)).bind fun p22 =>
    (q_av p22.1 (some a0) 11).bind fun b28 =>
    (jf_Mo_stamp p22.1 b28 v3).bind fun p26 =>
    (q_av p26.1 (some a0) 11).bind fun b32 =>
    (jf_Mo_stamp p26.1 b32 a1).bind fun p30 =>
    some (p30.1, ())
theorem jm_Mo_use {x : q_S} {a0 : Nat} {a1 : Int32} {p : q_S × Unit} (hh : jf_Mo_use x a0 a1 = some p) : q_call 2 jq_Mo_use [va_rf (some a0), .int a1] x p.1 (none) := by
  unfold jf_Mo_use at hh
  refine ⟨List.mem_of_getElem? (i := 146) rfl, Nat.le_of_ble_eq_true rfl, List.forall_mem_cons.mpr ⟨rfl, List.forall_mem_cons.mpr ⟨rfl, fun _ h => by cases h⟩⟩, ?_⟩
  show q_X (q_call 1) _ jq_Mo_use 0 [(0, va_rf (some a0)), (1, .int a1)] [] x
  refine r_aload_n 1 0 jd_Mo_use_0 rfl rfl ?_
  obtain ⟨v1, e2, hh⟩ := q_bind hh
  refine r_getR 4 96 jd_Mo_use_1 rfl e2 rfl ?_
  refine r_iload_n 5 1 jd_Mo_use_4 rfl rfl ?_
  obtain ⟨v3, e4, hh⟩ := q_bind hh
  refine r_ldI 6 23 jd_Mo_use_5 rfl e4 rfl ?_
  refine r_istore_n 7 [(2, .int v3), (0, va_rf (some a0)), (1, .int a1)] jd_Mo_use_6 (by decide) rfl rfl ?_
  refine r_iload_n 8 0 jd_Mo_use_7 rfl rfl ?_
  rcases q_ite hh with ⟨c5, hh⟩ | ⟨c5, hh⟩
  · refine r_if_t 15 jd_Mo_use_8 rfl c5 ?_
    refine r_aload_n 16 1 jd_Mo_use_15 rfl rfl ?_
    obtain ⟨v6, e7, hh⟩ := q_bind hh
    refine r_getR 19 96 jd_Mo_use_16 rfl e7 rfl ?_
    refine r_iload_n 20 0 jd_Mo_use_19 rfl rfl ?_
    obtain ⟨v8, e9, hh⟩ := q_bind hh
    refine r_ldI 21 23 jd_Mo_use_20 rfl e9 rfl ?_
    refine r_istore_n 22 [(3, .int v8), (2, .int v3), (0, va_rf (some a0)), (1, .int a1)] jd_Mo_use_21 (by decide) rfl rfl ?_
    refine r_aload_n 23 2 jd_Mo_use_22 rfl rfl ?_
    refine r_iload_n 24 0 jd_Mo_use_23 rfl rfl ?_
    obtain ⟨b12, e13, hh⟩ := q_bind hh
    obtain ⟨p10, e11, hh⟩ := q_bind hh
    refine r_cV (rest := []) 27 142 11 [.int v8] [] jd_Mo_use_24 rfl e13 rfl rfl rfl rfl (q_s8 (Nat.le_of_ble_eq_true rfl)) (q_call_le (Nat.le_of_ble_eq_true rfl) (jm_Mo_stamp e11)) rfl rfl ?_
    refine r_aload_n 28 2 jd_Mo_use_27 rfl rfl ?_
    refine r_iload_n 29 1 jd_Mo_use_28 rfl rfl ?_
    obtain ⟨b16, e17, hh⟩ := q_bind hh
    obtain ⟨p14, e15, hh⟩ := q_bind hh
    refine r_cV (rest := []) 32 142 11 [.int v3] [] jd_Mo_use_29 rfl e17 rfl rfl rfl rfl (q_s8 (Nat.le_of_ble_eq_true rfl)) (q_call_le (Nat.le_of_ble_eq_true rfl) (jm_Mo_stamp e15)) rfl rfl ?_
    refine r_aload_n 33 2 jd_Mo_use_32 rfl rfl ?_
    refine r_iload_n 34 3 jd_Mo_use_33 rfl rfl ?_
    obtain ⟨b20, e21, hh⟩ := q_bind hh
    obtain ⟨p18, e19, hh⟩ := q_bind hh
    refine r_cV (rest := []) 37 142 11 [.int a1] [] jd_Mo_use_34 rfl e21 rfl rfl rfl rfl (q_s8 (Nat.le_of_ble_eq_true rfl)) (q_call_le (Nat.le_of_ble_eq_true rfl) (jm_Mo_stamp e19)) rfl rfl ?_
    cases hh
    exact r_vret jd_Mo_use_37 rfl ⟨rfl, rfl⟩
  · refine r_if_f 11 15 jd_Mo_use_8 rfl c5 rfl ?_
    refine r_iconst 12 (-1) jd_Mo_use_11 (by decide) rfl ?_
    refine r_goto 21 jd_Mo_use_12 rfl ?_
    refine r_istore_n 22 [(3, .int (-1)), (2, .int v3), (0, va_rf (some a0)), (1, .int a1)] jd_Mo_use_21 (by decide) rfl rfl ?_
    refine r_aload_n 23 2 jd_Mo_use_22 rfl rfl ?_
    refine r_iload_n 24 0 jd_Mo_use_23 rfl rfl ?_
    obtain ⟨b24, e25, hh⟩ := q_bind hh
    obtain ⟨p22, e23, hh⟩ := q_bind hh
    refine r_cV (rest := []) 27 142 11 [.int (-1)] [] jd_Mo_use_24 rfl e25 rfl rfl rfl rfl (q_s8 (Nat.le_of_ble_eq_true rfl)) (q_call_le (Nat.le_of_ble_eq_true rfl) (jm_Mo_stamp e23)) rfl rfl ?_
    refine r_aload_n 28 2 jd_Mo_use_27 rfl rfl ?_
    refine r_iload_n 29 1 jd_Mo_use_28 rfl rfl ?_
    obtain ⟨b28, e29, hh⟩ := q_bind hh
    obtain ⟨p26, e27, hh⟩ := q_bind hh
    refine r_cV (rest := []) 32 142 11 [.int v3] [] jd_Mo_use_29 rfl e29 rfl rfl rfl rfl (q_s8 (Nat.le_of_ble_eq_true rfl)) (q_call_le (Nat.le_of_ble_eq_true rfl) (jm_Mo_stamp e27)) rfl rfl ?_
    refine r_aload_n 33 2 jd_Mo_use_32 rfl rfl ?_
    refine r_iload_n 34 3 jd_Mo_use_33 rfl rfl ?_
    obtain ⟨b32, e33, hh⟩ := q_bind hh
    obtain ⟨p30, e31, hh⟩ := q_bind hh
    refine r_cV (rest := []) 37 142 11 [.int a1] [] jd_Mo_use_34 rfl e33 rfl rfl rfl rfl (q_s8 (Nat.le_of_ble_eq_true rfl)) (q_call_le (Nat.le_of_ble_eq_true rfl) (jm_Mo_stamp e31)) rfl rfl ?_
    cases hh
    exact r_vret jd_Mo_use_37 rfl ⟨rfl, rfl⟩
-- BeanContextsModel.build(II)I
def jf_Mo_build_B44 (rc : q_S → Nat → Int32 → Int32 → Int32 → Option (q_S × Int32)) (x : q_S) (l0 : Nat) (l1 : Int32) (l3 : Int32) (l4 : Int32) : Option (q_S × Int32) :=
  (q_gI x (some l0) 11 2).bind fun v18 =>
  if v18 ≤ l4 then
    (q_av x (some l0) 11).bind fun b23 =>
    (jf_Mo_keptNow x b23).bind fun p21 =>
    (q_gI p21.1 (some l0) 11 0).bind fun v25 =>
    if p21.2 = v25 then
      (q_av p21.1 (some l0) 11).bind fun b42 =>
      (jf_Mo_displace p21.1 b42 l3).bind fun p40 =>
      (q_gR p40.1 (some l0) 11 19).bind fun v44 =>
      (q_sI p40.1 101 v44 l3 ((1 : Int32) &&& 1)).bind fun x46 =>
      (q_av x46 (some l0) 11).bind fun b50 =>
      (jf_Mo_use x46 b50 l3).bind fun p48 =>
      (q_av p48.1 (some l0) 11).bind fun b54 =>
      (jf_Mo_note p48.1 b54 2 l3).bind fun p52 =>
      some (p52.1, l3)
    else
      (q_gR p21.1 (some l0) 11 19).bind fun v28 =>
      (q_sI p21.1 101 v28 l3 ((1 : Int32) &&& 1)).bind fun x30 =>
      (q_av x30 (some l0) 11).bind fun b34 =>
      (jf_Mo_use x30 b34 l3).bind fun p32 =>
      (q_av p32.1 (some l0) 11).bind fun b38 =>
      (jf_Mo_note p32.1 b38 2 l3).bind fun p36 =>
      some (p36.1, l3)
  else
    (q_av x (some l0) 11).bind fun b58 =>
    (jf_Mo_isIn x b58 l3 l4).bind fun p56 =>
    if p56.2 = 0 then
      rc p56.1 l0 l1 l3 (l4 + 1)
    else
      (q_av p56.1 (some l0) 11).bind fun b63 =>
      (jf_Mo_isMocked p56.1 b63 l3 l4).bind fun p61 =>
      if p61.2 = 0 then
        (q_gR p61.1 (some l0) 11 4).bind fun v90 =>
        (q_lI p61.1 11 v90 l4).bind fun v92 =>
        if (v92 &&& 6) = 0 then
          (q_av p61.1 (some l0) 11).bind fun b97 =>
          (jf_Mo_beanOf p61.1 b97 l3 l4).bind fun p95 =>
          if p95.2 < 0 then
            (q_av p95.1 (some l0) 11).bind fun b102 =>
            (jf_Mo_supply p95.1 b102 l3 l4).bind fun p100 =>
            if 0 ≤ p100.2 then
              rc p100.1 l0 l1 l3 (l4 + 1)
            else
              (q_av p100.1 (some l0) 11).bind fun b107 =>
              (jf_Mo_destroy p100.1 b107 l3).bind fun p105 =>
              (q_gR p105.1 (some l0) 11 15).bind fun v109 =>
              (q_lI p105.1 21 v109 l1).bind fun v111 =>
              (q_sI p105.1 21 v109 l1 (v111 + 1)).bind fun x113 =>
              (q_av x113 (some l0) 11).bind fun b117 =>
              (jf_Mo_note x113 b117 3 l3).bind fun p115 =>
              some (p115.1, p100.2)
          else
            rc p95.1 l0 l1 l3 (l4 + 1)
        else
          rc p61.1 l0 l1 l3 (l4 + 1)
      else
        (q_av p61.1 (some l0) 11).bind fun b68 =>
        (jf_Mo_beanOf p61.1 b68 l3 l4).bind fun p66 =>
        if p66.2 < 0 then
          (q_av p66.1 (some l0) 11).bind fun b73 =>
          (jf_Mo_supply p66.1 b73 l3 l4).bind fun p71 =>
          if 0 ≤ p71.2 then
            rc p71.1 l0 l1 l3 (l4 + 1)
          else
            (q_av p71.1 (some l0) 11).bind fun b78 =>
            (jf_Mo_destroy p71.1 b78 l3).bind fun p76 =>
            (q_gR p76.1 (some l0) 11 15).bind fun v80 =>
            (q_lI p76.1 21 v80 l1).bind fun v82 =>
            (q_sI p76.1 21 v80 l1 (v82 + 1)).bind fun x84 =>
            (q_av x84 (some l0) 11).bind fun b88 =>
            (jf_Mo_note x84 b88 3 l3).bind fun p86 =>
            some (p86.1, p71.2)
        else
          rc p66.1 l0 l1 l3 (l4 + 1)
def jf_Mo_build_L44 : Nat → q_S → Nat → Int32 → Int32 → Int32 → Option (q_S × Int32)
  | 0, _, _, _, _, _ => none
  | n + 1, x, l0, l1, l3, l4 => jf_Mo_build_B44 (jf_Mo_build_L44 n) x l0 l1 l3 l4
theorem jm_Mo_build_B44 {p : q_S × Int32} {rc : q_S → Nat → Int32 → Int32 → Int32 → Option (q_S × Int32)} (hrc : ∀ (x : q_S) (l0 : Nat) (l1 : Int32) (l3 : Int32) (l4 : Int32), rc x l0 l1 l3 l4 = some p → q_X (q_call 6) (fun y o => y = p.1 ∧ o = some (.int p.2)) jq_Mo_build 44 [(0, va_rf (some l0)), (1, .int l1), (3, .int l3), (4, .int l4)] [] x) (x : q_S) (l0 : Nat) (l1 : Int32) (l3 : Int32) (l4 : Int32) (hh : jf_Mo_build_B44 rc x l0 l1 l3 l4 = some p) : q_X (q_call 6) (fun y o => y = p.1 ∧ o = some (.int p.2)) jq_Mo_build 44 [(0, va_rf (some l0)), (1, .int l1), (3, .int l3), (4, .int l4)] [] x := by
  unfold jf_Mo_build_B44 at hh
  refine r_iload 46 3 jd_Mo_build_44 rfl rfl ?_
  refine r_aload_n 47 0 jd_Mo_build_46 rfl rfl ?_
  obtain ⟨v18, e19, hh⟩ := q_bind hh
  refine r_getI 50 116 jd_Mo_build_47 rfl e19 rfl ?_
  rcases q_ite hh with ⟨c20, hh⟩ | ⟨c20, hh⟩
  · refine r_ic_t 143 jd_Mo_build_50 rfl c20 ?_
    refine r_aload_n 144 0 jd_Mo_build_143 rfl rfl ?_
    obtain ⟨b23, e24, hh⟩ := q_bind hh
    obtain ⟨p21, e22, hh⟩ := q_bind hh
    refine r_cV (rest := []) 147 139 11 [] [.int p21.2] jd_Mo_build_144 rfl e24 rfl rfl rfl rfl (q_s8 (Nat.le_of_ble_eq_true rfl)) (q_call_le (Nat.le_of_ble_eq_true rfl) (jm_Mo_keptNow e22)) rfl rfl ?_
    refine r_aload_n 148 0 jd_Mo_build_147 rfl rfl ?_
    obtain ⟨v25, e26, hh⟩ := q_bind hh
    refine r_getI 151 112 jd_Mo_build_148 rfl e26 rfl ?_
    rcases q_ite hh with ⟨c27, hh⟩ | ⟨c27, hh⟩
    · refine r_ic_f 154 159 jd_Mo_build_151 rfl (fun z => z c27) rfl ?_
      refine r_aload_n 155 0 jd_Mo_build_154 rfl rfl ?_
      refine r_iload_n 156 2 jd_Mo_build_155 rfl rfl ?_
      obtain ⟨b42, e43, hh⟩ := q_bind hh
      obtain ⟨p40, e41, hh⟩ := q_bind hh
      refine r_cV (rest := []) 159 140 11 [.int l3] [] jd_Mo_build_156 rfl e43 rfl rfl rfl rfl (q_s8 (Nat.le_of_ble_eq_true rfl)) (q_call_le (Nat.le_of_ble_eq_true rfl) (jm_Mo_displace e41)) rfl rfl ?_
      refine r_aload_n 160 0 jd_Mo_build_159 rfl rfl ?_
      obtain ⟨v44, e45, hh⟩ := q_bind hh
      refine r_getR 163 97 jd_Mo_build_160 rfl e45 rfl ?_
      refine r_iload_n 164 2 jd_Mo_build_163 rfl rfl ?_
      refine r_iconst 165 1 jd_Mo_build_164 (by decide) rfl ?_
      obtain ⟨x46, e47, hh⟩ := q_bind hh
      refine r_stZ 166 101 jd_Mo_build_165 rfl e47 rfl ?_
      refine r_aload_n 167 0 jd_Mo_build_166 rfl rfl ?_
      refine r_iload_n 168 2 jd_Mo_build_167 rfl rfl ?_
      obtain ⟨b50, e51, hh⟩ := q_bind hh
      obtain ⟨p48, e49, hh⟩ := q_bind hh
      refine r_cV (rest := []) 171 138 11 [.int l3] [] jd_Mo_build_168 rfl e51 rfl rfl rfl rfl (q_s8 (Nat.le_of_ble_eq_true rfl)) (q_call_le (Nat.le_of_ble_eq_true rfl) (jm_Mo_use e49)) rfl rfl ?_
      refine r_aload_n 172 0 jd_Mo_build_171 rfl rfl ?_
      refine r_iconst 173 2 jd_Mo_build_172 (by decide) rfl ?_
      refine r_iload_n 174 2 jd_Mo_build_173 rfl rfl ?_
      obtain ⟨b54, e55, hh⟩ := q_bind hh
      obtain ⟨p52, e53, hh⟩ := q_bind hh
      refine r_cV (rest := []) 177 125 11 [.int 2, .int l3] [] jd_Mo_build_174 rfl e55 rfl rfl rfl rfl (q_s8 (Nat.le_of_ble_eq_true rfl)) (q_call_le (Nat.le_of_ble_eq_true rfl) (jm_Mo_note e53)) rfl rfl ?_
      refine r_iload_n 178 2 jd_Mo_build_177 rfl rfl ?_
      cases hh
      exact r_iret jd_Mo_build_178 rfl ⟨rfl, rfl⟩
    · refine r_ic_t 159 jd_Mo_build_151 rfl c27 ?_
      refine r_aload_n 160 0 jd_Mo_build_159 rfl rfl ?_
      obtain ⟨v28, e29, hh⟩ := q_bind hh
      refine r_getR 163 97 jd_Mo_build_160 rfl e29 rfl ?_
      refine r_iload_n 164 2 jd_Mo_build_163 rfl rfl ?_
      refine r_iconst 165 1 jd_Mo_build_164 (by decide) rfl ?_
      obtain ⟨x30, e31, hh⟩ := q_bind hh
      refine r_stZ 166 101 jd_Mo_build_165 rfl e31 rfl ?_
      refine r_aload_n 167 0 jd_Mo_build_166 rfl rfl ?_
      refine r_iload_n 168 2 jd_Mo_build_167 rfl rfl ?_
      obtain ⟨b34, e35, hh⟩ := q_bind hh
      obtain ⟨p32, e33, hh⟩ := q_bind hh
      refine r_cV (rest := []) 171 138 11 [.int l3] [] jd_Mo_build_168 rfl e35 rfl rfl rfl rfl (q_s8 (Nat.le_of_ble_eq_true rfl)) (q_call_le (Nat.le_of_ble_eq_true rfl) (jm_Mo_use e33)) rfl rfl ?_
      refine r_aload_n 172 0 jd_Mo_build_171 rfl rfl ?_
      refine r_iconst 173 2 jd_Mo_build_172 (by decide) rfl ?_
      refine r_iload_n 174 2 jd_Mo_build_173 rfl rfl ?_
      obtain ⟨b38, e39, hh⟩ := q_bind hh
      obtain ⟨p36, e37, hh⟩ := q_bind hh
      refine r_cV (rest := []) 177 125 11 [.int 2, .int l3] [] jd_Mo_build_174 rfl e39 rfl rfl rfl rfl (q_s8 (Nat.le_of_ble_eq_true rfl)) (q_call_le (Nat.le_of_ble_eq_true rfl) (jm_Mo_note e37)) rfl rfl ?_
      refine r_iload_n 178 2 jd_Mo_build_177 rfl rfl ?_
      cases hh
      exact r_iret jd_Mo_build_178 rfl ⟨rfl, rfl⟩
  · refine r_ic_f 53 143 jd_Mo_build_50 rfl c20 rfl ?_
    refine r_aload_n 54 0 jd_Mo_build_53 rfl rfl ?_
    refine r_iload_n 55 2 jd_Mo_build_54 rfl rfl ?_
    refine r_iload 57 3 jd_Mo_build_55 rfl rfl ?_
    obtain ⟨b58, e59, hh⟩ := q_bind hh
    obtain ⟨p56, e57, hh⟩ := q_bind hh
    refine r_cV (rest := []) 60 131 11 [.int l3, .int l4] [.int p56.2] jd_Mo_build_57 rfl e59 rfl rfl rfl rfl (q_s8 (Nat.le_of_ble_eq_true rfl)) (q_call_le (Nat.le_of_ble_eq_true rfl) (jm_Mo_isIn e57)) rfl rfl ?_
    rcases q_ite hh with ⟨c60, hh⟩ | ⟨c60, hh⟩
    · refine r_if_t 137 jd_Mo_build_60 rfl c60 ?_
      refine r_iinc 140 3 [(4, .int (l4 + 1)), (0, va_rf (some l0)), (1, .int l1), (3, .int l3)] 1 jd_Mo_build_137 rfl (by decide) (by decide) rfl rfl ?_
      refine r_goto 44 jd_Mo_build_140 rfl ?_
      refine q_sub [1, 2, 3, 0] rfl ?_
      exact hrc _ _ _ _ _ hh
    · refine r_if_f 63 137 jd_Mo_build_60 rfl c60 rfl ?_
      refine r_aload_n 64 0 jd_Mo_build_63 rfl rfl ?_
      refine r_iload_n 65 2 jd_Mo_build_64 rfl rfl ?_
      refine r_iload 67 3 jd_Mo_build_65 rfl rfl ?_
      obtain ⟨b63, e64, hh⟩ := q_bind hh
      obtain ⟨p61, e62, hh⟩ := q_bind hh
      refine r_cV (rest := []) 70 127 11 [.int l3, .int l4] [.int p61.2] jd_Mo_build_67 rfl e64 rfl rfl rfl rfl (q_s8 (Nat.le_of_ble_eq_true rfl)) (q_call_le (Nat.le_of_ble_eq_true rfl) (jm_Mo_isMocked e62)) rfl rfl ?_
      rcases q_ite hh with ⟨c65, hh⟩ | ⟨c65, hh⟩
      · refine r_if_f 73 86 jd_Mo_build_70 rfl (fun z => z c65) rfl ?_
        refine r_aload_n 74 0 jd_Mo_build_73 rfl rfl ?_
        obtain ⟨v90, e91, hh⟩ := q_bind hh
        refine r_getR 77 84 jd_Mo_build_74 rfl e91 rfl ?_
        refine r_iload 79 3 jd_Mo_build_77 rfl rfl ?_
        obtain ⟨v92, e93, hh⟩ := q_bind hh
        refine r_ldI 80 11 jd_Mo_build_79 rfl e93 rfl ?_
        refine r_bipush 82 6 jd_Mo_build_80 (by decide) rfl ?_
        refine r_iand 83 jd_Mo_build_82 rfl ?_
        rcases q_ite hh with ⟨c94, hh⟩ | ⟨c94, hh⟩
        · refine r_if_f 86 137 jd_Mo_build_83 rfl (fun z => z c94) rfl ?_
          refine r_aload_n 87 0 jd_Mo_build_86 rfl rfl ?_
          refine r_iload_n 88 2 jd_Mo_build_87 rfl rfl ?_
          refine r_iload 90 3 jd_Mo_build_88 rfl rfl ?_
          obtain ⟨b97, e98, hh⟩ := q_bind hh
          obtain ⟨p95, e96, hh⟩ := q_bind hh
          refine r_cV (rest := []) 93 134 11 [.int l3, .int l4] [.int p95.2] jd_Mo_build_90 rfl e98 rfl rfl rfl rfl (q_s8 (Nat.le_of_ble_eq_true rfl)) (q_call_le (Nat.le_of_ble_eq_true rfl) (jm_Mo_beanOf e96)) rfl rfl ?_
          rcases q_ite hh with ⟨c99, hh⟩ | ⟨c99, hh⟩
          · refine r_if_t 99 jd_Mo_build_93 rfl c99 ?_
            refine r_aload_n 100 0 jd_Mo_build_99 rfl rfl ?_
            refine r_iload_n 101 2 jd_Mo_build_100 rfl rfl ?_
            refine r_iload 103 3 jd_Mo_build_101 rfl rfl ?_
            obtain ⟨b102, e103, hh⟩ := q_bind hh
            obtain ⟨p100, e101, hh⟩ := q_bind hh
            refine r_cV (rest := []) 106 130 11 [.int l3, .int l4] [.int p100.2] jd_Mo_build_103 rfl e103 rfl rfl rfl rfl (q_s8 (Nat.le_of_ble_eq_true rfl)) (q_call_le (Nat.le_of_ble_eq_true rfl) (jm_Mo_supply e101)) rfl rfl ?_
            refine r_istore 108 [(5, .int p100.2), (0, va_rf (some l0)), (1, .int l1), (3, .int l3), (4, .int l4)] jd_Mo_build_106 (by decide) rfl rfl ?_
            refine r_iload 110 0 jd_Mo_build_108 rfl rfl ?_
            rcases q_ite hh with ⟨c104, hh⟩ | ⟨c104, hh⟩
            · refine r_if_t 137 jd_Mo_build_110 rfl c104 ?_
              refine r_iinc 140 4 [(4, .int (l4 + 1)), (5, .int p100.2), (0, va_rf (some l0)), (1, .int l1), (3, .int l3)] 1 jd_Mo_build_137 rfl (by decide) (by decide) rfl rfl ?_
              refine r_goto 44 jd_Mo_build_140 rfl ?_
              refine q_sub [2, 3, 4, 0] rfl ?_
              exact hrc _ _ _ _ _ hh
            · refine r_if_f 113 137 jd_Mo_build_110 rfl c104 rfl ?_
              refine r_aload_n 114 1 jd_Mo_build_113 rfl rfl ?_
              refine r_iload_n 115 3 jd_Mo_build_114 rfl rfl ?_
              obtain ⟨b107, e108, hh⟩ := q_bind hh
              obtain ⟨p105, e106, hh⟩ := q_bind hh
              refine r_cV (rest := []) 118 124 11 [.int l3] [] jd_Mo_build_115 rfl e108 rfl rfl rfl rfl (q_s8 (Nat.le_of_ble_eq_true rfl)) (q_call_le (Nat.le_of_ble_eq_true rfl) (jm_Mo_destroy e106)) rfl rfl ?_
              refine r_aload_n 119 1 jd_Mo_build_118 rfl rfl ?_
              obtain ⟨v109, e110, hh⟩ := q_bind hh
              refine r_getR 122 94 jd_Mo_build_119 rfl e110 rfl ?_
              refine r_iload_n 123 2 jd_Mo_build_122 rfl rfl ?_
              refine r_dup2IR 124 jd_Mo_build_123 rfl ?_
              obtain ⟨v111, e112, hh⟩ := q_bind hh
              refine r_ldI 125 21 jd_Mo_build_124 rfl e112 rfl ?_
              refine r_iconst 126 1 jd_Mo_build_125 (by decide) rfl ?_
              refine r_iadd 127 jd_Mo_build_126 rfl ?_
              obtain ⟨x113, e114, hh⟩ := q_bind hh
              refine r_stI 128 21 jd_Mo_build_127 rfl e114 rfl ?_
              refine r_aload_n 129 1 jd_Mo_build_128 rfl rfl ?_
              refine r_iconst 130 3 jd_Mo_build_129 (by decide) rfl ?_
              refine r_iload_n 131 3 jd_Mo_build_130 rfl rfl ?_
              obtain ⟨b117, e118, hh⟩ := q_bind hh
              obtain ⟨p115, e116, hh⟩ := q_bind hh
              refine r_cV (rest := []) 134 125 11 [.int 3, .int l3] [] jd_Mo_build_131 rfl e118 rfl rfl rfl rfl (q_s8 (Nat.le_of_ble_eq_true rfl)) (q_call_le (Nat.le_of_ble_eq_true rfl) (jm_Mo_note e116)) rfl rfl ?_
              refine r_iload 136 0 jd_Mo_build_134 rfl rfl ?_
              cases hh
              exact r_iret jd_Mo_build_136 rfl ⟨rfl, rfl⟩
          · refine r_if_f 96 99 jd_Mo_build_93 rfl c99 rfl ?_
            refine r_goto 137 jd_Mo_build_96 rfl ?_
            refine r_iinc 140 3 [(4, .int (l4 + 1)), (0, va_rf (some l0)), (1, .int l1), (3, .int l3)] 1 jd_Mo_build_137 rfl (by decide) (by decide) rfl rfl ?_
            refine r_goto 44 jd_Mo_build_140 rfl ?_
            refine q_sub [1, 2, 3, 0] rfl ?_
            exact hrc _ _ _ _ _ hh
        · refine r_if_t 137 jd_Mo_build_83 rfl c94 ?_
          refine r_iinc 140 3 [(4, .int (l4 + 1)), (0, va_rf (some l0)), (1, .int l1), (3, .int l3)] 1 jd_Mo_build_137 rfl (by decide) (by decide) rfl rfl ?_
          refine r_goto 44 jd_Mo_build_140 rfl ?_
          refine q_sub [1, 2, 3, 0] rfl ?_
          exact hrc _ _ _ _ _ hh
      · refine r_if_t 86 jd_Mo_build_70 rfl c65 ?_
        refine r_aload_n 87 0 jd_Mo_build_86 rfl rfl ?_
        refine r_iload_n 88 2 jd_Mo_build_87 rfl rfl ?_
        refine r_iload 90 3 jd_Mo_build_88 rfl rfl ?_
        obtain ⟨b68, e69, hh⟩ := q_bind hh
        obtain ⟨p66, e67, hh⟩ := q_bind hh
        refine r_cV (rest := []) 93 134 11 [.int l3, .int l4] [.int p66.2] jd_Mo_build_90 rfl e69 rfl rfl rfl rfl (q_s8 (Nat.le_of_ble_eq_true rfl)) (q_call_le (Nat.le_of_ble_eq_true rfl) (jm_Mo_beanOf e67)) rfl rfl ?_
        rcases q_ite hh with ⟨c70, hh⟩ | ⟨c70, hh⟩
        · refine r_if_t 99 jd_Mo_build_93 rfl c70 ?_
          refine r_aload_n 100 0 jd_Mo_build_99 rfl rfl ?_
          refine r_iload_n 101 2 jd_Mo_build_100 rfl rfl ?_
          refine r_iload 103 3 jd_Mo_build_101 rfl rfl ?_
          obtain ⟨b73, e74, hh⟩ := q_bind hh
          obtain ⟨p71, e72, hh⟩ := q_bind hh
          refine r_cV (rest := []) 106 130 11 [.int l3, .int l4] [.int p71.2] jd_Mo_build_103 rfl e74 rfl rfl rfl rfl (q_s8 (Nat.le_of_ble_eq_true rfl)) (q_call_le (Nat.le_of_ble_eq_true rfl) (jm_Mo_supply e72)) rfl rfl ?_
          refine r_istore 108 [(5, .int p71.2), (0, va_rf (some l0)), (1, .int l1), (3, .int l3), (4, .int l4)] jd_Mo_build_106 (by decide) rfl rfl ?_
          refine r_iload 110 0 jd_Mo_build_108 rfl rfl ?_
          rcases q_ite hh with ⟨c75, hh⟩ | ⟨c75, hh⟩
          · refine r_if_t 137 jd_Mo_build_110 rfl c75 ?_
            refine r_iinc 140 4 [(4, .int (l4 + 1)), (5, .int p71.2), (0, va_rf (some l0)), (1, .int l1), (3, .int l3)] 1 jd_Mo_build_137 rfl (by decide) (by decide) rfl rfl ?_
            refine r_goto 44 jd_Mo_build_140 rfl ?_
            refine q_sub [2, 3, 4, 0] rfl ?_
            exact hrc _ _ _ _ _ hh
          · refine r_if_f 113 137 jd_Mo_build_110 rfl c75 rfl ?_
            refine r_aload_n 114 1 jd_Mo_build_113 rfl rfl ?_
            refine r_iload_n 115 3 jd_Mo_build_114 rfl rfl ?_
            obtain ⟨b78, e79, hh⟩ := q_bind hh
            obtain ⟨p76, e77, hh⟩ := q_bind hh
            refine r_cV (rest := []) 118 124 11 [.int l3] [] jd_Mo_build_115 rfl e79 rfl rfl rfl rfl (q_s8 (Nat.le_of_ble_eq_true rfl)) (q_call_le (Nat.le_of_ble_eq_true rfl) (jm_Mo_destroy e77)) rfl rfl ?_
            refine r_aload_n 119 1 jd_Mo_build_118 rfl rfl ?_
            obtain ⟨v80, e81, hh⟩ := q_bind hh
            refine r_getR 122 94 jd_Mo_build_119 rfl e81 rfl ?_
            refine r_iload_n 123 2 jd_Mo_build_122 rfl rfl ?_
            refine r_dup2IR 124 jd_Mo_build_123 rfl ?_
            obtain ⟨v82, e83, hh⟩ := q_bind hh
            refine r_ldI 125 21 jd_Mo_build_124 rfl e83 rfl ?_
            refine r_iconst 126 1 jd_Mo_build_125 (by decide) rfl ?_
            refine r_iadd 127 jd_Mo_build_126 rfl ?_
            obtain ⟨x84, e85, hh⟩ := q_bind hh
            refine r_stI 128 21 jd_Mo_build_127 rfl e85 rfl ?_
            refine r_aload_n 129 1 jd_Mo_build_128 rfl rfl ?_
            refine r_iconst 130 3 jd_Mo_build_129 (by decide) rfl ?_
            refine r_iload_n 131 3 jd_Mo_build_130 rfl rfl ?_
            obtain ⟨b88, e89, hh⟩ := q_bind hh
            obtain ⟨p86, e87, hh⟩ := q_bind hh
            refine r_cV (rest := []) 134 125 11 [.int 3, .int l3] [] jd_Mo_build_131 rfl e89 rfl rfl rfl rfl (q_s8 (Nat.le_of_ble_eq_true rfl)) (q_call_le (Nat.le_of_ble_eq_true rfl) (jm_Mo_note e87)) rfl rfl ?_
            refine r_iload 136 0 jd_Mo_build_134 rfl rfl ?_
            cases hh
            exact r_iret jd_Mo_build_136 rfl ⟨rfl, rfl⟩
        · refine r_if_f 96 99 jd_Mo_build_93 rfl c70 rfl ?_
          refine r_goto 137 jd_Mo_build_96 rfl ?_
          refine r_iinc 140 3 [(4, .int (l4 + 1)), (0, va_rf (some l0)), (1, .int l1), (3, .int l3)] 1 jd_Mo_build_137 rfl (by decide) (by decide) rfl rfl ?_
          refine r_goto 44 jd_Mo_build_140 rfl ?_
          refine q_sub [1, 2, 3, 0] rfl ?_
          exact hrc _ _ _ _ _ hh
theorem jm_Mo_build_L44 {p : q_S × Int32} : ∀ (n : Nat) (x : q_S) (l0 : Nat) (l1 : Int32) (l3 : Int32) (l4 : Int32), jf_Mo_build_L44 n x l0 l1 l3 l4 = some p → q_X (q_call 6) (fun y o => y = p.1 ∧ o = some (.int p.2)) jq_Mo_build 44 [(0, va_rf (some l0)), (1, .int l1), (3, .int l3), (4, .int l4)] [] x
  | 0, _, _, _, _, _, hh => nomatch hh
  | n + 1, x, l0, l1, l3, l4, hh => jm_Mo_build_B44 (jm_Mo_build_L44 n) x l0 l1 l3 l4 hh
def jf_Mo_build (x : q_S) (a0 : Nat) (a1 : Int32) (a2 : Int32) : Option (q_S × Int32) :=
  (q_gI x (some a0) 11 16).bind fun v1 =>
  if v1 = 30 then
    some (x, (-7))
  else
    (q_gI x (some a0) 11 16).bind fun v4 =>
    (q_gI x (some a0) 11 16).bind fun v6 =>
    (q_pI x (some a0) 11 16 (v6 + 1)).bind fun x8 =>
    (q_gR x8 (some a0) 11 17).bind fun v10 =>
    (q_sI x8 22 v10 v4 a1).bind fun x12 =>
    (q_gR x12 (some a0) 11 18).bind fun v14 =>
    (q_sI x12 23 v14 v4 a2).bind fun x16 =>
    jf_Mo_build_L44 lpK x16 a0 a1 v4 0
theorem jm_Mo_build {x : q_S} {a0 : Nat} {a1 : Int32} {a2 : Int32} {p : q_S × Int32} (hh : jf_Mo_build x a0 a1 a2 = some p) : q_call 7 jq_Mo_build [va_rf (some a0), .int a1, .int a2] x p.1 (some (.int p.2)) := by
  unfold jf_Mo_build at hh
  refine ⟨List.mem_of_getElem? (i := 142) rfl, Nat.le_of_ble_eq_true rfl, List.forall_mem_cons.mpr ⟨rfl, List.forall_mem_cons.mpr ⟨rfl, List.forall_mem_cons.mpr ⟨rfl, fun _ h => by cases h⟩⟩⟩, ?_⟩
  show q_X (q_call 6) _ jq_Mo_build 0 [(0, va_rf (some a0)), (1, .int a1), (2, .int a2)] [] x
  refine r_aload_n 1 0 jd_Mo_build_0 rfl rfl ?_
  obtain ⟨v1, e2, hh⟩ := q_bind hh
  refine r_getI 4 113 jd_Mo_build_1 rfl e2 rfl ?_
  refine r_bipush 6 30 jd_Mo_build_4 (by decide) rfl ?_
  rcases q_ite hh with ⟨c3, hh⟩ | ⟨c3, hh⟩
  · refine r_ic_f 9 12 jd_Mo_build_6 rfl (fun z => z c3) rfl ?_
    refine r_bipush 11 (-7) jd_Mo_build_9 (by decide) rfl ?_
    cases hh
    exact r_iret jd_Mo_build_11 rfl ⟨rfl, rfl⟩
  · refine r_ic_t 12 jd_Mo_build_6 rfl c3 ?_
    refine r_aload_n 13 0 jd_Mo_build_12 rfl rfl ?_
    obtain ⟨v4, e5, hh⟩ := q_bind hh
    refine r_getI 16 113 jd_Mo_build_13 rfl e5 rfl ?_
    refine r_istore_n 17 [(3, .int v4), (0, va_rf (some a0)), (1, .int a1), (2, .int a2)] jd_Mo_build_16 (by decide) rfl rfl ?_
    refine r_aload_n 18 1 jd_Mo_build_17 rfl rfl ?_
    refine r_dupR 19 jd_Mo_build_18 rfl ?_
    obtain ⟨v6, e7, hh⟩ := q_bind hh
    refine r_getI 22 113 jd_Mo_build_19 rfl e7 rfl ?_
    refine r_iconst 23 1 jd_Mo_build_22 (by decide) rfl ?_
    refine r_iadd 24 jd_Mo_build_23 rfl ?_
    obtain ⟨x8, e9, hh⟩ := q_bind hh
    refine r_putI 27 113 jd_Mo_build_24 rfl rfl (Or.inl rfl) e9 rfl ?_
    refine r_aload_n 28 1 jd_Mo_build_27 rfl rfl ?_
    obtain ⟨v10, e11, hh⟩ := q_bind hh
    refine r_getR 31 95 jd_Mo_build_28 rfl e11 rfl ?_
    refine r_iload_n 32 0 jd_Mo_build_31 rfl rfl ?_
    refine r_iload_n 33 2 jd_Mo_build_32 rfl rfl ?_
    obtain ⟨x12, e13, hh⟩ := q_bind hh
    refine r_stI 34 22 jd_Mo_build_33 rfl e13 rfl ?_
    refine r_aload_n 35 1 jd_Mo_build_34 rfl rfl ?_
    obtain ⟨v14, e15, hh⟩ := q_bind hh
    refine r_getR 38 96 jd_Mo_build_35 rfl e15 rfl ?_
    refine r_iload_n 39 0 jd_Mo_build_38 rfl rfl ?_
    refine r_iload_n 40 3 jd_Mo_build_39 rfl rfl ?_
    obtain ⟨x16, e17, hh⟩ := q_bind hh
    refine r_stI 41 23 jd_Mo_build_40 rfl e17 rfl ?_
    refine r_iconst 42 0 jd_Mo_build_41 (by decide) rfl ?_
    refine r_istore 44 [(4, .int 0), (3, .int v4), (0, va_rf (some a0)), (1, .int a1), (2, .int a2)] jd_Mo_build_42 (by decide) rfl rfl ?_
    refine q_sub [2, 3, 1, 0] rfl ?_
    exact jm_Mo_build_L44 lpK _ _ _ _ _ hh
-- BeanContextsModel.parentKey(I)I
def jf_Mo_parentKey (x : q_S) (a0 : Nat) (a1 : Int32) : Option (q_S × Int32) :=
  (q_gR x (some a0) 11 14).bind fun v1 =>
  (q_lI x 20 v1 a1).bind fun v3 =>
  if 0 ≤ v3 then
    (q_gR x (some a0) 11 14).bind fun v6 =>
    (q_lI x 20 v6 a1).bind fun v8 =>
    (q_av x (some a0) 11).bind fun b12 =>
    (jf_Mo_key x b12 v8).bind fun p10 =>
    some (p10.1, p10.2)
  else
    some (x, (-1))
theorem jm_Mo_parentKey {x : q_S} {a0 : Nat} {a1 : Int32} {p : q_S × Int32} (hh : jf_Mo_parentKey x a0 a1 = some p) : q_call 4 jq_Mo_parentKey [va_rf (some a0), .int a1] x p.1 (some (.int p.2)) := by
  unfold jf_Mo_parentKey at hh
  refine ⟨List.mem_of_getElem? (i := 148) rfl, Nat.le_of_ble_eq_true rfl, List.forall_mem_cons.mpr ⟨rfl, List.forall_mem_cons.mpr ⟨rfl, fun _ h => by cases h⟩⟩, ?_⟩
  show q_X (q_call 3) _ jq_Mo_parentKey 0 [(0, va_rf (some a0)), (1, .int a1)] [] x
  refine r_aload_n 1 0 jd_Mo_parentKey_0 rfl rfl ?_
  obtain ⟨v1, e2, hh⟩ := q_bind hh
  refine r_getR 4 93 jd_Mo_parentKey_1 rfl e2 rfl ?_
  refine r_iload_n 5 1 jd_Mo_parentKey_4 rfl rfl ?_
  obtain ⟨v3, e4, hh⟩ := q_bind hh
  refine r_ldI 6 20 jd_Mo_parentKey_5 rfl e4 rfl ?_
  rcases q_ite hh with ⟨c5, hh⟩ | ⟨c5, hh⟩
  · refine r_if_t 13 jd_Mo_parentKey_6 rfl c5 ?_
    refine r_aload_n 14 0 jd_Mo_parentKey_13 rfl rfl ?_
    refine r_aload_n 15 0 jd_Mo_parentKey_14 rfl rfl ?_
    obtain ⟨v6, e7, hh⟩ := q_bind hh
    refine r_getR 18 93 jd_Mo_parentKey_15 rfl e7 rfl ?_
    refine r_iload_n 19 1 jd_Mo_parentKey_18 rfl rfl ?_
    obtain ⟨v8, e9, hh⟩ := q_bind hh
    refine r_ldI 20 20 jd_Mo_parentKey_19 rfl e9 rfl ?_
    obtain ⟨b12, e13, hh⟩ := q_bind hh
    obtain ⟨p10, e11, hh⟩ := q_bind hh
    refine r_cV (rest := []) 23 119 11 [.int v8] [.int p10.2] jd_Mo_parentKey_20 rfl e13 rfl rfl rfl rfl (q_s8 (Nat.le_of_ble_eq_true rfl)) (q_call_le (Nat.le_of_ble_eq_true rfl) (jm_Mo_key e11)) rfl rfl ?_
    cases hh
    exact r_iret jd_Mo_parentKey_23 rfl ⟨rfl, rfl⟩
  · refine r_if_f 9 13 jd_Mo_parentKey_6 rfl c5 rfl ?_
    refine r_iconst 10 (-1) jd_Mo_parentKey_9 (by decide) rfl ?_
    refine r_goto 23 jd_Mo_parentKey_10 rfl ?_
    cases hh
    exact r_iret jd_Mo_parentKey_23 rfl ⟨rfl, rfl⟩
-- BeanContextsModel.obtain(I)I
def jf_Mo_obtain_B131 (kk : q_S → Nat → Int32 → Int32 → Int32 → Int32 → Int32 → Option (q_S × Int32)) (rc : q_S → Nat → Int32 → Int32 → Int32 → Int32 → Int32 → Option (q_S × Int32)) (x : q_S) (l0 : Nat) (l1 : Int32) (l5 : Int32) (l6 : Int32) (l7 : Int32) (l8 : Int32) : Option (q_S × Int32) :=
  if l6 ≤ l8 then
    kk x l0 l1 l5 l6 l7 l8
  else
    (q_av x (some l0) 11).bind fun b12 =>
    (jf_Mo_parentKey x b12 l7).bind fun p10 =>
    rc p10.1 l0 l1 l5 l6 p10.2 (l8 + 1)
def jf_Mo_obtain_L131 (kk : q_S → Nat → Int32 → Int32 → Int32 → Int32 → Int32 → Option (q_S × Int32)) : Nat → q_S → Nat → Int32 → Int32 → Int32 → Int32 → Int32 → Option (q_S × Int32)
  | 0, _, _, _, _, _, _, _ => none
  | n + 1, x, l0, l1, l5, l6, l7, l8 => jf_Mo_obtain_B131 kk (jf_Mo_obtain_L131 kk n) x l0 l1 l5 l6 l7 l8
theorem jm_Mo_obtain_B131 {p : q_S × Int32} {kk : q_S → Nat → Int32 → Int32 → Int32 → Int32 → Int32 → Option (q_S × Int32)} (hkk : ∀ (x : q_S) (l0 : Nat) (l1 : Int32) (l5 : Int32) (l6 : Int32) (l7 : Int32) (l8 : Int32), kk x l0 l1 l5 l6 l7 l8 = some p → q_X (q_call 7) (fun y o => y = p.1 ∧ o = some (.int p.2)) jq_Mo_obtain 152 [(0, va_rf (some l0)), (1, .int l1), (5, .int l5), (6, .int l6), (7, .int l7), (8, .int l8)] [] x) {rc : q_S → Nat → Int32 → Int32 → Int32 → Int32 → Int32 → Option (q_S × Int32)} (hrc : ∀ (x : q_S) (l0 : Nat) (l1 : Int32) (l5 : Int32) (l6 : Int32) (l7 : Int32) (l8 : Int32), rc x l0 l1 l5 l6 l7 l8 = some p → q_X (q_call 7) (fun y o => y = p.1 ∧ o = some (.int p.2)) jq_Mo_obtain 131 [(0, va_rf (some l0)), (1, .int l1), (5, .int l5), (6, .int l6), (7, .int l7), (8, .int l8)] [] x) (x : q_S) (l0 : Nat) (l1 : Int32) (l5 : Int32) (l6 : Int32) (l7 : Int32) (l8 : Int32) (hh : jf_Mo_obtain_B131 kk rc x l0 l1 l5 l6 l7 l8 = some p) : q_X (q_call 7) (fun y o => y = p.1 ∧ o = some (.int p.2)) jq_Mo_obtain 131 [(0, va_rf (some l0)), (1, .int l1), (5, .int l5), (6, .int l6), (7, .int l7), (8, .int l8)] [] x := by
  unfold jf_Mo_obtain_B131 at hh
  refine r_iload 133 5 jd_Mo_obtain_131 rfl rfl ?_
  refine r_iload 135 3 jd_Mo_obtain_133 rfl rfl ?_
  rcases q_ite hh with ⟨c9, hh⟩ | ⟨c9, hh⟩
  · refine r_ic_t 152 jd_Mo_obtain_135 rfl c9 ?_
    refine q_sub [0, 1, 2, 3, 4, 5] rfl ?_
    exact hkk _ _ _ _ _ _ _ hh
  · refine r_ic_f 138 152 jd_Mo_obtain_135 rfl c9 rfl ?_
    refine r_aload_n 139 0 jd_Mo_obtain_138 rfl rfl ?_
    refine r_iload 141 4 jd_Mo_obtain_139 rfl rfl ?_
    obtain ⟨b12, e13, hh⟩ := q_bind hh
    obtain ⟨p10, e11, hh⟩ := q_bind hh
    refine r_cV (rest := []) 144 136 11 [.int l7] [.int p10.2] jd_Mo_obtain_141 rfl e13 rfl rfl rfl rfl (q_s8 (Nat.le_of_ble_eq_true rfl)) (q_call_le (Nat.le_of_ble_eq_true rfl) (jm_Mo_parentKey e11)) rfl rfl ?_
    refine r_istore 146 [(7, .int p10.2), (0, va_rf (some l0)), (1, .int l1), (5, .int l5), (6, .int l6), (8, .int l8)] jd_Mo_obtain_144 (by decide) rfl rfl ?_
    refine r_iinc 149 5 [(8, .int (l8 + 1)), (7, .int p10.2), (0, va_rf (some l0)), (1, .int l1), (5, .int l5), (6, .int l6)] 1 jd_Mo_obtain_146 rfl (by decide) (by decide) rfl rfl ?_
    refine r_goto 131 jd_Mo_obtain_149 rfl ?_
    refine q_sub [2, 3, 4, 5, 1, 0] rfl ?_
    exact hrc _ _ _ _ _ _ _ hh
theorem jm_Mo_obtain_L131 {p : q_S × Int32} {kk : q_S → Nat → Int32 → Int32 → Int32 → Int32 → Int32 → Option (q_S × Int32)} (hkk : ∀ (x : q_S) (l0 : Nat) (l1 : Int32) (l5 : Int32) (l6 : Int32) (l7 : Int32) (l8 : Int32), kk x l0 l1 l5 l6 l7 l8 = some p → q_X (q_call 7) (fun y o => y = p.1 ∧ o = some (.int p.2)) jq_Mo_obtain 152 [(0, va_rf (some l0)), (1, .int l1), (5, .int l5), (6, .int l6), (7, .int l7), (8, .int l8)] [] x) : ∀ (n : Nat) (x : q_S) (l0 : Nat) (l1 : Int32) (l5 : Int32) (l6 : Int32) (l7 : Int32) (l8 : Int32), jf_Mo_obtain_L131 kk n x l0 l1 l5 l6 l7 l8 = some p → q_X (q_call 7) (fun y o => y = p.1 ∧ o = some (.int p.2)) jq_Mo_obtain 131 [(0, va_rf (some l0)), (1, .int l1), (5, .int l5), (6, .int l6), (7, .int l7), (8, .int l8)] [] x
  | 0, _, _, _, _, _, _, _, hh => nomatch hh
  | n + 1, x, l0, l1, l5, l6, l7, l8, hh => jm_Mo_obtain_B131 hkk (jm_Mo_obtain_L131 hkk n) x l0 l1 l5 l6 l7 l8 hh
def jf_Mo_obtain_B120 (rc : q_S → Nat → Int32 → Int32 → Int32 → Option (q_S × Int32)) (x : q_S) (l0 : Nat) (l1 : Int32) (l5 : Int32) (l6 : Int32) : Option (q_S × Int32) :=
  if l6 < 0 then
    some (x, l5)
  else
    jf_Mo_obtain_L131 (fun y14 l0_14 l1_14 l5_14 l6_14 l7_14 l8_14 =>
      (q_av y14 (some l0_14) 11).bind fun b17 =>
      (jf_Mo_build y14 b17 l7_14 l5_14).bind fun p15 =>
      if 0 ≤ p15.2 then
        rc p15.1 l0_14 l1_14 p15.2 (l6_14 + (-1))
      else
        some (p15.1, p15.2)
    ) lpK x l0 l1 l5 l6 l1 0
def jf_Mo_obtain_L120 : Nat → q_S → Nat → Int32 → Int32 → Int32 → Option (q_S × Int32)
  | 0, _, _, _, _, _ => none
  | n + 1, x, l0, l1, l5, l6 => jf_Mo_obtain_B120 (jf_Mo_obtain_L120 n) x l0 l1 l5 l6
theorem jm_Mo_obtain_B120 {p : q_S × Int32} {rc : q_S → Nat → Int32 → Int32 → Int32 → Option (q_S × Int32)} (hrc : ∀ (x : q_S) (l0 : Nat) (l1 : Int32) (l5 : Int32) (l6 : Int32), rc x l0 l1 l5 l6 = some p → q_X (q_call 7) (fun y o => y = p.1 ∧ o = some (.int p.2)) jq_Mo_obtain 120 [(0, va_rf (some l0)), (1, .int l1), (5, .int l5), (6, .int l6)] [] x) (x : q_S) (l0 : Nat) (l1 : Int32) (l5 : Int32) (l6 : Int32) (hh : jf_Mo_obtain_B120 rc x l0 l1 l5 l6 = some p) : q_X (q_call 7) (fun y o => y = p.1 ∧ o = some (.int p.2)) jq_Mo_obtain 120 [(0, va_rf (some l0)), (1, .int l1), (5, .int l5), (6, .int l6)] [] x := by
  unfold jf_Mo_obtain_B120 at hh
  refine r_iload 122 3 jd_Mo_obtain_120 rfl rfl ?_
  rcases q_ite hh with ⟨c8, hh⟩ | ⟨c8, hh⟩
  · refine r_if_t 176 jd_Mo_obtain_122 rfl c8 ?_
    refine r_iload 178 2 jd_Mo_obtain_176 rfl rfl ?_
    cases hh
    exact r_iret jd_Mo_obtain_178 rfl ⟨rfl, rfl⟩
  · refine r_if_f 125 176 jd_Mo_obtain_122 rfl c8 rfl ?_
    refine r_iload_n 126 1 jd_Mo_obtain_125 rfl rfl ?_
    refine r_istore 128 [(7, .int l1), (0, va_rf (some l0)), (1, .int l1), (5, .int l5), (6, .int l6)] jd_Mo_obtain_126 (by decide) rfl rfl ?_
    refine r_iconst 129 0 jd_Mo_obtain_128 (by decide) rfl ?_
    refine r_istore 131 [(8, .int 0), (7, .int l1), (0, va_rf (some l0)), (1, .int l1), (5, .int l5), (6, .int l6)] jd_Mo_obtain_129 (by decide) rfl rfl ?_
    refine q_sub [2, 3, 4, 5, 1, 0] rfl ?_
    refine jm_Mo_obtain_L131 (fun y14 l0_14 l1_14 l5_14 l6_14 l7_14 l8_14 hh => ?_) lpK _ _ _ _ _ _ _ hh
    refine r_aload_n 153 0 jd_Mo_obtain_152 rfl rfl ?_
    refine r_iload 155 4 jd_Mo_obtain_153 rfl rfl ?_
    refine r_iload 157 2 jd_Mo_obtain_155 rfl rfl ?_
    obtain ⟨b17, e18, hh⟩ := q_bind hh
    obtain ⟨p15, e16, hh⟩ := q_bind hh
    refine r_cV (rest := []) 160 137 11 [.int l7_14, .int l5_14] [.int p15.2] jd_Mo_obtain_157 rfl e18 rfl rfl rfl rfl (q_s8 (Nat.le_of_ble_eq_true rfl)) (q_call_le (Nat.le_of_ble_eq_true rfl) (jm_Mo_build e16)) rfl rfl ?_
    refine r_istore 162 [(5, .int p15.2), (0, va_rf (some l0_14)), (1, .int l1_14), (6, .int l6_14), (7, .int l7_14), (8, .int l8_14)] jd_Mo_obtain_160 (by decide) rfl rfl ?_
    refine r_iload 164 0 jd_Mo_obtain_162 rfl rfl ?_
    rcases q_ite hh with ⟨c19, hh⟩ | ⟨c19, hh⟩
    · refine r_if_t 170 jd_Mo_obtain_164 rfl c19 ?_
      refine r_iinc 173 3 [(6, .int (l6_14 + (-1))), (5, .int p15.2), (0, va_rf (some l0_14)), (1, .int l1_14), (7, .int l7_14), (8, .int l8_14)] (-1) jd_Mo_obtain_170 rfl (by decide) (by decide) rfl rfl ?_
      refine r_goto 120 jd_Mo_obtain_173 rfl ?_
      refine q_sub [2, 3, 1, 0] rfl ?_
      exact hrc _ _ _ _ _ hh
    · refine r_if_f 167 170 jd_Mo_obtain_164 rfl c19 rfl ?_
      refine r_iload 169 0 jd_Mo_obtain_167 rfl rfl ?_
      cases hh
      exact r_iret jd_Mo_obtain_169 rfl ⟨rfl, rfl⟩
theorem jm_Mo_obtain_L120 {p : q_S × Int32} : ∀ (n : Nat) (x : q_S) (l0 : Nat) (l1 : Int32) (l5 : Int32) (l6 : Int32), jf_Mo_obtain_L120 n x l0 l1 l5 l6 = some p → q_X (q_call 7) (fun y o => y = p.1 ∧ o = some (.int p.2)) jq_Mo_obtain 120 [(0, va_rf (some l0)), (1, .int l1), (5, .int l5), (6, .int l6)] [] x
  | 0, _, _, _, _, _, hh => nomatch hh
  | n + 1, x, l0, l1, l5, l6, hh => jm_Mo_obtain_B120 (jm_Mo_obtain_L120 n) x l0 l1 l5 l6 hh
def jf_Mo_obtain_B14 (rc : q_S → Nat → Int32 → Int32 → Int32 → Int32 → Int32 → Option (q_S × Int32)) (x : q_S) (l0 : Nat) (l1 : Int32) (l2 : Int32) (l3 : Int32) (l4 : Int32) (l5 : Int32) : Option (q_S × Int32) :=
  if 4 ≤ l5 then
    if 0 ≤ l2 then
      if l4 < 0 then
        jf_Mo_obtain_L120 lpK x l0 l1 l4 (l3 - 1)
      else
        (q_av x (some l0) 11).bind fun b22 =>
        (jf_Mo_use x b22 l4).bind fun p20 =>
        jf_Mo_obtain_L120 lpK p20.1 l0 l1 l4 (l3 - 1)
    else
      jf_Mo_obtain_L120 lpK x l0 l1 (-1) (l3 - 1)
  else
    if 0 ≤ l4 then
      if 0 ≤ l2 then
        if l4 < 0 then
          jf_Mo_obtain_L120 lpK x l0 l1 l4 (l3 - 1)
        else
          (q_av x (some l0) 11).bind fun b30 =>
          (jf_Mo_use x b30 l4).bind fun p28 =>
          jf_Mo_obtain_L120 lpK p28.1 l0 l1 l4 (l3 - 1)
      else
        jf_Mo_obtain_L120 lpK x l0 l1 (-1) (l3 - 1)
    else
      (q_gR x (some l0) 11 15).bind fun v33 =>
      (q_lI x 21 v33 l2).bind fun v35 =>
      if v35 < 2 then
        (q_av x (some l0) 11).bind fun b40 =>
        (jf_Mo_parentKey x b40 l2).bind fun p38 =>
        if 0 ≤ p38.2 then
          (q_av p38.1 (some l0) 11).bind fun b45 =>
          (jf_Mo_contextOf p38.1 b45 p38.2).bind fun p43 =>
          if 0 ≤ p38.2 then
            if 0 ≤ p38.2 then
              rc p43.1 l0 l1 p38.2 (l3 + 1) p43.2 (l5 + 1)
            else
              rc p43.1 l0 l1 (-1) (l3 + 1) p43.2 (l5 + 1)
          else
            if 0 ≤ p38.2 then
              rc p43.1 l0 l1 l2 (l3 + 1) p43.2 (l5 + 1)
            else
              rc p43.1 l0 l1 (-1) (l3 + 1) p43.2 (l5 + 1)
        else
          if 0 ≤ p38.2 then
            if 0 ≤ p38.2 then
              rc p38.1 l0 l1 p38.2 (l3 + 1) 0 (l5 + 1)
            else
              rc p38.1 l0 l1 (-1) (l3 + 1) 0 (l5 + 1)
          else
            if 0 ≤ p38.2 then
              rc p38.1 l0 l1 l2 (l3 + 1) 0 (l5 + 1)
            else
              rc p38.1 l0 l1 (-1) (l3 + 1) 0 (l5 + 1)
      else
        some (x, (-8))
def jf_Mo_obtain_L14 : Nat → q_S → Nat → Int32 → Int32 → Int32 → Int32 → Int32 → Option (q_S × Int32)
  | 0, _, _, _, _, _, _, _ => none
  | n + 1, x, l0, l1, l2, l3, l4, l5 => jf_Mo_obtain_B14 (jf_Mo_obtain_L14 n) x l0 l1 l2 l3 l4 l5
theorem jm_Mo_obtain_B14 {p : q_S × Int32} {rc : q_S → Nat → Int32 → Int32 → Int32 → Int32 → Int32 → Option (q_S × Int32)} (hrc : ∀ (x : q_S) (l0 : Nat) (l1 : Int32) (l2 : Int32) (l3 : Int32) (l4 : Int32) (l5 : Int32), rc x l0 l1 l2 l3 l4 l5 = some p → q_X (q_call 7) (fun y o => y = p.1 ∧ o = some (.int p.2)) jq_Mo_obtain 14 [(0, va_rf (some l0)), (1, .int l1), (2, .int l2), (3, .int l3), (4, .int l4), (5, .int l5)] [] x) (x : q_S) (l0 : Nat) (l1 : Int32) (l2 : Int32) (l3 : Int32) (l4 : Int32) (l5 : Int32) (hh : jf_Mo_obtain_B14 rc x l0 l1 l2 l3 l4 l5 = some p) : q_X (q_call 7) (fun y o => y = p.1 ∧ o = some (.int p.2)) jq_Mo_obtain 14 [(0, va_rf (some l0)), (1, .int l1), (2, .int l2), (3, .int l3), (4, .int l4), (5, .int l5)] [] x := by
  unfold jf_Mo_obtain_B14 at hh
  refine r_iload 16 5 jd_Mo_obtain_14 rfl rfl ?_
  refine r_iconst 17 4 jd_Mo_obtain_16 (by decide) rfl ?_
  rcases q_ite hh with ⟨c5, hh⟩ | ⟨c5, hh⟩
  · refine r_ic_t 92 jd_Mo_obtain_17 rfl c5 ?_
    refine r_iload_n 93 2 jd_Mo_obtain_92 rfl rfl ?_
    rcases q_ite hh with ⟨c6, hh⟩ | ⟨c6, hh⟩
    · refine r_if_t 100 jd_Mo_obtain_93 rfl c6 ?_
      refine r_iload 102 4 jd_Mo_obtain_100 rfl rfl ?_
      refine r_istore 104 [(5, .int l4), (0, va_rf (some l0)), (1, .int l1), (2, .int l2), (3, .int l3), (4, .int l4)] jd_Mo_obtain_102 (by decide) rfl rfl ?_
      refine r_iload 106 0 jd_Mo_obtain_104 rfl rfl ?_
      rcases q_ite hh with ⟨c7, hh⟩ | ⟨c7, hh⟩
      · refine r_if_t 115 jd_Mo_obtain_106 rfl c7 ?_
        refine r_iload_n 116 4 jd_Mo_obtain_115 rfl rfl ?_
        refine r_iconst 117 1 jd_Mo_obtain_116 (by decide) rfl ?_
        refine r_isub 118 jd_Mo_obtain_117 rfl ?_
        refine r_istore 120 [(6, .int (l3 - 1)), (5, .int l4), (0, va_rf (some l0)), (1, .int l1), (2, .int l2), (3, .int l3), (4, .int l4)] jd_Mo_obtain_118 (by decide) rfl rfl ?_
        refine q_sub [2, 3, 1, 0] rfl ?_
        exact jm_Mo_obtain_L120 lpK _ _ _ _ _ hh
      · refine r_if_f 109 115 jd_Mo_obtain_106 rfl c7 rfl ?_
        refine r_aload_n 110 1 jd_Mo_obtain_109 rfl rfl ?_
        refine r_iload 112 0 jd_Mo_obtain_110 rfl rfl ?_
        obtain ⟨b22, e23, hh⟩ := q_bind hh
        obtain ⟨p20, e21, hh⟩ := q_bind hh
        refine r_cV (rest := []) 115 138 11 [.int l4] [] jd_Mo_obtain_112 rfl e23 rfl rfl rfl rfl (q_s8 (Nat.le_of_ble_eq_true rfl)) (q_call_le (Nat.le_of_ble_eq_true rfl) (jm_Mo_use e21)) rfl rfl ?_
        refine r_iload_n 116 4 jd_Mo_obtain_115 rfl rfl ?_
        refine r_iconst 117 1 jd_Mo_obtain_116 (by decide) rfl ?_
        refine r_isub 118 jd_Mo_obtain_117 rfl ?_
        refine r_istore 120 [(6, .int (l3 - 1)), (5, .int l4), (0, va_rf (some l0)), (1, .int l1), (2, .int l2), (3, .int l3), (4, .int l4)] jd_Mo_obtain_118 (by decide) rfl rfl ?_
        refine q_sub [2, 3, 1, 0] rfl ?_
        exact jm_Mo_obtain_L120 lpK _ _ _ _ _ hh
    · refine r_if_f 96 100 jd_Mo_obtain_93 rfl c6 rfl ?_
      refine r_iconst 97 (-1) jd_Mo_obtain_96 (by decide) rfl ?_
      refine r_goto 102 jd_Mo_obtain_97 rfl ?_
      refine r_istore 104 [(5, .int (-1)), (0, va_rf (some l0)), (1, .int l1), (2, .int l2), (3, .int l3), (4, .int l4)] jd_Mo_obtain_102 (by decide) rfl rfl ?_
      refine r_iload 106 0 jd_Mo_obtain_104 rfl rfl ?_
      refine r_if_t 115 jd_Mo_obtain_106 rfl (by unfold q_cnd; decide) ?_
      refine r_iload_n 116 4 jd_Mo_obtain_115 rfl rfl ?_
      refine r_iconst 117 1 jd_Mo_obtain_116 (by decide) rfl ?_
      refine r_isub 118 jd_Mo_obtain_117 rfl ?_
      refine r_istore 120 [(6, .int (l3 - 1)), (5, .int (-1)), (0, va_rf (some l0)), (1, .int l1), (2, .int l2), (3, .int l3), (4, .int l4)] jd_Mo_obtain_118 (by decide) rfl rfl ?_
      refine q_sub [2, 3, 1, 0] rfl ?_
      exact jm_Mo_obtain_L120 lpK _ _ _ _ _ hh
  · refine r_ic_f 20 92 jd_Mo_obtain_17 rfl c5 rfl ?_
    refine r_iload 22 4 jd_Mo_obtain_20 rfl rfl ?_
    rcases q_ite hh with ⟨c25, hh⟩ | ⟨c25, hh⟩
    · refine r_if_t 92 jd_Mo_obtain_22 rfl c25 ?_
      refine r_iload_n 93 2 jd_Mo_obtain_92 rfl rfl ?_
      rcases q_ite hh with ⟨c26, hh⟩ | ⟨c26, hh⟩
      · refine r_if_t 100 jd_Mo_obtain_93 rfl c26 ?_
        refine r_iload 102 4 jd_Mo_obtain_100 rfl rfl ?_
        refine r_istore 104 [(5, .int l4), (0, va_rf (some l0)), (1, .int l1), (2, .int l2), (3, .int l3), (4, .int l4)] jd_Mo_obtain_102 (by decide) rfl rfl ?_
        refine r_iload 106 0 jd_Mo_obtain_104 rfl rfl ?_
        rcases q_ite hh with ⟨c27, hh⟩ | ⟨c27, hh⟩
        · refine r_if_t 115 jd_Mo_obtain_106 rfl c27 ?_
          refine r_iload_n 116 4 jd_Mo_obtain_115 rfl rfl ?_
          refine r_iconst 117 1 jd_Mo_obtain_116 (by decide) rfl ?_
          refine r_isub 118 jd_Mo_obtain_117 rfl ?_
          refine r_istore 120 [(6, .int (l3 - 1)), (5, .int l4), (0, va_rf (some l0)), (1, .int l1), (2, .int l2), (3, .int l3), (4, .int l4)] jd_Mo_obtain_118 (by decide) rfl rfl ?_
          refine q_sub [2, 3, 1, 0] rfl ?_
          exact jm_Mo_obtain_L120 lpK _ _ _ _ _ hh
        · refine r_if_f 109 115 jd_Mo_obtain_106 rfl c27 rfl ?_
          refine r_aload_n 110 1 jd_Mo_obtain_109 rfl rfl ?_
          refine r_iload 112 0 jd_Mo_obtain_110 rfl rfl ?_
          obtain ⟨b30, e31, hh⟩ := q_bind hh
          obtain ⟨p28, e29, hh⟩ := q_bind hh
          refine r_cV (rest := []) 115 138 11 [.int l4] [] jd_Mo_obtain_112 rfl e31 rfl rfl rfl rfl (q_s8 (Nat.le_of_ble_eq_true rfl)) (q_call_le (Nat.le_of_ble_eq_true rfl) (jm_Mo_use e29)) rfl rfl ?_
          refine r_iload_n 116 4 jd_Mo_obtain_115 rfl rfl ?_
          refine r_iconst 117 1 jd_Mo_obtain_116 (by decide) rfl ?_
          refine r_isub 118 jd_Mo_obtain_117 rfl ?_
          refine r_istore 120 [(6, .int (l3 - 1)), (5, .int l4), (0, va_rf (some l0)), (1, .int l1), (2, .int l2), (3, .int l3), (4, .int l4)] jd_Mo_obtain_118 (by decide) rfl rfl ?_
          refine q_sub [2, 3, 1, 0] rfl ?_
          exact jm_Mo_obtain_L120 lpK _ _ _ _ _ hh
      · refine r_if_f 96 100 jd_Mo_obtain_93 rfl c26 rfl ?_
        refine r_iconst 97 (-1) jd_Mo_obtain_96 (by decide) rfl ?_
        refine r_goto 102 jd_Mo_obtain_97 rfl ?_
        refine r_istore 104 [(5, .int (-1)), (0, va_rf (some l0)), (1, .int l1), (2, .int l2), (3, .int l3), (4, .int l4)] jd_Mo_obtain_102 (by decide) rfl rfl ?_
        refine r_iload 106 0 jd_Mo_obtain_104 rfl rfl ?_
        refine r_if_t 115 jd_Mo_obtain_106 rfl (by unfold q_cnd; decide) ?_
        refine r_iload_n 116 4 jd_Mo_obtain_115 rfl rfl ?_
        refine r_iconst 117 1 jd_Mo_obtain_116 (by decide) rfl ?_
        refine r_isub 118 jd_Mo_obtain_117 rfl ?_
        refine r_istore 120 [(6, .int (l3 - 1)), (5, .int (-1)), (0, va_rf (some l0)), (1, .int l1), (2, .int l2), (3, .int l3), (4, .int l4)] jd_Mo_obtain_118 (by decide) rfl rfl ?_
        refine q_sub [2, 3, 1, 0] rfl ?_
        exact jm_Mo_obtain_L120 lpK _ _ _ _ _ hh
    · refine r_if_f 25 92 jd_Mo_obtain_22 rfl c25 rfl ?_
      refine r_aload_n 26 0 jd_Mo_obtain_25 rfl rfl ?_
      obtain ⟨v33, e34, hh⟩ := q_bind hh
      refine r_getR 29 94 jd_Mo_obtain_26 rfl e34 rfl ?_
      refine r_iload_n 30 2 jd_Mo_obtain_29 rfl rfl ?_
      obtain ⟨v35, e36, hh⟩ := q_bind hh
      refine r_ldI 31 21 jd_Mo_obtain_30 rfl e36 rfl ?_
      refine r_iconst 32 2 jd_Mo_obtain_31 (by decide) rfl ?_
      rcases q_ite hh with ⟨c37, hh⟩ | ⟨c37, hh⟩
      · refine r_ic_t 38 jd_Mo_obtain_32 rfl c37 ?_
        refine r_aload_n 39 0 jd_Mo_obtain_38 rfl rfl ?_
        refine r_iload_n 40 2 jd_Mo_obtain_39 rfl rfl ?_
        obtain ⟨b40, e41, hh⟩ := q_bind hh
        obtain ⟨p38, e39, hh⟩ := q_bind hh
        refine r_cV (rest := []) 43 136 11 [.int l2] [.int p38.2] jd_Mo_obtain_40 rfl e41 rfl rfl rfl rfl (q_s8 (Nat.le_of_ble_eq_true rfl)) (q_call_le (Nat.le_of_ble_eq_true rfl) (jm_Mo_parentKey e39)) rfl rfl ?_
        refine r_istore 45 [(6, .int p38.2), (0, va_rf (some l0)), (1, .int l1), (2, .int l2), (3, .int l3), (4, .int l4), (5, .int l5)] jd_Mo_obtain_43 (by decide) rfl rfl ?_
        refine r_iinc 48 4 [(3, .int (l3 + 1)), (6, .int p38.2), (0, va_rf (some l0)), (1, .int l1), (2, .int l2), (4, .int l4), (5, .int l5)] 1 jd_Mo_obtain_45 rfl (by decide) (by decide) rfl rfl ?_
        refine r_iload 50 1 jd_Mo_obtain_48 rfl rfl ?_
        rcases q_ite hh with ⟨c42, hh⟩ | ⟨c42, hh⟩
        · refine r_if_t 59 jd_Mo_obtain_50 rfl c42 ?_
          refine r_aload_n 60 2 jd_Mo_obtain_59 rfl rfl ?_
          refine r_iload 62 1 jd_Mo_obtain_60 rfl rfl ?_
          obtain ⟨b45, e46, hh⟩ := q_bind hh
          obtain ⟨p43, e44, hh⟩ := q_bind hh
          refine r_cV (rest := []) 65 120 11 [.int p38.2] [.int p43.2] jd_Mo_obtain_62 rfl e46 rfl rfl rfl rfl (q_s8 (Nat.le_of_ble_eq_true rfl)) (q_call_le (Nat.le_of_ble_eq_true rfl) (jm_Mo_contextOf e44)) rfl rfl ?_
          refine r_istore 67 [(4, .int p43.2), (3, .int (l3 + 1)), (6, .int p38.2), (0, va_rf (some l0)), (1, .int l1), (2, .int l2), (5, .int l5)] jd_Mo_obtain_65 (by decide) rfl rfl ?_
          refine r_iload 69 2 jd_Mo_obtain_67 rfl rfl ?_
          rcases q_ite hh with ⟨c47, hh⟩ | ⟨c47, hh⟩
          · refine r_if_t 76 jd_Mo_obtain_69 rfl c47 ?_
            refine r_iload 78 2 jd_Mo_obtain_76 rfl rfl ?_
            refine r_istore_n 79 [(2, .int p38.2), (4, .int p43.2), (3, .int (l3 + 1)), (6, .int p38.2), (0, va_rf (some l0)), (1, .int l1), (5, .int l5)] jd_Mo_obtain_78 (by decide) rfl rfl ?_
            refine r_iload 81 3 jd_Mo_obtain_79 rfl rfl ?_
            rcases q_ite hh with ⟨c48, hh⟩ | ⟨c48, hh⟩
            · refine r_if_t 86 jd_Mo_obtain_81 rfl c48 ?_
              refine r_iinc 89 6 [(5, .int (l5 + 1)), (2, .int p38.2), (4, .int p43.2), (3, .int (l3 + 1)), (6, .int p38.2), (0, va_rf (some l0)), (1, .int l1)] 1 jd_Mo_obtain_86 rfl (by decide) (by decide) rfl rfl ?_
              refine r_goto 14 jd_Mo_obtain_89 rfl ?_
              refine q_sub [5, 6, 1, 3, 2, 0] rfl ?_
              exact hrc _ _ _ _ _ _ _ hh
            · refine r_if_f 84 86 jd_Mo_obtain_81 rfl c48 rfl ?_
              refine r_iconst 85 (-1) jd_Mo_obtain_84 (by decide) rfl ?_
              refine r_istore_n 86 [(2, .int (-1)), (4, .int p43.2), (3, .int (l3 + 1)), (6, .int p38.2), (0, va_rf (some l0)), (1, .int l1), (5, .int l5)] jd_Mo_obtain_85 (by decide) rfl rfl ?_
              refine r_iinc 89 6 [(5, .int (l5 + 1)), (2, .int (-1)), (4, .int p43.2), (3, .int (l3 + 1)), (6, .int p38.2), (0, va_rf (some l0)), (1, .int l1)] 1 jd_Mo_obtain_86 rfl (by decide) (by decide) rfl rfl ?_
              refine r_goto 14 jd_Mo_obtain_89 rfl ?_
              refine q_sub [5, 6, 1, 3, 2, 0] rfl ?_
              exact hrc _ _ _ _ _ _ _ hh
          · refine r_if_f 72 76 jd_Mo_obtain_69 rfl c47 rfl ?_
            refine r_iload_n 73 5 jd_Mo_obtain_72 rfl rfl ?_
            refine r_goto 78 jd_Mo_obtain_73 rfl ?_
            refine r_istore_n 79 [(2, .int l2), (4, .int p43.2), (3, .int (l3 + 1)), (6, .int p38.2), (0, va_rf (some l0)), (1, .int l1), (5, .int l5)] jd_Mo_obtain_78 (by decide) rfl rfl ?_
            refine r_iload 81 3 jd_Mo_obtain_79 rfl rfl ?_
            rcases q_ite hh with ⟨c49, hh⟩ | ⟨c49, hh⟩
            · refine r_if_t 86 jd_Mo_obtain_81 rfl c49 ?_
              refine r_iinc 89 6 [(5, .int (l5 + 1)), (2, .int l2), (4, .int p43.2), (3, .int (l3 + 1)), (6, .int p38.2), (0, va_rf (some l0)), (1, .int l1)] 1 jd_Mo_obtain_86 rfl (by decide) (by decide) rfl rfl ?_
              refine r_goto 14 jd_Mo_obtain_89 rfl ?_
              refine q_sub [5, 6, 1, 3, 2, 0] rfl ?_
              exact hrc _ _ _ _ _ _ _ hh
            · refine r_if_f 84 86 jd_Mo_obtain_81 rfl c49 rfl ?_
              refine r_iconst 85 (-1) jd_Mo_obtain_84 (by decide) rfl ?_
              refine r_istore_n 86 [(2, .int (-1)), (4, .int p43.2), (3, .int (l3 + 1)), (6, .int p38.2), (0, va_rf (some l0)), (1, .int l1), (5, .int l5)] jd_Mo_obtain_85 (by decide) rfl rfl ?_
              refine r_iinc 89 6 [(5, .int (l5 + 1)), (2, .int (-1)), (4, .int p43.2), (3, .int (l3 + 1)), (6, .int p38.2), (0, va_rf (some l0)), (1, .int l1)] 1 jd_Mo_obtain_86 rfl (by decide) (by decide) rfl rfl ?_
              refine r_goto 14 jd_Mo_obtain_89 rfl ?_
              refine q_sub [5, 6, 1, 3, 2, 0] rfl ?_
              exact hrc _ _ _ _ _ _ _ hh
        · refine r_if_f 53 59 jd_Mo_obtain_50 rfl c42 rfl ?_
          refine r_iconst 54 0 jd_Mo_obtain_53 (by decide) rfl ?_
          refine r_istore 56 [(4, .int 0), (3, .int (l3 + 1)), (6, .int p38.2), (0, va_rf (some l0)), (1, .int l1), (2, .int l2), (5, .int l5)] jd_Mo_obtain_54 (by decide) rfl rfl ?_
          refine r_goto 67 jd_Mo_obtain_56 rfl ?_
          refine r_iload 69 2 jd_Mo_obtain_67 rfl rfl ?_
          rcases q_ite hh with ⟨c50, hh⟩ | ⟨c50, hh⟩
          · refine r_if_t 76 jd_Mo_obtain_69 rfl c50 ?_
            refine r_iload 78 2 jd_Mo_obtain_76 rfl rfl ?_
            refine r_istore_n 79 [(2, .int p38.2), (4, .int 0), (3, .int (l3 + 1)), (6, .int p38.2), (0, va_rf (some l0)), (1, .int l1), (5, .int l5)] jd_Mo_obtain_78 (by decide) rfl rfl ?_
            refine r_iload 81 3 jd_Mo_obtain_79 rfl rfl ?_
            rcases q_ite hh with ⟨c51, hh⟩ | ⟨c51, hh⟩
            · refine r_if_t 86 jd_Mo_obtain_81 rfl c51 ?_
              refine r_iinc 89 6 [(5, .int (l5 + 1)), (2, .int p38.2), (4, .int 0), (3, .int (l3 + 1)), (6, .int p38.2), (0, va_rf (some l0)), (1, .int l1)] 1 jd_Mo_obtain_86 rfl (by decide) (by decide) rfl rfl ?_
              refine r_goto 14 jd_Mo_obtain_89 rfl ?_
              refine q_sub [5, 6, 1, 3, 2, 0] rfl ?_
              exact hrc _ _ _ _ _ _ _ hh
            · refine r_if_f 84 86 jd_Mo_obtain_81 rfl c51 rfl ?_
              refine r_iconst 85 (-1) jd_Mo_obtain_84 (by decide) rfl ?_
              refine r_istore_n 86 [(2, .int (-1)), (4, .int 0), (3, .int (l3 + 1)), (6, .int p38.2), (0, va_rf (some l0)), (1, .int l1), (5, .int l5)] jd_Mo_obtain_85 (by decide) rfl rfl ?_
              refine r_iinc 89 6 [(5, .int (l5 + 1)), (2, .int (-1)), (4, .int 0), (3, .int (l3 + 1)), (6, .int p38.2), (0, va_rf (some l0)), (1, .int l1)] 1 jd_Mo_obtain_86 rfl (by decide) (by decide) rfl rfl ?_
              refine r_goto 14 jd_Mo_obtain_89 rfl ?_
              refine q_sub [5, 6, 1, 3, 2, 0] rfl ?_
              exact hrc _ _ _ _ _ _ _ hh
          · refine r_if_f 72 76 jd_Mo_obtain_69 rfl c50 rfl ?_
            refine r_iload_n 73 5 jd_Mo_obtain_72 rfl rfl ?_
            refine r_goto 78 jd_Mo_obtain_73 rfl ?_
            refine r_istore_n 79 [(2, .int l2), (4, .int 0), (3, .int (l3 + 1)), (6, .int p38.2), (0, va_rf (some l0)), (1, .int l1), (5, .int l5)] jd_Mo_obtain_78 (by decide) rfl rfl ?_
            refine r_iload 81 3 jd_Mo_obtain_79 rfl rfl ?_
            rcases q_ite hh with ⟨c52, hh⟩ | ⟨c52, hh⟩
            · refine r_if_t 86 jd_Mo_obtain_81 rfl c52 ?_
              refine r_iinc 89 6 [(5, .int (l5 + 1)), (2, .int l2), (4, .int 0), (3, .int (l3 + 1)), (6, .int p38.2), (0, va_rf (some l0)), (1, .int l1)] 1 jd_Mo_obtain_86 rfl (by decide) (by decide) rfl rfl ?_
              refine r_goto 14 jd_Mo_obtain_89 rfl ?_
              refine q_sub [5, 6, 1, 3, 2, 0] rfl ?_
              exact hrc _ _ _ _ _ _ _ hh
            · refine r_if_f 84 86 jd_Mo_obtain_81 rfl c52 rfl ?_
              refine r_iconst 85 (-1) jd_Mo_obtain_84 (by decide) rfl ?_
              refine r_istore_n 86 [(2, .int (-1)), (4, .int 0), (3, .int (l3 + 1)), (6, .int p38.2), (0, va_rf (some l0)), (1, .int l1), (5, .int l5)] jd_Mo_obtain_85 (by decide) rfl rfl ?_
              refine r_iinc 89 6 [(5, .int (l5 + 1)), (2, .int (-1)), (4, .int 0), (3, .int (l3 + 1)), (6, .int p38.2), (0, va_rf (some l0)), (1, .int l1)] 1 jd_Mo_obtain_86 rfl (by decide) (by decide) rfl rfl ?_
              refine r_goto 14 jd_Mo_obtain_89 rfl ?_
              refine q_sub [5, 6, 1, 3, 2, 0] rfl ?_
              exact hrc _ _ _ _ _ _ _ hh
      · refine r_ic_f 35 38 jd_Mo_obtain_32 rfl c37 rfl ?_
        refine r_bipush 37 (-8) jd_Mo_obtain_35 (by decide) rfl ?_
        cases hh
        exact r_iret jd_Mo_obtain_37 rfl ⟨rfl, rfl⟩
theorem jm_Mo_obtain_L14 {p : q_S × Int32} : ∀ (n : Nat) (x : q_S) (l0 : Nat) (l1 : Int32) (l2 : Int32) (l3 : Int32) (l4 : Int32) (l5 : Int32), jf_Mo_obtain_L14 n x l0 l1 l2 l3 l4 l5 = some p → q_X (q_call 7) (fun y o => y = p.1 ∧ o = some (.int p.2)) jq_Mo_obtain 14 [(0, va_rf (some l0)), (1, .int l1), (2, .int l2), (3, .int l3), (4, .int l4), (5, .int l5)] [] x
  | 0, _, _, _, _, _, _, _, hh => nomatch hh
  | n + 1, x, l0, l1, l2, l3, l4, l5, hh => jm_Mo_obtain_B14 (jm_Mo_obtain_L14 n) x l0 l1 l2 l3 l4 l5 hh
def jf_Mo_obtain (x : q_S) (a0 : Nat) (a1 : Int32) : Option (q_S × Int32) :=
  (q_av x (some a0) 11).bind fun b3 =>
  (jf_Mo_contextOf x b3 a1).bind fun p1 =>
  jf_Mo_obtain_L14 lpK p1.1 a0 a1 a1 0 p1.2 0
theorem jm_Mo_obtain {x : q_S} {a0 : Nat} {a1 : Int32} {p : q_S × Int32} (hh : jf_Mo_obtain x a0 a1 = some p) : q_call 8 jq_Mo_obtain [va_rf (some a0), .int a1] x p.1 (some (.int p.2)) := by
  unfold jf_Mo_obtain at hh
  refine ⟨List.mem_of_getElem? (i := 141) rfl, Nat.le_of_ble_eq_true rfl, List.forall_mem_cons.mpr ⟨rfl, List.forall_mem_cons.mpr ⟨rfl, fun _ h => by cases h⟩⟩, ?_⟩
  show q_X (q_call 7) _ jq_Mo_obtain 0 [(0, va_rf (some a0)), (1, .int a1)] [] x
  refine r_iload_n 1 1 jd_Mo_obtain_0 rfl rfl ?_
  refine r_istore_n 2 [(2, .int a1), (0, va_rf (some a0)), (1, .int a1)] jd_Mo_obtain_1 (by decide) rfl rfl ?_
  refine r_iconst 3 0 jd_Mo_obtain_2 (by decide) rfl ?_
  refine r_istore_n 4 [(3, .int 0), (2, .int a1), (0, va_rf (some a0)), (1, .int a1)] jd_Mo_obtain_3 (by decide) rfl rfl ?_
  refine r_aload_n 5 2 jd_Mo_obtain_4 rfl rfl ?_
  refine r_iload_n 6 3 jd_Mo_obtain_5 rfl rfl ?_
  obtain ⟨b3, e4, hh⟩ := q_bind hh
  obtain ⟨p1, e2, hh⟩ := q_bind hh
  refine r_cV (rest := []) 9 120 11 [.int a1] [.int p1.2] jd_Mo_obtain_6 rfl e4 rfl rfl rfl rfl (q_s8 (Nat.le_of_ble_eq_true rfl)) (q_call_le (Nat.le_of_ble_eq_true rfl) (jm_Mo_contextOf e2)) rfl rfl ?_
  refine r_istore 11 [(4, .int p1.2), (3, .int 0), (2, .int a1), (0, va_rf (some a0)), (1, .int a1)] jd_Mo_obtain_9 (by decide) rfl rfl ?_
  refine r_iconst 12 0 jd_Mo_obtain_11 (by decide) rfl ?_
  refine r_istore 14 [(5, .int 0), (4, .int p1.2), (3, .int 0), (2, .int a1), (0, va_rf (some a0)), (1, .int a1)] jd_Mo_obtain_12 (by decide) rfl rfl ?_
  refine q_sub [4, 5, 3, 2, 1, 0] rfl ?_
  exact jm_Mo_obtain_L14 lpK _ _ _ _ _ _ _ hh
-- BeanContextsModel.request(I)I
def jf_Mo_request (x : q_S) (a0 : Nat) (a1 : Int32) : Option (q_S × Int32) :=
  (q_gI x (some a0) 11 22).bind fun v1 =>
  if v1 = 0 then
    (q_av x (some a0) 11).bind fun b6 =>
    (jf_Mo_isConfiguration x b6 a1).bind fun p4 =>
    if p4.2 = 0 then
      some (p4.1, (-1))
    else
      (q_av p4.1 (some a0) 11).bind fun b11 =>
      (jf_Mo_key p4.1 b11 a1).bind fun p9 =>
      (q_av p9.1 (some a0) 11).bind fun b15 =>
      (jf_Mo_obtain p9.1 b15 p9.2).bind fun p13 =>
      some (p13.1, p13.2)
  else
    some (x, (-1))
theorem jm_Mo_request {x : q_S} {a0 : Nat} {a1 : Int32} {p : q_S × Int32} (hh : jf_Mo_request x a0 a1 = some p) : q_call 9 jq_Mo_request [va_rf (some a0), .int a1] x p.1 (some (.int p.2)) := by
  unfold jf_Mo_request at hh
  refine ⟨List.mem_of_getElem? (i := 140) rfl, Nat.le_of_ble_eq_true rfl, List.forall_mem_cons.mpr ⟨rfl, List.forall_mem_cons.mpr ⟨rfl, fun _ h => by cases h⟩⟩, ?_⟩
  show q_X (q_call 8) _ jq_Mo_request 0 [(0, va_rf (some a0)), (1, .int a1)] [] x
  refine r_aload_n 1 0 jd_Mo_request_0 rfl rfl ?_
  obtain ⟨v1, e2, hh⟩ := q_bind hh
  refine r_getI 4 120 jd_Mo_request_1 rfl e2 rfl ?_
  rcases q_ite hh with ⟨c3, hh⟩ | ⟨c3, hh⟩
  · refine r_if_f 7 15 jd_Mo_request_4 rfl (fun z => z c3) rfl ?_
    refine r_aload_n 8 0 jd_Mo_request_7 rfl rfl ?_
    refine r_iload_n 9 1 jd_Mo_request_8 rfl rfl ?_
    obtain ⟨b6, e7, hh⟩ := q_bind hh
    obtain ⟨p4, e5, hh⟩ := q_bind hh
    refine r_cV (rest := []) 12 116 11 [.int a1] [.int p4.2] jd_Mo_request_9 rfl e7 rfl rfl rfl rfl (q_s8 (Nat.le_of_ble_eq_true rfl)) (q_call_le (Nat.le_of_ble_eq_true rfl) (jm_Mo_isConfiguration e5)) rfl rfl ?_
    rcases q_ite hh with ⟨c8, hh⟩ | ⟨c8, hh⟩
    · refine r_if_f 15 19 jd_Mo_request_12 rfl (fun z => z c8) rfl ?_
      refine r_iconst 16 (-1) jd_Mo_request_15 (by decide) rfl ?_
      refine r_goto 28 jd_Mo_request_16 rfl ?_
      cases hh
      exact r_iret jd_Mo_request_28 rfl ⟨rfl, rfl⟩
    · refine r_if_t 19 jd_Mo_request_12 rfl c8 ?_
      refine r_aload_n 20 0 jd_Mo_request_19 rfl rfl ?_
      refine r_aload_n 21 0 jd_Mo_request_20 rfl rfl ?_
      refine r_iload_n 22 1 jd_Mo_request_21 rfl rfl ?_
      obtain ⟨b11, e12, hh⟩ := q_bind hh
      obtain ⟨p9, e10, hh⟩ := q_bind hh
      refine r_cV (rest := [va_rf (some a0)]) 25 119 11 [.int a1] [.int p9.2, va_rf (some a0)] jd_Mo_request_22 rfl e12 rfl rfl rfl rfl (q_s8 (Nat.le_of_ble_eq_true rfl)) (q_call_le (Nat.le_of_ble_eq_true rfl) (jm_Mo_key e10)) rfl rfl ?_
      obtain ⟨b15, e16, hh⟩ := q_bind hh
      obtain ⟨p13, e14, hh⟩ := q_bind hh
      refine r_cV (rest := []) 28 135 11 [.int p9.2] [.int p13.2] jd_Mo_request_25 rfl e16 rfl rfl rfl rfl (q_s8 (Nat.le_of_ble_eq_true rfl)) (q_call_le (Nat.le_of_ble_eq_true rfl) (jm_Mo_obtain e14)) rfl rfl ?_
      cases hh
      exact r_iret jd_Mo_request_28 rfl ⟨rfl, rfl⟩
  · refine r_if_t 15 jd_Mo_request_4 rfl c3 ?_
    refine r_iconst 16 (-1) jd_Mo_request_15 (by decide) rfl ?_
    refine r_goto 28 jd_Mo_request_16 rfl ?_
    cases hh
    exact r_iret jd_Mo_request_28 rfl ⟨rfl, rfl⟩
-- BeanContextsModel.reset(I)I
def jf_Mo_reset_B17 (rc : q_S → Nat → Int32 → Int32 → Int32 → Option (q_S × Int32)) (x : q_S) (l0 : Nat) (l2 : Int32) (l3 : Int32) (l4 : Int32) : Option (q_S × Int32) :=
  (q_gI x (some l0) 11 23).bind fun v6 =>
  if v6 ≤ l4 then
    some (x, l3)
  else
    (q_av x (some l0) 11).bind fun b11 =>
    (jf_Mo_live x b11 l4).bind fun p9 =>
    if p9.2 = 0 then
      rc p9.1 l0 l2 l3 (l4 + 1)
    else
      (q_gR p9.1 (some l0) 11 26).bind fun v15 =>
      (q_lI p9.1 102 v15 l4).bind fun v17 =>
      if v17 = 0 then
        rc p9.1 l0 l2 l3 (l4 + 1)
      else
        (q_gR p9.1 (some l0) 11 24).bind fun v21 =>
        (q_lI p9.1 25 v21 l4).bind fun v23 =>
        if v23 = l2 then
          (q_gR p9.1 (some l0) 11 29).bind fun v27 =>
          (q_sI p9.1 28 v27 l4 0).bind fun x29 =>
          (q_gR x29 (some l0) 11 30).bind fun v31 =>
          (q_sI x29 29 v31 l4 0).bind fun x33 =>
          (q_gR x33 (some l0) 11 31).bind fun v35 =>
          (q_sI x33 30 v35 l4 0).bind fun x37 =>
          rc x37 l0 l2 (l3 + 1) (l4 + 1)
        else
          (q_gR p9.1 (some l0) 11 24).bind fun v39 =>
          (q_lI p9.1 25 v39 l4).bind fun v41 =>
          (q_av p9.1 (some l0) 11).bind fun b45 =>
          (jf_Mo_isAbove p9.1 b45 v41 l2).bind fun p43 =>
          if p43.2 = 0 then
            rc p43.1 l0 l2 l3 (l4 + 1)
          else
            (q_gR p43.1 (some l0) 11 29).bind fun v50 =>
            (q_sI p43.1 28 v50 l4 0).bind fun x52 =>
            (q_gR x52 (some l0) 11 30).bind fun v54 =>
            (q_sI x52 29 v54 l4 0).bind fun x56 =>
            (q_gR x56 (some l0) 11 31).bind fun v58 =>
            (q_sI x56 30 v58 l4 0).bind fun x60 =>
            rc x60 l0 l2 (l3 + 1) (l4 + 1)
def jf_Mo_reset_L17 : Nat → q_S → Nat → Int32 → Int32 → Int32 → Option (q_S × Int32)
  | 0, _, _, _, _, _ => none
  | n + 1, x, l0, l2, l3, l4 => jf_Mo_reset_B17 (jf_Mo_reset_L17 n) x l0 l2 l3 l4
theorem jm_Mo_reset_B17 {p : q_S × Int32} {rc : q_S → Nat → Int32 → Int32 → Int32 → Option (q_S × Int32)} (hrc : ∀ (x : q_S) (l0 : Nat) (l2 : Int32) (l3 : Int32) (l4 : Int32), rc x l0 l2 l3 l4 = some p → q_X (q_call 4) (fun y o => y = p.1 ∧ o = some (.int p.2)) jq_Mo_reset 17 [(0, va_rf (some l0)), (2, .int l2), (3, .int l3), (4, .int l4)] [] x) (x : q_S) (l0 : Nat) (l2 : Int32) (l3 : Int32) (l4 : Int32) (hh : jf_Mo_reset_B17 rc x l0 l2 l3 l4 = some p) : q_X (q_call 4) (fun y o => y = p.1 ∧ o = some (.int p.2)) jq_Mo_reset 17 [(0, va_rf (some l0)), (2, .int l2), (3, .int l3), (4, .int l4)] [] x := by
  unfold jf_Mo_reset_B17 at hh
  refine r_iload 19 3 jd_Mo_reset_17 rfl rfl ?_
  refine r_aload_n 20 0 jd_Mo_reset_19 rfl rfl ?_
  obtain ⟨v6, e7, hh⟩ := q_bind hh
  refine r_getI 23 114 jd_Mo_reset_20 rfl e7 rfl ?_
  rcases q_ite hh with ⟨c8, hh⟩ | ⟨c8, hh⟩
  · refine r_ic_t 119 jd_Mo_reset_23 rfl c8 ?_
    refine r_iload_n 120 2 jd_Mo_reset_119 rfl rfl ?_
    cases hh
    exact r_iret jd_Mo_reset_120 rfl ⟨rfl, rfl⟩
  · refine r_ic_f 26 119 jd_Mo_reset_23 rfl c8 rfl ?_
    refine r_aload_n 27 0 jd_Mo_reset_26 rfl rfl ?_
    refine r_iload 29 3 jd_Mo_reset_27 rfl rfl ?_
    obtain ⟨b11, e12, hh⟩ := q_bind hh
    obtain ⟨p9, e10, hh⟩ := q_bind hh
    refine r_cV (rest := []) 32 115 11 [.int l4] [.int p9.2] jd_Mo_reset_29 rfl e12 rfl rfl rfl rfl (q_s8 (Nat.le_of_ble_eq_true rfl)) (q_call_le (Nat.le_of_ble_eq_true rfl) (jm_Mo_live e10)) rfl rfl ?_
    rcases q_ite hh with ⟨c13, hh⟩ | ⟨c13, hh⟩
    · refine r_if_t 75 jd_Mo_reset_32 rfl c13 ?_
      refine r_iconst 76 0 jd_Mo_reset_75 (by decide) rfl ?_
      refine r_istore 78 [(5, .int 0), (0, va_rf (some l0)), (2, .int l2), (3, .int l3), (4, .int l4)] jd_Mo_reset_76 (by decide) rfl rfl ?_
      refine r_iload 80 0 jd_Mo_reset_78 rfl rfl ?_
      refine r_if_f 83 86 jd_Mo_reset_80 rfl (by unfold q_cnd; decide) rfl ?_
      refine r_goto 113 jd_Mo_reset_83 rfl ?_
      refine r_iinc 116 4 [(4, .int (l4 + 1)), (5, .int 0), (0, va_rf (some l0)), (2, .int l2), (3, .int l3)] 1 jd_Mo_reset_113 rfl (by decide) (by decide) rfl rfl ?_
      refine r_goto 17 jd_Mo_reset_116 rfl ?_
      refine q_sub [2, 3, 4, 0] rfl ?_
      exact hrc _ _ _ _ _ hh
    · refine r_if_f 35 75 jd_Mo_reset_32 rfl c13 rfl ?_
      refine r_aload_n 36 0 jd_Mo_reset_35 rfl rfl ?_
      obtain ⟨v15, e16, hh⟩ := q_bind hh
      refine r_getR 39 101 jd_Mo_reset_36 rfl e16 rfl ?_
      refine r_iload 41 3 jd_Mo_reset_39 rfl rfl ?_
      obtain ⟨v17, e18, hh⟩ := q_bind hh
      refine r_ldZ 42 102 jd_Mo_reset_41 rfl e18 rfl ?_
      rcases q_ite hh with ⟨c19, hh⟩ | ⟨c19, hh⟩
      · refine r_if_t 75 jd_Mo_reset_42 rfl c19 ?_
        refine r_iconst 76 0 jd_Mo_reset_75 (by decide) rfl ?_
        refine r_istore 78 [(5, .int 0), (0, va_rf (some l0)), (2, .int l2), (3, .int l3), (4, .int l4)] jd_Mo_reset_76 (by decide) rfl rfl ?_
        refine r_iload 80 0 jd_Mo_reset_78 rfl rfl ?_
        refine r_if_f 83 86 jd_Mo_reset_80 rfl (by unfold q_cnd; decide) rfl ?_
        refine r_goto 113 jd_Mo_reset_83 rfl ?_
        refine r_iinc 116 4 [(4, .int (l4 + 1)), (5, .int 0), (0, va_rf (some l0)), (2, .int l2), (3, .int l3)] 1 jd_Mo_reset_113 rfl (by decide) (by decide) rfl rfl ?_
        refine r_goto 17 jd_Mo_reset_116 rfl ?_
        refine q_sub [2, 3, 4, 0] rfl ?_
        exact hrc _ _ _ _ _ hh
      · refine r_if_f 45 75 jd_Mo_reset_42 rfl c19 rfl ?_
        refine r_aload_n 46 0 jd_Mo_reset_45 rfl rfl ?_
        obtain ⟨v21, e22, hh⟩ := q_bind hh
        refine r_getR 49 99 jd_Mo_reset_46 rfl e22 rfl ?_
        refine r_iload 51 3 jd_Mo_reset_49 rfl rfl ?_
        obtain ⟨v23, e24, hh⟩ := q_bind hh
        refine r_ldI 52 25 jd_Mo_reset_51 rfl e24 rfl ?_
        refine r_iload_n 53 1 jd_Mo_reset_52 rfl rfl ?_
        rcases q_ite hh with ⟨c25, hh⟩ | ⟨c25, hh⟩
        · refine r_ic_t 71 jd_Mo_reset_53 rfl c25 ?_
          refine r_iconst 72 1 jd_Mo_reset_71 (by decide) rfl ?_
          refine r_goto 76 jd_Mo_reset_72 rfl ?_
          refine r_istore 78 [(5, .int 1), (0, va_rf (some l0)), (2, .int l2), (3, .int l3), (4, .int l4)] jd_Mo_reset_76 (by decide) rfl rfl ?_
          refine r_iload 80 0 jd_Mo_reset_78 rfl rfl ?_
          refine r_if_t 86 jd_Mo_reset_80 rfl (by unfold q_cnd; decide) ?_
          refine r_aload_n 87 1 jd_Mo_reset_86 rfl rfl ?_
          obtain ⟨v27, e28, hh⟩ := q_bind hh
          refine r_getR 90 104 jd_Mo_reset_87 rfl e28 rfl ?_
          refine r_iload 92 4 jd_Mo_reset_90 rfl rfl ?_
          refine r_iconst 93 0 jd_Mo_reset_92 (by decide) rfl ?_
          obtain ⟨x29, e30, hh⟩ := q_bind hh
          refine r_stI 94 28 jd_Mo_reset_93 rfl e30 rfl ?_
          refine r_aload_n 95 1 jd_Mo_reset_94 rfl rfl ?_
          obtain ⟨v31, e32, hh⟩ := q_bind hh
          refine r_getR 98 105 jd_Mo_reset_95 rfl e32 rfl ?_
          refine r_iload 100 4 jd_Mo_reset_98 rfl rfl ?_
          refine r_iconst 101 0 jd_Mo_reset_100 (by decide) rfl ?_
          obtain ⟨x33, e34, hh⟩ := q_bind hh
          refine r_stI 102 29 jd_Mo_reset_101 rfl e34 rfl ?_
          refine r_aload_n 103 1 jd_Mo_reset_102 rfl rfl ?_
          obtain ⟨v35, e36, hh⟩ := q_bind hh
          refine r_getR 106 106 jd_Mo_reset_103 rfl e36 rfl ?_
          refine r_iload 108 4 jd_Mo_reset_106 rfl rfl ?_
          refine r_iconst 109 0 jd_Mo_reset_108 (by decide) rfl ?_
          obtain ⟨x37, e38, hh⟩ := q_bind hh
          refine r_stI 110 30 jd_Mo_reset_109 rfl e38 rfl ?_
          refine r_iinc 113 3 [(3, .int (l3 + 1)), (5, .int 1), (0, va_rf (some l0)), (2, .int l2), (4, .int l4)] 1 jd_Mo_reset_110 rfl (by decide) (by decide) rfl rfl ?_
          refine r_iinc 116 4 [(4, .int (l4 + 1)), (3, .int (l3 + 1)), (5, .int 1), (0, va_rf (some l0)), (2, .int l2)] 1 jd_Mo_reset_113 rfl (by decide) (by decide) rfl rfl ?_
          refine r_goto 17 jd_Mo_reset_116 rfl ?_
          refine q_sub [3, 4, 1, 0] rfl ?_
          exact hrc _ _ _ _ _ hh
        · refine r_ic_f 56 71 jd_Mo_reset_53 rfl c25 rfl ?_
          refine r_aload_n 57 0 jd_Mo_reset_56 rfl rfl ?_
          refine r_aload_n 58 0 jd_Mo_reset_57 rfl rfl ?_
          obtain ⟨v39, e40, hh⟩ := q_bind hh
          refine r_getR 61 99 jd_Mo_reset_58 rfl e40 rfl ?_
          refine r_iload 63 3 jd_Mo_reset_61 rfl rfl ?_
          obtain ⟨v41, e42, hh⟩ := q_bind hh
          refine r_ldI 64 25 jd_Mo_reset_63 rfl e42 rfl ?_
          refine r_iload_n 65 1 jd_Mo_reset_64 rfl rfl ?_
          obtain ⟨b45, e46, hh⟩ := q_bind hh
          obtain ⟨p43, e44, hh⟩ := q_bind hh
          refine r_cV (rest := []) 68 141 11 [.int v41, .int l2] [.int p43.2] jd_Mo_reset_65 rfl e46 rfl rfl rfl rfl (q_s8 (Nat.le_of_ble_eq_true rfl)) (q_call_le (Nat.le_of_ble_eq_true rfl) (jm_Mo_isAbove e44)) rfl rfl ?_
          rcases q_ite hh with ⟨c47, hh⟩ | ⟨c47, hh⟩
          · refine r_if_t 75 jd_Mo_reset_68 rfl c47 ?_
            refine r_iconst 76 0 jd_Mo_reset_75 (by decide) rfl ?_
            refine r_istore 78 [(5, .int 0), (0, va_rf (some l0)), (2, .int l2), (3, .int l3), (4, .int l4)] jd_Mo_reset_76 (by decide) rfl rfl ?_
            refine r_iload 80 0 jd_Mo_reset_78 rfl rfl ?_
            refine r_if_f 83 86 jd_Mo_reset_80 rfl (by unfold q_cnd; decide) rfl ?_
            refine r_goto 113 jd_Mo_reset_83 rfl ?_
            refine r_iinc 116 4 [(4, .int (l4 + 1)), (5, .int 0), (0, va_rf (some l0)), (2, .int l2), (3, .int l3)] 1 jd_Mo_reset_113 rfl (by decide) (by decide) rfl rfl ?_
            refine r_goto 17 jd_Mo_reset_116 rfl ?_
            refine q_sub [2, 3, 4, 0] rfl ?_
            exact hrc _ _ _ _ _ hh
          · refine r_if_f 71 75 jd_Mo_reset_68 rfl c47 rfl ?_
            refine r_iconst 72 1 jd_Mo_reset_71 (by decide) rfl ?_
            refine r_goto 76 jd_Mo_reset_72 rfl ?_
            refine r_istore 78 [(5, .int 1), (0, va_rf (some l0)), (2, .int l2), (3, .int l3), (4, .int l4)] jd_Mo_reset_76 (by decide) rfl rfl ?_
            refine r_iload 80 0 jd_Mo_reset_78 rfl rfl ?_
            refine r_if_t 86 jd_Mo_reset_80 rfl (by unfold q_cnd; decide) ?_
            refine r_aload_n 87 1 jd_Mo_reset_86 rfl rfl ?_
            obtain ⟨v50, e51, hh⟩ := q_bind hh
            refine r_getR 90 104 jd_Mo_reset_87 rfl e51 rfl ?_
            refine r_iload 92 4 jd_Mo_reset_90 rfl rfl ?_
            refine r_iconst 93 0 jd_Mo_reset_92 (by decide) rfl ?_
            obtain ⟨x52, e53, hh⟩ := q_bind hh
            refine r_stI 94 28 jd_Mo_reset_93 rfl e53 rfl ?_
            refine r_aload_n 95 1 jd_Mo_reset_94 rfl rfl ?_
            obtain ⟨v54, e55, hh⟩ := q_bind hh
            refine r_getR 98 105 jd_Mo_reset_95 rfl e55 rfl ?_
            refine r_iload 100 4 jd_Mo_reset_98 rfl rfl ?_
            refine r_iconst 101 0 jd_Mo_reset_100 (by decide) rfl ?_
            obtain ⟨x56, e57, hh⟩ := q_bind hh
            refine r_stI 102 29 jd_Mo_reset_101 rfl e57 rfl ?_
            refine r_aload_n 103 1 jd_Mo_reset_102 rfl rfl ?_
            obtain ⟨v58, e59, hh⟩ := q_bind hh
            refine r_getR 106 106 jd_Mo_reset_103 rfl e59 rfl ?_
            refine r_iload 108 4 jd_Mo_reset_106 rfl rfl ?_
            refine r_iconst 109 0 jd_Mo_reset_108 (by decide) rfl ?_
            obtain ⟨x60, e61, hh⟩ := q_bind hh
            refine r_stI 110 30 jd_Mo_reset_109 rfl e61 rfl ?_
            refine r_iinc 113 3 [(3, .int (l3 + 1)), (5, .int 1), (0, va_rf (some l0)), (2, .int l2), (4, .int l4)] 1 jd_Mo_reset_110 rfl (by decide) (by decide) rfl rfl ?_
            refine r_iinc 116 4 [(4, .int (l4 + 1)), (3, .int (l3 + 1)), (5, .int 1), (0, va_rf (some l0)), (2, .int l2)] 1 jd_Mo_reset_113 rfl (by decide) (by decide) rfl rfl ?_
            refine r_goto 17 jd_Mo_reset_116 rfl ?_
            refine q_sub [3, 4, 1, 0] rfl ?_
            exact hrc _ _ _ _ _ hh
theorem jm_Mo_reset_L17 {p : q_S × Int32} : ∀ (n : Nat) (x : q_S) (l0 : Nat) (l2 : Int32) (l3 : Int32) (l4 : Int32), jf_Mo_reset_L17 n x l0 l2 l3 l4 = some p → q_X (q_call 4) (fun y o => y = p.1 ∧ o = some (.int p.2)) jq_Mo_reset 17 [(0, va_rf (some l0)), (2, .int l2), (3, .int l3), (4, .int l4)] [] x
  | 0, _, _, _, _, _, hh => nomatch hh
  | n + 1, x, l0, l2, l3, l4, hh => jm_Mo_reset_B17 (jm_Mo_reset_L17 n) x l0 l2 l3 l4 hh
def jf_Mo_reset (x : q_S) (a0 : Nat) (a1 : Int32) : Option (q_S × Int32) :=
  (q_av x (some a0) 11).bind fun b3 =>
  (jf_Mo_cachedFor x b3 a1).bind fun p1 =>
  if 0 ≤ p1.2 then
    jf_Mo_reset_L17 lpK p1.1 a0 p1.2 0 0
  else
    some (p1.1, (-1))
theorem jm_Mo_reset {x : q_S} {a0 : Nat} {a1 : Int32} {p : q_S × Int32} (hh : jf_Mo_reset x a0 a1 = some p) : q_call 5 jq_Mo_reset [va_rf (some a0), .int a1] x p.1 (some (.int p.2)) := by
  unfold jf_Mo_reset at hh
  refine ⟨List.mem_of_getElem? (i := 149) rfl, Nat.le_of_ble_eq_true rfl, List.forall_mem_cons.mpr ⟨rfl, List.forall_mem_cons.mpr ⟨rfl, fun _ h => by cases h⟩⟩, ?_⟩
  show q_X (q_call 4) _ jq_Mo_reset 0 [(0, va_rf (some a0)), (1, .int a1)] [] x
  refine r_aload_n 1 0 jd_Mo_reset_0 rfl rfl ?_
  refine r_iload_n 2 1 jd_Mo_reset_1 rfl rfl ?_
  obtain ⟨b3, e4, hh⟩ := q_bind hh
  obtain ⟨p1, e2, hh⟩ := q_bind hh
  refine r_cV (rest := []) 5 117 11 [.int a1] [.int p1.2] jd_Mo_reset_2 rfl e4 rfl rfl rfl rfl (q_s8 (Nat.le_of_ble_eq_true rfl)) (q_call_le (Nat.le_of_ble_eq_true rfl) (jm_Mo_cachedFor e2)) rfl rfl ?_
  refine r_istore_n 6 [(2, .int p1.2), (0, va_rf (some a0)), (1, .int a1)] jd_Mo_reset_5 (by decide) rfl rfl ?_
  refine r_iload_n 7 0 jd_Mo_reset_6 rfl rfl ?_
  rcases q_ite hh with ⟨c5, hh⟩ | ⟨c5, hh⟩
  · refine r_if_t 12 jd_Mo_reset_7 rfl c5 ?_
    refine r_iconst 13 0 jd_Mo_reset_12 (by decide) rfl ?_
    refine r_istore_n 14 [(3, .int 0), (2, .int p1.2), (0, va_rf (some a0)), (1, .int a1)] jd_Mo_reset_13 (by decide) rfl rfl ?_
    refine r_iconst 15 0 jd_Mo_reset_14 (by decide) rfl ?_
    refine r_istore 17 [(4, .int 0), (3, .int 0), (2, .int p1.2), (0, va_rf (some a0)), (1, .int a1)] jd_Mo_reset_15 (by decide) rfl rfl ?_
    refine q_sub [3, 2, 1, 0] rfl ?_
    exact jm_Mo_reset_L17 lpK _ _ _ _ _ hh
  · refine r_if_f 10 12 jd_Mo_reset_7 rfl c5 rfl ?_
    refine r_iconst 11 (-1) jd_Mo_reset_10 (by decide) rfl ?_
    cases hh
    exact r_iret jd_Mo_reset_11 rfl ⟨rfl, rfl⟩
-- BeanContextsModel.shutdown()I
def jf_Mo_shutdown_B14 (rc : q_S → Nat → Int32 → Int32 → Option (q_S × Int32)) (x : q_S) (l0 : Nat) (l1 : Int32) (l2 : Int32) : Option (q_S × Int32) :=
  if l2 < 0 then
    some (x, l1)
  else
    (q_gR x (some l0) 11 19).bind fun v6 =>
    (q_lI x 101 v6 l2).bind fun v8 =>
    if v8 = 0 then
      rc x l0 l1 (l2 + (-1))
    else
      (q_av x (some l0) 11).bind fun b13 =>
      (jf_Mo_close x b13 l2).bind fun p11 =>
      rc p11.1 l0 (l1 + p11.2) (l2 + (-1))
def jf_Mo_shutdown_L14 : Nat → q_S → Nat → Int32 → Int32 → Option (q_S × Int32)
  | 0, _, _, _, _ => none
  | n + 1, x, l0, l1, l2 => jf_Mo_shutdown_B14 (jf_Mo_shutdown_L14 n) x l0 l1 l2
theorem jm_Mo_shutdown_B14 {p : q_S × Int32} {rc : q_S → Nat → Int32 → Int32 → Option (q_S × Int32)} (hrc : ∀ (x : q_S) (l0 : Nat) (l1 : Int32) (l2 : Int32), rc x l0 l1 l2 = some p → q_X (q_call 5) (fun y o => y = p.1 ∧ o = some (.int p.2)) jq_Mo_shutdown 14 [(0, va_rf (some l0)), (1, .int l1), (2, .int l2)] [] x) (x : q_S) (l0 : Nat) (l1 : Int32) (l2 : Int32) (hh : jf_Mo_shutdown_B14 rc x l0 l1 l2 = some p) : q_X (q_call 5) (fun y o => y = p.1 ∧ o = some (.int p.2)) jq_Mo_shutdown 14 [(0, va_rf (some l0)), (1, .int l1), (2, .int l2)] [] x := by
  unfold jf_Mo_shutdown_B14 at hh
  refine r_iload_n 15 2 jd_Mo_shutdown_14 rfl rfl ?_
  rcases q_ite hh with ⟨c5, hh⟩ | ⟨c5, hh⟩
  · refine r_if_t 45 jd_Mo_shutdown_15 rfl c5 ?_
    refine r_iload_n 46 1 jd_Mo_shutdown_45 rfl rfl ?_
    cases hh
    exact r_iret jd_Mo_shutdown_46 rfl ⟨rfl, rfl⟩
  · refine r_if_f 18 45 jd_Mo_shutdown_15 rfl c5 rfl ?_
    refine r_aload_n 19 0 jd_Mo_shutdown_18 rfl rfl ?_
    obtain ⟨v6, e7, hh⟩ := q_bind hh
    refine r_getR 22 97 jd_Mo_shutdown_19 rfl e7 rfl ?_
    refine r_iload_n 23 2 jd_Mo_shutdown_22 rfl rfl ?_
    obtain ⟨v8, e9, hh⟩ := q_bind hh
    refine r_ldZ 24 101 jd_Mo_shutdown_23 rfl e9 rfl ?_
    rcases q_ite hh with ⟨c10, hh⟩ | ⟨c10, hh⟩
    · refine r_if_t 37 jd_Mo_shutdown_24 rfl c10 ?_
      refine r_iload_n 38 1 jd_Mo_shutdown_37 rfl rfl ?_
      refine r_istore_n 39 [(1, .int l1), (0, va_rf (some l0)), (2, .int l2)] jd_Mo_shutdown_38 (by decide) rfl rfl ?_
      refine r_iinc 42 2 [(2, .int (l2 + (-1))), (1, .int l1), (0, va_rf (some l0))] (-1) jd_Mo_shutdown_39 rfl (by decide) (by decide) rfl rfl ?_
      refine r_goto 14 jd_Mo_shutdown_42 rfl ?_
      refine q_sub [2, 1, 0] rfl ?_
      exact hrc _ _ _ _ hh
    · refine r_if_f 27 37 jd_Mo_shutdown_24 rfl c10 rfl ?_
      refine r_iload_n 28 1 jd_Mo_shutdown_27 rfl rfl ?_
      refine r_aload_n 29 0 jd_Mo_shutdown_28 rfl rfl ?_
      refine r_iload_n 30 2 jd_Mo_shutdown_29 rfl rfl ?_
      obtain ⟨b13, e14, hh⟩ := q_bind hh
      obtain ⟨p11, e12, hh⟩ := q_bind hh
      refine r_cV (rest := [.int l1]) 33 118 11 [.int l2] [.int p11.2, .int l1] jd_Mo_shutdown_30 rfl e14 rfl rfl rfl rfl (q_s8 (Nat.le_of_ble_eq_true rfl)) (q_call_le (Nat.le_of_ble_eq_true rfl) (jm_Mo_close e12)) rfl rfl ?_
      refine r_iadd 34 jd_Mo_shutdown_33 rfl ?_
      refine r_goto 38 jd_Mo_shutdown_34 rfl ?_
      refine r_istore_n 39 [(1, .int (l1 + p11.2)), (0, va_rf (some l0)), (2, .int l2)] jd_Mo_shutdown_38 (by decide) rfl rfl ?_
      refine r_iinc 42 2 [(2, .int (l2 + (-1))), (1, .int (l1 + p11.2)), (0, va_rf (some l0))] (-1) jd_Mo_shutdown_39 rfl (by decide) (by decide) rfl rfl ?_
      refine r_goto 14 jd_Mo_shutdown_42 rfl ?_
      refine q_sub [2, 1, 0] rfl ?_
      exact hrc _ _ _ _ hh
theorem jm_Mo_shutdown_L14 {p : q_S × Int32} : ∀ (n : Nat) (x : q_S) (l0 : Nat) (l1 : Int32) (l2 : Int32), jf_Mo_shutdown_L14 n x l0 l1 l2 = some p → q_X (q_call 5) (fun y o => y = p.1 ∧ o = some (.int p.2)) jq_Mo_shutdown 14 [(0, va_rf (some l0)), (1, .int l1), (2, .int l2)] [] x
  | 0, _, _, _, _, hh => nomatch hh
  | n + 1, x, l0, l1, l2, hh => jm_Mo_shutdown_B14 (jm_Mo_shutdown_L14 n) x l0 l1 l2 hh
def jf_Mo_shutdown (x : q_S) (a0 : Nat) : Option (q_S × Int32) :=
  (q_pZ x (some a0) 11 22 1).bind fun x1 =>
  (q_gI x1 (some a0) 11 16).bind fun v3 =>
  jf_Mo_shutdown_L14 lpK x1 a0 0 (v3 - 1)
theorem jm_Mo_shutdown {x : q_S} {a0 : Nat} {p : q_S × Int32} (hh : jf_Mo_shutdown x a0 = some p) : q_call 6 jq_Mo_shutdown [va_rf (some a0)] x p.1 (some (.int p.2)) := by
  unfold jf_Mo_shutdown at hh
  refine ⟨List.mem_of_getElem? (i := 150) rfl, Nat.le_of_ble_eq_true rfl, List.forall_mem_cons.mpr ⟨rfl, fun _ h => by cases h⟩, ?_⟩
  show q_X (q_call 5) _ jq_Mo_shutdown 0 [(0, va_rf (some a0))] [] x
  refine r_iconst 1 0 jd_Mo_shutdown_0 (by decide) rfl ?_
  refine r_istore_n 2 [(1, .int 0), (0, va_rf (some a0))] jd_Mo_shutdown_1 (by decide) rfl rfl ?_
  refine r_aload_n 3 1 jd_Mo_shutdown_2 rfl rfl ?_
  refine r_iconst 4 1 jd_Mo_shutdown_3 (by decide) rfl ?_
  obtain ⟨x1, e2, hh⟩ := q_bind hh
  refine r_putZ 7 120 jd_Mo_shutdown_4 rfl rfl (Or.inl rfl) e2 rfl ?_
  refine r_aload_n 8 1 jd_Mo_shutdown_7 rfl rfl ?_
  obtain ⟨v3, e4, hh⟩ := q_bind hh
  refine r_getI 11 113 jd_Mo_shutdown_8 rfl e4 rfl ?_
  refine r_iconst 12 1 jd_Mo_shutdown_11 (by decide) rfl ?_
  refine r_isub 13 jd_Mo_shutdown_12 rfl ?_
  refine r_istore_n 14 [(2, .int (v3 - 1)), (1, .int 0), (0, va_rf (some a0))] jd_Mo_shutdown_13 (by decide) rfl rfl ?_
  refine q_sub [2, 1, 0] rfl ?_
  exact jm_Mo_shutdown_L14 lpK _ _ _ _ hh
-- BeanContextsModel.stub(II)Z
def jf_Mo_stub (x : q_S) (a0 : Nat) (a1 : Int32) (a2 : Int32) : Option (q_S × Int32) :=
  (q_av x (some a0) 11).bind fun b3 =>
  (jf_Mo_live x b3 a1).bind fun p1 =>
  if p1.2 = 0 then
    some (p1.1, 0)
  else
    (q_gR p1.1 (some a0) 11 26).bind fun v6 =>
    (q_lI p1.1 102 v6 a1).bind fun v8 =>
    if v8 = 0 then
      some (p1.1, 0)
    else
      (q_gR p1.1 (some a0) 11 29).bind fun v11 =>
      (q_sI p1.1 28 v11 a1 a2).bind fun x13 =>
      some (x13, 1)
theorem jm_Mo_stub {x : q_S} {a0 : Nat} {a1 : Int32} {a2 : Int32} {p : q_S × Int32} (hh : jf_Mo_stub x a0 a1 a2 = some p) : q_call 3 jq_Mo_stub [va_rf (some a0), .int a1, .int a2] x p.1 (some (.int p.2)) := by
  unfold jf_Mo_stub at hh
  refine ⟨List.mem_of_getElem? (i := 151) rfl, Nat.le_of_ble_eq_true rfl, List.forall_mem_cons.mpr ⟨rfl, List.forall_mem_cons.mpr ⟨rfl, List.forall_mem_cons.mpr ⟨rfl, fun _ h => by cases h⟩⟩⟩, ?_⟩
  show q_X (q_call 2) _ jq_Mo_stub 0 [(0, va_rf (some a0)), (1, .int a1), (2, .int a2)] [] x
  refine r_aload_n 1 0 jd_Mo_stub_0 rfl rfl ?_
  refine r_iload_n 2 1 jd_Mo_stub_1 rfl rfl ?_
  obtain ⟨b3, e4, hh⟩ := q_bind hh
  obtain ⟨p1, e2, hh⟩ := q_bind hh
  refine r_cV (rest := []) 5 115 11 [.int a1] [.int p1.2] jd_Mo_stub_2 rfl e4 rfl rfl rfl rfl (q_s8 (Nat.le_of_ble_eq_true rfl)) (q_call_le (Nat.le_of_ble_eq_true rfl) (jm_Mo_live e2)) rfl rfl ?_
  rcases q_ite hh with ⟨c5, hh⟩ | ⟨c5, hh⟩
  · refine r_if_t 17 jd_Mo_stub_5 rfl c5 ?_
    refine r_iconst 18 0 jd_Mo_stub_17 (by decide) rfl ?_
    cases hh
    exact r_zret jd_Mo_stub_18 rfl (by decide) ⟨rfl, rfl⟩
  · refine r_if_f 8 17 jd_Mo_stub_5 rfl c5 rfl ?_
    refine r_aload_n 9 0 jd_Mo_stub_8 rfl rfl ?_
    obtain ⟨v6, e7, hh⟩ := q_bind hh
    refine r_getR 12 101 jd_Mo_stub_9 rfl e7 rfl ?_
    refine r_iload_n 13 1 jd_Mo_stub_12 rfl rfl ?_
    obtain ⟨v8, e9, hh⟩ := q_bind hh
    refine r_ldZ 14 102 jd_Mo_stub_13 rfl e9 rfl ?_
    rcases q_ite hh with ⟨c10, hh⟩ | ⟨c10, hh⟩
    · refine r_if_f 17 19 jd_Mo_stub_14 rfl (fun z => z c10) rfl ?_
      refine r_iconst 18 0 jd_Mo_stub_17 (by decide) rfl ?_
      cases hh
      exact r_zret jd_Mo_stub_18 rfl (by decide) ⟨rfl, rfl⟩
    · refine r_if_t 19 jd_Mo_stub_14 rfl c10 ?_
      refine r_aload_n 20 0 jd_Mo_stub_19 rfl rfl ?_
      obtain ⟨v11, e12, hh⟩ := q_bind hh
      refine r_getR 23 104 jd_Mo_stub_20 rfl e12 rfl ?_
      refine r_iload_n 24 1 jd_Mo_stub_23 rfl rfl ?_
      refine r_iload_n 25 2 jd_Mo_stub_24 rfl rfl ?_
      obtain ⟨x13, e14, hh⟩ := q_bind hh
      refine r_stI 26 28 jd_Mo_stub_25 rfl e14 rfl ?_
      refine r_iconst 27 1 jd_Mo_stub_26 (by decide) rfl ?_
      cases hh
      exact r_zret jd_Mo_stub_27 rfl (by decide) ⟨rfl, rfl⟩
-- BeanContextsModel.wired(II)I
def jf_Mo_wired (x : q_S) (a0 : Nat) (a1 : Int32) (a2 : Int32) : Option (q_S × Int32) :=
  (q_av x (some a0) 11).bind fun b3 =>
  (jf_Mo_live x b3 a1).bind fun p1 =>
  if p1.2 = 0 then
    some (p1.1, (-1))
  else
    (jf_Mo_in p1.1 a2 0 2).bind fun p6 =>
    if p6.2 = 0 then
      some (p6.1, (-1))
    else
      (q_gR p6.1 (some a0) 11 28).bind fun v9 =>
      (q_lI p6.1 27 v9 (((3 : Int32) * a1) + a2)).bind fun v11 =>
      some (p6.1, v11)
theorem jm_Mo_wired {x : q_S} {a0 : Nat} {a1 : Int32} {a2 : Int32} {p : q_S × Int32} (hh : jf_Mo_wired x a0 a1 a2 = some p) : q_call 3 jq_Mo_wired [va_rf (some a0), .int a1, .int a2] x p.1 (some (.int p.2)) := by
  unfold jf_Mo_wired at hh
  refine ⟨List.mem_of_getElem? (i := 152) rfl, Nat.le_of_ble_eq_true rfl, List.forall_mem_cons.mpr ⟨rfl, List.forall_mem_cons.mpr ⟨rfl, List.forall_mem_cons.mpr ⟨rfl, fun _ h => by cases h⟩⟩⟩, ?_⟩
  show q_X (q_call 2) _ jq_Mo_wired 0 [(0, va_rf (some a0)), (1, .int a1), (2, .int a2)] [] x
  refine r_aload_n 1 0 jd_Mo_wired_0 rfl rfl ?_
  refine r_iload_n 2 1 jd_Mo_wired_1 rfl rfl ?_
  obtain ⟨b3, e4, hh⟩ := q_bind hh
  obtain ⟨p1, e2, hh⟩ := q_bind hh
  refine r_cV (rest := []) 5 115 11 [.int a1] [.int p1.2] jd_Mo_wired_2 rfl e4 rfl rfl rfl rfl (q_s8 (Nat.le_of_ble_eq_true rfl)) (q_call_le (Nat.le_of_ble_eq_true rfl) (jm_Mo_live e2)) rfl rfl ?_
  rcases q_ite hh with ⟨c5, hh⟩ | ⟨c5, hh⟩
  · refine r_if_t 30 jd_Mo_wired_5 rfl c5 ?_
    refine r_iconst 31 (-1) jd_Mo_wired_30 (by decide) rfl ?_
    cases hh
    exact r_iret jd_Mo_wired_31 rfl ⟨rfl, rfl⟩
  · refine r_if_f 8 30 jd_Mo_wired_5 rfl c5 rfl ?_
    refine r_iload_n 9 2 jd_Mo_wired_8 rfl rfl ?_
    refine r_iconst 10 0 jd_Mo_wired_9 (by decide) rfl ?_
    refine r_iconst 11 2 jd_Mo_wired_10 (by decide) rfl ?_
    obtain ⟨p6, e7, hh⟩ := q_bind hh
    refine r_cS (rest := []) 14 21 [.int a2, .int 0, .int 2] [.int p6.2] jd_Mo_wired_11 rfl rfl rfl (q_s8 (Nat.le_of_ble_eq_true rfl)) (q_call_le (Nat.le_of_ble_eq_true rfl) (jm_Mo_in e7)) rfl rfl ?_
    rcases q_ite hh with ⟨c8, hh⟩ | ⟨c8, hh⟩
    · refine r_if_t 30 jd_Mo_wired_14 rfl c8 ?_
      refine r_iconst 31 (-1) jd_Mo_wired_30 (by decide) rfl ?_
      cases hh
      exact r_iret jd_Mo_wired_31 rfl ⟨rfl, rfl⟩
    · refine r_if_f 17 30 jd_Mo_wired_14 rfl c8 rfl ?_
      refine r_aload_n 18 0 jd_Mo_wired_17 rfl rfl ?_
      obtain ⟨v9, e10, hh⟩ := q_bind hh
      refine r_getR 21 103 jd_Mo_wired_18 rfl e10 rfl ?_
      refine r_iconst 22 3 jd_Mo_wired_21 (by decide) rfl ?_
      refine r_iload_n 23 1 jd_Mo_wired_22 rfl rfl ?_
      refine r_imul 24 jd_Mo_wired_23 rfl ?_
      refine r_iload_n 25 2 jd_Mo_wired_24 rfl rfl ?_
      refine r_iadd 26 jd_Mo_wired_25 rfl ?_
      obtain ⟨v11, e12, hh⟩ := q_bind hh
      refine r_ldI 27 27 jd_Mo_wired_26 rfl e12 rfl ?_
      refine r_goto 31 jd_Mo_wired_27 rfl ?_
      cases hh
      exact r_iret jd_Mo_wired_31 rfl ⟨rfl, rfl⟩

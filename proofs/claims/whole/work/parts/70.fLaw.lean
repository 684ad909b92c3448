-- BeanContextsLaw.cell([II)I
def jf_La_cell (x : q_S) (a0 : Option Nat) (a1 : Int32) : Option (q_S × Int32) :=
  (q_lenS x a0).bind fun v1 =>
  if v1 ≤ a1 then
    some (x, 0)
  else
    (q_lS x a0 a1).bind fun v4 =>
    some (x, v4)
theorem jm_La_cell {x : q_S} {a0 : Option Nat} {a1 : Int32} {p : q_S × Int32} (hh : jf_La_cell x a0 a1 = some p) : q_call 1 jq_La_cell [va_rf a0, .int a1] x p.1 (some (.int p.2)) := by
  unfold jf_La_cell at hh
  refine ⟨List.mem_of_getElem? (i := 103) rfl, Nat.le_of_ble_eq_true rfl, List.forall_mem_cons.mpr ⟨q_cat _, List.forall_mem_cons.mpr ⟨rfl, fun _ h => by cases h⟩⟩, ?_⟩
  show q_X (q_call 0) _ jq_La_cell 0 [(0, va_rf a0), (1, .int a1)] [] x
  refine r_iload_n 1 1 jd_La_cell_0 rfl rfl ?_
  refine r_aload_n 2 0 jd_La_cell_1 rfl rfl ?_
  obtain ⟨v1, e2, hh⟩ := q_bind hh
  refine r_lenS 3 jd_La_cell_2 e2 rfl ?_
  rcases q_ite hh with ⟨c3, hh⟩ | ⟨c3, hh⟩
  · refine r_ic_t 12 jd_La_cell_3 rfl c3 ?_
    refine r_iconst 13 0 jd_La_cell_12 (by decide) rfl ?_
    cases hh
    exact r_iret jd_La_cell_13 rfl ⟨rfl, rfl⟩
  · refine r_ic_f 6 12 jd_La_cell_3 rfl c3 rfl ?_
    refine r_aload_n 7 0 jd_La_cell_6 rfl rfl ?_
    refine r_iload_n 8 1 jd_La_cell_7 rfl rfl ?_
    obtain ⟨v4, e5, hh⟩ := q_bind hh
    refine r_ldS 9 jd_La_cell_8 e5 rfl ?_
    refine r_goto 13 jd_La_cell_9 rfl ?_
    cases hh
    exact r_iret jd_La_cell_13 rfl ⟨rfl, rfl⟩
-- BeanContextsLaw.law([I)Z
def jf_La_law_B28 (rc : q_S → Option Nat → Option Nat → Option Nat → Int32 → Option (q_S × Int32)) (x : q_S) (l0 : Option Nat) (l1 : Option Nat) (l2 : Option Nat) (l3 : Int32) : Option (q_S × Int32) :=
  (q_lenS x l0).bind fun v13 =>
  if (v13 - 5) < l3 then
    some (x, 1)
  else
    (q_lS x l0 l3).bind fun v16 =>
    if (v16 &&& 31) = 0 then
      (q_lS x l0 (l3 + 1)).bind fun v19 =>
      (q_lS x l0 (l3 + 2)).bind fun v21 =>
      (q_av x l1 0).bind fun b25 =>
      (jf_Bc_extend x b25 v19 v21).bind fun p23 =>
      (q_lS p23.1 l0 (l3 + 1)).bind fun v27 =>
      (q_lS p23.1 l0 (l3 + 2)).bind fun v29 =>
      (q_av p23.1 l2 11).bind fun b33 =>
      (jf_Mo_extend p23.1 b33 v27 v29).bind fun p31 =>
      if p23.2 = p31.2 then
        rc p31.1 l0 l1 l2 (l3 + 5)
      else
        some (p31.1, 0)
    else
      if (v16 &&& 31) = 1 then
        (q_lS x l0 (l3 + 1)).bind fun v37 =>
        (q_lS x l0 (l3 + 2)).bind fun v39 =>
        (q_lS x l0 (l3 + 3)).bind fun v41 =>
        (q_lS x l0 (l3 + 4)).bind fun v43 =>
        (q_av x l1 0).bind fun b47 =>
        (jf_Bc_define x b47 v37 v39 v41 v43).bind fun p45 =>
        (q_lS p45.1 l0 (l3 + 1)).bind fun v49 =>
        (q_lS p45.1 l0 (l3 + 2)).bind fun v51 =>
        (q_lS p45.1 l0 (l3 + 3)).bind fun v53 =>
        (q_lS p45.1 l0 (l3 + 4)).bind fun v55 =>
        (q_av p45.1 l2 11).bind fun b59 =>
        (jf_Mo_define p45.1 b59 v49 v51 v53 v55).bind fun p57 =>
        if p45.2 = p57.2 then
          rc p57.1 l0 l1 l2 (l3 + 5)
        else
          some (p57.1, 0)
      else
        if (v16 &&& 31) = 2 then
          (q_lS x l0 (l3 + 1)).bind fun v63 =>
          (q_lS x l0 (l3 + 2)).bind fun v65 =>
          (q_lS x l0 (l3 + 3)).bind fun v67 =>
          (q_lS x l0 (l3 + 4)).bind fun v69 =>
          (q_av x l1 0).bind fun b73 =>
          (jf_Bc_need x b73 v63 v65 v67 v69).bind fun p71 =>
          (q_lS p71.1 l0 (l3 + 1)).bind fun v75 =>
          (q_lS p71.1 l0 (l3 + 2)).bind fun v77 =>
          (q_lS p71.1 l0 (l3 + 3)).bind fun v79 =>
          (q_lS p71.1 l0 (l3 + 4)).bind fun v81 =>
          (q_av p71.1 l2 11).bind fun b85 =>
          (jf_Mo_need p71.1 b85 v75 v77 v79 v81).bind fun p83 =>
          if p71.2 = p83.2 then
            rc p83.1 l0 l1 l2 (l3 + 5)
          else
            some (p83.1, 0)
        else
          if (v16 &&& 31) = 3 then
            (q_lS x l0 (l3 + 1)).bind fun v89 =>
            (q_lS x l0 (l3 + 2)).bind fun v91 =>
            (q_lS x l0 (l3 + 3)).bind fun v93 =>
            (q_lS x l0 (l3 + 4)).bind fun v95 =>
            (q_av x l1 0).bind fun b99 =>
            (jf_Bc_configure x b99 v89 v91 v93 v95).bind fun p97 =>
            (q_lS p97.1 l0 (l3 + 1)).bind fun v101 =>
            (q_lS p97.1 l0 (l3 + 2)).bind fun v103 =>
            (q_lS p97.1 l0 (l3 + 3)).bind fun v105 =>
            (q_lS p97.1 l0 (l3 + 4)).bind fun v107 =>
            (q_av p97.1 l2 11).bind fun b111 =>
            (jf_Mo_configure p97.1 b111 v101 v103 v105 v107).bind fun p109 =>
            if p97.2 = p109.2 then
              rc p109.1 l0 l1 l2 (l3 + 5)
            else
              some (p109.1, 0)
          else
            if (v16 &&& 31) = 4 then
              (q_lS x l0 (l3 + 1)).bind fun v115 =>
              (q_av x l1 0).bind fun b119 =>
              (jf_Bc_key x b119 v115).bind fun p117 =>
              (q_lS p117.1 l0 (l3 + 1)).bind fun v121 =>
              (q_av p117.1 l2 11).bind fun b125 =>
              (jf_Mo_key p117.1 b125 v121).bind fun p123 =>
              if p117.2 = p123.2 then
                rc p123.1 l0 l1 l2 (l3 + 5)
              else
                some (p123.1, 0)
            else
              if (v16 &&& 31) = 5 then
                (q_lS x l0 (l3 + 1)).bind fun v129 =>
                (q_av x l1 0).bind fun b133 =>
                (jf_Bc_request x b133 v129).bind fun p131 =>
                (q_lS p131.1 l0 (l3 + 1)).bind fun v135 =>
                (q_av p131.1 l2 11).bind fun b139 =>
                (jf_Mo_request p131.1 b139 v135).bind fun p137 =>
                if p131.2 = p137.2 then
                  rc p137.1 l0 l1 l2 (l3 + 5)
                else
                  some (p137.1, 0)
              else
                if (v16 &&& 31) = 6 then
                  (q_lS x l0 (l3 + 1)).bind fun v143 =>
                  (q_av x l1 0).bind fun b147 =>
                  (jf_Bc_dirty x b147 v143).bind fun p145 =>
                  (q_lS p145.1 l0 (l3 + 1)).bind fun v149 =>
                  (q_av p145.1 l2 11).bind fun b153 =>
                  (jf_Mo_dirty p145.1 b153 v149).bind fun p151 =>
                  if p145.2 = p151.2 then
                    rc p151.1 l0 l1 l2 (l3 + 5)
                  else
                    some (p151.1, 0)
                else
                  if (v16 &&& 31) = 7 then
                    (q_av x l1 0).bind fun b159 =>
                    (jf_Bc_shutdown x b159).bind fun p157 =>
                    (q_av p157.1 l2 11).bind fun b163 =>
                    (jf_Mo_shutdown p157.1 b163).bind fun p161 =>
                    if p157.2 = p161.2 then
                      rc p161.1 l0 l1 l2 (l3 + 5)
                    else
                      some (p161.1, 0)
                  else
                    if (v16 &&& 31) = 8 then
                      (q_lS x l0 (l3 + 1)).bind fun v167 =>
                      (q_lS x l0 (l3 + 2)).bind fun v169 =>
                      (q_lS x l0 (l3 + 3)).bind fun v171 =>
                      (q_lS x l0 (l3 + 4)).bind fun v173 =>
                      (q_av x l1 0).bind fun b177 =>
                      (jf_Bc_get x b177 v167 v169 v171 v173).bind fun p175 =>
                      (q_lS p175.1 l0 (l3 + 1)).bind fun v179 =>
                      (q_lS p175.1 l0 (l3 + 2)).bind fun v181 =>
                      (q_lS p175.1 l0 (l3 + 3)).bind fun v183 =>
                      (q_lS p175.1 l0 (l3 + 4)).bind fun v185 =>
                      (q_av p175.1 l2 11).bind fun b189 =>
                      (jf_Mo_get p175.1 b189 v179 v181 v183 v185).bind fun p187 =>
                      if p175.2 = p187.2 then
                        rc p187.1 l0 l1 l2 (l3 + 5)
                      else
                        some (p187.1, 0)
                    else
                      if (v16 &&& 31) = 9 then
                        (q_lS x l0 (l3 + 1)).bind fun v193 =>
                        (q_lS x l0 (l3 + 2)).bind fun v195 =>
                        (q_av x l1 0).bind fun b199 =>
                        (jf_Bc_call x b199 v193 v195).bind fun p197 =>
                        (q_lS p197.1 l0 (l3 + 1)).bind fun v201 =>
                        (q_lS p197.1 l0 (l3 + 2)).bind fun v203 =>
                        (q_av p197.1 l2 11).bind fun b207 =>
                        (jf_Mo_call p197.1 b207 v201 v203).bind fun p205 =>
                        if (lg_cmp p197.2 p205.2) = 0 then
                          rc p205.1 l0 l1 l2 (l3 + 5)
                        else
                          some (p205.1, 0)
                      else
                        if (v16 &&& 31) = 10 then
                          (q_lS x l0 (l3 + 1)).bind fun v211 =>
                          (q_lS x l0 (l3 + 2)).bind fun v213 =>
                          (q_av x l1 0).bind fun b217 =>
                          (jf_Bc_stub x b217 v211 v213).bind fun p215 =>
                          (q_lS p215.1 l0 (l3 + 1)).bind fun v219 =>
                          (q_lS p215.1 l0 (l3 + 2)).bind fun v221 =>
                          (q_av p215.1 l2 11).bind fun b225 =>
                          (jf_Mo_stub p215.1 b225 v219 v221).bind fun p223 =>
                          if p215.2 = p223.2 then
                            rc p223.1 l0 l1 l2 (l3 + 5)
                          else
                            some (p223.1, 0)
                        else
                          if (v16 &&& 31) = 11 then
                            (q_lS x l0 (l3 + 1)).bind fun v229 =>
                            (q_lS x l0 (l3 + 2)).bind fun v231 =>
                            (q_av x l1 0).bind fun b235 =>
                            (jf_Bc_recorded x b235 v229 v231).bind fun p233 =>
                            (q_lS p233.1 l0 (l3 + 1)).bind fun v237 =>
                            (q_lS p233.1 l0 (l3 + 2)).bind fun v239 =>
                            (q_av p233.1 l2 11).bind fun b243 =>
                            (jf_Mo_recorded p233.1 b243 v237 v239).bind fun p241 =>
                            if (lg_cmp p233.2 p241.2) = 0 then
                              rc p241.1 l0 l1 l2 (l3 + 5)
                            else
                              some (p241.1, 0)
                          else
                            if (v16 &&& 31) = 12 then
                              (q_lS x l0 (l3 + 1)).bind fun v247 =>
                              (q_av x l1 0).bind fun b251 =>
                              (jf_Bc_reset x b251 v247).bind fun p249 =>
                              (q_lS p249.1 l0 (l3 + 1)).bind fun v253 =>
                              (q_av p249.1 l2 11).bind fun b257 =>
                              (jf_Mo_reset p249.1 b257 v253).bind fun p255 =>
                              if p249.2 = p255.2 then
                                rc p255.1 l0 l1 l2 (l3 + 5)
                              else
                                some (p255.1, 0)
                            else
                              if (v16 &&& 31) = 13 then
                                (q_lS x l0 (l3 + 1)).bind fun v261 =>
                                (q_lS x l0 (l3 + 2)).bind fun v263 =>
                                (q_av x l1 0).bind fun b267 =>
                                (jf_Bc_wired x b267 v261 v263).bind fun p265 =>
                                (q_lS p265.1 l0 (l3 + 1)).bind fun v269 =>
                                (q_lS p265.1 l0 (l3 + 2)).bind fun v271 =>
                                (q_av p265.1 l2 11).bind fun b275 =>
                                (jf_Mo_wired p265.1 b275 v269 v271).bind fun p273 =>
                                if p265.2 = p273.2 then
                                  rc p273.1 l0 l1 l2 (l3 + 5)
                                else
                                  some (p273.1, 0)
                              else
                                if (v16 &&& 31) = 14 then
                                  (q_lS x l0 (l3 + 1)).bind fun v279 =>
                                  (q_av x l1 0).bind fun b283 =>
                                  (jf_Bc_definition x b283 v279).bind fun p281 =>
                                  (q_lS p281.1 l0 (l3 + 1)).bind fun v285 =>
                                  (q_av p281.1 l2 11).bind fun b289 =>
                                  (jf_Mo_definition p281.1 b289 v285).bind fun p287 =>
                                  if p281.2 = p287.2 then
                                    rc p287.1 l0 l1 l2 (l3 + 5)
                                  else
                                    some (p287.1, 0)
                                else
                                  if (v16 &&& 31) = 15 then
                                    (q_lS x l0 (l3 + 1)).bind fun v293 =>
                                    (q_av x l1 0).bind fun b297 =>
                                    (jf_Bc_cached x b297 v293).bind fun p295 =>
                                    (q_lS p295.1 l0 (l3 + 1)).bind fun v299 =>
                                    (q_av p295.1 l2 11).bind fun b303 =>
                                    (jf_Mo_cached p295.1 b303 v299).bind fun p301 =>
                                    if p295.2 = p301.2 then
                                      rc p301.1 l0 l1 l2 (l3 + 5)
                                    else
                                      some (p301.1, 0)
                                  else
                                    if (v16 &&& 31) = 16 then
                                      (q_lS x l0 (l3 + 1)).bind fun v307 =>
                                      (q_av x l1 0).bind fun b311 =>
                                      (jf_Bc_failures x b311 v307).bind fun p309 =>
                                      (q_lS p309.1 l0 (l3 + 1)).bind fun v313 =>
                                      (q_av p309.1 l2 11).bind fun b317 =>
                                      (jf_Mo_failures p309.1 b317 v313).bind fun p315 =>
                                      if p309.2 = p315.2 then
                                        rc p315.1 l0 l1 l2 (l3 + 5)
                                      else
                                        some (p315.1, 0)
                                    else
                                      if (v16 &&& 31) = 17 then
                                        (q_av x l1 0).bind fun b323 =>
                                        (jf_Bc_events x b323).bind fun p321 =>
                                        (q_av p321.1 l2 11).bind fun b327 =>
                                        (jf_Mo_events p321.1 b327).bind fun p325 =>
                                        if p321.2 = p325.2 then
                                          rc p325.1 l0 l1 l2 (l3 + 5)
                                        else
                                          some (p325.1, 0)
                                      else
                                        if (v16 &&& 31) = 18 then
                                          (q_lS x l0 (l3 + 1)).bind fun v331 =>
                                          (q_av x l1 0).bind fun b335 =>
                                          (jf_Bc_event x b335 v331).bind fun p333 =>
                                          (q_lS p333.1 l0 (l3 + 1)).bind fun v337 =>
                                          (q_av p333.1 l2 11).bind fun b341 =>
                                          (jf_Mo_event p333.1 b341 v337).bind fun p339 =>
                                          if p333.2 = p339.2 then
                                            rc p339.1 l0 l1 l2 (l3 + 5)
                                          else
                                            some (p339.1, 0)
                                        else
                                          rc x l0 l1 l2 (l3 + 5)
def jf_La_law_L28 : Nat → q_S → Option Nat → Option Nat → Option Nat → Int32 → Option (q_S × Int32)
  | 0, _, _, _, _, _ => none
  | n + 1, x, l0, l1, l2, l3 => jf_La_law_B28 (jf_La_law_L28 n) x l0 l1 l2 l3
theorem jm_La_law_B28 {p : q_S × Int32} {rc : q_S → Option Nat → Option Nat → Option Nat → Int32 → Option (q_S × Int32)} (hrc : ∀ (x : q_S) (l0 : Option Nat) (l1 : Option Nat) (l2 : Option Nat) (l3 : Int32), rc x l0 l1 l2 l3 = some p → q_X (q_call 137) (fun y o => y = p.1 ∧ o = some (.int p.2)) jq_La_law 28 [(0, va_rf l0), (1, va_rf l1), (2, va_rf l2), (3, .int l3)] [] x) (x : q_S) (l0 : Option Nat) (l1 : Option Nat) (l2 : Option Nat) (l3 : Int32) (hh : jf_La_law_B28 rc x l0 l1 l2 l3 = some p) : q_X (q_call 137) (fun y o => y = p.1 ∧ o = some (.int p.2)) jq_La_law 28 [(0, va_rf l0), (1, va_rf l1), (2, va_rf l2), (3, .int l3)] [] x := by
  unfold jf_La_law_B28 at hh
  refine r_iload_n 29 3 jd_La_law_28 rfl rfl ?_
  refine r_aload_n 30 0 jd_La_law_29 rfl rfl ?_
  obtain ⟨v13, e14, hh⟩ := q_bind hh
  refine r_lenS 31 jd_La_law_30 e14 rfl ?_
  refine r_iconst 32 5 jd_La_law_31 (by decide) rfl ?_
  refine r_isub 33 jd_La_law_32 rfl ?_
  rcases q_ite hh with ⟨c15, hh⟩ | ⟨c15, hh⟩
  · refine r_ic_t 727 jd_La_law_33 rfl c15 ?_
    refine r_iconst 728 1 jd_La_law_727 (by decide) rfl ?_
    cases hh
    exact r_zret jd_La_law_728 rfl (by decide) ⟨rfl, rfl⟩
  · refine r_ic_f 36 727 jd_La_law_33 rfl c15 rfl ?_
    refine r_aload_n 37 0 jd_La_law_36 rfl rfl ?_
    refine r_iload_n 38 3 jd_La_law_37 rfl rfl ?_
    obtain ⟨v16, e17, hh⟩ := q_bind hh
    refine r_ldS 39 jd_La_law_38 e17 rfl ?_
    refine r_bipush 41 31 jd_La_law_39 (by decide) rfl ?_
    refine r_iand 42 jd_La_law_41 rfl ?_
    rcases q_ite hh with ⟨c18, hh⟩ | ⟨c18, hh⟩
    · refine r_sw 132 jd_La_law_42 (by rw [c18]; decide) (by rw [c18]; decide) (by rw [c18]; rfl) rfl ?_
      refine r_aload_n 133 1 jd_La_law_132 rfl rfl ?_
      refine r_aload_n 134 0 jd_La_law_133 rfl rfl ?_
      refine r_iload_n 135 3 jd_La_law_134 rfl rfl ?_
      refine r_iconst 136 1 jd_La_law_135 (by decide) rfl ?_
      refine r_iadd 137 jd_La_law_136 rfl ?_
      obtain ⟨v19, e20, hh⟩ := q_bind hh
      refine r_ldS 138 jd_La_law_137 e20 rfl ?_
      refine r_aload_n 139 0 jd_La_law_138 rfl rfl ?_
      refine r_iload_n 140 3 jd_La_law_139 rfl rfl ?_
      refine r_iconst 141 2 jd_La_law_140 (by decide) rfl ?_
      refine r_iadd 142 jd_La_law_141 rfl ?_
      obtain ⟨v21, e22, hh⟩ := q_bind hh
      refine r_ldS 143 jd_La_law_142 e22 rfl ?_
      obtain ⟨b25, e26, hh⟩ := q_bind hh
      obtain ⟨p23, e24, hh⟩ := q_bind hh
      refine r_cV (rest := []) 146 0 0 [.int v19, .int v21] [.int p23.2] jd_La_law_143 rfl e26 rfl rfl rfl rfl (q_s8 (Nat.le_of_ble_eq_true rfl)) (q_call_le (Nat.le_of_ble_eq_true rfl) (jm_Bc_extend e24)) rfl rfl ?_
      refine r_aload_n 147 2 jd_La_law_146 rfl rfl ?_
      refine r_aload_n 148 0 jd_La_law_147 rfl rfl ?_
      refine r_iload_n 149 3 jd_La_law_148 rfl rfl ?_
      refine r_iconst 150 1 jd_La_law_149 (by decide) rfl ?_
      refine r_iadd 151 jd_La_law_150 rfl ?_
      obtain ⟨v27, e28, hh⟩ := q_bind hh
      refine r_ldS 152 jd_La_law_151 e28 rfl ?_
      refine r_aload_n 153 0 jd_La_law_152 rfl rfl ?_
      refine r_iload_n 154 3 jd_La_law_153 rfl rfl ?_
      refine r_iconst 155 2 jd_La_law_154 (by decide) rfl ?_
      refine r_iadd 156 jd_La_law_155 rfl ?_
      obtain ⟨v29, e30, hh⟩ := q_bind hh
      refine r_ldS 157 jd_La_law_156 e30 rfl ?_
      obtain ⟨b33, e34, hh⟩ := q_bind hh
      obtain ⟨p31, e32, hh⟩ := q_bind hh
      refine r_cV (rest := [.int p23.2]) 160 1 11 [.int v27, .int v29] [.int p31.2, .int p23.2] jd_La_law_157 rfl e34 rfl rfl rfl rfl (q_s8 (Nat.le_of_ble_eq_true rfl)) (q_call_le (Nat.le_of_ble_eq_true rfl) (jm_Mo_extend e32)) rfl rfl ?_
      rcases q_ite hh with ⟨c35, hh⟩ | ⟨c35, hh⟩
      · refine r_ic_t 721 jd_La_law_160 rfl c35 ?_
        refine r_iinc 724 3 [(3, .int (l3 + 5)), (0, va_rf l0), (1, va_rf l1), (2, va_rf l2)] 5 jd_La_law_721 rfl (by decide) (by decide) rfl rfl ?_
        refine r_goto 28 jd_La_law_724 rfl ?_
        refine q_sub [1, 2, 3, 0] rfl ?_
        exact hrc _ _ _ _ _ hh
      · refine r_ic_f 163 721 jd_La_law_160 rfl c35 rfl ?_
        refine r_iconst 164 0 jd_La_law_163 (by decide) rfl ?_
        cases hh
        exact r_zret jd_La_law_164 rfl (by decide) ⟨rfl, rfl⟩
    · rcases q_ite hh with ⟨c36, hh⟩ | ⟨c36, hh⟩
      · refine r_sw 165 jd_La_law_42 (by rw [c36]; decide) (by rw [c36]; decide) (by rw [c36]; rfl) rfl ?_
        refine r_aload_n 166 1 jd_La_law_165 rfl rfl ?_
        refine r_aload_n 167 0 jd_La_law_166 rfl rfl ?_
        refine r_iload_n 168 3 jd_La_law_167 rfl rfl ?_
        refine r_iconst 169 1 jd_La_law_168 (by decide) rfl ?_
        refine r_iadd 170 jd_La_law_169 rfl ?_
        obtain ⟨v37, e38, hh⟩ := q_bind hh
        refine r_ldS 171 jd_La_law_170 e38 rfl ?_
        refine r_aload_n 172 0 jd_La_law_171 rfl rfl ?_
        refine r_iload_n 173 3 jd_La_law_172 rfl rfl ?_
        refine r_iconst 174 2 jd_La_law_173 (by decide) rfl ?_
        refine r_iadd 175 jd_La_law_174 rfl ?_
        obtain ⟨v39, e40, hh⟩ := q_bind hh
        refine r_ldS 176 jd_La_law_175 e40 rfl ?_
        refine r_aload_n 177 0 jd_La_law_176 rfl rfl ?_
        refine r_iload_n 178 3 jd_La_law_177 rfl rfl ?_
        refine r_iconst 179 3 jd_La_law_178 (by decide) rfl ?_
        refine r_iadd 180 jd_La_law_179 rfl ?_
        obtain ⟨v41, e42, hh⟩ := q_bind hh
        refine r_ldS 181 jd_La_law_180 e42 rfl ?_
        refine r_aload_n 182 0 jd_La_law_181 rfl rfl ?_
        refine r_iload_n 183 3 jd_La_law_182 rfl rfl ?_
        refine r_iconst 184 4 jd_La_law_183 (by decide) rfl ?_
        refine r_iadd 185 jd_La_law_184 rfl ?_
        obtain ⟨v43, e44, hh⟩ := q_bind hh
        refine r_ldS 186 jd_La_law_185 e44 rfl ?_
        obtain ⟨b47, e48, hh⟩ := q_bind hh
        obtain ⟨p45, e46, hh⟩ := q_bind hh
        refine r_cV (rest := []) 189 2 0 [.int v37, .int v39, .int v41, .int v43] [.int p45.2] jd_La_law_186 rfl e48 rfl rfl rfl rfl (q_s8 (Nat.le_of_ble_eq_true rfl)) (q_call_le (Nat.le_of_ble_eq_true rfl) (jm_Bc_define e46)) rfl rfl ?_
        refine r_aload_n 190 2 jd_La_law_189 rfl rfl ?_
        refine r_aload_n 191 0 jd_La_law_190 rfl rfl ?_
        refine r_iload_n 192 3 jd_La_law_191 rfl rfl ?_
        refine r_iconst 193 1 jd_La_law_192 (by decide) rfl ?_
        refine r_iadd 194 jd_La_law_193 rfl ?_
        obtain ⟨v49, e50, hh⟩ := q_bind hh
        refine r_ldS 195 jd_La_law_194 e50 rfl ?_
        refine r_aload_n 196 0 jd_La_law_195 rfl rfl ?_
        refine r_iload_n 197 3 jd_La_law_196 rfl rfl ?_
        refine r_iconst 198 2 jd_La_law_197 (by decide) rfl ?_
        refine r_iadd 199 jd_La_law_198 rfl ?_
        obtain ⟨v51, e52, hh⟩ := q_bind hh
        refine r_ldS 200 jd_La_law_199 e52 rfl ?_
        refine r_aload_n 201 0 jd_La_law_200 rfl rfl ?_
        refine r_iload_n 202 3 jd_La_law_201 rfl rfl ?_
        refine r_iconst 203 3 jd_La_law_202 (by decide) rfl ?_
        refine r_iadd 204 jd_La_law_203 rfl ?_
        obtain ⟨v53, e54, hh⟩ := q_bind hh
        refine r_ldS 205 jd_La_law_204 e54 rfl ?_
        refine r_aload_n 206 0 jd_La_law_205 rfl rfl ?_
        refine r_iload_n 207 3 jd_La_law_206 rfl rfl ?_
        refine r_iconst 208 4 jd_La_law_207 (by decide) rfl ?_
        refine r_iadd 209 jd_La_law_208 rfl ?_
        obtain ⟨v55, e56, hh⟩ := q_bind hh
        refine r_ldS 210 jd_La_law_209 e56 rfl ?_
        obtain ⟨b59, e60, hh⟩ := q_bind hh
        obtain ⟨p57, e58, hh⟩ := q_bind hh
        refine r_cV (rest := [.int p45.2]) 213 3 11 [.int v49, .int v51, .int v53, .int v55] [.int p57.2, .int p45.2] jd_La_law_210 rfl e60 rfl rfl rfl rfl (q_s8 (Nat.le_of_ble_eq_true rfl)) (q_call_le (Nat.le_of_ble_eq_true rfl) (jm_Mo_define e58)) rfl rfl ?_
        rcases q_ite hh with ⟨c61, hh⟩ | ⟨c61, hh⟩
        · refine r_ic_t 721 jd_La_law_213 rfl c61 ?_
          refine r_iinc 724 3 [(3, .int (l3 + 5)), (0, va_rf l0), (1, va_rf l1), (2, va_rf l2)] 5 jd_La_law_721 rfl (by decide) (by decide) rfl rfl ?_
          refine r_goto 28 jd_La_law_724 rfl ?_
          refine q_sub [1, 2, 3, 0] rfl ?_
          exact hrc _ _ _ _ _ hh
        · refine r_ic_f 216 721 jd_La_law_213 rfl c61 rfl ?_
          refine r_iconst 217 0 jd_La_law_216 (by decide) rfl ?_
          cases hh
          exact r_zret jd_La_law_217 rfl (by decide) ⟨rfl, rfl⟩
      · rcases q_ite hh with ⟨c62, hh⟩ | ⟨c62, hh⟩
        · refine r_sw 218 jd_La_law_42 (by rw [c62]; decide) (by rw [c62]; decide) (by rw [c62]; rfl) rfl ?_
          refine r_aload_n 219 1 jd_La_law_218 rfl rfl ?_
          refine r_aload_n 220 0 jd_La_law_219 rfl rfl ?_
          refine r_iload_n 221 3 jd_La_law_220 rfl rfl ?_
          refine r_iconst 222 1 jd_La_law_221 (by decide) rfl ?_
          refine r_iadd 223 jd_La_law_222 rfl ?_
          obtain ⟨v63, e64, hh⟩ := q_bind hh
          refine r_ldS 224 jd_La_law_223 e64 rfl ?_
          refine r_aload_n 225 0 jd_La_law_224 rfl rfl ?_
          refine r_iload_n 226 3 jd_La_law_225 rfl rfl ?_
          refine r_iconst 227 2 jd_La_law_226 (by decide) rfl ?_
          refine r_iadd 228 jd_La_law_227 rfl ?_
          obtain ⟨v65, e66, hh⟩ := q_bind hh
          refine r_ldS 229 jd_La_law_228 e66 rfl ?_
          refine r_aload_n 230 0 jd_La_law_229 rfl rfl ?_
          refine r_iload_n 231 3 jd_La_law_230 rfl rfl ?_
          refine r_iconst 232 3 jd_La_law_231 (by decide) rfl ?_
          refine r_iadd 233 jd_La_law_232 rfl ?_
          obtain ⟨v67, e68, hh⟩ := q_bind hh
          refine r_ldS 234 jd_La_law_233 e68 rfl ?_
          refine r_aload_n 235 0 jd_La_law_234 rfl rfl ?_
          refine r_iload_n 236 3 jd_La_law_235 rfl rfl ?_
          refine r_iconst 237 4 jd_La_law_236 (by decide) rfl ?_
          refine r_iadd 238 jd_La_law_237 rfl ?_
          obtain ⟨v69, e70, hh⟩ := q_bind hh
          refine r_ldS 239 jd_La_law_238 e70 rfl ?_
          obtain ⟨b73, e74, hh⟩ := q_bind hh
          obtain ⟨p71, e72, hh⟩ := q_bind hh
          refine r_cV (rest := []) 242 4 0 [.int v63, .int v65, .int v67, .int v69] [.int p71.2] jd_La_law_239 rfl e74 rfl rfl rfl rfl (q_s8 (Nat.le_of_ble_eq_true rfl)) (q_call_le (Nat.le_of_ble_eq_true rfl) (jm_Bc_need e72)) rfl rfl ?_
          refine r_aload_n 243 2 jd_La_law_242 rfl rfl ?_
          refine r_aload_n 244 0 jd_La_law_243 rfl rfl ?_
          refine r_iload_n 245 3 jd_La_law_244 rfl rfl ?_
          refine r_iconst 246 1 jd_La_law_245 (by decide) rfl ?_
          refine r_iadd 247 jd_La_law_246 rfl ?_
          obtain ⟨v75, e76, hh⟩ := q_bind hh
          refine r_ldS 248 jd_La_law_247 e76 rfl ?_
          refine r_aload_n 249 0 jd_La_law_248 rfl rfl ?_
          refine r_iload_n 250 3 jd_La_law_249 rfl rfl ?_
          refine r_iconst 251 2 jd_La_law_250 (by decide) rfl ?_
          refine r_iadd 252 jd_La_law_251 rfl ?_
          obtain ⟨v77, e78, hh⟩ := q_bind hh
          refine r_ldS 253 jd_La_law_252 e78 rfl ?_
          refine r_aload_n 254 0 jd_La_law_253 rfl rfl ?_
          refine r_iload_n 255 3 jd_La_law_254 rfl rfl ?_
          refine r_iconst 256 3 jd_La_law_255 (by decide) rfl ?_
          refine r_iadd 257 jd_La_law_256 rfl ?_
          obtain ⟨v79, e80, hh⟩ := q_bind hh
          refine r_ldS 258 jd_La_law_257 e80 rfl ?_
          refine r_aload_n 259 0 jd_La_law_258 rfl rfl ?_
          refine r_iload_n 260 3 jd_La_law_259 rfl rfl ?_
          refine r_iconst 261 4 jd_La_law_260 (by decide) rfl ?_
          refine r_iadd 262 jd_La_law_261 rfl ?_
          obtain ⟨v81, e82, hh⟩ := q_bind hh
          refine r_ldS 263 jd_La_law_262 e82 rfl ?_
          obtain ⟨b85, e86, hh⟩ := q_bind hh
          obtain ⟨p83, e84, hh⟩ := q_bind hh
          refine r_cV (rest := [.int p71.2]) 266 5 11 [.int v75, .int v77, .int v79, .int v81] [.int p83.2, .int p71.2] jd_La_law_263 rfl e86 rfl rfl rfl rfl (q_s8 (Nat.le_of_ble_eq_true rfl)) (q_call_le (Nat.le_of_ble_eq_true rfl) (jm_Mo_need e84)) rfl rfl ?_
          rcases q_ite hh with ⟨c87, hh⟩ | ⟨c87, hh⟩
          · refine r_ic_t 721 jd_La_law_266 rfl c87 ?_
            refine r_iinc 724 3 [(3, .int (l3 + 5)), (0, va_rf l0), (1, va_rf l1), (2, va_rf l2)] 5 jd_La_law_721 rfl (by decide) (by decide) rfl rfl ?_
            refine r_goto 28 jd_La_law_724 rfl ?_
            refine q_sub [1, 2, 3, 0] rfl ?_
            exact hrc _ _ _ _ _ hh
          · refine r_ic_f 269 721 jd_La_law_266 rfl c87 rfl ?_
            refine r_iconst 270 0 jd_La_law_269 (by decide) rfl ?_
            cases hh
            exact r_zret jd_La_law_270 rfl (by decide) ⟨rfl, rfl⟩
        · rcases q_ite hh with ⟨c88, hh⟩ | ⟨c88, hh⟩
          · refine r_sw 271 jd_La_law_42 (by rw [c88]; decide) (by rw [c88]; decide) (by rw [c88]; rfl) rfl ?_
            refine r_aload_n 272 1 jd_La_law_271 rfl rfl ?_
            refine r_aload_n 273 0 jd_La_law_272 rfl rfl ?_
            refine r_iload_n 274 3 jd_La_law_273 rfl rfl ?_
            refine r_iconst 275 1 jd_La_law_274 (by decide) rfl ?_
            refine r_iadd 276 jd_La_law_275 rfl ?_
            obtain ⟨v89, e90, hh⟩ := q_bind hh
            refine r_ldS 277 jd_La_law_276 e90 rfl ?_
            refine r_aload_n 278 0 jd_La_law_277 rfl rfl ?_
            refine r_iload_n 279 3 jd_La_law_278 rfl rfl ?_
            refine r_iconst 280 2 jd_La_law_279 (by decide) rfl ?_
            refine r_iadd 281 jd_La_law_280 rfl ?_
            obtain ⟨v91, e92, hh⟩ := q_bind hh
            refine r_ldS 282 jd_La_law_281 e92 rfl ?_
            refine r_aload_n 283 0 jd_La_law_282 rfl rfl ?_
            refine r_iload_n 284 3 jd_La_law_283 rfl rfl ?_
            refine r_iconst 285 3 jd_La_law_284 (by decide) rfl ?_
            refine r_iadd 286 jd_La_law_285 rfl ?_
            obtain ⟨v93, e94, hh⟩ := q_bind hh
            refine r_ldS 287 jd_La_law_286 e94 rfl ?_
            refine r_aload_n 288 0 jd_La_law_287 rfl rfl ?_
            refine r_iload_n 289 3 jd_La_law_288 rfl rfl ?_
            refine r_iconst 290 4 jd_La_law_289 (by decide) rfl ?_
            refine r_iadd 291 jd_La_law_290 rfl ?_
            obtain ⟨v95, e96, hh⟩ := q_bind hh
            refine r_ldS 292 jd_La_law_291 e96 rfl ?_
            obtain ⟨b99, e100, hh⟩ := q_bind hh
            obtain ⟨p97, e98, hh⟩ := q_bind hh
            refine r_cV (rest := []) 295 6 0 [.int v89, .int v91, .int v93, .int v95] [.int p97.2] jd_La_law_292 rfl e100 rfl rfl rfl rfl (q_s8 (Nat.le_of_ble_eq_true rfl)) (q_call_le (Nat.le_of_ble_eq_true rfl) (jm_Bc_configure e98)) rfl rfl ?_
            refine r_aload_n 296 2 jd_La_law_295 rfl rfl ?_
            refine r_aload_n 297 0 jd_La_law_296 rfl rfl ?_
            refine r_iload_n 298 3 jd_La_law_297 rfl rfl ?_
            refine r_iconst 299 1 jd_La_law_298 (by decide) rfl ?_
            refine r_iadd 300 jd_La_law_299 rfl ?_
            obtain ⟨v101, e102, hh⟩ := q_bind hh
            refine r_ldS 301 jd_La_law_300 e102 rfl ?_
            refine r_aload_n 302 0 jd_La_law_301 rfl rfl ?_
            refine r_iload_n 303 3 jd_La_law_302 rfl rfl ?_
            refine r_iconst 304 2 jd_La_law_303 (by decide) rfl ?_
            refine r_iadd 305 jd_La_law_304 rfl ?_
            obtain ⟨v103, e104, hh⟩ := q_bind hh
            refine r_ldS 306 jd_La_law_305 e104 rfl ?_
            refine r_aload_n 307 0 jd_La_law_306 rfl rfl ?_
            refine r_iload_n 308 3 jd_La_law_307 rfl rfl ?_
            refine r_iconst 309 3 jd_La_law_308 (by decide) rfl ?_
            refine r_iadd 310 jd_La_law_309 rfl ?_
            obtain ⟨v105, e106, hh⟩ := q_bind hh
            refine r_ldS 311 jd_La_law_310 e106 rfl ?_
            refine r_aload_n 312 0 jd_La_law_311 rfl rfl ?_
            refine r_iload_n 313 3 jd_La_law_312 rfl rfl ?_
            refine r_iconst 314 4 jd_La_law_313 (by decide) rfl ?_
            refine r_iadd 315 jd_La_law_314 rfl ?_
            obtain ⟨v107, e108, hh⟩ := q_bind hh
            refine r_ldS 316 jd_La_law_315 e108 rfl ?_
            obtain ⟨b111, e112, hh⟩ := q_bind hh
            obtain ⟨p109, e110, hh⟩ := q_bind hh
            refine r_cV (rest := [.int p97.2]) 319 7 11 [.int v101, .int v103, .int v105, .int v107] [.int p109.2, .int p97.2] jd_La_law_316 rfl e112 rfl rfl rfl rfl (q_s8 (Nat.le_of_ble_eq_true rfl)) (q_call_le (Nat.le_of_ble_eq_true rfl) (jm_Mo_configure e110)) rfl rfl ?_
            rcases q_ite hh with ⟨c113, hh⟩ | ⟨c113, hh⟩
            · refine r_ic_t 721 jd_La_law_319 rfl c113 ?_
              refine r_iinc 724 3 [(3, .int (l3 + 5)), (0, va_rf l0), (1, va_rf l1), (2, va_rf l2)] 5 jd_La_law_721 rfl (by decide) (by decide) rfl rfl ?_
              refine r_goto 28 jd_La_law_724 rfl ?_
              refine q_sub [1, 2, 3, 0] rfl ?_
              exact hrc _ _ _ _ _ hh
            · refine r_ic_f 322 721 jd_La_law_319 rfl c113 rfl ?_
              refine r_iconst 323 0 jd_La_law_322 (by decide) rfl ?_
              cases hh
              exact r_zret jd_La_law_323 rfl (by decide) ⟨rfl, rfl⟩
          · rcases q_ite hh with ⟨c114, hh⟩ | ⟨c114, hh⟩
            · refine r_sw 324 jd_La_law_42 (by rw [c114]; decide) (by rw [c114]; decide) (by rw [c114]; rfl) rfl ?_
              refine r_aload_n 325 1 jd_La_law_324 rfl rfl ?_
              refine r_aload_n 326 0 jd_La_law_325 rfl rfl ?_
              refine r_iload_n 327 3 jd_La_law_326 rfl rfl ?_
              refine r_iconst 328 1 jd_La_law_327 (by decide) rfl ?_
              refine r_iadd 329 jd_La_law_328 rfl ?_
              obtain ⟨v115, e116, hh⟩ := q_bind hh
              refine r_ldS 330 jd_La_law_329 e116 rfl ?_
              obtain ⟨b119, e120, hh⟩ := q_bind hh
              obtain ⟨p117, e118, hh⟩ := q_bind hh
              refine r_cV (rest := []) 333 8 0 [.int v115] [.int p117.2] jd_La_law_330 rfl e120 rfl rfl rfl rfl (q_s8 (Nat.le_of_ble_eq_true rfl)) (q_call_le (Nat.le_of_ble_eq_true rfl) (jm_Bc_key e118)) rfl rfl ?_
              refine r_aload_n 334 2 jd_La_law_333 rfl rfl ?_
              refine r_aload_n 335 0 jd_La_law_334 rfl rfl ?_
              refine r_iload_n 336 3 jd_La_law_335 rfl rfl ?_
              refine r_iconst 337 1 jd_La_law_336 (by decide) rfl ?_
              refine r_iadd 338 jd_La_law_337 rfl ?_
              obtain ⟨v121, e122, hh⟩ := q_bind hh
              refine r_ldS 339 jd_La_law_338 e122 rfl ?_
              obtain ⟨b125, e126, hh⟩ := q_bind hh
              obtain ⟨p123, e124, hh⟩ := q_bind hh
              refine r_cV (rest := [.int p117.2]) 342 9 11 [.int v121] [.int p123.2, .int p117.2] jd_La_law_339 rfl e126 rfl rfl rfl rfl (q_s8 (Nat.le_of_ble_eq_true rfl)) (q_call_le (Nat.le_of_ble_eq_true rfl) (jm_Mo_key e124)) rfl rfl ?_
              rcases q_ite hh with ⟨c127, hh⟩ | ⟨c127, hh⟩
              · refine r_ic_t 721 jd_La_law_342 rfl c127 ?_
                refine r_iinc 724 3 [(3, .int (l3 + 5)), (0, va_rf l0), (1, va_rf l1), (2, va_rf l2)] 5 jd_La_law_721 rfl (by decide) (by decide) rfl rfl ?_
                refine r_goto 28 jd_La_law_724 rfl ?_
                refine q_sub [1, 2, 3, 0] rfl ?_
                exact hrc _ _ _ _ _ hh
              · refine r_ic_f 345 721 jd_La_law_342 rfl c127 rfl ?_
                refine r_iconst 346 0 jd_La_law_345 (by decide) rfl ?_
                cases hh
                exact r_zret jd_La_law_346 rfl (by decide) ⟨rfl, rfl⟩
            · rcases q_ite hh with ⟨c128, hh⟩ | ⟨c128, hh⟩
              · refine r_sw 347 jd_La_law_42 (by rw [c128]; decide) (by rw [c128]; decide) (by rw [c128]; rfl) rfl ?_
                refine r_aload_n 348 1 jd_La_law_347 rfl rfl ?_
                refine r_aload_n 349 0 jd_La_law_348 rfl rfl ?_
                refine r_iload_n 350 3 jd_La_law_349 rfl rfl ?_
                refine r_iconst 351 1 jd_La_law_350 (by decide) rfl ?_
                refine r_iadd 352 jd_La_law_351 rfl ?_
                obtain ⟨v129, e130, hh⟩ := q_bind hh
                refine r_ldS 353 jd_La_law_352 e130 rfl ?_
                obtain ⟨b133, e134, hh⟩ := q_bind hh
                obtain ⟨p131, e132, hh⟩ := q_bind hh
                refine r_cV (rest := []) 356 10 0 [.int v129] [.int p131.2] jd_La_law_353 rfl e134 rfl rfl rfl rfl (q_s8 (Nat.le_of_ble_eq_true rfl)) (q_call_le (Nat.le_of_ble_eq_true rfl) (jm_Bc_request e132)) rfl rfl ?_
                refine r_aload_n 357 2 jd_La_law_356 rfl rfl ?_
                refine r_aload_n 358 0 jd_La_law_357 rfl rfl ?_
                refine r_iload_n 359 3 jd_La_law_358 rfl rfl ?_
                refine r_iconst 360 1 jd_La_law_359 (by decide) rfl ?_
                refine r_iadd 361 jd_La_law_360 rfl ?_
                obtain ⟨v135, e136, hh⟩ := q_bind hh
                refine r_ldS 362 jd_La_law_361 e136 rfl ?_
                obtain ⟨b139, e140, hh⟩ := q_bind hh
                obtain ⟨p137, e138, hh⟩ := q_bind hh
                refine r_cV (rest := [.int p131.2]) 365 11 11 [.int v135] [.int p137.2, .int p131.2] jd_La_law_362 rfl e140 rfl rfl rfl rfl (q_s8 (Nat.le_of_ble_eq_true rfl)) (q_call_le (Nat.le_of_ble_eq_true rfl) (jm_Mo_request e138)) rfl rfl ?_
                rcases q_ite hh with ⟨c141, hh⟩ | ⟨c141, hh⟩
                · refine r_ic_t 721 jd_La_law_365 rfl c141 ?_
                  refine r_iinc 724 3 [(3, .int (l3 + 5)), (0, va_rf l0), (1, va_rf l1), (2, va_rf l2)] 5 jd_La_law_721 rfl (by decide) (by decide) rfl rfl ?_
                  refine r_goto 28 jd_La_law_724 rfl ?_
                  refine q_sub [1, 2, 3, 0] rfl ?_
                  exact hrc _ _ _ _ _ hh
                · refine r_ic_f 368 721 jd_La_law_365 rfl c141 rfl ?_
                  refine r_iconst 369 0 jd_La_law_368 (by decide) rfl ?_
                  cases hh
                  exact r_zret jd_La_law_369 rfl (by decide) ⟨rfl, rfl⟩
              · rcases q_ite hh with ⟨c142, hh⟩ | ⟨c142, hh⟩
                · refine r_sw 370 jd_La_law_42 (by rw [c142]; decide) (by rw [c142]; decide) (by rw [c142]; rfl) rfl ?_
                  refine r_aload_n 371 1 jd_La_law_370 rfl rfl ?_
                  refine r_aload_n 372 0 jd_La_law_371 rfl rfl ?_
                  refine r_iload_n 373 3 jd_La_law_372 rfl rfl ?_
                  refine r_iconst 374 1 jd_La_law_373 (by decide) rfl ?_
                  refine r_iadd 375 jd_La_law_374 rfl ?_
                  obtain ⟨v143, e144, hh⟩ := q_bind hh
                  refine r_ldS 376 jd_La_law_375 e144 rfl ?_
                  obtain ⟨b147, e148, hh⟩ := q_bind hh
                  obtain ⟨p145, e146, hh⟩ := q_bind hh
                  refine r_cV (rest := []) 379 12 0 [.int v143] [.int p145.2] jd_La_law_376 rfl e148 rfl rfl rfl rfl (q_s8 (Nat.le_of_ble_eq_true rfl)) (q_call_le (Nat.le_of_ble_eq_true rfl) (jm_Bc_dirty e146)) rfl rfl ?_
                  refine r_aload_n 380 2 jd_La_law_379 rfl rfl ?_
                  refine r_aload_n 381 0 jd_La_law_380 rfl rfl ?_
                  refine r_iload_n 382 3 jd_La_law_381 rfl rfl ?_
                  refine r_iconst 383 1 jd_La_law_382 (by decide) rfl ?_
                  refine r_iadd 384 jd_La_law_383 rfl ?_
                  obtain ⟨v149, e150, hh⟩ := q_bind hh
                  refine r_ldS 385 jd_La_law_384 e150 rfl ?_
                  obtain ⟨b153, e154, hh⟩ := q_bind hh
                  obtain ⟨p151, e152, hh⟩ := q_bind hh
                  refine r_cV (rest := [.int p145.2]) 388 13 11 [.int v149] [.int p151.2, .int p145.2] jd_La_law_385 rfl e154 rfl rfl rfl rfl (q_s8 (Nat.le_of_ble_eq_true rfl)) (q_call_le (Nat.le_of_ble_eq_true rfl) (jm_Mo_dirty e152)) rfl rfl ?_
                  rcases q_ite hh with ⟨c155, hh⟩ | ⟨c155, hh⟩
                  · refine r_ic_t 721 jd_La_law_388 rfl c155 ?_
                    refine r_iinc 724 3 [(3, .int (l3 + 5)), (0, va_rf l0), (1, va_rf l1), (2, va_rf l2)] 5 jd_La_law_721 rfl (by decide) (by decide) rfl rfl ?_
                    refine r_goto 28 jd_La_law_724 rfl ?_
                    refine q_sub [1, 2, 3, 0] rfl ?_
                    exact hrc _ _ _ _ _ hh
                  · refine r_ic_f 391 721 jd_La_law_388 rfl c155 rfl ?_
                    refine r_iconst 392 0 jd_La_law_391 (by decide) rfl ?_
                    cases hh
                    exact r_zret jd_La_law_392 rfl (by decide) ⟨rfl, rfl⟩
                · rcases q_ite hh with ⟨c156, hh⟩ | ⟨c156, hh⟩
                  · refine r_sw 393 jd_La_law_42 (by rw [c156]; decide) (by rw [c156]; decide) (by rw [c156]; rfl) rfl ?_
                    refine r_aload_n 394 1 jd_La_law_393 rfl rfl ?_
                    obtain ⟨b159, e160, hh⟩ := q_bind hh
                    obtain ⟨p157, e158, hh⟩ := q_bind hh
                    refine r_cV (rest := []) 397 14 0 [] [.int p157.2] jd_La_law_394 rfl e160 rfl rfl rfl rfl (q_s8 (Nat.le_of_ble_eq_true rfl)) (q_call_le (Nat.le_of_ble_eq_true rfl) (jm_Bc_shutdown e158)) rfl rfl ?_
                    refine r_aload_n 398 2 jd_La_law_397 rfl rfl ?_
                    obtain ⟨b163, e164, hh⟩ := q_bind hh
                    obtain ⟨p161, e162, hh⟩ := q_bind hh
                    refine r_cV (rest := [.int p157.2]) 401 15 11 [] [.int p161.2, .int p157.2] jd_La_law_398 rfl e164 rfl rfl rfl rfl (q_s8 (Nat.le_of_ble_eq_true rfl)) (q_call_le (Nat.le_of_ble_eq_true rfl) (jm_Mo_shutdown e162)) rfl rfl ?_
                    rcases q_ite hh with ⟨c165, hh⟩ | ⟨c165, hh⟩
                    · refine r_ic_t 721 jd_La_law_401 rfl c165 ?_
                      refine r_iinc 724 3 [(3, .int (l3 + 5)), (0, va_rf l0), (1, va_rf l1), (2, va_rf l2)] 5 jd_La_law_721 rfl (by decide) (by decide) rfl rfl ?_
                      refine r_goto 28 jd_La_law_724 rfl ?_
                      refine q_sub [1, 2, 3, 0] rfl ?_
                      exact hrc _ _ _ _ _ hh
                    · refine r_ic_f 404 721 jd_La_law_401 rfl c165 rfl ?_
                      refine r_iconst 405 0 jd_La_law_404 (by decide) rfl ?_
                      cases hh
                      exact r_zret jd_La_law_405 rfl (by decide) ⟨rfl, rfl⟩
                  · rcases q_ite hh with ⟨c166, hh⟩ | ⟨c166, hh⟩
                    · refine r_sw 406 jd_La_law_42 (by rw [c166]; decide) (by rw [c166]; decide) (by rw [c166]; rfl) rfl ?_
                      refine r_aload_n 407 1 jd_La_law_406 rfl rfl ?_
                      refine r_aload_n 408 0 jd_La_law_407 rfl rfl ?_
                      refine r_iload_n 409 3 jd_La_law_408 rfl rfl ?_
                      refine r_iconst 410 1 jd_La_law_409 (by decide) rfl ?_
                      refine r_iadd 411 jd_La_law_410 rfl ?_
                      obtain ⟨v167, e168, hh⟩ := q_bind hh
                      refine r_ldS 412 jd_La_law_411 e168 rfl ?_
                      refine r_aload_n 413 0 jd_La_law_412 rfl rfl ?_
                      refine r_iload_n 414 3 jd_La_law_413 rfl rfl ?_
                      refine r_iconst 415 2 jd_La_law_414 (by decide) rfl ?_
                      refine r_iadd 416 jd_La_law_415 rfl ?_
                      obtain ⟨v169, e170, hh⟩ := q_bind hh
                      refine r_ldS 417 jd_La_law_416 e170 rfl ?_
                      refine r_aload_n 418 0 jd_La_law_417 rfl rfl ?_
                      refine r_iload_n 419 3 jd_La_law_418 rfl rfl ?_
                      refine r_iconst 420 3 jd_La_law_419 (by decide) rfl ?_
                      refine r_iadd 421 jd_La_law_420 rfl ?_
                      obtain ⟨v171, e172, hh⟩ := q_bind hh
                      refine r_ldS 422 jd_La_law_421 e172 rfl ?_
                      refine r_aload_n 423 0 jd_La_law_422 rfl rfl ?_
                      refine r_iload_n 424 3 jd_La_law_423 rfl rfl ?_
                      refine r_iconst 425 4 jd_La_law_424 (by decide) rfl ?_
                      refine r_iadd 426 jd_La_law_425 rfl ?_
                      obtain ⟨v173, e174, hh⟩ := q_bind hh
                      refine r_ldS 427 jd_La_law_426 e174 rfl ?_
                      obtain ⟨b177, e178, hh⟩ := q_bind hh
                      obtain ⟨p175, e176, hh⟩ := q_bind hh
                      refine r_cV (rest := []) 430 16 0 [.int v167, .int v169, .int v171, .int v173] [.int p175.2] jd_La_law_427 rfl e178 rfl rfl rfl rfl (q_s8 (Nat.le_of_ble_eq_true rfl)) (q_call_le (Nat.le_of_ble_eq_true rfl) (jm_Bc_get e176)) rfl rfl ?_
                      refine r_aload_n 431 2 jd_La_law_430 rfl rfl ?_
                      refine r_aload_n 432 0 jd_La_law_431 rfl rfl ?_
                      refine r_iload_n 433 3 jd_La_law_432 rfl rfl ?_
                      refine r_iconst 434 1 jd_La_law_433 (by decide) rfl ?_
                      refine r_iadd 435 jd_La_law_434 rfl ?_
                      obtain ⟨v179, e180, hh⟩ := q_bind hh
                      refine r_ldS 436 jd_La_law_435 e180 rfl ?_
                      refine r_aload_n 437 0 jd_La_law_436 rfl rfl ?_
                      refine r_iload_n 438 3 jd_La_law_437 rfl rfl ?_
                      refine r_iconst 439 2 jd_La_law_438 (by decide) rfl ?_
                      refine r_iadd 440 jd_La_law_439 rfl ?_
                      obtain ⟨v181, e182, hh⟩ := q_bind hh
                      refine r_ldS 441 jd_La_law_440 e182 rfl ?_
                      refine r_aload_n 442 0 jd_La_law_441 rfl rfl ?_
                      refine r_iload_n 443 3 jd_La_law_442 rfl rfl ?_
                      refine r_iconst 444 3 jd_La_law_443 (by decide) rfl ?_
                      refine r_iadd 445 jd_La_law_444 rfl ?_
                      obtain ⟨v183, e184, hh⟩ := q_bind hh
                      refine r_ldS 446 jd_La_law_445 e184 rfl ?_
                      refine r_aload_n 447 0 jd_La_law_446 rfl rfl ?_
                      refine r_iload_n 448 3 jd_La_law_447 rfl rfl ?_
                      refine r_iconst 449 4 jd_La_law_448 (by decide) rfl ?_
                      refine r_iadd 450 jd_La_law_449 rfl ?_
                      obtain ⟨v185, e186, hh⟩ := q_bind hh
                      refine r_ldS 451 jd_La_law_450 e186 rfl ?_
                      obtain ⟨b189, e190, hh⟩ := q_bind hh
                      obtain ⟨p187, e188, hh⟩ := q_bind hh
                      refine r_cV (rest := [.int p175.2]) 454 17 11 [.int v179, .int v181, .int v183, .int v185] [.int p187.2, .int p175.2] jd_La_law_451 rfl e190 rfl rfl rfl rfl (q_s8 (Nat.le_of_ble_eq_true rfl)) (q_call_le (Nat.le_of_ble_eq_true rfl) (jm_Mo_get e188)) rfl rfl ?_
                      rcases q_ite hh with ⟨c191, hh⟩ | ⟨c191, hh⟩
                      · refine r_ic_t 721 jd_La_law_454 rfl c191 ?_
                        refine r_iinc 724 3 [(3, .int (l3 + 5)), (0, va_rf l0), (1, va_rf l1), (2, va_rf l2)] 5 jd_La_law_721 rfl (by decide) (by decide) rfl rfl ?_
                        refine r_goto 28 jd_La_law_724 rfl ?_
                        refine q_sub [1, 2, 3, 0] rfl ?_
                        exact hrc _ _ _ _ _ hh
                      · refine r_ic_f 457 721 jd_La_law_454 rfl c191 rfl ?_
                        refine r_iconst 458 0 jd_La_law_457 (by decide) rfl ?_
                        cases hh
                        exact r_zret jd_La_law_458 rfl (by decide) ⟨rfl, rfl⟩
                    · rcases q_ite hh with ⟨c192, hh⟩ | ⟨c192, hh⟩
                      · refine r_sw 459 jd_La_law_42 (by rw [c192]; decide) (by rw [c192]; decide) (by rw [c192]; rfl) rfl ?_
                        refine r_aload_n 460 1 jd_La_law_459 rfl rfl ?_
                        refine r_aload_n 461 0 jd_La_law_460 rfl rfl ?_
                        refine r_iload_n 462 3 jd_La_law_461 rfl rfl ?_
                        refine r_iconst 463 1 jd_La_law_462 (by decide) rfl ?_
                        refine r_iadd 464 jd_La_law_463 rfl ?_
                        obtain ⟨v193, e194, hh⟩ := q_bind hh
                        refine r_ldS 465 jd_La_law_464 e194 rfl ?_
                        refine r_aload_n 466 0 jd_La_law_465 rfl rfl ?_
                        refine r_iload_n 467 3 jd_La_law_466 rfl rfl ?_
                        refine r_iconst 468 2 jd_La_law_467 (by decide) rfl ?_
                        refine r_iadd 469 jd_La_law_468 rfl ?_
                        obtain ⟨v195, e196, hh⟩ := q_bind hh
                        refine r_ldS 470 jd_La_law_469 e196 rfl ?_
                        obtain ⟨b199, e200, hh⟩ := q_bind hh
                        obtain ⟨p197, e198, hh⟩ := q_bind hh
                        refine r_cV (rest := []) 473 18 0 [.int v193, .int v195] [.long p197.2] jd_La_law_470 rfl e200 rfl rfl rfl rfl (q_s8 (Nat.le_of_ble_eq_true rfl)) (q_call_le (Nat.le_of_ble_eq_true rfl) (jm_Bc_call e198)) rfl rfl ?_
                        refine r_aload_n 474 2 jd_La_law_473 rfl rfl ?_
                        refine r_aload_n 475 0 jd_La_law_474 rfl rfl ?_
                        refine r_iload_n 476 3 jd_La_law_475 rfl rfl ?_
                        refine r_iconst 477 1 jd_La_law_476 (by decide) rfl ?_
                        refine r_iadd 478 jd_La_law_477 rfl ?_
                        obtain ⟨v201, e202, hh⟩ := q_bind hh
                        refine r_ldS 479 jd_La_law_478 e202 rfl ?_
                        refine r_aload_n 480 0 jd_La_law_479 rfl rfl ?_
                        refine r_iload_n 481 3 jd_La_law_480 rfl rfl ?_
                        refine r_iconst 482 2 jd_La_law_481 (by decide) rfl ?_
                        refine r_iadd 483 jd_La_law_482 rfl ?_
                        obtain ⟨v203, e204, hh⟩ := q_bind hh
                        refine r_ldS 484 jd_La_law_483 e204 rfl ?_
                        obtain ⟨b207, e208, hh⟩ := q_bind hh
                        obtain ⟨p205, e206, hh⟩ := q_bind hh
                        refine r_cV (rest := [.long p197.2]) 487 19 11 [.int v201, .int v203] [.long p205.2, .long p197.2] jd_La_law_484 rfl e208 rfl rfl rfl rfl (q_s8 (Nat.le_of_ble_eq_true rfl)) (q_call_le (Nat.le_of_ble_eq_true rfl) (jm_Mo_call e206)) rfl rfl ?_
                        refine r_lcmp 488 jd_La_law_487 rfl ?_
                        rcases q_ite hh with ⟨c209, hh⟩ | ⟨c209, hh⟩
                        · refine r_if_t 721 jd_La_law_488 rfl c209 ?_
                          refine r_iinc 724 3 [(3, .int (l3 + 5)), (0, va_rf l0), (1, va_rf l1), (2, va_rf l2)] 5 jd_La_law_721 rfl (by decide) (by decide) rfl rfl ?_
                          refine r_goto 28 jd_La_law_724 rfl ?_
                          refine q_sub [1, 2, 3, 0] rfl ?_
                          exact hrc _ _ _ _ _ hh
                        · refine r_if_f 491 721 jd_La_law_488 rfl c209 rfl ?_
                          refine r_iconst 492 0 jd_La_law_491 (by decide) rfl ?_
                          cases hh
                          exact r_zret jd_La_law_492 rfl (by decide) ⟨rfl, rfl⟩
                      · rcases q_ite hh with ⟨c210, hh⟩ | ⟨c210, hh⟩
                        · refine r_sw 493 jd_La_law_42 (by rw [c210]; decide) (by rw [c210]; decide) (by rw [c210]; rfl) rfl ?_
                          refine r_aload_n 494 1 jd_La_law_493 rfl rfl ?_
                          refine r_aload_n 495 0 jd_La_law_494 rfl rfl ?_
                          refine r_iload_n 496 3 jd_La_law_495 rfl rfl ?_
                          refine r_iconst 497 1 jd_La_law_496 (by decide) rfl ?_
                          refine r_iadd 498 jd_La_law_497 rfl ?_
                          obtain ⟨v211, e212, hh⟩ := q_bind hh
                          refine r_ldS 499 jd_La_law_498 e212 rfl ?_
                          refine r_aload_n 500 0 jd_La_law_499 rfl rfl ?_
                          refine r_iload_n 501 3 jd_La_law_500 rfl rfl ?_
                          refine r_iconst 502 2 jd_La_law_501 (by decide) rfl ?_
                          refine r_iadd 503 jd_La_law_502 rfl ?_
                          obtain ⟨v213, e214, hh⟩ := q_bind hh
                          refine r_ldS 504 jd_La_law_503 e214 rfl ?_
                          obtain ⟨b217, e218, hh⟩ := q_bind hh
                          obtain ⟨p215, e216, hh⟩ := q_bind hh
                          refine r_cV (rest := []) 507 20 0 [.int v211, .int v213] [.int p215.2] jd_La_law_504 rfl e218 rfl rfl rfl rfl (q_s8 (Nat.le_of_ble_eq_true rfl)) (q_call_le (Nat.le_of_ble_eq_true rfl) (jm_Bc_stub e216)) rfl rfl ?_
                          refine r_aload_n 508 2 jd_La_law_507 rfl rfl ?_
                          refine r_aload_n 509 0 jd_La_law_508 rfl rfl ?_
                          refine r_iload_n 510 3 jd_La_law_509 rfl rfl ?_
                          refine r_iconst 511 1 jd_La_law_510 (by decide) rfl ?_
                          refine r_iadd 512 jd_La_law_511 rfl ?_
                          obtain ⟨v219, e220, hh⟩ := q_bind hh
                          refine r_ldS 513 jd_La_law_512 e220 rfl ?_
                          refine r_aload_n 514 0 jd_La_law_513 rfl rfl ?_
                          refine r_iload_n 515 3 jd_La_law_514 rfl rfl ?_
                          refine r_iconst 516 2 jd_La_law_515 (by decide) rfl ?_
                          refine r_iadd 517 jd_La_law_516 rfl ?_
                          obtain ⟨v221, e222, hh⟩ := q_bind hh
                          refine r_ldS 518 jd_La_law_517 e222 rfl ?_
                          obtain ⟨b225, e226, hh⟩ := q_bind hh
                          obtain ⟨p223, e224, hh⟩ := q_bind hh
                          refine r_cV (rest := [.int p215.2]) 521 21 11 [.int v219, .int v221] [.int p223.2, .int p215.2] jd_La_law_518 rfl e226 rfl rfl rfl rfl (q_s8 (Nat.le_of_ble_eq_true rfl)) (q_call_le (Nat.le_of_ble_eq_true rfl) (jm_Mo_stub e224)) rfl rfl ?_
                          rcases q_ite hh with ⟨c227, hh⟩ | ⟨c227, hh⟩
                          · refine r_ic_t 721 jd_La_law_521 rfl c227 ?_
                            refine r_iinc 724 3 [(3, .int (l3 + 5)), (0, va_rf l0), (1, va_rf l1), (2, va_rf l2)] 5 jd_La_law_721 rfl (by decide) (by decide) rfl rfl ?_
                            refine r_goto 28 jd_La_law_724 rfl ?_
                            refine q_sub [1, 2, 3, 0] rfl ?_
                            exact hrc _ _ _ _ _ hh
                          · refine r_ic_f 524 721 jd_La_law_521 rfl c227 rfl ?_
                            refine r_iconst 525 0 jd_La_law_524 (by decide) rfl ?_
                            cases hh
                            exact r_zret jd_La_law_525 rfl (by decide) ⟨rfl, rfl⟩
                        · rcases q_ite hh with ⟨c228, hh⟩ | ⟨c228, hh⟩
                          · refine r_sw 526 jd_La_law_42 (by rw [c228]; decide) (by rw [c228]; decide) (by rw [c228]; rfl) rfl ?_
                            refine r_aload_n 527 1 jd_La_law_526 rfl rfl ?_
                            refine r_aload_n 528 0 jd_La_law_527 rfl rfl ?_
                            refine r_iload_n 529 3 jd_La_law_528 rfl rfl ?_
                            refine r_iconst 530 1 jd_La_law_529 (by decide) rfl ?_
                            refine r_iadd 531 jd_La_law_530 rfl ?_
                            obtain ⟨v229, e230, hh⟩ := q_bind hh
                            refine r_ldS 532 jd_La_law_531 e230 rfl ?_
                            refine r_aload_n 533 0 jd_La_law_532 rfl rfl ?_
                            refine r_iload_n 534 3 jd_La_law_533 rfl rfl ?_
                            refine r_iconst 535 2 jd_La_law_534 (by decide) rfl ?_
                            refine r_iadd 536 jd_La_law_535 rfl ?_
                            obtain ⟨v231, e232, hh⟩ := q_bind hh
                            refine r_ldS 537 jd_La_law_536 e232 rfl ?_
                            obtain ⟨b235, e236, hh⟩ := q_bind hh
                            obtain ⟨p233, e234, hh⟩ := q_bind hh
                            refine r_cV (rest := []) 540 22 0 [.int v229, .int v231] [.long p233.2] jd_La_law_537 rfl e236 rfl rfl rfl rfl (q_s8 (Nat.le_of_ble_eq_true rfl)) (q_call_le (Nat.le_of_ble_eq_true rfl) (jm_Bc_recorded e234)) rfl rfl ?_
                            refine r_aload_n 541 2 jd_La_law_540 rfl rfl ?_
                            refine r_aload_n 542 0 jd_La_law_541 rfl rfl ?_
                            refine r_iload_n 543 3 jd_La_law_542 rfl rfl ?_
                            refine r_iconst 544 1 jd_La_law_543 (by decide) rfl ?_
                            refine r_iadd 545 jd_La_law_544 rfl ?_
                            obtain ⟨v237, e238, hh⟩ := q_bind hh
                            refine r_ldS 546 jd_La_law_545 e238 rfl ?_
                            refine r_aload_n 547 0 jd_La_law_546 rfl rfl ?_
                            refine r_iload_n 548 3 jd_La_law_547 rfl rfl ?_
                            refine r_iconst 549 2 jd_La_law_548 (by decide) rfl ?_
                            refine r_iadd 550 jd_La_law_549 rfl ?_
                            obtain ⟨v239, e240, hh⟩ := q_bind hh
                            refine r_ldS 551 jd_La_law_550 e240 rfl ?_
                            obtain ⟨b243, e244, hh⟩ := q_bind hh
                            obtain ⟨p241, e242, hh⟩ := q_bind hh
                            refine r_cV (rest := [.long p233.2]) 554 23 11 [.int v237, .int v239] [.long p241.2, .long p233.2] jd_La_law_551 rfl e244 rfl rfl rfl rfl (q_s8 (Nat.le_of_ble_eq_true rfl)) (q_call_le (Nat.le_of_ble_eq_true rfl) (jm_Mo_recorded e242)) rfl rfl ?_
                            refine r_lcmp 555 jd_La_law_554 rfl ?_
                            rcases q_ite hh with ⟨c245, hh⟩ | ⟨c245, hh⟩
                            · refine r_if_t 721 jd_La_law_555 rfl c245 ?_
                              refine r_iinc 724 3 [(3, .int (l3 + 5)), (0, va_rf l0), (1, va_rf l1), (2, va_rf l2)] 5 jd_La_law_721 rfl (by decide) (by decide) rfl rfl ?_
                              refine r_goto 28 jd_La_law_724 rfl ?_
                              refine q_sub [1, 2, 3, 0] rfl ?_
                              exact hrc _ _ _ _ _ hh
                            · refine r_if_f 558 721 jd_La_law_555 rfl c245 rfl ?_
                              refine r_iconst 559 0 jd_La_law_558 (by decide) rfl ?_
                              cases hh
                              exact r_zret jd_La_law_559 rfl (by decide) ⟨rfl, rfl⟩
                          · rcases q_ite hh with ⟨c246, hh⟩ | ⟨c246, hh⟩
                            · refine r_sw 560 jd_La_law_42 (by rw [c246]; decide) (by rw [c246]; decide) (by rw [c246]; rfl) rfl ?_
                              refine r_aload_n 561 1 jd_La_law_560 rfl rfl ?_
                              refine r_aload_n 562 0 jd_La_law_561 rfl rfl ?_
                              refine r_iload_n 563 3 jd_La_law_562 rfl rfl ?_
                              refine r_iconst 564 1 jd_La_law_563 (by decide) rfl ?_
                              refine r_iadd 565 jd_La_law_564 rfl ?_
                              obtain ⟨v247, e248, hh⟩ := q_bind hh
                              refine r_ldS 566 jd_La_law_565 e248 rfl ?_
                              obtain ⟨b251, e252, hh⟩ := q_bind hh
                              obtain ⟨p249, e250, hh⟩ := q_bind hh
                              refine r_cV (rest := []) 569 24 0 [.int v247] [.int p249.2] jd_La_law_566 rfl e252 rfl rfl rfl rfl (q_s8 (Nat.le_of_ble_eq_true rfl)) (q_call_le (Nat.le_of_ble_eq_true rfl) (jm_Bc_reset e250)) rfl rfl ?_
                              refine r_aload_n 570 2 jd_La_law_569 rfl rfl ?_
                              refine r_aload_n 571 0 jd_La_law_570 rfl rfl ?_
                              refine r_iload_n 572 3 jd_La_law_571 rfl rfl ?_
                              refine r_iconst 573 1 jd_La_law_572 (by decide) rfl ?_
                              refine r_iadd 574 jd_La_law_573 rfl ?_
                              obtain ⟨v253, e254, hh⟩ := q_bind hh
                              refine r_ldS 575 jd_La_law_574 e254 rfl ?_
                              obtain ⟨b257, e258, hh⟩ := q_bind hh
                              obtain ⟨p255, e256, hh⟩ := q_bind hh
                              refine r_cV (rest := [.int p249.2]) 578 25 11 [.int v253] [.int p255.2, .int p249.2] jd_La_law_575 rfl e258 rfl rfl rfl rfl (q_s8 (Nat.le_of_ble_eq_true rfl)) (q_call_le (Nat.le_of_ble_eq_true rfl) (jm_Mo_reset e256)) rfl rfl ?_
                              rcases q_ite hh with ⟨c259, hh⟩ | ⟨c259, hh⟩
                              · refine r_ic_t 721 jd_La_law_578 rfl c259 ?_
                                refine r_iinc 724 3 [(3, .int (l3 + 5)), (0, va_rf l0), (1, va_rf l1), (2, va_rf l2)] 5 jd_La_law_721 rfl (by decide) (by decide) rfl rfl ?_
                                refine r_goto 28 jd_La_law_724 rfl ?_
                                refine q_sub [1, 2, 3, 0] rfl ?_
                                exact hrc _ _ _ _ _ hh
                              · refine r_ic_f 581 721 jd_La_law_578 rfl c259 rfl ?_
                                refine r_iconst 582 0 jd_La_law_581 (by decide) rfl ?_
                                cases hh
                                exact r_zret jd_La_law_582 rfl (by decide) ⟨rfl, rfl⟩
                            · rcases q_ite hh with ⟨c260, hh⟩ | ⟨c260, hh⟩
                              · refine r_sw 583 jd_La_law_42 (by rw [c260]; decide) (by rw [c260]; decide) (by rw [c260]; rfl) rfl ?_
                                refine r_aload_n 584 1 jd_La_law_583 rfl rfl ?_
                                refine r_aload_n 585 0 jd_La_law_584 rfl rfl ?_
                                refine r_iload_n 586 3 jd_La_law_585 rfl rfl ?_
                                refine r_iconst 587 1 jd_La_law_586 (by decide) rfl ?_
                                refine r_iadd 588 jd_La_law_587 rfl ?_
                                obtain ⟨v261, e262, hh⟩ := q_bind hh
                                refine r_ldS 589 jd_La_law_588 e262 rfl ?_
                                refine r_aload_n 590 0 jd_La_law_589 rfl rfl ?_
                                refine r_iload_n 591 3 jd_La_law_590 rfl rfl ?_
                                refine r_iconst 592 2 jd_La_law_591 (by decide) rfl ?_
                                refine r_iadd 593 jd_La_law_592 rfl ?_
                                obtain ⟨v263, e264, hh⟩ := q_bind hh
                                refine r_ldS 594 jd_La_law_593 e264 rfl ?_
                                obtain ⟨b267, e268, hh⟩ := q_bind hh
                                obtain ⟨p265, e266, hh⟩ := q_bind hh
                                refine r_cV (rest := []) 597 26 0 [.int v261, .int v263] [.int p265.2] jd_La_law_594 rfl e268 rfl rfl rfl rfl (q_s8 (Nat.le_of_ble_eq_true rfl)) (q_call_le (Nat.le_of_ble_eq_true rfl) (jm_Bc_wired e266)) rfl rfl ?_
                                refine r_aload_n 598 2 jd_La_law_597 rfl rfl ?_
                                refine r_aload_n 599 0 jd_La_law_598 rfl rfl ?_
                                refine r_iload_n 600 3 jd_La_law_599 rfl rfl ?_
                                refine r_iconst 601 1 jd_La_law_600 (by decide) rfl ?_
                                refine r_iadd 602 jd_La_law_601 rfl ?_
                                obtain ⟨v269, e270, hh⟩ := q_bind hh
                                refine r_ldS 603 jd_La_law_602 e270 rfl ?_
                                refine r_aload_n 604 0 jd_La_law_603 rfl rfl ?_
                                refine r_iload_n 605 3 jd_La_law_604 rfl rfl ?_
                                refine r_iconst 606 2 jd_La_law_605 (by decide) rfl ?_
                                refine r_iadd 607 jd_La_law_606 rfl ?_
                                obtain ⟨v271, e272, hh⟩ := q_bind hh
                                refine r_ldS 608 jd_La_law_607 e272 rfl ?_
                                obtain ⟨b275, e276, hh⟩ := q_bind hh
                                obtain ⟨p273, e274, hh⟩ := q_bind hh
                                refine r_cV (rest := [.int p265.2]) 611 27 11 [.int v269, .int v271] [.int p273.2, .int p265.2] jd_La_law_608 rfl e276 rfl rfl rfl rfl (q_s8 (Nat.le_of_ble_eq_true rfl)) (q_call_le (Nat.le_of_ble_eq_true rfl) (jm_Mo_wired e274)) rfl rfl ?_
                                rcases q_ite hh with ⟨c277, hh⟩ | ⟨c277, hh⟩
                                · refine r_ic_t 721 jd_La_law_611 rfl c277 ?_
                                  refine r_iinc 724 3 [(3, .int (l3 + 5)), (0, va_rf l0), (1, va_rf l1), (2, va_rf l2)] 5 jd_La_law_721 rfl (by decide) (by decide) rfl rfl ?_
                                  refine r_goto 28 jd_La_law_724 rfl ?_
                                  refine q_sub [1, 2, 3, 0] rfl ?_
                                  exact hrc _ _ _ _ _ hh
                                · refine r_ic_f 614 721 jd_La_law_611 rfl c277 rfl ?_
                                  refine r_iconst 615 0 jd_La_law_614 (by decide) rfl ?_
                                  cases hh
                                  exact r_zret jd_La_law_615 rfl (by decide) ⟨rfl, rfl⟩
                              · rcases q_ite hh with ⟨c278, hh⟩ | ⟨c278, hh⟩
                                · refine r_sw 616 jd_La_law_42 (by rw [c278]; decide) (by rw [c278]; decide) (by rw [c278]; rfl) rfl ?_
                                  refine r_aload_n 617 1 jd_La_law_616 rfl rfl ?_
                                  refine r_aload_n 618 0 jd_La_law_617 rfl rfl ?_
                                  refine r_iload_n 619 3 jd_La_law_618 rfl rfl ?_
                                  refine r_iconst 620 1 jd_La_law_619 (by decide) rfl ?_
                                  refine r_iadd 621 jd_La_law_620 rfl ?_
                                  obtain ⟨v279, e280, hh⟩ := q_bind hh
                                  refine r_ldS 622 jd_La_law_621 e280 rfl ?_
                                  obtain ⟨b283, e284, hh⟩ := q_bind hh
                                  obtain ⟨p281, e282, hh⟩ := q_bind hh
                                  refine r_cV (rest := []) 625 28 0 [.int v279] [.int p281.2] jd_La_law_622 rfl e284 rfl rfl rfl rfl (q_s8 (Nat.le_of_ble_eq_true rfl)) (q_call_le (Nat.le_of_ble_eq_true rfl) (jm_Bc_definition e282)) rfl rfl ?_
                                  refine r_aload_n 626 2 jd_La_law_625 rfl rfl ?_
                                  refine r_aload_n 627 0 jd_La_law_626 rfl rfl ?_
                                  refine r_iload_n 628 3 jd_La_law_627 rfl rfl ?_
                                  refine r_iconst 629 1 jd_La_law_628 (by decide) rfl ?_
                                  refine r_iadd 630 jd_La_law_629 rfl ?_
                                  obtain ⟨v285, e286, hh⟩ := q_bind hh
                                  refine r_ldS 631 jd_La_law_630 e286 rfl ?_
                                  obtain ⟨b289, e290, hh⟩ := q_bind hh
                                  obtain ⟨p287, e288, hh⟩ := q_bind hh
                                  refine r_cV (rest := [.int p281.2]) 634 29 11 [.int v285] [.int p287.2, .int p281.2] jd_La_law_631 rfl e290 rfl rfl rfl rfl (q_s8 (Nat.le_of_ble_eq_true rfl)) (q_call_le (Nat.le_of_ble_eq_true rfl) (jm_Mo_definition e288)) rfl rfl ?_
                                  rcases q_ite hh with ⟨c291, hh⟩ | ⟨c291, hh⟩
                                  · refine r_ic_t 721 jd_La_law_634 rfl c291 ?_
                                    refine r_iinc 724 3 [(3, .int (l3 + 5)), (0, va_rf l0), (1, va_rf l1), (2, va_rf l2)] 5 jd_La_law_721 rfl (by decide) (by decide) rfl rfl ?_
                                    refine r_goto 28 jd_La_law_724 rfl ?_
                                    refine q_sub [1, 2, 3, 0] rfl ?_
                                    exact hrc _ _ _ _ _ hh
                                  · refine r_ic_f 637 721 jd_La_law_634 rfl c291 rfl ?_
                                    refine r_iconst 638 0 jd_La_law_637 (by decide) rfl ?_
                                    cases hh
                                    exact r_zret jd_La_law_638 rfl (by decide) ⟨rfl, rfl⟩
                                · rcases q_ite hh with ⟨c292, hh⟩ | ⟨c292, hh⟩
                                  · refine r_sw 639 jd_La_law_42 (by rw [c292]; decide) (by rw [c292]; decide) (by rw [c292]; rfl) rfl ?_
                                    refine r_aload_n 640 1 jd_La_law_639 rfl rfl ?_
                                    refine r_aload_n 641 0 jd_La_law_640 rfl rfl ?_
                                    refine r_iload_n 642 3 jd_La_law_641 rfl rfl ?_
                                    refine r_iconst 643 1 jd_La_law_642 (by decide) rfl ?_
                                    refine r_iadd 644 jd_La_law_643 rfl ?_
                                    obtain ⟨v293, e294, hh⟩ := q_bind hh
                                    refine r_ldS 645 jd_La_law_644 e294 rfl ?_
                                    obtain ⟨b297, e298, hh⟩ := q_bind hh
                                    obtain ⟨p295, e296, hh⟩ := q_bind hh
                                    refine r_cV (rest := []) 648 30 0 [.int v293] [.int p295.2] jd_La_law_645 rfl e298 rfl rfl rfl rfl (q_s8 (Nat.le_of_ble_eq_true rfl)) (q_call_le (Nat.le_of_ble_eq_true rfl) (jm_Bc_cached e296)) rfl rfl ?_
                                    refine r_aload_n 649 2 jd_La_law_648 rfl rfl ?_
                                    refine r_aload_n 650 0 jd_La_law_649 rfl rfl ?_
                                    refine r_iload_n 651 3 jd_La_law_650 rfl rfl ?_
                                    refine r_iconst 652 1 jd_La_law_651 (by decide) rfl ?_
                                    refine r_iadd 653 jd_La_law_652 rfl ?_
                                    obtain ⟨v299, e300, hh⟩ := q_bind hh
                                    refine r_ldS 654 jd_La_law_653 e300 rfl ?_
                                    obtain ⟨b303, e304, hh⟩ := q_bind hh
                                    obtain ⟨p301, e302, hh⟩ := q_bind hh
                                    refine r_cV (rest := [.int p295.2]) 657 31 11 [.int v299] [.int p301.2, .int p295.2] jd_La_law_654 rfl e304 rfl rfl rfl rfl (q_s8 (Nat.le_of_ble_eq_true rfl)) (q_call_le (Nat.le_of_ble_eq_true rfl) (jm_Mo_cached e302)) rfl rfl ?_
                                    rcases q_ite hh with ⟨c305, hh⟩ | ⟨c305, hh⟩
                                    · refine r_ic_t 721 jd_La_law_657 rfl c305 ?_
                                      refine r_iinc 724 3 [(3, .int (l3 + 5)), (0, va_rf l0), (1, va_rf l1), (2, va_rf l2)] 5 jd_La_law_721 rfl (by decide) (by decide) rfl rfl ?_
                                      refine r_goto 28 jd_La_law_724 rfl ?_
                                      refine q_sub [1, 2, 3, 0] rfl ?_
                                      exact hrc _ _ _ _ _ hh
                                    · refine r_ic_f 660 721 jd_La_law_657 rfl c305 rfl ?_
                                      refine r_iconst 661 0 jd_La_law_660 (by decide) rfl ?_
                                      cases hh
                                      exact r_zret jd_La_law_661 rfl (by decide) ⟨rfl, rfl⟩
                                  · rcases q_ite hh with ⟨c306, hh⟩ | ⟨c306, hh⟩
                                    · refine r_sw 662 jd_La_law_42 (by rw [c306]; decide) (by rw [c306]; decide) (by rw [c306]; rfl) rfl ?_
                                      refine r_aload_n 663 1 jd_La_law_662 rfl rfl ?_
                                      refine r_aload_n 664 0 jd_La_law_663 rfl rfl ?_
                                      refine r_iload_n 665 3 jd_La_law_664 rfl rfl ?_
                                      refine r_iconst 666 1 jd_La_law_665 (by decide) rfl ?_
                                      refine r_iadd 667 jd_La_law_666 rfl ?_
                                      obtain ⟨v307, e308, hh⟩ := q_bind hh
                                      refine r_ldS 668 jd_La_law_667 e308 rfl ?_
                                      obtain ⟨b311, e312, hh⟩ := q_bind hh
                                      obtain ⟨p309, e310, hh⟩ := q_bind hh
                                      refine r_cV (rest := []) 671 32 0 [.int v307] [.int p309.2] jd_La_law_668 rfl e312 rfl rfl rfl rfl (q_s8 (Nat.le_of_ble_eq_true rfl)) (q_call_le (Nat.le_of_ble_eq_true rfl) (jm_Bc_failures e310)) rfl rfl ?_
                                      refine r_aload_n 672 2 jd_La_law_671 rfl rfl ?_
                                      refine r_aload_n 673 0 jd_La_law_672 rfl rfl ?_
                                      refine r_iload_n 674 3 jd_La_law_673 rfl rfl ?_
                                      refine r_iconst 675 1 jd_La_law_674 (by decide) rfl ?_
                                      refine r_iadd 676 jd_La_law_675 rfl ?_
                                      obtain ⟨v313, e314, hh⟩ := q_bind hh
                                      refine r_ldS 677 jd_La_law_676 e314 rfl ?_
                                      obtain ⟨b317, e318, hh⟩ := q_bind hh
                                      obtain ⟨p315, e316, hh⟩ := q_bind hh
                                      refine r_cV (rest := [.int p309.2]) 680 33 11 [.int v313] [.int p315.2, .int p309.2] jd_La_law_677 rfl e318 rfl rfl rfl rfl (q_s8 (Nat.le_of_ble_eq_true rfl)) (q_call_le (Nat.le_of_ble_eq_true rfl) (jm_Mo_failures e316)) rfl rfl ?_
                                      rcases q_ite hh with ⟨c319, hh⟩ | ⟨c319, hh⟩
                                      · refine r_ic_t 721 jd_La_law_680 rfl c319 ?_
                                        refine r_iinc 724 3 [(3, .int (l3 + 5)), (0, va_rf l0), (1, va_rf l1), (2, va_rf l2)] 5 jd_La_law_721 rfl (by decide) (by decide) rfl rfl ?_
                                        refine r_goto 28 jd_La_law_724 rfl ?_
                                        refine q_sub [1, 2, 3, 0] rfl ?_
                                        exact hrc _ _ _ _ _ hh
                                      · refine r_ic_f 683 721 jd_La_law_680 rfl c319 rfl ?_
                                        refine r_iconst 684 0 jd_La_law_683 (by decide) rfl ?_
                                        cases hh
                                        exact r_zret jd_La_law_684 rfl (by decide) ⟨rfl, rfl⟩
                                    · rcases q_ite hh with ⟨c320, hh⟩ | ⟨c320, hh⟩
                                      · refine r_sw 685 jd_La_law_42 (by rw [c320]; decide) (by rw [c320]; decide) (by rw [c320]; rfl) rfl ?_
                                        refine r_aload_n 686 1 jd_La_law_685 rfl rfl ?_
                                        obtain ⟨b323, e324, hh⟩ := q_bind hh
                                        obtain ⟨p321, e322, hh⟩ := q_bind hh
                                        refine r_cV (rest := []) 689 34 0 [] [.int p321.2] jd_La_law_686 rfl e324 rfl rfl rfl rfl (q_s8 (Nat.le_of_ble_eq_true rfl)) (q_call_le (Nat.le_of_ble_eq_true rfl) (jm_Bc_events e322)) rfl rfl ?_
                                        refine r_aload_n 690 2 jd_La_law_689 rfl rfl ?_
                                        obtain ⟨b327, e328, hh⟩ := q_bind hh
                                        obtain ⟨p325, e326, hh⟩ := q_bind hh
                                        refine r_cV (rest := [.int p321.2]) 693 35 11 [] [.int p325.2, .int p321.2] jd_La_law_690 rfl e328 rfl rfl rfl rfl (q_s8 (Nat.le_of_ble_eq_true rfl)) (q_call_le (Nat.le_of_ble_eq_true rfl) (jm_Mo_events e326)) rfl rfl ?_
                                        rcases q_ite hh with ⟨c329, hh⟩ | ⟨c329, hh⟩
                                        · refine r_ic_t 721 jd_La_law_693 rfl c329 ?_
                                          refine r_iinc 724 3 [(3, .int (l3 + 5)), (0, va_rf l0), (1, va_rf l1), (2, va_rf l2)] 5 jd_La_law_721 rfl (by decide) (by decide) rfl rfl ?_
                                          refine r_goto 28 jd_La_law_724 rfl ?_
                                          refine q_sub [1, 2, 3, 0] rfl ?_
                                          exact hrc _ _ _ _ _ hh
                                        · refine r_ic_f 696 721 jd_La_law_693 rfl c329 rfl ?_
                                          refine r_iconst 697 0 jd_La_law_696 (by decide) rfl ?_
                                          cases hh
                                          exact r_zret jd_La_law_697 rfl (by decide) ⟨rfl, rfl⟩
                                      · rcases q_ite hh with ⟨c330, hh⟩ | ⟨c330, hh⟩
                                        · refine r_sw 698 jd_La_law_42 (by rw [c330]; decide) (by rw [c330]; decide) (by rw [c330]; rfl) rfl ?_
                                          refine r_aload_n 699 1 jd_La_law_698 rfl rfl ?_
                                          refine r_aload_n 700 0 jd_La_law_699 rfl rfl ?_
                                          refine r_iload_n 701 3 jd_La_law_700 rfl rfl ?_
                                          refine r_iconst 702 1 jd_La_law_701 (by decide) rfl ?_
                                          refine r_iadd 703 jd_La_law_702 rfl ?_
                                          obtain ⟨v331, e332, hh⟩ := q_bind hh
                                          refine r_ldS 704 jd_La_law_703 e332 rfl ?_
                                          obtain ⟨b335, e336, hh⟩ := q_bind hh
                                          obtain ⟨p333, e334, hh⟩ := q_bind hh
                                          refine r_cV (rest := []) 707 36 0 [.int v331] [.int p333.2] jd_La_law_704 rfl e336 rfl rfl rfl rfl (q_s8 (Nat.le_of_ble_eq_true rfl)) (q_call_le (Nat.le_of_ble_eq_true rfl) (jm_Bc_event e334)) rfl rfl ?_
                                          refine r_aload_n 708 2 jd_La_law_707 rfl rfl ?_
                                          refine r_aload_n 709 0 jd_La_law_708 rfl rfl ?_
                                          refine r_iload_n 710 3 jd_La_law_709 rfl rfl ?_
                                          refine r_iconst 711 1 jd_La_law_710 (by decide) rfl ?_
                                          refine r_iadd 712 jd_La_law_711 rfl ?_
                                          obtain ⟨v337, e338, hh⟩ := q_bind hh
                                          refine r_ldS 713 jd_La_law_712 e338 rfl ?_
                                          obtain ⟨b341, e342, hh⟩ := q_bind hh
                                          obtain ⟨p339, e340, hh⟩ := q_bind hh
                                          refine r_cV (rest := [.int p333.2]) 716 37 11 [.int v337] [.int p339.2, .int p333.2] jd_La_law_713 rfl e342 rfl rfl rfl rfl (q_s8 (Nat.le_of_ble_eq_true rfl)) (q_call_le (Nat.le_of_ble_eq_true rfl) (jm_Mo_event e340)) rfl rfl ?_
                                          rcases q_ite hh with ⟨c343, hh⟩ | ⟨c343, hh⟩
                                          · refine r_ic_t 721 jd_La_law_716 rfl c343 ?_
                                            refine r_iinc 724 3 [(3, .int (l3 + 5)), (0, va_rf l0), (1, va_rf l1), (2, va_rf l2)] 5 jd_La_law_721 rfl (by decide) (by decide) rfl rfl ?_
                                            refine r_goto 28 jd_La_law_724 rfl ?_
                                            refine q_sub [1, 2, 3, 0] rfl ?_
                                            exact hrc _ _ _ _ _ hh
                                          · refine r_ic_f 719 721 jd_La_law_716 rfl c343 rfl ?_
                                            refine r_iconst 720 0 jd_La_law_719 (by decide) rfl ?_
                                            cases hh
                                            exact r_zret jd_La_law_720 rfl (by decide) ⟨rfl, rfl⟩
                                        · refine r_swD 721 jd_La_law_42 (q_sw_out c18 c36 c62 c88 c114 c128 c142 c156 c166 c192 c210 c228 c246 c260 c278 c292 c306 c320 c330) rfl ?_
                                          refine r_iinc 724 3 [(3, .int (l3 + 5)), (0, va_rf l0), (1, va_rf l1), (2, va_rf l2)] 5 jd_La_law_721 rfl (by decide) (by decide) rfl rfl ?_
                                          refine r_goto 28 jd_La_law_724 rfl ?_
                                          refine q_sub [1, 2, 3, 0] rfl ?_
                                          exact hrc _ _ _ _ _ hh
theorem jm_La_law_L28 {p : q_S × Int32} : ∀ (n : Nat) (x : q_S) (l0 : Option Nat) (l1 : Option Nat) (l2 : Option Nat) (l3 : Int32), jf_La_law_L28 n x l0 l1 l2 l3 = some p → q_X (q_call 137) (fun y o => y = p.1 ∧ o = some (.int p.2)) jq_La_law 28 [(0, va_rf l0), (1, va_rf l1), (2, va_rf l2), (3, .int l3)] [] x
  | 0, _, _, _, _, _, hh => nomatch hh
  | n + 1, x, l0, l1, l2, l3, hh => jm_La_law_B28 (jm_La_law_L28 n) x l0 l1 l2 l3 hh
def jf_La_law (x : q_S) (a0 : Option Nat) : Option (q_S × Int32) :=
  (q_nO x 0 jdv_0).bind fun x1 =>
  (jf_La_cell x1 a0 0).bind fun p3 =>
  (jf_Bc_init p3.1 (q_sz x) p3.2).bind fun p5 =>
  (q_nO p5.1 11 jdv_11).bind fun x7 =>
  (jf_La_cell x7 a0 0).bind fun p9 =>
  (jf_Mo_init p9.1 (q_sz p5.1) p9.2).bind fun p11 =>
  jf_La_law_L28 lpK p11.1 a0 (some (q_sz x)) (some (q_sz p5.1)) 1
theorem jm_La_law {x : q_S} {a0 : Option Nat} {p : q_S × Int32} (hh : jf_La_law x a0 = some p) : q_X (q_call 137) (fun y o => y = p.1 ∧ o = some (.int p.2)) jq_La_law 0 [(0, va_rf a0)] [] x := by
  unfold jf_La_law at hh
  obtain ⟨x1, e2, hh⟩ := q_bind hh
  refine r_new 3 0 jd_La_law_0 rfl e2 rfl ?_
  refine r_dupR 4 jd_La_law_3 rfl ?_
  refine r_aload_n 5 0 jd_La_law_4 rfl rfl ?_
  refine r_iconst 6 0 jd_La_law_5 (by decide) rfl ?_
  obtain ⟨p3, e4, hh⟩ := q_bind hh
  refine r_cS (rest := [va_rf (some (q_sz x)), va_rf (some (q_sz x))]) 9 0 [va_rf a0, .int 0] [.int p3.2, va_rf (some (q_sz x)), va_rf (some (q_sz x))] jd_La_law_6 rfl rfl rfl (q_s8 (Nat.le_of_ble_eq_true rfl)) (q_call_le (Nat.le_of_ble_eq_true rfl) (jm_La_cell e4)) rfl rfl ?_
  obtain ⟨p5, e6, hh⟩ := q_bind hh
  refine r_cI (rest := [va_rf (some (q_sz x))]) 12 0 [.int p3.2] [va_rf (some (q_sz x))] jd_La_law_9 rfl rfl rfl (q_s8 (Nat.le_of_ble_eq_true rfl)) (q_call_le (Nat.le_of_ble_eq_true rfl) (jm_Bc_init e6)) rfl rfl ?_
  refine r_astore_n 13 [(1, va_rf (some (q_sz x))), (0, va_rf a0)] jd_La_law_12 (by decide) rfl rfl ?_
  obtain ⟨x7, e8, hh⟩ := q_bind hh
  refine r_new 16 1 jd_La_law_13 rfl e8 rfl ?_
  refine r_dupR 17 jd_La_law_16 rfl ?_
  refine r_aload_n 18 1 jd_La_law_17 rfl rfl ?_
  refine r_iconst 19 0 jd_La_law_18 (by decide) rfl ?_
  obtain ⟨p9, e10, hh⟩ := q_bind hh
  refine r_cS (rest := [va_rf (some (q_sz p5.1)), va_rf (some (q_sz p5.1))]) 22 0 [va_rf a0, .int 0] [.int p9.2, va_rf (some (q_sz p5.1)), va_rf (some (q_sz p5.1))] jd_La_law_19 rfl rfl rfl (q_s8 (Nat.le_of_ble_eq_true rfl)) (q_call_le (Nat.le_of_ble_eq_true rfl) (jm_La_cell e10)) rfl rfl ?_
  obtain ⟨p11, e12, hh⟩ := q_bind hh
  refine r_cI (rest := [va_rf (some (q_sz p5.1))]) 25 1 [.int p9.2] [va_rf (some (q_sz p5.1))] jd_La_law_22 rfl rfl rfl (q_s8 (Nat.le_of_ble_eq_true rfl)) (q_call_le (Nat.le_of_ble_eq_true rfl) (jm_Mo_init e12)) rfl rfl ?_
  refine r_astore_n 26 [(2, va_rf (some (q_sz p5.1))), (1, va_rf (some (q_sz x))), (0, va_rf a0)] jd_La_law_25 (by decide) rfl rfl ?_
  refine r_iconst 27 1 jd_La_law_26 (by decide) rfl ?_
  refine r_istore_n 28 [(3, .int 1), (2, va_rf (some (q_sz p5.1))), (1, va_rf (some (q_sz x))), (0, va_rf a0)] jd_La_law_27 (by decide) rfl rfl ?_
  refine q_sub [3, 2, 1, 0] rfl ?_
  exact jm_La_law_L28 lpK _ _ _ _ _ hh

def f_L_law_L104 (L : Nat) (xs : Nat → Int32) : Nat → Int32 → fm_M → Option (Bool × fm_M)
  | 0, _, _ => none
  | n + 1, y2, m => if (30 : Int32) ≤ y2 then (some (true, m)) else ((f_L_cell L xs y2 m).bind fun v17 => (f_L_mark m).bind fun v19 => (f_L_account (16 : Int32) m).bind fun v21 => (f_L_acts v17 m).bind fun v23 => if 0 ≤ (lg_cmp v23.1 (0 : Int64)) then ((f_L_account (15 : Int32) v23.2).bind fun v26 => if (lg_cmp v26 (0 : Int64)) = 0 then (if (lg_cmp v23.1 (0 : Int64)) < 0 then (if (y2 - y2 / (5 : Int32) * (5 : Int32)) = 0 then ((f_L_mark v23.2).bind fun v35 => (f_L_save v23.2).bind fun v37 => (f_L_account (2 : Int32) v37.2).bind fun v39 => if (lg_cmp v37.1 v39) = 0 then ((f_L_acts (v17 + (1 : Int32)) v37.2).bind fun v42 => (f_L_restore v42.2).bind fun v44 => (f_L_account (2 : Int32) v44.2).bind fun v46 => if (lg_cmp v44.1 v46) = 0 then ((f_L_mark v44.2).bind fun v49 => if (lg_cmp v49 v35) = 0 then ((f_L_undo v44.2).bind fun v52 => if (lg_cmp v52.1 (-15 : Int64)) = 0 then (if (y2 - y2 / (4 : Int32) * (4 : Int32)) = (1 : Int32) then ((f_L_fits (v17 >>> ((3 : Int32) &&& 31)) v52.2).bind fun v56 => if v56.1 = true then (f_L_law_L104 L xs n (y2 + (1 : Int32)) v56.2) else (some (false, v56.2))) else (f_L_law_L104 L xs n (y2 + (1 : Int32)) v52.2)) else (some (false, v52.2))) else (some (false, v44.2))) else (some (false, v44.2))) else (some (false, v37.2))) else (if (y2 - y2 / (4 : Int32) * (4 : Int32)) = (1 : Int32) then ((f_L_fits (v17 >>> ((3 : Int32) &&& 31)) v23.2).bind fun v32 => if v32.1 = true then (f_L_law_L104 L xs n (y2 + (1 : Int32)) v32.2) else (some (false, v32.2))) else (f_L_law_L104 L xs n (y2 + (1 : Int32)) v23.2))) else (if (y2 - y2 / (3 : Int32) * (3 : Int32)) = 0 then ((f_L_undo v23.2).bind fun v89 => if (lg_cmp v89.1 (if (7 : Int64) < v21 then (7 : Int64) else v21)) = 0 then ((f_L_mark v89.2).bind fun v92 => if (lg_cmp v92 v19) = 0 then ((f_L_acts v17 v89.2).bind fun v95 => if (y2 - y2 / (5 : Int32) * (5 : Int32)) = 0 then ((f_L_mark v95.2).bind fun v102 => (f_L_save v95.2).bind fun v104 => (f_L_account (2 : Int32) v104.2).bind fun v106 => if (lg_cmp v104.1 v106) = 0 then ((f_L_acts (v17 + (1 : Int32)) v104.2).bind fun v109 => (f_L_restore v109.2).bind fun v111 => (f_L_account (2 : Int32) v111.2).bind fun v113 => if (lg_cmp v111.1 v113) = 0 then ((f_L_mark v111.2).bind fun v116 => if (lg_cmp v116 v102) = 0 then ((f_L_undo v111.2).bind fun v119 => if (lg_cmp v119.1 (-15 : Int64)) = 0 then (if (y2 - y2 / (4 : Int32) * (4 : Int32)) = (1 : Int32) then ((f_L_fits (v17 >>> ((3 : Int32) &&& 31)) v119.2).bind fun v123 => if v123.1 = true then (f_L_law_L104 L xs n (y2 + (1 : Int32)) v123.2) else (some (false, v123.2))) else (f_L_law_L104 L xs n (y2 + (1 : Int32)) v119.2)) else (some (false, v119.2))) else (some (false, v111.2))) else (some (false, v111.2))) else (some (false, v104.2))) else (if (y2 - y2 / (4 : Int32) * (4 : Int32)) = (1 : Int32) then ((f_L_fits (v17 >>> ((3 : Int32) &&& 31)) v95.2).bind fun v99 => if v99.1 = true then (f_L_law_L104 L xs n (y2 + (1 : Int32)) v99.2) else (some (false, v99.2))) else (f_L_law_L104 L xs n (y2 + (1 : Int32)) v95.2))) else (some (false, v89.2))) else (some (false, v89.2))) else (if (y2 - y2 / (5 : Int32) * (5 : Int32)) = 0 then ((f_L_mark v23.2).bind fun v65 => (f_L_save v23.2).bind fun v67 => (f_L_account (2 : Int32) v67.2).bind fun v69 => if (lg_cmp v67.1 v69) = 0 then ((f_L_acts (v17 + (1 : Int32)) v67.2).bind fun v72 => (f_L_restore v72.2).bind fun v74 => (f_L_account (2 : Int32) v74.2).bind fun v76 => if (lg_cmp v74.1 v76) = 0 then ((f_L_mark v74.2).bind fun v79 => if (lg_cmp v79 v65) = 0 then ((f_L_undo v74.2).bind fun v82 => if (lg_cmp v82.1 (-15 : Int64)) = 0 then (if (y2 - y2 / (4 : Int32) * (4 : Int32)) = (1 : Int32) then ((f_L_fits (v17 >>> ((3 : Int32) &&& 31)) v82.2).bind fun v86 => if v86.1 = true then (f_L_law_L104 L xs n (y2 + (1 : Int32)) v86.2) else (some (false, v86.2))) else (f_L_law_L104 L xs n (y2 + (1 : Int32)) v82.2)) else (some (false, v82.2))) else (some (false, v74.2))) else (some (false, v74.2))) else (some (false, v67.2))) else (if (y2 - y2 / (4 : Int32) * (4 : Int32)) = (1 : Int32) then ((f_L_fits (v17 >>> ((3 : Int32) &&& 31)) v23.2).bind fun v62 => if v62.1 = true then (f_L_law_L104 L xs n (y2 + (1 : Int32)) v62.2) else (some (false, v62.2))) else (f_L_law_L104 L xs n (y2 + (1 : Int32)) v23.2))))) else (some (false, v23.2))) else ((f_L_mark v23.2).bind fun v126 => if (lg_cmp v126 v19) = 0 then ((f_L_account (15 : Int32) v23.2).bind fun v129 => if (lg_cmp v129 (0 : Int64)) = 0 then (if (lg_cmp v23.1 (0 : Int64)) < 0 then (if (y2 - y2 / (5 : Int32) * (5 : Int32)) = 0 then ((f_L_mark v23.2).bind fun v138 => (f_L_save v23.2).bind fun v140 => (f_L_account (2 : Int32) v140.2).bind fun v142 => if (lg_cmp v140.1 v142) = 0 then ((f_L_acts (v17 + (1 : Int32)) v140.2).bind fun v145 => (f_L_restore v145.2).bind fun v147 => (f_L_account (2 : Int32) v147.2).bind fun v149 => if (lg_cmp v147.1 v149) = 0 then ((f_L_mark v147.2).bind fun v152 => if (lg_cmp v152 v138) = 0 then ((f_L_undo v147.2).bind fun v155 => if (lg_cmp v155.1 (-15 : Int64)) = 0 then (if (y2 - y2 / (4 : Int32) * (4 : Int32)) = (1 : Int32) then ((f_L_fits (v17 >>> ((3 : Int32) &&& 31)) v155.2).bind fun v159 => if v159.1 = true then (f_L_law_L104 L xs n (y2 + (1 : Int32)) v159.2) else (some (false, v159.2))) else (f_L_law_L104 L xs n (y2 + (1 : Int32)) v155.2)) else (some (false, v155.2))) else (some (false, v147.2))) else (some (false, v147.2))) else (some (false, v140.2))) else (if (y2 - y2 / (4 : Int32) * (4 : Int32)) = (1 : Int32) then ((f_L_fits (v17 >>> ((3 : Int32) &&& 31)) v23.2).bind fun v135 => if v135.1 = true then (f_L_law_L104 L xs n (y2 + (1 : Int32)) v135.2) else (some (false, v135.2))) else (f_L_law_L104 L xs n (y2 + (1 : Int32)) v23.2))) else (if (y2 - y2 / (3 : Int32) * (3 : Int32)) = 0 then ((f_L_undo v23.2).bind fun v192 => if (lg_cmp v192.1 (if (7 : Int64) < v21 then (7 : Int64) else v21)) = 0 then ((f_L_mark v192.2).bind fun v195 => if (lg_cmp v195 v19) = 0 then ((f_L_acts v17 v192.2).bind fun v198 => if (y2 - y2 / (5 : Int32) * (5 : Int32)) = 0 then ((f_L_mark v198.2).bind fun v205 => (f_L_save v198.2).bind fun v207 => (f_L_account (2 : Int32) v207.2).bind fun v209 => if (lg_cmp v207.1 v209) = 0 then ((f_L_acts (v17 + (1 : Int32)) v207.2).bind fun v212 => (f_L_restore v212.2).bind fun v214 => (f_L_account (2 : Int32) v214.2).bind fun v216 => if (lg_cmp v214.1 v216) = 0 then ((f_L_mark v214.2).bind fun v219 => if (lg_cmp v219 v205) = 0 then ((f_L_undo v214.2).bind fun v222 => if (lg_cmp v222.1 (-15 : Int64)) = 0 then (if (y2 - y2 / (4 : Int32) * (4 : Int32)) = (1 : Int32) then ((f_L_fits (v17 >>> ((3 : Int32) &&& 31)) v222.2).bind fun v226 => if v226.1 = true then (f_L_law_L104 L xs n (y2 + (1 : Int32)) v226.2) else (some (false, v226.2))) else (f_L_law_L104 L xs n (y2 + (1 : Int32)) v222.2)) else (some (false, v222.2))) else (some (false, v214.2))) else (some (false, v214.2))) else (some (false, v207.2))) else (if (y2 - y2 / (4 : Int32) * (4 : Int32)) = (1 : Int32) then ((f_L_fits (v17 >>> ((3 : Int32) &&& 31)) v198.2).bind fun v202 => if v202.1 = true then (f_L_law_L104 L xs n (y2 + (1 : Int32)) v202.2) else (some (false, v202.2))) else (f_L_law_L104 L xs n (y2 + (1 : Int32)) v198.2))) else (some (false, v192.2))) else (some (false, v192.2))) else (if (y2 - y2 / (5 : Int32) * (5 : Int32)) = 0 then ((f_L_mark v23.2).bind fun v168 => (f_L_save v23.2).bind fun v170 => (f_L_account (2 : Int32) v170.2).bind fun v172 => if (lg_cmp v170.1 v172) = 0 then ((f_L_acts (v17 + (1 : Int32)) v170.2).bind fun v175 => (f_L_restore v175.2).bind fun v177 => (f_L_account (2 : Int32) v177.2).bind fun v179 => if (lg_cmp v177.1 v179) = 0 then ((f_L_mark v177.2).bind fun v182 => if (lg_cmp v182 v168) = 0 then ((f_L_undo v177.2).bind fun v185 => if (lg_cmp v185.1 (-15 : Int64)) = 0 then (if (y2 - y2 / (4 : Int32) * (4 : Int32)) = (1 : Int32) then ((f_L_fits (v17 >>> ((3 : Int32) &&& 31)) v185.2).bind fun v189 => if v189.1 = true then (f_L_law_L104 L xs n (y2 + (1 : Int32)) v189.2) else (some (false, v189.2))) else (f_L_law_L104 L xs n (y2 + (1 : Int32)) v185.2)) else (some (false, v185.2))) else (some (false, v177.2))) else (some (false, v177.2))) else (some (false, v170.2))) else (if (y2 - y2 / (4 : Int32) * (4 : Int32)) = (1 : Int32) then ((f_L_fits (v17 >>> ((3 : Int32) &&& 31)) v23.2).bind fun v165 => if v165.1 = true then (f_L_law_L104 L xs n (y2 + (1 : Int32)) v165.2) else (some (false, v165.2))) else (f_L_law_L104 L xs n (y2 + (1 : Int32)) v23.2))))) else (some (false, v23.2))) else (some (false, v23.2))))
def f_L_law_L10 (L : Nat) (xs : Nat → Int32) : Nat → Int32 → fm_M → Option (Bool × fm_M)
  | 0, _, _ => none
  | n + 1, y2, m => if (6 : Int32) ≤ y2 then ((f_L_choose (0 : Int32) m).bind fun v2 => (f_L_choose (1 : Int32) v2.2).bind fun v4 => (f_L_cell L xs (2 : Int32) v4.2).bind fun v6 => (f_L_pick v6 (20 : Int32) v4.2).bind fun v8 => (f_L_cell L xs (2 : Int32) v4.2).bind fun v10 => (f_L_pick (v10 >>> ((5 : Int32) &&& 31)) (9 : Int32) v4.2).bind fun v12 => (f_L_feast v8 ((1 : Int32) + v12) v4.2).bind fun v14 => f_L_law_L104 L xs fm_F (3 : Int32) v14.2) else ((f_L_cell L xs (0 : Int32) m).bind fun v229 => (f_L_pick (v229 >>> (y2 &&& 31)) (41 : Int32) m).bind fun v231 => (f_L_cell L xs (1 : Int32) m).bind fun v233 => (f_L_pick (v233 >>> (y2 &&& 31)) (2 : Int32) m).bind fun v235 => if v235 = 0 then ((f_L_come ((50 : Int32) + v231) (1 : Int32) m).bind fun v240 => f_L_law_L10 L xs n (y2 + (1 : Int32)) v240.2) else ((f_L_come ((50 : Int32) + v231) (0 : Int32) m).bind fun v238 => f_L_law_L10 L xs n (y2 + (1 : Int32)) v238.2))
def f_L_law (L : Nat) (xs : Nat → Int32) (m : fm_M) : Option (Bool × fm_M) :=
  f_L_law_L10 L xs fm_F (0 : Int32) m
set_option maxRecDepth 100000 in
set_option maxHeartbeats 4000000 in
theorem c_L_law_L104 {L : Nat} {xs : Nat → Int32} {X : List fm_L} : ∀ (n : Nat) (y2 : Int32) (m : fm_M) (res : Bool × fm_M), f_L_law_L104 L xs n y2 m = some res → fl_Go L xs (fm_layH ++ X) 11 m_L_law (fun v _ => v = some (.int (fm_b res.1))) 104 [some (.ref 4000), some (.ref 0), some (.int y2), none, none, none, none, none, none, none, none, none] [] m := by
  intro n
  induction n with
  | zero => intro y2 m res h; cases h
  | succ n ih =>
    intro y2 m res h
    rw [f_L_law_L104] at h
    refine lo_iload_n (pc := 104) dL_law_104 rfl rfl ?_
    refine lo_bipush (pc := 105) (v := (30 : Int32)) dL_law_105 (by decide) ?_
    refine lo_icmp_ge (pc := 107) (tgt := 310) dL_law_107 (by decide) (fun c16 => ?_) (fun c16 => ?_)
    · rw [if_pos c16] at h
      refine lo_iconst (pc := 310) (v := (1 : Int32)) dL_law_310 (by decide) ?_
      obtain rfl := Option.some.inj h
      exact lo_iret (pc := 311) .boolean dL_law_311 rfl rfl rfl
    · rw [if_neg c16] at h
      refine lo_aload_n (pc := 110) dL_law_110 rfl rfl ?_
      refine lo_iload_n (pc := 111) dL_law_111 rfl rfl ?_
      obtain ⟨v17, hv18, h⟩ := fm_bind h
      refine lo_callSi (pc := 112) (As := [.ref 4000, .int y2]) (st := []) dL_law_112 (c_L_cell  _ _ hv18) (by decide) (Nat.le_of_ble_eq_true rfl) ce_L_cell ml_L_235 st_L_cell rfl (Nat.le_of_ble_eq_true rfl) rfl ?_
      refine lo_istore_n (pc := 115) (ls1 := [some (.ref 4000), some (.ref 0), some (.int y2), some (.int v17), none, none, none, none, none, none, none, none]) dL_law_115 rfl (by decide) rfl rfl ?_
      refine lo_aload_n (pc := 116) dL_law_116 rfl rfl ?_
      obtain ⟨v19, hv20, h⟩ := fm_bind h
      refine lo_callSj (pc := 117) (As := [.ref 0]) (st := []) dL_law_117 (c_L_mark  _ hv20) (by decide) (Nat.le_of_ble_eq_true rfl) ce_L_mark ml_L_203 st_L_mark rfl (Nat.le_of_ble_eq_true rfl) rfl ?_
      refine lo_lstore (pc := 120) (ls1 := [some (.ref 4000), some (.ref 0), some (.int y2), some (.int v17), some (.long v19), none, none, none, none, none, none, none]) dL_law_120 (by decide) rfl rfl ?_
      refine lo_aload_n (pc := 122) dL_law_122 rfl rfl ?_
      refine lo_bipush (pc := 123) (v := (16 : Int32)) dL_law_123 (by decide) ?_
      obtain ⟨v21, hv22, h⟩ := fm_bind h
      refine lo_callSj (pc := 125) (As := [.ref 0, .int (16 : Int32)]) (st := []) dL_law_125 (c_L_account  _ _ hv22) (by decide) (Nat.le_of_ble_eq_true rfl) ce_L_account ml_L_155 st_L_account rfl (Nat.le_of_ble_eq_true rfl) rfl ?_
      refine lo_lstore (pc := 128) (ls1 := [some (.ref 4000), some (.ref 0), some (.int y2), some (.int v17), some (.long v19), none, some (.long v21), none, none, none, none, none]) dL_law_128 (by decide) rfl rfl ?_
      refine lo_aload_n (pc := 130) dL_law_130 rfl rfl ?_
      refine lo_iload_n (pc := 131) dL_law_131 rfl rfl ?_
      obtain ⟨v23, hv24, h⟩ := fm_bind h
      refine lo_callSj (pc := 132) (As := [.ref 0, .int v17]) (st := []) dL_law_132 (c_L_acts  _ _ hv24) (by decide) (Nat.le_of_ble_eq_true rfl) ce_L_acts ml_L_239 st_L_acts rfl (Nat.le_of_ble_eq_true rfl) rfl ?_
      refine lo_lstore (pc := 135) (ls1 := [some (.ref 4000), some (.ref 0), some (.int y2), some (.int v17), some (.long v19), none, some (.long v21), none, some (.long v23.1), none, none, none]) dL_law_135 (by decide) rfl rfl ?_
      refine lo_lload (pc := 137) dL_law_137 rfl ?_
      refine lo_lconst (pc := 139) (v := (0 : Int64)) dL_law_139 rfl ?_
      refine lo_lcmp (pc := 140) dL_law_140 ?_
      refine lo_if_ge (pc := 141) (tgt := 154) dL_law_141 (by decide) (fun c25 => ?_) (fun c25 => ?_)
      · rw [if_pos c25] at h
        refine lo_aload_n (pc := 154) dL_law_154 rfl rfl ?_
        refine lo_bipush (pc := 155) (v := (15 : Int32)) dL_law_155 (by decide) ?_
        obtain ⟨v26, hv27, h⟩ := fm_bind h
        refine lo_callSj (pc := 157) (As := [.ref 0, .int (15 : Int32)]) (st := []) dL_law_157 (c_L_account  _ _ hv27) (by decide) (Nat.le_of_ble_eq_true rfl) ce_L_account ml_L_155 st_L_account rfl (Nat.le_of_ble_eq_true rfl) rfl ?_
        refine lo_lconst (pc := 160) (v := (0 : Int64)) dL_law_160 rfl ?_
        refine lo_lcmp (pc := 161) dL_law_161 ?_
        refine lo_if_eq (pc := 162) (tgt := 167) dL_law_162 (by decide) (fun c28 => ?_) (fun c28 => ?_)
        · rw [if_pos c28] at h
          refine lo_lload (pc := 167) dL_law_167 rfl ?_
          refine lo_lconst (pc := 169) (v := (0 : Int64)) dL_law_169 rfl ?_
          refine lo_lcmp (pc := 170) dL_law_170 ?_
          refine lo_if_lt (pc := 171) (tgt := 214) dL_law_171 (by decide) (fun c29 => ?_) (fun c29 => ?_)
          · rw [if_pos c29] at h
            refine lo_iload_n (pc := 214) dL_law_214 rfl rfl ?_
            refine lo_iconst (pc := 215) (v := (5 : Int32)) dL_law_215 (by decide) ?_
            refine lo_irem (pc := 216) dL_law_216 (by decide) ?_
            refine lo_if_ne (pc := 217) (tgt := 285) dL_law_217 (by decide) (fun c30 => ?_) (fun c30 => ?_)
            · rw [if_neg c30] at h
              refine lo_iload_n (pc := 285) dL_law_285 rfl rfl ?_
              refine lo_iconst (pc := 286) (v := (4 : Int32)) dL_law_286 (by decide) ?_
              refine lo_irem (pc := 287) dL_law_287 (by decide) ?_
              refine lo_iconst (pc := 288) (v := (1 : Int32)) dL_law_288 (by decide) ?_
              refine lo_icmp_ne (pc := 289) (tgt := 304) dL_law_289 (by decide) (fun c31 => ?_) (fun c31 => ?_)
              · rw [if_neg c31] at h
                refine lo_iinc (pc := 304) (v := (y2 + (1 : Int32))) (ls1 := [some (.ref 4000), some (.ref 0), some (.int (y2 + (1 : Int32))), some (.int v17), some (.long v19), none, some (.long v21), none, some (.long v23.1), none, none, none]) dL_law_304 rfl rfl (Nat.le_of_ble_eq_true rfl) rfl rfl ?_
                refine lo_goto (pc := 307) (tgt := 104) dL_law_307 (by decide) ?_
                refine lo_drop 3 (ls1 := [some (.ref 4000), some (.ref 0), some (.int (y2 + (1 : Int32))), none, some (.long v19), none, some (.long v21), none, some (.long v23.1), none, none, none]) rfl ?_
                refine lo_drop 4 (ls1 := [some (.ref 4000), some (.ref 0), some (.int (y2 + (1 : Int32))), none, none, none, some (.long v21), none, some (.long v23.1), none, none, none]) rfl ?_
                refine lo_drop 6 (ls1 := [some (.ref 4000), some (.ref 0), some (.int (y2 + (1 : Int32))), none, none, none, none, none, some (.long v23.1), none, none, none]) rfl ?_
                refine lo_drop 8 (ls1 := [some (.ref 4000), some (.ref 0), some (.int (y2 + (1 : Int32))), none, none, none, none, none, none, none, none, none]) rfl ?_
                exact ih _ _ _ h
              · rw [if_pos c31] at h
                refine lo_aload_n (pc := 292) dL_law_292 rfl rfl ?_
                refine lo_iload_n (pc := 293) dL_law_293 rfl rfl ?_
                refine lo_iconst (pc := 294) (v := (3 : Int32)) dL_law_294 (by decide) ?_
                refine lo_ishr (pc := 295) dL_law_295 ?_
                obtain ⟨v32, hv33, h⟩ := fm_bind h
                refine lo_callSi (pc := 296) (As := [.ref 0, .int (v17 >>> ((3 : Int32) &&& 31))]) (st := []) dL_law_296 (c_L_fits  _ _ hv33) (by decide) (Nat.le_of_ble_eq_true rfl) ce_L_fits ml_L_256 st_L_fits rfl (Nat.le_of_ble_eq_true rfl) rfl ?_
                refine lo_ifb_ne (pc := 299) (tgt := 304) dL_law_299 (by decide) (fun c34 => ?_) (fun c34 => ?_)
                · rw [if_pos c34] at h
                  refine lo_iinc (pc := 304) (v := (y2 + (1 : Int32))) (ls1 := [some (.ref 4000), some (.ref 0), some (.int (y2 + (1 : Int32))), some (.int v17), some (.long v19), none, some (.long v21), none, some (.long v23.1), none, none, none]) dL_law_304 rfl rfl (Nat.le_of_ble_eq_true rfl) rfl rfl ?_
                  refine lo_goto (pc := 307) (tgt := 104) dL_law_307 (by decide) ?_
                  refine lo_drop 3 (ls1 := [some (.ref 4000), some (.ref 0), some (.int (y2 + (1 : Int32))), none, some (.long v19), none, some (.long v21), none, some (.long v23.1), none, none, none]) rfl ?_
                  refine lo_drop 4 (ls1 := [some (.ref 4000), some (.ref 0), some (.int (y2 + (1 : Int32))), none, none, none, some (.long v21), none, some (.long v23.1), none, none, none]) rfl ?_
                  refine lo_drop 6 (ls1 := [some (.ref 4000), some (.ref 0), some (.int (y2 + (1 : Int32))), none, none, none, none, none, some (.long v23.1), none, none, none]) rfl ?_
                  refine lo_drop 8 (ls1 := [some (.ref 4000), some (.ref 0), some (.int (y2 + (1 : Int32))), none, none, none, none, none, none, none, none, none]) rfl ?_
                  exact ih _ _ _ h
                · rw [if_neg (by rw [c34]; decide)] at h
                  refine lo_iconst (pc := 302) (v := (0 : Int32)) dL_law_302 (by decide) ?_
                  obtain rfl := Option.some.inj h
                  exact lo_iret (pc := 303) .boolean dL_law_303 rfl rfl rfl
            · rw [if_pos c30] at h
              refine lo_aload_n (pc := 220) dL_law_220 rfl rfl ?_
              obtain ⟨v35, hv36, h⟩ := fm_bind h
              refine lo_callSj (pc := 221) (As := [.ref 0]) (st := []) dL_law_221 (c_L_mark  _ hv36) (by decide) (Nat.le_of_ble_eq_true rfl) ce_L_mark ml_L_203 st_L_mark rfl (Nat.le_of_ble_eq_true rfl) rfl ?_
              refine lo_lstore (pc := 224) (ls1 := [some (.ref 4000), some (.ref 0), some (.int y2), some (.int v17), some (.long v19), none, some (.long v21), none, some (.long v23.1), none, some (.long v35), none]) dL_law_224 (by decide) rfl rfl ?_
              refine lo_aload_n (pc := 226) dL_law_226 rfl rfl ?_
              obtain ⟨v37, hv38, h⟩ := fm_bind h
              refine lo_callSj (pc := 227) (As := [.ref 0]) (st := []) dL_law_227 (c_L_save  _ hv38) (by decide) (Nat.le_of_ble_eq_true rfl) ce_L_save ml_L_250 st_L_save rfl (Nat.le_of_ble_eq_true rfl) rfl ?_
              refine lo_aload_n (pc := 230) dL_law_230 rfl rfl ?_
              refine lo_iconst (pc := 231) (v := (2 : Int32)) dL_law_231 (by decide) ?_
              obtain ⟨v39, hv40, h⟩ := fm_bind h
              refine lo_callSj (pc := 232) (As := [.ref 0, .int (2 : Int32)]) (st := [.long v37.1]) dL_law_232 (c_L_account  _ _ hv40) (by decide) (Nat.le_of_ble_eq_true rfl) ce_L_account ml_L_155 st_L_account rfl (Nat.le_of_ble_eq_true rfl) rfl ?_
              refine lo_lcmp (pc := 235) dL_law_235 ?_
              refine lo_if_eq (pc := 236) (tgt := 241) dL_law_236 (by decide) (fun c41 => ?_) (fun c41 => ?_)
              · rw [if_pos c41] at h
                refine lo_aload_n (pc := 241) dL_law_241 rfl rfl ?_
                refine lo_iload_n (pc := 242) dL_law_242 rfl rfl ?_
                refine lo_iconst (pc := 243) (v := (1 : Int32)) dL_law_243 (by decide) ?_
                refine lo_iadd (pc := 244) dL_law_244 ?_
                obtain ⟨v42, hv43, h⟩ := fm_bind h
                refine lo_callSj (pc := 245) (As := [.ref 0, .int (v17 + (1 : Int32))]) (st := []) dL_law_245 (c_L_acts  _ _ hv43) (by decide) (Nat.le_of_ble_eq_true rfl) ce_L_acts ml_L_239 st_L_acts rfl (Nat.le_of_ble_eq_true rfl) rfl ?_
                refine lo_pop2 (pc := 248) dL_law_248 ?_
                refine lo_aload_n (pc := 249) dL_law_249 rfl rfl ?_
                obtain ⟨v44, hv45, h⟩ := fm_bind h
                refine lo_callSj (pc := 250) (As := [.ref 0]) (st := []) dL_law_250 (c_L_restore  _ hv45) (by decide) (Nat.le_of_ble_eq_true rfl) ce_L_restore ml_L_252 st_L_restore rfl (Nat.le_of_ble_eq_true rfl) rfl ?_
                refine lo_aload_n (pc := 253) dL_law_253 rfl rfl ?_
                refine lo_iconst (pc := 254) (v := (2 : Int32)) dL_law_254 (by decide) ?_
                obtain ⟨v46, hv47, h⟩ := fm_bind h
                refine lo_callSj (pc := 255) (As := [.ref 0, .int (2 : Int32)]) (st := [.long v44.1]) dL_law_255 (c_L_account  _ _ hv47) (by decide) (Nat.le_of_ble_eq_true rfl) ce_L_account ml_L_155 st_L_account rfl (Nat.le_of_ble_eq_true rfl) rfl ?_
                refine lo_lcmp (pc := 258) dL_law_258 ?_
                refine lo_if_ne (pc := 259) (tgt := 283) dL_law_259 (by decide) (fun c48 => ?_) (fun c48 => ?_)
                · rw [if_neg c48] at h
                  refine lo_iconst (pc := 283) (v := (0 : Int32)) dL_law_283 (by decide) ?_
                  obtain rfl := Option.some.inj h
                  exact lo_iret (pc := 284) .boolean dL_law_284 rfl rfl rfl
                · rw [if_pos c48] at h
                  refine lo_aload_n (pc := 262) dL_law_262 rfl rfl ?_
                  obtain ⟨v49, hv50, h⟩ := fm_bind h
                  refine lo_callSj (pc := 263) (As := [.ref 0]) (st := []) dL_law_263 (c_L_mark  _ hv50) (by decide) (Nat.le_of_ble_eq_true rfl) ce_L_mark ml_L_203 st_L_mark rfl (Nat.le_of_ble_eq_true rfl) rfl ?_
                  refine lo_lload (pc := 266) dL_law_266 rfl ?_
                  refine lo_lcmp (pc := 268) dL_law_268 ?_
                  refine lo_if_ne (pc := 269) (tgt := 283) dL_law_269 (by decide) (fun c51 => ?_) (fun c51 => ?_)
                  · rw [if_neg c51] at h
                    refine lo_iconst (pc := 283) (v := (0 : Int32)) dL_law_283 (by decide) ?_
                    obtain rfl := Option.some.inj h
                    exact lo_iret (pc := 284) .boolean dL_law_284 rfl rfl rfl
                  · rw [if_pos c51] at h
                    refine lo_aload_n (pc := 272) dL_law_272 rfl rfl ?_
                    obtain ⟨v52, hv53, h⟩ := fm_bind h
                    refine lo_callSj (pc := 273) (As := [.ref 0]) (st := []) dL_law_273 (c_L_undo  _ hv53) (by decide) (Nat.le_of_ble_eq_true rfl) ce_L_undo ml_L_212 st_L_undo rfl (Nat.le_of_ble_eq_true rfl) rfl ?_
                    refine lo_ldc2 (pc := 276) (v := (-15 : Int64)) dL_law_276 cs_L_254 ?_
                    refine lo_lcmp (pc := 279) dL_law_279 ?_
                    refine lo_if_eq (pc := 280) (tgt := 285) dL_law_280 (by decide) (fun c54 => ?_) (fun c54 => ?_)
                    · rw [if_pos c54] at h
                      refine lo_iload_n (pc := 285) dL_law_285 rfl rfl ?_
                      refine lo_iconst (pc := 286) (v := (4 : Int32)) dL_law_286 (by decide) ?_
                      refine lo_irem (pc := 287) dL_law_287 (by decide) ?_
                      refine lo_iconst (pc := 288) (v := (1 : Int32)) dL_law_288 (by decide) ?_
                      refine lo_icmp_ne (pc := 289) (tgt := 304) dL_law_289 (by decide) (fun c55 => ?_) (fun c55 => ?_)
                      · rw [if_neg c55] at h
                        refine lo_iinc (pc := 304) (v := (y2 + (1 : Int32))) (ls1 := [some (.ref 4000), some (.ref 0), some (.int (y2 + (1 : Int32))), some (.int v17), some (.long v19), none, some (.long v21), none, some (.long v23.1), none, some (.long v35), none]) dL_law_304 rfl rfl (Nat.le_of_ble_eq_true rfl) rfl rfl ?_
                        refine lo_goto (pc := 307) (tgt := 104) dL_law_307 (by decide) ?_
                        refine lo_drop 3 (ls1 := [some (.ref 4000), some (.ref 0), some (.int (y2 + (1 : Int32))), none, some (.long v19), none, some (.long v21), none, some (.long v23.1), none, some (.long v35), none]) rfl ?_
                        refine lo_drop 4 (ls1 := [some (.ref 4000), some (.ref 0), some (.int (y2 + (1 : Int32))), none, none, none, some (.long v21), none, some (.long v23.1), none, some (.long v35), none]) rfl ?_
                        refine lo_drop 6 (ls1 := [some (.ref 4000), some (.ref 0), some (.int (y2 + (1 : Int32))), none, none, none, none, none, some (.long v23.1), none, some (.long v35), none]) rfl ?_
                        refine lo_drop 8 (ls1 := [some (.ref 4000), some (.ref 0), some (.int (y2 + (1 : Int32))), none, none, none, none, none, none, none, some (.long v35), none]) rfl ?_
                        refine lo_drop 10 (ls1 := [some (.ref 4000), some (.ref 0), some (.int (y2 + (1 : Int32))), none, none, none, none, none, none, none, none, none]) rfl ?_
                        exact ih _ _ _ h
                      · rw [if_pos c55] at h
                        refine lo_aload_n (pc := 292) dL_law_292 rfl rfl ?_
                        refine lo_iload_n (pc := 293) dL_law_293 rfl rfl ?_
                        refine lo_iconst (pc := 294) (v := (3 : Int32)) dL_law_294 (by decide) ?_
                        refine lo_ishr (pc := 295) dL_law_295 ?_
                        obtain ⟨v56, hv57, h⟩ := fm_bind h
                        refine lo_callSi (pc := 296) (As := [.ref 0, .int (v17 >>> ((3 : Int32) &&& 31))]) (st := []) dL_law_296 (c_L_fits  _ _ hv57) (by decide) (Nat.le_of_ble_eq_true rfl) ce_L_fits ml_L_256 st_L_fits rfl (Nat.le_of_ble_eq_true rfl) rfl ?_
                        refine lo_ifb_ne (pc := 299) (tgt := 304) dL_law_299 (by decide) (fun c58 => ?_) (fun c58 => ?_)
                        · rw [if_pos c58] at h
                          refine lo_iinc (pc := 304) (v := (y2 + (1 : Int32))) (ls1 := [some (.ref 4000), some (.ref 0), some (.int (y2 + (1 : Int32))), some (.int v17), some (.long v19), none, some (.long v21), none, some (.long v23.1), none, some (.long v35), none]) dL_law_304 rfl rfl (Nat.le_of_ble_eq_true rfl) rfl rfl ?_
                          refine lo_goto (pc := 307) (tgt := 104) dL_law_307 (by decide) ?_
                          refine lo_drop 3 (ls1 := [some (.ref 4000), some (.ref 0), some (.int (y2 + (1 : Int32))), none, some (.long v19), none, some (.long v21), none, some (.long v23.1), none, some (.long v35), none]) rfl ?_
                          refine lo_drop 4 (ls1 := [some (.ref 4000), some (.ref 0), some (.int (y2 + (1 : Int32))), none, none, none, some (.long v21), none, some (.long v23.1), none, some (.long v35), none]) rfl ?_
                          refine lo_drop 6 (ls1 := [some (.ref 4000), some (.ref 0), some (.int (y2 + (1 : Int32))), none, none, none, none, none, some (.long v23.1), none, some (.long v35), none]) rfl ?_
                          refine lo_drop 8 (ls1 := [some (.ref 4000), some (.ref 0), some (.int (y2 + (1 : Int32))), none, none, none, none, none, none, none, some (.long v35), none]) rfl ?_
                          refine lo_drop 10 (ls1 := [some (.ref 4000), some (.ref 0), some (.int (y2 + (1 : Int32))), none, none, none, none, none, none, none, none, none]) rfl ?_
                          exact ih _ _ _ h
                        · rw [if_neg (by rw [c58]; decide)] at h
                          refine lo_iconst (pc := 302) (v := (0 : Int32)) dL_law_302 (by decide) ?_
                          obtain rfl := Option.some.inj h
                          exact lo_iret (pc := 303) .boolean dL_law_303 rfl rfl rfl
                    · rw [if_neg c54] at h
                      refine lo_iconst (pc := 283) (v := (0 : Int32)) dL_law_283 (by decide) ?_
                      obtain rfl := Option.some.inj h
                      exact lo_iret (pc := 284) .boolean dL_law_284 rfl rfl rfl
              · rw [if_neg c41] at h
                refine lo_iconst (pc := 239) (v := (0 : Int32)) dL_law_239 (by decide) ?_
                obtain rfl := Option.some.inj h
                exact lo_iret (pc := 240) .boolean dL_law_240 rfl rfl rfl
          · rw [if_neg c29] at h
            refine lo_iload_n (pc := 174) dL_law_174 rfl rfl ?_
            refine lo_iconst (pc := 175) (v := (3 : Int32)) dL_law_175 (by decide) ?_
            refine lo_irem (pc := 176) dL_law_176 (by decide) ?_
            refine lo_if_ne (pc := 177) (tgt := 214) dL_law_177 (by decide) (fun c59 => ?_) (fun c59 => ?_)
            · rw [if_neg c59] at h
              refine lo_iload_n (pc := 214) dL_law_214 rfl rfl ?_
              refine lo_iconst (pc := 215) (v := (5 : Int32)) dL_law_215 (by decide) ?_
              refine lo_irem (pc := 216) dL_law_216 (by decide) ?_
              refine lo_if_ne (pc := 217) (tgt := 285) dL_law_217 (by decide) (fun c60 => ?_) (fun c60 => ?_)
              · rw [if_neg c60] at h
                refine lo_iload_n (pc := 285) dL_law_285 rfl rfl ?_
                refine lo_iconst (pc := 286) (v := (4 : Int32)) dL_law_286 (by decide) ?_
                refine lo_irem (pc := 287) dL_law_287 (by decide) ?_
                refine lo_iconst (pc := 288) (v := (1 : Int32)) dL_law_288 (by decide) ?_
                refine lo_icmp_ne (pc := 289) (tgt := 304) dL_law_289 (by decide) (fun c61 => ?_) (fun c61 => ?_)
                · rw [if_neg c61] at h
                  refine lo_iinc (pc := 304) (v := (y2 + (1 : Int32))) (ls1 := [some (.ref 4000), some (.ref 0), some (.int (y2 + (1 : Int32))), some (.int v17), some (.long v19), none, some (.long v21), none, some (.long v23.1), none, none, none]) dL_law_304 rfl rfl (Nat.le_of_ble_eq_true rfl) rfl rfl ?_
                  refine lo_goto (pc := 307) (tgt := 104) dL_law_307 (by decide) ?_
                  refine lo_drop 3 (ls1 := [some (.ref 4000), some (.ref 0), some (.int (y2 + (1 : Int32))), none, some (.long v19), none, some (.long v21), none, some (.long v23.1), none, none, none]) rfl ?_
                  refine lo_drop 4 (ls1 := [some (.ref 4000), some (.ref 0), some (.int (y2 + (1 : Int32))), none, none, none, some (.long v21), none, some (.long v23.1), none, none, none]) rfl ?_
                  refine lo_drop 6 (ls1 := [some (.ref 4000), some (.ref 0), some (.int (y2 + (1 : Int32))), none, none, none, none, none, some (.long v23.1), none, none, none]) rfl ?_
                  refine lo_drop 8 (ls1 := [some (.ref 4000), some (.ref 0), some (.int (y2 + (1 : Int32))), none, none, none, none, none, none, none, none, none]) rfl ?_
                  exact ih _ _ _ h
                · rw [if_pos c61] at h
                  refine lo_aload_n (pc := 292) dL_law_292 rfl rfl ?_
                  refine lo_iload_n (pc := 293) dL_law_293 rfl rfl ?_
                  refine lo_iconst (pc := 294) (v := (3 : Int32)) dL_law_294 (by decide) ?_
                  refine lo_ishr (pc := 295) dL_law_295 ?_
                  obtain ⟨v62, hv63, h⟩ := fm_bind h
                  refine lo_callSi (pc := 296) (As := [.ref 0, .int (v17 >>> ((3 : Int32) &&& 31))]) (st := []) dL_law_296 (c_L_fits  _ _ hv63) (by decide) (Nat.le_of_ble_eq_true rfl) ce_L_fits ml_L_256 st_L_fits rfl (Nat.le_of_ble_eq_true rfl) rfl ?_
                  refine lo_ifb_ne (pc := 299) (tgt := 304) dL_law_299 (by decide) (fun c64 => ?_) (fun c64 => ?_)
                  · rw [if_pos c64] at h
                    refine lo_iinc (pc := 304) (v := (y2 + (1 : Int32))) (ls1 := [some (.ref 4000), some (.ref 0), some (.int (y2 + (1 : Int32))), some (.int v17), some (.long v19), none, some (.long v21), none, some (.long v23.1), none, none, none]) dL_law_304 rfl rfl (Nat.le_of_ble_eq_true rfl) rfl rfl ?_
                    refine lo_goto (pc := 307) (tgt := 104) dL_law_307 (by decide) ?_
                    refine lo_drop 3 (ls1 := [some (.ref 4000), some (.ref 0), some (.int (y2 + (1 : Int32))), none, some (.long v19), none, some (.long v21), none, some (.long v23.1), none, none, none]) rfl ?_
                    refine lo_drop 4 (ls1 := [some (.ref 4000), some (.ref 0), some (.int (y2 + (1 : Int32))), none, none, none, some (.long v21), none, some (.long v23.1), none, none, none]) rfl ?_
                    refine lo_drop 6 (ls1 := [some (.ref 4000), some (.ref 0), some (.int (y2 + (1 : Int32))), none, none, none, none, none, some (.long v23.1), none, none, none]) rfl ?_
                    refine lo_drop 8 (ls1 := [some (.ref 4000), some (.ref 0), some (.int (y2 + (1 : Int32))), none, none, none, none, none, none, none, none, none]) rfl ?_
                    exact ih _ _ _ h
                  · rw [if_neg (by rw [c64]; decide)] at h
                    refine lo_iconst (pc := 302) (v := (0 : Int32)) dL_law_302 (by decide) ?_
                    obtain rfl := Option.some.inj h
                    exact lo_iret (pc := 303) .boolean dL_law_303 rfl rfl rfl
              · rw [if_pos c60] at h
                refine lo_aload_n (pc := 220) dL_law_220 rfl rfl ?_
                obtain ⟨v65, hv66, h⟩ := fm_bind h
                refine lo_callSj (pc := 221) (As := [.ref 0]) (st := []) dL_law_221 (c_L_mark  _ hv66) (by decide) (Nat.le_of_ble_eq_true rfl) ce_L_mark ml_L_203 st_L_mark rfl (Nat.le_of_ble_eq_true rfl) rfl ?_
                refine lo_lstore (pc := 224) (ls1 := [some (.ref 4000), some (.ref 0), some (.int y2), some (.int v17), some (.long v19), none, some (.long v21), none, some (.long v23.1), none, some (.long v65), none]) dL_law_224 (by decide) rfl rfl ?_
                refine lo_aload_n (pc := 226) dL_law_226 rfl rfl ?_
                obtain ⟨v67, hv68, h⟩ := fm_bind h
                refine lo_callSj (pc := 227) (As := [.ref 0]) (st := []) dL_law_227 (c_L_save  _ hv68) (by decide) (Nat.le_of_ble_eq_true rfl) ce_L_save ml_L_250 st_L_save rfl (Nat.le_of_ble_eq_true rfl) rfl ?_
                refine lo_aload_n (pc := 230) dL_law_230 rfl rfl ?_
                refine lo_iconst (pc := 231) (v := (2 : Int32)) dL_law_231 (by decide) ?_
                obtain ⟨v69, hv70, h⟩ := fm_bind h
                refine lo_callSj (pc := 232) (As := [.ref 0, .int (2 : Int32)]) (st := [.long v67.1]) dL_law_232 (c_L_account  _ _ hv70) (by decide) (Nat.le_of_ble_eq_true rfl) ce_L_account ml_L_155 st_L_account rfl (Nat.le_of_ble_eq_true rfl) rfl ?_
                refine lo_lcmp (pc := 235) dL_law_235 ?_
                refine lo_if_eq (pc := 236) (tgt := 241) dL_law_236 (by decide) (fun c71 => ?_) (fun c71 => ?_)
                · rw [if_pos c71] at h
                  refine lo_aload_n (pc := 241) dL_law_241 rfl rfl ?_
                  refine lo_iload_n (pc := 242) dL_law_242 rfl rfl ?_
                  refine lo_iconst (pc := 243) (v := (1 : Int32)) dL_law_243 (by decide) ?_
                  refine lo_iadd (pc := 244) dL_law_244 ?_
                  obtain ⟨v72, hv73, h⟩ := fm_bind h
                  refine lo_callSj (pc := 245) (As := [.ref 0, .int (v17 + (1 : Int32))]) (st := []) dL_law_245 (c_L_acts  _ _ hv73) (by decide) (Nat.le_of_ble_eq_true rfl) ce_L_acts ml_L_239 st_L_acts rfl (Nat.le_of_ble_eq_true rfl) rfl ?_
                  refine lo_pop2 (pc := 248) dL_law_248 ?_
                  refine lo_aload_n (pc := 249) dL_law_249 rfl rfl ?_
                  obtain ⟨v74, hv75, h⟩ := fm_bind h
                  refine lo_callSj (pc := 250) (As := [.ref 0]) (st := []) dL_law_250 (c_L_restore  _ hv75) (by decide) (Nat.le_of_ble_eq_true rfl) ce_L_restore ml_L_252 st_L_restore rfl (Nat.le_of_ble_eq_true rfl) rfl ?_
                  refine lo_aload_n (pc := 253) dL_law_253 rfl rfl ?_
                  refine lo_iconst (pc := 254) (v := (2 : Int32)) dL_law_254 (by decide) ?_
                  obtain ⟨v76, hv77, h⟩ := fm_bind h
                  refine lo_callSj (pc := 255) (As := [.ref 0, .int (2 : Int32)]) (st := [.long v74.1]) dL_law_255 (c_L_account  _ _ hv77) (by decide) (Nat.le_of_ble_eq_true rfl) ce_L_account ml_L_155 st_L_account rfl (Nat.le_of_ble_eq_true rfl) rfl ?_
                  refine lo_lcmp (pc := 258) dL_law_258 ?_
                  refine lo_if_ne (pc := 259) (tgt := 283) dL_law_259 (by decide) (fun c78 => ?_) (fun c78 => ?_)
                  · rw [if_neg c78] at h
                    refine lo_iconst (pc := 283) (v := (0 : Int32)) dL_law_283 (by decide) ?_
                    obtain rfl := Option.some.inj h
                    exact lo_iret (pc := 284) .boolean dL_law_284 rfl rfl rfl
                  · rw [if_pos c78] at h
                    refine lo_aload_n (pc := 262) dL_law_262 rfl rfl ?_
                    obtain ⟨v79, hv80, h⟩ := fm_bind h
                    refine lo_callSj (pc := 263) (As := [.ref 0]) (st := []) dL_law_263 (c_L_mark  _ hv80) (by decide) (Nat.le_of_ble_eq_true rfl) ce_L_mark ml_L_203 st_L_mark rfl (Nat.le_of_ble_eq_true rfl) rfl ?_
                    refine lo_lload (pc := 266) dL_law_266 rfl ?_
                    refine lo_lcmp (pc := 268) dL_law_268 ?_
                    refine lo_if_ne (pc := 269) (tgt := 283) dL_law_269 (by decide) (fun c81 => ?_) (fun c81 => ?_)
                    · rw [if_neg c81] at h
                      refine lo_iconst (pc := 283) (v := (0 : Int32)) dL_law_283 (by decide) ?_
                      obtain rfl := Option.some.inj h
                      exact lo_iret (pc := 284) .boolean dL_law_284 rfl rfl rfl
                    · rw [if_pos c81] at h
                      refine lo_aload_n (pc := 272) dL_law_272 rfl rfl ?_
                      obtain ⟨v82, hv83, h⟩ := fm_bind h
                      refine lo_callSj (pc := 273) (As := [.ref 0]) (st := []) dL_law_273 (c_L_undo  _ hv83) (by decide) (Nat.le_of_ble_eq_true rfl) ce_L_undo ml_L_212 st_L_undo rfl (Nat.le_of_ble_eq_true rfl) rfl ?_
                      refine lo_ldc2 (pc := 276) (v := (-15 : Int64)) dL_law_276 cs_L_254 ?_
                      refine lo_lcmp (pc := 279) dL_law_279 ?_
                      refine lo_if_eq (pc := 280) (tgt := 285) dL_law_280 (by decide) (fun c84 => ?_) (fun c84 => ?_)
                      · rw [if_pos c84] at h
                        refine lo_iload_n (pc := 285) dL_law_285 rfl rfl ?_
                        refine lo_iconst (pc := 286) (v := (4 : Int32)) dL_law_286 (by decide) ?_
                        refine lo_irem (pc := 287) dL_law_287 (by decide) ?_
                        refine lo_iconst (pc := 288) (v := (1 : Int32)) dL_law_288 (by decide) ?_
                        refine lo_icmp_ne (pc := 289) (tgt := 304) dL_law_289 (by decide) (fun c85 => ?_) (fun c85 => ?_)
                        · rw [if_neg c85] at h
                          refine lo_iinc (pc := 304) (v := (y2 + (1 : Int32))) (ls1 := [some (.ref 4000), some (.ref 0), some (.int (y2 + (1 : Int32))), some (.int v17), some (.long v19), none, some (.long v21), none, some (.long v23.1), none, some (.long v65), none]) dL_law_304 rfl rfl (Nat.le_of_ble_eq_true rfl) rfl rfl ?_
                          refine lo_goto (pc := 307) (tgt := 104) dL_law_307 (by decide) ?_
                          refine lo_drop 3 (ls1 := [some (.ref 4000), some (.ref 0), some (.int (y2 + (1 : Int32))), none, some (.long v19), none, some (.long v21), none, some (.long v23.1), none, some (.long v65), none]) rfl ?_
                          refine lo_drop 4 (ls1 := [some (.ref 4000), some (.ref 0), some (.int (y2 + (1 : Int32))), none, none, none, some (.long v21), none, some (.long v23.1), none, some (.long v65), none]) rfl ?_
                          refine lo_drop 6 (ls1 := [some (.ref 4000), some (.ref 0), some (.int (y2 + (1 : Int32))), none, none, none, none, none, some (.long v23.1), none, some (.long v65), none]) rfl ?_
                          refine lo_drop 8 (ls1 := [some (.ref 4000), some (.ref 0), some (.int (y2 + (1 : Int32))), none, none, none, none, none, none, none, some (.long v65), none]) rfl ?_
                          refine lo_drop 10 (ls1 := [some (.ref 4000), some (.ref 0), some (.int (y2 + (1 : Int32))), none, none, none, none, none, none, none, none, none]) rfl ?_
                          exact ih _ _ _ h
                        · rw [if_pos c85] at h
                          refine lo_aload_n (pc := 292) dL_law_292 rfl rfl ?_
                          refine lo_iload_n (pc := 293) dL_law_293 rfl rfl ?_
                          refine lo_iconst (pc := 294) (v := (3 : Int32)) dL_law_294 (by decide) ?_
                          refine lo_ishr (pc := 295) dL_law_295 ?_
                          obtain ⟨v86, hv87, h⟩ := fm_bind h
                          refine lo_callSi (pc := 296) (As := [.ref 0, .int (v17 >>> ((3 : Int32) &&& 31))]) (st := []) dL_law_296 (c_L_fits  _ _ hv87) (by decide) (Nat.le_of_ble_eq_true rfl) ce_L_fits ml_L_256 st_L_fits rfl (Nat.le_of_ble_eq_true rfl) rfl ?_
                          refine lo_ifb_ne (pc := 299) (tgt := 304) dL_law_299 (by decide) (fun c88 => ?_) (fun c88 => ?_)
                          · rw [if_pos c88] at h
                            refine lo_iinc (pc := 304) (v := (y2 + (1 : Int32))) (ls1 := [some (.ref 4000), some (.ref 0), some (.int (y2 + (1 : Int32))), some (.int v17), some (.long v19), none, some (.long v21), none, some (.long v23.1), none, some (.long v65), none]) dL_law_304 rfl rfl (Nat.le_of_ble_eq_true rfl) rfl rfl ?_
                            refine lo_goto (pc := 307) (tgt := 104) dL_law_307 (by decide) ?_
                            refine lo_drop 3 (ls1 := [some (.ref 4000), some (.ref 0), some (.int (y2 + (1 : Int32))), none, some (.long v19), none, some (.long v21), none, some (.long v23.1), none, some (.long v65), none]) rfl ?_
                            refine lo_drop 4 (ls1 := [some (.ref 4000), some (.ref 0), some (.int (y2 + (1 : Int32))), none, none, none, some (.long v21), none, some (.long v23.1), none, some (.long v65), none]) rfl ?_
                            refine lo_drop 6 (ls1 := [some (.ref 4000), some (.ref 0), some (.int (y2 + (1 : Int32))), none, none, none, none, none, some (.long v23.1), none, some (.long v65), none]) rfl ?_
                            refine lo_drop 8 (ls1 := [some (.ref 4000), some (.ref 0), some (.int (y2 + (1 : Int32))), none, none, none, none, none, none, none, some (.long v65), none]) rfl ?_
                            refine lo_drop 10 (ls1 := [some (.ref 4000), some (.ref 0), some (.int (y2 + (1 : Int32))), none, none, none, none, none, none, none, none, none]) rfl ?_
                            exact ih _ _ _ h
                          · rw [if_neg (by rw [c88]; decide)] at h
                            refine lo_iconst (pc := 302) (v := (0 : Int32)) dL_law_302 (by decide) ?_
                            obtain rfl := Option.some.inj h
                            exact lo_iret (pc := 303) .boolean dL_law_303 rfl rfl rfl
                      · rw [if_neg c84] at h
                        refine lo_iconst (pc := 283) (v := (0 : Int32)) dL_law_283 (by decide) ?_
                        obtain rfl := Option.some.inj h
                        exact lo_iret (pc := 284) .boolean dL_law_284 rfl rfl rfl
                · rw [if_neg c71] at h
                  refine lo_iconst (pc := 239) (v := (0 : Int32)) dL_law_239 (by decide) ?_
                  obtain rfl := Option.some.inj h
                  exact lo_iret (pc := 240) .boolean dL_law_240 rfl rfl rfl
            · rw [if_pos c59] at h
              refine lo_aload_n (pc := 180) dL_law_180 rfl rfl ?_
              obtain ⟨v89, hv90, h⟩ := fm_bind h
              refine lo_callSj (pc := 181) (As := [.ref 0]) (st := []) dL_law_181 (c_L_undo  _ hv90) (by decide) (Nat.le_of_ble_eq_true rfl) ce_L_undo ml_L_212 st_L_undo rfl (Nat.le_of_ble_eq_true rfl) rfl ?_
              refine lo_lload (pc := 184) dL_law_184 rfl ?_
              refine lo_ldc2 (pc := 186) (v := (7 : Int64)) dL_law_186 cs_L_242 ?_
              refine lo_minl (pc := 189) dL_law_189 ml_L_244 (by decide) (Nat.le_of_ble_eq_true rfl) ?_
              refine lo_lcmp (pc := 192) dL_law_192 ?_
              refine lo_if_ne (pc := 193) (tgt := 206) dL_law_193 (by decide) (fun c91 => ?_) (fun c91 => ?_)
              · rw [if_neg c91] at h
                refine lo_iconst (pc := 206) (v := (0 : Int32)) dL_law_206 (by decide) ?_
                obtain rfl := Option.some.inj h
                exact lo_iret (pc := 207) .boolean dL_law_207 rfl rfl rfl
              · rw [if_pos c91] at h
                refine lo_aload_n (pc := 196) dL_law_196 rfl rfl ?_
                obtain ⟨v92, hv93, h⟩ := fm_bind h
                refine lo_callSj (pc := 197) (As := [.ref 0]) (st := []) dL_law_197 (c_L_mark  _ hv93) (by decide) (Nat.le_of_ble_eq_true rfl) ce_L_mark ml_L_203 st_L_mark rfl (Nat.le_of_ble_eq_true rfl) rfl ?_
                refine lo_lload (pc := 200) dL_law_200 rfl ?_
                refine lo_lcmp (pc := 202) dL_law_202 ?_
                refine lo_if_eq (pc := 203) (tgt := 208) dL_law_203 (by decide) (fun c94 => ?_) (fun c94 => ?_)
                · rw [if_pos c94] at h
                  refine lo_aload_n (pc := 208) dL_law_208 rfl rfl ?_
                  refine lo_iload_n (pc := 209) dL_law_209 rfl rfl ?_
                  obtain ⟨v95, hv96, h⟩ := fm_bind h
                  refine lo_callSj (pc := 210) (As := [.ref 0, .int v17]) (st := []) dL_law_210 (c_L_acts  _ _ hv96) (by decide) (Nat.le_of_ble_eq_true rfl) ce_L_acts ml_L_239 st_L_acts rfl (Nat.le_of_ble_eq_true rfl) rfl ?_
                  refine lo_pop2 (pc := 213) dL_law_213 ?_
                  refine lo_iload_n (pc := 214) dL_law_214 rfl rfl ?_
                  refine lo_iconst (pc := 215) (v := (5 : Int32)) dL_law_215 (by decide) ?_
                  refine lo_irem (pc := 216) dL_law_216 (by decide) ?_
                  refine lo_if_ne (pc := 217) (tgt := 285) dL_law_217 (by decide) (fun c97 => ?_) (fun c97 => ?_)
                  · rw [if_neg c97] at h
                    refine lo_iload_n (pc := 285) dL_law_285 rfl rfl ?_
                    refine lo_iconst (pc := 286) (v := (4 : Int32)) dL_law_286 (by decide) ?_
                    refine lo_irem (pc := 287) dL_law_287 (by decide) ?_
                    refine lo_iconst (pc := 288) (v := (1 : Int32)) dL_law_288 (by decide) ?_
                    refine lo_icmp_ne (pc := 289) (tgt := 304) dL_law_289 (by decide) (fun c98 => ?_) (fun c98 => ?_)
                    · rw [if_neg c98] at h
                      refine lo_iinc (pc := 304) (v := (y2 + (1 : Int32))) (ls1 := [some (.ref 4000), some (.ref 0), some (.int (y2 + (1 : Int32))), some (.int v17), some (.long v19), none, some (.long v21), none, some (.long v23.1), none, none, none]) dL_law_304 rfl rfl (Nat.le_of_ble_eq_true rfl) rfl rfl ?_
                      refine lo_goto (pc := 307) (tgt := 104) dL_law_307 (by decide) ?_
                      refine lo_drop 3 (ls1 := [some (.ref 4000), some (.ref 0), some (.int (y2 + (1 : Int32))), none, some (.long v19), none, some (.long v21), none, some (.long v23.1), none, none, none]) rfl ?_
                      refine lo_drop 4 (ls1 := [some (.ref 4000), some (.ref 0), some (.int (y2 + (1 : Int32))), none, none, none, some (.long v21), none, some (.long v23.1), none, none, none]) rfl ?_
                      refine lo_drop 6 (ls1 := [some (.ref 4000), some (.ref 0), some (.int (y2 + (1 : Int32))), none, none, none, none, none, some (.long v23.1), none, none, none]) rfl ?_
                      refine lo_drop 8 (ls1 := [some (.ref 4000), some (.ref 0), some (.int (y2 + (1 : Int32))), none, none, none, none, none, none, none, none, none]) rfl ?_
                      exact ih _ _ _ h
                    · rw [if_pos c98] at h
                      refine lo_aload_n (pc := 292) dL_law_292 rfl rfl ?_
                      refine lo_iload_n (pc := 293) dL_law_293 rfl rfl ?_
                      refine lo_iconst (pc := 294) (v := (3 : Int32)) dL_law_294 (by decide) ?_
                      refine lo_ishr (pc := 295) dL_law_295 ?_
                      obtain ⟨v99, hv100, h⟩ := fm_bind h
                      refine lo_callSi (pc := 296) (As := [.ref 0, .int (v17 >>> ((3 : Int32) &&& 31))]) (st := []) dL_law_296 (c_L_fits  _ _ hv100) (by decide) (Nat.le_of_ble_eq_true rfl) ce_L_fits ml_L_256 st_L_fits rfl (Nat.le_of_ble_eq_true rfl) rfl ?_
                      refine lo_ifb_ne (pc := 299) (tgt := 304) dL_law_299 (by decide) (fun c101 => ?_) (fun c101 => ?_)
                      · rw [if_pos c101] at h
                        refine lo_iinc (pc := 304) (v := (y2 + (1 : Int32))) (ls1 := [some (.ref 4000), some (.ref 0), some (.int (y2 + (1 : Int32))), some (.int v17), some (.long v19), none, some (.long v21), none, some (.long v23.1), none, none, none]) dL_law_304 rfl rfl (Nat.le_of_ble_eq_true rfl) rfl rfl ?_
                        refine lo_goto (pc := 307) (tgt := 104) dL_law_307 (by decide) ?_
                        refine lo_drop 3 (ls1 := [some (.ref 4000), some (.ref 0), some (.int (y2 + (1 : Int32))), none, some (.long v19), none, some (.long v21), none, some (.long v23.1), none, none, none]) rfl ?_
                        refine lo_drop 4 (ls1 := [some (.ref 4000), some (.ref 0), some (.int (y2 + (1 : Int32))), none, none, none, some (.long v21), none, some (.long v23.1), none, none, none]) rfl ?_
                        refine lo_drop 6 (ls1 := [some (.ref 4000), some (.ref 0), some (.int (y2 + (1 : Int32))), none, none, none, none, none, some (.long v23.1), none, none, none]) rfl ?_
                        refine lo_drop 8 (ls1 := [some (.ref 4000), some (.ref 0), some (.int (y2 + (1 : Int32))), none, none, none, none, none, none, none, none, none]) rfl ?_
                        exact ih _ _ _ h
                      · rw [if_neg (by rw [c101]; decide)] at h
                        refine lo_iconst (pc := 302) (v := (0 : Int32)) dL_law_302 (by decide) ?_
                        obtain rfl := Option.some.inj h
                        exact lo_iret (pc := 303) .boolean dL_law_303 rfl rfl rfl
                  · rw [if_pos c97] at h
                    refine lo_aload_n (pc := 220) dL_law_220 rfl rfl ?_
                    obtain ⟨v102, hv103, h⟩ := fm_bind h
                    refine lo_callSj (pc := 221) (As := [.ref 0]) (st := []) dL_law_221 (c_L_mark  _ hv103) (by decide) (Nat.le_of_ble_eq_true rfl) ce_L_mark ml_L_203 st_L_mark rfl (Nat.le_of_ble_eq_true rfl) rfl ?_
                    refine lo_lstore (pc := 224) (ls1 := [some (.ref 4000), some (.ref 0), some (.int y2), some (.int v17), some (.long v19), none, some (.long v21), none, some (.long v23.1), none, some (.long v102), none]) dL_law_224 (by decide) rfl rfl ?_
                    refine lo_aload_n (pc := 226) dL_law_226 rfl rfl ?_
                    obtain ⟨v104, hv105, h⟩ := fm_bind h
                    refine lo_callSj (pc := 227) (As := [.ref 0]) (st := []) dL_law_227 (c_L_save  _ hv105) (by decide) (Nat.le_of_ble_eq_true rfl) ce_L_save ml_L_250 st_L_save rfl (Nat.le_of_ble_eq_true rfl) rfl ?_
                    refine lo_aload_n (pc := 230) dL_law_230 rfl rfl ?_
                    refine lo_iconst (pc := 231) (v := (2 : Int32)) dL_law_231 (by decide) ?_
                    obtain ⟨v106, hv107, h⟩ := fm_bind h
                    refine lo_callSj (pc := 232) (As := [.ref 0, .int (2 : Int32)]) (st := [.long v104.1]) dL_law_232 (c_L_account  _ _ hv107) (by decide) (Nat.le_of_ble_eq_true rfl) ce_L_account ml_L_155 st_L_account rfl (Nat.le_of_ble_eq_true rfl) rfl ?_
                    refine lo_lcmp (pc := 235) dL_law_235 ?_
                    refine lo_if_eq (pc := 236) (tgt := 241) dL_law_236 (by decide) (fun c108 => ?_) (fun c108 => ?_)
                    · rw [if_pos c108] at h
                      refine lo_aload_n (pc := 241) dL_law_241 rfl rfl ?_
                      refine lo_iload_n (pc := 242) dL_law_242 rfl rfl ?_
                      refine lo_iconst (pc := 243) (v := (1 : Int32)) dL_law_243 (by decide) ?_
                      refine lo_iadd (pc := 244) dL_law_244 ?_
                      obtain ⟨v109, hv110, h⟩ := fm_bind h
                      refine lo_callSj (pc := 245) (As := [.ref 0, .int (v17 + (1 : Int32))]) (st := []) dL_law_245 (c_L_acts  _ _ hv110) (by decide) (Nat.le_of_ble_eq_true rfl) ce_L_acts ml_L_239 st_L_acts rfl (Nat.le_of_ble_eq_true rfl) rfl ?_
                      refine lo_pop2 (pc := 248) dL_law_248 ?_
                      refine lo_aload_n (pc := 249) dL_law_249 rfl rfl ?_
                      obtain ⟨v111, hv112, h⟩ := fm_bind h
                      refine lo_callSj (pc := 250) (As := [.ref 0]) (st := []) dL_law_250 (c_L_restore  _ hv112) (by decide) (Nat.le_of_ble_eq_true rfl) ce_L_restore ml_L_252 st_L_restore rfl (Nat.le_of_ble_eq_true rfl) rfl ?_
                      refine lo_aload_n (pc := 253) dL_law_253 rfl rfl ?_
                      refine lo_iconst (pc := 254) (v := (2 : Int32)) dL_law_254 (by decide) ?_
                      obtain ⟨v113, hv114, h⟩ := fm_bind h
                      refine lo_callSj (pc := 255) (As := [.ref 0, .int (2 : Int32)]) (st := [.long v111.1]) dL_law_255 (c_L_account  _ _ hv114) (by decide) (Nat.le_of_ble_eq_true rfl) ce_L_account ml_L_155 st_L_account rfl (Nat.le_of_ble_eq_true rfl) rfl ?_
                      refine lo_lcmp (pc := 258) dL_law_258 ?_
                      refine lo_if_ne (pc := 259) (tgt := 283) dL_law_259 (by decide) (fun c115 => ?_) (fun c115 => ?_)
                      · rw [if_neg c115] at h
                        refine lo_iconst (pc := 283) (v := (0 : Int32)) dL_law_283 (by decide) ?_
                        obtain rfl := Option.some.inj h
                        exact lo_iret (pc := 284) .boolean dL_law_284 rfl rfl rfl
                      · rw [if_pos c115] at h
                        refine lo_aload_n (pc := 262) dL_law_262 rfl rfl ?_
                        obtain ⟨v116, hv117, h⟩ := fm_bind h
                        refine lo_callSj (pc := 263) (As := [.ref 0]) (st := []) dL_law_263 (c_L_mark  _ hv117) (by decide) (Nat.le_of_ble_eq_true rfl) ce_L_mark ml_L_203 st_L_mark rfl (Nat.le_of_ble_eq_true rfl) rfl ?_
                        refine lo_lload (pc := 266) dL_law_266 rfl ?_
                        refine lo_lcmp (pc := 268) dL_law_268 ?_
                        refine lo_if_ne (pc := 269) (tgt := 283) dL_law_269 (by decide) (fun c118 => ?_) (fun c118 => ?_)
                        · rw [if_neg c118] at h
                          refine lo_iconst (pc := 283) (v := (0 : Int32)) dL_law_283 (by decide) ?_
                          obtain rfl := Option.some.inj h
                          exact lo_iret (pc := 284) .boolean dL_law_284 rfl rfl rfl
                        · rw [if_pos c118] at h
                          refine lo_aload_n (pc := 272) dL_law_272 rfl rfl ?_
                          obtain ⟨v119, hv120, h⟩ := fm_bind h
                          refine lo_callSj (pc := 273) (As := [.ref 0]) (st := []) dL_law_273 (c_L_undo  _ hv120) (by decide) (Nat.le_of_ble_eq_true rfl) ce_L_undo ml_L_212 st_L_undo rfl (Nat.le_of_ble_eq_true rfl) rfl ?_
                          refine lo_ldc2 (pc := 276) (v := (-15 : Int64)) dL_law_276 cs_L_254 ?_
                          refine lo_lcmp (pc := 279) dL_law_279 ?_
                          refine lo_if_eq (pc := 280) (tgt := 285) dL_law_280 (by decide) (fun c121 => ?_) (fun c121 => ?_)
                          · rw [if_pos c121] at h
                            refine lo_iload_n (pc := 285) dL_law_285 rfl rfl ?_
                            refine lo_iconst (pc := 286) (v := (4 : Int32)) dL_law_286 (by decide) ?_
                            refine lo_irem (pc := 287) dL_law_287 (by decide) ?_
                            refine lo_iconst (pc := 288) (v := (1 : Int32)) dL_law_288 (by decide) ?_
                            refine lo_icmp_ne (pc := 289) (tgt := 304) dL_law_289 (by decide) (fun c122 => ?_) (fun c122 => ?_)
                            · rw [if_neg c122] at h
                              refine lo_iinc (pc := 304) (v := (y2 + (1 : Int32))) (ls1 := [some (.ref 4000), some (.ref 0), some (.int (y2 + (1 : Int32))), some (.int v17), some (.long v19), none, some (.long v21), none, some (.long v23.1), none, some (.long v102), none]) dL_law_304 rfl rfl (Nat.le_of_ble_eq_true rfl) rfl rfl ?_
                              refine lo_goto (pc := 307) (tgt := 104) dL_law_307 (by decide) ?_
                              refine lo_drop 3 (ls1 := [some (.ref 4000), some (.ref 0), some (.int (y2 + (1 : Int32))), none, some (.long v19), none, some (.long v21), none, some (.long v23.1), none, some (.long v102), none]) rfl ?_
                              refine lo_drop 4 (ls1 := [some (.ref 4000), some (.ref 0), some (.int (y2 + (1 : Int32))), none, none, none, some (.long v21), none, some (.long v23.1), none, some (.long v102), none]) rfl ?_
                              refine lo_drop 6 (ls1 := [some (.ref 4000), some (.ref 0), some (.int (y2 + (1 : Int32))), none, none, none, none, none, some (.long v23.1), none, some (.long v102), none]) rfl ?_
                              refine lo_drop 8 (ls1 := [some (.ref 4000), some (.ref 0), some (.int (y2 + (1 : Int32))), none, none, none, none, none, none, none, some (.long v102), none]) rfl ?_
                              refine lo_drop 10 (ls1 := [some (.ref 4000), some (.ref 0), some (.int (y2 + (1 : Int32))), none, none, none, none, none, none, none, none, none]) rfl ?_
                              exact ih _ _ _ h
                            · rw [if_pos c122] at h
                              refine lo_aload_n (pc := 292) dL_law_292 rfl rfl ?_
                              refine lo_iload_n (pc := 293) dL_law_293 rfl rfl ?_
                              refine lo_iconst (pc := 294) (v := (3 : Int32)) dL_law_294 (by decide) ?_
                              refine lo_ishr (pc := 295) dL_law_295 ?_
                              obtain ⟨v123, hv124, h⟩ := fm_bind h
                              refine lo_callSi (pc := 296) (As := [.ref 0, .int (v17 >>> ((3 : Int32) &&& 31))]) (st := []) dL_law_296 (c_L_fits  _ _ hv124) (by decide) (Nat.le_of_ble_eq_true rfl) ce_L_fits ml_L_256 st_L_fits rfl (Nat.le_of_ble_eq_true rfl) rfl ?_
                              refine lo_ifb_ne (pc := 299) (tgt := 304) dL_law_299 (by decide) (fun c125 => ?_) (fun c125 => ?_)
                              · rw [if_pos c125] at h
                                refine lo_iinc (pc := 304) (v := (y2 + (1 : Int32))) (ls1 := [some (.ref 4000), some (.ref 0), some (.int (y2 + (1 : Int32))), some (.int v17), some (.long v19), none, some (.long v21), none, some (.long v23.1), none, some (.long v102), none]) dL_law_304 rfl rfl (Nat.le_of_ble_eq_true rfl) rfl rfl ?_
                                refine lo_goto (pc := 307) (tgt := 104) dL_law_307 (by decide) ?_
                                refine lo_drop 3 (ls1 := [some (.ref 4000), some (.ref 0), some (.int (y2 + (1 : Int32))), none, some (.long v19), none, some (.long v21), none, some (.long v23.1), none, some (.long v102), none]) rfl ?_
                                refine lo_drop 4 (ls1 := [some (.ref 4000), some (.ref 0), some (.int (y2 + (1 : Int32))), none, none, none, some (.long v21), none, some (.long v23.1), none, some (.long v102), none]) rfl ?_
                                refine lo_drop 6 (ls1 := [some (.ref 4000), some (.ref 0), some (.int (y2 + (1 : Int32))), none, none, none, none, none, some (.long v23.1), none, some (.long v102), none]) rfl ?_
                                refine lo_drop 8 (ls1 := [some (.ref 4000), some (.ref 0), some (.int (y2 + (1 : Int32))), none, none, none, none, none, none, none, some (.long v102), none]) rfl ?_
                                refine lo_drop 10 (ls1 := [some (.ref 4000), some (.ref 0), some (.int (y2 + (1 : Int32))), none, none, none, none, none, none, none, none, none]) rfl ?_
                                exact ih _ _ _ h
                              · rw [if_neg (by rw [c125]; decide)] at h
                                refine lo_iconst (pc := 302) (v := (0 : Int32)) dL_law_302 (by decide) ?_
                                obtain rfl := Option.some.inj h
                                exact lo_iret (pc := 303) .boolean dL_law_303 rfl rfl rfl
                          · rw [if_neg c121] at h
                            refine lo_iconst (pc := 283) (v := (0 : Int32)) dL_law_283 (by decide) ?_
                            obtain rfl := Option.some.inj h
                            exact lo_iret (pc := 284) .boolean dL_law_284 rfl rfl rfl
                    · rw [if_neg c108] at h
                      refine lo_iconst (pc := 239) (v := (0 : Int32)) dL_law_239 (by decide) ?_
                      obtain rfl := Option.some.inj h
                      exact lo_iret (pc := 240) .boolean dL_law_240 rfl rfl rfl
                · rw [if_neg c94] at h
                  refine lo_iconst (pc := 206) (v := (0 : Int32)) dL_law_206 (by decide) ?_
                  obtain rfl := Option.some.inj h
                  exact lo_iret (pc := 207) .boolean dL_law_207 rfl rfl rfl
        · rw [if_neg c28] at h
          refine lo_iconst (pc := 165) (v := (0 : Int32)) dL_law_165 (by decide) ?_
          obtain rfl := Option.some.inj h
          exact lo_iret (pc := 166) .boolean dL_law_166 rfl rfl rfl
      · rw [if_neg c25] at h
        refine lo_aload_n (pc := 144) dL_law_144 rfl rfl ?_
        obtain ⟨v126, hv127, h⟩ := fm_bind h
        refine lo_callSj (pc := 145) (As := [.ref 0]) (st := []) dL_law_145 (c_L_mark  _ hv127) (by decide) (Nat.le_of_ble_eq_true rfl) ce_L_mark ml_L_203 st_L_mark rfl (Nat.le_of_ble_eq_true rfl) rfl ?_
        refine lo_lload (pc := 148) dL_law_148 rfl ?_
        refine lo_lcmp (pc := 150) dL_law_150 ?_
        refine lo_if_ne (pc := 151) (tgt := 165) dL_law_151 (by decide) (fun c128 => ?_) (fun c128 => ?_)
        · rw [if_neg c128] at h
          refine lo_iconst (pc := 165) (v := (0 : Int32)) dL_law_165 (by decide) ?_
          obtain rfl := Option.some.inj h
          exact lo_iret (pc := 166) .boolean dL_law_166 rfl rfl rfl
        · rw [if_pos c128] at h
          refine lo_aload_n (pc := 154) dL_law_154 rfl rfl ?_
          refine lo_bipush (pc := 155) (v := (15 : Int32)) dL_law_155 (by decide) ?_
          obtain ⟨v129, hv130, h⟩ := fm_bind h
          refine lo_callSj (pc := 157) (As := [.ref 0, .int (15 : Int32)]) (st := []) dL_law_157 (c_L_account  _ _ hv130) (by decide) (Nat.le_of_ble_eq_true rfl) ce_L_account ml_L_155 st_L_account rfl (Nat.le_of_ble_eq_true rfl) rfl ?_
          refine lo_lconst (pc := 160) (v := (0 : Int64)) dL_law_160 rfl ?_
          refine lo_lcmp (pc := 161) dL_law_161 ?_
          refine lo_if_eq (pc := 162) (tgt := 167) dL_law_162 (by decide) (fun c131 => ?_) (fun c131 => ?_)
          · rw [if_pos c131] at h
            refine lo_lload (pc := 167) dL_law_167 rfl ?_
            refine lo_lconst (pc := 169) (v := (0 : Int64)) dL_law_169 rfl ?_
            refine lo_lcmp (pc := 170) dL_law_170 ?_
            refine lo_if_lt (pc := 171) (tgt := 214) dL_law_171 (by decide) (fun c132 => ?_) (fun c132 => ?_)
            · rw [if_pos c132] at h
              refine lo_iload_n (pc := 214) dL_law_214 rfl rfl ?_
              refine lo_iconst (pc := 215) (v := (5 : Int32)) dL_law_215 (by decide) ?_
              refine lo_irem (pc := 216) dL_law_216 (by decide) ?_
              refine lo_if_ne (pc := 217) (tgt := 285) dL_law_217 (by decide) (fun c133 => ?_) (fun c133 => ?_)
              · rw [if_neg c133] at h
                refine lo_iload_n (pc := 285) dL_law_285 rfl rfl ?_
                refine lo_iconst (pc := 286) (v := (4 : Int32)) dL_law_286 (by decide) ?_
                refine lo_irem (pc := 287) dL_law_287 (by decide) ?_
                refine lo_iconst (pc := 288) (v := (1 : Int32)) dL_law_288 (by decide) ?_
                refine lo_icmp_ne (pc := 289) (tgt := 304) dL_law_289 (by decide) (fun c134 => ?_) (fun c134 => ?_)
                · rw [if_neg c134] at h
                  refine lo_iinc (pc := 304) (v := (y2 + (1 : Int32))) (ls1 := [some (.ref 4000), some (.ref 0), some (.int (y2 + (1 : Int32))), some (.int v17), some (.long v19), none, some (.long v21), none, some (.long v23.1), none, none, none]) dL_law_304 rfl rfl (Nat.le_of_ble_eq_true rfl) rfl rfl ?_
                  refine lo_goto (pc := 307) (tgt := 104) dL_law_307 (by decide) ?_
                  refine lo_drop 3 (ls1 := [some (.ref 4000), some (.ref 0), some (.int (y2 + (1 : Int32))), none, some (.long v19), none, some (.long v21), none, some (.long v23.1), none, none, none]) rfl ?_
                  refine lo_drop 4 (ls1 := [some (.ref 4000), some (.ref 0), some (.int (y2 + (1 : Int32))), none, none, none, some (.long v21), none, some (.long v23.1), none, none, none]) rfl ?_
                  refine lo_drop 6 (ls1 := [some (.ref 4000), some (.ref 0), some (.int (y2 + (1 : Int32))), none, none, none, none, none, some (.long v23.1), none, none, none]) rfl ?_
                  refine lo_drop 8 (ls1 := [some (.ref 4000), some (.ref 0), some (.int (y2 + (1 : Int32))), none, none, none, none, none, none, none, none, none]) rfl ?_
                  exact ih _ _ _ h
                · rw [if_pos c134] at h
                  refine lo_aload_n (pc := 292) dL_law_292 rfl rfl ?_
                  refine lo_iload_n (pc := 293) dL_law_293 rfl rfl ?_
                  refine lo_iconst (pc := 294) (v := (3 : Int32)) dL_law_294 (by decide) ?_
                  refine lo_ishr (pc := 295) dL_law_295 ?_
                  obtain ⟨v135, hv136, h⟩ := fm_bind h
                  refine lo_callSi (pc := 296) (As := [.ref 0, .int (v17 >>> ((3 : Int32) &&& 31))]) (st := []) dL_law_296 (c_L_fits  _ _ hv136) (by decide) (Nat.le_of_ble_eq_true rfl) ce_L_fits ml_L_256 st_L_fits rfl (Nat.le_of_ble_eq_true rfl) rfl ?_
                  refine lo_ifb_ne (pc := 299) (tgt := 304) dL_law_299 (by decide) (fun c137 => ?_) (fun c137 => ?_)
                  · rw [if_pos c137] at h
                    refine lo_iinc (pc := 304) (v := (y2 + (1 : Int32))) (ls1 := [some (.ref 4000), some (.ref 0), some (.int (y2 + (1 : Int32))), some (.int v17), some (.long v19), none, some (.long v21), none, some (.long v23.1), none, none, none]) dL_law_304 rfl rfl (Nat.le_of_ble_eq_true rfl) rfl rfl ?_
                    refine lo_goto (pc := 307) (tgt := 104) dL_law_307 (by decide) ?_
                    refine lo_drop 3 (ls1 := [some (.ref 4000), some (.ref 0), some (.int (y2 + (1 : Int32))), none, some (.long v19), none, some (.long v21), none, some (.long v23.1), none, none, none]) rfl ?_
                    refine lo_drop 4 (ls1 := [some (.ref 4000), some (.ref 0), some (.int (y2 + (1 : Int32))), none, none, none, some (.long v21), none, some (.long v23.1), none, none, none]) rfl ?_
                    refine lo_drop 6 (ls1 := [some (.ref 4000), some (.ref 0), some (.int (y2 + (1 : Int32))), none, none, none, none, none, some (.long v23.1), none, none, none]) rfl ?_
                    refine lo_drop 8 (ls1 := [some (.ref 4000), some (.ref 0), some (.int (y2 + (1 : Int32))), none, none, none, none, none, none, none, none, none]) rfl ?_
                    exact ih _ _ _ h
                  · rw [if_neg (by rw [c137]; decide)] at h
                    refine lo_iconst (pc := 302) (v := (0 : Int32)) dL_law_302 (by decide) ?_
                    obtain rfl := Option.some.inj h
                    exact lo_iret (pc := 303) .boolean dL_law_303 rfl rfl rfl
              · rw [if_pos c133] at h
                refine lo_aload_n (pc := 220) dL_law_220 rfl rfl ?_
                obtain ⟨v138, hv139, h⟩ := fm_bind h
                refine lo_callSj (pc := 221) (As := [.ref 0]) (st := []) dL_law_221 (c_L_mark  _ hv139) (by decide) (Nat.le_of_ble_eq_true rfl) ce_L_mark ml_L_203 st_L_mark rfl (Nat.le_of_ble_eq_true rfl) rfl ?_
                refine lo_lstore (pc := 224) (ls1 := [some (.ref 4000), some (.ref 0), some (.int y2), some (.int v17), some (.long v19), none, some (.long v21), none, some (.long v23.1), none, some (.long v138), none]) dL_law_224 (by decide) rfl rfl ?_
                refine lo_aload_n (pc := 226) dL_law_226 rfl rfl ?_
                obtain ⟨v140, hv141, h⟩ := fm_bind h
                refine lo_callSj (pc := 227) (As := [.ref 0]) (st := []) dL_law_227 (c_L_save  _ hv141) (by decide) (Nat.le_of_ble_eq_true rfl) ce_L_save ml_L_250 st_L_save rfl (Nat.le_of_ble_eq_true rfl) rfl ?_
                refine lo_aload_n (pc := 230) dL_law_230 rfl rfl ?_
                refine lo_iconst (pc := 231) (v := (2 : Int32)) dL_law_231 (by decide) ?_
                obtain ⟨v142, hv143, h⟩ := fm_bind h
                refine lo_callSj (pc := 232) (As := [.ref 0, .int (2 : Int32)]) (st := [.long v140.1]) dL_law_232 (c_L_account  _ _ hv143) (by decide) (Nat.le_of_ble_eq_true rfl) ce_L_account ml_L_155 st_L_account rfl (Nat.le_of_ble_eq_true rfl) rfl ?_
                refine lo_lcmp (pc := 235) dL_law_235 ?_
                refine lo_if_eq (pc := 236) (tgt := 241) dL_law_236 (by decide) (fun c144 => ?_) (fun c144 => ?_)
                · rw [if_pos c144] at h
                  refine lo_aload_n (pc := 241) dL_law_241 rfl rfl ?_
                  refine lo_iload_n (pc := 242) dL_law_242 rfl rfl ?_
                  refine lo_iconst (pc := 243) (v := (1 : Int32)) dL_law_243 (by decide) ?_
                  refine lo_iadd (pc := 244) dL_law_244 ?_
                  obtain ⟨v145, hv146, h⟩ := fm_bind h
                  refine lo_callSj (pc := 245) (As := [.ref 0, .int (v17 + (1 : Int32))]) (st := []) dL_law_245 (c_L_acts  _ _ hv146) (by decide) (Nat.le_of_ble_eq_true rfl) ce_L_acts ml_L_239 st_L_acts rfl (Nat.le_of_ble_eq_true rfl) rfl ?_
                  refine lo_pop2 (pc := 248) dL_law_248 ?_
                  refine lo_aload_n (pc := 249) dL_law_249 rfl rfl ?_
                  obtain ⟨v147, hv148, h⟩ := fm_bind h
                  refine lo_callSj (pc := 250) (As := [.ref 0]) (st := []) dL_law_250 (c_L_restore  _ hv148) (by decide) (Nat.le_of_ble_eq_true rfl) ce_L_restore ml_L_252 st_L_restore rfl (Nat.le_of_ble_eq_true rfl) rfl ?_
                  refine lo_aload_n (pc := 253) dL_law_253 rfl rfl ?_
                  refine lo_iconst (pc := 254) (v := (2 : Int32)) dL_law_254 (by decide) ?_
                  obtain ⟨v149, hv150, h⟩ := fm_bind h
                  refine lo_callSj (pc := 255) (As := [.ref 0, .int (2 : Int32)]) (st := [.long v147.1]) dL_law_255 (c_L_account  _ _ hv150) (by decide) (Nat.le_of_ble_eq_true rfl) ce_L_account ml_L_155 st_L_account rfl (Nat.le_of_ble_eq_true rfl) rfl ?_
                  refine lo_lcmp (pc := 258) dL_law_258 ?_
                  refine lo_if_ne (pc := 259) (tgt := 283) dL_law_259 (by decide) (fun c151 => ?_) (fun c151 => ?_)
                  · rw [if_neg c151] at h
                    refine lo_iconst (pc := 283) (v := (0 : Int32)) dL_law_283 (by decide) ?_
                    obtain rfl := Option.some.inj h
                    exact lo_iret (pc := 284) .boolean dL_law_284 rfl rfl rfl
                  · rw [if_pos c151] at h
                    refine lo_aload_n (pc := 262) dL_law_262 rfl rfl ?_
                    obtain ⟨v152, hv153, h⟩ := fm_bind h
                    refine lo_callSj (pc := 263) (As := [.ref 0]) (st := []) dL_law_263 (c_L_mark  _ hv153) (by decide) (Nat.le_of_ble_eq_true rfl) ce_L_mark ml_L_203 st_L_mark rfl (Nat.le_of_ble_eq_true rfl) rfl ?_
                    refine lo_lload (pc := 266) dL_law_266 rfl ?_
                    refine lo_lcmp (pc := 268) dL_law_268 ?_
                    refine lo_if_ne (pc := 269) (tgt := 283) dL_law_269 (by decide) (fun c154 => ?_) (fun c154 => ?_)
                    · rw [if_neg c154] at h
                      refine lo_iconst (pc := 283) (v := (0 : Int32)) dL_law_283 (by decide) ?_
                      obtain rfl := Option.some.inj h
                      exact lo_iret (pc := 284) .boolean dL_law_284 rfl rfl rfl
                    · rw [if_pos c154] at h
                      refine lo_aload_n (pc := 272) dL_law_272 rfl rfl ?_
                      obtain ⟨v155, hv156, h⟩ := fm_bind h
                      refine lo_callSj (pc := 273) (As := [.ref 0]) (st := []) dL_law_273 (c_L_undo  _ hv156) (by decide) (Nat.le_of_ble_eq_true rfl) ce_L_undo ml_L_212 st_L_undo rfl (Nat.le_of_ble_eq_true rfl) rfl ?_
                      refine lo_ldc2 (pc := 276) (v := (-15 : Int64)) dL_law_276 cs_L_254 ?_
                      refine lo_lcmp (pc := 279) dL_law_279 ?_
                      refine lo_if_eq (pc := 280) (tgt := 285) dL_law_280 (by decide) (fun c157 => ?_) (fun c157 => ?_)
                      · rw [if_pos c157] at h
                        refine lo_iload_n (pc := 285) dL_law_285 rfl rfl ?_
                        refine lo_iconst (pc := 286) (v := (4 : Int32)) dL_law_286 (by decide) ?_
                        refine lo_irem (pc := 287) dL_law_287 (by decide) ?_
                        refine lo_iconst (pc := 288) (v := (1 : Int32)) dL_law_288 (by decide) ?_
                        refine lo_icmp_ne (pc := 289) (tgt := 304) dL_law_289 (by decide) (fun c158 => ?_) (fun c158 => ?_)
                        · rw [if_neg c158] at h
                          refine lo_iinc (pc := 304) (v := (y2 + (1 : Int32))) (ls1 := [some (.ref 4000), some (.ref 0), some (.int (y2 + (1 : Int32))), some (.int v17), some (.long v19), none, some (.long v21), none, some (.long v23.1), none, some (.long v138), none]) dL_law_304 rfl rfl (Nat.le_of_ble_eq_true rfl) rfl rfl ?_
                          refine lo_goto (pc := 307) (tgt := 104) dL_law_307 (by decide) ?_
                          refine lo_drop 3 (ls1 := [some (.ref 4000), some (.ref 0), some (.int (y2 + (1 : Int32))), none, some (.long v19), none, some (.long v21), none, some (.long v23.1), none, some (.long v138), none]) rfl ?_
                          refine lo_drop 4 (ls1 := [some (.ref 4000), some (.ref 0), some (.int (y2 + (1 : Int32))), none, none, none, some (.long v21), none, some (.long v23.1), none, some (.long v138), none]) rfl ?_
                          refine lo_drop 6 (ls1 := [some (.ref 4000), some (.ref 0), some (.int (y2 + (1 : Int32))), none, none, none, none, none, some (.long v23.1), none, some (.long v138), none]) rfl ?_
                          refine lo_drop 8 (ls1 := [some (.ref 4000), some (.ref 0), some (.int (y2 + (1 : Int32))), none, none, none, none, none, none, none, some (.long v138), none]) rfl ?_
                          refine lo_drop 10 (ls1 := [some (.ref 4000), some (.ref 0), some (.int (y2 + (1 : Int32))), none, none, none, none, none, none, none, none, none]) rfl ?_
                          exact ih _ _ _ h
                        · rw [if_pos c158] at h
                          refine lo_aload_n (pc := 292) dL_law_292 rfl rfl ?_
                          refine lo_iload_n (pc := 293) dL_law_293 rfl rfl ?_
                          refine lo_iconst (pc := 294) (v := (3 : Int32)) dL_law_294 (by decide) ?_
                          refine lo_ishr (pc := 295) dL_law_295 ?_
                          obtain ⟨v159, hv160, h⟩ := fm_bind h
                          refine lo_callSi (pc := 296) (As := [.ref 0, .int (v17 >>> ((3 : Int32) &&& 31))]) (st := []) dL_law_296 (c_L_fits  _ _ hv160) (by decide) (Nat.le_of_ble_eq_true rfl) ce_L_fits ml_L_256 st_L_fits rfl (Nat.le_of_ble_eq_true rfl) rfl ?_
                          refine lo_ifb_ne (pc := 299) (tgt := 304) dL_law_299 (by decide) (fun c161 => ?_) (fun c161 => ?_)
                          · rw [if_pos c161] at h
                            refine lo_iinc (pc := 304) (v := (y2 + (1 : Int32))) (ls1 := [some (.ref 4000), some (.ref 0), some (.int (y2 + (1 : Int32))), some (.int v17), some (.long v19), none, some (.long v21), none, some (.long v23.1), none, some (.long v138), none]) dL_law_304 rfl rfl (Nat.le_of_ble_eq_true rfl) rfl rfl ?_
                            refine lo_goto (pc := 307) (tgt := 104) dL_law_307 (by decide) ?_
                            refine lo_drop 3 (ls1 := [some (.ref 4000), some (.ref 0), some (.int (y2 + (1 : Int32))), none, some (.long v19), none, some (.long v21), none, some (.long v23.1), none, some (.long v138), none]) rfl ?_
                            refine lo_drop 4 (ls1 := [some (.ref 4000), some (.ref 0), some (.int (y2 + (1 : Int32))), none, none, none, some (.long v21), none, some (.long v23.1), none, some (.long v138), none]) rfl ?_
                            refine lo_drop 6 (ls1 := [some (.ref 4000), some (.ref 0), some (.int (y2 + (1 : Int32))), none, none, none, none, none, some (.long v23.1), none, some (.long v138), none]) rfl ?_
                            refine lo_drop 8 (ls1 := [some (.ref 4000), some (.ref 0), some (.int (y2 + (1 : Int32))), none, none, none, none, none, none, none, some (.long v138), none]) rfl ?_
                            refine lo_drop 10 (ls1 := [some (.ref 4000), some (.ref 0), some (.int (y2 + (1 : Int32))), none, none, none, none, none, none, none, none, none]) rfl ?_
                            exact ih _ _ _ h
                          · rw [if_neg (by rw [c161]; decide)] at h
                            refine lo_iconst (pc := 302) (v := (0 : Int32)) dL_law_302 (by decide) ?_
                            obtain rfl := Option.some.inj h
                            exact lo_iret (pc := 303) .boolean dL_law_303 rfl rfl rfl
                      · rw [if_neg c157] at h
                        refine lo_iconst (pc := 283) (v := (0 : Int32)) dL_law_283 (by decide) ?_
                        obtain rfl := Option.some.inj h
                        exact lo_iret (pc := 284) .boolean dL_law_284 rfl rfl rfl
                · rw [if_neg c144] at h
                  refine lo_iconst (pc := 239) (v := (0 : Int32)) dL_law_239 (by decide) ?_
                  obtain rfl := Option.some.inj h
                  exact lo_iret (pc := 240) .boolean dL_law_240 rfl rfl rfl
            · rw [if_neg c132] at h
              refine lo_iload_n (pc := 174) dL_law_174 rfl rfl ?_
              refine lo_iconst (pc := 175) (v := (3 : Int32)) dL_law_175 (by decide) ?_
              refine lo_irem (pc := 176) dL_law_176 (by decide) ?_
              refine lo_if_ne (pc := 177) (tgt := 214) dL_law_177 (by decide) (fun c162 => ?_) (fun c162 => ?_)
              · rw [if_neg c162] at h
                refine lo_iload_n (pc := 214) dL_law_214 rfl rfl ?_
                refine lo_iconst (pc := 215) (v := (5 : Int32)) dL_law_215 (by decide) ?_
                refine lo_irem (pc := 216) dL_law_216 (by decide) ?_
                refine lo_if_ne (pc := 217) (tgt := 285) dL_law_217 (by decide) (fun c163 => ?_) (fun c163 => ?_)
                · rw [if_neg c163] at h
                  refine lo_iload_n (pc := 285) dL_law_285 rfl rfl ?_
                  refine lo_iconst (pc := 286) (v := (4 : Int32)) dL_law_286 (by decide) ?_
                  refine lo_irem (pc := 287) dL_law_287 (by decide) ?_
                  refine lo_iconst (pc := 288) (v := (1 : Int32)) dL_law_288 (by decide) ?_
                  refine lo_icmp_ne (pc := 289) (tgt := 304) dL_law_289 (by decide) (fun c164 => ?_) (fun c164 => ?_)
                  · rw [if_neg c164] at h
                    refine lo_iinc (pc := 304) (v := (y2 + (1 : Int32))) (ls1 := [some (.ref 4000), some (.ref 0), some (.int (y2 + (1 : Int32))), some (.int v17), some (.long v19), none, some (.long v21), none, some (.long v23.1), none, none, none]) dL_law_304 rfl rfl (Nat.le_of_ble_eq_true rfl) rfl rfl ?_
                    refine lo_goto (pc := 307) (tgt := 104) dL_law_307 (by decide) ?_
                    refine lo_drop 3 (ls1 := [some (.ref 4000), some (.ref 0), some (.int (y2 + (1 : Int32))), none, some (.long v19), none, some (.long v21), none, some (.long v23.1), none, none, none]) rfl ?_
                    refine lo_drop 4 (ls1 := [some (.ref 4000), some (.ref 0), some (.int (y2 + (1 : Int32))), none, none, none, some (.long v21), none, some (.long v23.1), none, none, none]) rfl ?_
                    refine lo_drop 6 (ls1 := [some (.ref 4000), some (.ref 0), some (.int (y2 + (1 : Int32))), none, none, none, none, none, some (.long v23.1), none, none, none]) rfl ?_
                    refine lo_drop 8 (ls1 := [some (.ref 4000), some (.ref 0), some (.int (y2 + (1 : Int32))), none, none, none, none, none, none, none, none, none]) rfl ?_
                    exact ih _ _ _ h
                  · rw [if_pos c164] at h
                    refine lo_aload_n (pc := 292) dL_law_292 rfl rfl ?_
                    refine lo_iload_n (pc := 293) dL_law_293 rfl rfl ?_
                    refine lo_iconst (pc := 294) (v := (3 : Int32)) dL_law_294 (by decide) ?_
                    refine lo_ishr (pc := 295) dL_law_295 ?_
                    obtain ⟨v165, hv166, h⟩ := fm_bind h
                    refine lo_callSi (pc := 296) (As := [.ref 0, .int (v17 >>> ((3 : Int32) &&& 31))]) (st := []) dL_law_296 (c_L_fits  _ _ hv166) (by decide) (Nat.le_of_ble_eq_true rfl) ce_L_fits ml_L_256 st_L_fits rfl (Nat.le_of_ble_eq_true rfl) rfl ?_
                    refine lo_ifb_ne (pc := 299) (tgt := 304) dL_law_299 (by decide) (fun c167 => ?_) (fun c167 => ?_)
                    · rw [if_pos c167] at h
                      refine lo_iinc (pc := 304) (v := (y2 + (1 : Int32))) (ls1 := [some (.ref 4000), some (.ref 0), some (.int (y2 + (1 : Int32))), some (.int v17), some (.long v19), none, some (.long v21), none, some (.long v23.1), none, none, none]) dL_law_304 rfl rfl (Nat.le_of_ble_eq_true rfl) rfl rfl ?_
                      refine lo_goto (pc := 307) (tgt := 104) dL_law_307 (by decide) ?_
                      refine lo_drop 3 (ls1 := [some (.ref 4000), some (.ref 0), some (.int (y2 + (1 : Int32))), none, some (.long v19), none, some (.long v21), none, some (.long v23.1), none, none, none]) rfl ?_
                      refine lo_drop 4 (ls1 := [some (.ref 4000), some (.ref 0), some (.int (y2 + (1 : Int32))), none, none, none, some (.long v21), none, some (.long v23.1), none, none, none]) rfl ?_
                      refine lo_drop 6 (ls1 := [some (.ref 4000), some (.ref 0), some (.int (y2 + (1 : Int32))), none, none, none, none, none, some (.long v23.1), none, none, none]) rfl ?_
                      refine lo_drop 8 (ls1 := [some (.ref 4000), some (.ref 0), some (.int (y2 + (1 : Int32))), none, none, none, none, none, none, none, none, none]) rfl ?_
                      exact ih _ _ _ h
                    · rw [if_neg (by rw [c167]; decide)] at h
                      refine lo_iconst (pc := 302) (v := (0 : Int32)) dL_law_302 (by decide) ?_
                      obtain rfl := Option.some.inj h
                      exact lo_iret (pc := 303) .boolean dL_law_303 rfl rfl rfl
                · rw [if_pos c163] at h
                  refine lo_aload_n (pc := 220) dL_law_220 rfl rfl ?_
                  obtain ⟨v168, hv169, h⟩ := fm_bind h
                  refine lo_callSj (pc := 221) (As := [.ref 0]) (st := []) dL_law_221 (c_L_mark  _ hv169) (by decide) (Nat.le_of_ble_eq_true rfl) ce_L_mark ml_L_203 st_L_mark rfl (Nat.le_of_ble_eq_true rfl) rfl ?_
                  refine lo_lstore (pc := 224) (ls1 := [some (.ref 4000), some (.ref 0), some (.int y2), some (.int v17), some (.long v19), none, some (.long v21), none, some (.long v23.1), none, some (.long v168), none]) dL_law_224 (by decide) rfl rfl ?_
                  refine lo_aload_n (pc := 226) dL_law_226 rfl rfl ?_
                  obtain ⟨v170, hv171, h⟩ := fm_bind h
                  refine lo_callSj (pc := 227) (As := [.ref 0]) (st := []) dL_law_227 (c_L_save  _ hv171) (by decide) (Nat.le_of_ble_eq_true rfl) ce_L_save ml_L_250 st_L_save rfl (Nat.le_of_ble_eq_true rfl) rfl ?_
                  refine lo_aload_n (pc := 230) dL_law_230 rfl rfl ?_
                  refine lo_iconst (pc := 231) (v := (2 : Int32)) dL_law_231 (by decide) ?_
                  obtain ⟨v172, hv173, h⟩ := fm_bind h
                  refine lo_callSj (pc := 232) (As := [.ref 0, .int (2 : Int32)]) (st := [.long v170.1]) dL_law_232 (c_L_account  _ _ hv173) (by decide) (Nat.le_of_ble_eq_true rfl) ce_L_account ml_L_155 st_L_account rfl (Nat.le_of_ble_eq_true rfl) rfl ?_
                  refine lo_lcmp (pc := 235) dL_law_235 ?_
                  refine lo_if_eq (pc := 236) (tgt := 241) dL_law_236 (by decide) (fun c174 => ?_) (fun c174 => ?_)
                  · rw [if_pos c174] at h
                    refine lo_aload_n (pc := 241) dL_law_241 rfl rfl ?_
                    refine lo_iload_n (pc := 242) dL_law_242 rfl rfl ?_
                    refine lo_iconst (pc := 243) (v := (1 : Int32)) dL_law_243 (by decide) ?_
                    refine lo_iadd (pc := 244) dL_law_244 ?_
                    obtain ⟨v175, hv176, h⟩ := fm_bind h
                    refine lo_callSj (pc := 245) (As := [.ref 0, .int (v17 + (1 : Int32))]) (st := []) dL_law_245 (c_L_acts  _ _ hv176) (by decide) (Nat.le_of_ble_eq_true rfl) ce_L_acts ml_L_239 st_L_acts rfl (Nat.le_of_ble_eq_true rfl) rfl ?_
                    refine lo_pop2 (pc := 248) dL_law_248 ?_
                    refine lo_aload_n (pc := 249) dL_law_249 rfl rfl ?_
                    obtain ⟨v177, hv178, h⟩ := fm_bind h
                    refine lo_callSj (pc := 250) (As := [.ref 0]) (st := []) dL_law_250 (c_L_restore  _ hv178) (by decide) (Nat.le_of_ble_eq_true rfl) ce_L_restore ml_L_252 st_L_restore rfl (Nat.le_of_ble_eq_true rfl) rfl ?_
                    refine lo_aload_n (pc := 253) dL_law_253 rfl rfl ?_
                    refine lo_iconst (pc := 254) (v := (2 : Int32)) dL_law_254 (by decide) ?_
                    obtain ⟨v179, hv180, h⟩ := fm_bind h
                    refine lo_callSj (pc := 255) (As := [.ref 0, .int (2 : Int32)]) (st := [.long v177.1]) dL_law_255 (c_L_account  _ _ hv180) (by decide) (Nat.le_of_ble_eq_true rfl) ce_L_account ml_L_155 st_L_account rfl (Nat.le_of_ble_eq_true rfl) rfl ?_
                    refine lo_lcmp (pc := 258) dL_law_258 ?_
                    refine lo_if_ne (pc := 259) (tgt := 283) dL_law_259 (by decide) (fun c181 => ?_) (fun c181 => ?_)
                    · rw [if_neg c181] at h
                      refine lo_iconst (pc := 283) (v := (0 : Int32)) dL_law_283 (by decide) ?_
                      obtain rfl := Option.some.inj h
                      exact lo_iret (pc := 284) .boolean dL_law_284 rfl rfl rfl
                    · rw [if_pos c181] at h
                      refine lo_aload_n (pc := 262) dL_law_262 rfl rfl ?_
                      obtain ⟨v182, hv183, h⟩ := fm_bind h
                      refine lo_callSj (pc := 263) (As := [.ref 0]) (st := []) dL_law_263 (c_L_mark  _ hv183) (by decide) (Nat.le_of_ble_eq_true rfl) ce_L_mark ml_L_203 st_L_mark rfl (Nat.le_of_ble_eq_true rfl) rfl ?_
                      refine lo_lload (pc := 266) dL_law_266 rfl ?_
                      refine lo_lcmp (pc := 268) dL_law_268 ?_
                      refine lo_if_ne (pc := 269) (tgt := 283) dL_law_269 (by decide) (fun c184 => ?_) (fun c184 => ?_)
                      · rw [if_neg c184] at h
                        refine lo_iconst (pc := 283) (v := (0 : Int32)) dL_law_283 (by decide) ?_
                        obtain rfl := Option.some.inj h
                        exact lo_iret (pc := 284) .boolean dL_law_284 rfl rfl rfl
                      · rw [if_pos c184] at h
                        refine lo_aload_n (pc := 272) dL_law_272 rfl rfl ?_
                        obtain ⟨v185, hv186, h⟩ := fm_bind h
                        refine lo_callSj (pc := 273) (As := [.ref 0]) (st := []) dL_law_273 (c_L_undo  _ hv186) (by decide) (Nat.le_of_ble_eq_true rfl) ce_L_undo ml_L_212 st_L_undo rfl (Nat.le_of_ble_eq_true rfl) rfl ?_
                        refine lo_ldc2 (pc := 276) (v := (-15 : Int64)) dL_law_276 cs_L_254 ?_
                        refine lo_lcmp (pc := 279) dL_law_279 ?_
                        refine lo_if_eq (pc := 280) (tgt := 285) dL_law_280 (by decide) (fun c187 => ?_) (fun c187 => ?_)
                        · rw [if_pos c187] at h
                          refine lo_iload_n (pc := 285) dL_law_285 rfl rfl ?_
                          refine lo_iconst (pc := 286) (v := (4 : Int32)) dL_law_286 (by decide) ?_
                          refine lo_irem (pc := 287) dL_law_287 (by decide) ?_
                          refine lo_iconst (pc := 288) (v := (1 : Int32)) dL_law_288 (by decide) ?_
                          refine lo_icmp_ne (pc := 289) (tgt := 304) dL_law_289 (by decide) (fun c188 => ?_) (fun c188 => ?_)
                          · rw [if_neg c188] at h
                            refine lo_iinc (pc := 304) (v := (y2 + (1 : Int32))) (ls1 := [some (.ref 4000), some (.ref 0), some (.int (y2 + (1 : Int32))), some (.int v17), some (.long v19), none, some (.long v21), none, some (.long v23.1), none, some (.long v168), none]) dL_law_304 rfl rfl (Nat.le_of_ble_eq_true rfl) rfl rfl ?_
                            refine lo_goto (pc := 307) (tgt := 104) dL_law_307 (by decide) ?_
                            refine lo_drop 3 (ls1 := [some (.ref 4000), some (.ref 0), some (.int (y2 + (1 : Int32))), none, some (.long v19), none, some (.long v21), none, some (.long v23.1), none, some (.long v168), none]) rfl ?_
                            refine lo_drop 4 (ls1 := [some (.ref 4000), some (.ref 0), some (.int (y2 + (1 : Int32))), none, none, none, some (.long v21), none, some (.long v23.1), none, some (.long v168), none]) rfl ?_
                            refine lo_drop 6 (ls1 := [some (.ref 4000), some (.ref 0), some (.int (y2 + (1 : Int32))), none, none, none, none, none, some (.long v23.1), none, some (.long v168), none]) rfl ?_
                            refine lo_drop 8 (ls1 := [some (.ref 4000), some (.ref 0), some (.int (y2 + (1 : Int32))), none, none, none, none, none, none, none, some (.long v168), none]) rfl ?_
                            refine lo_drop 10 (ls1 := [some (.ref 4000), some (.ref 0), some (.int (y2 + (1 : Int32))), none, none, none, none, none, none, none, none, none]) rfl ?_
                            exact ih _ _ _ h
                          · rw [if_pos c188] at h
                            refine lo_aload_n (pc := 292) dL_law_292 rfl rfl ?_
                            refine lo_iload_n (pc := 293) dL_law_293 rfl rfl ?_
                            refine lo_iconst (pc := 294) (v := (3 : Int32)) dL_law_294 (by decide) ?_
                            refine lo_ishr (pc := 295) dL_law_295 ?_
                            obtain ⟨v189, hv190, h⟩ := fm_bind h
                            refine lo_callSi (pc := 296) (As := [.ref 0, .int (v17 >>> ((3 : Int32) &&& 31))]) (st := []) dL_law_296 (c_L_fits  _ _ hv190) (by decide) (Nat.le_of_ble_eq_true rfl) ce_L_fits ml_L_256 st_L_fits rfl (Nat.le_of_ble_eq_true rfl) rfl ?_
                            refine lo_ifb_ne (pc := 299) (tgt := 304) dL_law_299 (by decide) (fun c191 => ?_) (fun c191 => ?_)
                            · rw [if_pos c191] at h
                              refine lo_iinc (pc := 304) (v := (y2 + (1 : Int32))) (ls1 := [some (.ref 4000), some (.ref 0), some (.int (y2 + (1 : Int32))), some (.int v17), some (.long v19), none, some (.long v21), none, some (.long v23.1), none, some (.long v168), none]) dL_law_304 rfl rfl (Nat.le_of_ble_eq_true rfl) rfl rfl ?_
                              refine lo_goto (pc := 307) (tgt := 104) dL_law_307 (by decide) ?_
                              refine lo_drop 3 (ls1 := [some (.ref 4000), some (.ref 0), some (.int (y2 + (1 : Int32))), none, some (.long v19), none, some (.long v21), none, some (.long v23.1), none, some (.long v168), none]) rfl ?_
                              refine lo_drop 4 (ls1 := [some (.ref 4000), some (.ref 0), some (.int (y2 + (1 : Int32))), none, none, none, some (.long v21), none, some (.long v23.1), none, some (.long v168), none]) rfl ?_
                              refine lo_drop 6 (ls1 := [some (.ref 4000), some (.ref 0), some (.int (y2 + (1 : Int32))), none, none, none, none, none, some (.long v23.1), none, some (.long v168), none]) rfl ?_
                              refine lo_drop 8 (ls1 := [some (.ref 4000), some (.ref 0), some (.int (y2 + (1 : Int32))), none, none, none, none, none, none, none, some (.long v168), none]) rfl ?_
                              refine lo_drop 10 (ls1 := [some (.ref 4000), some (.ref 0), some (.int (y2 + (1 : Int32))), none, none, none, none, none, none, none, none, none]) rfl ?_
                              exact ih _ _ _ h
                            · rw [if_neg (by rw [c191]; decide)] at h
                              refine lo_iconst (pc := 302) (v := (0 : Int32)) dL_law_302 (by decide) ?_
                              obtain rfl := Option.some.inj h
                              exact lo_iret (pc := 303) .boolean dL_law_303 rfl rfl rfl
                        · rw [if_neg c187] at h
                          refine lo_iconst (pc := 283) (v := (0 : Int32)) dL_law_283 (by decide) ?_
                          obtain rfl := Option.some.inj h
                          exact lo_iret (pc := 284) .boolean dL_law_284 rfl rfl rfl
                  · rw [if_neg c174] at h
                    refine lo_iconst (pc := 239) (v := (0 : Int32)) dL_law_239 (by decide) ?_
                    obtain rfl := Option.some.inj h
                    exact lo_iret (pc := 240) .boolean dL_law_240 rfl rfl rfl
              · rw [if_pos c162] at h
                refine lo_aload_n (pc := 180) dL_law_180 rfl rfl ?_
                obtain ⟨v192, hv193, h⟩ := fm_bind h
                refine lo_callSj (pc := 181) (As := [.ref 0]) (st := []) dL_law_181 (c_L_undo  _ hv193) (by decide) (Nat.le_of_ble_eq_true rfl) ce_L_undo ml_L_212 st_L_undo rfl (Nat.le_of_ble_eq_true rfl) rfl ?_
                refine lo_lload (pc := 184) dL_law_184 rfl ?_
                refine lo_ldc2 (pc := 186) (v := (7 : Int64)) dL_law_186 cs_L_242 ?_
                refine lo_minl (pc := 189) dL_law_189 ml_L_244 (by decide) (Nat.le_of_ble_eq_true rfl) ?_
                refine lo_lcmp (pc := 192) dL_law_192 ?_
                refine lo_if_ne (pc := 193) (tgt := 206) dL_law_193 (by decide) (fun c194 => ?_) (fun c194 => ?_)
                · rw [if_neg c194] at h
                  refine lo_iconst (pc := 206) (v := (0 : Int32)) dL_law_206 (by decide) ?_
                  obtain rfl := Option.some.inj h
                  exact lo_iret (pc := 207) .boolean dL_law_207 rfl rfl rfl
                · rw [if_pos c194] at h
                  refine lo_aload_n (pc := 196) dL_law_196 rfl rfl ?_
                  obtain ⟨v195, hv196, h⟩ := fm_bind h
                  refine lo_callSj (pc := 197) (As := [.ref 0]) (st := []) dL_law_197 (c_L_mark  _ hv196) (by decide) (Nat.le_of_ble_eq_true rfl) ce_L_mark ml_L_203 st_L_mark rfl (Nat.le_of_ble_eq_true rfl) rfl ?_
                  refine lo_lload (pc := 200) dL_law_200 rfl ?_
                  refine lo_lcmp (pc := 202) dL_law_202 ?_
                  refine lo_if_eq (pc := 203) (tgt := 208) dL_law_203 (by decide) (fun c197 => ?_) (fun c197 => ?_)
                  · rw [if_pos c197] at h
                    refine lo_aload_n (pc := 208) dL_law_208 rfl rfl ?_
                    refine lo_iload_n (pc := 209) dL_law_209 rfl rfl ?_
                    obtain ⟨v198, hv199, h⟩ := fm_bind h
                    refine lo_callSj (pc := 210) (As := [.ref 0, .int v17]) (st := []) dL_law_210 (c_L_acts  _ _ hv199) (by decide) (Nat.le_of_ble_eq_true rfl) ce_L_acts ml_L_239 st_L_acts rfl (Nat.le_of_ble_eq_true rfl) rfl ?_
                    refine lo_pop2 (pc := 213) dL_law_213 ?_
                    refine lo_iload_n (pc := 214) dL_law_214 rfl rfl ?_
                    refine lo_iconst (pc := 215) (v := (5 : Int32)) dL_law_215 (by decide) ?_
                    refine lo_irem (pc := 216) dL_law_216 (by decide) ?_
                    refine lo_if_ne (pc := 217) (tgt := 285) dL_law_217 (by decide) (fun c200 => ?_) (fun c200 => ?_)
                    · rw [if_neg c200] at h
                      refine lo_iload_n (pc := 285) dL_law_285 rfl rfl ?_
                      refine lo_iconst (pc := 286) (v := (4 : Int32)) dL_law_286 (by decide) ?_
                      refine lo_irem (pc := 287) dL_law_287 (by decide) ?_
                      refine lo_iconst (pc := 288) (v := (1 : Int32)) dL_law_288 (by decide) ?_
                      refine lo_icmp_ne (pc := 289) (tgt := 304) dL_law_289 (by decide) (fun c201 => ?_) (fun c201 => ?_)
                      · rw [if_neg c201] at h
                        refine lo_iinc (pc := 304) (v := (y2 + (1 : Int32))) (ls1 := [some (.ref 4000), some (.ref 0), some (.int (y2 + (1 : Int32))), some (.int v17), some (.long v19), none, some (.long v21), none, some (.long v23.1), none, none, none]) dL_law_304 rfl rfl (Nat.le_of_ble_eq_true rfl) rfl rfl ?_
                        refine lo_goto (pc := 307) (tgt := 104) dL_law_307 (by decide) ?_
                        refine lo_drop 3 (ls1 := [some (.ref 4000), some (.ref 0), some (.int (y2 + (1 : Int32))), none, some (.long v19), none, some (.long v21), none, some (.long v23.1), none, none, none]) rfl ?_
                        refine lo_drop 4 (ls1 := [some (.ref 4000), some (.ref 0), some (.int (y2 + (1 : Int32))), none, none, none, some (.long v21), none, some (.long v23.1), none, none, none]) rfl ?_
                        refine lo_drop 6 (ls1 := [some (.ref 4000), some (.ref 0), some (.int (y2 + (1 : Int32))), none, none, none, none, none, some (.long v23.1), none, none, none]) rfl ?_
                        refine lo_drop 8 (ls1 := [some (.ref 4000), some (.ref 0), some (.int (y2 + (1 : Int32))), none, none, none, none, none, none, none, none, none]) rfl ?_
                        exact ih _ _ _ h
                      · rw [if_pos c201] at h
                        refine lo_aload_n (pc := 292) dL_law_292 rfl rfl ?_
                        refine lo_iload_n (pc := 293) dL_law_293 rfl rfl ?_
                        refine lo_iconst (pc := 294) (v := (3 : Int32)) dL_law_294 (by decide) ?_
                        refine lo_ishr (pc := 295) dL_law_295 ?_
                        obtain ⟨v202, hv203, h⟩ := fm_bind h
                        refine lo_callSi (pc := 296) (As := [.ref 0, .int (v17 >>> ((3 : Int32) &&& 31))]) (st := []) dL_law_296 (c_L_fits  _ _ hv203) (by decide) (Nat.le_of_ble_eq_true rfl) ce_L_fits ml_L_256 st_L_fits rfl (Nat.le_of_ble_eq_true rfl) rfl ?_
                        refine lo_ifb_ne (pc := 299) (tgt := 304) dL_law_299 (by decide) (fun c204 => ?_) (fun c204 => ?_)
                        · rw [if_pos c204] at h
                          refine lo_iinc (pc := 304) (v := (y2 + (1 : Int32))) (ls1 := [some (.ref 4000), some (.ref 0), some (.int (y2 + (1 : Int32))), some (.int v17), some (.long v19), none, some (.long v21), none, some (.long v23.1), none, none, none]) dL_law_304 rfl rfl (Nat.le_of_ble_eq_true rfl) rfl rfl ?_
                          refine lo_goto (pc := 307) (tgt := 104) dL_law_307 (by decide) ?_
                          refine lo_drop 3 (ls1 := [some (.ref 4000), some (.ref 0), some (.int (y2 + (1 : Int32))), none, some (.long v19), none, some (.long v21), none, some (.long v23.1), none, none, none]) rfl ?_
                          refine lo_drop 4 (ls1 := [some (.ref 4000), some (.ref 0), some (.int (y2 + (1 : Int32))), none, none, none, some (.long v21), none, some (.long v23.1), none, none, none]) rfl ?_
                          refine lo_drop 6 (ls1 := [some (.ref 4000), some (.ref 0), some (.int (y2 + (1 : Int32))), none, none, none, none, none, some (.long v23.1), none, none, none]) rfl ?_
                          refine lo_drop 8 (ls1 := [some (.ref 4000), some (.ref 0), some (.int (y2 + (1 : Int32))), none, none, none, none, none, none, none, none, none]) rfl ?_
                          exact ih _ _ _ h
                        · rw [if_neg (by rw [c204]; decide)] at h
                          refine lo_iconst (pc := 302) (v := (0 : Int32)) dL_law_302 (by decide) ?_
                          obtain rfl := Option.some.inj h
                          exact lo_iret (pc := 303) .boolean dL_law_303 rfl rfl rfl
                    · rw [if_pos c200] at h
                      refine lo_aload_n (pc := 220) dL_law_220 rfl rfl ?_
                      obtain ⟨v205, hv206, h⟩ := fm_bind h
                      refine lo_callSj (pc := 221) (As := [.ref 0]) (st := []) dL_law_221 (c_L_mark  _ hv206) (by decide) (Nat.le_of_ble_eq_true rfl) ce_L_mark ml_L_203 st_L_mark rfl (Nat.le_of_ble_eq_true rfl) rfl ?_
                      refine lo_lstore (pc := 224) (ls1 := [some (.ref 4000), some (.ref 0), some (.int y2), some (.int v17), some (.long v19), none, some (.long v21), none, some (.long v23.1), none, some (.long v205), none]) dL_law_224 (by decide) rfl rfl ?_
                      refine lo_aload_n (pc := 226) dL_law_226 rfl rfl ?_
                      obtain ⟨v207, hv208, h⟩ := fm_bind h
                      refine lo_callSj (pc := 227) (As := [.ref 0]) (st := []) dL_law_227 (c_L_save  _ hv208) (by decide) (Nat.le_of_ble_eq_true rfl) ce_L_save ml_L_250 st_L_save rfl (Nat.le_of_ble_eq_true rfl) rfl ?_
                      refine lo_aload_n (pc := 230) dL_law_230 rfl rfl ?_
                      refine lo_iconst (pc := 231) (v := (2 : Int32)) dL_law_231 (by decide) ?_
                      obtain ⟨v209, hv210, h⟩ := fm_bind h
                      refine lo_callSj (pc := 232) (As := [.ref 0, .int (2 : Int32)]) (st := [.long v207.1]) dL_law_232 (c_L_account  _ _ hv210) (by decide) (Nat.le_of_ble_eq_true rfl) ce_L_account ml_L_155 st_L_account rfl (Nat.le_of_ble_eq_true rfl) rfl ?_
                      refine lo_lcmp (pc := 235) dL_law_235 ?_
                      refine lo_if_eq (pc := 236) (tgt := 241) dL_law_236 (by decide) (fun c211 => ?_) (fun c211 => ?_)
                      · rw [if_pos c211] at h
                        refine lo_aload_n (pc := 241) dL_law_241 rfl rfl ?_
                        refine lo_iload_n (pc := 242) dL_law_242 rfl rfl ?_
                        refine lo_iconst (pc := 243) (v := (1 : Int32)) dL_law_243 (by decide) ?_
                        refine lo_iadd (pc := 244) dL_law_244 ?_
                        obtain ⟨v212, hv213, h⟩ := fm_bind h
                        refine lo_callSj (pc := 245) (As := [.ref 0, .int (v17 + (1 : Int32))]) (st := []) dL_law_245 (c_L_acts  _ _ hv213) (by decide) (Nat.le_of_ble_eq_true rfl) ce_L_acts ml_L_239 st_L_acts rfl (Nat.le_of_ble_eq_true rfl) rfl ?_
                        refine lo_pop2 (pc := 248) dL_law_248 ?_
                        refine lo_aload_n (pc := 249) dL_law_249 rfl rfl ?_
                        obtain ⟨v214, hv215, h⟩ := fm_bind h
                        refine lo_callSj (pc := 250) (As := [.ref 0]) (st := []) dL_law_250 (c_L_restore  _ hv215) (by decide) (Nat.le_of_ble_eq_true rfl) ce_L_restore ml_L_252 st_L_restore rfl (Nat.le_of_ble_eq_true rfl) rfl ?_
                        refine lo_aload_n (pc := 253) dL_law_253 rfl rfl ?_
                        refine lo_iconst (pc := 254) (v := (2 : Int32)) dL_law_254 (by decide) ?_
                        obtain ⟨v216, hv217, h⟩ := fm_bind h
                        refine lo_callSj (pc := 255) (As := [.ref 0, .int (2 : Int32)]) (st := [.long v214.1]) dL_law_255 (c_L_account  _ _ hv217) (by decide) (Nat.le_of_ble_eq_true rfl) ce_L_account ml_L_155 st_L_account rfl (Nat.le_of_ble_eq_true rfl) rfl ?_
                        refine lo_lcmp (pc := 258) dL_law_258 ?_
                        refine lo_if_ne (pc := 259) (tgt := 283) dL_law_259 (by decide) (fun c218 => ?_) (fun c218 => ?_)
                        · rw [if_neg c218] at h
                          refine lo_iconst (pc := 283) (v := (0 : Int32)) dL_law_283 (by decide) ?_
                          obtain rfl := Option.some.inj h
                          exact lo_iret (pc := 284) .boolean dL_law_284 rfl rfl rfl
                        · rw [if_pos c218] at h
                          refine lo_aload_n (pc := 262) dL_law_262 rfl rfl ?_
                          obtain ⟨v219, hv220, h⟩ := fm_bind h
                          refine lo_callSj (pc := 263) (As := [.ref 0]) (st := []) dL_law_263 (c_L_mark  _ hv220) (by decide) (Nat.le_of_ble_eq_true rfl) ce_L_mark ml_L_203 st_L_mark rfl (Nat.le_of_ble_eq_true rfl) rfl ?_
                          refine lo_lload (pc := 266) dL_law_266 rfl ?_
                          refine lo_lcmp (pc := 268) dL_law_268 ?_
                          refine lo_if_ne (pc := 269) (tgt := 283) dL_law_269 (by decide) (fun c221 => ?_) (fun c221 => ?_)
                          · rw [if_neg c221] at h
                            refine lo_iconst (pc := 283) (v := (0 : Int32)) dL_law_283 (by decide) ?_
                            obtain rfl := Option.some.inj h
                            exact lo_iret (pc := 284) .boolean dL_law_284 rfl rfl rfl
                          · rw [if_pos c221] at h
                            refine lo_aload_n (pc := 272) dL_law_272 rfl rfl ?_
                            obtain ⟨v222, hv223, h⟩ := fm_bind h
                            refine lo_callSj (pc := 273) (As := [.ref 0]) (st := []) dL_law_273 (c_L_undo  _ hv223) (by decide) (Nat.le_of_ble_eq_true rfl) ce_L_undo ml_L_212 st_L_undo rfl (Nat.le_of_ble_eq_true rfl) rfl ?_
                            refine lo_ldc2 (pc := 276) (v := (-15 : Int64)) dL_law_276 cs_L_254 ?_
                            refine lo_lcmp (pc := 279) dL_law_279 ?_
                            refine lo_if_eq (pc := 280) (tgt := 285) dL_law_280 (by decide) (fun c224 => ?_) (fun c224 => ?_)
                            · rw [if_pos c224] at h
                              refine lo_iload_n (pc := 285) dL_law_285 rfl rfl ?_
                              refine lo_iconst (pc := 286) (v := (4 : Int32)) dL_law_286 (by decide) ?_
                              refine lo_irem (pc := 287) dL_law_287 (by decide) ?_
                              refine lo_iconst (pc := 288) (v := (1 : Int32)) dL_law_288 (by decide) ?_
                              refine lo_icmp_ne (pc := 289) (tgt := 304) dL_law_289 (by decide) (fun c225 => ?_) (fun c225 => ?_)
                              · rw [if_neg c225] at h
                                refine lo_iinc (pc := 304) (v := (y2 + (1 : Int32))) (ls1 := [some (.ref 4000), some (.ref 0), some (.int (y2 + (1 : Int32))), some (.int v17), some (.long v19), none, some (.long v21), none, some (.long v23.1), none, some (.long v205), none]) dL_law_304 rfl rfl (Nat.le_of_ble_eq_true rfl) rfl rfl ?_
                                refine lo_goto (pc := 307) (tgt := 104) dL_law_307 (by decide) ?_
                                refine lo_drop 3 (ls1 := [some (.ref 4000), some (.ref 0), some (.int (y2 + (1 : Int32))), none, some (.long v19), none, some (.long v21), none, some (.long v23.1), none, some (.long v205), none]) rfl ?_
                                refine lo_drop 4 (ls1 := [some (.ref 4000), some (.ref 0), some (.int (y2 + (1 : Int32))), none, none, none, some (.long v21), none, some (.long v23.1), none, some (.long v205), none]) rfl ?_
                                refine lo_drop 6 (ls1 := [some (.ref 4000), some (.ref 0), some (.int (y2 + (1 : Int32))), none, none, none, none, none, some (.long v23.1), none, some (.long v205), none]) rfl ?_
                                refine lo_drop 8 (ls1 := [some (.ref 4000), some (.ref 0), some (.int (y2 + (1 : Int32))), none, none, none, none, none, none, none, some (.long v205), none]) rfl ?_
                                refine lo_drop 10 (ls1 := [some (.ref 4000), some (.ref 0), some (.int (y2 + (1 : Int32))), none, none, none, none, none, none, none, none, none]) rfl ?_
                                exact ih _ _ _ h
                              · rw [if_pos c225] at h
                                refine lo_aload_n (pc := 292) dL_law_292 rfl rfl ?_
                                refine lo_iload_n (pc := 293) dL_law_293 rfl rfl ?_
                                refine lo_iconst (pc := 294) (v := (3 : Int32)) dL_law_294 (by decide) ?_
                                refine lo_ishr (pc := 295) dL_law_295 ?_
                                obtain ⟨v226, hv227, h⟩ := fm_bind h
                                refine lo_callSi (pc := 296) (As := [.ref 0, .int (v17 >>> ((3 : Int32) &&& 31))]) (st := []) dL_law_296 (c_L_fits  _ _ hv227) (by decide) (Nat.le_of_ble_eq_true rfl) ce_L_fits ml_L_256 st_L_fits rfl (Nat.le_of_ble_eq_true rfl) rfl ?_
                                refine lo_ifb_ne (pc := 299) (tgt := 304) dL_law_299 (by decide) (fun c228 => ?_) (fun c228 => ?_)
                                · rw [if_pos c228] at h
                                  refine lo_iinc (pc := 304) (v := (y2 + (1 : Int32))) (ls1 := [some (.ref 4000), some (.ref 0), some (.int (y2 + (1 : Int32))), some (.int v17), some (.long v19), none, some (.long v21), none, some (.long v23.1), none, some (.long v205), none]) dL_law_304 rfl rfl (Nat.le_of_ble_eq_true rfl) rfl rfl ?_
                                  refine lo_goto (pc := 307) (tgt := 104) dL_law_307 (by decide) ?_
                                  refine lo_drop 3 (ls1 := [some (.ref 4000), some (.ref 0), some (.int (y2 + (1 : Int32))), none, some (.long v19), none, some (.long v21), none, some (.long v23.1), none, some (.long v205), none]) rfl ?_
                                  refine lo_drop 4 (ls1 := [some (.ref 4000), some (.ref 0), some (.int (y2 + (1 : Int32))), none, none, none, some (.long v21), none, some (.long v23.1), none, some (.long v205), none]) rfl ?_
                                  refine lo_drop 6 (ls1 := [some (.ref 4000), some (.ref 0), some (.int (y2 + (1 : Int32))), none, none, none, none, none, some (.long v23.1), none, some (.long v205), none]) rfl ?_
                                  refine lo_drop 8 (ls1 := [some (.ref 4000), some (.ref 0), some (.int (y2 + (1 : Int32))), none, none, none, none, none, none, none, some (.long v205), none]) rfl ?_
                                  refine lo_drop 10 (ls1 := [some (.ref 4000), some (.ref 0), some (.int (y2 + (1 : Int32))), none, none, none, none, none, none, none, none, none]) rfl ?_
                                  exact ih _ _ _ h
                                · rw [if_neg (by rw [c228]; decide)] at h
                                  refine lo_iconst (pc := 302) (v := (0 : Int32)) dL_law_302 (by decide) ?_
                                  obtain rfl := Option.some.inj h
                                  exact lo_iret (pc := 303) .boolean dL_law_303 rfl rfl rfl
                            · rw [if_neg c224] at h
                              refine lo_iconst (pc := 283) (v := (0 : Int32)) dL_law_283 (by decide) ?_
                              obtain rfl := Option.some.inj h
                              exact lo_iret (pc := 284) .boolean dL_law_284 rfl rfl rfl
                      · rw [if_neg c211] at h
                        refine lo_iconst (pc := 239) (v := (0 : Int32)) dL_law_239 (by decide) ?_
                        obtain rfl := Option.some.inj h
                        exact lo_iret (pc := 240) .boolean dL_law_240 rfl rfl rfl
                  · rw [if_neg c197] at h
                    refine lo_iconst (pc := 206) (v := (0 : Int32)) dL_law_206 (by decide) ?_
                    obtain rfl := Option.some.inj h
                    exact lo_iret (pc := 207) .boolean dL_law_207 rfl rfl rfl
          · rw [if_neg c131] at h
            refine lo_iconst (pc := 165) (v := (0 : Int32)) dL_law_165 (by decide) ?_
            obtain rfl := Option.some.inj h
            exact lo_iret (pc := 166) .boolean dL_law_166 rfl rfl rfl
set_option maxRecDepth 100000 in
set_option maxHeartbeats 4000000 in
theorem c_L_law_L10 {L : Nat} {xs : Nat → Int32} {X : List fm_L} : ∀ (n : Nat) (y2 : Int32) (m : fm_M) (res : Bool × fm_M), f_L_law_L10 L xs n y2 m = some res → fl_Go L xs (fm_layH ++ X) 11 m_L_law (fun v _ => v = some (.int (fm_b res.1))) 10 [some (.ref 4000), some (.ref 0), some (.int y2), none, none, none, none, none, none, none, none, none] [] m := by
  intro n
  induction n with
  | zero => intro y2 m res h; cases h
  | succ n ih =>
    intro y2 m res h
    rw [f_L_law_L10] at h
    refine lo_iload_n (pc := 10) dL_law_10 rfl rfl ?_
    refine lo_bipush (pc := 11) (v := (6 : Int32)) dL_law_11 (by decide) ?_
    refine lo_icmp_ge (pc := 13) (tgt := 61) dL_law_13 (by decide) (fun c1 => ?_) (fun c1 => ?_)
    · rw [if_pos c1] at h
      refine lo_aload_n (pc := 61) dL_law_61 rfl rfl ?_
      refine lo_iconst (pc := 62) (v := (0 : Int32)) dL_law_62 (by decide) ?_
      obtain ⟨v2, hv3, h⟩ := fm_bind h
      refine lo_callSj (pc := 63) (As := [.ref 0, .int (0 : Int32)]) (st := []) dL_law_63 (c_L_choose  _ _ hv3) (by decide) (Nat.le_of_ble_eq_true rfl) ce_L_choose ml_L_181 st_L_choose rfl (Nat.le_of_ble_eq_true rfl) rfl ?_
      refine lo_pop2 (pc := 66) dL_law_66 ?_
      refine lo_aload_n (pc := 67) dL_law_67 rfl rfl ?_
      refine lo_iconst (pc := 68) (v := (1 : Int32)) dL_law_68 (by decide) ?_
      obtain ⟨v4, hv5, h⟩ := fm_bind h
      refine lo_callSj (pc := 69) (As := [.ref 0, .int (1 : Int32)]) (st := []) dL_law_69 (c_L_choose  _ _ hv5) (by decide) (Nat.le_of_ble_eq_true rfl) ce_L_choose ml_L_181 st_L_choose rfl (Nat.le_of_ble_eq_true rfl) rfl ?_
      refine lo_pop2 (pc := 72) dL_law_72 ?_
      refine lo_aload_n (pc := 73) dL_law_73 rfl rfl ?_
      refine lo_aload_n (pc := 74) dL_law_74 rfl rfl ?_
      refine lo_iconst (pc := 75) (v := (2 : Int32)) dL_law_75 (by decide) ?_
      obtain ⟨v6, hv7, h⟩ := fm_bind h
      refine lo_callSi (pc := 76) (As := [.ref 4000, .int (2 : Int32)]) (st := [.ref 0]) dL_law_76 (c_L_cell  _ _ hv7) (by decide) (Nat.le_of_ble_eq_true rfl) ce_L_cell ml_L_235 st_L_cell rfl (Nat.le_of_ble_eq_true rfl) rfl ?_
      refine lo_bipush (pc := 79) (v := (20 : Int32)) dL_law_79 (by decide) ?_
      obtain ⟨v8, hv9, h⟩ := fm_bind h
      refine lo_callSi (pc := 81) (As := [.int v6, .int (20 : Int32)]) (st := [.ref 0]) dL_law_81 (c_L_pick  _ _ _ hv9) (by decide) (Nat.le_of_ble_eq_true rfl) ce_L_pick ml_L_171 st_L_pick rfl (Nat.le_of_ble_eq_true rfl) rfl ?_
      refine lo_iconst (pc := 84) (v := (1 : Int32)) dL_law_84 (by decide) ?_
      refine lo_aload_n (pc := 85) dL_law_85 rfl rfl ?_
      refine lo_iconst (pc := 86) (v := (2 : Int32)) dL_law_86 (by decide) ?_
      obtain ⟨v10, hv11, h⟩ := fm_bind h
      refine lo_callSi (pc := 87) (As := [.ref 4000, .int (2 : Int32)]) (st := [.int (1 : Int32), .int v8, .ref 0]) dL_law_87 (c_L_cell  _ _ hv11) (by decide) (Nat.le_of_ble_eq_true rfl) ce_L_cell ml_L_235 st_L_cell rfl (Nat.le_of_ble_eq_true rfl) rfl ?_
      refine lo_iconst (pc := 90) (v := (5 : Int32)) dL_law_90 (by decide) ?_
      refine lo_ishr (pc := 91) dL_law_91 ?_
      refine lo_bipush (pc := 92) (v := (9 : Int32)) dL_law_92 (by decide) ?_
      obtain ⟨v12, hv13, h⟩ := fm_bind h
      refine lo_callSi (pc := 94) (As := [.int (v10 >>> ((5 : Int32) &&& 31)), .int (9 : Int32)]) (st := [.int (1 : Int32), .int v8, .ref 0]) dL_law_94 (c_L_pick  _ _ _ hv13) (by decide) (Nat.le_of_ble_eq_true rfl) ce_L_pick ml_L_171 st_L_pick rfl (Nat.le_of_ble_eq_true rfl) rfl ?_
      refine lo_iadd (pc := 97) dL_law_97 ?_
      obtain ⟨v14, hv15, h⟩ := fm_bind h
      refine lo_callSj (pc := 98) (As := [.ref 0, .int v8, .int ((1 : Int32) + v12)]) (st := []) dL_law_98 (c_L_feast  _ _ _ hv15) (by decide) (Nat.le_of_ble_eq_true rfl) ce_L_feast ml_L_185 st_L_feast rfl (Nat.le_of_ble_eq_true rfl) rfl ?_
      refine lo_pop2 (pc := 101) dL_law_101 ?_
      refine lo_iconst (pc := 102) (v := (3 : Int32)) dL_law_102 (by decide) ?_
      refine lo_istore_n (pc := 103) (ls1 := [some (.ref 4000), some (.ref 0), some (.int (3 : Int32)), none, none, none, none, none, none, none, none, none]) dL_law_103 rfl (by decide) rfl rfl ?_
      exact c_L_law_L104  fm_F _ _ _ h
    · rw [if_neg c1] at h
      refine lo_aload_n (pc := 16) dL_law_16 rfl rfl ?_
      refine lo_bipush (pc := 17) (v := (50 : Int32)) dL_law_17 (by decide) ?_
      refine lo_aload_n (pc := 19) dL_law_19 rfl rfl ?_
      refine lo_iconst (pc := 20) (v := (0 : Int32)) dL_law_20 (by decide) ?_
      obtain ⟨v229, hv230, h⟩ := fm_bind h
      refine lo_callSi (pc := 21) (As := [.ref 4000, .int (0 : Int32)]) (st := [.int (50 : Int32), .ref 0]) dL_law_21 (c_L_cell  _ _ hv230) (by decide) (Nat.le_of_ble_eq_true rfl) ce_L_cell ml_L_235 st_L_cell rfl (Nat.le_of_ble_eq_true rfl) rfl ?_
      refine lo_iload_n (pc := 24) dL_law_24 rfl rfl ?_
      refine lo_ishr (pc := 25) dL_law_25 ?_
      refine lo_bipush (pc := 26) (v := (41 : Int32)) dL_law_26 (by decide) ?_
      obtain ⟨v231, hv232, h⟩ := fm_bind h
      refine lo_callSi (pc := 28) (As := [.int (v229 >>> (y2 &&& 31)), .int (41 : Int32)]) (st := [.int (50 : Int32), .ref 0]) dL_law_28 (c_L_pick  _ _ _ hv232) (by decide) (Nat.le_of_ble_eq_true rfl) ce_L_pick ml_L_171 st_L_pick rfl (Nat.le_of_ble_eq_true rfl) rfl ?_
      refine lo_iadd (pc := 31) dL_law_31 ?_
      refine lo_aload_n (pc := 32) dL_law_32 rfl rfl ?_
      refine lo_iconst (pc := 33) (v := (1 : Int32)) dL_law_33 (by decide) ?_
      obtain ⟨v233, hv234, h⟩ := fm_bind h
      refine lo_callSi (pc := 34) (As := [.ref 4000, .int (1 : Int32)]) (st := [.int ((50 : Int32) + v231), .ref 0]) dL_law_34 (c_L_cell  _ _ hv234) (by decide) (Nat.le_of_ble_eq_true rfl) ce_L_cell ml_L_235 st_L_cell rfl (Nat.le_of_ble_eq_true rfl) rfl ?_
      refine lo_iload_n (pc := 37) dL_law_37 rfl rfl ?_
      refine lo_ishr (pc := 38) dL_law_38 ?_
      refine lo_iconst (pc := 39) (v := (2 : Int32)) dL_law_39 (by decide) ?_
      obtain ⟨v235, hv236, h⟩ := fm_bind h
      refine lo_callSi (pc := 40) (As := [.int (v233 >>> (y2 &&& 31)), .int (2 : Int32)]) (st := [.int ((50 : Int32) + v231), .ref 0]) dL_law_40 (c_L_pick  _ _ _ hv236) (by decide) (Nat.le_of_ble_eq_true rfl) ce_L_pick ml_L_171 st_L_pick rfl (Nat.le_of_ble_eq_true rfl) rfl ?_
      refine lo_if_ne (pc := 43) (tgt := 50) dL_law_43 (by decide) (fun c237 => ?_) (fun c237 => ?_)
      · rw [if_neg c237] at h
        refine lo_iconst (pc := 50) (v := (0 : Int32)) dL_law_50 (by decide) ?_
        obtain ⟨v238, hv239, h⟩ := fm_bind h
        refine lo_callSj (pc := 51) (As := [.ref 0, .int ((50 : Int32) + v231), .int (0 : Int32)]) (st := []) dL_law_51 (c_L_come  _ _ _ hv239) (by decide) (Nat.le_of_ble_eq_true rfl) ce_L_come ml_L_174 st_L_come rfl (Nat.le_of_ble_eq_true rfl) rfl ?_
        refine lo_pop2 (pc := 54) dL_law_54 ?_
        refine lo_iinc (pc := 55) (v := (y2 + (1 : Int32))) (ls1 := [some (.ref 4000), some (.ref 0), some (.int (y2 + (1 : Int32))), none, none, none, none, none, none, none, none, none]) dL_law_55 rfl rfl (Nat.le_of_ble_eq_true rfl) rfl rfl ?_
        refine lo_goto (pc := 58) (tgt := 10) dL_law_58 (by decide) ?_
        exact ih _ _ _ h
      · rw [if_pos c237] at h
        refine lo_iconst (pc := 46) (v := (1 : Int32)) dL_law_46 (by decide) ?_
        refine lo_goto (pc := 47) (tgt := 51) dL_law_47 (by decide) ?_
        obtain ⟨v240, hv241, h⟩ := fm_bind h
        refine lo_callSj (pc := 51) (As := [.ref 0, .int ((50 : Int32) + v231), .int (1 : Int32)]) (st := []) dL_law_51 (c_L_come  _ _ _ hv241) (by decide) (Nat.le_of_ble_eq_true rfl) ce_L_come ml_L_174 st_L_come rfl (Nat.le_of_ble_eq_true rfl) rfl ?_
        refine lo_pop2 (pc := 54) dL_law_54 ?_
        refine lo_iinc (pc := 55) (v := (y2 + (1 : Int32))) (ls1 := [some (.ref 4000), some (.ref 0), some (.int (y2 + (1 : Int32))), none, none, none, none, none, none, none, none, none]) dL_law_55 rfl rfl (Nat.le_of_ble_eq_true rfl) rfl rfl ?_
        refine lo_goto (pc := 58) (tgt := 10) dL_law_58 (by decide) ?_
        exact ih _ _ _ h
set_option maxRecDepth 100000 in
set_option maxHeartbeats 4000000 in
theorem c_L_law {L : Nat} {xs : Nat → Int32} {X : List fm_L} (m : fm_M) {res : Bool × fm_M} (h : f_L_law L xs m = some res) : fl_Go L xs (fm_layH ++ X) 11 m_L_law (fun v _ => v = some (.int (fm_b res.1))) 8 [some (.ref 4000), some (.ref 0), none, none, none, none, none, none, none, none, none, none] [] m := by
  unfold f_L_law at h
  refine lo_iconst (pc := 8) (v := (0 : Int32)) dL_law_8 (by decide) ?_
  refine lo_istore_n (pc := 9) (ls1 := [some (.ref 4000), some (.ref 0), some (.int (0 : Int32)), none, none, none, none, none, none, none, none, none]) dL_law_9 rfl (by decide) rfl rfl ?_
  exact c_L_law_L10  fm_F _ _ _ h

def f_L_acts (x1 : Int32) (m : fm_M) : Option (Int64 × fm_M) :=
  (f_L_pick (x1 >>> ((8 : Int32) &&& 31)) (4000 : Int32) m).bind fun v1 => (f_L_pick x1 (22 : Int32) m).bind fun v3 => if v3 = (0 : Int32) then (if (v1 - v1 / (2 : Int32) * (2 : Int32)) = 0 then ((f_L_come ((50 : Int32) + (v1 - v1 / (41 : Int32) * (41 : Int32))) (1 : Int32) m).bind fun v9 => some (v9.1, v9.2)) else ((f_L_come ((50 : Int32) + (v1 - v1 / (41 : Int32) * (41 : Int32))) (0 : Int32) m).bind fun v7 => some (v7.1, v7.2))) else (if v3 = (1 : Int32) then ((f_L_withdraw (v1 - v1 / (9 : Int32) * (9 : Int32)) m).bind fun v12 => some (v12.1, v12.2)) else (if v3 = (2 : Int32) then ((f_L_voice (v1 - v1 / (5 : Int32) * (5 : Int32)) ((2 : Int32) + ((v1 / (5 : Int32)) - (v1 / (5 : Int32)) / (7 : Int32) * (7 : Int32))) m).bind fun v15 => some (v15.1, v15.2)) else (if v3 = (3 : Int32) then ((f_L_voice (v1 - v1 / (5 : Int32) * (5 : Int32)) ((2 : Int32) + ((v1 / (5 : Int32)) - (v1 / (5 : Int32)) / (7 : Int32) * (7 : Int32))) m).bind fun v18 => some (v18.1, v18.2)) else (if v3 = (4 : Int32) then ((f_L_voice (v1 - v1 / (5 : Int32) * (5 : Int32)) ((2 : Int32) + ((v1 / (5 : Int32)) - (v1 / (5 : Int32)) / (7 : Int32) * (7 : Int32))) m).bind fun v21 => some (v21.1, v21.2)) else (if v3 = (5 : Int32) then ((f_L_choose (v1 - v1 / (8 : Int32) * (8 : Int32)) m).bind fun v24 => some (v24.1, v24.2)) else (if v3 = (6 : Int32) then ((f_L_choose (v1 - v1 / (8 : Int32) * (8 : Int32)) m).bind fun v27 => some (v27.1, v27.2)) else (if v3 = (7 : Int32) then ((f_L_choose (v1 - v1 / (8 : Int32) * (8 : Int32)) m).bind fun v30 => some (v30.1, v30.2)) else (if v3 = (8 : Int32) then ((f_L_leave (v1 - v1 / (8 : Int32) * (8 : Int32)) m).bind fun v33 => some (v33.1, v33.2)) else (if v3 = (9 : Int32) then ((f_L_feast (v1 - v1 / (12 : Int32) * (12 : Int32)) ((1 : Int32) + ((v1 / (12 : Int32)) - (v1 / (12 : Int32)) / (9 : Int32) * (9 : Int32))) m).bind fun v36 => some (v36.1, v36.2)) else (if v3 = (10 : Int32) then ((f_L_breach (v1 - v1 / (6 : Int32) * (6 : Int32)) ((v1 / (6 : Int32)) - (v1 / (6 : Int32)) / (5 : Int32) * (5 : Int32)) m).bind fun v39 => some (v39.1, v39.2)) else (if v3 = (11 : Int32) then ((f_L_breach (v1 - v1 / (6 : Int32) * (6 : Int32)) ((v1 / (6 : Int32)) - (v1 / (6 : Int32)) / (5 : Int32) * (5 : Int32)) m).bind fun v42 => some (v42.1, v42.2)) else (if v3 = (12 : Int32) then ((f_L_pardon (v1 - v1 / (6 : Int32) * (6 : Int32)) m).bind fun v45 => some (v45.1, v45.2)) else (if v3 = (13 : Int32) then ((f_L_gift ((1 : Int32) + (v1 - v1 / (60 : Int32) * (60 : Int32))) m).bind fun v48 => some (v48.1, v48.2)) else (if v3 = (14 : Int32) then (if fm_in (v1 - v1 / (8 : Int32) * (8 : Int32)) 8 = true then ((f_L_told (8 + (v1 - v1 / (8 : Int32) * (8 : Int32)).toNatClampNeg) m).bind fun v52 => some (v52.1, v52.2)) else none) else (if v3 = (15 : Int32) then (if fm_in (v1 - v1 / (8 : Int32) * (8 : Int32)) 8 = true then ((f_L_told (8 + (v1 - v1 / (8 : Int32) * (8 : Int32)).toNatClampNeg) m).bind fun v56 => some (v56.1, v56.2)) else none) else (if v3 = (16 : Int32) then (if fm_in (v1 - v1 / (8 : Int32) * (8 : Int32)) 8 = true then ((f_L_told (8 + (v1 - v1 / (8 : Int32) * (8 : Int32)).toNatClampNeg) m).bind fun v60 => some (v60.1, v60.2)) else none) else ((f_L_weeks ((1 : Int32) + (v1 - v1 / (9 : Int32) * (9 : Int32))) m).bind fun v62 => some (v62.1, v62.2))))))))))))))))))
set_option maxRecDepth 100000 in
set_option maxHeartbeats 4000000 in
theorem c_L_acts {L : Nat} {xs : Nat → Int32} {X : List fm_L} (x1 : Int32) (m : fm_M) {res : Int64 × fm_M} (h : f_L_acts x1 m = some res) : fl_Met L xs (fm_layH ++ X) 10 m_L_acts [.ref 0, .int x1] m (fm_pj res.1 res.2) := by
  refine fl_Met_of (ls := [some (.ref 0), some (.int x1), none]) (by decide) rfl (fm_cc_r _ (fm_cc_i _ fm_cc_0)) (Nat.le_of_ble_eq_true rfl) rfl ?_
  unfold f_L_acts at h
  refine lo_iload_n (pc := 0) dL_acts_0 rfl rfl ?_
  refine lo_bipush (pc := 1) (v := (8 : Int32)) dL_acts_1 (by decide) ?_
  refine lo_ishr (pc := 3) dL_acts_3 ?_
  refine lo_sipush (pc := 4) (v := (4000 : Int32)) dL_acts_4 (by decide) ?_
  obtain ⟨v1, hv2, h⟩ := fm_bind h
  refine lo_callSi (pc := 7) (As := [.int (x1 >>> ((8 : Int32) &&& 31)), .int (4000 : Int32)]) (st := []) dL_acts_7 (c_L_pick  _ _ _ hv2) (by decide) (Nat.le_of_ble_eq_true rfl) ce_L_pick ml_L_171 st_L_pick rfl (Nat.le_of_ble_eq_true rfl) rfl ?_
  refine lo_istore_n (pc := 10) (ls1 := [some (.ref 0), some (.int x1), some (.int v1)]) dL_acts_10 rfl (by decide) rfl rfl ?_
  refine lo_iload_n (pc := 11) dL_acts_11 rfl rfl ?_
  refine lo_bipush (pc := 12) (v := (22 : Int32)) dL_acts_12 (by decide) ?_
  obtain ⟨v3, hv4, h⟩ := fm_bind h
  refine lo_callSi (pc := 14) (As := [.int x1, .int (22 : Int32)]) (st := []) dL_acts_14 (c_L_pick  _ _ _ hv4) (by decide) (Nat.le_of_ble_eq_true rfl) ce_L_pick ml_L_171 st_L_pick rfl (Nat.le_of_ble_eq_true rfl) rfl ?_
  by_cases c5 : v3 = (0 : Int32)
  · rw [if_pos c5] at h
    refine lo_tswHit (pc := 17) (tgt := 100) dL_acts_17 c5 (by decide) (by decide) rfl (by decide) ?_
    refine lo_aload_n (pc := 100) dL_acts_100 rfl rfl ?_
    refine lo_bipush (pc := 101) (v := (50 : Int32)) dL_acts_101 (by decide) ?_
    refine lo_iload_n (pc := 103) dL_acts_103 rfl rfl ?_
    refine lo_bipush (pc := 104) (v := (41 : Int32)) dL_acts_104 (by decide) ?_
    refine lo_irem (pc := 106) dL_acts_106 (by decide) ?_
    refine lo_iadd (pc := 107) dL_acts_107 ?_
    refine lo_iload_n (pc := 108) dL_acts_108 rfl rfl ?_
    refine lo_iconst (pc := 109) (v := (2 : Int32)) dL_acts_109 (by decide) ?_
    refine lo_irem (pc := 110) dL_acts_110 (by decide) ?_
    refine lo_if_ne (pc := 111) (tgt := 118) dL_acts_111 (by decide) (fun c6 => ?_) (fun c6 => ?_)
    · rw [if_neg c6] at h
      refine lo_iconst (pc := 118) (v := (0 : Int32)) dL_acts_118 (by decide) ?_
      obtain ⟨v7, hv8, h⟩ := fm_bind h
      refine lo_callSj (pc := 119) (As := [.ref 0, .int ((50 : Int32) + (v1 - v1 / (41 : Int32) * (41 : Int32))), .int (0 : Int32)]) (st := []) dL_acts_119 (c_L_come  _ _ _ hv8) (by decide) (Nat.le_of_ble_eq_true rfl) ce_L_come ml_L_174 st_L_come rfl (Nat.le_of_ble_eq_true rfl) rfl ?_
      obtain rfl := Option.some.inj h
      exact lo_lret (pc := 122) dL_acts_122 rfl ⟨rfl, rfl⟩
    · rw [if_pos c6] at h
      refine lo_iconst (pc := 114) (v := (1 : Int32)) dL_acts_114 (by decide) ?_
      refine lo_goto (pc := 115) (tgt := 119) dL_acts_115 (by decide) ?_
      obtain ⟨v9, hv10, h⟩ := fm_bind h
      refine lo_callSj (pc := 119) (As := [.ref 0, .int ((50 : Int32) + (v1 - v1 / (41 : Int32) * (41 : Int32))), .int (1 : Int32)]) (st := []) dL_acts_119 (c_L_come  _ _ _ hv10) (by decide) (Nat.le_of_ble_eq_true rfl) ce_L_come ml_L_174 st_L_come rfl (Nat.le_of_ble_eq_true rfl) rfl ?_
      obtain rfl := Option.some.inj h
      exact lo_lret (pc := 122) dL_acts_122 rfl ⟨rfl, rfl⟩
  rw [if_neg c5] at h
  by_cases c11 : v3 = (1 : Int32)
  · rw [if_pos c11] at h
    refine lo_tswHit (pc := 17) (tgt := 123) dL_acts_17 c11 (by decide) (by decide) rfl (by decide) ?_
    refine lo_aload_n (pc := 123) dL_acts_123 rfl rfl ?_
    refine lo_iload_n (pc := 124) dL_acts_124 rfl rfl ?_
    refine lo_bipush (pc := 125) (v := (9 : Int32)) dL_acts_125 (by decide) ?_
    refine lo_irem (pc := 127) dL_acts_127 (by decide) ?_
    obtain ⟨v12, hv13, h⟩ := fm_bind h
    refine lo_callSj (pc := 128) (As := [.ref 0, .int (v1 - v1 / (9 : Int32) * (9 : Int32))]) (st := []) dL_acts_128 (c_L_withdraw  _ _ hv13) (by decide) (Nat.le_of_ble_eq_true rfl) ce_L_withdraw ml_L_177 st_L_withdraw rfl (Nat.le_of_ble_eq_true rfl) rfl ?_
    obtain rfl := Option.some.inj h
    exact lo_lret (pc := 131) dL_acts_131 rfl ⟨rfl, rfl⟩
  rw [if_neg c11] at h
  by_cases c14 : v3 = (2 : Int32)
  · rw [if_pos c14] at h
    refine lo_tswHit (pc := 17) (tgt := 132) dL_acts_17 c14 (by decide) (by decide) rfl (by decide) ?_
    refine lo_aload_n (pc := 132) dL_acts_132 rfl rfl ?_
    refine lo_iload_n (pc := 133) dL_acts_133 rfl rfl ?_
    refine lo_iconst (pc := 134) (v := (5 : Int32)) dL_acts_134 (by decide) ?_
    refine lo_irem (pc := 135) dL_acts_135 (by decide) ?_
    refine lo_iconst (pc := 136) (v := (2 : Int32)) dL_acts_136 (by decide) ?_
    refine lo_iload_n (pc := 137) dL_acts_137 rfl rfl ?_
    refine lo_iconst (pc := 138) (v := (5 : Int32)) dL_acts_138 (by decide) ?_
    refine lo_idiv (pc := 139) dL_acts_139 (by decide) ?_
    refine lo_bipush (pc := 140) (v := (7 : Int32)) dL_acts_140 (by decide) ?_
    refine lo_irem (pc := 142) dL_acts_142 (by decide) ?_
    refine lo_iadd (pc := 143) dL_acts_143 ?_
    obtain ⟨v15, hv16, h⟩ := fm_bind h
    refine lo_callSj (pc := 144) (As := [.ref 0, .int (v1 - v1 / (5 : Int32) * (5 : Int32)), .int ((2 : Int32) + ((v1 / (5 : Int32)) - (v1 / (5 : Int32)) / (7 : Int32) * (7 : Int32)))]) (st := []) dL_acts_144 (c_L_voice  _ _ _ hv16) (by decide) (Nat.le_of_ble_eq_true rfl) ce_L_voice ml_L_179 st_L_voice rfl (Nat.le_of_ble_eq_true rfl) rfl ?_
    obtain rfl := Option.some.inj h
    exact lo_lret (pc := 147) dL_acts_147 rfl ⟨rfl, rfl⟩
  rw [if_neg c14] at h
  by_cases c17 : v3 = (3 : Int32)
  · rw [if_pos c17] at h
    refine lo_tswHit (pc := 17) (tgt := 132) dL_acts_17 c17 (by decide) (by decide) rfl (by decide) ?_
    refine lo_aload_n (pc := 132) dL_acts_132 rfl rfl ?_
    refine lo_iload_n (pc := 133) dL_acts_133 rfl rfl ?_
    refine lo_iconst (pc := 134) (v := (5 : Int32)) dL_acts_134 (by decide) ?_
    refine lo_irem (pc := 135) dL_acts_135 (by decide) ?_
    refine lo_iconst (pc := 136) (v := (2 : Int32)) dL_acts_136 (by decide) ?_
    refine lo_iload_n (pc := 137) dL_acts_137 rfl rfl ?_
    refine lo_iconst (pc := 138) (v := (5 : Int32)) dL_acts_138 (by decide) ?_
    refine lo_idiv (pc := 139) dL_acts_139 (by decide) ?_
    refine lo_bipush (pc := 140) (v := (7 : Int32)) dL_acts_140 (by decide) ?_
    refine lo_irem (pc := 142) dL_acts_142 (by decide) ?_
    refine lo_iadd (pc := 143) dL_acts_143 ?_
    obtain ⟨v18, hv19, h⟩ := fm_bind h
    refine lo_callSj (pc := 144) (As := [.ref 0, .int (v1 - v1 / (5 : Int32) * (5 : Int32)), .int ((2 : Int32) + ((v1 / (5 : Int32)) - (v1 / (5 : Int32)) / (7 : Int32) * (7 : Int32)))]) (st := []) dL_acts_144 (c_L_voice  _ _ _ hv19) (by decide) (Nat.le_of_ble_eq_true rfl) ce_L_voice ml_L_179 st_L_voice rfl (Nat.le_of_ble_eq_true rfl) rfl ?_
    obtain rfl := Option.some.inj h
    exact lo_lret (pc := 147) dL_acts_147 rfl ⟨rfl, rfl⟩
  rw [if_neg c17] at h
  by_cases c20 : v3 = (4 : Int32)
  · rw [if_pos c20] at h
    refine lo_tswHit (pc := 17) (tgt := 132) dL_acts_17 c20 (by decide) (by decide) rfl (by decide) ?_
    refine lo_aload_n (pc := 132) dL_acts_132 rfl rfl ?_
    refine lo_iload_n (pc := 133) dL_acts_133 rfl rfl ?_
    refine lo_iconst (pc := 134) (v := (5 : Int32)) dL_acts_134 (by decide) ?_
    refine lo_irem (pc := 135) dL_acts_135 (by decide) ?_
    refine lo_iconst (pc := 136) (v := (2 : Int32)) dL_acts_136 (by decide) ?_
    refine lo_iload_n (pc := 137) dL_acts_137 rfl rfl ?_
    refine lo_iconst (pc := 138) (v := (5 : Int32)) dL_acts_138 (by decide) ?_
    refine lo_idiv (pc := 139) dL_acts_139 (by decide) ?_
    refine lo_bipush (pc := 140) (v := (7 : Int32)) dL_acts_140 (by decide) ?_
    refine lo_irem (pc := 142) dL_acts_142 (by decide) ?_
    refine lo_iadd (pc := 143) dL_acts_143 ?_
    obtain ⟨v21, hv22, h⟩ := fm_bind h
    refine lo_callSj (pc := 144) (As := [.ref 0, .int (v1 - v1 / (5 : Int32) * (5 : Int32)), .int ((2 : Int32) + ((v1 / (5 : Int32)) - (v1 / (5 : Int32)) / (7 : Int32) * (7 : Int32)))]) (st := []) dL_acts_144 (c_L_voice  _ _ _ hv22) (by decide) (Nat.le_of_ble_eq_true rfl) ce_L_voice ml_L_179 st_L_voice rfl (Nat.le_of_ble_eq_true rfl) rfl ?_
    obtain rfl := Option.some.inj h
    exact lo_lret (pc := 147) dL_acts_147 rfl ⟨rfl, rfl⟩
  rw [if_neg c20] at h
  by_cases c23 : v3 = (5 : Int32)
  · rw [if_pos c23] at h
    refine lo_tswHit (pc := 17) (tgt := 148) dL_acts_17 c23 (by decide) (by decide) rfl (by decide) ?_
    refine lo_aload_n (pc := 148) dL_acts_148 rfl rfl ?_
    refine lo_iload_n (pc := 149) dL_acts_149 rfl rfl ?_
    refine lo_bipush (pc := 150) (v := (8 : Int32)) dL_acts_150 (by decide) ?_
    refine lo_irem (pc := 152) dL_acts_152 (by decide) ?_
    obtain ⟨v24, hv25, h⟩ := fm_bind h
    refine lo_callSj (pc := 153) (As := [.ref 0, .int (v1 - v1 / (8 : Int32) * (8 : Int32))]) (st := []) dL_acts_153 (c_L_choose  _ _ hv25) (by decide) (Nat.le_of_ble_eq_true rfl) ce_L_choose ml_L_181 st_L_choose rfl (Nat.le_of_ble_eq_true rfl) rfl ?_
    obtain rfl := Option.some.inj h
    exact lo_lret (pc := 156) dL_acts_156 rfl ⟨rfl, rfl⟩
  rw [if_neg c23] at h
  by_cases c26 : v3 = (6 : Int32)
  · rw [if_pos c26] at h
    refine lo_tswHit (pc := 17) (tgt := 148) dL_acts_17 c26 (by decide) (by decide) rfl (by decide) ?_
    refine lo_aload_n (pc := 148) dL_acts_148 rfl rfl ?_
    refine lo_iload_n (pc := 149) dL_acts_149 rfl rfl ?_
    refine lo_bipush (pc := 150) (v := (8 : Int32)) dL_acts_150 (by decide) ?_
    refine lo_irem (pc := 152) dL_acts_152 (by decide) ?_
    obtain ⟨v27, hv28, h⟩ := fm_bind h
    refine lo_callSj (pc := 153) (As := [.ref 0, .int (v1 - v1 / (8 : Int32) * (8 : Int32))]) (st := []) dL_acts_153 (c_L_choose  _ _ hv28) (by decide) (Nat.le_of_ble_eq_true rfl) ce_L_choose ml_L_181 st_L_choose rfl (Nat.le_of_ble_eq_true rfl) rfl ?_
    obtain rfl := Option.some.inj h
    exact lo_lret (pc := 156) dL_acts_156 rfl ⟨rfl, rfl⟩
  rw [if_neg c26] at h
  by_cases c29 : v3 = (7 : Int32)
  · rw [if_pos c29] at h
    refine lo_tswHit (pc := 17) (tgt := 148) dL_acts_17 c29 (by decide) (by decide) rfl (by decide) ?_
    refine lo_aload_n (pc := 148) dL_acts_148 rfl rfl ?_
    refine lo_iload_n (pc := 149) dL_acts_149 rfl rfl ?_
    refine lo_bipush (pc := 150) (v := (8 : Int32)) dL_acts_150 (by decide) ?_
    refine lo_irem (pc := 152) dL_acts_152 (by decide) ?_
    obtain ⟨v30, hv31, h⟩ := fm_bind h
    refine lo_callSj (pc := 153) (As := [.ref 0, .int (v1 - v1 / (8 : Int32) * (8 : Int32))]) (st := []) dL_acts_153 (c_L_choose  _ _ hv31) (by decide) (Nat.le_of_ble_eq_true rfl) ce_L_choose ml_L_181 st_L_choose rfl (Nat.le_of_ble_eq_true rfl) rfl ?_
    obtain rfl := Option.some.inj h
    exact lo_lret (pc := 156) dL_acts_156 rfl ⟨rfl, rfl⟩
  rw [if_neg c29] at h
  by_cases c32 : v3 = (8 : Int32)
  · rw [if_pos c32] at h
    refine lo_tswHit (pc := 17) (tgt := 157) dL_acts_17 c32 (by decide) (by decide) rfl (by decide) ?_
    refine lo_aload_n (pc := 157) dL_acts_157 rfl rfl ?_
    refine lo_iload_n (pc := 158) dL_acts_158 rfl rfl ?_
    refine lo_bipush (pc := 159) (v := (8 : Int32)) dL_acts_159 (by decide) ?_
    refine lo_irem (pc := 161) dL_acts_161 (by decide) ?_
    obtain ⟨v33, hv34, h⟩ := fm_bind h
    refine lo_callSj (pc := 162) (As := [.ref 0, .int (v1 - v1 / (8 : Int32) * (8 : Int32))]) (st := []) dL_acts_162 (c_L_leave  _ _ hv34) (by decide) (Nat.le_of_ble_eq_true rfl) ce_L_leave ml_L_183 st_L_leave rfl (Nat.le_of_ble_eq_true rfl) rfl ?_
    obtain rfl := Option.some.inj h
    exact lo_lret (pc := 165) dL_acts_165 rfl ⟨rfl, rfl⟩
  rw [if_neg c32] at h
  by_cases c35 : v3 = (9 : Int32)
  · rw [if_pos c35] at h
    refine lo_tswHit (pc := 17) (tgt := 166) dL_acts_17 c35 (by decide) (by decide) rfl (by decide) ?_
    refine lo_aload_n (pc := 166) dL_acts_166 rfl rfl ?_
    refine lo_iload_n (pc := 167) dL_acts_167 rfl rfl ?_
    refine lo_bipush (pc := 168) (v := (12 : Int32)) dL_acts_168 (by decide) ?_
    refine lo_irem (pc := 170) dL_acts_170 (by decide) ?_
    refine lo_iconst (pc := 171) (v := (1 : Int32)) dL_acts_171 (by decide) ?_
    refine lo_iload_n (pc := 172) dL_acts_172 rfl rfl ?_
    refine lo_bipush (pc := 173) (v := (12 : Int32)) dL_acts_173 (by decide) ?_
    refine lo_idiv (pc := 175) dL_acts_175 (by decide) ?_
    refine lo_bipush (pc := 176) (v := (9 : Int32)) dL_acts_176 (by decide) ?_
    refine lo_irem (pc := 178) dL_acts_178 (by decide) ?_
    refine lo_iadd (pc := 179) dL_acts_179 ?_
    obtain ⟨v36, hv37, h⟩ := fm_bind h
    refine lo_callSj (pc := 180) (As := [.ref 0, .int (v1 - v1 / (12 : Int32) * (12 : Int32)), .int ((1 : Int32) + ((v1 / (12 : Int32)) - (v1 / (12 : Int32)) / (9 : Int32) * (9 : Int32)))]) (st := []) dL_acts_180 (c_L_feast  _ _ _ hv37) (by decide) (Nat.le_of_ble_eq_true rfl) ce_L_feast ml_L_185 st_L_feast rfl (Nat.le_of_ble_eq_true rfl) rfl ?_
    obtain rfl := Option.some.inj h
    exact lo_lret (pc := 183) dL_acts_183 rfl ⟨rfl, rfl⟩
  rw [if_neg c35] at h
  by_cases c38 : v3 = (10 : Int32)
  · rw [if_pos c38] at h
    refine lo_tswHit (pc := 17) (tgt := 184) dL_acts_17 c38 (by decide) (by decide) rfl (by decide) ?_
    refine lo_aload_n (pc := 184) dL_acts_184 rfl rfl ?_
    refine lo_iload_n (pc := 185) dL_acts_185 rfl rfl ?_
    refine lo_bipush (pc := 186) (v := (6 : Int32)) dL_acts_186 (by decide) ?_
    refine lo_irem (pc := 188) dL_acts_188 (by decide) ?_
    refine lo_iload_n (pc := 189) dL_acts_189 rfl rfl ?_
    refine lo_bipush (pc := 190) (v := (6 : Int32)) dL_acts_190 (by decide) ?_
    refine lo_idiv (pc := 192) dL_acts_192 (by decide) ?_
    refine lo_iconst (pc := 193) (v := (5 : Int32)) dL_acts_193 (by decide) ?_
    refine lo_irem (pc := 194) dL_acts_194 (by decide) ?_
    obtain ⟨v39, hv40, h⟩ := fm_bind h
    refine lo_callSj (pc := 195) (As := [.ref 0, .int (v1 - v1 / (6 : Int32) * (6 : Int32)), .int ((v1 / (6 : Int32)) - (v1 / (6 : Int32)) / (5 : Int32) * (5 : Int32))]) (st := []) dL_acts_195 (c_L_breach  _ _ _ hv40) (by decide) (Nat.le_of_ble_eq_true rfl) ce_L_breach ml_L_187 st_L_breach rfl (Nat.le_of_ble_eq_true rfl) rfl ?_
    obtain rfl := Option.some.inj h
    exact lo_lret (pc := 198) dL_acts_198 rfl ⟨rfl, rfl⟩
  rw [if_neg c38] at h
  by_cases c41 : v3 = (11 : Int32)
  · rw [if_pos c41] at h
    refine lo_tswHit (pc := 17) (tgt := 184) dL_acts_17 c41 (by decide) (by decide) rfl (by decide) ?_
    refine lo_aload_n (pc := 184) dL_acts_184 rfl rfl ?_
    refine lo_iload_n (pc := 185) dL_acts_185 rfl rfl ?_
    refine lo_bipush (pc := 186) (v := (6 : Int32)) dL_acts_186 (by decide) ?_
    refine lo_irem (pc := 188) dL_acts_188 (by decide) ?_
    refine lo_iload_n (pc := 189) dL_acts_189 rfl rfl ?_
    refine lo_bipush (pc := 190) (v := (6 : Int32)) dL_acts_190 (by decide) ?_
    refine lo_idiv (pc := 192) dL_acts_192 (by decide) ?_
    refine lo_iconst (pc := 193) (v := (5 : Int32)) dL_acts_193 (by decide) ?_
    refine lo_irem (pc := 194) dL_acts_194 (by decide) ?_
    obtain ⟨v42, hv43, h⟩ := fm_bind h
    refine lo_callSj (pc := 195) (As := [.ref 0, .int (v1 - v1 / (6 : Int32) * (6 : Int32)), .int ((v1 / (6 : Int32)) - (v1 / (6 : Int32)) / (5 : Int32) * (5 : Int32))]) (st := []) dL_acts_195 (c_L_breach  _ _ _ hv43) (by decide) (Nat.le_of_ble_eq_true rfl) ce_L_breach ml_L_187 st_L_breach rfl (Nat.le_of_ble_eq_true rfl) rfl ?_
    obtain rfl := Option.some.inj h
    exact lo_lret (pc := 198) dL_acts_198 rfl ⟨rfl, rfl⟩
  rw [if_neg c41] at h
  by_cases c44 : v3 = (12 : Int32)
  · rw [if_pos c44] at h
    refine lo_tswHit (pc := 17) (tgt := 199) dL_acts_17 c44 (by decide) (by decide) rfl (by decide) ?_
    refine lo_aload_n (pc := 199) dL_acts_199 rfl rfl ?_
    refine lo_iload_n (pc := 200) dL_acts_200 rfl rfl ?_
    refine lo_bipush (pc := 201) (v := (6 : Int32)) dL_acts_201 (by decide) ?_
    refine lo_irem (pc := 203) dL_acts_203 (by decide) ?_
    obtain ⟨v45, hv46, h⟩ := fm_bind h
    refine lo_callSj (pc := 204) (As := [.ref 0, .int (v1 - v1 / (6 : Int32) * (6 : Int32))]) (st := []) dL_acts_204 (c_L_pardon  _ _ hv46) (by decide) (Nat.le_of_ble_eq_true rfl) ce_L_pardon ml_L_189 st_L_pardon rfl (Nat.le_of_ble_eq_true rfl) rfl ?_
    obtain rfl := Option.some.inj h
    exact lo_lret (pc := 207) dL_acts_207 rfl ⟨rfl, rfl⟩
  rw [if_neg c44] at h
  by_cases c47 : v3 = (13 : Int32)
  · rw [if_pos c47] at h
    refine lo_tswHit (pc := 17) (tgt := 208) dL_acts_17 c47 (by decide) (by decide) rfl (by decide) ?_
    refine lo_aload_n (pc := 208) dL_acts_208 rfl rfl ?_
    refine lo_iconst (pc := 209) (v := (1 : Int32)) dL_acts_209 (by decide) ?_
    refine lo_iload_n (pc := 210) dL_acts_210 rfl rfl ?_
    refine lo_bipush (pc := 211) (v := (60 : Int32)) dL_acts_211 (by decide) ?_
    refine lo_irem (pc := 213) dL_acts_213 (by decide) ?_
    refine lo_iadd (pc := 214) dL_acts_214 ?_
    obtain ⟨v48, hv49, h⟩ := fm_bind h
    refine lo_callSj (pc := 215) (As := [.ref 0, .int ((1 : Int32) + (v1 - v1 / (60 : Int32) * (60 : Int32)))]) (st := []) dL_acts_215 (c_L_gift  _ _ hv49) (by decide) (Nat.le_of_ble_eq_true rfl) ce_L_gift ml_L_191 st_L_gift rfl (Nat.le_of_ble_eq_true rfl) rfl ?_
    obtain rfl := Option.some.inj h
    exact lo_lret (pc := 218) dL_acts_218 rfl ⟨rfl, rfl⟩
  rw [if_neg c47] at h
  by_cases c50 : v3 = (14 : Int32)
  · rw [if_pos c50] at h
    refine lo_tswHit (pc := 17) (tgt := 219) dL_acts_17 c50 (by decide) (by decide) rfl (by decide) ?_
    refine lo_aload_n (pc := 219) dL_acts_219 rfl rfl ?_
    refine lo_getsT (pc := 220) dL_acts_220 lk_L_193 ?_
    refine lo_iload_n (pc := 223) dL_acts_223 rfl rfl ?_
    refine lo_bipush (pc := 224) (v := (8 : Int32)) dL_acts_224 (by decide) ?_
    refine lo_irem (pc := 226) dL_acts_226 (by decide) ?_
    obtain ⟨hi51, h⟩ := fm_chk h
    refine lo_aaldT (pc := 227) dL_acts_227 (fm_in_vp hi51) ?_
    obtain ⟨v52, hv53, h⟩ := fm_bind h
    refine lo_callSj (pc := 228) (As := [.ref 0, .ref (1000 + (8 + (v1 - v1 / (8 : Int32) * (8 : Int32)).toNatClampNeg))]) (st := []) dL_acts_228 (c_L_told (fl_w16 hi51) _ hv53) (by decide) (Nat.le_of_ble_eq_true rfl) ce_L_told ml_L_197 st_L_told rfl (Nat.le_of_ble_eq_true rfl) rfl ?_
    obtain rfl := Option.some.inj h
    exact lo_lret (pc := 231) dL_acts_231 rfl ⟨rfl, rfl⟩
  rw [if_neg c50] at h
  by_cases c54 : v3 = (15 : Int32)
  · rw [if_pos c54] at h
    refine lo_tswHit (pc := 17) (tgt := 219) dL_acts_17 c54 (by decide) (by decide) rfl (by decide) ?_
    refine lo_aload_n (pc := 219) dL_acts_219 rfl rfl ?_
    refine lo_getsT (pc := 220) dL_acts_220 lk_L_193 ?_
    refine lo_iload_n (pc := 223) dL_acts_223 rfl rfl ?_
    refine lo_bipush (pc := 224) (v := (8 : Int32)) dL_acts_224 (by decide) ?_
    refine lo_irem (pc := 226) dL_acts_226 (by decide) ?_
    obtain ⟨hi55, h⟩ := fm_chk h
    refine lo_aaldT (pc := 227) dL_acts_227 (fm_in_vp hi55) ?_
    obtain ⟨v56, hv57, h⟩ := fm_bind h
    refine lo_callSj (pc := 228) (As := [.ref 0, .ref (1000 + (8 + (v1 - v1 / (8 : Int32) * (8 : Int32)).toNatClampNeg))]) (st := []) dL_acts_228 (c_L_told (fl_w16 hi55) _ hv57) (by decide) (Nat.le_of_ble_eq_true rfl) ce_L_told ml_L_197 st_L_told rfl (Nat.le_of_ble_eq_true rfl) rfl ?_
    obtain rfl := Option.some.inj h
    exact lo_lret (pc := 231) dL_acts_231 rfl ⟨rfl, rfl⟩
  rw [if_neg c54] at h
  by_cases c58 : v3 = (16 : Int32)
  · rw [if_pos c58] at h
    refine lo_tswHit (pc := 17) (tgt := 219) dL_acts_17 c58 (by decide) (by decide) rfl (by decide) ?_
    refine lo_aload_n (pc := 219) dL_acts_219 rfl rfl ?_
    refine lo_getsT (pc := 220) dL_acts_220 lk_L_193 ?_
    refine lo_iload_n (pc := 223) dL_acts_223 rfl rfl ?_
    refine lo_bipush (pc := 224) (v := (8 : Int32)) dL_acts_224 (by decide) ?_
    refine lo_irem (pc := 226) dL_acts_226 (by decide) ?_
    obtain ⟨hi59, h⟩ := fm_chk h
    refine lo_aaldT (pc := 227) dL_acts_227 (fm_in_vp hi59) ?_
    obtain ⟨v60, hv61, h⟩ := fm_bind h
    refine lo_callSj (pc := 228) (As := [.ref 0, .ref (1000 + (8 + (v1 - v1 / (8 : Int32) * (8 : Int32)).toNatClampNeg))]) (st := []) dL_acts_228 (c_L_told (fl_w16 hi59) _ hv61) (by decide) (Nat.le_of_ble_eq_true rfl) ce_L_told ml_L_197 st_L_told rfl (Nat.le_of_ble_eq_true rfl) rfl ?_
    obtain rfl := Option.some.inj h
    exact lo_lret (pc := 231) dL_acts_231 rfl ⟨rfl, rfl⟩
  rw [if_neg c58] at h
  refine lo_tswMiss (pc := 17) (tgt := 232) dL_acts_17 17 (by decide) (lt_s (lt_s (lt_s (lt_s (lt_s (lt_s (lt_s (lt_s (lt_s (lt_s (lt_s (lt_s (lt_s (lt_s (lt_s (lt_s (lt_s lt_0 (Or.inl (lv_neT c5 rfl))) (Or.inl (lv_neT c11 rfl))) (Or.inl (lv_neT c14 rfl))) (Or.inl (lv_neT c17 rfl))) (Or.inl (lv_neT c20 rfl))) (Or.inl (lv_neT c23 rfl))) (Or.inl (lv_neT c26 rfl))) (Or.inl (lv_neT c29 rfl))) (Or.inl (lv_neT c32 rfl))) (Or.inl (lv_neT c35 rfl))) (Or.inl (lv_neT c38 rfl))) (Or.inl (lv_neT c41 rfl))) (Or.inl (lv_neT c44 rfl))) (Or.inl (lv_neT c47 rfl))) (Or.inl (lv_neT c50 rfl))) (Or.inl (lv_neT c54 rfl))) (Or.inl (lv_neT c58 rfl))) (by decide) ?_
  refine lo_aload_n (pc := 232) dL_acts_232 rfl rfl ?_
  refine lo_iconst (pc := 233) (v := (1 : Int32)) dL_acts_233 (by decide) ?_
  refine lo_iload_n (pc := 234) dL_acts_234 rfl rfl ?_
  refine lo_bipush (pc := 235) (v := (9 : Int32)) dL_acts_235 (by decide) ?_
  refine lo_irem (pc := 237) dL_acts_237 (by decide) ?_
  refine lo_iadd (pc := 238) dL_acts_238 ?_
  obtain ⟨v62, hv63, h⟩ := fm_bind h
  refine lo_callSj (pc := 239) (As := [.ref 0, .int ((1 : Int32) + (v1 - v1 / (9 : Int32) * (9 : Int32)))]) (st := []) dL_acts_239 (c_L_weeks  _ _ hv63) (by decide) (Nat.le_of_ble_eq_true rfl) ce_L_weeks ml_L_201 st_L_weeks rfl (Nat.le_of_ble_eq_true rfl) rfl ?_
  obtain rfl := Option.some.inj h
  exact lo_lret (pc := 242) dL_acts_242 rfl ⟨rfl, rfl⟩
def f_L_ahead (x1 : Int32) (m : fm_M) : Option (Bool × fm_M) :=
  (f_L_mark m).bind fun v1 => (f_L_pick x1 (60 : Int32) m).bind fun v3 => (f_L_account (2 : Int32) m).bind fun v5 => (f_L_pick (x1 >>> ((6 : Int32) &&& 31)) (v5.toInt32) m).bind fun v7 => (f_L_wouldGet v7 ((1 : Int32) + v3) m).bind fun v9 => (f_L_chestIn ((1 : Int32) + v3) v9.2).bind fun v11 => (f_L_wouldGet v7 (0 : Int32) v11.2).bind fun v13 => if (lg_cmp v13.1 (0 : Int64)) = 0 then ((f_L_chestIn (0 : Int32) v13.2).bind fun v16 => (f_L_account (9 : Int32) v16.2).bind fun v18 => if (lg_cmp v16.1 v18) = 0 then ((f_L_mark v16.2).bind fun v21 => if (lg_cmp v21 v1) = 0 then ((f_L_brotherOf v7 (6 : Int32) v16.2).bind fun v24 => (f_L_account (11 : Int32) v16.2).bind fun v26 => (f_L_weeks ((1 : Int32) + v3) v16.2).bind fun v28 => (f_L_brotherOf v7 (6 : Int32) v28.2).bind fun v30 => if (lg_cmp (v30 - v24) v9.1) = 0 then ((f_L_account (9 : Int32) v28.2).bind fun v36 => if (lg_cmp v36 v11.1) = 0 then ((f_L_account (11 : Int32) v28.2).bind fun v42 => if (lg_cmp (v42 - v26) v28.1) = 0 then ((f_L_isBalanced v28.2).bind fun v48 => if (lg_cmp v48 (1 : Int64)) = 0 then ((f_L_undo v28.2).bind fun v54 => (f_L_mark v54.2).bind fun v57 => if (lg_cmp v57 v1) = 0 then (some (true, v54.2)) else (some (false, v54.2))) else ((f_L_undo v28.2).bind fun v51 => some (false, v51.2))) else ((f_L_undo v28.2).bind fun v45 => some (false, v45.2))) else ((f_L_undo v28.2).bind fun v39 => some (false, v39.2))) else ((f_L_undo v28.2).bind fun v33 => some (false, v33.2))) else (some (false, v16.2))) else (some (false, v16.2))) else (some (false, v13.2))
set_option maxRecDepth 100000 in
set_option maxHeartbeats 4000000 in
theorem c_L_ahead {L : Nat} {xs : Nat → Int32} {X : List fm_L} (x1 : Int32) (m : fm_M) {res : Bool × fm_M} (h : f_L_ahead x1 m = some res) : fl_Met L xs (fm_layH ++ X) 7 m_L_ahead [.ref 0, .int x1] m (fm_pi (fm_b res.1) res.2) := by
  refine fl_Met_of (ls := [some (.ref 0), some (.int x1), none, none, none, none, none, none, none, none, none, none, none, none, none, none, none]) (by decide) rfl (fm_cc_r _ (fm_cc_i _ fm_cc_0)) (Nat.le_of_ble_eq_true rfl) rfl ?_
  unfold f_L_ahead at h
  refine lo_aload_n (pc := 0) dL_ahead_0 rfl rfl ?_
  obtain ⟨v1, hv2, h⟩ := fm_bind h
  refine lo_callSj (pc := 1) (As := [.ref 0]) (st := []) dL_ahead_1 (c_L_mark  _ hv2) (by decide) (Nat.le_of_ble_eq_true rfl) ce_L_mark ml_L_203 st_L_mark rfl (Nat.le_of_ble_eq_true rfl) rfl ?_
  refine lo_lstore_n (pc := 4) (ls1 := [some (.ref 0), some (.int x1), some (.long v1), none, none, none, none, none, none, none, none, none, none, none, none, none, none]) dL_ahead_4 rfl (by decide) rfl rfl ?_
  refine lo_iconst (pc := 5) (v := (1 : Int32)) dL_ahead_5 (by decide) ?_
  refine lo_iload_n (pc := 6) dL_ahead_6 rfl rfl ?_
  refine lo_bipush (pc := 7) (v := (60 : Int32)) dL_ahead_7 (by decide) ?_
  obtain ⟨v3, hv4, h⟩ := fm_bind h
  refine lo_callSi (pc := 9) (As := [.int x1, .int (60 : Int32)]) (st := [.int (1 : Int32)]) dL_ahead_9 (c_L_pick  _ _ _ hv4) (by decide) (Nat.le_of_ble_eq_true rfl) ce_L_pick ml_L_171 st_L_pick rfl (Nat.le_of_ble_eq_true rfl) rfl ?_
  refine lo_iadd (pc := 12) dL_ahead_12 ?_
  refine lo_istore (pc := 13) (ls1 := [some (.ref 0), some (.int x1), some (.long v1), none, some (.int ((1 : Int32) + v3)), none, none, none, none, none, none, none, none, none, none, none, none]) dL_ahead_13 (by decide) rfl rfl ?_
  refine lo_iload_n (pc := 15) dL_ahead_15 rfl rfl ?_
  refine lo_bipush (pc := 16) (v := (6 : Int32)) dL_ahead_16 (by decide) ?_
  refine lo_ishr (pc := 18) dL_ahead_18 ?_
  refine lo_aload_n (pc := 19) dL_ahead_19 rfl rfl ?_
  refine lo_iconst (pc := 20) (v := (2 : Int32)) dL_ahead_20 (by decide) ?_
  obtain ⟨v5, hv6, h⟩ := fm_bind h
  refine lo_callSj (pc := 21) (As := [.ref 0, .int (2 : Int32)]) (st := [.int (x1 >>> ((6 : Int32) &&& 31))]) dL_ahead_21 (c_L_account  _ _ hv6) (by decide) (Nat.le_of_ble_eq_true rfl) ce_L_account ml_L_155 st_L_account rfl (Nat.le_of_ble_eq_true rfl) rfl ?_
  refine lo_l2i (pc := 24) dL_ahead_24 ?_
  obtain ⟨v7, hv8, h⟩ := fm_bind h
  refine lo_callSi (pc := 25) (As := [.int (x1 >>> ((6 : Int32) &&& 31)), .int (v5.toInt32)]) (st := []) dL_ahead_25 (c_L_pick  _ _ _ hv8) (by decide) (Nat.le_of_ble_eq_true rfl) ce_L_pick ml_L_171 st_L_pick rfl (Nat.le_of_ble_eq_true rfl) rfl ?_
  refine lo_istore (pc := 28) (ls1 := [some (.ref 0), some (.int x1), some (.long v1), none, some (.int ((1 : Int32) + v3)), some (.int v7), none, none, none, none, none, none, none, none, none, none, none]) dL_ahead_28 (by decide) rfl rfl ?_
  refine lo_aload_n (pc := 30) dL_ahead_30 rfl rfl ?_
  refine lo_iload (pc := 31) dL_ahead_31 rfl ?_
  refine lo_iload (pc := 33) dL_ahead_33 rfl ?_
  obtain ⟨v9, hv10, h⟩ := fm_bind h
  refine lo_callSj (pc := 35) (As := [.ref 0, .int v7, .int ((1 : Int32) + v3)]) (st := []) dL_ahead_35 (c_L_wouldGet  _ _ _ hv10) (by decide) (Nat.le_of_ble_eq_true rfl) ce_L_wouldGet ml_L_206 st_L_wouldGet rfl (Nat.le_of_ble_eq_true rfl) rfl ?_
  refine lo_lstore (pc := 38) (ls1 := [some (.ref 0), some (.int x1), some (.long v1), none, some (.int ((1 : Int32) + v3)), some (.int v7), some (.long v9.1), none, none, none, none, none, none, none, none, none, none]) dL_ahead_38 (by decide) rfl rfl ?_
  refine lo_aload_n (pc := 40) dL_ahead_40 rfl rfl ?_
  refine lo_iload (pc := 41) dL_ahead_41 rfl ?_
  obtain ⟨v11, hv12, h⟩ := fm_bind h
  refine lo_callSj (pc := 43) (As := [.ref 0, .int ((1 : Int32) + v3)]) (st := []) dL_ahead_43 (c_L_chestIn  _ _ hv12) (by decide) (Nat.le_of_ble_eq_true rfl) ce_L_chestIn ml_L_208 st_L_chestIn rfl (Nat.le_of_ble_eq_true rfl) rfl ?_
  refine lo_lstore (pc := 46) (ls1 := [some (.ref 0), some (.int x1), some (.long v1), none, some (.int ((1 : Int32) + v3)), some (.int v7), some (.long v9.1), none, some (.long v11.1), none, none, none, none, none, none, none, none]) dL_ahead_46 (by decide) rfl rfl ?_
  refine lo_aload_n (pc := 48) dL_ahead_48 rfl rfl ?_
  refine lo_iload (pc := 49) dL_ahead_49 rfl ?_
  refine lo_iconst (pc := 51) (v := (0 : Int32)) dL_ahead_51 (by decide) ?_
  obtain ⟨v13, hv14, h⟩ := fm_bind h
  refine lo_callSj (pc := 52) (As := [.ref 0, .int v7, .int (0 : Int32)]) (st := []) dL_ahead_52 (c_L_wouldGet  _ _ _ hv14) (by decide) (Nat.le_of_ble_eq_true rfl) ce_L_wouldGet ml_L_206 st_L_wouldGet rfl (Nat.le_of_ble_eq_true rfl) rfl ?_
  refine lo_lconst (pc := 55) (v := (0 : Int64)) dL_ahead_55 rfl ?_
  refine lo_lcmp (pc := 56) dL_ahead_56 ?_
  refine lo_if_ne (pc := 57) (tgt := 84) dL_ahead_57 (by decide) (fun c15 => ?_) (fun c15 => ?_)
  · rw [if_neg c15] at h
    refine lo_iconst (pc := 84) (v := (0 : Int32)) dL_ahead_84 (by decide) ?_
    obtain rfl := Option.some.inj h
    exact lo_iret (pc := 85) .boolean dL_ahead_85 rfl rfl ⟨rfl, rfl⟩
  · rw [if_pos c15] at h
    refine lo_aload_n (pc := 60) dL_ahead_60 rfl rfl ?_
    refine lo_iconst (pc := 61) (v := (0 : Int32)) dL_ahead_61 (by decide) ?_
    obtain ⟨v16, hv17, h⟩ := fm_bind h
    refine lo_callSj (pc := 62) (As := [.ref 0, .int (0 : Int32)]) (st := []) dL_ahead_62 (c_L_chestIn  _ _ hv17) (by decide) (Nat.le_of_ble_eq_true rfl) ce_L_chestIn ml_L_208 st_L_chestIn rfl (Nat.le_of_ble_eq_true rfl) rfl ?_
    refine lo_aload_n (pc := 65) dL_ahead_65 rfl rfl ?_
    refine lo_bipush (pc := 66) (v := (9 : Int32)) dL_ahead_66 (by decide) ?_
    obtain ⟨v18, hv19, h⟩ := fm_bind h
    refine lo_callSj (pc := 68) (As := [.ref 0, .int (9 : Int32)]) (st := [.long v16.1]) dL_ahead_68 (c_L_account  _ _ hv19) (by decide) (Nat.le_of_ble_eq_true rfl) ce_L_account ml_L_155 st_L_account rfl (Nat.le_of_ble_eq_true rfl) rfl ?_
    refine lo_lcmp (pc := 71) dL_ahead_71 ?_
    refine lo_if_ne (pc := 72) (tgt := 84) dL_ahead_72 (by decide) (fun c20 => ?_) (fun c20 => ?_)
    · rw [if_neg c20] at h
      refine lo_iconst (pc := 84) (v := (0 : Int32)) dL_ahead_84 (by decide) ?_
      obtain rfl := Option.some.inj h
      exact lo_iret (pc := 85) .boolean dL_ahead_85 rfl rfl ⟨rfl, rfl⟩
    · rw [if_pos c20] at h
      refine lo_aload_n (pc := 75) dL_ahead_75 rfl rfl ?_
      obtain ⟨v21, hv22, h⟩ := fm_bind h
      refine lo_callSj (pc := 76) (As := [.ref 0]) (st := []) dL_ahead_76 (c_L_mark  _ hv22) (by decide) (Nat.le_of_ble_eq_true rfl) ce_L_mark ml_L_203 st_L_mark rfl (Nat.le_of_ble_eq_true rfl) rfl ?_
      refine lo_lload_n (pc := 79) dL_ahead_79 rfl rfl ?_
      refine lo_lcmp (pc := 80) dL_ahead_80 ?_
      refine lo_if_eq (pc := 81) (tgt := 86) dL_ahead_81 (by decide) (fun c23 => ?_) (fun c23 => ?_)
      · rw [if_pos c23] at h
        refine lo_aload_n (pc := 86) dL_ahead_86 rfl rfl ?_
        refine lo_iload (pc := 87) dL_ahead_87 rfl ?_
        refine lo_bipush (pc := 89) (v := (6 : Int32)) dL_ahead_89 (by decide) ?_
        obtain ⟨v24, hv25, h⟩ := fm_bind h
        refine lo_callSj (pc := 91) (As := [.ref 0, .int v7, .int (6 : Int32)]) (st := []) dL_ahead_91 (c_L_brotherOf  _ _ _ hv25) (by decide) (Nat.le_of_ble_eq_true rfl) ce_L_brotherOf ml_L_160 st_L_brotherOf rfl (Nat.le_of_ble_eq_true rfl) rfl ?_
        refine lo_lstore (pc := 94) (ls1 := [some (.ref 0), some (.int x1), some (.long v1), none, some (.int ((1 : Int32) + v3)), some (.int v7), some (.long v9.1), none, some (.long v11.1), none, some (.long v24), none, none, none, none, none, none]) dL_ahead_94 (by decide) rfl rfl ?_
        refine lo_aload_n (pc := 96) dL_ahead_96 rfl rfl ?_
        refine lo_bipush (pc := 97) (v := (11 : Int32)) dL_ahead_97 (by decide) ?_
        obtain ⟨v26, hv27, h⟩ := fm_bind h
        refine lo_callSj (pc := 99) (As := [.ref 0, .int (11 : Int32)]) (st := []) dL_ahead_99 (c_L_account  _ _ hv27) (by decide) (Nat.le_of_ble_eq_true rfl) ce_L_account ml_L_155 st_L_account rfl (Nat.le_of_ble_eq_true rfl) rfl ?_
        refine lo_lstore (pc := 102) (ls1 := [some (.ref 0), some (.int x1), some (.long v1), none, some (.int ((1 : Int32) + v3)), some (.int v7), some (.long v9.1), none, some (.long v11.1), none, some (.long v24), none, some (.long v26), none, none, none, none]) dL_ahead_102 (by decide) rfl rfl ?_
        refine lo_aload_n (pc := 104) dL_ahead_104 rfl rfl ?_
        refine lo_iload (pc := 105) dL_ahead_105 rfl ?_
        obtain ⟨v28, hv29, h⟩ := fm_bind h
        refine lo_callSj (pc := 107) (As := [.ref 0, .int ((1 : Int32) + v3)]) (st := []) dL_ahead_107 (c_L_weeks  _ _ hv29) (by decide) (Nat.le_of_ble_eq_true rfl) ce_L_weeks ml_L_201 st_L_weeks rfl (Nat.le_of_ble_eq_true rfl) rfl ?_
        refine lo_lstore (pc := 110) (ls1 := [some (.ref 0), some (.int x1), some (.long v1), none, some (.int ((1 : Int32) + v3)), some (.int v7), some (.long v9.1), none, some (.long v11.1), none, some (.long v24), none, some (.long v26), none, some (.long v28.1), none, none]) dL_ahead_110 (by decide) rfl rfl ?_
        refine lo_aload_n (pc := 112) dL_ahead_112 rfl rfl ?_
        refine lo_iload (pc := 113) dL_ahead_113 rfl ?_
        refine lo_bipush (pc := 115) (v := (6 : Int32)) dL_ahead_115 (by decide) ?_
        obtain ⟨v30, hv31, h⟩ := fm_bind h
        refine lo_callSj (pc := 117) (As := [.ref 0, .int v7, .int (6 : Int32)]) (st := []) dL_ahead_117 (c_L_brotherOf  _ _ _ hv31) (by decide) (Nat.le_of_ble_eq_true rfl) ce_L_brotherOf ml_L_160 st_L_brotherOf rfl (Nat.le_of_ble_eq_true rfl) rfl ?_
        refine lo_lload (pc := 120) dL_ahead_120 rfl ?_
        refine lo_lsub (pc := 122) dL_ahead_122 ?_
        refine lo_lload (pc := 123) dL_ahead_123 rfl ?_
        refine lo_lcmp (pc := 125) dL_ahead_125 ?_
        refine lo_if_ne (pc := 126) (tgt := 169) dL_ahead_126 (by decide) (fun c32 => ?_) (fun c32 => ?_)
        · rw [if_neg c32] at h
          refine lo_iconst (pc := 169) (v := (0 : Int32)) dL_ahead_169 (by decide) ?_
          refine lo_istore (pc := 170) (ls1 := [some (.ref 0), some (.int x1), some (.long v1), none, some (.int ((1 : Int32) + v3)), some (.int v7), some (.long v9.1), none, some (.long v11.1), none, some (.long v24), none, some (.long v26), none, some (.long v28.1), none, some (.int (0 : Int32))]) dL_ahead_170 (by decide) rfl rfl ?_
          refine lo_aload_n (pc := 172) dL_ahead_172 rfl rfl ?_
          obtain ⟨v33, hv34, h⟩ := fm_bind h
          refine lo_callSj (pc := 173) (As := [.ref 0]) (st := []) dL_ahead_173 (c_L_undo  _ hv34) (by decide) (Nat.le_of_ble_eq_true rfl) ce_L_undo ml_L_212 st_L_undo rfl (Nat.le_of_ble_eq_true rfl) rfl ?_
          refine lo_pop2 (pc := 176) dL_ahead_176 ?_
          refine lo_iload (pc := 177) dL_ahead_177 rfl ?_
          refine lo_if_eq (pc := 179) (tgt := 195) dL_ahead_179 (by decide) (fun _ => ?_) (fun c35 => absurd (by decide) c35)
          refine lo_iconst (pc := 195) (v := (0 : Int32)) dL_ahead_195 (by decide) ?_
          obtain rfl := Option.some.inj h
          exact lo_iret (pc := 196) .boolean dL_ahead_196 rfl rfl ⟨rfl, rfl⟩
        · rw [if_pos c32] at h
          refine lo_aload_n (pc := 129) dL_ahead_129 rfl rfl ?_
          refine lo_bipush (pc := 130) (v := (9 : Int32)) dL_ahead_130 (by decide) ?_
          obtain ⟨v36, hv37, h⟩ := fm_bind h
          refine lo_callSj (pc := 132) (As := [.ref 0, .int (9 : Int32)]) (st := []) dL_ahead_132 (c_L_account  _ _ hv37) (by decide) (Nat.le_of_ble_eq_true rfl) ce_L_account ml_L_155 st_L_account rfl (Nat.le_of_ble_eq_true rfl) rfl ?_
          refine lo_lload (pc := 135) dL_ahead_135 rfl ?_
          refine lo_lcmp (pc := 137) dL_ahead_137 ?_
          refine lo_if_ne (pc := 138) (tgt := 169) dL_ahead_138 (by decide) (fun c38 => ?_) (fun c38 => ?_)
          · rw [if_neg c38] at h
            refine lo_iconst (pc := 169) (v := (0 : Int32)) dL_ahead_169 (by decide) ?_
            refine lo_istore (pc := 170) (ls1 := [some (.ref 0), some (.int x1), some (.long v1), none, some (.int ((1 : Int32) + v3)), some (.int v7), some (.long v9.1), none, some (.long v11.1), none, some (.long v24), none, some (.long v26), none, some (.long v28.1), none, some (.int (0 : Int32))]) dL_ahead_170 (by decide) rfl rfl ?_
            refine lo_aload_n (pc := 172) dL_ahead_172 rfl rfl ?_
            obtain ⟨v39, hv40, h⟩ := fm_bind h
            refine lo_callSj (pc := 173) (As := [.ref 0]) (st := []) dL_ahead_173 (c_L_undo  _ hv40) (by decide) (Nat.le_of_ble_eq_true rfl) ce_L_undo ml_L_212 st_L_undo rfl (Nat.le_of_ble_eq_true rfl) rfl ?_
            refine lo_pop2 (pc := 176) dL_ahead_176 ?_
            refine lo_iload (pc := 177) dL_ahead_177 rfl ?_
            refine lo_if_eq (pc := 179) (tgt := 195) dL_ahead_179 (by decide) (fun _ => ?_) (fun c41 => absurd (by decide) c41)
            refine lo_iconst (pc := 195) (v := (0 : Int32)) dL_ahead_195 (by decide) ?_
            obtain rfl := Option.some.inj h
            exact lo_iret (pc := 196) .boolean dL_ahead_196 rfl rfl ⟨rfl, rfl⟩
          · rw [if_pos c38] at h
            refine lo_aload_n (pc := 141) dL_ahead_141 rfl rfl ?_
            refine lo_bipush (pc := 142) (v := (11 : Int32)) dL_ahead_142 (by decide) ?_
            obtain ⟨v42, hv43, h⟩ := fm_bind h
            refine lo_callSj (pc := 144) (As := [.ref 0, .int (11 : Int32)]) (st := []) dL_ahead_144 (c_L_account  _ _ hv43) (by decide) (Nat.le_of_ble_eq_true rfl) ce_L_account ml_L_155 st_L_account rfl (Nat.le_of_ble_eq_true rfl) rfl ?_
            refine lo_lload (pc := 147) dL_ahead_147 rfl ?_
            refine lo_lsub (pc := 149) dL_ahead_149 ?_
            refine lo_lload (pc := 150) dL_ahead_150 rfl ?_
            refine lo_lcmp (pc := 152) dL_ahead_152 ?_
            refine lo_if_ne (pc := 153) (tgt := 169) dL_ahead_153 (by decide) (fun c44 => ?_) (fun c44 => ?_)
            · rw [if_neg c44] at h
              refine lo_iconst (pc := 169) (v := (0 : Int32)) dL_ahead_169 (by decide) ?_
              refine lo_istore (pc := 170) (ls1 := [some (.ref 0), some (.int x1), some (.long v1), none, some (.int ((1 : Int32) + v3)), some (.int v7), some (.long v9.1), none, some (.long v11.1), none, some (.long v24), none, some (.long v26), none, some (.long v28.1), none, some (.int (0 : Int32))]) dL_ahead_170 (by decide) rfl rfl ?_
              refine lo_aload_n (pc := 172) dL_ahead_172 rfl rfl ?_
              obtain ⟨v45, hv46, h⟩ := fm_bind h
              refine lo_callSj (pc := 173) (As := [.ref 0]) (st := []) dL_ahead_173 (c_L_undo  _ hv46) (by decide) (Nat.le_of_ble_eq_true rfl) ce_L_undo ml_L_212 st_L_undo rfl (Nat.le_of_ble_eq_true rfl) rfl ?_
              refine lo_pop2 (pc := 176) dL_ahead_176 ?_
              refine lo_iload (pc := 177) dL_ahead_177 rfl ?_
              refine lo_if_eq (pc := 179) (tgt := 195) dL_ahead_179 (by decide) (fun _ => ?_) (fun c47 => absurd (by decide) c47)
              refine lo_iconst (pc := 195) (v := (0 : Int32)) dL_ahead_195 (by decide) ?_
              obtain rfl := Option.some.inj h
              exact lo_iret (pc := 196) .boolean dL_ahead_196 rfl rfl ⟨rfl, rfl⟩
            · rw [if_pos c44] at h
              refine lo_aload_n (pc := 156) dL_ahead_156 rfl rfl ?_
              obtain ⟨v48, hv49, h⟩ := fm_bind h
              refine lo_callSj (pc := 157) (As := [.ref 0]) (st := []) dL_ahead_157 (c_L_isBalanced  _ hv49) (by decide) (Nat.le_of_ble_eq_true rfl) ce_L_isBalanced ml_L_210 st_L_isBalanced rfl (Nat.le_of_ble_eq_true rfl) rfl ?_
              refine lo_lconst (pc := 160) (v := (1 : Int64)) dL_ahead_160 rfl ?_
              refine lo_lcmp (pc := 161) dL_ahead_161 ?_
              refine lo_if_ne (pc := 162) (tgt := 169) dL_ahead_162 (by decide) (fun c50 => ?_) (fun c50 => ?_)
              · rw [if_neg c50] at h
                refine lo_iconst (pc := 169) (v := (0 : Int32)) dL_ahead_169 (by decide) ?_
                refine lo_istore (pc := 170) (ls1 := [some (.ref 0), some (.int x1), some (.long v1), none, some (.int ((1 : Int32) + v3)), some (.int v7), some (.long v9.1), none, some (.long v11.1), none, some (.long v24), none, some (.long v26), none, some (.long v28.1), none, some (.int (0 : Int32))]) dL_ahead_170 (by decide) rfl rfl ?_
                refine lo_aload_n (pc := 172) dL_ahead_172 rfl rfl ?_
                obtain ⟨v51, hv52, h⟩ := fm_bind h
                refine lo_callSj (pc := 173) (As := [.ref 0]) (st := []) dL_ahead_173 (c_L_undo  _ hv52) (by decide) (Nat.le_of_ble_eq_true rfl) ce_L_undo ml_L_212 st_L_undo rfl (Nat.le_of_ble_eq_true rfl) rfl ?_
                refine lo_pop2 (pc := 176) dL_ahead_176 ?_
                refine lo_iload (pc := 177) dL_ahead_177 rfl ?_
                refine lo_if_eq (pc := 179) (tgt := 195) dL_ahead_179 (by decide) (fun _ => ?_) (fun c53 => absurd (by decide) c53)
                refine lo_iconst (pc := 195) (v := (0 : Int32)) dL_ahead_195 (by decide) ?_
                obtain rfl := Option.some.inj h
                exact lo_iret (pc := 196) .boolean dL_ahead_196 rfl rfl ⟨rfl, rfl⟩
              · rw [if_pos c50] at h
                refine lo_iconst (pc := 165) (v := (1 : Int32)) dL_ahead_165 (by decide) ?_
                refine lo_goto (pc := 166) (tgt := 170) dL_ahead_166 (by decide) ?_
                refine lo_istore (pc := 170) (ls1 := [some (.ref 0), some (.int x1), some (.long v1), none, some (.int ((1 : Int32) + v3)), some (.int v7), some (.long v9.1), none, some (.long v11.1), none, some (.long v24), none, some (.long v26), none, some (.long v28.1), none, some (.int (1 : Int32))]) dL_ahead_170 (by decide) rfl rfl ?_
                refine lo_aload_n (pc := 172) dL_ahead_172 rfl rfl ?_
                obtain ⟨v54, hv55, h⟩ := fm_bind h
                refine lo_callSj (pc := 173) (As := [.ref 0]) (st := []) dL_ahead_173 (c_L_undo  _ hv55) (by decide) (Nat.le_of_ble_eq_true rfl) ce_L_undo ml_L_212 st_L_undo rfl (Nat.le_of_ble_eq_true rfl) rfl ?_
                refine lo_pop2 (pc := 176) dL_ahead_176 ?_
                refine lo_iload (pc := 177) dL_ahead_177 rfl ?_
                refine lo_if_eq (pc := 179) (tgt := 195) dL_ahead_179 (by decide) (fun c56 => absurd c56 (by decide)) (fun _ => ?_)
                refine lo_aload_n (pc := 182) dL_ahead_182 rfl rfl ?_
                obtain ⟨v57, hv58, h⟩ := fm_bind h
                refine lo_callSj (pc := 183) (As := [.ref 0]) (st := []) dL_ahead_183 (c_L_mark  _ hv58) (by decide) (Nat.le_of_ble_eq_true rfl) ce_L_mark ml_L_203 st_L_mark rfl (Nat.le_of_ble_eq_true rfl) rfl ?_
                refine lo_lload_n (pc := 186) dL_ahead_186 rfl rfl ?_
                refine lo_lcmp (pc := 187) dL_ahead_187 ?_
                refine lo_if_ne (pc := 188) (tgt := 195) dL_ahead_188 (by decide) (fun c59 => ?_) (fun c59 => ?_)
                · rw [if_neg c59] at h
                  refine lo_iconst (pc := 195) (v := (0 : Int32)) dL_ahead_195 (by decide) ?_
                  obtain rfl := Option.some.inj h
                  exact lo_iret (pc := 196) .boolean dL_ahead_196 rfl rfl ⟨rfl, rfl⟩
                · rw [if_pos c59] at h
                  refine lo_iconst (pc := 191) (v := (1 : Int32)) dL_ahead_191 (by decide) ?_
                  refine lo_goto (pc := 192) (tgt := 196) dL_ahead_192 (by decide) ?_
                  obtain rfl := Option.some.inj h
                  exact lo_iret (pc := 196) .boolean dL_ahead_196 rfl rfl ⟨rfl, rfl⟩
      · rw [if_neg c23] at h
        refine lo_iconst (pc := 84) (v := (0 : Int32)) dL_ahead_84 (by decide) ?_
        obtain rfl := Option.some.inj h
        exact lo_iret (pc := 85) .boolean dL_ahead_85 rfl rfl ⟨rfl, rfl⟩
def f_L_fits_L179 : Nat → Int32 → Int32 → fm_M → Option (Bool × fm_M)
  | 0, _, _, _ => none
  | n + 1, y1, y2, m => (f_L_account (4 : Int32) m).bind fun v15 => if 0 ≤ (lg_cmp ((y2 + (1 : Int32)).toInt64) v15) then ((f_L_account (3 : Int32) m).bind fun v18 => (f_L_account (4 : Int32) m).bind fun v20 => (f_L_account (5 : Int32) m).bind fun v22 => (f_L_account (6 : Int32) m).bind fun v24 => (f_L_account (2 : Int32) m).bind fun v26 => if (lg_cmp (((v18 + v20) + v22) + v24) v26) = 0 then ((f_L_account (4 : Int32) m).bind fun v29 => (f_L_senior (v29.toInt32) m).bind fun v31 => if (lg_cmp v31.1 (-11 : Int64)) = 0 then ((f_L_ahead (y1 >>> ((3 : Int32) &&& 31)) v31.2).bind fun v34 => if v34.1 = true then (some (true, v34.2)) else (some (false, v34.2))) else (some (false, v31.2))) else (some (false, m))) else ((f_L_shabby y2 m).bind fun v37 => (f_L_brotherOf (v37.1.toInt32) (4 : Int32) v37.2).bind fun v39 => (f_L_shabby (y2 + (1 : Int32)) v37.2).bind fun v41 => (f_L_brotherOf (v41.1.toInt32) (4 : Int32) v41.2).bind fun v43 => if 0 ≤ (lg_cmp v39 v43) then (f_L_fits_L179 n y1 (y2 + (1 : Int32)) v41.2) else (some (false, v41.2)))
def f_L_fits_L130 : Nat → Int32 → Int32 → fm_M → Option (Bool × fm_M)
  | 0, _, _, _ => none
  | n + 1, y1, y2, m => (f_L_account (3 : Int32) m).bind fun v12 => if 0 ≤ (lg_cmp ((y2 + (1 : Int32)).toInt64) v12) then (f_L_fits_L179 fm_F y1 (0 : Int32) m) else ((f_L_ranked y2 m).bind fun v46 => (f_L_voices (v46.1.toInt32) v46.2).bind fun v48 => (f_L_ranked (y2 + (1 : Int32)) v46.2).bind fun v50 => (f_L_voices (v50.1.toInt32) v50.2).bind fun v52 => if 0 ≤ (lg_cmp v48 v52) then (f_L_fits_L130 n y1 (y2 + (1 : Int32)) v50.2) else (some (false, v50.2)))
def f_L_fits_L25 : Nat → Int32 → Int32 → fm_M → Option (Bool × fm_M)
  | 0, _, _, _ => none
  | n + 1, y1, y2, m => (f_L_account (2 : Int32) m).bind fun v9 => if 0 ≤ (lg_cmp (y2.toInt64) v9) then (f_L_fits_L130 fm_F y1 (0 : Int32) m) else ((f_L_voices y2 m).bind fun v55 => (f_L_voicesAgain y2 m).bind fun v57 => if (lg_cmp v55 v57.1) = 0 then ((f_L_brotherOf y2 (3 : Int32) v57.2).bind fun v60 => if (lg_cmp v60 (0 : Int64)) < 0 then ((f_L_entitled v57.2).bind fun v63 => if (lg_cmp ((v63 >>> ((y2).toInt64 &&& 63)) &&& (1 : Int64)) (1 : Int64)) = 0 then ((f_L_brotherOf y2 (5 : Int32) v57.2).bind fun v66 => if (lg_cmp v66 (0 : Int64)) = 0 then (if 0 ≤ (lg_cmp v60 (0 : Int64)) then (f_L_fits_L25 n y1 (y2 + (1 : Int32)) v57.2) else (some (false, v57.2))) else (some (false, v57.2))) else (f_L_fits_L25 n y1 (y2 + (1 : Int32)) v57.2)) else ((f_L_inCell (v60.toInt32) v57.2).bind fun v70 => if (lg_cmp v70 (y2.toInt64)) = 0 then ((f_L_brotherOf y2 (2 : Int32) v57.2).bind fun v73 => if (lg_cmp v73 (1 : Int64)) = 0 then ((f_L_entitled v57.2).bind fun v76 => if (lg_cmp ((v76 >>> ((y2).toInt64 &&& 63)) &&& (1 : Int64)) (1 : Int64)) = 0 then ((f_L_brotherOf y2 (5 : Int32) v57.2).bind fun v79 => if (lg_cmp v79 (0 : Int64)) = 0 then (if 0 ≤ (lg_cmp v60 (0 : Int64)) then (f_L_fits_L25 n y1 (y2 + (1 : Int32)) v57.2) else (some (false, v57.2))) else (some (false, v57.2))) else (f_L_fits_L25 n y1 (y2 + (1 : Int32)) v57.2)) else (some (false, v57.2))) else (some (false, v57.2)))) else (some (false, v57.2)))
def f_L_fits (x1 : Int32) (m : fm_M) : Option (Bool × fm_M) :=
  (f_L_isBalanced m).bind fun v1 => if (lg_cmp v1 (1 : Int64)) = 0 then ((f_L_entitled m).bind fun v4 => (f_L_entitledAgain m).bind fun v6 => if (lg_cmp v4 v6) = 0 then (f_L_fits_L25 fm_F x1 (0 : Int32) m) else (some (false, m))) else (some (false, m))
set_option maxRecDepth 100000 in
set_option maxHeartbeats 4000000 in
theorem c_L_fits_L179 {L : Nat} {xs : Nat → Int32} {X : List fm_L} : ∀ (n : Nat) (y1 : Int32) (y2 : Int32) (m : fm_M) (res : Bool × fm_M), f_L_fits_L179 n y1 y2 m = some res → fl_Go L xs (fm_layH ++ X) 9 m_L_fits (fm_pi (fm_b res.1) res.2) 179 [some (.ref 0), some (.int y1), some (.int y2), none, none] [] m := by
  intro n
  induction n with
  | zero => intro y1 y2 m res h; cases h
  | succ n ih =>
    intro y1 y2 m res h
    rw [f_L_fits_L179] at h
    refine lo_iload_n (pc := 179) dL_fits_179 rfl rfl ?_
    refine lo_iconst (pc := 180) (v := (1 : Int32)) dL_fits_180 (by decide) ?_
    refine lo_iadd (pc := 181) dL_fits_181 ?_
    refine lo_i2l (pc := 182) dL_fits_182 ?_
    refine lo_aload_n (pc := 183) dL_fits_183 rfl rfl ?_
    refine lo_iconst (pc := 184) (v := (4 : Int32)) dL_fits_184 (by decide) ?_
    obtain ⟨v15, hv16, h⟩ := fm_bind h
    refine lo_callSj (pc := 185) (As := [.ref 0, .int (4 : Int32)]) (st := [.long ((y2 + (1 : Int32)).toInt64)]) dL_fits_185 (c_L_account  _ _ hv16) (by decide) (Nat.le_of_ble_eq_true rfl) ce_L_account ml_L_155 st_L_account rfl (Nat.le_of_ble_eq_true rfl) rfl ?_
    refine lo_lcmp (pc := 188) dL_fits_188 ?_
    refine lo_if_ge (pc := 189) (tgt := 228) dL_fits_189 (by decide) (fun c17 => ?_) (fun c17 => ?_)
    · rw [if_pos c17] at h
      refine lo_aload_n (pc := 228) dL_fits_228 rfl rfl ?_
      refine lo_iconst (pc := 229) (v := (3 : Int32)) dL_fits_229 (by decide) ?_
      obtain ⟨v18, hv19, h⟩ := fm_bind h
      refine lo_callSj (pc := 230) (As := [.ref 0, .int (3 : Int32)]) (st := []) dL_fits_230 (c_L_account  _ _ hv19) (by decide) (Nat.le_of_ble_eq_true rfl) ce_L_account ml_L_155 st_L_account rfl (Nat.le_of_ble_eq_true rfl) rfl ?_
      refine lo_aload_n (pc := 233) dL_fits_233 rfl rfl ?_
      refine lo_iconst (pc := 234) (v := (4 : Int32)) dL_fits_234 (by decide) ?_
      obtain ⟨v20, hv21, h⟩ := fm_bind h
      refine lo_callSj (pc := 235) (As := [.ref 0, .int (4 : Int32)]) (st := [.long v18]) dL_fits_235 (c_L_account  _ _ hv21) (by decide) (Nat.le_of_ble_eq_true rfl) ce_L_account ml_L_155 st_L_account rfl (Nat.le_of_ble_eq_true rfl) rfl ?_
      refine lo_ladd (pc := 238) dL_fits_238 ?_
      refine lo_aload_n (pc := 239) dL_fits_239 rfl rfl ?_
      refine lo_iconst (pc := 240) (v := (5 : Int32)) dL_fits_240 (by decide) ?_
      obtain ⟨v22, hv23, h⟩ := fm_bind h
      refine lo_callSj (pc := 241) (As := [.ref 0, .int (5 : Int32)]) (st := [.long (v18 + v20)]) dL_fits_241 (c_L_account  _ _ hv23) (by decide) (Nat.le_of_ble_eq_true rfl) ce_L_account ml_L_155 st_L_account rfl (Nat.le_of_ble_eq_true rfl) rfl ?_
      refine lo_ladd (pc := 244) dL_fits_244 ?_
      refine lo_aload_n (pc := 245) dL_fits_245 rfl rfl ?_
      refine lo_bipush (pc := 246) (v := (6 : Int32)) dL_fits_246 (by decide) ?_
      obtain ⟨v24, hv25, h⟩ := fm_bind h
      refine lo_callSj (pc := 248) (As := [.ref 0, .int (6 : Int32)]) (st := [.long ((v18 + v20) + v22)]) dL_fits_248 (c_L_account  _ _ hv25) (by decide) (Nat.le_of_ble_eq_true rfl) ce_L_account ml_L_155 st_L_account rfl (Nat.le_of_ble_eq_true rfl) rfl ?_
      refine lo_ladd (pc := 251) dL_fits_251 ?_
      refine lo_aload_n (pc := 252) dL_fits_252 rfl rfl ?_
      refine lo_iconst (pc := 253) (v := (2 : Int32)) dL_fits_253 (by decide) ?_
      obtain ⟨v26, hv27, h⟩ := fm_bind h
      refine lo_callSj (pc := 254) (As := [.ref 0, .int (2 : Int32)]) (st := [.long (((v18 + v20) + v22) + v24)]) dL_fits_254 (c_L_account  _ _ hv27) (by decide) (Nat.le_of_ble_eq_true rfl) ce_L_account ml_L_155 st_L_account rfl (Nat.le_of_ble_eq_true rfl) rfl ?_
      refine lo_lcmp (pc := 257) dL_fits_257 ?_
      refine lo_if_ne (pc := 258) (tgt := 292) dL_fits_258 (by decide) (fun c28 => ?_) (fun c28 => ?_)
      · rw [if_neg c28] at h
        refine lo_iconst (pc := 292) (v := (0 : Int32)) dL_fits_292 (by decide) ?_
        obtain rfl := Option.some.inj h
        exact lo_iret (pc := 293) .boolean dL_fits_293 rfl rfl ⟨rfl, rfl⟩
      · rw [if_pos c28] at h
        refine lo_aload_n (pc := 261) dL_fits_261 rfl rfl ?_
        refine lo_aload_n (pc := 262) dL_fits_262 rfl rfl ?_
        refine lo_iconst (pc := 263) (v := (4 : Int32)) dL_fits_263 (by decide) ?_
        obtain ⟨v29, hv30, h⟩ := fm_bind h
        refine lo_callSj (pc := 264) (As := [.ref 0, .int (4 : Int32)]) (st := [.ref 0]) dL_fits_264 (c_L_account  _ _ hv30) (by decide) (Nat.le_of_ble_eq_true rfl) ce_L_account ml_L_155 st_L_account rfl (Nat.le_of_ble_eq_true rfl) rfl ?_
        refine lo_l2i (pc := 267) dL_fits_267 ?_
        obtain ⟨v31, hv32, h⟩ := fm_bind h
        refine lo_callSj (pc := 268) (As := [.ref 0, .int (v29.toInt32)]) (st := []) dL_fits_268 (c_L_senior  _ _ hv32) (by decide) (Nat.le_of_ble_eq_true rfl) ce_L_senior ml_L_226 st_L_senior rfl (Nat.le_of_ble_eq_true rfl) rfl ?_
        refine lo_ldc2 (pc := 271) (v := (-11 : Int64)) dL_fits_271 cs_L_228 ?_
        refine lo_lcmp (pc := 274) dL_fits_274 ?_
        refine lo_if_ne (pc := 275) (tgt := 292) dL_fits_275 (by decide) (fun c33 => ?_) (fun c33 => ?_)
        · rw [if_neg c33] at h
          refine lo_iconst (pc := 292) (v := (0 : Int32)) dL_fits_292 (by decide) ?_
          obtain rfl := Option.some.inj h
          exact lo_iret (pc := 293) .boolean dL_fits_293 rfl rfl ⟨rfl, rfl⟩
        · rw [if_pos c33] at h
          refine lo_aload_n (pc := 278) dL_fits_278 rfl rfl ?_
          refine lo_iload_n (pc := 279) dL_fits_279 rfl rfl ?_
          refine lo_iconst (pc := 280) (v := (3 : Int32)) dL_fits_280 (by decide) ?_
          refine lo_ishr (pc := 281) dL_fits_281 ?_
          obtain ⟨v34, hv35, h⟩ := fm_bind h
          refine lo_callSi (pc := 282) (As := [.ref 0, .int (y1 >>> ((3 : Int32) &&& 31))]) (st := []) dL_fits_282 (c_L_ahead  _ _ hv35) (by decide) (Nat.le_of_ble_eq_true rfl) ce_L_ahead ml_L_230 st_L_ahead rfl (Nat.le_of_ble_eq_true rfl) rfl ?_
          refine lo_ifb_eq (pc := 285) (tgt := 292) dL_fits_285 (by decide) (fun c36 => ?_) (fun c36 => ?_)
          · rw [if_neg (by rw [c36]; decide)] at h
            refine lo_iconst (pc := 292) (v := (0 : Int32)) dL_fits_292 (by decide) ?_
            obtain rfl := Option.some.inj h
            exact lo_iret (pc := 293) .boolean dL_fits_293 rfl rfl ⟨rfl, rfl⟩
          · rw [if_pos c36] at h
            refine lo_iconst (pc := 288) (v := (1 : Int32)) dL_fits_288 (by decide) ?_
            refine lo_goto (pc := 289) (tgt := 293) dL_fits_289 (by decide) ?_
            obtain rfl := Option.some.inj h
            exact lo_iret (pc := 293) .boolean dL_fits_293 rfl rfl ⟨rfl, rfl⟩
    · rw [if_neg c17] at h
      refine lo_aload_n (pc := 192) dL_fits_192 rfl rfl ?_
      refine lo_aload_n (pc := 193) dL_fits_193 rfl rfl ?_
      refine lo_iload_n (pc := 194) dL_fits_194 rfl rfl ?_
      obtain ⟨v37, hv38, h⟩ := fm_bind h
      refine lo_callSj (pc := 195) (As := [.ref 0, .int y2]) (st := [.ref 0]) dL_fits_195 (c_L_shabby  _ _ hv38) (by decide) (Nat.le_of_ble_eq_true rfl) ce_L_shabby ml_L_224 st_L_shabby rfl (Nat.le_of_ble_eq_true rfl) rfl ?_
      refine lo_l2i (pc := 198) dL_fits_198 ?_
      refine lo_iconst (pc := 199) (v := (4 : Int32)) dL_fits_199 (by decide) ?_
      obtain ⟨v39, hv40, h⟩ := fm_bind h
      refine lo_callSj (pc := 200) (As := [.ref 0, .int (v37.1.toInt32), .int (4 : Int32)]) (st := []) dL_fits_200 (c_L_brotherOf  _ _ _ hv40) (by decide) (Nat.le_of_ble_eq_true rfl) ce_L_brotherOf ml_L_160 st_L_brotherOf rfl (Nat.le_of_ble_eq_true rfl) rfl ?_
      refine lo_aload_n (pc := 203) dL_fits_203 rfl rfl ?_
      refine lo_aload_n (pc := 204) dL_fits_204 rfl rfl ?_
      refine lo_iload_n (pc := 205) dL_fits_205 rfl rfl ?_
      refine lo_iconst (pc := 206) (v := (1 : Int32)) dL_fits_206 (by decide) ?_
      refine lo_iadd (pc := 207) dL_fits_207 ?_
      obtain ⟨v41, hv42, h⟩ := fm_bind h
      refine lo_callSj (pc := 208) (As := [.ref 0, .int (y2 + (1 : Int32))]) (st := [.ref 0, .long v39]) dL_fits_208 (c_L_shabby  _ _ hv42) (by decide) (Nat.le_of_ble_eq_true rfl) ce_L_shabby ml_L_224 st_L_shabby rfl (Nat.le_of_ble_eq_true rfl) rfl ?_
      refine lo_l2i (pc := 211) dL_fits_211 ?_
      refine lo_iconst (pc := 212) (v := (4 : Int32)) dL_fits_212 (by decide) ?_
      obtain ⟨v43, hv44, h⟩ := fm_bind h
      refine lo_callSj (pc := 213) (As := [.ref 0, .int (v41.1.toInt32), .int (4 : Int32)]) (st := [.long v39]) dL_fits_213 (c_L_brotherOf  _ _ _ hv44) (by decide) (Nat.le_of_ble_eq_true rfl) ce_L_brotherOf ml_L_160 st_L_brotherOf rfl (Nat.le_of_ble_eq_true rfl) rfl ?_
      refine lo_lcmp (pc := 216) dL_fits_216 ?_
      refine lo_if_ge (pc := 217) (tgt := 222) dL_fits_217 (by decide) (fun c45 => ?_) (fun c45 => ?_)
      · rw [if_pos c45] at h
        refine lo_iinc (pc := 222) (v := (y2 + (1 : Int32))) (ls1 := [some (.ref 0), some (.int y1), some (.int (y2 + (1 : Int32))), none, none]) dL_fits_222 rfl rfl (Nat.le_of_ble_eq_true rfl) rfl rfl ?_
        refine lo_goto (pc := 225) (tgt := 179) dL_fits_225 (by decide) ?_
        exact ih _ _ _ _ h
      · rw [if_neg c45] at h
        refine lo_iconst (pc := 220) (v := (0 : Int32)) dL_fits_220 (by decide) ?_
        obtain rfl := Option.some.inj h
        exact lo_iret (pc := 221) .boolean dL_fits_221 rfl rfl ⟨rfl, rfl⟩
set_option maxRecDepth 100000 in
set_option maxHeartbeats 4000000 in
theorem c_L_fits_L130 {L : Nat} {xs : Nat → Int32} {X : List fm_L} : ∀ (n : Nat) (y1 : Int32) (y2 : Int32) (m : fm_M) (res : Bool × fm_M), f_L_fits_L130 n y1 y2 m = some res → fl_Go L xs (fm_layH ++ X) 9 m_L_fits (fm_pi (fm_b res.1) res.2) 130 [some (.ref 0), some (.int y1), some (.int y2), none, none] [] m := by
  intro n
  induction n with
  | zero => intro y1 y2 m res h; cases h
  | succ n ih =>
    intro y1 y2 m res h
    rw [f_L_fits_L130] at h
    refine lo_iload_n (pc := 130) dL_fits_130 rfl rfl ?_
    refine lo_iconst (pc := 131) (v := (1 : Int32)) dL_fits_131 (by decide) ?_
    refine lo_iadd (pc := 132) dL_fits_132 ?_
    refine lo_i2l (pc := 133) dL_fits_133 ?_
    refine lo_aload_n (pc := 134) dL_fits_134 rfl rfl ?_
    refine lo_iconst (pc := 135) (v := (3 : Int32)) dL_fits_135 (by decide) ?_
    obtain ⟨v12, hv13, h⟩ := fm_bind h
    refine lo_callSj (pc := 136) (As := [.ref 0, .int (3 : Int32)]) (st := [.long ((y2 + (1 : Int32)).toInt64)]) dL_fits_136 (c_L_account  _ _ hv13) (by decide) (Nat.le_of_ble_eq_true rfl) ce_L_account ml_L_155 st_L_account rfl (Nat.le_of_ble_eq_true rfl) rfl ?_
    refine lo_lcmp (pc := 139) dL_fits_139 ?_
    refine lo_if_ge (pc := 140) (tgt := 177) dL_fits_140 (by decide) (fun c14 => ?_) (fun c14 => ?_)
    · rw [if_pos c14] at h
      refine lo_iconst (pc := 177) (v := (0 : Int32)) dL_fits_177 (by decide) ?_
      refine lo_istore_n (pc := 178) (ls1 := [some (.ref 0), some (.int y1), some (.int (0 : Int32)), none, none]) dL_fits_178 rfl (by decide) rfl rfl ?_
      exact c_L_fits_L179  fm_F _ _ _ _ h
    · rw [if_neg c14] at h
      refine lo_aload_n (pc := 143) dL_fits_143 rfl rfl ?_
      refine lo_aload_n (pc := 144) dL_fits_144 rfl rfl ?_
      refine lo_iload_n (pc := 145) dL_fits_145 rfl rfl ?_
      obtain ⟨v46, hv47, h⟩ := fm_bind h
      refine lo_callSj (pc := 146) (As := [.ref 0, .int y2]) (st := [.ref 0]) dL_fits_146 (c_L_ranked  _ _ hv47) (by decide) (Nat.le_of_ble_eq_true rfl) ce_L_ranked ml_L_222 st_L_ranked rfl (Nat.le_of_ble_eq_true rfl) rfl ?_
      refine lo_l2i (pc := 149) dL_fits_149 ?_
      obtain ⟨v48, hv49, h⟩ := fm_bind h
      refine lo_callSj (pc := 150) (As := [.ref 0, .int (v46.1.toInt32)]) (st := []) dL_fits_150 (c_L_voices  _ _ hv49) (by decide) (Nat.le_of_ble_eq_true rfl) ce_L_voices ml_L_218 st_L_voices rfl (Nat.le_of_ble_eq_true rfl) rfl ?_
      refine lo_aload_n (pc := 153) dL_fits_153 rfl rfl ?_
      refine lo_aload_n (pc := 154) dL_fits_154 rfl rfl ?_
      refine lo_iload_n (pc := 155) dL_fits_155 rfl rfl ?_
      refine lo_iconst (pc := 156) (v := (1 : Int32)) dL_fits_156 (by decide) ?_
      refine lo_iadd (pc := 157) dL_fits_157 ?_
      obtain ⟨v50, hv51, h⟩ := fm_bind h
      refine lo_callSj (pc := 158) (As := [.ref 0, .int (y2 + (1 : Int32))]) (st := [.ref 0, .long v48]) dL_fits_158 (c_L_ranked  _ _ hv51) (by decide) (Nat.le_of_ble_eq_true rfl) ce_L_ranked ml_L_222 st_L_ranked rfl (Nat.le_of_ble_eq_true rfl) rfl ?_
      refine lo_l2i (pc := 161) dL_fits_161 ?_
      obtain ⟨v52, hv53, h⟩ := fm_bind h
      refine lo_callSj (pc := 162) (As := [.ref 0, .int (v50.1.toInt32)]) (st := [.long v48]) dL_fits_162 (c_L_voices  _ _ hv53) (by decide) (Nat.le_of_ble_eq_true rfl) ce_L_voices ml_L_218 st_L_voices rfl (Nat.le_of_ble_eq_true rfl) rfl ?_
      refine lo_lcmp (pc := 165) dL_fits_165 ?_
      refine lo_if_ge (pc := 166) (tgt := 171) dL_fits_166 (by decide) (fun c54 => ?_) (fun c54 => ?_)
      · rw [if_pos c54] at h
        refine lo_iinc (pc := 171) (v := (y2 + (1 : Int32))) (ls1 := [some (.ref 0), some (.int y1), some (.int (y2 + (1 : Int32))), none, none]) dL_fits_171 rfl rfl (Nat.le_of_ble_eq_true rfl) rfl rfl ?_
        refine lo_goto (pc := 174) (tgt := 130) dL_fits_174 (by decide) ?_
        exact ih _ _ _ _ h
      · rw [if_neg c54] at h
        refine lo_iconst (pc := 169) (v := (0 : Int32)) dL_fits_169 (by decide) ?_
        obtain rfl := Option.some.inj h
        exact lo_iret (pc := 170) .boolean dL_fits_170 rfl rfl ⟨rfl, rfl⟩
set_option maxRecDepth 100000 in
set_option maxHeartbeats 4000000 in
theorem c_L_fits_L25 {L : Nat} {xs : Nat → Int32} {X : List fm_L} : ∀ (n : Nat) (y1 : Int32) (y2 : Int32) (m : fm_M) (res : Bool × fm_M), f_L_fits_L25 n y1 y2 m = some res → fl_Go L xs (fm_layH ++ X) 9 m_L_fits (fm_pi (fm_b res.1) res.2) 25 [some (.ref 0), some (.int y1), some (.int y2), none, none] [] m := by
  intro n
  induction n with
  | zero => intro y1 y2 m res h; cases h
  | succ n ih =>
    intro y1 y2 m res h
    rw [f_L_fits_L25] at h
    refine lo_iload_n (pc := 25) dL_fits_25 rfl rfl ?_
    refine lo_i2l (pc := 26) dL_fits_26 ?_
    refine lo_aload_n (pc := 27) dL_fits_27 rfl rfl ?_
    refine lo_iconst (pc := 28) (v := (2 : Int32)) dL_fits_28 (by decide) ?_
    obtain ⟨v9, hv10, h⟩ := fm_bind h
    refine lo_callSj (pc := 29) (As := [.ref 0, .int (2 : Int32)]) (st := [.long (y2.toInt64)]) dL_fits_29 (c_L_account  _ _ hv10) (by decide) (Nat.le_of_ble_eq_true rfl) ce_L_account ml_L_155 st_L_account rfl (Nat.le_of_ble_eq_true rfl) rfl ?_
    refine lo_lcmp (pc := 32) dL_fits_32 ?_
    refine lo_if_ge (pc := 33) (tgt := 128) dL_fits_33 (by decide) (fun c11 => ?_) (fun c11 => ?_)
    · rw [if_pos c11] at h
      refine lo_iconst (pc := 128) (v := (0 : Int32)) dL_fits_128 (by decide) ?_
      refine lo_istore_n (pc := 129) (ls1 := [some (.ref 0), some (.int y1), some (.int (0 : Int32)), none, none]) dL_fits_129 rfl (by decide) rfl rfl ?_
      exact c_L_fits_L130  fm_F _ _ _ _ h
    · rw [if_neg c11] at h
      refine lo_aload_n (pc := 36) dL_fits_36 rfl rfl ?_
      refine lo_iload_n (pc := 37) dL_fits_37 rfl rfl ?_
      obtain ⟨v55, hv56, h⟩ := fm_bind h
      refine lo_callSj (pc := 38) (As := [.ref 0, .int y2]) (st := []) dL_fits_38 (c_L_voices  _ _ hv56) (by decide) (Nat.le_of_ble_eq_true rfl) ce_L_voices ml_L_218 st_L_voices rfl (Nat.le_of_ble_eq_true rfl) rfl ?_
      refine lo_aload_n (pc := 41) dL_fits_41 rfl rfl ?_
      refine lo_iload_n (pc := 42) dL_fits_42 rfl rfl ?_
      obtain ⟨v57, hv58, h⟩ := fm_bind h
      refine lo_callSj (pc := 43) (As := [.ref 0, .int y2]) (st := [.long v55]) dL_fits_43 (c_L_voicesAgain  _ _ hv58) (by decide) (Nat.le_of_ble_eq_true rfl) ce_L_voicesAgain ml_L_220 st_L_voicesAgain rfl (Nat.le_of_ble_eq_true rfl) rfl ?_
      refine lo_lcmp (pc := 46) dL_fits_46 ?_
      refine lo_if_eq (pc := 47) (tgt := 52) dL_fits_47 (by decide) (fun c59 => ?_) (fun c59 => ?_)
      · rw [if_pos c59] at h
        refine lo_aload_n (pc := 52) dL_fits_52 rfl rfl ?_
        refine lo_iload_n (pc := 53) dL_fits_53 rfl rfl ?_
        refine lo_iconst (pc := 54) (v := (3 : Int32)) dL_fits_54 (by decide) ?_
        obtain ⟨v60, hv61, h⟩ := fm_bind h
        refine lo_callSj (pc := 55) (As := [.ref 0, .int y2, .int (3 : Int32)]) (st := []) dL_fits_55 (c_L_brotherOf  _ _ _ hv61) (by decide) (Nat.le_of_ble_eq_true rfl) ce_L_brotherOf ml_L_160 st_L_brotherOf rfl (Nat.le_of_ble_eq_true rfl) rfl ?_
        refine lo_lstore_n (pc := 58) (ls1 := [some (.ref 0), some (.int y1), some (.int y2), some (.long v60), none]) dL_fits_58 rfl (by decide) rfl rfl ?_
        refine lo_lload_n (pc := 59) dL_fits_59 rfl rfl ?_
        refine lo_lconst (pc := 60) (v := (0 : Int64)) dL_fits_60 rfl ?_
        refine lo_lcmp (pc := 61) dL_fits_61 ?_
        refine lo_if_lt (pc := 62) (tgt := 90) dL_fits_62 (by decide) (fun c62 => ?_) (fun c62 => ?_)
        · rw [if_pos c62] at h
          refine lo_aload_n (pc := 90) dL_fits_90 rfl rfl ?_
          obtain ⟨v63, hv64, h⟩ := fm_bind h
          refine lo_callSj (pc := 91) (As := [.ref 0]) (st := []) dL_fits_91 (c_L_entitled  _ hv64) (by decide) (Nat.le_of_ble_eq_true rfl) ce_L_entitled ml_L_214 st_L_entitled rfl (Nat.le_of_ble_eq_true rfl) rfl ?_
          refine lo_iload_n (pc := 94) dL_fits_94 rfl rfl ?_
          refine lo_lshr (pc := 95) dL_fits_95 ?_
          refine lo_lconst (pc := 96) (v := (1 : Int64)) dL_fits_96 rfl ?_
          refine lo_land (pc := 97) dL_fits_97 ?_
          refine lo_lconst (pc := 98) (v := (1 : Int64)) dL_fits_98 rfl ?_
          refine lo_lcmp (pc := 99) dL_fits_99 ?_
          refine lo_if_ne (pc := 100) (tgt := 122) dL_fits_100 (by decide) (fun c65 => ?_) (fun c65 => ?_)
          · rw [if_neg c65] at h
            refine lo_iinc (pc := 122) (v := (y2 + (1 : Int32))) (ls1 := [some (.ref 0), some (.int y1), some (.int (y2 + (1 : Int32))), some (.long v60), none]) dL_fits_122 rfl rfl (Nat.le_of_ble_eq_true rfl) rfl rfl ?_
            refine lo_goto (pc := 125) (tgt := 25) dL_fits_125 (by decide) ?_
            refine lo_drop 3 (ls1 := [some (.ref 0), some (.int y1), some (.int (y2 + (1 : Int32))), none, none]) rfl ?_
            exact ih _ _ _ _ h
          · rw [if_pos c65] at h
            refine lo_aload_n (pc := 103) dL_fits_103 rfl rfl ?_
            refine lo_iload_n (pc := 104) dL_fits_104 rfl rfl ?_
            refine lo_iconst (pc := 105) (v := (5 : Int32)) dL_fits_105 (by decide) ?_
            obtain ⟨v66, hv67, h⟩ := fm_bind h
            refine lo_callSj (pc := 106) (As := [.ref 0, .int y2, .int (5 : Int32)]) (st := []) dL_fits_106 (c_L_brotherOf  _ _ _ hv67) (by decide) (Nat.le_of_ble_eq_true rfl) ce_L_brotherOf ml_L_160 st_L_brotherOf rfl (Nat.le_of_ble_eq_true rfl) rfl ?_
            refine lo_lconst (pc := 109) (v := (0 : Int64)) dL_fits_109 rfl ?_
            refine lo_lcmp (pc := 110) dL_fits_110 ?_
            refine lo_if_ne (pc := 111) (tgt := 120) dL_fits_111 (by decide) (fun c68 => ?_) (fun c68 => ?_)
            · rw [if_neg c68] at h
              refine lo_iconst (pc := 120) (v := (0 : Int32)) dL_fits_120 (by decide) ?_
              obtain rfl := Option.some.inj h
              exact lo_iret (pc := 121) .boolean dL_fits_121 rfl rfl ⟨rfl, rfl⟩
            · rw [if_pos c68] at h
              refine lo_lload_n (pc := 114) dL_fits_114 rfl rfl ?_
              refine lo_lconst (pc := 115) (v := (0 : Int64)) dL_fits_115 rfl ?_
              refine lo_lcmp (pc := 116) dL_fits_116 ?_
              refine lo_if_ge (pc := 117) (tgt := 122) dL_fits_117 (by decide) (fun c69 => ?_) (fun c69 => ?_)
              · rw [if_pos c69] at h
                refine lo_iinc (pc := 122) (v := (y2 + (1 : Int32))) (ls1 := [some (.ref 0), some (.int y1), some (.int (y2 + (1 : Int32))), some (.long v60), none]) dL_fits_122 rfl rfl (Nat.le_of_ble_eq_true rfl) rfl rfl ?_
                refine lo_goto (pc := 125) (tgt := 25) dL_fits_125 (by decide) ?_
                refine lo_drop 3 (ls1 := [some (.ref 0), some (.int y1), some (.int (y2 + (1 : Int32))), none, none]) rfl ?_
                exact ih _ _ _ _ h
              · rw [if_neg c69] at h
                refine lo_iconst (pc := 120) (v := (0 : Int32)) dL_fits_120 (by decide) ?_
                obtain rfl := Option.some.inj h
                exact lo_iret (pc := 121) .boolean dL_fits_121 rfl rfl ⟨rfl, rfl⟩
        · rw [if_neg c62] at h
          refine lo_aload_n (pc := 65) dL_fits_65 rfl rfl ?_
          refine lo_lload_n (pc := 66) dL_fits_66 rfl rfl ?_
          refine lo_l2i (pc := 67) dL_fits_67 ?_
          obtain ⟨v70, hv71, h⟩ := fm_bind h
          refine lo_callSj (pc := 68) (As := [.ref 0, .int (v60.toInt32)]) (st := []) dL_fits_68 (c_L_inCell  _ _ hv71) (by decide) (Nat.le_of_ble_eq_true rfl) ce_L_inCell ml_L_167 st_L_inCell rfl (Nat.le_of_ble_eq_true rfl) rfl ?_
          refine lo_iload_n (pc := 71) dL_fits_71 rfl rfl ?_
          refine lo_i2l (pc := 72) dL_fits_72 ?_
          refine lo_lcmp (pc := 73) dL_fits_73 ?_
          refine lo_if_ne (pc := 74) (tgt := 88) dL_fits_74 (by decide) (fun c72 => ?_) (fun c72 => ?_)
          · rw [if_neg c72] at h
            refine lo_iconst (pc := 88) (v := (0 : Int32)) dL_fits_88 (by decide) ?_
            obtain rfl := Option.some.inj h
            exact lo_iret (pc := 89) .boolean dL_fits_89 rfl rfl ⟨rfl, rfl⟩
          · rw [if_pos c72] at h
            refine lo_aload_n (pc := 77) dL_fits_77 rfl rfl ?_
            refine lo_iload_n (pc := 78) dL_fits_78 rfl rfl ?_
            refine lo_iconst (pc := 79) (v := (2 : Int32)) dL_fits_79 (by decide) ?_
            obtain ⟨v73, hv74, h⟩ := fm_bind h
            refine lo_callSj (pc := 80) (As := [.ref 0, .int y2, .int (2 : Int32)]) (st := []) dL_fits_80 (c_L_brotherOf  _ _ _ hv74) (by decide) (Nat.le_of_ble_eq_true rfl) ce_L_brotherOf ml_L_160 st_L_brotherOf rfl (Nat.le_of_ble_eq_true rfl) rfl ?_
            refine lo_lconst (pc := 83) (v := (1 : Int64)) dL_fits_83 rfl ?_
            refine lo_lcmp (pc := 84) dL_fits_84 ?_
            refine lo_if_eq (pc := 85) (tgt := 90) dL_fits_85 (by decide) (fun c75 => ?_) (fun c75 => ?_)
            · rw [if_pos c75] at h
              refine lo_aload_n (pc := 90) dL_fits_90 rfl rfl ?_
              obtain ⟨v76, hv77, h⟩ := fm_bind h
              refine lo_callSj (pc := 91) (As := [.ref 0]) (st := []) dL_fits_91 (c_L_entitled  _ hv77) (by decide) (Nat.le_of_ble_eq_true rfl) ce_L_entitled ml_L_214 st_L_entitled rfl (Nat.le_of_ble_eq_true rfl) rfl ?_
              refine lo_iload_n (pc := 94) dL_fits_94 rfl rfl ?_
              refine lo_lshr (pc := 95) dL_fits_95 ?_
              refine lo_lconst (pc := 96) (v := (1 : Int64)) dL_fits_96 rfl ?_
              refine lo_land (pc := 97) dL_fits_97 ?_
              refine lo_lconst (pc := 98) (v := (1 : Int64)) dL_fits_98 rfl ?_
              refine lo_lcmp (pc := 99) dL_fits_99 ?_
              refine lo_if_ne (pc := 100) (tgt := 122) dL_fits_100 (by decide) (fun c78 => ?_) (fun c78 => ?_)
              · rw [if_neg c78] at h
                refine lo_iinc (pc := 122) (v := (y2 + (1 : Int32))) (ls1 := [some (.ref 0), some (.int y1), some (.int (y2 + (1 : Int32))), some (.long v60), none]) dL_fits_122 rfl rfl (Nat.le_of_ble_eq_true rfl) rfl rfl ?_
                refine lo_goto (pc := 125) (tgt := 25) dL_fits_125 (by decide) ?_
                refine lo_drop 3 (ls1 := [some (.ref 0), some (.int y1), some (.int (y2 + (1 : Int32))), none, none]) rfl ?_
                exact ih _ _ _ _ h
              · rw [if_pos c78] at h
                refine lo_aload_n (pc := 103) dL_fits_103 rfl rfl ?_
                refine lo_iload_n (pc := 104) dL_fits_104 rfl rfl ?_
                refine lo_iconst (pc := 105) (v := (5 : Int32)) dL_fits_105 (by decide) ?_
                obtain ⟨v79, hv80, h⟩ := fm_bind h
                refine lo_callSj (pc := 106) (As := [.ref 0, .int y2, .int (5 : Int32)]) (st := []) dL_fits_106 (c_L_brotherOf  _ _ _ hv80) (by decide) (Nat.le_of_ble_eq_true rfl) ce_L_brotherOf ml_L_160 st_L_brotherOf rfl (Nat.le_of_ble_eq_true rfl) rfl ?_
                refine lo_lconst (pc := 109) (v := (0 : Int64)) dL_fits_109 rfl ?_
                refine lo_lcmp (pc := 110) dL_fits_110 ?_
                refine lo_if_ne (pc := 111) (tgt := 120) dL_fits_111 (by decide) (fun c81 => ?_) (fun c81 => ?_)
                · rw [if_neg c81] at h
                  refine lo_iconst (pc := 120) (v := (0 : Int32)) dL_fits_120 (by decide) ?_
                  obtain rfl := Option.some.inj h
                  exact lo_iret (pc := 121) .boolean dL_fits_121 rfl rfl ⟨rfl, rfl⟩
                · rw [if_pos c81] at h
                  refine lo_lload_n (pc := 114) dL_fits_114 rfl rfl ?_
                  refine lo_lconst (pc := 115) (v := (0 : Int64)) dL_fits_115 rfl ?_
                  refine lo_lcmp (pc := 116) dL_fits_116 ?_
                  refine lo_if_ge (pc := 117) (tgt := 122) dL_fits_117 (by decide) (fun c82 => ?_) (fun c82 => ?_)
                  · rw [if_pos c82] at h
                    refine lo_iinc (pc := 122) (v := (y2 + (1 : Int32))) (ls1 := [some (.ref 0), some (.int y1), some (.int (y2 + (1 : Int32))), some (.long v60), none]) dL_fits_122 rfl rfl (Nat.le_of_ble_eq_true rfl) rfl rfl ?_
                    refine lo_goto (pc := 125) (tgt := 25) dL_fits_125 (by decide) ?_
                    refine lo_drop 3 (ls1 := [some (.ref 0), some (.int y1), some (.int (y2 + (1 : Int32))), none, none]) rfl ?_
                    exact ih _ _ _ _ h
                  · rw [if_neg c82] at h
                    refine lo_iconst (pc := 120) (v := (0 : Int32)) dL_fits_120 (by decide) ?_
                    obtain rfl := Option.some.inj h
                    exact lo_iret (pc := 121) .boolean dL_fits_121 rfl rfl ⟨rfl, rfl⟩
            · rw [if_neg c75] at h
              refine lo_iconst (pc := 88) (v := (0 : Int32)) dL_fits_88 (by decide) ?_
              obtain rfl := Option.some.inj h
              exact lo_iret (pc := 89) .boolean dL_fits_89 rfl rfl ⟨rfl, rfl⟩
      · rw [if_neg c59] at h
        refine lo_iconst (pc := 50) (v := (0 : Int32)) dL_fits_50 (by decide) ?_
        obtain rfl := Option.some.inj h
        exact lo_iret (pc := 51) .boolean dL_fits_51 rfl rfl ⟨rfl, rfl⟩
set_option maxRecDepth 100000 in
set_option maxHeartbeats 4000000 in
theorem c_L_fits {L : Nat} {xs : Nat → Int32} {X : List fm_L} (x1 : Int32) (m : fm_M) {res : Bool × fm_M} (h : f_L_fits x1 m = some res) : fl_Met L xs (fm_layH ++ X) 9 m_L_fits [.ref 0, .int x1] m (fm_pi (fm_b res.1) res.2) := by
  refine fl_Met_of (ls := [some (.ref 0), some (.int x1), none, none, none]) (by decide) rfl (fm_cc_r _ (fm_cc_i _ fm_cc_0)) (Nat.le_of_ble_eq_true rfl) rfl ?_
  unfold f_L_fits at h
  refine lo_aload_n (pc := 0) dL_fits_0 rfl rfl ?_
  obtain ⟨v1, hv2, h⟩ := fm_bind h
  refine lo_callSj (pc := 1) (As := [.ref 0]) (st := []) dL_fits_1 (c_L_isBalanced  _ hv2) (by decide) (Nat.le_of_ble_eq_true rfl) ce_L_isBalanced ml_L_210 st_L_isBalanced rfl (Nat.le_of_ble_eq_true rfl) rfl ?_
  refine lo_lconst (pc := 4) (v := (1 : Int64)) dL_fits_4 rfl ?_
  refine lo_lcmp (pc := 5) dL_fits_5 ?_
  refine lo_if_ne (pc := 6) (tgt := 21) dL_fits_6 (by decide) (fun c3 => ?_) (fun c3 => ?_)
  · rw [if_neg c3] at h
    refine lo_iconst (pc := 21) (v := (0 : Int32)) dL_fits_21 (by decide) ?_
    obtain rfl := Option.some.inj h
    exact lo_iret (pc := 22) .boolean dL_fits_22 rfl rfl ⟨rfl, rfl⟩
  · rw [if_pos c3] at h
    refine lo_aload_n (pc := 9) dL_fits_9 rfl rfl ?_
    obtain ⟨v4, hv5, h⟩ := fm_bind h
    refine lo_callSj (pc := 10) (As := [.ref 0]) (st := []) dL_fits_10 (c_L_entitled  _ hv5) (by decide) (Nat.le_of_ble_eq_true rfl) ce_L_entitled ml_L_214 st_L_entitled rfl (Nat.le_of_ble_eq_true rfl) rfl ?_
    refine lo_aload_n (pc := 13) dL_fits_13 rfl rfl ?_
    obtain ⟨v6, hv7, h⟩ := fm_bind h
    refine lo_callSj (pc := 14) (As := [.ref 0]) (st := [.long v4]) dL_fits_14 (c_L_entitledAgain  _ hv7) (by decide) (Nat.le_of_ble_eq_true rfl) ce_L_entitledAgain ml_L_216 st_L_entitledAgain rfl (Nat.le_of_ble_eq_true rfl) rfl ?_
    refine lo_lcmp (pc := 17) dL_fits_17 ?_
    refine lo_if_eq (pc := 18) (tgt := 23) dL_fits_18 (by decide) (fun c8 => ?_) (fun c8 => ?_)
    · rw [if_pos c8] at h
      refine lo_iconst (pc := 23) (v := (0 : Int32)) dL_fits_23 (by decide) ?_
      refine lo_istore_n (pc := 24) (ls1 := [some (.ref 0), some (.int x1), some (.int (0 : Int32)), none, none]) dL_fits_24 rfl (by decide) rfl rfl ?_
      exact c_L_fits_L25  fm_F _ _ _ _ h
    · rw [if_neg c8] at h
      refine lo_iconst (pc := 21) (v := (0 : Int32)) dL_fits_21 (by decide) ?_
      obtain rfl := Option.some.inj h
      exact lo_iret (pc := 22) .boolean dL_fits_22 rfl rfl ⟨rfl, rfl⟩

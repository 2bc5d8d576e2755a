def f_X2_size (m : fm_M) : Option (Int32) :=
  some (m 14 3)
set_option maxRecDepth 100000 in
set_option maxHeartbeats 4000000 in
theorem c_X2_size {X : List fm_L} (m : fm_M) {res : Int32} (h : f_X2_size  m = some res) : fm_Met (fm_layH ++ X) 0 m_X2_size [.ref 14] m (fm_pi res m) := by
  refine fm_Met_of (ls := [some (.ref 14)]) (by decide) rfl (fm_cc_r _ fm_cc_0) (Nat.le_of_ble_eq_true rfl) rfl ?_
  unfold f_X2_size at h
  refine go_aload_n (pc := 0) dX2_size_0 rfl rfl ?_
  refine go_getI (pc := 1) (k := 3) dX2_size_1 cl_X2 rfl rfl (by decide) lk_X2_21 ?_
  obtain rfl := Option.some.inj h
  exact go_iret (pc := 4) .int dX2_size_4 rfl rfl ⟨rfl, rfl⟩
def f_X2_kindOf (x1 : Int32) (m : fm_M) : Option (Int32) :=
  if x1 < 0 then (some (-1 : Int32)) else (if (10 : Int32) ≤ x1 then (some (-1 : Int32)) else (if fm_in x1 10 = true then (some (m 15 x1.toNatClampNeg)) else none))
set_option maxRecDepth 100000 in
set_option maxHeartbeats 4000000 in
theorem c_X2_kindOf {X : List fm_L} (x1 : Int32) (m : fm_M) {res : Int32} (h : f_X2_kindOf x1 m = some res) : fm_Met (fm_layH ++ X) 0 m_X2_kindOf [.ref 14, .int x1] m (fm_pi res m) := by
  refine fm_Met_of (ls := [some (.ref 14), some (.int x1)]) (by decide) rfl (fm_cc_r _ (fm_cc_i _ fm_cc_0)) (Nat.le_of_ble_eq_true rfl) rfl ?_
  unfold f_X2_kindOf at h
  refine go_iload_n (pc := 0) dX2_kindOf_0 rfl rfl ?_
  refine go_if_lt (pc := 1) (tgt := 22) dX2_kindOf_1 (by decide) (fun c1 => ?_) (fun c1 => ?_)
  · rw [if_pos c1] at h
    refine go_iconst (pc := 22) (v := (-1 : Int32)) dX2_kindOf_22 (by decide) ?_
    obtain rfl := Option.some.inj h
    exact go_iret (pc := 23) .int dX2_kindOf_23 rfl rfl ⟨rfl, rfl⟩
  · rw [if_neg c1] at h
    refine go_iload_n (pc := 4) dX2_kindOf_4 rfl rfl ?_
    refine go_aload_n (pc := 5) dX2_kindOf_5 rfl rfl ?_
    refine go_getR (pc := 6) (k := 0) (q2 := 15) dX2_kindOf_6 cl_X2 rfl rfl (by decide) lk_X2_9 ?_
    refine go_alen (pc := 9) (v := (10 : Int32)) dX2_kindOf_9 rfl (by decide) ?_
    refine go_icmp_ge (pc := 10) (tgt := 22) dX2_kindOf_10 (by decide) (fun c2 => ?_) (fun c2 => ?_)
    · rw [if_pos c2] at h
      refine go_iconst (pc := 22) (v := (-1 : Int32)) dX2_kindOf_22 (by decide) ?_
      obtain rfl := Option.some.inj h
      exact go_iret (pc := 23) .int dX2_kindOf_23 rfl rfl ⟨rfl, rfl⟩
    · rw [if_neg c2] at h
      refine go_aload_n (pc := 13) dX2_kindOf_13 rfl rfl ?_
      refine go_getR (pc := 14) (k := 0) (q2 := 15) dX2_kindOf_14 cl_X2 rfl rfl (by decide) lk_X2_9 ?_
      refine go_iload_n (pc := 17) dX2_kindOf_17 rfl rfl ?_
      obtain ⟨hi3, h⟩ := fm_chk h
      refine go_iald (pc := 18) dX2_kindOf_18 rfl (fm_in_vp hi3) ?_
      refine go_goto (pc := 19) (tgt := 23) dX2_kindOf_19 (by decide) ?_
      obtain rfl := Option.some.inj h
      exact go_iret (pc := 23) .int dX2_kindOf_23 rfl rfl ⟨rfl, rfl⟩
def f_X2_firstOf (x1 : Int32) (m : fm_M) : Option (Int32) :=
  if x1 < 0 then (some (0 : Int32)) else (if (10 : Int32) ≤ x1 then (some (0 : Int32)) else (if fm_in x1 10 = true then (some (m 16 x1.toNatClampNeg)) else none))
set_option maxRecDepth 100000 in
set_option maxHeartbeats 4000000 in
theorem c_X2_firstOf {X : List fm_L} (x1 : Int32) (m : fm_M) {res : Int32} (h : f_X2_firstOf x1 m = some res) : fm_Met (fm_layH ++ X) 0 m_X2_firstOf [.ref 14, .int x1] m (fm_pi res m) := by
  refine fm_Met_of (ls := [some (.ref 14), some (.int x1)]) (by decide) rfl (fm_cc_r _ (fm_cc_i _ fm_cc_0)) (Nat.le_of_ble_eq_true rfl) rfl ?_
  unfold f_X2_firstOf at h
  refine go_iload_n (pc := 0) dX2_firstOf_0 rfl rfl ?_
  refine go_if_lt (pc := 1) (tgt := 22) dX2_firstOf_1 (by decide) (fun c1 => ?_) (fun c1 => ?_)
  · rw [if_pos c1] at h
    refine go_iconst (pc := 22) (v := (0 : Int32)) dX2_firstOf_22 (by decide) ?_
    obtain rfl := Option.some.inj h
    exact go_iret (pc := 23) .int dX2_firstOf_23 rfl rfl ⟨rfl, rfl⟩
  · rw [if_neg c1] at h
    refine go_iload_n (pc := 4) dX2_firstOf_4 rfl rfl ?_
    refine go_aload_n (pc := 5) dX2_firstOf_5 rfl rfl ?_
    refine go_getR (pc := 6) (k := 1) (q2 := 16) dX2_firstOf_6 cl_X2 rfl rfl (by decide) lk_X2_15 ?_
    refine go_alen (pc := 9) (v := (10 : Int32)) dX2_firstOf_9 rfl (by decide) ?_
    refine go_icmp_ge (pc := 10) (tgt := 22) dX2_firstOf_10 (by decide) (fun c2 => ?_) (fun c2 => ?_)
    · rw [if_pos c2] at h
      refine go_iconst (pc := 22) (v := (0 : Int32)) dX2_firstOf_22 (by decide) ?_
      obtain rfl := Option.some.inj h
      exact go_iret (pc := 23) .int dX2_firstOf_23 rfl rfl ⟨rfl, rfl⟩
    · rw [if_neg c2] at h
      refine go_aload_n (pc := 13) dX2_firstOf_13 rfl rfl ?_
      refine go_getR (pc := 14) (k := 1) (q2 := 16) dX2_firstOf_14 cl_X2 rfl rfl (by decide) lk_X2_15 ?_
      refine go_iload_n (pc := 17) dX2_firstOf_17 rfl rfl ?_
      obtain ⟨hi3, h⟩ := fm_chk h
      refine go_iald (pc := 18) dX2_firstOf_18 rfl (fm_in_vp hi3) ?_
      refine go_goto (pc := 19) (tgt := 23) dX2_firstOf_19 (by decide) ?_
      obtain rfl := Option.some.inj h
      exact go_iret (pc := 23) .int dX2_firstOf_23 rfl rfl ⟨rfl, rfl⟩
def f_X2_secondOf (x1 : Int32) (m : fm_M) : Option (Int32) :=
  if x1 < 0 then (some (0 : Int32)) else (if (10 : Int32) ≤ x1 then (some (0 : Int32)) else (if fm_in x1 10 = true then (some (m 17 x1.toNatClampNeg)) else none))
set_option maxRecDepth 100000 in
set_option maxHeartbeats 4000000 in
theorem c_X2_secondOf {X : List fm_L} (x1 : Int32) (m : fm_M) {res : Int32} (h : f_X2_secondOf x1 m = some res) : fm_Met (fm_layH ++ X) 0 m_X2_secondOf [.ref 14, .int x1] m (fm_pi res m) := by
  refine fm_Met_of (ls := [some (.ref 14), some (.int x1)]) (by decide) rfl (fm_cc_r _ (fm_cc_i _ fm_cc_0)) (Nat.le_of_ble_eq_true rfl) rfl ?_
  unfold f_X2_secondOf at h
  refine go_iload_n (pc := 0) dX2_secondOf_0 rfl rfl ?_
  refine go_if_lt (pc := 1) (tgt := 22) dX2_secondOf_1 (by decide) (fun c1 => ?_) (fun c1 => ?_)
  · rw [if_pos c1] at h
    refine go_iconst (pc := 22) (v := (0 : Int32)) dX2_secondOf_22 (by decide) ?_
    obtain rfl := Option.some.inj h
    exact go_iret (pc := 23) .int dX2_secondOf_23 rfl rfl ⟨rfl, rfl⟩
  · rw [if_neg c1] at h
    refine go_iload_n (pc := 4) dX2_secondOf_4 rfl rfl ?_
    refine go_aload_n (pc := 5) dX2_secondOf_5 rfl rfl ?_
    refine go_getR (pc := 6) (k := 2) (q2 := 17) dX2_secondOf_6 cl_X2 rfl rfl (by decide) lk_X2_18 ?_
    refine go_alen (pc := 9) (v := (10 : Int32)) dX2_secondOf_9 rfl (by decide) ?_
    refine go_icmp_ge (pc := 10) (tgt := 22) dX2_secondOf_10 (by decide) (fun c2 => ?_) (fun c2 => ?_)
    · rw [if_pos c2] at h
      refine go_iconst (pc := 22) (v := (0 : Int32)) dX2_secondOf_22 (by decide) ?_
      obtain rfl := Option.some.inj h
      exact go_iret (pc := 23) .int dX2_secondOf_23 rfl rfl ⟨rfl, rfl⟩
    · rw [if_neg c2] at h
      refine go_aload_n (pc := 13) dX2_secondOf_13 rfl rfl ?_
      refine go_getR (pc := 14) (k := 2) (q2 := 17) dX2_secondOf_14 cl_X2 rfl rfl (by decide) lk_X2_18 ?_
      refine go_iload_n (pc := 17) dX2_secondOf_17 rfl rfl ?_
      obtain ⟨hi3, h⟩ := fm_chk h
      refine go_iald (pc := 18) dX2_secondOf_18 rfl (fm_in_vp hi3) ?_
      refine go_goto (pc := 19) (tgt := 23) dX2_secondOf_19 (by decide) ?_
      obtain rfl := Option.some.inj h
      exact go_iret (pc := 23) .int dX2_secondOf_23 rfl rfl ⟨rfl, rfl⟩
def f_X2_kindWith (x1 : Int32) (m : fm_M) : Option (Int32) :=
  if x1 = (98 : Int32) then (some (3 : Int32)) else (if x1 = (99 : Int32) then (some (1 : Int32)) else (if x1 = (102 : Int32) then (some (5 : Int32)) else (if x1 = (103 : Int32) then (some (6 : Int32)) else (if x1 = (108 : Int32) then (some (2 : Int32)) else (if x1 = (112 : Int32) then (some (4 : Int32)) else (if x1 = (118 : Int32) then (some (0 : Int32)) else (if x1 = (119 : Int32) then (some (7 : Int32)) else (some (-1 : Int32)))))))))
set_option maxRecDepth 100000 in
set_option maxHeartbeats 4000000 in
theorem c_X2_kindWith {lay : List fm_L} (x1 : Int32) (m : fm_M) {res : Int32} (h : f_X2_kindWith x1 m = some res) : fm_Met lay 0 m_X2_kindWith [.int x1] m (fm_pi res m) := by
  refine fm_Met_of (ls := [some (.int x1)]) (by decide) rfl (fm_cc_i _ fm_cc_0) (Nat.le_of_ble_eq_true rfl) rfl ?_
  unfold f_X2_kindWith at h
  refine go_iload_n (pc := 0) dX2_kindWith_0 rfl rfl ?_
  by_cases c1 : x1 = (98 : Int32)
  · rw [if_pos c1] at h
    refine go_tswHit (pc := 1) (tgt := 110) dX2_kindWith_1 c1 (by decide) (by decide) rfl (by decide) ?_
    refine go_iconst (pc := 110) (v := (3 : Int32)) dX2_kindWith_110 (by decide) ?_
    obtain rfl := Option.some.inj h
    exact go_iret (pc := 111) .int dX2_kindWith_111 rfl rfl ⟨rfl, rfl⟩
  rw [if_neg c1] at h
  by_cases c2 : x1 = (99 : Int32)
  · rw [if_pos c2] at h
    refine go_tswHit (pc := 1) (tgt := 106) dX2_kindWith_1 c2 (by decide) (by decide) rfl (by decide) ?_
    refine go_iconst (pc := 106) (v := (1 : Int32)) dX2_kindWith_106 (by decide) ?_
    obtain rfl := Option.some.inj h
    exact go_iret (pc := 107) .int dX2_kindWith_107 rfl rfl ⟨rfl, rfl⟩
  rw [if_neg c2] at h
  by_cases c3 : x1 = (102 : Int32)
  · rw [if_pos c3] at h
    refine go_tswHit (pc := 1) (tgt := 114) dX2_kindWith_1 c3 (by decide) (by decide) rfl (by decide) ?_
    refine go_iconst (pc := 114) (v := (5 : Int32)) dX2_kindWith_114 (by decide) ?_
    obtain rfl := Option.some.inj h
    exact go_iret (pc := 115) .int dX2_kindWith_115 rfl rfl ⟨rfl, rfl⟩
  rw [if_neg c3] at h
  by_cases c4 : x1 = (103 : Int32)
  · rw [if_pos c4] at h
    refine go_tswHit (pc := 1) (tgt := 116) dX2_kindWith_1 c4 (by decide) (by decide) rfl (by decide) ?_
    refine go_bipush (pc := 116) (v := (6 : Int32)) dX2_kindWith_116 (by decide) ?_
    obtain rfl := Option.some.inj h
    exact go_iret (pc := 118) .int dX2_kindWith_118 rfl rfl ⟨rfl, rfl⟩
  rw [if_neg c4] at h
  by_cases c5 : x1 = (108 : Int32)
  · rw [if_pos c5] at h
    refine go_tswHit (pc := 1) (tgt := 108) dX2_kindWith_1 c5 (by decide) (by decide) rfl (by decide) ?_
    refine go_iconst (pc := 108) (v := (2 : Int32)) dX2_kindWith_108 (by decide) ?_
    obtain rfl := Option.some.inj h
    exact go_iret (pc := 109) .int dX2_kindWith_109 rfl rfl ⟨rfl, rfl⟩
  rw [if_neg c5] at h
  by_cases c6 : x1 = (112 : Int32)
  · rw [if_pos c6] at h
    refine go_tswHit (pc := 1) (tgt := 112) dX2_kindWith_1 c6 (by decide) (by decide) rfl (by decide) ?_
    refine go_iconst (pc := 112) (v := (4 : Int32)) dX2_kindWith_112 (by decide) ?_
    obtain rfl := Option.some.inj h
    exact go_iret (pc := 113) .int dX2_kindWith_113 rfl rfl ⟨rfl, rfl⟩
  rw [if_neg c6] at h
  by_cases c7 : x1 = (118 : Int32)
  · rw [if_pos c7] at h
    refine go_tswHit (pc := 1) (tgt := 104) dX2_kindWith_1 c7 (by decide) (by decide) rfl (by decide) ?_
    refine go_iconst (pc := 104) (v := (0 : Int32)) dX2_kindWith_104 (by decide) ?_
    obtain rfl := Option.some.inj h
    exact go_iret (pc := 105) .int dX2_kindWith_105 rfl rfl ⟨rfl, rfl⟩
  rw [if_neg c7] at h
  by_cases c8 : x1 = (119 : Int32)
  · rw [if_pos c8] at h
    refine go_tswHit (pc := 1) (tgt := 119) dX2_kindWith_1 c8 (by decide) (by decide) rfl (by decide) ?_
    refine go_bipush (pc := 119) (v := (7 : Int32)) dX2_kindWith_119 (by decide) ?_
    obtain rfl := Option.some.inj h
    exact go_iret (pc := 121) .int dX2_kindWith_121 rfl rfl ⟨rfl, rfl⟩
  rw [if_neg c8] at h
  refine go_tswMiss (pc := 1) (tgt := 122) dX2_kindWith_1 22 (by decide) (lt_s (lt_s (lt_s (lt_s (lt_s (lt_s (lt_s (lt_s (lt_s (lt_s (lt_s (lt_s (lt_s (lt_s (lt_s (lt_s (lt_s (lt_s (lt_s (lt_s (lt_s (lt_s lt_0 (Or.inl (lv_neT c1 rfl))) (Or.inl (lv_neT c2 rfl))) (Or.inr rfl)) (Or.inr rfl)) (Or.inl (lv_neT c3 rfl))) (Or.inl (lv_neT c4 rfl))) (Or.inr rfl)) (Or.inr rfl)) (Or.inr rfl)) (Or.inr rfl)) (Or.inl (lv_neT c5 rfl))) (Or.inr rfl)) (Or.inr rfl)) (Or.inr rfl)) (Or.inl (lv_neT c6 rfl))) (Or.inr rfl)) (Or.inr rfl)) (Or.inr rfl)) (Or.inr rfl)) (Or.inr rfl)) (Or.inl (lv_neT c7 rfl))) (Or.inl (lv_neT c8 rfl))) (by decide) ?_
  refine go_iconst (pc := 122) (v := (-1 : Int32)) dX2_kindWith_122 (by decide) ?_
  obtain rfl := Option.some.inj h
  exact go_iret (pc := 123) .int dX2_kindWith_123 rfl rfl ⟨rfl, rfl⟩
def f_X2_wordOf (x1 : Int32) (m : fm_M) : Option (Nat) :=
  if x1 = (0 : Int32) then (some 0) else (if x1 = (1 : Int32) then (some 1) else (if x1 = (2 : Int32) then (some 2) else (if x1 = (3 : Int32) then (some 3) else (if x1 = (4 : Int32) then (some 4) else (if x1 = (5 : Int32) then (some 5) else (if x1 = (6 : Int32) then (some 6) else (some 7)))))))
set_option maxRecDepth 100000 in
set_option maxHeartbeats 4000000 in
theorem c_X2_wordOf {lay : List fm_L} (x1 : Int32) (m : fm_M) {res : Nat} (h : f_X2_wordOf x1 m = some res) : fm_Met lay 0 m_X2_wordOf [.int x1] m (fm_pr (1000 + res) m) := by
  refine fm_Met_of (ls := [some (.int x1)]) (by decide) rfl (fm_cc_i _ fm_cc_0) (Nat.le_of_ble_eq_true rfl) rfl ?_
  unfold f_X2_wordOf at h
  refine go_iload_n (pc := 0) dX2_wordOf_0 rfl rfl ?_
  by_cases c1 : x1 = (0 : Int32)
  · rw [if_pos c1] at h
    refine go_tswHit (pc := 1) (tgt := 44) dX2_wordOf_1 c1 (by decide) (by decide) rfl (by decide) ?_
    refine go_ldcS (pc := 44) (i := 0) dX2_wordOf_44 rfl (by decide) rfl ?_
    obtain rfl := Option.some.inj h
    exact go_aret (pc := 46) "java/lang/String" dX2_wordOf_46 rfl ⟨rfl, rfl⟩
  rw [if_neg c1] at h
  by_cases c2 : x1 = (1 : Int32)
  · rw [if_pos c2] at h
    refine go_tswHit (pc := 1) (tgt := 47) dX2_wordOf_1 c2 (by decide) (by decide) rfl (by decide) ?_
    refine go_ldcS (pc := 47) (i := 1) dX2_wordOf_47 rfl (by decide) rfl ?_
    obtain rfl := Option.some.inj h
    exact go_aret (pc := 49) "java/lang/String" dX2_wordOf_49 rfl ⟨rfl, rfl⟩
  rw [if_neg c2] at h
  by_cases c3 : x1 = (2 : Int32)
  · rw [if_pos c3] at h
    refine go_tswHit (pc := 1) (tgt := 50) dX2_wordOf_1 c3 (by decide) (by decide) rfl (by decide) ?_
    refine go_ldcS (pc := 50) (i := 2) dX2_wordOf_50 rfl (by decide) rfl ?_
    obtain rfl := Option.some.inj h
    exact go_aret (pc := 52) "java/lang/String" dX2_wordOf_52 rfl ⟨rfl, rfl⟩
  rw [if_neg c3] at h
  by_cases c4 : x1 = (3 : Int32)
  · rw [if_pos c4] at h
    refine go_tswHit (pc := 1) (tgt := 53) dX2_wordOf_1 c4 (by decide) (by decide) rfl (by decide) ?_
    refine go_ldcS (pc := 53) (i := 3) dX2_wordOf_53 rfl (by decide) rfl ?_
    obtain rfl := Option.some.inj h
    exact go_aret (pc := 55) "java/lang/String" dX2_wordOf_55 rfl ⟨rfl, rfl⟩
  rw [if_neg c4] at h
  by_cases c5 : x1 = (4 : Int32)
  · rw [if_pos c5] at h
    refine go_tswHit (pc := 1) (tgt := 56) dX2_wordOf_1 c5 (by decide) (by decide) rfl (by decide) ?_
    refine go_ldcS (pc := 56) (i := 4) dX2_wordOf_56 rfl (by decide) rfl ?_
    obtain rfl := Option.some.inj h
    exact go_aret (pc := 58) "java/lang/String" dX2_wordOf_58 rfl ⟨rfl, rfl⟩
  rw [if_neg c5] at h
  by_cases c6 : x1 = (5 : Int32)
  · rw [if_pos c6] at h
    refine go_tswHit (pc := 1) (tgt := 59) dX2_wordOf_1 c6 (by decide) (by decide) rfl (by decide) ?_
    refine go_ldcS (pc := 59) (i := 5) dX2_wordOf_59 rfl (by decide) rfl ?_
    obtain rfl := Option.some.inj h
    exact go_aret (pc := 61) "java/lang/String" dX2_wordOf_61 rfl ⟨rfl, rfl⟩
  rw [if_neg c6] at h
  by_cases c7 : x1 = (6 : Int32)
  · rw [if_pos c7] at h
    refine go_tswHit (pc := 1) (tgt := 62) dX2_wordOf_1 c7 (by decide) (by decide) rfl (by decide) ?_
    refine go_ldcS (pc := 62) (i := 6) dX2_wordOf_62 rfl (by decide) rfl ?_
    obtain rfl := Option.some.inj h
    exact go_aret (pc := 64) "java/lang/String" dX2_wordOf_64 rfl ⟨rfl, rfl⟩
  rw [if_neg c7] at h
  refine go_tswMiss (pc := 1) (tgt := 65) dX2_wordOf_1 7 (by decide) (lt_s (lt_s (lt_s (lt_s (lt_s (lt_s (lt_s lt_0 (Or.inl (lv_neT c1 rfl))) (Or.inl (lv_neT c2 rfl))) (Or.inl (lv_neT c3 rfl))) (Or.inl (lv_neT c4 rfl))) (Or.inl (lv_neT c5 rfl))) (Or.inl (lv_neT c6 rfl))) (Or.inl (lv_neT c7 rfl))) (by decide) ?_
  refine go_ldcS (pc := 65) (i := 7) dX2_wordOf_65 rfl (by decide) rfl ?_
  obtain rfl := Option.some.inj h
  exact go_aret (pc := 67) "java/lang/String" dX2_wordOf_67 rfl ⟨rfl, rfl⟩
theorem f_X2_wordOf_lt {x : Int32} {m : fm_M} {v : Nat} (h : f_X2_wordOf x m = some v) : v < 8 := by
  unfold f_X2_wordOf at h
  repeat' split at h
  all_goals (obtain rfl := Option.some.inj h; decide)
def f_X2_readSign (p2 : Nat) (r2 : Nat) (n2 : Nat) (x2 : Int32) (m : fm_M) : Option (Bool × fm_M) :=
  (f_X4_at p2 r2 n2 (m 14 4) m).bind fun v1 => if v1 = x2 then (some (true, (fm_put m 14 4 ((m 14 4) + (1 : Int32))))) else (some (false, m))
set_option maxRecDepth 100000 in
set_option maxHeartbeats 4000000 in
theorem c_X2_readSign {X : List fm_L} {p2 r2 n2 : Nat} (hp2 : (fm_layH ++ X)[p2]? = some (.inr (4, [some (some r2), none]))) (hr2 : (fm_layH ++ X)[r2]? = some (.inl (0, n2))) (x2 : Int32) (m : fm_M) {res : Bool × fm_M} (h : f_X2_readSign p2 r2 n2 x2 m = some res) : fm_Met (fm_layH ++ X) 1 m_X2_readSign [.ref 14, .ref p2, .int x2] m (fm_pi (fm_b res.1) res.2) := by
  refine fm_Met_of (ls := [some (.ref 14), some (.ref p2), some (.int x2)]) (by decide) rfl (fm_cc_r _ (fm_cc_r _ (fm_cc_i _ fm_cc_0))) (Nat.le_of_ble_eq_true rfl) rfl ?_
  unfold f_X2_readSign at h
  refine go_aload_n (pc := 0) dX2_readSign_0 rfl rfl ?_
  refine go_aload_n (pc := 1) dX2_readSign_1 rfl rfl ?_
  refine go_getI (pc := 2) (k := 4) dX2_readSign_2 cl_X2 rfl rfl (by decide) lk_X2_25 ?_
  obtain ⟨v1, hv2, h⟩ := fm_bind h
  refine go_callVi (pc := 5) (As := [.int (m 14 4)]) (st := []) dX2_readSign_5 (c_X4_at (p := p2) (r := r2) (n0 := n2) hp2 hr2 _ _ hv2) (by decide) ce_X4_at ml_X2_45 in_X4_at se_X4_at cl_X4 hp2 rfl (Nat.le_of_ble_eq_true rfl) rfl ?_
  refine go_iload_n (pc := 8) dX2_readSign_8 rfl rfl ?_
  refine go_icmp_eq (pc := 9) (tgt := 14) dX2_readSign_9 (by decide) (fun c3 => ?_) (fun c3 => ?_)
  · rw [if_pos c3] at h
    refine go_aload_n (pc := 14) dX2_readSign_14 rfl rfl ?_
    refine go_dup (pc := 15) dX2_readSign_15 rfl ?_
    refine go_getI (pc := 16) (k := 4) dX2_readSign_16 cl_X2 rfl rfl (by decide) lk_X2_25 ?_
    refine go_iconst (pc := 19) (v := (1 : Int32)) dX2_readSign_19 (by decide) ?_
    refine go_iadd (pc := 20) dX2_readSign_20 ?_
    refine go_put (pc := 21) (k := 4) .int dX2_readSign_21 cl_X2 rfl rfl (by decide) lk_X2_25 rfl (by decide +kernel) rfl rfl ?_
    refine go_iconst (pc := 24) (v := (1 : Int32)) dX2_readSign_24 (by decide) ?_
    obtain rfl := Option.some.inj h
    exact go_iret (pc := 25) .boolean dX2_readSign_25 rfl rfl ⟨rfl, rfl⟩
  · rw [if_neg c3] at h
    refine go_iconst (pc := 12) (v := (0 : Int32)) dX2_readSign_12 (by decide) ?_
    obtain rfl := Option.some.inj h
    exact go_iret (pc := 13) .boolean dX2_readSign_13 rfl rfl ⟨rfl, rfl⟩
def f_X2_readWord_L2 (p2 : Nat) (r2 : Nat) (n2 : Nat) (w3 : Nat) : Nat → Int32 → fm_M → Option (Bool × fm_M)
  | 0, _, _ => none
  | n + 1, y3, m => if (Int32.ofNat (fm_len.getD w3 0)) ≤ y3 then (some (true, m)) else (if fm_in y3 (fm_len.getD w3 0) = true then ((f_X2_readSign p2 r2 n2 ((fm_byt.getD w3 []).getD y3.toNatClampNeg 0) m).bind fun v3 => if v3.1 = true then (f_X2_readWord_L2 p2 r2 n2 w3 n (y3 + (1 : Int32)) v3.2) else (some (false, v3.2))) else none)
def f_X2_readWord (p2 : Nat) (r2 : Nat) (n2 : Nat) (w3 : Nat) (m : fm_M) : Option (Bool × fm_M) :=
  f_X2_readWord_L2 p2 r2 n2 w3 fm_F (0 : Int32) m
set_option maxRecDepth 100000 in
set_option maxHeartbeats 4000000 in
theorem c_X2_readWord_L2 {X : List fm_L} {p2 r2 n2 w3 : Nat} (hp2 : (fm_layH ++ X)[p2]? = some (.inr (4, [some (some r2), none]))) (hr2 : (fm_layH ++ X)[r2]? = some (.inl (0, n2))) (hw3 : w3 < 16) : ∀ (n : Nat) (y3 : Int32) (m : fm_M) (res : Bool × fm_M), f_X2_readWord_L2 p2 r2 n2 w3 n y3 m = some res → fm_Go (fm_layH ++ X) 4 m_X2_readWord (fm_pi (fm_b res.1) res.2) 2 [some (.ref 14), some (.ref p2), some (.ref (1000 + w3)), some (.int y3)] [] m := by
  intro n
  induction n with
  | zero => intro y3 m res h; cases h
  | succ n ih =>
    intro y3 m res h
    rw [f_X2_readWord_L2] at h
    refine go_iload_n (pc := 2) dX2_readWord_2 rfl rfl ?_
    refine go_aload_n (pc := 3) dX2_readWord_3 rfl rfl ?_
    refine go_callTi (pc := 4) (As := []) (st := [.int y3]) dX2_readWord_4 hw3 (c_J0_length hw3 _) (by decide) ce_J0_length_8abf5 ml_X2_73 in_J0_length_8abf5 se_J0_length_8abf5 rfl (Nat.le_of_ble_eq_true rfl) rfl ?_
    refine go_icmp_ge (pc := 7) (tgt := 31) dX2_readWord_7 (by decide) (fun c1 => ?_) (fun c1 => ?_)
    · rw [if_pos c1] at h
      refine go_iconst (pc := 31) (v := (1 : Int32)) dX2_readWord_31 (by decide) ?_
      obtain rfl := Option.some.inj h
      exact go_iret (pc := 32) .boolean dX2_readWord_32 rfl rfl ⟨rfl, rfl⟩
    · rw [if_neg c1] at h
      refine go_aload_n (pc := 10) dX2_readWord_10 rfl rfl ?_
      refine go_aload_n (pc := 11) dX2_readWord_11 rfl rfl ?_
      refine go_aload_n (pc := 12) dX2_readWord_12 rfl rfl ?_
      refine go_iload_n (pc := 13) dX2_readWord_13 rfl rfl ?_
      obtain ⟨hi2, h⟩ := fm_chk h
      refine go_callTi (pc := 14) (As := [.int y3]) (st := [.ref p2, .ref 14]) dX2_readWord_14 hw3 (c_J0_charAt hw3 (fm_in_vp hi2) _) (by decide) ce_J0_charAt_5068e ml_X2_78 in_J0_charAt_5068e se_J0_charAt_5068e rfl (Nat.le_of_ble_eq_true rfl) rfl ?_
      obtain ⟨v3, hv4, h⟩ := fm_bind h
      refine go_callVi (pc := 17) (As := [.ref p2, .int ((fm_byt.getD w3 []).getD y3.toNatClampNeg 0)]) (st := []) dX2_readWord_17 (c_X2_readSign (p2 := p2) (r2 := r2) (n2 := n2) hp2 hr2 _ _ hv4) (by decide) ce_X2_readSign ml_X2_41 in_X2_readSign se_X2_readSign cl_X2 rfl rfl (Nat.le_of_ble_eq_true rfl) rfl ?_
      refine go_ifb_ne (pc := 20) (tgt := 25) dX2_readWord_20 (by decide) (fun c5 => ?_) (fun c5 => ?_)
      · rw [if_pos c5] at h
        refine go_iinc (pc := 25) (v := (y3 + (1 : Int32))) (ls1 := [some (.ref 14), some (.ref p2), some (.ref (1000 + w3)), some (.int (y3 + (1 : Int32)))]) dX2_readWord_25 rfl rfl (Nat.le_of_ble_eq_true rfl) rfl ?_
        refine go_goto (pc := 28) (tgt := 2) dX2_readWord_28 (by decide) ?_
        exact ih _ _ _ h
      · rw [if_neg (by rw [c5]; decide)] at h
        refine go_iconst (pc := 23) (v := (0 : Int32)) dX2_readWord_23 (by decide) ?_
        obtain rfl := Option.some.inj h
        exact go_iret (pc := 24) .boolean dX2_readWord_24 rfl rfl ⟨rfl, rfl⟩
set_option maxRecDepth 100000 in
set_option maxHeartbeats 4000000 in
theorem c_X2_readWord {X : List fm_L} {p2 r2 n2 w3 : Nat} (hp2 : (fm_layH ++ X)[p2]? = some (.inr (4, [some (some r2), none]))) (hr2 : (fm_layH ++ X)[r2]? = some (.inl (0, n2))) (hw3 : w3 < 16) (m : fm_M) {res : Bool × fm_M} (h : f_X2_readWord p2 r2 n2 w3 m = some res) : fm_Met (fm_layH ++ X) 4 m_X2_readWord [.ref 14, .ref p2, .ref (1000 + w3)] m (fm_pi (fm_b res.1) res.2) := by
  refine fm_Met_of (ls := [some (.ref 14), some (.ref p2), some (.ref (1000 + w3)), none]) (by decide) rfl (fm_cc_r _ (fm_cc_r _ (fm_cc_r _ fm_cc_0))) (Nat.le_of_ble_eq_true rfl) rfl ?_
  unfold f_X2_readWord at h
  refine go_iconst (pc := 0) (v := (0 : Int32)) dX2_readWord_0 (by decide) ?_
  refine go_istore_n (pc := 1) (ls1 := [some (.ref 14), some (.ref p2), some (.ref (1000 + w3)), some (.int (0 : Int32))]) dX2_readWord_1 rfl (by decide) rfl ?_
  exact c_X2_readWord_L2 hp2 hr2 hw3 fm_F _ _ _ h
def f_X2_firstDigits (x1 : Int32) (m : fm_M) : Option (Int32) :=
  if x1 = (1 : Int32) then (some (1 : Int32)) else (if x1 = (2 : Int32) then (some (1 : Int32)) else (if x1 = (6 : Int32) then (some (3 : Int32)) else (some (2 : Int32))))
set_option maxRecDepth 100000 in
set_option maxHeartbeats 4000000 in
theorem c_X2_firstDigits {lay : List fm_L} (x1 : Int32) (m : fm_M) {res : Int32} (h : f_X2_firstDigits x1 m = some res) : fm_Met lay 0 m_X2_firstDigits [.int x1] m (fm_pi res m) := by
  refine fm_Met_of (ls := [some (.int x1)]) (by decide) rfl (fm_cc_i _ fm_cc_0) (Nat.le_of_ble_eq_true rfl) rfl ?_
  unfold f_X2_firstDigits at h
  refine go_iload_n (pc := 0) dX2_firstDigits_0 rfl rfl ?_
  by_cases c1 : x1 = (1 : Int32)
  · rw [if_pos c1] at h
    refine go_lookup (pc := 1) (tgt := 36) (off := 35) dX2_firstDigits_1 (by decide) ((congrArg (fun z : Int32 => Op.lookupswitch.offset _ _ z.toInt) c1).trans rfl) (by decide) ?_
    refine go_iconst (pc := 36) (v := (1 : Int32)) dX2_firstDigits_36 (by decide) ?_
    obtain rfl := Option.some.inj h
    exact go_iret (pc := 37) .int dX2_firstDigits_37 rfl rfl ⟨rfl, rfl⟩
  rw [if_neg c1] at h
  by_cases c2 : x1 = (2 : Int32)
  · rw [if_pos c2] at h
    refine go_lookup (pc := 1) (tgt := 36) (off := 35) dX2_firstDigits_1 (by decide) ((congrArg (fun z : Int32 => Op.lookupswitch.offset _ _ z.toInt) c2).trans rfl) (by decide) ?_
    refine go_iconst (pc := 36) (v := (1 : Int32)) dX2_firstDigits_36 (by decide) ?_
    obtain rfl := Option.some.inj h
    exact go_iret (pc := 37) .int dX2_firstDigits_37 rfl rfl ⟨rfl, rfl⟩
  rw [if_neg c2] at h
  by_cases c3 : x1 = (6 : Int32)
  · rw [if_pos c3] at h
    refine go_lookup (pc := 1) (tgt := 38) (off := 37) dX2_firstDigits_1 (by decide) ((congrArg (fun z : Int32 => Op.lookupswitch.offset _ _ z.toInt) c3).trans rfl) (by decide) ?_
    refine go_iconst (pc := 38) (v := (3 : Int32)) dX2_firstDigits_38 (by decide) ?_
    obtain rfl := Option.some.inj h
    exact go_iret (pc := 39) .int dX2_firstDigits_39 rfl rfl ⟨rfl, rfl⟩
  rw [if_neg c3] at h
  refine go_lookup (pc := 1) (tgt := 40) (off := 39) dX2_firstDigits_1 (by decide) ((lv_osw c1 rfl).trans ((lv_osw c2 rfl).trans ((lv_osw c3 rfl).trans rfl))) (by decide) ?_
  refine go_iconst (pc := 40) (v := (2 : Int32)) dX2_firstDigits_40 (by decide) ?_
  obtain rfl := Option.some.inj h
  exact go_iret (pc := 41) .int dX2_firstDigits_41 rfl rfl ⟨rfl, rfl⟩
def f_X2_readNumber_L5 (p2 : Nat) (r2 : Nat) (n2 : Nat) : Nat → Int32 → Int32 → Int32 → fm_M → Option (Bool × fm_M)
  | 0, _, _, _, _ => none
  | n + 1, y2, y3, y4, m => if y2 ≤ y4 then (if y4 ≤ 0 then (some (false, (fm_put m 14 5 y3))) else (some (true, (fm_put m 14 5 y3)))) else ((f_X4_at p2 r2 n2 (m 14 4) m).bind fun v3 => if v3 < (48 : Int32) then (if y4 ≤ 0 then (some (false, (fm_put m 14 5 y3))) else (some (true, (fm_put m 14 5 y3)))) else ((f_X4_at p2 r2 n2 (m 14 4) m).bind fun v7 => if (57 : Int32) < v7 then (if y4 ≤ 0 then (some (false, (fm_put m 14 5 y3))) else (some (true, (fm_put m 14 5 y3)))) else ((f_X4_at p2 r2 n2 (m 14 4) m).bind fun v11 => f_X2_readNumber_L5 p2 r2 n2 n y2 (((y3 * (10 : Int32)) + v11) - (48 : Int32)) (y4 + (1 : Int32)) (fm_put m 14 4 ((m 14 4) + (1 : Int32))))))
def f_X2_readNumber (p2 : Nat) (r2 : Nat) (n2 : Nat) (x2 : Int32) (m : fm_M) : Option (Bool × fm_M) :=
  f_X2_readNumber_L5 p2 r2 n2 fm_F x2 (0 : Int32) (0 : Int32) m
set_option maxRecDepth 100000 in
set_option maxHeartbeats 4000000 in
theorem c_X2_readNumber_L5 {X : List fm_L} {p2 r2 n2 : Nat} (hp2 : (fm_layH ++ X)[p2]? = some (.inr (4, [some (some r2), none]))) (hr2 : (fm_layH ++ X)[r2]? = some (.inl (0, n2))) : ∀ (n : Nat) (y2 : Int32) (y3 : Int32) (y4 : Int32) (m : fm_M) (res : Bool × fm_M), f_X2_readNumber_L5 p2 r2 n2 n y2 y3 y4 m = some res → fm_Go (fm_layH ++ X) 1 m_X2_readNumber (fm_pi (fm_b res.1) res.2) 5 [some (.ref 14), some (.ref p2), some (.int y2), some (.int y3), some (.int y4)] [] m := by
  intro n
  induction n with
  | zero => intro y2 y3 y4 m res h; cases h
  | succ n ih =>
    intro y2 y3 y4 m res h
    rw [f_X2_readNumber_L5] at h
    refine go_iload (pc := 5) dX2_readNumber_5 rfl ?_
    refine go_iload_n (pc := 7) dX2_readNumber_7 rfl rfl ?_
    refine go_icmp_ge (pc := 8) (tgt := 70) dX2_readNumber_8 (by decide) (fun c1 => ?_) (fun c1 => ?_)
    · rw [if_pos c1] at h
      refine go_aload_n (pc := 70) dX2_readNumber_70 rfl rfl ?_
      refine go_iload_n (pc := 71) dX2_readNumber_71 rfl rfl ?_
      refine go_put (pc := 72) (k := 5) .int dX2_readNumber_72 cl_X2 rfl rfl (by decide) lk_X2_28 rfl (by decide +kernel) rfl rfl ?_
      refine go_iload (pc := 75) dX2_readNumber_75 rfl ?_
      refine go_if_le (pc := 77) (tgt := 84) dX2_readNumber_77 (by decide) (fun c2 => ?_) (fun c2 => ?_)
      · rw [if_pos c2] at h
        refine go_iconst (pc := 84) (v := (0 : Int32)) dX2_readNumber_84 (by decide) ?_
        obtain rfl := Option.some.inj h
        exact go_iret (pc := 85) .boolean dX2_readNumber_85 rfl rfl ⟨rfl, rfl⟩
      · rw [if_neg c2] at h
        refine go_iconst (pc := 80) (v := (1 : Int32)) dX2_readNumber_80 (by decide) ?_
        refine go_goto (pc := 81) (tgt := 85) dX2_readNumber_81 (by decide) ?_
        obtain rfl := Option.some.inj h
        exact go_iret (pc := 85) .boolean dX2_readNumber_85 rfl rfl ⟨rfl, rfl⟩
    · rw [if_neg c1] at h
      refine go_aload_n (pc := 11) dX2_readNumber_11 rfl rfl ?_
      refine go_aload_n (pc := 12) dX2_readNumber_12 rfl rfl ?_
      refine go_getI (pc := 13) (k := 4) dX2_readNumber_13 cl_X2 rfl rfl (by decide) lk_X2_25 ?_
      obtain ⟨v3, hv4, h⟩ := fm_bind h
      refine go_callVi (pc := 16) (As := [.int (m 14 4)]) (st := []) dX2_readNumber_16 (c_X4_at (p := p2) (r := r2) (n0 := n2) hp2 hr2 _ _ hv4) (by decide) ce_X4_at ml_X2_45 in_X4_at se_X4_at cl_X4 hp2 rfl (Nat.le_of_ble_eq_true rfl) rfl ?_
      refine go_bipush (pc := 19) (v := (48 : Int32)) dX2_readNumber_19 (by decide) ?_
      refine go_icmp_lt (pc := 21) (tgt := 70) dX2_readNumber_21 (by decide) (fun c5 => ?_) (fun c5 => ?_)
      · rw [if_pos c5] at h
        refine go_aload_n (pc := 70) dX2_readNumber_70 rfl rfl ?_
        refine go_iload_n (pc := 71) dX2_readNumber_71 rfl rfl ?_
        refine go_put (pc := 72) (k := 5) .int dX2_readNumber_72 cl_X2 rfl rfl (by decide) lk_X2_28 rfl (by decide +kernel) rfl rfl ?_
        refine go_iload (pc := 75) dX2_readNumber_75 rfl ?_
        refine go_if_le (pc := 77) (tgt := 84) dX2_readNumber_77 (by decide) (fun c6 => ?_) (fun c6 => ?_)
        · rw [if_pos c6] at h
          refine go_iconst (pc := 84) (v := (0 : Int32)) dX2_readNumber_84 (by decide) ?_
          obtain rfl := Option.some.inj h
          exact go_iret (pc := 85) .boolean dX2_readNumber_85 rfl rfl ⟨rfl, rfl⟩
        · rw [if_neg c6] at h
          refine go_iconst (pc := 80) (v := (1 : Int32)) dX2_readNumber_80 (by decide) ?_
          refine go_goto (pc := 81) (tgt := 85) dX2_readNumber_81 (by decide) ?_
          obtain rfl := Option.some.inj h
          exact go_iret (pc := 85) .boolean dX2_readNumber_85 rfl rfl ⟨rfl, rfl⟩
      · rw [if_neg c5] at h
        refine go_aload_n (pc := 24) dX2_readNumber_24 rfl rfl ?_
        refine go_aload_n (pc := 25) dX2_readNumber_25 rfl rfl ?_
        refine go_getI (pc := 26) (k := 4) dX2_readNumber_26 cl_X2 rfl rfl (by decide) lk_X2_25 ?_
        obtain ⟨v7, hv8, h⟩ := fm_bind h
        refine go_callVi (pc := 29) (As := [.int (m 14 4)]) (st := []) dX2_readNumber_29 (c_X4_at (p := p2) (r := r2) (n0 := n2) hp2 hr2 _ _ hv8) (by decide) ce_X4_at ml_X2_45 in_X4_at se_X4_at cl_X4 hp2 rfl (Nat.le_of_ble_eq_true rfl) rfl ?_
        refine go_bipush (pc := 32) (v := (57 : Int32)) dX2_readNumber_32 (by decide) ?_
        refine go_icmp_gt (pc := 34) (tgt := 70) dX2_readNumber_34 (by decide) (fun c9 => ?_) (fun c9 => ?_)
        · rw [if_pos c9] at h
          refine go_aload_n (pc := 70) dX2_readNumber_70 rfl rfl ?_
          refine go_iload_n (pc := 71) dX2_readNumber_71 rfl rfl ?_
          refine go_put (pc := 72) (k := 5) .int dX2_readNumber_72 cl_X2 rfl rfl (by decide) lk_X2_28 rfl (by decide +kernel) rfl rfl ?_
          refine go_iload (pc := 75) dX2_readNumber_75 rfl ?_
          refine go_if_le (pc := 77) (tgt := 84) dX2_readNumber_77 (by decide) (fun c10 => ?_) (fun c10 => ?_)
          · rw [if_pos c10] at h
            refine go_iconst (pc := 84) (v := (0 : Int32)) dX2_readNumber_84 (by decide) ?_
            obtain rfl := Option.some.inj h
            exact go_iret (pc := 85) .boolean dX2_readNumber_85 rfl rfl ⟨rfl, rfl⟩
          · rw [if_neg c10] at h
            refine go_iconst (pc := 80) (v := (1 : Int32)) dX2_readNumber_80 (by decide) ?_
            refine go_goto (pc := 81) (tgt := 85) dX2_readNumber_81 (by decide) ?_
            obtain rfl := Option.some.inj h
            exact go_iret (pc := 85) .boolean dX2_readNumber_85 rfl rfl ⟨rfl, rfl⟩
        · rw [if_neg c9] at h
          refine go_iload_n (pc := 37) dX2_readNumber_37 rfl rfl ?_
          refine go_bipush (pc := 38) (v := (10 : Int32)) dX2_readNumber_38 (by decide) ?_
          refine go_imul (pc := 40) dX2_readNumber_40 ?_
          refine go_aload_n (pc := 41) dX2_readNumber_41 rfl rfl ?_
          refine go_aload_n (pc := 42) dX2_readNumber_42 rfl rfl ?_
          refine go_getI (pc := 43) (k := 4) dX2_readNumber_43 cl_X2 rfl rfl (by decide) lk_X2_25 ?_
          obtain ⟨v11, hv12, h⟩ := fm_bind h
          refine go_callVi (pc := 46) (As := [.int (m 14 4)]) (st := [.int (y3 * (10 : Int32))]) dX2_readNumber_46 (c_X4_at (p := p2) (r := r2) (n0 := n2) hp2 hr2 _ _ hv12) (by decide) ce_X4_at ml_X2_45 in_X4_at se_X4_at cl_X4 hp2 rfl (Nat.le_of_ble_eq_true rfl) rfl ?_
          refine go_iadd (pc := 49) dX2_readNumber_49 ?_
          refine go_bipush (pc := 50) (v := (48 : Int32)) dX2_readNumber_50 (by decide) ?_
          refine go_isub (pc := 52) dX2_readNumber_52 ?_
          refine go_istore_n (pc := 53) (ls1 := [some (.ref 14), some (.ref p2), some (.int y2), some (.int (((y3 * (10 : Int32)) + v11) - (48 : Int32))), some (.int y4)]) dX2_readNumber_53 rfl (by decide) rfl ?_
          refine go_aload_n (pc := 54) dX2_readNumber_54 rfl rfl ?_
          refine go_dup (pc := 55) dX2_readNumber_55 rfl ?_
          refine go_getI (pc := 56) (k := 4) dX2_readNumber_56 cl_X2 rfl rfl (by decide) lk_X2_25 ?_
          refine go_iconst (pc := 59) (v := (1 : Int32)) dX2_readNumber_59 (by decide) ?_
          refine go_iadd (pc := 60) dX2_readNumber_60 ?_
          refine go_put (pc := 61) (k := 4) .int dX2_readNumber_61 cl_X2 rfl rfl (by decide) lk_X2_25 rfl (by decide +kernel) rfl rfl ?_
          refine go_iinc (pc := 64) (v := (y4 + (1 : Int32))) (ls1 := [some (.ref 14), some (.ref p2), some (.int y2), some (.int (((y3 * (10 : Int32)) + v11) - (48 : Int32))), some (.int (y4 + (1 : Int32)))]) dX2_readNumber_64 rfl rfl (Nat.le_of_ble_eq_true rfl) rfl ?_
          refine go_goto (pc := 67) (tgt := 5) dX2_readNumber_67 (by decide) ?_
          exact ih _ _ _ _ _ h
set_option maxRecDepth 100000 in
set_option maxHeartbeats 4000000 in
theorem c_X2_readNumber {X : List fm_L} {p2 r2 n2 : Nat} (hp2 : (fm_layH ++ X)[p2]? = some (.inr (4, [some (some r2), none]))) (hr2 : (fm_layH ++ X)[r2]? = some (.inl (0, n2))) (x2 : Int32) (m : fm_M) {res : Bool × fm_M} (h : f_X2_readNumber p2 r2 n2 x2 m = some res) : fm_Met (fm_layH ++ X) 1 m_X2_readNumber [.ref 14, .ref p2, .int x2] m (fm_pi (fm_b res.1) res.2) := by
  refine fm_Met_of (ls := [some (.ref 14), some (.ref p2), some (.int x2), none, none]) (by decide) rfl (fm_cc_r _ (fm_cc_r _ (fm_cc_i _ fm_cc_0))) (Nat.le_of_ble_eq_true rfl) rfl ?_
  unfold f_X2_readNumber at h
  refine go_iconst (pc := 0) (v := (0 : Int32)) dX2_readNumber_0 (by decide) ?_
  refine go_istore_n (pc := 1) (ls1 := [some (.ref 14), some (.ref p2), some (.int x2), some (.int (0 : Int32)), none]) dX2_readNumber_1 rfl (by decide) rfl ?_
  refine go_iconst (pc := 2) (v := (0 : Int32)) dX2_readNumber_2 (by decide) ?_
  refine go_istore (pc := 3) (ls1 := [some (.ref 14), some (.ref p2), some (.int x2), some (.int (0 : Int32)), some (.int (0 : Int32))]) dX2_readNumber_3 (by decide) rfl ?_
  exact c_X2_readNumber_L5 hp2 hr2 fm_F _ _ _ _ _ h
def f_X2_secondDigits (x1 : Int32) (m : fm_M) : Option (Int32) :=
  if x1 = (0 : Int32) then (some (2 : Int32)) else (if x1 = (3 : Int32) then (some (1 : Int32)) else (if x1 = (5 : Int32) then (some (1 : Int32)) else (some (0 : Int32))))
set_option maxRecDepth 100000 in
set_option maxHeartbeats 4000000 in
theorem c_X2_secondDigits {lay : List fm_L} (x1 : Int32) (m : fm_M) {res : Int32} (h : f_X2_secondDigits x1 m = some res) : fm_Met lay 0 m_X2_secondDigits [.int x1] m (fm_pi res m) := by
  refine fm_Met_of (ls := [some (.int x1)]) (by decide) rfl (fm_cc_i _ fm_cc_0) (Nat.le_of_ble_eq_true rfl) rfl ?_
  unfold f_X2_secondDigits at h
  refine go_iload_n (pc := 0) dX2_secondDigits_0 rfl rfl ?_
  by_cases c1 : x1 = (0 : Int32)
  · rw [if_pos c1] at h
    refine go_lookup (pc := 1) (tgt := 36) (off := 35) dX2_secondDigits_1 (by decide) ((congrArg (fun z : Int32 => Op.lookupswitch.offset _ _ z.toInt) c1).trans rfl) (by decide) ?_
    refine go_iconst (pc := 36) (v := (2 : Int32)) dX2_secondDigits_36 (by decide) ?_
    obtain rfl := Option.some.inj h
    exact go_iret (pc := 37) .int dX2_secondDigits_37 rfl rfl ⟨rfl, rfl⟩
  rw [if_neg c1] at h
  by_cases c2 : x1 = (3 : Int32)
  · rw [if_pos c2] at h
    refine go_lookup (pc := 1) (tgt := 38) (off := 37) dX2_secondDigits_1 (by decide) ((congrArg (fun z : Int32 => Op.lookupswitch.offset _ _ z.toInt) c2).trans rfl) (by decide) ?_
    refine go_iconst (pc := 38) (v := (1 : Int32)) dX2_secondDigits_38 (by decide) ?_
    obtain rfl := Option.some.inj h
    exact go_iret (pc := 39) .int dX2_secondDigits_39 rfl rfl ⟨rfl, rfl⟩
  rw [if_neg c2] at h
  by_cases c3 : x1 = (5 : Int32)
  · rw [if_pos c3] at h
    refine go_lookup (pc := 1) (tgt := 38) (off := 37) dX2_secondDigits_1 (by decide) ((congrArg (fun z : Int32 => Op.lookupswitch.offset _ _ z.toInt) c3).trans rfl) (by decide) ?_
    refine go_iconst (pc := 38) (v := (1 : Int32)) dX2_secondDigits_38 (by decide) ?_
    obtain rfl := Option.some.inj h
    exact go_iret (pc := 39) .int dX2_secondDigits_39 rfl rfl ⟨rfl, rfl⟩
  rw [if_neg c3] at h
  refine go_lookup (pc := 1) (tgt := 40) (off := 39) dX2_secondDigits_1 (by decide) ((lv_osw c1 rfl).trans ((lv_osw c2 rfl).trans ((lv_osw c3 rfl).trans rfl))) (by decide) ?_
  refine go_iconst (pc := 40) (v := (0 : Int32)) dX2_secondDigits_40 (by decide) ?_
  obtain rfl := Option.some.inj h
  exact go_iret (pc := 41) .int dX2_secondDigits_41 rfl rfl ⟨rfl, rfl⟩
def f_X2_keep (x1 : Int32) (x2 : Int32) (x3 : Int32) (m : fm_M) : Option (fm_M) :=
  if (m 14 3) < 0 then (some m) else (if (10 : Int32) ≤ (m 14 3) then (some m) else (if (10 : Int32) ≤ (m 14 3) then (some m) else (if (10 : Int32) ≤ (m 14 3) then (some m) else (if fm_in (m 14 3) 10 = true then (if fm_in ((fm_put m 15 (m 14 3).toNatClampNeg x1) 14 3) 10 = true then (if fm_in ((fm_put (fm_put m 15 (m 14 3).toNatClampNeg x1) 16 ((fm_put m 15 (m 14 3).toNatClampNeg x1) 14 3).toNatClampNeg x2) 14 3) 10 = true then (some (fm_put (fm_put (fm_put (fm_put m 15 (m 14 3).toNatClampNeg x1) 16 ((fm_put m 15 (m 14 3).toNatClampNeg x1) 14 3).toNatClampNeg x2) 17 ((fm_put (fm_put m 15 (m 14 3).toNatClampNeg x1) 16 ((fm_put m 15 (m 14 3).toNatClampNeg x1) 14 3).toNatClampNeg x2) 14 3).toNatClampNeg x3) 14 3 (((fm_put (fm_put (fm_put m 15 (m 14 3).toNatClampNeg x1) 16 ((fm_put m 15 (m 14 3).toNatClampNeg x1) 14 3).toNatClampNeg x2) 17 ((fm_put (fm_put m 15 (m 14 3).toNatClampNeg x1) 16 ((fm_put m 15 (m 14 3).toNatClampNeg x1) 14 3).toNatClampNeg x2) 14 3).toNatClampNeg x3) 14 3) + (1 : Int32)))) else none) else none) else none))))
set_option maxRecDepth 100000 in
set_option maxHeartbeats 4000000 in
theorem c_X2_keep {X : List fm_L} (x1 : Int32) (x2 : Int32) (x3 : Int32) (m : fm_M) {res : fm_M} (h : f_X2_keep x1 x2 x3 m = some res) : fm_Met (fm_layH ++ X) 0 m_X2_keep [.ref 14, .int x1, .int x2, .int x3] m (fm_pv res) := by
  refine fm_Met_of (ls := [some (.ref 14), some (.int x1), some (.int x2), some (.int x3)]) (by decide) rfl (fm_cc_r _ (fm_cc_i _ (fm_cc_i _ (fm_cc_i _ fm_cc_0)))) (Nat.le_of_ble_eq_true rfl) rfl ?_
  unfold f_X2_keep at h
  refine go_aload_n (pc := 0) dX2_keep_0 rfl rfl ?_
  refine go_getI (pc := 1) (k := 3) dX2_keep_1 cl_X2 rfl rfl (by decide) lk_X2_21 ?_
  refine go_if_lt (pc := 4) (tgt := 83) dX2_keep_4 (by decide) (fun c1 => ?_) (fun c1 => ?_)
  · rw [if_pos c1] at h
    obtain rfl := Option.some.inj h
    exact go_vret (pc := 83) dX2_keep_83 rfl ⟨rfl, rfl⟩
  · rw [if_neg c1] at h
    refine go_aload_n (pc := 7) dX2_keep_7 rfl rfl ?_
    refine go_getI (pc := 8) (k := 3) dX2_keep_8 cl_X2 rfl rfl (by decide) lk_X2_21 ?_
    refine go_aload_n (pc := 11) dX2_keep_11 rfl rfl ?_
    refine go_getR (pc := 12) (k := 0) (q2 := 15) dX2_keep_12 cl_X2 rfl rfl (by decide) lk_X2_9 ?_
    refine go_alen (pc := 15) (v := (10 : Int32)) dX2_keep_15 rfl (by decide) ?_
    refine go_icmp_ge (pc := 16) (tgt := 83) dX2_keep_16 (by decide) (fun c2 => ?_) (fun c2 => ?_)
    · rw [if_pos c2] at h
      obtain rfl := Option.some.inj h
      exact go_vret (pc := 83) dX2_keep_83 rfl ⟨rfl, rfl⟩
    · rw [if_neg c2] at h
      refine go_aload_n (pc := 19) dX2_keep_19 rfl rfl ?_
      refine go_getI (pc := 20) (k := 3) dX2_keep_20 cl_X2 rfl rfl (by decide) lk_X2_21 ?_
      refine go_aload_n (pc := 23) dX2_keep_23 rfl rfl ?_
      refine go_getR (pc := 24) (k := 1) (q2 := 16) dX2_keep_24 cl_X2 rfl rfl (by decide) lk_X2_15 ?_
      refine go_alen (pc := 27) (v := (10 : Int32)) dX2_keep_27 rfl (by decide) ?_
      refine go_icmp_ge (pc := 28) (tgt := 83) dX2_keep_28 (by decide) (fun c3 => ?_) (fun c3 => ?_)
      · rw [if_pos c3] at h
        obtain rfl := Option.some.inj h
        exact go_vret (pc := 83) dX2_keep_83 rfl ⟨rfl, rfl⟩
      · rw [if_neg c3] at h
        refine go_aload_n (pc := 31) dX2_keep_31 rfl rfl ?_
        refine go_getI (pc := 32) (k := 3) dX2_keep_32 cl_X2 rfl rfl (by decide) lk_X2_21 ?_
        refine go_aload_n (pc := 35) dX2_keep_35 rfl rfl ?_
        refine go_getR (pc := 36) (k := 2) (q2 := 17) dX2_keep_36 cl_X2 rfl rfl (by decide) lk_X2_18 ?_
        refine go_alen (pc := 39) (v := (10 : Int32)) dX2_keep_39 rfl (by decide) ?_
        refine go_icmp_ge (pc := 40) (tgt := 83) dX2_keep_40 (by decide) (fun c4 => ?_) (fun c4 => ?_)
        · rw [if_pos c4] at h
          obtain rfl := Option.some.inj h
          exact go_vret (pc := 83) dX2_keep_83 rfl ⟨rfl, rfl⟩
        · rw [if_neg c4] at h
          refine go_aload_n (pc := 43) dX2_keep_43 rfl rfl ?_
          refine go_getR (pc := 44) (k := 0) (q2 := 15) dX2_keep_44 cl_X2 rfl rfl (by decide) lk_X2_9 ?_
          refine go_aload_n (pc := 47) dX2_keep_47 rfl rfl ?_
          refine go_getI (pc := 48) (k := 3) dX2_keep_48 cl_X2 rfl rfl (by decide) lk_X2_21 ?_
          refine go_iload_n (pc := 51) dX2_keep_51 rfl rfl ?_
          obtain ⟨hi5, h⟩ := fm_chk h
          refine go_iast (pc := 52) dX2_keep_52 rfl (fm_in_vp hi5) ?_
          refine go_aload_n (pc := 53) dX2_keep_53 rfl rfl ?_
          refine go_getR (pc := 54) (k := 1) (q2 := 16) dX2_keep_54 cl_X2 rfl rfl (by decide) lk_X2_15 ?_
          refine go_aload_n (pc := 57) dX2_keep_57 rfl rfl ?_
          refine go_getI (pc := 58) (k := 3) dX2_keep_58 cl_X2 rfl rfl (by decide) lk_X2_21 ?_
          refine go_iload_n (pc := 61) dX2_keep_61 rfl rfl ?_
          obtain ⟨hi6, h⟩ := fm_chk h
          refine go_iast (pc := 62) dX2_keep_62 rfl (fm_in_vp hi6) ?_
          refine go_aload_n (pc := 63) dX2_keep_63 rfl rfl ?_
          refine go_getR (pc := 64) (k := 2) (q2 := 17) dX2_keep_64 cl_X2 rfl rfl (by decide) lk_X2_18 ?_
          refine go_aload_n (pc := 67) dX2_keep_67 rfl rfl ?_
          refine go_getI (pc := 68) (k := 3) dX2_keep_68 cl_X2 rfl rfl (by decide) lk_X2_21 ?_
          refine go_iload_n (pc := 71) dX2_keep_71 rfl rfl ?_
          obtain ⟨hi7, h⟩ := fm_chk h
          refine go_iast (pc := 72) dX2_keep_72 rfl (fm_in_vp hi7) ?_
          refine go_aload_n (pc := 73) dX2_keep_73 rfl rfl ?_
          refine go_dup (pc := 74) dX2_keep_74 rfl ?_
          refine go_getI (pc := 75) (k := 3) dX2_keep_75 cl_X2 rfl rfl (by decide) lk_X2_21 ?_
          refine go_iconst (pc := 78) (v := (1 : Int32)) dX2_keep_78 (by decide) ?_
          refine go_iadd (pc := 79) dX2_keep_79 ?_
          refine go_put (pc := 80) (k := 3) .int dX2_keep_80 cl_X2 rfl rfl (by decide) lk_X2_21 rfl (by decide +kernel) rfl rfl ?_
          obtain rfl := Option.some.inj h
          exact go_vret (pc := 83) dX2_keep_83 rfl ⟨rfl, rfl⟩
def f_X2_readOrder (p2 : Nat) (r2 : Nat) (n2 : Nat) (m : fm_M) : Option (Bool × fm_M) :=
  (f_X4_at p2 r2 n2 (m 14 4) m).bind fun v1 => (f_X2_kindWith v1 m).bind fun v3 => if v3 < 0 then (some (false, m)) else ((f_X2_wordOf v3 m).bind fun v6 => (f_X2_readWord p2 r2 n2 v6 m).bind fun v8 => if v8.1 = true then ((f_X2_firstDigits v3 v8.2).bind fun v11 => (f_X2_readNumber p2 r2 n2 v11 v8.2).bind fun v13 => if v13.1 = true then ((f_X2_secondDigits v3 v13.2).bind fun v16 => if v16 ≤ 0 then ((f_X2_keep v3 (v13.2 14 5) (0 : Int32) v13.2).bind fun v19 => some (true, v19)) else ((f_X2_readSign p2 r2 n2 (32 : Int32) v13.2).bind fun v21 => if v21.1 = true then ((f_X2_secondDigits v3 v21.2).bind fun v24 => (f_X2_readNumber p2 r2 n2 v24 v21.2).bind fun v26 => if v26.1 = true then ((f_X2_keep v3 (v13.2 14 5) (v26.2 14 5) v26.2).bind fun v29 => some (true, v29)) else (some (false, v26.2))) else (some (false, v21.2)))) else (some (false, v13.2))) else (some (false, v8.2)))
set_option maxRecDepth 100000 in
set_option maxHeartbeats 4000000 in
theorem c_X2_readOrder {X : List fm_L} {p2 r2 n2 : Nat} (hp2 : (fm_layH ++ X)[p2]? = some (.inr (4, [some (some r2), none]))) (hr2 : (fm_layH ++ X)[r2]? = some (.inl (0, n2))) (m : fm_M) {res : Bool × fm_M} (h : f_X2_readOrder p2 r2 n2 m = some res) : fm_Met (fm_layH ++ X) 5 m_X2_readOrder [.ref 14, .ref p2] m (fm_pi (fm_b res.1) res.2) := by
  refine fm_Met_of (ls := [some (.ref 14), some (.ref p2), none, none, none]) (by decide) rfl (fm_cc_r _ (fm_cc_r _ fm_cc_0)) (Nat.le_of_ble_eq_true rfl) rfl ?_
  unfold f_X2_readOrder at h
  refine go_aload_n (pc := 0) dX2_readOrder_0 rfl rfl ?_
  refine go_aload_n (pc := 1) dX2_readOrder_1 rfl rfl ?_
  refine go_getI (pc := 2) (k := 4) dX2_readOrder_2 cl_X2 rfl rfl (by decide) lk_X2_25 ?_
  obtain ⟨v1, hv2, h⟩ := fm_bind h
  refine go_callVi (pc := 5) (As := [.int (m 14 4)]) (st := []) dX2_readOrder_5 (c_X4_at (p := p2) (r := r2) (n0 := n2) hp2 hr2 _ _ hv2) (by decide) ce_X4_at ml_X2_45 in_X4_at se_X4_at cl_X4 hp2 rfl (Nat.le_of_ble_eq_true rfl) rfl ?_
  obtain ⟨v3, hv4, h⟩ := fm_bind h
  refine go_callSi (pc := 8) (As := [.int v1]) (st := []) dX2_readOrder_8 (c_X2_kindWith   _ _ hv4) (by decide) ce_X2_kindWith ml_X2_49 st_X2_kindWith rfl (Nat.le_of_ble_eq_true rfl) rfl ?_
  refine go_istore_n (pc := 11) (ls1 := [some (.ref 14), some (.ref p2), some (.int v3), none, none]) dX2_readOrder_11 rfl (by decide) rfl ?_
  refine go_iload_n (pc := 12) dX2_readOrder_12 rfl rfl ?_
  refine go_if_lt (pc := 13) (tgt := 40) dX2_readOrder_13 (by decide) (fun c5 => ?_) (fun c5 => ?_)
  · rw [if_pos c5] at h
    refine go_iconst (pc := 40) (v := (0 : Int32)) dX2_readOrder_40 (by decide) ?_
    obtain rfl := Option.some.inj h
    exact go_iret (pc := 41) .boolean dX2_readOrder_41 rfl rfl ⟨rfl, rfl⟩
  · rw [if_neg c5] at h
    refine go_aload_n (pc := 16) dX2_readOrder_16 rfl rfl ?_
    refine go_aload_n (pc := 17) dX2_readOrder_17 rfl rfl ?_
    refine go_iload_n (pc := 18) dX2_readOrder_18 rfl rfl ?_
    obtain ⟨v6, hv7, h⟩ := fm_bind h
    refine go_callSr (pc := 19) (As := [.int v3]) (st := [.ref p2, .ref 14]) dX2_readOrder_19 (c_X2_wordOf   _ _ hv7) (by decide) ce_X2_wordOf ml_X2_52 st_X2_wordOf rfl (Nat.le_of_ble_eq_true rfl) rfl ?_
    obtain ⟨v8, hv9, h⟩ := fm_bind h
    refine go_callVi (pc := 22) (As := [.ref p2, .ref (1000 + v6)]) (st := []) dX2_readOrder_22 (c_X2_readWord (p2 := p2) (r2 := r2) (n2 := n2) (w3 := v6) hp2 hr2 (Nat.lt_trans (f_X2_wordOf_lt hv7) (by decide)) _ hv9) (by decide) ce_X2_readWord ml_X2_56 in_X2_readWord se_X2_readWord cl_X2 rfl rfl (Nat.le_of_ble_eq_true rfl) rfl ?_
    refine go_ifb_eq (pc := 25) (tgt := 40) dX2_readOrder_25 (by decide) (fun c10 => ?_) (fun c10 => ?_)
    · rw [if_neg (by rw [c10]; decide)] at h
      refine go_iconst (pc := 40) (v := (0 : Int32)) dX2_readOrder_40 (by decide) ?_
      obtain rfl := Option.some.inj h
      exact go_iret (pc := 41) .boolean dX2_readOrder_41 rfl rfl ⟨rfl, rfl⟩
    · rw [if_pos c10] at h
      refine go_aload_n (pc := 28) dX2_readOrder_28 rfl rfl ?_
      refine go_aload_n (pc := 29) dX2_readOrder_29 rfl rfl ?_
      refine go_iload_n (pc := 30) dX2_readOrder_30 rfl rfl ?_
      obtain ⟨v11, hv12, h⟩ := fm_bind h
      refine go_callSi (pc := 31) (As := [.int v3]) (st := [.ref p2, .ref 14]) dX2_readOrder_31 (c_X2_firstDigits   _ _ hv12) (by decide) ce_X2_firstDigits ml_X2_60 st_X2_firstDigits rfl (Nat.le_of_ble_eq_true rfl) rfl ?_
      obtain ⟨v13, hv14, h⟩ := fm_bind h
      refine go_callVi (pc := 34) (As := [.ref p2, .int v11]) (st := []) dX2_readOrder_34 (c_X2_readNumber (p2 := p2) (r2 := r2) (n2 := n2) hp2 hr2 _ _ hv14) (by decide) ce_X2_readNumber ml_X2_63 in_X2_readNumber se_X2_readNumber cl_X2 rfl rfl (Nat.le_of_ble_eq_true rfl) rfl ?_
      refine go_ifb_ne (pc := 37) (tgt := 42) dX2_readOrder_37 (by decide) (fun c15 => ?_) (fun c15 => ?_)
      · rw [if_pos c15] at h
        refine go_aload_n (pc := 42) dX2_readOrder_42 rfl rfl ?_
        refine go_getI (pc := 43) (k := 5) dX2_readOrder_43 cl_X2 rfl rfl (by decide) lk_X2_28 ?_
        refine go_istore_n (pc := 46) (ls1 := [some (.ref 14), some (.ref p2), some (.int v3), some (.int (v13.2 14 5)), none]) dX2_readOrder_46 rfl (by decide) rfl ?_
        refine go_iconst (pc := 47) (v := (0 : Int32)) dX2_readOrder_47 (by decide) ?_
        refine go_istore (pc := 48) (ls1 := [some (.ref 14), some (.ref p2), some (.int v3), some (.int (v13.2 14 5)), some (.int (0 : Int32))]) dX2_readOrder_48 (by decide) rfl ?_
        refine go_iload_n (pc := 50) dX2_readOrder_50 rfl rfl ?_
        obtain ⟨v16, hv17, h⟩ := fm_bind h
        refine go_callSi (pc := 51) (As := [.int v3]) (st := []) dX2_readOrder_51 (c_X2_secondDigits   _ _ hv17) (by decide) ce_X2_secondDigits ml_X2_66 st_X2_secondDigits rfl (Nat.le_of_ble_eq_true rfl) rfl ?_
        refine go_if_le (pc := 54) (tgt := 87) dX2_readOrder_54 (by decide) (fun c18 => ?_) (fun c18 => ?_)
        · rw [if_pos c18] at h
          refine go_aload_n (pc := 87) dX2_readOrder_87 rfl rfl ?_
          refine go_iload_n (pc := 88) dX2_readOrder_88 rfl rfl ?_
          refine go_iload_n (pc := 89) dX2_readOrder_89 rfl rfl ?_
          refine go_iload (pc := 90) dX2_readOrder_90 rfl ?_
          obtain ⟨v19, hv20, h⟩ := fm_bind h
          refine go_callVv (pc := 92) (As := [.int v3, .int (v13.2 14 5), .int (0 : Int32)]) (st := []) dX2_readOrder_92 (c_X2_keep   _ _ _ _ hv20) (by decide) ce_X2_keep ml_X2_69 in_X2_keep se_X2_keep cl_X2 rfl rfl (Nat.le_of_ble_eq_true rfl) rfl ?_
          refine go_iconst (pc := 95) (v := (1 : Int32)) dX2_readOrder_95 (by decide) ?_
          obtain rfl := Option.some.inj h
          exact go_iret (pc := 96) .boolean dX2_readOrder_96 rfl rfl ⟨rfl, rfl⟩
        · rw [if_neg c18] at h
          refine go_aload_n (pc := 57) dX2_readOrder_57 rfl rfl ?_
          refine go_aload_n (pc := 58) dX2_readOrder_58 rfl rfl ?_
          refine go_bipush (pc := 59) (v := (32 : Int32)) dX2_readOrder_59 (by decide) ?_
          obtain ⟨v21, hv22, h⟩ := fm_bind h
          refine go_callVi (pc := 61) (As := [.ref p2, .int (32 : Int32)]) (st := []) dX2_readOrder_61 (c_X2_readSign (p2 := p2) (r2 := r2) (n2 := n2) hp2 hr2 _ _ hv22) (by decide) ce_X2_readSign ml_X2_41 in_X2_readSign se_X2_readSign cl_X2 rfl rfl (Nat.le_of_ble_eq_true rfl) rfl ?_
          refine go_ifb_eq (pc := 64) (tgt := 79) dX2_readOrder_64 (by decide) (fun c23 => ?_) (fun c23 => ?_)
          · rw [if_neg (by rw [c23]; decide)] at h
            refine go_iconst (pc := 79) (v := (0 : Int32)) dX2_readOrder_79 (by decide) ?_
            obtain rfl := Option.some.inj h
            exact go_iret (pc := 80) .boolean dX2_readOrder_80 rfl rfl ⟨rfl, rfl⟩
          · rw [if_pos c23] at h
            refine go_aload_n (pc := 67) dX2_readOrder_67 rfl rfl ?_
            refine go_aload_n (pc := 68) dX2_readOrder_68 rfl rfl ?_
            refine go_iload_n (pc := 69) dX2_readOrder_69 rfl rfl ?_
            obtain ⟨v24, hv25, h⟩ := fm_bind h
            refine go_callSi (pc := 70) (As := [.int v3]) (st := [.ref p2, .ref 14]) dX2_readOrder_70 (c_X2_secondDigits   _ _ hv25) (by decide) ce_X2_secondDigits ml_X2_66 st_X2_secondDigits rfl (Nat.le_of_ble_eq_true rfl) rfl ?_
            obtain ⟨v26, hv27, h⟩ := fm_bind h
            refine go_callVi (pc := 73) (As := [.ref p2, .int v24]) (st := []) dX2_readOrder_73 (c_X2_readNumber (p2 := p2) (r2 := r2) (n2 := n2) hp2 hr2 _ _ hv27) (by decide) ce_X2_readNumber ml_X2_63 in_X2_readNumber se_X2_readNumber cl_X2 rfl rfl (Nat.le_of_ble_eq_true rfl) rfl ?_
            refine go_ifb_ne (pc := 76) (tgt := 81) dX2_readOrder_76 (by decide) (fun c28 => ?_) (fun c28 => ?_)
            · rw [if_pos c28] at h
              refine go_aload_n (pc := 81) dX2_readOrder_81 rfl rfl ?_
              refine go_getI (pc := 82) (k := 5) dX2_readOrder_82 cl_X2 rfl rfl (by decide) lk_X2_28 ?_
              refine go_istore (pc := 85) (ls1 := [some (.ref 14), some (.ref p2), some (.int v3), some (.int (v13.2 14 5)), some (.int (v26.2 14 5))]) dX2_readOrder_85 (by decide) rfl ?_
              refine go_aload_n (pc := 87) dX2_readOrder_87 rfl rfl ?_
              refine go_iload_n (pc := 88) dX2_readOrder_88 rfl rfl ?_
              refine go_iload_n (pc := 89) dX2_readOrder_89 rfl rfl ?_
              refine go_iload (pc := 90) dX2_readOrder_90 rfl ?_
              obtain ⟨v29, hv30, h⟩ := fm_bind h
              refine go_callVv (pc := 92) (As := [.int v3, .int (v13.2 14 5), .int (v26.2 14 5)]) (st := []) dX2_readOrder_92 (c_X2_keep   _ _ _ _ hv30) (by decide) ce_X2_keep ml_X2_69 in_X2_keep se_X2_keep cl_X2 rfl rfl (Nat.le_of_ble_eq_true rfl) rfl ?_
              refine go_iconst (pc := 95) (v := (1 : Int32)) dX2_readOrder_95 (by decide) ?_
              obtain rfl := Option.some.inj h
              exact go_iret (pc := 96) .boolean dX2_readOrder_96 rfl rfl ⟨rfl, rfl⟩
            · rw [if_neg (by rw [c28]; decide)] at h
              refine go_iconst (pc := 79) (v := (0 : Int32)) dX2_readOrder_79 (by decide) ?_
              obtain rfl := Option.some.inj h
              exact go_iret (pc := 80) .boolean dX2_readOrder_80 rfl rfl ⟨rfl, rfl⟩
      · rw [if_neg (by rw [c15]; decide)] at h
        refine go_iconst (pc := 40) (v := (0 : Int32)) dX2_readOrder_40 (by decide) ?_
        obtain rfl := Option.some.inj h
        exact go_iret (pc := 41) .boolean dX2_readOrder_41 rfl rfl ⟨rfl, rfl⟩
def f_X2_read_L12 (p2 : Nat) (r2 : Nat) (n2 : Nat) : Nat → Int32 → fm_M → Option (Int32 × fm_M)
  | 0, _, _ => none
  | n + 1, y2, m => if (10 : Int32) ≤ y2 then (some ((m 14 4), m)) else ((f_X2_readOrder p2 r2 n2 m).bind fun v2 => if v2.1 = true then ((f_X4_size p2 r2 n2 v2.2).bind fun v5 => if (v2.2 14 4) < v5 then ((f_X2_readSign p2 r2 n2 (59 : Int32) v2.2).bind fun v8 => if v8.1 = true then (f_X2_read_L12 p2 r2 n2 n (y2 + (1 : Int32)) v8.2) else (some ((v8.2 14 4), v8.2))) else (some ((-1 : Int32), v2.2))) else (some ((v2.2 14 4), v2.2)))
def f_X2_read (p2 : Nat) (r2 : Nat) (n2 : Nat) (m : fm_M) : Option (Int32 × fm_M) :=
  f_X2_read_L12 p2 r2 n2 fm_F (0 : Int32) (fm_put (fm_put m 14 3 (0 : Int32)) 14 4 (0 : Int32))
set_option maxRecDepth 100000 in
set_option maxHeartbeats 4000000 in
theorem c_X2_read_L12 {X : List fm_L} {p2 r2 n2 : Nat} (hp2 : (fm_layH ++ X)[p2]? = some (.inr (4, [some (some r2), none]))) (hr2 : (fm_layH ++ X)[r2]? = some (.inl (0, n2))) : ∀ (n : Nat) (y2 : Int32) (m : fm_M) (res : Int32 × fm_M), f_X2_read_L12 p2 r2 n2 n y2 m = some res → fm_Go (fm_layH ++ X) 6 m_X2_read (fm_pi res.1 res.2) 12 [some (.ref 14), some (.ref p2), some (.int y2)] [] m := by
  intro n
  induction n with
  | zero => intro y2 m res h; cases h
  | succ n ih =>
    intro y2 m res h
    rw [f_X2_read_L12] at h
    refine go_iload_n (pc := 12) dX2_read_12 rfl rfl ?_
    refine go_bipush (pc := 13) (v := (10 : Int32)) dX2_read_13 (by decide) ?_
    refine go_icmp_ge (pc := 15) (tgt := 65) dX2_read_15 (by decide) (fun c1 => ?_) (fun c1 => ?_)
    · rw [if_pos c1] at h
      refine go_aload_n (pc := 65) dX2_read_65 rfl rfl ?_
      refine go_getI (pc := 66) (k := 4) dX2_read_66 cl_X2 rfl rfl (by decide) lk_X2_25 ?_
      obtain rfl := Option.some.inj h
      exact go_iret (pc := 69) .int dX2_read_69 rfl rfl ⟨rfl, rfl⟩
    · rw [if_neg c1] at h
      refine go_aload_n (pc := 18) dX2_read_18 rfl rfl ?_
      refine go_aload_n (pc := 19) dX2_read_19 rfl rfl ?_
      obtain ⟨v2, hv3, h⟩ := fm_bind h
      refine go_callVi (pc := 20) (As := [.ref p2]) (st := []) dX2_read_20 (c_X2_readOrder (p2 := p2) (r2 := r2) (n2 := n2) hp2 hr2 _ hv3) (by decide) ce_X2_readOrder ml_X2_31 in_X2_readOrder se_X2_readOrder cl_X2 rfl rfl (Nat.le_of_ble_eq_true rfl) rfl ?_
      refine go_ifb_ne (pc := 23) (tgt := 31) dX2_read_23 (by decide) (fun c4 => ?_) (fun c4 => ?_)
      · rw [if_pos c4] at h
        refine go_aload_n (pc := 31) dX2_read_31 rfl rfl ?_
        refine go_getI (pc := 32) (k := 4) dX2_read_32 cl_X2 rfl rfl (by decide) lk_X2_25 ?_
        refine go_aload_n (pc := 35) dX2_read_35 rfl rfl ?_
        obtain ⟨v5, hv6, h⟩ := fm_bind h
        refine go_callVi (pc := 36) (As := []) (st := [.int (v2.2 14 4)]) dX2_read_36 (c_X4_size (p := p2) (r := r2) (n0 := n2) hp2 hr2 _ hv6) (by decide) ce_X4_size ml_X2_35 in_X4_size se_X4_size cl_X4 hp2 rfl (Nat.le_of_ble_eq_true rfl) rfl ?_
        refine go_icmp_lt (pc := 39) (tgt := 44) dX2_read_39 (by decide) (fun c7 => ?_) (fun c7 => ?_)
        · rw [if_pos c7] at h
          refine go_aload_n (pc := 44) dX2_read_44 rfl rfl ?_
          refine go_aload_n (pc := 45) dX2_read_45 rfl rfl ?_
          refine go_bipush (pc := 46) (v := (59 : Int32)) dX2_read_46 (by decide) ?_
          obtain ⟨v8, hv9, h⟩ := fm_bind h
          refine go_callVi (pc := 48) (As := [.ref p2, .int (59 : Int32)]) (st := []) dX2_read_48 (c_X2_readSign (p2 := p2) (r2 := r2) (n2 := n2) hp2 hr2 _ _ hv9) (by decide) ce_X2_readSign ml_X2_41 in_X2_readSign se_X2_readSign cl_X2 rfl rfl (Nat.le_of_ble_eq_true rfl) rfl ?_
          refine go_ifb_ne (pc := 51) (tgt := 59) dX2_read_51 (by decide) (fun c10 => ?_) (fun c10 => ?_)
          · rw [if_pos c10] at h
            refine go_iinc (pc := 59) (v := (y2 + (1 : Int32))) (ls1 := [some (.ref 14), some (.ref p2), some (.int (y2 + (1 : Int32)))]) dX2_read_59 rfl rfl (Nat.le_of_ble_eq_true rfl) rfl ?_
            refine go_goto (pc := 62) (tgt := 12) dX2_read_62 (by decide) ?_
            exact ih _ _ _ h
          · rw [if_neg (by rw [c10]; decide)] at h
            refine go_aload_n (pc := 54) dX2_read_54 rfl rfl ?_
            refine go_getI (pc := 55) (k := 4) dX2_read_55 cl_X2 rfl rfl (by decide) lk_X2_25 ?_
            obtain rfl := Option.some.inj h
            exact go_iret (pc := 58) .int dX2_read_58 rfl rfl ⟨rfl, rfl⟩
        · rw [if_neg c7] at h
          refine go_iconst (pc := 42) (v := (-1 : Int32)) dX2_read_42 (by decide) ?_
          obtain rfl := Option.some.inj h
          exact go_iret (pc := 43) .int dX2_read_43 rfl rfl ⟨rfl, rfl⟩
      · rw [if_neg (by rw [c4]; decide)] at h
        refine go_aload_n (pc := 26) dX2_read_26 rfl rfl ?_
        refine go_getI (pc := 27) (k := 4) dX2_read_27 cl_X2 rfl rfl (by decide) lk_X2_25 ?_
        obtain rfl := Option.some.inj h
        exact go_iret (pc := 30) .int dX2_read_30 rfl rfl ⟨rfl, rfl⟩
set_option maxRecDepth 100000 in
set_option maxHeartbeats 4000000 in
theorem c_X2_read {X : List fm_L} {p2 r2 n2 : Nat} (hp2 : (fm_layH ++ X)[p2]? = some (.inr (4, [some (some r2), none]))) (hr2 : (fm_layH ++ X)[r2]? = some (.inl (0, n2))) (m : fm_M) {res : Int32 × fm_M} (h : f_X2_read p2 r2 n2 m = some res) : fm_Met (fm_layH ++ X) 6 m_X2_read [.ref 14, .ref p2] m (fm_pi res.1 res.2) := by
  refine fm_Met_of (ls := [some (.ref 14), some (.ref p2), none]) (by decide) rfl (fm_cc_r _ (fm_cc_r _ fm_cc_0)) (Nat.le_of_ble_eq_true rfl) rfl ?_
  unfold f_X2_read at h
  refine go_aload_n (pc := 0) dX2_read_0 rfl rfl ?_
  refine go_iconst (pc := 1) (v := (0 : Int32)) dX2_read_1 (by decide) ?_
  refine go_put (pc := 2) (k := 3) .int dX2_read_2 cl_X2 rfl rfl (by decide) lk_X2_21 rfl (by decide +kernel) rfl rfl ?_
  refine go_aload_n (pc := 5) dX2_read_5 rfl rfl ?_
  refine go_iconst (pc := 6) (v := (0 : Int32)) dX2_read_6 (by decide) ?_
  refine go_put (pc := 7) (k := 4) .int dX2_read_7 cl_X2 rfl rfl (by decide) lk_X2_25 rfl (by decide +kernel) rfl rfl ?_
  refine go_iconst (pc := 10) (v := (0 : Int32)) dX2_read_10 (by decide) ?_
  refine go_istore_n (pc := 11) (ls1 := [some (.ref 14), some (.ref p2), some (.int (0 : Int32))]) dX2_read_11 rfl (by decide) rfl ?_
  exact c_X2_read_L12 hp2 hr2 fm_F _ _ _ h

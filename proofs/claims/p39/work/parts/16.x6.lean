def f_X6_onTrial (m : fm_M) : Option (fm_M) :=
  (f_X0_beginFrom 1 2 m).bind fun v1 => some v1
set_option maxRecDepth 100000 in
set_option maxHeartbeats 4000000 in
theorem c_X6_onTrial {X : List fm_L} (m : fm_M) {res : fm_M} (h : f_X6_onTrial  m = some res) : fm_Met (fm_layH ++ X) 4 m_X6_onTrial [.ref 0] m (fm_pr 5 res) := by
  refine fm_Met_of (ls := [some (.ref 0)]) (by decide) rfl (fm_cc_r _ fm_cc_0) (Nat.le_of_ble_eq_true rfl) rfl ?_
  unfold f_X6_onTrial at h
  refine go_aload_n (pc := 0) dX6_onTrial_0 rfl rfl ?_
  refine go_getR (pc := 1) (k := 2) (q2 := 5) dX6_onTrial_1 cl_X6 rfl rfl (by decide) lk_X6_22 ?_
  refine go_aload_n (pc := 4) dX6_onTrial_4 rfl rfl ?_
  refine go_getR (pc := 5) (k := 0) (q2 := 1) dX6_onTrial_5 cl_X6 rfl rfl (by decide) lk_X6_12 ?_
  obtain ⟨v1, hv2, h⟩ := fm_bind h
  refine go_callVv (pc := 8) (As := [.ref 1]) (st := []) dX6_onTrial_8 (c_X0_beginFrom (p2 := 1) (r2 := 2) rfl rfl _ hv2) (by decide) ce_X0_beginFrom ml_X6_233 in_X0_beginFrom se_X0_beginFrom cl_X0 rfl rfl (Nat.le_of_ble_eq_true rfl) rfl ?_
  refine go_aload_n (pc := 11) dX6_onTrial_11 rfl rfl ?_
  refine go_getR (pc := 12) (k := 2) (q2 := 5) dX6_onTrial_12 cl_X6 rfl rfl (by decide) lk_X6_22 ?_
  obtain rfl := Option.some.inj h
  exact go_aret (pc := 15) "PittanceHouse$Deeds" dX6_onTrial_15 rfl ⟨rfl, rfl⟩
def f_X6_settle (x1 : Int32) (m : fm_M) : Option (Int32 × fm_M) :=
  if x1 < 0 then (if x1 = (-14 : Int32) then ((f_X0_refusedFor m).bind fun v3 => (f_X0_refusedDetail (fm_put m 0 10 v3)).bind fun v5 => some (x1, (fm_put (fm_put m 0 10 v3) 0 11 v5))) else (some (x1, m))) else ((f_X1_keep 1 2 m).bind fun v7 => (f_X0_result v7).bind fun v9 => (f_X5_copyFrom 1 2 6 7 v7).bind fun v11 => some (x1, v11))
set_option maxRecDepth 100000 in
set_option maxHeartbeats 4000000 in
theorem c_X6_settle {X : List fm_L} (x1 : Int32) (m : fm_M) {res : Int32 × fm_M} (h : f_X6_settle x1 m = some res) : fm_Met (fm_layH ++ X) 4 m_X6_settle [.ref 0, .int x1] m (fm_pi res.1 res.2) := by
  refine fm_Met_of (ls := [some (.ref 0), some (.int x1)]) (by decide) rfl (fm_cc_r _ (fm_cc_i _ fm_cc_0)) (Nat.le_of_ble_eq_true rfl) rfl ?_
  unfold f_X6_settle at h
  refine go_iload_n (pc := 0) dX6_settle_0 rfl rfl ?_
  refine go_if_lt (pc := 1) (tgt := 32) dX6_settle_1 (by decide) (fun c1 => ?_) (fun c1 => ?_)
  · rw [if_pos c1] at h
    refine go_iload_n (pc := 32) dX6_settle_32 rfl rfl ?_
    refine go_bipush (pc := 33) (v := (-14 : Int32)) dX6_settle_33 (by decide) ?_
    refine go_icmp_ne (pc := 35) (tgt := 60) dX6_settle_35 (by decide) (fun c2 => ?_) (fun c2 => ?_)
    · rw [if_neg c2] at h
      refine go_iload_n (pc := 60) dX6_settle_60 rfl rfl ?_
      obtain rfl := Option.some.inj h
      exact go_iret (pc := 61) .int dX6_settle_61 rfl rfl ⟨rfl, rfl⟩
    · rw [if_pos c2] at h
      refine go_aload_n (pc := 38) dX6_settle_38 rfl rfl ?_
      refine go_aload_n (pc := 39) dX6_settle_39 rfl rfl ?_
      refine go_getR (pc := 40) (k := 2) (q2 := 5) dX6_settle_40 cl_X6 rfl rfl (by decide) lk_X6_22 ?_
      obtain ⟨v3, hv4, h⟩ := fm_bind h
      refine go_callVi (pc := 43) (As := []) (st := [.ref 0]) dX6_settle_43 (c_X0_refusedFor   _ hv4) (by decide) ce_X0_refusedFor ml_X6_243 in_X0_refusedFor se_X0_refusedFor cl_X0 rfl rfl (Nat.le_of_ble_eq_true rfl) rfl ?_
      refine go_put (pc := 46) (k := 10) .int dX6_settle_46 cl_X6 rfl rfl (by decide) lk_X6_67 rfl (by decide +kernel) rfl rfl ?_
      refine go_aload_n (pc := 49) dX6_settle_49 rfl rfl ?_
      refine go_aload_n (pc := 50) dX6_settle_50 rfl rfl ?_
      refine go_getR (pc := 51) (k := 2) (q2 := 5) dX6_settle_51 cl_X6 rfl rfl (by decide) lk_X6_22 ?_
      obtain ⟨v5, hv6, h⟩ := fm_bind h
      refine go_callVi (pc := 54) (As := []) (st := [.ref 0]) dX6_settle_54 (c_X0_refusedDetail   _ hv6) (by decide) ce_X0_refusedDetail ml_X6_246 in_X0_refusedDetail se_X0_refusedDetail cl_X0 rfl rfl (Nat.le_of_ble_eq_true rfl) rfl ?_
      refine go_put (pc := 57) (k := 11) .int dX6_settle_57 cl_X6 rfl rfl (by decide) lk_X6_71 rfl (by decide +kernel) rfl rfl ?_
      refine go_iload_n (pc := 60) dX6_settle_60 rfl rfl ?_
      obtain rfl := Option.some.inj h
      exact go_iret (pc := 61) .int dX6_settle_61 rfl rfl ⟨rfl, rfl⟩
  · rw [if_neg c1] at h
    refine go_aload_n (pc := 4) dX6_settle_4 rfl rfl ?_
    refine go_getR (pc := 5) (k := 4) (q2 := 12) dX6_settle_5 cl_X6 rfl rfl (by decide) lk_X6_36 ?_
    refine go_aload_n (pc := 8) dX6_settle_8 rfl rfl ?_
    refine go_getR (pc := 9) (k := 0) (q2 := 1) dX6_settle_9 cl_X6 rfl rfl (by decide) lk_X6_12 ?_
    obtain ⟨v7, hv8, h⟩ := fm_bind h
    refine go_callVv (pc := 12) (As := [.ref 1]) (st := []) dX6_settle_12 (c_X1_keep (p2 := 1) (r2 := 2) rfl rfl _ hv8) (by decide) ce_X1_keep ml_X6_236 in_X1_keep se_X1_keep cl_X1 rfl rfl (Nat.le_of_ble_eq_true rfl) rfl ?_
    refine go_aload_n (pc := 15) dX6_settle_15 rfl rfl ?_
    refine go_getR (pc := 16) (k := 0) (q2 := 1) dX6_settle_16 cl_X6 rfl rfl (by decide) lk_X6_12 ?_
    refine go_aload_n (pc := 19) dX6_settle_19 rfl rfl ?_
    refine go_getR (pc := 20) (k := 2) (q2 := 5) dX6_settle_20 cl_X6 rfl rfl (by decide) lk_X6_22 ?_
    obtain ⟨v9, hv10, h⟩ := fm_bind h
    refine go_callVr (pc := 23) (As := []) (st := [.ref 1]) dX6_settle_23 (c_X0_result   _ hv10) (by decide) ce_X0_result ml_X6_239 in_X0_result se_X0_result cl_X0 rfl rfl (Nat.le_of_ble_eq_true rfl) rfl ?_
    obtain ⟨v11, hv12, h⟩ := fm_bind h
    refine go_callVv (pc := 26) (As := [.ref 6]) (st := []) dX6_settle_26 (c_X5_copyFrom (p := 1) (r := 2) (p2 := 6) (r2 := 7) rfl rfl rfl rfl _ hv12) (by decide) ce_X5_copyFrom ml_X6_226 in_X5_copyFrom se_X5_copyFrom cl_X5 rfl rfl (Nat.le_of_ble_eq_true rfl) rfl ?_
    refine go_goto (pc := 29) (tgt := 60) dX6_settle_29 (by decide) ?_
    refine go_iload_n (pc := 60) dX6_settle_60 rfl rfl ?_
    obtain rfl := Option.some.inj h
    exact go_iret (pc := 61) .int dX6_settle_61 rfl rfl ⟨rfl, rfl⟩
def f_X6_come (x1 : Int32) (x2 : Int32) (m : fm_M) : Option (Int32 × fm_M) :=
  (f_X6_onTrial m).bind fun v1 => (f_X0_admit x1 x2 v1).bind fun v3 => (f_X6_settle v3.1 v3.2).bind fun v5 => some (v5.1, v5.2)
set_option maxRecDepth 100000 in
set_option maxHeartbeats 4000000 in
theorem c_X6_come {X : List fm_L} (x1 : Int32) (x2 : Int32) (m : fm_M) {res : Int32 × fm_M} (h : f_X6_come x1 x2 m = some res) : fm_Met (fm_layH ++ X) 5 m_X6_come [.ref 0, .int x1, .int x2] m (fm_pi res.1 res.2) := by
  refine fm_Met_of (ls := [some (.ref 0), some (.int x1), some (.int x2)]) (by decide) rfl (fm_cc_r _ (fm_cc_i _ (fm_cc_i _ fm_cc_0))) (Nat.le_of_ble_eq_true rfl) rfl ?_
  unfold f_X6_come at h
  refine go_aload_n (pc := 0) dX6_come_0 rfl rfl ?_
  refine go_aload_n (pc := 1) dX6_come_1 rfl rfl ?_
  obtain ⟨v1, hv2, h⟩ := fm_bind h
  refine go_callVr (pc := 2) (As := []) (st := [.ref 0]) dX6_come_2 (c_X6_onTrial   _ hv2) (by decide) ce_X6_onTrial ml_X6_74 in_X6_onTrial se_X6_onTrial cl_X6 rfl rfl (Nat.le_of_ble_eq_true rfl) rfl ?_
  refine go_iload_n (pc := 5) dX6_come_5 rfl rfl ?_
  refine go_iload_n (pc := 6) dX6_come_6 rfl rfl ?_
  obtain ⟨v3, hv4, h⟩ := fm_bind h
  refine go_callVi (pc := 7) (As := [.int x1, .int x2]) (st := [.ref 0]) dX6_come_7 (c_X0_admit   _ _ _ hv4) (by decide) ce_X0_admit ml_X6_78 in_X0_admit se_X0_admit cl_X0 rfl rfl (Nat.le_of_ble_eq_true rfl) rfl ?_
  obtain ⟨v5, hv6, h⟩ := fm_bind h
  refine go_callVi (pc := 10) (As := [.int v3.1]) (st := []) dX6_come_10 (c_X6_settle   _ _ hv6) (by decide) ce_X6_settle ml_X6_82 in_X6_settle se_X6_settle cl_X6 rfl rfl (Nat.le_of_ble_eq_true rfl) rfl ?_
  obtain rfl := Option.some.inj h
  exact go_iret (pc := 13) .int dX6_come_13 rfl rfl ⟨rfl, rfl⟩
def f_X6_withdraw (x1 : Int32) (m : fm_M) : Option (Int32 × fm_M) :=
  (f_X6_onTrial m).bind fun v1 => (f_X0_dropFromLine x1 v1).bind fun v3 => (f_X6_settle v3.1 v3.2).bind fun v5 => some (v5.1, v5.2)
set_option maxRecDepth 100000 in
set_option maxHeartbeats 4000000 in
theorem c_X6_withdraw {X : List fm_L} (x1 : Int32) (m : fm_M) {res : Int32 × fm_M} (h : f_X6_withdraw x1 m = some res) : fm_Met (fm_layH ++ X) 5 m_X6_withdraw [.ref 0, .int x1] m (fm_pi res.1 res.2) := by
  refine fm_Met_of (ls := [some (.ref 0), some (.int x1)]) (by decide) rfl (fm_cc_r _ (fm_cc_i _ fm_cc_0)) (Nat.le_of_ble_eq_true rfl) rfl ?_
  unfold f_X6_withdraw at h
  refine go_aload_n (pc := 0) dX6_withdraw_0 rfl rfl ?_
  refine go_aload_n (pc := 1) dX6_withdraw_1 rfl rfl ?_
  obtain ⟨v1, hv2, h⟩ := fm_bind h
  refine go_callVr (pc := 2) (As := []) (st := [.ref 0]) dX6_withdraw_2 (c_X6_onTrial   _ hv2) (by decide) ce_X6_onTrial ml_X6_74 in_X6_onTrial se_X6_onTrial cl_X6 rfl rfl (Nat.le_of_ble_eq_true rfl) rfl ?_
  refine go_iload_n (pc := 5) dX6_withdraw_5 rfl rfl ?_
  obtain ⟨v3, hv4, h⟩ := fm_bind h
  refine go_callVi (pc := 6) (As := [.int x1]) (st := [.ref 0]) dX6_withdraw_6 (c_X0_dropFromLine   _ _ hv4) (by decide) ce_X0_dropFromLine ml_X6_86 in_X0_dropFromLine se_X0_dropFromLine cl_X0 rfl rfl (Nat.le_of_ble_eq_true rfl) rfl ?_
  obtain ⟨v5, hv6, h⟩ := fm_bind h
  refine go_callVi (pc := 9) (As := [.int v3.1]) (st := []) dX6_withdraw_9 (c_X6_settle   _ _ hv6) (by decide) ce_X6_settle ml_X6_82 in_X6_settle se_X6_settle cl_X6 rfl rfl (Nat.le_of_ble_eq_true rfl) rfl ?_
  obtain rfl := Option.some.inj h
  exact go_iret (pc := 12) .int dX6_withdraw_12 rfl rfl ⟨rfl, rfl⟩
def f_X6_voice (x1 : Int32) (x2 : Int32) (m : fm_M) : Option (Int32 × fm_M) :=
  (f_X6_onTrial m).bind fun v1 => (f_X0_giveVoice x1 x2 v1).bind fun v3 => (f_X6_settle v3.1 v3.2).bind fun v5 => some (v5.1, v5.2)
set_option maxRecDepth 100000 in
set_option maxHeartbeats 4000000 in
theorem c_X6_voice {X : List fm_L} (x1 : Int32) (x2 : Int32) (m : fm_M) {res : Int32 × fm_M} (h : f_X6_voice x1 x2 m = some res) : fm_Met (fm_layH ++ X) 5 m_X6_voice [.ref 0, .int x1, .int x2] m (fm_pi res.1 res.2) := by
  refine fm_Met_of (ls := [some (.ref 0), some (.int x1), some (.int x2)]) (by decide) rfl (fm_cc_r _ (fm_cc_i _ (fm_cc_i _ fm_cc_0))) (Nat.le_of_ble_eq_true rfl) rfl ?_
  unfold f_X6_voice at h
  refine go_aload_n (pc := 0) dX6_voice_0 rfl rfl ?_
  refine go_aload_n (pc := 1) dX6_voice_1 rfl rfl ?_
  obtain ⟨v1, hv2, h⟩ := fm_bind h
  refine go_callVr (pc := 2) (As := []) (st := [.ref 0]) dX6_voice_2 (c_X6_onTrial   _ hv2) (by decide) ce_X6_onTrial ml_X6_74 in_X6_onTrial se_X6_onTrial cl_X6 rfl rfl (Nat.le_of_ble_eq_true rfl) rfl ?_
  refine go_iload_n (pc := 5) dX6_voice_5 rfl rfl ?_
  refine go_iload_n (pc := 6) dX6_voice_6 rfl rfl ?_
  obtain ⟨v3, hv4, h⟩ := fm_bind h
  refine go_callVi (pc := 7) (As := [.int x1, .int x2]) (st := [.ref 0]) dX6_voice_7 (c_X0_giveVoice   _ _ _ hv4) (by decide) ce_X0_giveVoice ml_X6_89 in_X0_giveVoice se_X0_giveVoice cl_X0 rfl rfl (Nat.le_of_ble_eq_true rfl) rfl ?_
  obtain ⟨v5, hv6, h⟩ := fm_bind h
  refine go_callVi (pc := 10) (As := [.int v3.1]) (st := []) dX6_voice_10 (c_X6_settle   _ _ hv6) (by decide) ce_X6_settle ml_X6_82 in_X6_settle se_X6_settle cl_X6 rfl rfl (Nat.le_of_ble_eq_true rfl) rfl ?_
  obtain rfl := Option.some.inj h
  exact go_iret (pc := 13) .int dX6_voice_13 rfl rfl ⟨rfl, rfl⟩
def f_X6_choose (x1 : Int32) (m : fm_M) : Option (Int32 × fm_M) :=
  (f_X6_onTrial m).bind fun v1 => (f_X0_fillCell x1 v1).bind fun v3 => (f_X6_settle v3.1 v3.2).bind fun v5 => some (v5.1, v5.2)
set_option maxRecDepth 100000 in
set_option maxHeartbeats 4000000 in
theorem c_X6_choose {X : List fm_L} (x1 : Int32) (m : fm_M) {res : Int32 × fm_M} (h : f_X6_choose x1 m = some res) : fm_Met (fm_layH ++ X) 5 m_X6_choose [.ref 0, .int x1] m (fm_pi res.1 res.2) := by
  refine fm_Met_of (ls := [some (.ref 0), some (.int x1)]) (by decide) rfl (fm_cc_r _ (fm_cc_i _ fm_cc_0)) (Nat.le_of_ble_eq_true rfl) rfl ?_
  unfold f_X6_choose at h
  refine go_aload_n (pc := 0) dX6_choose_0 rfl rfl ?_
  refine go_aload_n (pc := 1) dX6_choose_1 rfl rfl ?_
  obtain ⟨v1, hv2, h⟩ := fm_bind h
  refine go_callVr (pc := 2) (As := []) (st := [.ref 0]) dX6_choose_2 (c_X6_onTrial   _ hv2) (by decide) ce_X6_onTrial ml_X6_74 in_X6_onTrial se_X6_onTrial cl_X6 rfl rfl (Nat.le_of_ble_eq_true rfl) rfl ?_
  refine go_iload_n (pc := 5) dX6_choose_5 rfl rfl ?_
  obtain ⟨v3, hv4, h⟩ := fm_bind h
  refine go_callVi (pc := 6) (As := [.int x1]) (st := [.ref 0]) dX6_choose_6 (c_X0_fillCell   _ _ hv4) (by decide) ce_X0_fillCell ml_X6_93 in_X0_fillCell se_X0_fillCell cl_X0 rfl rfl (Nat.le_of_ble_eq_true rfl) rfl ?_
  obtain ⟨v5, hv6, h⟩ := fm_bind h
  refine go_callVi (pc := 9) (As := [.int v3.1]) (st := []) dX6_choose_9 (c_X6_settle   _ _ hv6) (by decide) ce_X6_settle ml_X6_82 in_X6_settle se_X6_settle cl_X6 rfl rfl (Nat.le_of_ble_eq_true rfl) rfl ?_
  obtain rfl := Option.some.inj h
  exact go_iret (pc := 12) .int dX6_choose_12 rfl rfl ⟨rfl, rfl⟩
def f_X6_leave (x1 : Int32) (m : fm_M) : Option (Int32 × fm_M) :=
  (f_X6_onTrial m).bind fun v1 => (f_X0_emptyCell x1 v1).bind fun v3 => (f_X6_settle v3.1 v3.2).bind fun v5 => some (v5.1, v5.2)
set_option maxRecDepth 100000 in
set_option maxHeartbeats 4000000 in
theorem c_X6_leave {X : List fm_L} (x1 : Int32) (m : fm_M) {res : Int32 × fm_M} (h : f_X6_leave x1 m = some res) : fm_Met (fm_layH ++ X) 5 m_X6_leave [.ref 0, .int x1] m (fm_pi res.1 res.2) := by
  refine fm_Met_of (ls := [some (.ref 0), some (.int x1)]) (by decide) rfl (fm_cc_r _ (fm_cc_i _ fm_cc_0)) (Nat.le_of_ble_eq_true rfl) rfl ?_
  unfold f_X6_leave at h
  refine go_aload_n (pc := 0) dX6_leave_0 rfl rfl ?_
  refine go_aload_n (pc := 1) dX6_leave_1 rfl rfl ?_
  obtain ⟨v1, hv2, h⟩ := fm_bind h
  refine go_callVr (pc := 2) (As := []) (st := [.ref 0]) dX6_leave_2 (c_X6_onTrial   _ hv2) (by decide) ce_X6_onTrial ml_X6_74 in_X6_onTrial se_X6_onTrial cl_X6 rfl rfl (Nat.le_of_ble_eq_true rfl) rfl ?_
  refine go_iload_n (pc := 5) dX6_leave_5 rfl rfl ?_
  obtain ⟨v3, hv4, h⟩ := fm_bind h
  refine go_callVi (pc := 6) (As := [.int x1]) (st := [.ref 0]) dX6_leave_6 (c_X0_emptyCell   _ _ hv4) (by decide) ce_X0_emptyCell ml_X6_96 in_X0_emptyCell se_X0_emptyCell cl_X0 rfl rfl (Nat.le_of_ble_eq_true rfl) rfl ?_
  obtain ⟨v5, hv6, h⟩ := fm_bind h
  refine go_callVi (pc := 9) (As := [.int v3.1]) (st := []) dX6_leave_9 (c_X6_settle   _ _ hv6) (by decide) ce_X6_settle ml_X6_82 in_X6_settle se_X6_settle cl_X6 rfl rfl (Nat.le_of_ble_eq_true rfl) rfl ?_
  obtain rfl := Option.some.inj h
  exact go_iret (pc := 12) .int dX6_leave_12 rfl rfl ⟨rfl, rfl⟩
def f_X6_feast (x1 : Int32) (x2 : Int32) (m : fm_M) : Option (Int32 × fm_M) :=
  (f_X6_onTrial m).bind fun v1 => (f_X0_setFeast x1 x2 v1).bind fun v3 => (f_X6_settle v3.1 v3.2).bind fun v5 => some (v5.1, v5.2)
set_option maxRecDepth 100000 in
set_option maxHeartbeats 4000000 in
theorem c_X6_feast {X : List fm_L} (x1 : Int32) (x2 : Int32) (m : fm_M) {res : Int32 × fm_M} (h : f_X6_feast x1 x2 m = some res) : fm_Met (fm_layH ++ X) 5 m_X6_feast [.ref 0, .int x1, .int x2] m (fm_pi res.1 res.2) := by
  refine fm_Met_of (ls := [some (.ref 0), some (.int x1), some (.int x2)]) (by decide) rfl (fm_cc_r _ (fm_cc_i _ (fm_cc_i _ fm_cc_0))) (Nat.le_of_ble_eq_true rfl) rfl ?_
  unfold f_X6_feast at h
  refine go_aload_n (pc := 0) dX6_feast_0 rfl rfl ?_
  refine go_aload_n (pc := 1) dX6_feast_1 rfl rfl ?_
  obtain ⟨v1, hv2, h⟩ := fm_bind h
  refine go_callVr (pc := 2) (As := []) (st := [.ref 0]) dX6_feast_2 (c_X6_onTrial   _ hv2) (by decide) ce_X6_onTrial ml_X6_74 in_X6_onTrial se_X6_onTrial cl_X6 rfl rfl (Nat.le_of_ble_eq_true rfl) rfl ?_
  refine go_iload_n (pc := 5) dX6_feast_5 rfl rfl ?_
  refine go_iload_n (pc := 6) dX6_feast_6 rfl rfl ?_
  obtain ⟨v3, hv4, h⟩ := fm_bind h
  refine go_callVi (pc := 7) (As := [.int x1, .int x2]) (st := [.ref 0]) dX6_feast_7 (c_X0_setFeast   _ _ _ hv4) (by decide) ce_X0_setFeast ml_X6_99 in_X0_setFeast se_X0_setFeast cl_X0 rfl rfl (Nat.le_of_ble_eq_true rfl) rfl ?_
  obtain ⟨v5, hv6, h⟩ := fm_bind h
  refine go_callVi (pc := 10) (As := [.int v3.1]) (st := []) dX6_feast_10 (c_X6_settle   _ _ hv6) (by decide) ce_X6_settle ml_X6_82 in_X6_settle se_X6_settle cl_X6 rfl rfl (Nat.le_of_ble_eq_true rfl) rfl ?_
  obtain rfl := Option.some.inj h
  exact go_iret (pc := 13) .int dX6_feast_13 rfl rfl ⟨rfl, rfl⟩
def f_X6_breach (x1 : Int32) (x2 : Int32) (m : fm_M) : Option (Int32 × fm_M) :=
  (f_X6_onTrial m).bind fun v1 => (f_X0_breakRule x1 x2 v1).bind fun v3 => (f_X6_settle v3.1 v3.2).bind fun v5 => some (v5.1, v5.2)
set_option maxRecDepth 100000 in
set_option maxHeartbeats 4000000 in
theorem c_X6_breach {X : List fm_L} (x1 : Int32) (x2 : Int32) (m : fm_M) {res : Int32 × fm_M} (h : f_X6_breach x1 x2 m = some res) : fm_Met (fm_layH ++ X) 5 m_X6_breach [.ref 0, .int x1, .int x2] m (fm_pi res.1 res.2) := by
  refine fm_Met_of (ls := [some (.ref 0), some (.int x1), some (.int x2)]) (by decide) rfl (fm_cc_r _ (fm_cc_i _ (fm_cc_i _ fm_cc_0))) (Nat.le_of_ble_eq_true rfl) rfl ?_
  unfold f_X6_breach at h
  refine go_aload_n (pc := 0) dX6_breach_0 rfl rfl ?_
  refine go_aload_n (pc := 1) dX6_breach_1 rfl rfl ?_
  obtain ⟨v1, hv2, h⟩ := fm_bind h
  refine go_callVr (pc := 2) (As := []) (st := [.ref 0]) dX6_breach_2 (c_X6_onTrial   _ hv2) (by decide) ce_X6_onTrial ml_X6_74 in_X6_onTrial se_X6_onTrial cl_X6 rfl rfl (Nat.le_of_ble_eq_true rfl) rfl ?_
  refine go_iload_n (pc := 5) dX6_breach_5 rfl rfl ?_
  refine go_iload_n (pc := 6) dX6_breach_6 rfl rfl ?_
  obtain ⟨v3, hv4, h⟩ := fm_bind h
  refine go_callVi (pc := 7) (As := [.int x1, .int x2]) (st := [.ref 0]) dX6_breach_7 (c_X0_breakRule   _ _ _ hv4) (by decide) ce_X0_breakRule ml_X6_102 in_X0_breakRule se_X0_breakRule cl_X0 rfl rfl (Nat.le_of_ble_eq_true rfl) rfl ?_
  obtain ⟨v5, hv6, h⟩ := fm_bind h
  refine go_callVi (pc := 10) (As := [.int v3.1]) (st := []) dX6_breach_10 (c_X6_settle   _ _ hv6) (by decide) ce_X6_settle ml_X6_82 in_X6_settle se_X6_settle cl_X6 rfl rfl (Nat.le_of_ble_eq_true rfl) rfl ?_
  obtain rfl := Option.some.inj h
  exact go_iret (pc := 13) .int dX6_breach_13 rfl rfl ⟨rfl, rfl⟩
def f_X6_pardon (x1 : Int32) (m : fm_M) : Option (Int32 × fm_M) :=
  (f_X6_onTrial m).bind fun v1 => (f_X0_endBan x1 v1).bind fun v3 => (f_X6_settle v3.1 v3.2).bind fun v5 => some (v5.1, v5.2)
set_option maxRecDepth 100000 in
set_option maxHeartbeats 4000000 in
theorem c_X6_pardon {X : List fm_L} (x1 : Int32) (m : fm_M) {res : Int32 × fm_M} (h : f_X6_pardon x1 m = some res) : fm_Met (fm_layH ++ X) 5 m_X6_pardon [.ref 0, .int x1] m (fm_pi res.1 res.2) := by
  refine fm_Met_of (ls := [some (.ref 0), some (.int x1)]) (by decide) rfl (fm_cc_r _ (fm_cc_i _ fm_cc_0)) (Nat.le_of_ble_eq_true rfl) rfl ?_
  unfold f_X6_pardon at h
  refine go_aload_n (pc := 0) dX6_pardon_0 rfl rfl ?_
  refine go_aload_n (pc := 1) dX6_pardon_1 rfl rfl ?_
  obtain ⟨v1, hv2, h⟩ := fm_bind h
  refine go_callVr (pc := 2) (As := []) (st := [.ref 0]) dX6_pardon_2 (c_X6_onTrial   _ hv2) (by decide) ce_X6_onTrial ml_X6_74 in_X6_onTrial se_X6_onTrial cl_X6 rfl rfl (Nat.le_of_ble_eq_true rfl) rfl ?_
  refine go_iload_n (pc := 5) dX6_pardon_5 rfl rfl ?_
  obtain ⟨v3, hv4, h⟩ := fm_bind h
  refine go_callVi (pc := 6) (As := [.int x1]) (st := [.ref 0]) dX6_pardon_6 (c_X0_endBan   _ _ hv4) (by decide) ce_X0_endBan ml_X6_105 in_X0_endBan se_X0_endBan cl_X0 rfl rfl (Nat.le_of_ble_eq_true rfl) rfl ?_
  obtain ⟨v5, hv6, h⟩ := fm_bind h
  refine go_callVi (pc := 9) (As := [.int v3.1]) (st := []) dX6_pardon_9 (c_X6_settle   _ _ hv6) (by decide) ce_X6_settle ml_X6_82 in_X6_settle se_X6_settle cl_X6 rfl rfl (Nat.le_of_ble_eq_true rfl) rfl ?_
  obtain rfl := Option.some.inj h
  exact go_iret (pc := 12) .int dX6_pardon_12 rfl rfl ⟨rfl, rfl⟩
def f_X6_gift (x1 : Int32) (m : fm_M) : Option (Int32 × fm_M) :=
  (f_X6_onTrial m).bind fun v1 => (f_X0_takeGift x1 v1).bind fun v3 => (f_X6_settle v3.1 v3.2).bind fun v5 => some (v5.1, v5.2)
set_option maxRecDepth 100000 in
set_option maxHeartbeats 4000000 in
theorem c_X6_gift {X : List fm_L} (x1 : Int32) (m : fm_M) {res : Int32 × fm_M} (h : f_X6_gift x1 m = some res) : fm_Met (fm_layH ++ X) 5 m_X6_gift [.ref 0, .int x1] m (fm_pi res.1 res.2) := by
  refine fm_Met_of (ls := [some (.ref 0), some (.int x1)]) (by decide) rfl (fm_cc_r _ (fm_cc_i _ fm_cc_0)) (Nat.le_of_ble_eq_true rfl) rfl ?_
  unfold f_X6_gift at h
  refine go_aload_n (pc := 0) dX6_gift_0 rfl rfl ?_
  refine go_aload_n (pc := 1) dX6_gift_1 rfl rfl ?_
  obtain ⟨v1, hv2, h⟩ := fm_bind h
  refine go_callVr (pc := 2) (As := []) (st := [.ref 0]) dX6_gift_2 (c_X6_onTrial   _ hv2) (by decide) ce_X6_onTrial ml_X6_74 in_X6_onTrial se_X6_onTrial cl_X6 rfl rfl (Nat.le_of_ble_eq_true rfl) rfl ?_
  refine go_iload_n (pc := 5) dX6_gift_5 rfl rfl ?_
  obtain ⟨v3, hv4, h⟩ := fm_bind h
  refine go_callVi (pc := 6) (As := [.int x1]) (st := [.ref 0]) dX6_gift_6 (c_X0_takeGift   _ _ hv4) (by decide) ce_X0_takeGift ml_X6_108 in_X0_takeGift se_X0_takeGift cl_X0 rfl rfl (Nat.le_of_ble_eq_true rfl) rfl ?_
  obtain ⟨v5, hv6, h⟩ := fm_bind h
  refine go_callVi (pc := 9) (As := [.int v3.1]) (st := []) dX6_gift_9 (c_X6_settle   _ _ hv6) (by decide) ce_X6_settle ml_X6_82 in_X6_settle se_X6_settle cl_X6 rfl rfl (Nat.le_of_ble_eq_true rfl) rfl ?_
  obtain rfl := Option.some.inj h
  exact go_iret (pc := 12) .int dX6_gift_12 rfl rfl ⟨rfl, rfl⟩
def f_X6_weeks (x1 : Int32) (m : fm_M) : Option (Int32 × fm_M) :=
  (f_X6_onTrial m).bind fun v1 => (f_X0_spendWeeks x1 v1).bind fun v3 => (f_X6_settle v3.1 v3.2).bind fun v5 => some (v5.1, v5.2)
set_option maxRecDepth 100000 in
set_option maxHeartbeats 4000000 in
theorem c_X6_weeks {X : List fm_L} (x1 : Int32) (m : fm_M) {res : Int32 × fm_M} (h : f_X6_weeks x1 m = some res) : fm_Met (fm_layH ++ X) 5 m_X6_weeks [.ref 0, .int x1] m (fm_pi res.1 res.2) := by
  refine fm_Met_of (ls := [some (.ref 0), some (.int x1)]) (by decide) rfl (fm_cc_r _ (fm_cc_i _ fm_cc_0)) (Nat.le_of_ble_eq_true rfl) rfl ?_
  unfold f_X6_weeks at h
  refine go_aload_n (pc := 0) dX6_weeks_0 rfl rfl ?_
  refine go_aload_n (pc := 1) dX6_weeks_1 rfl rfl ?_
  obtain ⟨v1, hv2, h⟩ := fm_bind h
  refine go_callVr (pc := 2) (As := []) (st := [.ref 0]) dX6_weeks_2 (c_X6_onTrial   _ hv2) (by decide) ce_X6_onTrial ml_X6_74 in_X6_onTrial se_X6_onTrial cl_X6 rfl rfl (Nat.le_of_ble_eq_true rfl) rfl ?_
  refine go_iload_n (pc := 5) dX6_weeks_5 rfl rfl ?_
  obtain ⟨v3, hv4, h⟩ := fm_bind h
  refine go_callVi (pc := 6) (As := [.int x1]) (st := [.ref 0]) dX6_weeks_6 (c_X0_spendWeeks   _ _ hv4) (by decide) ce_X0_spendWeeks ml_X6_111 in_X0_spendWeeks se_X0_spendWeeks cl_X0 rfl rfl (Nat.le_of_ble_eq_true rfl) rfl ?_
  obtain ⟨v5, hv6, h⟩ := fm_bind h
  refine go_callVi (pc := 9) (As := [.int v3.1]) (st := []) dX6_weeks_9 (c_X6_settle   _ _ hv6) (by decide) ce_X6_settle ml_X6_82 in_X6_settle se_X6_settle cl_X6 rfl rfl (Nat.le_of_ble_eq_true rfl) rfl ?_
  obtain rfl := Option.some.inj h
  exact go_iret (pc := 12) .int dX6_weeks_12 rfl rfl ⟨rfl, rfl⟩
def f_X6_breachesOf_L4 : Nat → Int32 → Int32 → Int32 → fm_M → Option (Int32)
  | 0, _, _, _, _ => none
  | n + 1, y1, y2, y3, m => if (5 : Int32) ≤ y3 then (some y2) else ((f_X5_of 1 2 ((9 : Int32) + y3) y1 m).bind fun v2 => f_X6_breachesOf_L4 n y1 (y2 + v2) (y3 + (1 : Int32)) m)
def f_X6_breachesOf (x1 : Int32) (m : fm_M) : Option (Int32) :=
  f_X6_breachesOf_L4 fm_F x1 (0 : Int32) (0 : Int32) m
set_option maxRecDepth 100000 in
set_option maxHeartbeats 4000000 in
theorem c_X6_breachesOf_L4 {X : List fm_L} : ∀ (n : Nat) (y1 : Int32) (y2 : Int32) (y3 : Int32) (m : fm_M) (res : Int32), f_X6_breachesOf_L4 n y1 y2 y3 m = some res → fm_Go (fm_layH ++ X) 1 m_X6_breachesOf (fm_pi res m) 4 [some (.ref 0), some (.int y1), some (.int y2), some (.int y3)] [] m := by
  intro n
  induction n with
  | zero => intro y1 y2 y3 m res h; cases h
  | succ n ih =>
    intro y1 y2 y3 m res h
    rw [f_X6_breachesOf_L4] at h
    refine go_iload_n (pc := 4) dX6_breachesOf_4 rfl rfl ?_
    refine go_iconst (pc := 5) (v := (5 : Int32)) dX6_breachesOf_5 (by decide) ?_
    refine go_icmp_ge (pc := 6) (tgt := 30) dX6_breachesOf_6 (by decide) (fun c1 => ?_) (fun c1 => ?_)
    · rw [if_pos c1] at h
      refine go_iload_n (pc := 30) dX6_breachesOf_30 rfl rfl ?_
      obtain rfl := Option.some.inj h
      exact go_iret (pc := 31) .int dX6_breachesOf_31 rfl rfl ⟨rfl, rfl⟩
    · rw [if_neg c1] at h
      refine go_iload_n (pc := 9) dX6_breachesOf_9 rfl rfl ?_
      refine go_aload_n (pc := 10) dX6_breachesOf_10 rfl rfl ?_
      refine go_getR (pc := 11) (k := 0) (q2 := 1) dX6_breachesOf_11 cl_X6 rfl rfl (by decide) lk_X6_12 ?_
      refine go_bipush (pc := 14) (v := (9 : Int32)) dX6_breachesOf_14 (by decide) ?_
      refine go_iload_n (pc := 16) dX6_breachesOf_16 rfl rfl ?_
      refine go_iadd (pc := 17) dX6_breachesOf_17 ?_
      refine go_iload_n (pc := 18) dX6_breachesOf_18 rfl rfl ?_
      obtain ⟨v2, hv3, h⟩ := fm_bind h
      refine go_callVi (pc := 19) (As := [.int ((9 : Int32) + y3), .int y1]) (st := [.int y2]) dX6_breachesOf_19 (c_X5_of (p := 1) (r := 2) rfl rfl _ _ _ hv3) (by decide) ce_X5_of ml_X6_118 in_X5_of se_X5_of cl_X5 rfl rfl (Nat.le_of_ble_eq_true rfl) rfl ?_
      refine go_iadd (pc := 22) dX6_breachesOf_22 ?_
      refine go_istore_n (pc := 23) (ls1 := [some (.ref 0), some (.int y1), some (.int (y2 + v2)), some (.int y3)]) dX6_breachesOf_23 rfl (by decide) rfl ?_
      refine go_iinc (pc := 24) (v := (y3 + (1 : Int32))) (ls1 := [some (.ref 0), some (.int y1), some (.int (y2 + v2)), some (.int (y3 + (1 : Int32)))]) dX6_breachesOf_24 rfl rfl (Nat.le_of_ble_eq_true rfl) rfl ?_
      refine go_goto (pc := 27) (tgt := 4) dX6_breachesOf_27 (by decide) ?_
      exact ih _ _ _ _ _ h
set_option maxRecDepth 100000 in
set_option maxHeartbeats 4000000 in
theorem c_X6_breachesOf {X : List fm_L} (x1 : Int32) (m : fm_M) {res : Int32} (h : f_X6_breachesOf x1 m = some res) : fm_Met (fm_layH ++ X) 1 m_X6_breachesOf [.ref 0, .int x1] m (fm_pi res m) := by
  refine fm_Met_of (ls := [some (.ref 0), some (.int x1), none, none]) (by decide) rfl (fm_cc_r _ (fm_cc_i _ fm_cc_0)) (Nat.le_of_ble_eq_true rfl) rfl ?_
  unfold f_X6_breachesOf at h
  refine go_iconst (pc := 0) (v := (0 : Int32)) dX6_breachesOf_0 (by decide) ?_
  refine go_istore_n (pc := 1) (ls1 := [some (.ref 0), some (.int x1), some (.int (0 : Int32)), none]) dX6_breachesOf_1 rfl (by decide) rfl ?_
  refine go_iconst (pc := 2) (v := (0 : Int32)) dX6_breachesOf_2 (by decide) ?_
  refine go_istore_n (pc := 3) (ls1 := [some (.ref 0), some (.int x1), some (.int (0 : Int32)), some (.int (0 : Int32))]) dX6_breachesOf_3 rfl (by decide) rfl ?_
  exact c_X6_breachesOf_L4  fm_F _ _ _ _ _ h
def f_X6_placeInLine_L19 : Nat → Int32 → Int32 → Int32 → fm_M → Option (Int32)
  | 0, _, _, _, _ => none
  | n + 1, y1, y2, y3, m => if y1 ≤ y3 then (some y2) else (if (16 : Int32) ≤ y3 then (some y2) else ((f_X5_is 1 2 (0 : Int32) y3 m).bind fun v6 => if v6 = true then (f_X6_placeInLine_L19 n y1 (y2 + (1 : Int32)) (y3 + (1 : Int32)) m) else (f_X6_placeInLine_L19 n y1 y2 (y3 + (1 : Int32)) m)))
def f_X6_placeInLine (x1 : Int32) (m : fm_M) : Option (Int32) :=
  (f_X5_is 1 2 (0 : Int32) x1 m).bind fun v1 => if v1 = true then (f_X6_placeInLine_L19 fm_F x1 (0 : Int32) (0 : Int32) m) else (some (-15 : Int32))
set_option maxRecDepth 100000 in
set_option maxHeartbeats 4000000 in
theorem c_X6_placeInLine_L19 {X : List fm_L} : ∀ (n : Nat) (y1 : Int32) (y2 : Int32) (y3 : Int32) (m : fm_M) (res : Int32), f_X6_placeInLine_L19 n y1 y2 y3 m = some res → fm_Go (fm_layH ++ X) 2 m_X6_placeInLine (fm_pi res m) 19 [some (.ref 0), some (.int y1), some (.int y2), some (.int y3)] [] m := by
  intro n
  induction n with
  | zero => intro y1 y2 y3 m res h; cases h
  | succ n ih =>
    intro y1 y2 y3 m res h
    rw [f_X6_placeInLine_L19] at h
    refine go_iload_n (pc := 19) dX6_placeInLine_19 rfl rfl ?_
    refine go_iload_n (pc := 20) dX6_placeInLine_20 rfl rfl ?_
    refine go_icmp_ge (pc := 21) (tgt := 51) dX6_placeInLine_21 (by decide) (fun c4 => ?_) (fun c4 => ?_)
    · rw [if_pos c4] at h
      refine go_iload_n (pc := 51) dX6_placeInLine_51 rfl rfl ?_
      obtain rfl := Option.some.inj h
      exact go_iret (pc := 52) .int dX6_placeInLine_52 rfl rfl ⟨rfl, rfl⟩
    · rw [if_neg c4] at h
      refine go_iload_n (pc := 24) dX6_placeInLine_24 rfl rfl ?_
      refine go_bipush (pc := 25) (v := (16 : Int32)) dX6_placeInLine_25 (by decide) ?_
      refine go_icmp_ge (pc := 27) (tgt := 51) dX6_placeInLine_27 (by decide) (fun c5 => ?_) (fun c5 => ?_)
      · rw [if_pos c5] at h
        refine go_iload_n (pc := 51) dX6_placeInLine_51 rfl rfl ?_
        obtain rfl := Option.some.inj h
        exact go_iret (pc := 52) .int dX6_placeInLine_52 rfl rfl ⟨rfl, rfl⟩
      · rw [if_neg c5] at h
        refine go_aload_n (pc := 30) dX6_placeInLine_30 rfl rfl ?_
        refine go_getR (pc := 31) (k := 0) (q2 := 1) dX6_placeInLine_31 cl_X6 rfl rfl (by decide) lk_X6_12 ?_
        refine go_iconst (pc := 34) (v := (0 : Int32)) dX6_placeInLine_34 (by decide) ?_
        refine go_iload_n (pc := 35) dX6_placeInLine_35 rfl rfl ?_
        obtain ⟨v6, hv7, h⟩ := fm_bind h
        refine go_callVi (pc := 36) (As := [.int (0 : Int32), .int y3]) (st := []) dX6_placeInLine_36 (c_X5_is (p := 1) (r := 2) rfl rfl _ _ _ hv7) (by decide) ce_X5_is ml_X6_121 in_X5_is se_X5_is cl_X5 rfl rfl (Nat.le_of_ble_eq_true rfl) rfl ?_
        refine go_ifb_eq (pc := 39) (tgt := 45) dX6_placeInLine_39 (by decide) (fun c8 => ?_) (fun c8 => ?_)
        · rw [if_neg (by rw [c8]; decide)] at h
          refine go_iinc (pc := 45) (v := (y3 + (1 : Int32))) (ls1 := [some (.ref 0), some (.int y1), some (.int y2), some (.int (y3 + (1 : Int32)))]) dX6_placeInLine_45 rfl rfl (Nat.le_of_ble_eq_true rfl) rfl ?_
          refine go_goto (pc := 48) (tgt := 19) dX6_placeInLine_48 (by decide) ?_
          exact ih _ _ _ _ _ h
        · rw [if_pos c8] at h
          refine go_iinc (pc := 42) (v := (y2 + (1 : Int32))) (ls1 := [some (.ref 0), some (.int y1), some (.int (y2 + (1 : Int32))), some (.int y3)]) dX6_placeInLine_42 rfl rfl (Nat.le_of_ble_eq_true rfl) rfl ?_
          refine go_iinc (pc := 45) (v := (y3 + (1 : Int32))) (ls1 := [some (.ref 0), some (.int y1), some (.int (y2 + (1 : Int32))), some (.int (y3 + (1 : Int32)))]) dX6_placeInLine_45 rfl rfl (Nat.le_of_ble_eq_true rfl) rfl ?_
          refine go_goto (pc := 48) (tgt := 19) dX6_placeInLine_48 (by decide) ?_
          exact ih _ _ _ _ _ h
set_option maxRecDepth 100000 in
set_option maxHeartbeats 4000000 in
theorem c_X6_placeInLine {X : List fm_L} (x1 : Int32) (m : fm_M) {res : Int32} (h : f_X6_placeInLine x1 m = some res) : fm_Met (fm_layH ++ X) 2 m_X6_placeInLine [.ref 0, .int x1] m (fm_pi res m) := by
  refine fm_Met_of (ls := [some (.ref 0), some (.int x1), none, none]) (by decide) rfl (fm_cc_r _ (fm_cc_i _ fm_cc_0)) (Nat.le_of_ble_eq_true rfl) rfl ?_
  unfold f_X6_placeInLine at h
  refine go_aload_n (pc := 0) dX6_placeInLine_0 rfl rfl ?_
  refine go_getR (pc := 1) (k := 0) (q2 := 1) dX6_placeInLine_1 cl_X6 rfl rfl (by decide) lk_X6_12 ?_
  refine go_iconst (pc := 4) (v := (0 : Int32)) dX6_placeInLine_4 (by decide) ?_
  refine go_iload_n (pc := 5) dX6_placeInLine_5 rfl rfl ?_
  obtain ⟨v1, hv2, h⟩ := fm_bind h
  refine go_callVi (pc := 6) (As := [.int (0 : Int32), .int x1]) (st := []) dX6_placeInLine_6 (c_X5_is (p := 1) (r := 2) rfl rfl _ _ _ hv2) (by decide) ce_X5_is ml_X6_121 in_X5_is se_X5_is cl_X5 rfl rfl (Nat.le_of_ble_eq_true rfl) rfl ?_
  refine go_ifb_ne (pc := 9) (tgt := 15) dX6_placeInLine_9 (by decide) (fun c3 => ?_) (fun c3 => ?_)
  · rw [if_pos c3] at h
    refine go_iconst (pc := 15) (v := (0 : Int32)) dX6_placeInLine_15 (by decide) ?_
    refine go_istore_n (pc := 16) (ls1 := [some (.ref 0), some (.int x1), some (.int (0 : Int32)), none]) dX6_placeInLine_16 rfl (by decide) rfl ?_
    refine go_iconst (pc := 17) (v := (0 : Int32)) dX6_placeInLine_17 (by decide) ?_
    refine go_istore_n (pc := 18) (ls1 := [some (.ref 0), some (.int x1), some (.int (0 : Int32)), some (.int (0 : Int32))]) dX6_placeInLine_18 rfl (by decide) rfl ?_
    exact c_X6_placeInLine_L19  fm_F _ _ _ _ _ h
  · rw [if_neg (by rw [c3]; decide)] at h
    refine go_bipush (pc := 12) (v := (-15 : Int32)) dX6_placeInLine_12 (by decide) ?_
    obtain rfl := Option.some.inj h
    exact go_iret (pc := 14) .int dX6_placeInLine_14 rfl rfl ⟨rfl, rfl⟩
def f_X6_brotherOf (x1 : Int32) (x2 : Int32) (m : fm_M) : Option (Int32) :=
  (f_X5_isBrother 1 2 x1 m).bind fun v1 => if v1 = true then (if x2 = (0 : Int32) then ((f_X5_of 1 2 (0 : Int32) x1 m).bind fun v5 => some v5) else (if x2 = (1 : Int32) then ((f_X5_of 1 2 (1 : Int32) x1 m).bind fun v8 => some v8) else (if x2 = (2 : Int32) then ((f_X5_of 1 2 (2 : Int32) x1 m).bind fun v11 => some v11) else (if x2 = (3 : Int32) then ((f_X5_of 1 2 (3 : Int32) x1 m).bind fun v14 => some v14) else (if x2 = (4 : Int32) then ((f_X5_is 1 2 (1 : Int32) x1 m).bind fun v17 => if v17 = true then ((f_X5_of 1 2 (4 : Int32) x1 m).bind fun v20 => some v20) else (some (-15 : Int32))) else (if x2 = (5 : Int32) then ((f_X5_of 1 2 (5 : Int32) x1 m).bind fun v23 => some v23) else (if x2 = (6 : Int32) then ((f_X5_of 1 2 (6 : Int32) x1 m).bind fun v26 => some v26) else (if x2 = (7 : Int32) then ((f_X6_breachesOf x1 m).bind fun v29 => some v29) else (if x2 = (8 : Int32) then ((f_X5_of 1 2 (7 : Int32) x1 m).bind fun v32 => some v32) else (if x2 = (9 : Int32) then ((f_X6_placeInLine x1 m).bind fun v35 => some v35) else (some (-12 : Int32)))))))))))) else (some (-11 : Int32))
set_option maxRecDepth 100000 in
set_option maxHeartbeats 4000000 in
theorem c_X6_brotherOf {X : List fm_L} (x1 : Int32) (x2 : Int32) (m : fm_M) {res : Int32} (h : f_X6_brotherOf x1 x2 m = some res) : fm_Met (fm_layH ++ X) 3 m_X6_brotherOf [.ref 0, .int x1, .int x2] m (fm_pi res m) := by
  refine fm_Met_of (ls := [some (.ref 0), some (.int x1), some (.int x2)]) (by decide) rfl (fm_cc_r _ (fm_cc_i _ (fm_cc_i _ fm_cc_0))) (Nat.le_of_ble_eq_true rfl) rfl ?_
  unfold f_X6_brotherOf at h
  refine go_aload_n (pc := 0) dX6_brotherOf_0 rfl rfl ?_
  refine go_getR (pc := 1) (k := 0) (q2 := 1) dX6_brotherOf_1 cl_X6 rfl rfl (by decide) lk_X6_12 ?_
  refine go_iload_n (pc := 4) dX6_brotherOf_4 rfl rfl ?_
  obtain ⟨v1, hv2, h⟩ := fm_bind h
  refine go_callVi (pc := 5) (As := [.int x1]) (st := []) dX6_brotherOf_5 (c_X5_isBrother (p := 1) (r := 2) rfl rfl _ _ hv2) (by decide) ce_X5_isBrother ml_X6_114 in_X5_isBrother se_X5_isBrother cl_X5 rfl rfl (Nat.le_of_ble_eq_true rfl) rfl ?_
  refine go_ifb_ne (pc := 8) (tgt := 14) dX6_brotherOf_8 (by decide) (fun c3 => ?_) (fun c3 => ?_)
  · rw [if_pos c3] at h
    refine go_iload_n (pc := 14) dX6_brotherOf_14 rfl rfl ?_
    by_cases c4 : x2 = (0 : Int32)
    · rw [if_pos c4] at h
      refine go_tswHit (pc := 15) (tgt := 68) dX6_brotherOf_15 c4 (by decide) (by decide) rfl (by decide) ?_
      refine go_aload_n (pc := 68) dX6_brotherOf_68 rfl rfl ?_
      refine go_getR (pc := 69) (k := 0) (q2 := 1) dX6_brotherOf_69 cl_X6 rfl rfl (by decide) lk_X6_12 ?_
      refine go_iconst (pc := 72) (v := (0 : Int32)) dX6_brotherOf_72 (by decide) ?_
      refine go_iload_n (pc := 73) dX6_brotherOf_73 rfl rfl ?_
      obtain ⟨v5, hv6, h⟩ := fm_bind h
      refine go_callVi (pc := 74) (As := [.int (0 : Int32), .int x1]) (st := []) dX6_brotherOf_74 (c_X5_of (p := 1) (r := 2) rfl rfl _ _ _ hv6) (by decide) ce_X5_of ml_X6_118 in_X5_of se_X5_of cl_X5 rfl rfl (Nat.le_of_ble_eq_true rfl) rfl ?_
      obtain rfl := Option.some.inj h
      exact go_iret (pc := 77) .int dX6_brotherOf_77 rfl rfl ⟨rfl, rfl⟩
    rw [if_neg c4] at h
    by_cases c7 : x2 = (1 : Int32)
    · rw [if_pos c7] at h
      refine go_tswHit (pc := 15) (tgt := 78) dX6_brotherOf_15 c7 (by decide) (by decide) rfl (by decide) ?_
      refine go_aload_n (pc := 78) dX6_brotherOf_78 rfl rfl ?_
      refine go_getR (pc := 79) (k := 0) (q2 := 1) dX6_brotherOf_79 cl_X6 rfl rfl (by decide) lk_X6_12 ?_
      refine go_iconst (pc := 82) (v := (1 : Int32)) dX6_brotherOf_82 (by decide) ?_
      refine go_iload_n (pc := 83) dX6_brotherOf_83 rfl rfl ?_
      obtain ⟨v8, hv9, h⟩ := fm_bind h
      refine go_callVi (pc := 84) (As := [.int (1 : Int32), .int x1]) (st := []) dX6_brotherOf_84 (c_X5_of (p := 1) (r := 2) rfl rfl _ _ _ hv9) (by decide) ce_X5_of ml_X6_118 in_X5_of se_X5_of cl_X5 rfl rfl (Nat.le_of_ble_eq_true rfl) rfl ?_
      obtain rfl := Option.some.inj h
      exact go_iret (pc := 87) .int dX6_brotherOf_87 rfl rfl ⟨rfl, rfl⟩
    rw [if_neg c7] at h
    by_cases c10 : x2 = (2 : Int32)
    · rw [if_pos c10] at h
      refine go_tswHit (pc := 15) (tgt := 88) dX6_brotherOf_15 c10 (by decide) (by decide) rfl (by decide) ?_
      refine go_aload_n (pc := 88) dX6_brotherOf_88 rfl rfl ?_
      refine go_getR (pc := 89) (k := 0) (q2 := 1) dX6_brotherOf_89 cl_X6 rfl rfl (by decide) lk_X6_12 ?_
      refine go_iconst (pc := 92) (v := (2 : Int32)) dX6_brotherOf_92 (by decide) ?_
      refine go_iload_n (pc := 93) dX6_brotherOf_93 rfl rfl ?_
      obtain ⟨v11, hv12, h⟩ := fm_bind h
      refine go_callVi (pc := 94) (As := [.int (2 : Int32), .int x1]) (st := []) dX6_brotherOf_94 (c_X5_of (p := 1) (r := 2) rfl rfl _ _ _ hv12) (by decide) ce_X5_of ml_X6_118 in_X5_of se_X5_of cl_X5 rfl rfl (Nat.le_of_ble_eq_true rfl) rfl ?_
      obtain rfl := Option.some.inj h
      exact go_iret (pc := 97) .int dX6_brotherOf_97 rfl rfl ⟨rfl, rfl⟩
    rw [if_neg c10] at h
    by_cases c13 : x2 = (3 : Int32)
    · rw [if_pos c13] at h
      refine go_tswHit (pc := 15) (tgt := 98) dX6_brotherOf_15 c13 (by decide) (by decide) rfl (by decide) ?_
      refine go_aload_n (pc := 98) dX6_brotherOf_98 rfl rfl ?_
      refine go_getR (pc := 99) (k := 0) (q2 := 1) dX6_brotherOf_99 cl_X6 rfl rfl (by decide) lk_X6_12 ?_
      refine go_iconst (pc := 102) (v := (3 : Int32)) dX6_brotherOf_102 (by decide) ?_
      refine go_iload_n (pc := 103) dX6_brotherOf_103 rfl rfl ?_
      obtain ⟨v14, hv15, h⟩ := fm_bind h
      refine go_callVi (pc := 104) (As := [.int (3 : Int32), .int x1]) (st := []) dX6_brotherOf_104 (c_X5_of (p := 1) (r := 2) rfl rfl _ _ _ hv15) (by decide) ce_X5_of ml_X6_118 in_X5_of se_X5_of cl_X5 rfl rfl (Nat.le_of_ble_eq_true rfl) rfl ?_
      obtain rfl := Option.some.inj h
      exact go_iret (pc := 107) .int dX6_brotherOf_107 rfl rfl ⟨rfl, rfl⟩
    rw [if_neg c13] at h
    by_cases c16 : x2 = (4 : Int32)
    · rw [if_pos c16] at h
      refine go_tswHit (pc := 15) (tgt := 108) dX6_brotherOf_15 c16 (by decide) (by decide) rfl (by decide) ?_
      refine go_aload_n (pc := 108) dX6_brotherOf_108 rfl rfl ?_
      refine go_getR (pc := 109) (k := 0) (q2 := 1) dX6_brotherOf_109 cl_X6 rfl rfl (by decide) lk_X6_12 ?_
      refine go_iconst (pc := 112) (v := (1 : Int32)) dX6_brotherOf_112 (by decide) ?_
      refine go_iload_n (pc := 113) dX6_brotherOf_113 rfl rfl ?_
      obtain ⟨v17, hv18, h⟩ := fm_bind h
      refine go_callVi (pc := 114) (As := [.int (1 : Int32), .int x1]) (st := []) dX6_brotherOf_114 (c_X5_is (p := 1) (r := 2) rfl rfl _ _ _ hv18) (by decide) ce_X5_is ml_X6_121 in_X5_is se_X5_is cl_X5 rfl rfl (Nat.le_of_ble_eq_true rfl) rfl ?_
      refine go_ifb_eq (pc := 117) (tgt := 132) dX6_brotherOf_117 (by decide) (fun c19 => ?_) (fun c19 => ?_)
      · rw [if_neg (by rw [c19]; decide)] at h
        refine go_bipush (pc := 132) (v := (-15 : Int32)) dX6_brotherOf_132 (by decide) ?_
        obtain rfl := Option.some.inj h
        exact go_iret (pc := 134) .int dX6_brotherOf_134 rfl rfl ⟨rfl, rfl⟩
      · rw [if_pos c19] at h
        refine go_aload_n (pc := 120) dX6_brotherOf_120 rfl rfl ?_
        refine go_getR (pc := 121) (k := 0) (q2 := 1) dX6_brotherOf_121 cl_X6 rfl rfl (by decide) lk_X6_12 ?_
        refine go_iconst (pc := 124) (v := (4 : Int32)) dX6_brotherOf_124 (by decide) ?_
        refine go_iload_n (pc := 125) dX6_brotherOf_125 rfl rfl ?_
        obtain ⟨v20, hv21, h⟩ := fm_bind h
        refine go_callVi (pc := 126) (As := [.int (4 : Int32), .int x1]) (st := []) dX6_brotherOf_126 (c_X5_of (p := 1) (r := 2) rfl rfl _ _ _ hv21) (by decide) ce_X5_of ml_X6_118 in_X5_of se_X5_of cl_X5 rfl rfl (Nat.le_of_ble_eq_true rfl) rfl ?_
        refine go_goto (pc := 129) (tgt := 134) dX6_brotherOf_129 (by decide) ?_
        obtain rfl := Option.some.inj h
        exact go_iret (pc := 134) .int dX6_brotherOf_134 rfl rfl ⟨rfl, rfl⟩
    rw [if_neg c16] at h
    by_cases c22 : x2 = (5 : Int32)
    · rw [if_pos c22] at h
      refine go_tswHit (pc := 15) (tgt := 135) dX6_brotherOf_15 c22 (by decide) (by decide) rfl (by decide) ?_
      refine go_aload_n (pc := 135) dX6_brotherOf_135 rfl rfl ?_
      refine go_getR (pc := 136) (k := 0) (q2 := 1) dX6_brotherOf_136 cl_X6 rfl rfl (by decide) lk_X6_12 ?_
      refine go_iconst (pc := 139) (v := (5 : Int32)) dX6_brotherOf_139 (by decide) ?_
      refine go_iload_n (pc := 140) dX6_brotherOf_140 rfl rfl ?_
      obtain ⟨v23, hv24, h⟩ := fm_bind h
      refine go_callVi (pc := 141) (As := [.int (5 : Int32), .int x1]) (st := []) dX6_brotherOf_141 (c_X5_of (p := 1) (r := 2) rfl rfl _ _ _ hv24) (by decide) ce_X5_of ml_X6_118 in_X5_of se_X5_of cl_X5 rfl rfl (Nat.le_of_ble_eq_true rfl) rfl ?_
      obtain rfl := Option.some.inj h
      exact go_iret (pc := 144) .int dX6_brotherOf_144 rfl rfl ⟨rfl, rfl⟩
    rw [if_neg c22] at h
    by_cases c25 : x2 = (6 : Int32)
    · rw [if_pos c25] at h
      refine go_tswHit (pc := 15) (tgt := 145) dX6_brotherOf_15 c25 (by decide) (by decide) rfl (by decide) ?_
      refine go_aload_n (pc := 145) dX6_brotherOf_145 rfl rfl ?_
      refine go_getR (pc := 146) (k := 0) (q2 := 1) dX6_brotherOf_146 cl_X6 rfl rfl (by decide) lk_X6_12 ?_
      refine go_bipush (pc := 149) (v := (6 : Int32)) dX6_brotherOf_149 (by decide) ?_
      refine go_iload_n (pc := 151) dX6_brotherOf_151 rfl rfl ?_
      obtain ⟨v26, hv27, h⟩ := fm_bind h
      refine go_callVi (pc := 152) (As := [.int (6 : Int32), .int x1]) (st := []) dX6_brotherOf_152 (c_X5_of (p := 1) (r := 2) rfl rfl _ _ _ hv27) (by decide) ce_X5_of ml_X6_118 in_X5_of se_X5_of cl_X5 rfl rfl (Nat.le_of_ble_eq_true rfl) rfl ?_
      obtain rfl := Option.some.inj h
      exact go_iret (pc := 155) .int dX6_brotherOf_155 rfl rfl ⟨rfl, rfl⟩
    rw [if_neg c25] at h
    by_cases c28 : x2 = (7 : Int32)
    · rw [if_pos c28] at h
      refine go_tswHit (pc := 15) (tgt := 156) dX6_brotherOf_15 c28 (by decide) (by decide) rfl (by decide) ?_
      refine go_aload_n (pc := 156) dX6_brotherOf_156 rfl rfl ?_
      refine go_iload_n (pc := 157) dX6_brotherOf_157 rfl rfl ?_
      obtain ⟨v29, hv30, h⟩ := fm_bind h
      refine go_callVi (pc := 158) (As := [.int x1]) (st := []) dX6_brotherOf_158 (c_X6_breachesOf   _ _ hv30) (by decide) ce_X6_breachesOf ml_X6_125 in_X6_breachesOf se_X6_breachesOf cl_X6 rfl rfl (Nat.le_of_ble_eq_true rfl) rfl ?_
      obtain rfl := Option.some.inj h
      exact go_iret (pc := 161) .int dX6_brotherOf_161 rfl rfl ⟨rfl, rfl⟩
    rw [if_neg c28] at h
    by_cases c31 : x2 = (8 : Int32)
    · rw [if_pos c31] at h
      refine go_tswHit (pc := 15) (tgt := 162) dX6_brotherOf_15 c31 (by decide) (by decide) rfl (by decide) ?_
      refine go_aload_n (pc := 162) dX6_brotherOf_162 rfl rfl ?_
      refine go_getR (pc := 163) (k := 0) (q2 := 1) dX6_brotherOf_163 cl_X6 rfl rfl (by decide) lk_X6_12 ?_
      refine go_bipush (pc := 166) (v := (7 : Int32)) dX6_brotherOf_166 (by decide) ?_
      refine go_iload_n (pc := 168) dX6_brotherOf_168 rfl rfl ?_
      obtain ⟨v32, hv33, h⟩ := fm_bind h
      refine go_callVi (pc := 169) (As := [.int (7 : Int32), .int x1]) (st := []) dX6_brotherOf_169 (c_X5_of (p := 1) (r := 2) rfl rfl _ _ _ hv33) (by decide) ce_X5_of ml_X6_118 in_X5_of se_X5_of cl_X5 rfl rfl (Nat.le_of_ble_eq_true rfl) rfl ?_
      obtain rfl := Option.some.inj h
      exact go_iret (pc := 172) .int dX6_brotherOf_172 rfl rfl ⟨rfl, rfl⟩
    rw [if_neg c31] at h
    by_cases c34 : x2 = (9 : Int32)
    · rw [if_pos c34] at h
      refine go_tswHit (pc := 15) (tgt := 173) dX6_brotherOf_15 c34 (by decide) (by decide) rfl (by decide) ?_
      refine go_aload_n (pc := 173) dX6_brotherOf_173 rfl rfl ?_
      refine go_iload_n (pc := 174) dX6_brotherOf_174 rfl rfl ?_
      obtain ⟨v35, hv36, h⟩ := fm_bind h
      refine go_callVi (pc := 175) (As := [.int x1]) (st := []) dX6_brotherOf_175 (c_X6_placeInLine   _ _ hv36) (by decide) ce_X6_placeInLine ml_X6_128 in_X6_placeInLine se_X6_placeInLine cl_X6 rfl rfl (Nat.le_of_ble_eq_true rfl) rfl ?_
      obtain rfl := Option.some.inj h
      exact go_iret (pc := 178) .int dX6_brotherOf_178 rfl rfl ⟨rfl, rfl⟩
    rw [if_neg c34] at h
    refine go_tswMiss (pc := 15) (tgt := 179) dX6_brotherOf_15 10 (by decide) (lt_s (lt_s (lt_s (lt_s (lt_s (lt_s (lt_s (lt_s (lt_s (lt_s lt_0 (Or.inl (lv_neT c4 rfl))) (Or.inl (lv_neT c7 rfl))) (Or.inl (lv_neT c10 rfl))) (Or.inl (lv_neT c13 rfl))) (Or.inl (lv_neT c16 rfl))) (Or.inl (lv_neT c22 rfl))) (Or.inl (lv_neT c25 rfl))) (Or.inl (lv_neT c28 rfl))) (Or.inl (lv_neT c31 rfl))) (Or.inl (lv_neT c34 rfl))) (by decide) ?_
    refine go_bipush (pc := 179) (v := (-12 : Int32)) dX6_brotherOf_179 (by decide) ?_
    obtain rfl := Option.some.inj h
    exact go_iret (pc := 181) .int dX6_brotherOf_181 rfl rfl ⟨rfl, rfl⟩
  · rw [if_neg (by rw [c3]; decide)] at h
    refine go_bipush (pc := 11) (v := (-11 : Int32)) dX6_brotherOf_11 (by decide) ?_
    obtain rfl := Option.some.inj h
    exact go_iret (pc := 13) .int dX6_brotherOf_13 rfl rfl ⟨rfl, rfl⟩
def f_X6_broke (x1 : Int32) (x2 : Int32) (m : fm_M) : Option (Int32) :=
  (f_X5_isBrother 1 2 x1 m).bind fun v1 => if v1 = true then ((f_X6_isRule x2 m).bind fun v4 => if v4 = true then ((f_X5_of 1 2 ((9 : Int32) + x2) x1 m).bind fun v7 => some v7) else (some (-11 : Int32))) else (some (-11 : Int32))
set_option maxRecDepth 100000 in
set_option maxHeartbeats 4000000 in
theorem c_X6_broke {X : List fm_L} (x1 : Int32) (x2 : Int32) (m : fm_M) {res : Int32} (h : f_X6_broke x1 x2 m = some res) : fm_Met (fm_layH ++ X) 2 m_X6_broke [.ref 0, .int x1, .int x2] m (fm_pi res m) := by
  refine fm_Met_of (ls := [some (.ref 0), some (.int x1), some (.int x2)]) (by decide) rfl (fm_cc_r _ (fm_cc_i _ (fm_cc_i _ fm_cc_0))) (Nat.le_of_ble_eq_true rfl) rfl ?_
  unfold f_X6_broke at h
  refine go_aload_n (pc := 0) dX6_broke_0 rfl rfl ?_
  refine go_getR (pc := 1) (k := 0) (q2 := 1) dX6_broke_1 cl_X6 rfl rfl (by decide) lk_X6_12 ?_
  refine go_iload_n (pc := 4) dX6_broke_4 rfl rfl ?_
  obtain ⟨v1, hv2, h⟩ := fm_bind h
  refine go_callVi (pc := 5) (As := [.int x1]) (st := []) dX6_broke_5 (c_X5_isBrother (p := 1) (r := 2) rfl rfl _ _ hv2) (by decide) ce_X5_isBrother ml_X6_114 in_X5_isBrother se_X5_isBrother cl_X5 rfl rfl (Nat.le_of_ble_eq_true rfl) rfl ?_
  refine go_ifb_eq (pc := 8) (tgt := 33) dX6_broke_8 (by decide) (fun c3 => ?_) (fun c3 => ?_)
  · rw [if_neg (by rw [c3]; decide)] at h
    refine go_bipush (pc := 33) (v := (-11 : Int32)) dX6_broke_33 (by decide) ?_
    obtain rfl := Option.some.inj h
    exact go_iret (pc := 35) .int dX6_broke_35 rfl rfl ⟨rfl, rfl⟩
  · rw [if_pos c3] at h
    refine go_iload_n (pc := 11) dX6_broke_11 rfl rfl ?_
    obtain ⟨v4, hv5, h⟩ := fm_bind h
    refine go_callSi (pc := 12) (As := [.int x2]) (st := []) dX6_broke_12 (c_X6_isRule   _ _ hv5) (by decide) ce_X6_isRule ml_X6_131 st_X6_isRule rfl (Nat.le_of_ble_eq_true rfl) rfl ?_
    refine go_ifb_eq (pc := 15) (tgt := 33) dX6_broke_15 (by decide) (fun c6 => ?_) (fun c6 => ?_)
    · rw [if_neg (by rw [c6]; decide)] at h
      refine go_bipush (pc := 33) (v := (-11 : Int32)) dX6_broke_33 (by decide) ?_
      obtain rfl := Option.some.inj h
      exact go_iret (pc := 35) .int dX6_broke_35 rfl rfl ⟨rfl, rfl⟩
    · rw [if_pos c6] at h
      refine go_aload_n (pc := 18) dX6_broke_18 rfl rfl ?_
      refine go_getR (pc := 19) (k := 0) (q2 := 1) dX6_broke_19 cl_X6 rfl rfl (by decide) lk_X6_12 ?_
      refine go_bipush (pc := 22) (v := (9 : Int32)) dX6_broke_22 (by decide) ?_
      refine go_iload_n (pc := 24) dX6_broke_24 rfl rfl ?_
      refine go_iadd (pc := 25) dX6_broke_25 ?_
      refine go_iload_n (pc := 26) dX6_broke_26 rfl rfl ?_
      obtain ⟨v7, hv8, h⟩ := fm_bind h
      refine go_callVi (pc := 27) (As := [.int ((9 : Int32) + x2), .int x1]) (st := []) dX6_broke_27 (c_X5_of (p := 1) (r := 2) rfl rfl _ _ _ hv8) (by decide) ce_X5_of ml_X6_118 in_X5_of se_X5_of cl_X5 rfl rfl (Nat.le_of_ble_eq_true rfl) rfl ?_
      refine go_goto (pc := 30) (tgt := 35) dX6_broke_30 (by decide) ?_
      obtain rfl := Option.some.inj h
      exact go_iret (pc := 35) .int dX6_broke_35 rfl rfl ⟨rfl, rfl⟩
def f_X6_inCell (x1 : Int32) (m : fm_M) : Option (Int32) :=
  (f_X6_isCell x1 m).bind fun v1 => if v1 = true then ((f_X5_get 1 2 ((224 : Int32) + x1) m).bind fun v4 => some v4) else (some (-11 : Int32))
set_option maxRecDepth 100000 in
set_option maxHeartbeats 4000000 in
theorem c_X6_inCell {X : List fm_L} (x1 : Int32) (m : fm_M) {res : Int32} (h : f_X6_inCell x1 m = some res) : fm_Met (fm_layH ++ X) 1 m_X6_inCell [.ref 0, .int x1] m (fm_pi res m) := by
  refine fm_Met_of (ls := [some (.ref 0), some (.int x1)]) (by decide) rfl (fm_cc_r _ (fm_cc_i _ fm_cc_0)) (Nat.le_of_ble_eq_true rfl) rfl ?_
  unfold f_X6_inCell at h
  refine go_iload_n (pc := 0) dX6_inCell_0 rfl rfl ?_
  obtain ⟨v1, hv2, h⟩ := fm_bind h
  refine go_callSi (pc := 1) (As := [.int x1]) (st := []) dX6_inCell_1 (c_X6_isCell   _ _ hv2) (by decide) ce_X6_isCell ml_X6_134 st_X6_isCell rfl (Nat.le_of_ble_eq_true rfl) rfl ?_
  refine go_ifb_eq (pc := 4) (tgt := 22) dX6_inCell_4 (by decide) (fun c3 => ?_) (fun c3 => ?_)
  · rw [if_neg (by rw [c3]; decide)] at h
    refine go_bipush (pc := 22) (v := (-11 : Int32)) dX6_inCell_22 (by decide) ?_
    obtain rfl := Option.some.inj h
    exact go_iret (pc := 24) .int dX6_inCell_24 rfl rfl ⟨rfl, rfl⟩
  · rw [if_pos c3] at h
    refine go_aload_n (pc := 7) dX6_inCell_7 rfl rfl ?_
    refine go_getR (pc := 8) (k := 0) (q2 := 1) dX6_inCell_8 cl_X6 rfl rfl (by decide) lk_X6_12 ?_
    refine go_sipush (pc := 11) (v := (224 : Int32)) dX6_inCell_11 (by decide) ?_
    refine go_iload_n (pc := 14) dX6_inCell_14 rfl rfl ?_
    refine go_iadd (pc := 15) dX6_inCell_15 ?_
    obtain ⟨v4, hv5, h⟩ := fm_bind h
    refine go_callVi (pc := 16) (As := [.int ((224 : Int32) + x1)]) (st := []) dX6_inCell_16 (c_X5_get (p := 1) (r := 2) rfl rfl _ _ hv5) (by decide) ce_X5_get ml_X6_137 in_X5_get se_X5_get cl_X5 rfl rfl (Nat.le_of_ble_eq_true rfl) rfl ?_
    refine go_goto (pc := 19) (tgt := 24) dX6_inCell_19 (by decide) ?_
    obtain rfl := Option.some.inj h
    exact go_iret (pc := 24) .int dX6_inCell_24 rfl rfl ⟨rfl, rfl⟩
def f_X6_entitled_L4 : Nat → Int32 → Int32 → fm_M → Option (Int32)
  | 0, _, _, _ => none
  | n + 1, y1, y2, m => if (16 : Int32) ≤ y2 then (some y1) else ((f_X5_isEntitled 1 2 y2 m).bind fun v2 => if v2 = true then (f_X6_entitled_L4 n (y1 ||| ((1 : Int32) <<< (y2 &&& 31))) (y2 + (1 : Int32)) m) else (f_X6_entitled_L4 n y1 (y2 + (1 : Int32)) m))
def f_X6_entitled (m : fm_M) : Option (Int32) :=
  f_X6_entitled_L4 fm_F (0 : Int32) (0 : Int32) m
set_option maxRecDepth 100000 in
set_option maxHeartbeats 4000000 in
theorem c_X6_entitled_L4 {X : List fm_L} : ∀ (n : Nat) (y1 : Int32) (y2 : Int32) (m : fm_M) (res : Int32), f_X6_entitled_L4 n y1 y2 m = some res → fm_Go (fm_layH ++ X) 2 m_X6_entitled (fm_pi res m) 4 [some (.ref 0), some (.int y1), some (.int y2)] [] m := by
  intro n
  induction n with
  | zero => intro y1 y2 m res h; cases h
  | succ n ih =>
    intro y1 y2 m res h
    rw [f_X6_entitled_L4] at h
    refine go_iload_n (pc := 4) dX6_entitled_4 rfl rfl ?_
    refine go_bipush (pc := 5) (v := (16 : Int32)) dX6_entitled_5 (by decide) ?_
    refine go_icmp_ge (pc := 7) (tgt := 33) dX6_entitled_7 (by decide) (fun c1 => ?_) (fun c1 => ?_)
    · rw [if_pos c1] at h
      refine go_iload_n (pc := 33) dX6_entitled_33 rfl rfl ?_
      obtain rfl := Option.some.inj h
      exact go_iret (pc := 34) .int dX6_entitled_34 rfl rfl ⟨rfl, rfl⟩
    · rw [if_neg c1] at h
      refine go_aload_n (pc := 10) dX6_entitled_10 rfl rfl ?_
      refine go_getR (pc := 11) (k := 0) (q2 := 1) dX6_entitled_11 cl_X6 rfl rfl (by decide) lk_X6_12 ?_
      refine go_iload_n (pc := 14) dX6_entitled_14 rfl rfl ?_
      obtain ⟨v2, hv3, h⟩ := fm_bind h
      refine go_callVi (pc := 15) (As := [.int y2]) (st := []) dX6_entitled_15 (c_X5_isEntitled (p := 1) (r := 2) rfl rfl _ _ hv3) (by decide) ce_X5_isEntitled ml_X6_140 in_X5_isEntitled se_X5_isEntitled cl_X5 rfl rfl (Nat.le_of_ble_eq_true rfl) rfl ?_
      refine go_ifb_eq (pc := 18) (tgt := 27) dX6_entitled_18 (by decide) (fun c4 => ?_) (fun c4 => ?_)
      · rw [if_neg (by rw [c4]; decide)] at h
        refine go_iinc (pc := 27) (v := (y2 + (1 : Int32))) (ls1 := [some (.ref 0), some (.int y1), some (.int (y2 + (1 : Int32)))]) dX6_entitled_27 rfl rfl (Nat.le_of_ble_eq_true rfl) rfl ?_
        refine go_goto (pc := 30) (tgt := 4) dX6_entitled_30 (by decide) ?_
        exact ih _ _ _ _ h
      · rw [if_pos c4] at h
        refine go_iload_n (pc := 21) dX6_entitled_21 rfl rfl ?_
        refine go_iconst (pc := 22) (v := (1 : Int32)) dX6_entitled_22 (by decide) ?_
        refine go_iload_n (pc := 23) dX6_entitled_23 rfl rfl ?_
        refine go_ishl (pc := 24) dX6_entitled_24 ?_
        refine go_ior (pc := 25) dX6_entitled_25 ?_
        refine go_istore_n (pc := 26) (ls1 := [some (.ref 0), some (.int (y1 ||| ((1 : Int32) <<< (y2 &&& 31)))), some (.int y2)]) dX6_entitled_26 rfl (by decide) rfl ?_
        refine go_iinc (pc := 27) (v := (y2 + (1 : Int32))) (ls1 := [some (.ref 0), some (.int (y1 ||| ((1 : Int32) <<< (y2 &&& 31)))), some (.int (y2 + (1 : Int32)))]) dX6_entitled_27 rfl rfl (Nat.le_of_ble_eq_true rfl) rfl ?_
        refine go_goto (pc := 30) (tgt := 4) dX6_entitled_30 (by decide) ?_
        exact ih _ _ _ _ h
set_option maxRecDepth 100000 in
set_option maxHeartbeats 4000000 in
theorem c_X6_entitled {X : List fm_L} (m : fm_M) {res : Int32} (h : f_X6_entitled  m = some res) : fm_Met (fm_layH ++ X) 2 m_X6_entitled [.ref 0] m (fm_pi res m) := by
  refine fm_Met_of (ls := [some (.ref 0), none, none]) (by decide) rfl (fm_cc_r _ fm_cc_0) (Nat.le_of_ble_eq_true rfl) rfl ?_
  unfold f_X6_entitled at h
  refine go_iconst (pc := 0) (v := (0 : Int32)) dX6_entitled_0 (by decide) ?_
  refine go_istore_n (pc := 1) (ls1 := [some (.ref 0), some (.int (0 : Int32)), none]) dX6_entitled_1 rfl (by decide) rfl ?_
  refine go_iconst (pc := 2) (v := (0 : Int32)) dX6_entitled_2 (by decide) ?_
  refine go_istore_n (pc := 3) (ls1 := [some (.ref 0), some (.int (0 : Int32)), some (.int (0 : Int32))]) dX6_entitled_3 rfl (by decide) rfl ?_
  exact c_X6_entitled_L4  fm_F _ _ _ _ h
def f_X6_entitledAgain_L4 : Nat → Int32 → Int32 → fm_M → Option (Int32)
  | 0, _, _, _ => none
  | n + 1, y1, y2, m => if (8 : Int32) ≤ y2 then (some y1) else ((f_X5_get 1 2 ((224 : Int32) + y2) m).bind fun v2 => (f_X5_isBrother 1 2 v2 m).bind fun v4 => if v4 = true then ((f_X5_of 1 2 (5 : Int32) v2 m).bind fun v7 => if v7 = 0 then (f_X6_entitledAgain_L4 n (y1 ||| ((1 : Int32) <<< (v2 &&& 31))) (y2 + (1 : Int32)) m) else (f_X6_entitledAgain_L4 n y1 (y2 + (1 : Int32)) m)) else (f_X6_entitledAgain_L4 n y1 (y2 + (1 : Int32)) m))
def f_X6_entitledAgain (m : fm_M) : Option (Int32) :=
  f_X6_entitledAgain_L4 fm_F (0 : Int32) (0 : Int32) m
set_option maxRecDepth 100000 in
set_option maxHeartbeats 4000000 in
theorem c_X6_entitledAgain_L4 {X : List fm_L} : ∀ (n : Nat) (y1 : Int32) (y2 : Int32) (m : fm_M) (res : Int32), f_X6_entitledAgain_L4 n y1 y2 m = some res → fm_Go (fm_layH ++ X) 2 m_X6_entitledAgain (fm_pi res m) 4 [some (.ref 0), some (.int y1), some (.int y2), none] [] m := by
  intro n
  induction n with
  | zero => intro y1 y2 m res h; cases h
  | succ n ih =>
    intro y1 y2 m res h
    rw [f_X6_entitledAgain_L4] at h
    refine go_iload_n (pc := 4) dX6_entitledAgain_4 rfl rfl ?_
    refine go_bipush (pc := 5) (v := (8 : Int32)) dX6_entitledAgain_5 (by decide) ?_
    refine go_icmp_ge (pc := 7) (tgt := 58) dX6_entitledAgain_7 (by decide) (fun c1 => ?_) (fun c1 => ?_)
    · rw [if_pos c1] at h
      refine go_iload_n (pc := 58) dX6_entitledAgain_58 rfl rfl ?_
      obtain rfl := Option.some.inj h
      exact go_iret (pc := 59) .int dX6_entitledAgain_59 rfl rfl ⟨rfl, rfl⟩
    · rw [if_neg c1] at h
      refine go_aload_n (pc := 10) dX6_entitledAgain_10 rfl rfl ?_
      refine go_getR (pc := 11) (k := 0) (q2 := 1) dX6_entitledAgain_11 cl_X6 rfl rfl (by decide) lk_X6_12 ?_
      refine go_sipush (pc := 14) (v := (224 : Int32)) dX6_entitledAgain_14 (by decide) ?_
      refine go_iload_n (pc := 17) dX6_entitledAgain_17 rfl rfl ?_
      refine go_iadd (pc := 18) dX6_entitledAgain_18 ?_
      obtain ⟨v2, hv3, h⟩ := fm_bind h
      refine go_callVi (pc := 19) (As := [.int ((224 : Int32) + y2)]) (st := []) dX6_entitledAgain_19 (c_X5_get (p := 1) (r := 2) rfl rfl _ _ hv3) (by decide) ce_X5_get ml_X6_137 in_X5_get se_X5_get cl_X5 rfl rfl (Nat.le_of_ble_eq_true rfl) rfl ?_
      refine go_istore_n (pc := 22) (ls1 := [some (.ref 0), some (.int y1), some (.int y2), some (.int v2)]) dX6_entitledAgain_22 rfl (by decide) rfl ?_
      refine go_aload_n (pc := 23) dX6_entitledAgain_23 rfl rfl ?_
      refine go_getR (pc := 24) (k := 0) (q2 := 1) dX6_entitledAgain_24 cl_X6 rfl rfl (by decide) lk_X6_12 ?_
      refine go_iload_n (pc := 27) dX6_entitledAgain_27 rfl rfl ?_
      obtain ⟨v4, hv5, h⟩ := fm_bind h
      refine go_callVi (pc := 28) (As := [.int v2]) (st := []) dX6_entitledAgain_28 (c_X5_isBrother (p := 1) (r := 2) rfl rfl _ _ hv5) (by decide) ce_X5_isBrother ml_X6_114 in_X5_isBrother se_X5_isBrother cl_X5 rfl rfl (Nat.le_of_ble_eq_true rfl) rfl ?_
      refine go_ifb_eq (pc := 31) (tgt := 52) dX6_entitledAgain_31 (by decide) (fun c6 => ?_) (fun c6 => ?_)
      · rw [if_neg (by rw [c6]; decide)] at h
        refine go_iinc (pc := 52) (v := (y2 + (1 : Int32))) (ls1 := [some (.ref 0), some (.int y1), some (.int (y2 + (1 : Int32))), some (.int v2)]) dX6_entitledAgain_52 rfl rfl (Nat.le_of_ble_eq_true rfl) rfl ?_
        refine go_goto (pc := 55) (tgt := 4) dX6_entitledAgain_55 (by decide) ?_
        refine go_drop 3 (ls1 := [some (.ref 0), some (.int y1), some (.int (y2 + (1 : Int32))), none]) rfl ?_
        exact ih _ _ _ _ h
      · rw [if_pos c6] at h
        refine go_aload_n (pc := 34) dX6_entitledAgain_34 rfl rfl ?_
        refine go_getR (pc := 35) (k := 0) (q2 := 1) dX6_entitledAgain_35 cl_X6 rfl rfl (by decide) lk_X6_12 ?_
        refine go_iconst (pc := 38) (v := (5 : Int32)) dX6_entitledAgain_38 (by decide) ?_
        refine go_iload_n (pc := 39) dX6_entitledAgain_39 rfl rfl ?_
        obtain ⟨v7, hv8, h⟩ := fm_bind h
        refine go_callVi (pc := 40) (As := [.int (5 : Int32), .int v2]) (st := []) dX6_entitledAgain_40 (c_X5_of (p := 1) (r := 2) rfl rfl _ _ _ hv8) (by decide) ce_X5_of ml_X6_118 in_X5_of se_X5_of cl_X5 rfl rfl (Nat.le_of_ble_eq_true rfl) rfl ?_
        refine go_if_ne (pc := 43) (tgt := 52) dX6_entitledAgain_43 (by decide) (fun c9 => ?_) (fun c9 => ?_)
        · rw [if_neg c9] at h
          refine go_iinc (pc := 52) (v := (y2 + (1 : Int32))) (ls1 := [some (.ref 0), some (.int y1), some (.int (y2 + (1 : Int32))), some (.int v2)]) dX6_entitledAgain_52 rfl rfl (Nat.le_of_ble_eq_true rfl) rfl ?_
          refine go_goto (pc := 55) (tgt := 4) dX6_entitledAgain_55 (by decide) ?_
          refine go_drop 3 (ls1 := [some (.ref 0), some (.int y1), some (.int (y2 + (1 : Int32))), none]) rfl ?_
          exact ih _ _ _ _ h
        · rw [if_pos c9] at h
          refine go_iload_n (pc := 46) dX6_entitledAgain_46 rfl rfl ?_
          refine go_iconst (pc := 47) (v := (1 : Int32)) dX6_entitledAgain_47 (by decide) ?_
          refine go_iload_n (pc := 48) dX6_entitledAgain_48 rfl rfl ?_
          refine go_ishl (pc := 49) dX6_entitledAgain_49 ?_
          refine go_ior (pc := 50) dX6_entitledAgain_50 ?_
          refine go_istore_n (pc := 51) (ls1 := [some (.ref 0), some (.int (y1 ||| ((1 : Int32) <<< (v2 &&& 31)))), some (.int y2), some (.int v2)]) dX6_entitledAgain_51 rfl (by decide) rfl ?_
          refine go_iinc (pc := 52) (v := (y2 + (1 : Int32))) (ls1 := [some (.ref 0), some (.int (y1 ||| ((1 : Int32) <<< (v2 &&& 31)))), some (.int (y2 + (1 : Int32))), some (.int v2)]) dX6_entitledAgain_52 rfl rfl (Nat.le_of_ble_eq_true rfl) rfl ?_
          refine go_goto (pc := 55) (tgt := 4) dX6_entitledAgain_55 (by decide) ?_
          refine go_drop 3 (ls1 := [some (.ref 0), some (.int (y1 ||| ((1 : Int32) <<< (v2 &&& 31)))), some (.int (y2 + (1 : Int32))), none]) rfl ?_
          exact ih _ _ _ _ h
set_option maxRecDepth 100000 in
set_option maxHeartbeats 4000000 in
theorem c_X6_entitledAgain {X : List fm_L} (m : fm_M) {res : Int32} (h : f_X6_entitledAgain  m = some res) : fm_Met (fm_layH ++ X) 2 m_X6_entitledAgain [.ref 0] m (fm_pi res m) := by
  refine fm_Met_of (ls := [some (.ref 0), none, none, none]) (by decide) rfl (fm_cc_r _ fm_cc_0) (Nat.le_of_ble_eq_true rfl) rfl ?_
  unfold f_X6_entitledAgain at h
  refine go_iconst (pc := 0) (v := (0 : Int32)) dX6_entitledAgain_0 (by decide) ?_
  refine go_istore_n (pc := 1) (ls1 := [some (.ref 0), some (.int (0 : Int32)), none, none]) dX6_entitledAgain_1 rfl (by decide) rfl ?_
  refine go_iconst (pc := 2) (v := (0 : Int32)) dX6_entitledAgain_2 (by decide) ?_
  refine go_istore_n (pc := 3) (ls1 := [some (.ref 0), some (.int (0 : Int32)), some (.int (0 : Int32)), none]) dX6_entitledAgain_3 rfl (by decide) rfl ?_
  exact c_X6_entitledAgain_L4  fm_F _ _ _ _ h
def f_X6_voices (x1 : Int32) (m : fm_M) : Option (Int32) :=
  (f_X5_isBrother 1 2 x1 m).bind fun v1 => if v1 = true then ((f_X5_voicesFor 1 2 x1 m).bind fun v4 => some v4) else (some (-11 : Int32))
set_option maxRecDepth 100000 in
set_option maxHeartbeats 4000000 in
theorem c_X6_voices {X : List fm_L} (x1 : Int32) (m : fm_M) {res : Int32} (h : f_X6_voices x1 m = some res) : fm_Met (fm_layH ++ X) 2 m_X6_voices [.ref 0, .int x1] m (fm_pi res m) := by
  refine fm_Met_of (ls := [some (.ref 0), some (.int x1)]) (by decide) rfl (fm_cc_r _ (fm_cc_i _ fm_cc_0)) (Nat.le_of_ble_eq_true rfl) rfl ?_
  unfold f_X6_voices at h
  refine go_aload_n (pc := 0) dX6_voices_0 rfl rfl ?_
  refine go_getR (pc := 1) (k := 0) (q2 := 1) dX6_voices_1 cl_X6 rfl rfl (by decide) lk_X6_12 ?_
  refine go_iload_n (pc := 4) dX6_voices_4 rfl rfl ?_
  obtain ⟨v1, hv2, h⟩ := fm_bind h
  refine go_callVi (pc := 5) (As := [.int x1]) (st := []) dX6_voices_5 (c_X5_isBrother (p := 1) (r := 2) rfl rfl _ _ hv2) (by decide) ce_X5_isBrother ml_X6_114 in_X5_isBrother se_X5_isBrother cl_X5 rfl rfl (Nat.le_of_ble_eq_true rfl) rfl ?_
  refine go_ifb_eq (pc := 8) (tgt := 22) dX6_voices_8 (by decide) (fun c3 => ?_) (fun c3 => ?_)
  · rw [if_neg (by rw [c3]; decide)] at h
    refine go_bipush (pc := 22) (v := (-11 : Int32)) dX6_voices_22 (by decide) ?_
    obtain rfl := Option.some.inj h
    exact go_iret (pc := 24) .int dX6_voices_24 rfl rfl ⟨rfl, rfl⟩
  · rw [if_pos c3] at h
    refine go_aload_n (pc := 11) dX6_voices_11 rfl rfl ?_
    refine go_getR (pc := 12) (k := 0) (q2 := 1) dX6_voices_12 cl_X6 rfl rfl (by decide) lk_X6_12 ?_
    refine go_iload_n (pc := 15) dX6_voices_15 rfl rfl ?_
    obtain ⟨v4, hv5, h⟩ := fm_bind h
    refine go_callVi (pc := 16) (As := [.int x1]) (st := []) dX6_voices_16 (c_X5_voicesFor (p := 1) (r := 2) rfl rfl _ _ hv5) (by decide) ce_X5_voicesFor ml_X6_143 in_X5_voicesFor se_X5_voicesFor cl_X5 rfl rfl (Nat.le_of_ble_eq_true rfl) rfl ?_
    refine go_goto (pc := 19) (tgt := 24) dX6_voices_19 (by decide) ?_
    obtain rfl := Option.some.inj h
    exact go_iret (pc := 24) .int dX6_voices_24 rfl rfl ⟨rfl, rfl⟩
def f_X6_tallyVoices_L26 : Nat → Int32 → fm_M → Option (fm_M)
  | 0, _, _ => none
  | n + 1, y1, m => if (8 : Int32) ≤ y1 then (some m) else ((f_X5_get 1 2 ((224 : Int32) + y1) m).bind fun v3 => (f_X5_isBrother 1 2 v3 m).bind fun v5 => if v5 = true then ((f_X5_of 1 2 (7 : Int32) v3 m).bind fun v9 => if v9 < 0 then (f_X6_tallyVoices_L26 n (y1 + (1 : Int32)) m) else (if (16 : Int32) ≤ v9 then (f_X6_tallyVoices_L26 n (y1 + (1 : Int32)) m) else (if fm_in v9 16 = true then ((f_X5_of 1 2 (1 : Int32) v9 m).bind fun v14 => if v14 = (1 : Int32) then (if fm_in v9 16 = true then (f_X6_tallyVoices_L26 n (y1 + (1 : Int32)) (fm_put m 22 v9.toNatClampNeg ((m 22 v9.toNatClampNeg) + (2 : Int32)))) else none) else (if fm_in v9 16 = true then (f_X6_tallyVoices_L26 n (y1 + (1 : Int32)) (fm_put m 22 v9.toNatClampNeg ((m 22 v9.toNatClampNeg) + (1 : Int32)))) else none)) else none))) else (f_X6_tallyVoices_L26 n (y1 + (1 : Int32)) m))
def f_X6_tallyVoices_L2 : Nat → Int32 → fm_M → Option (fm_M)
  | 0, _, _ => none
  | n + 1, y1, m => if (16 : Int32) ≤ y1 then (f_X6_tallyVoices_L26 fm_F (0 : Int32) m) else (if fm_in y1 16 = true then (f_X6_tallyVoices_L2 n (y1 + (1 : Int32)) (fm_put m 22 y1.toNatClampNeg (0 : Int32))) else none)
def f_X6_tallyVoices (m : fm_M) : Option (fm_M) :=
  f_X6_tallyVoices_L2 fm_F (0 : Int32) m
set_option maxRecDepth 100000 in
set_option maxHeartbeats 4000000 in
theorem c_X6_tallyVoices_L26 {X : List fm_L} : ∀ (n : Nat) (y1 : Int32) (m : fm_M) (res : fm_M), f_X6_tallyVoices_L26 n y1 m = some res → fm_Go (fm_layH ++ X) 2 m_X6_tallyVoices (fm_pv res) 26 [some (.ref 0), some (.int y1), none, none] [] m := by
  intro n
  induction n with
  | zero => intro y1 m res h; cases h
  | succ n ih =>
    intro y1 m res h
    rw [f_X6_tallyVoices_L26] at h
    refine go_iload_n (pc := 26) dX6_tallyVoices_26 rfl rfl ?_
    refine go_bipush (pc := 27) (v := (8 : Int32)) dX6_tallyVoices_27 (by decide) ?_
    refine go_icmp_ge (pc := 29) (tgt := 118) dX6_tallyVoices_29 (by decide) (fun c2 => ?_) (fun c2 => ?_)
    · rw [if_pos c2] at h
      obtain rfl := Option.some.inj h
      exact go_vret (pc := 118) dX6_tallyVoices_118 rfl ⟨rfl, rfl⟩
    · rw [if_neg c2] at h
      refine go_aload_n (pc := 32) dX6_tallyVoices_32 rfl rfl ?_
      refine go_getR (pc := 33) (k := 0) (q2 := 1) dX6_tallyVoices_33 cl_X6 rfl rfl (by decide) lk_X6_12 ?_
      refine go_sipush (pc := 36) (v := (224 : Int32)) dX6_tallyVoices_36 (by decide) ?_
      refine go_iload_n (pc := 39) dX6_tallyVoices_39 rfl rfl ?_
      refine go_iadd (pc := 40) dX6_tallyVoices_40 ?_
      obtain ⟨v3, hv4, h⟩ := fm_bind h
      refine go_callVi (pc := 41) (As := [.int ((224 : Int32) + y1)]) (st := []) dX6_tallyVoices_41 (c_X5_get (p := 1) (r := 2) rfl rfl _ _ hv4) (by decide) ce_X5_get ml_X6_137 in_X5_get se_X5_get cl_X5 rfl rfl (Nat.le_of_ble_eq_true rfl) rfl ?_
      refine go_istore_n (pc := 44) (ls1 := [some (.ref 0), some (.int y1), some (.int v3), none]) dX6_tallyVoices_44 rfl (by decide) rfl ?_
      refine go_aload_n (pc := 45) dX6_tallyVoices_45 rfl rfl ?_
      refine go_getR (pc := 46) (k := 0) (q2 := 1) dX6_tallyVoices_46 cl_X6 rfl rfl (by decide) lk_X6_12 ?_
      refine go_iload_n (pc := 49) dX6_tallyVoices_49 rfl rfl ?_
      obtain ⟨v5, hv6, h⟩ := fm_bind h
      refine go_callVi (pc := 50) (As := [.int v3]) (st := []) dX6_tallyVoices_50 (c_X5_isBrother (p := 1) (r := 2) rfl rfl _ _ hv6) (by decide) ce_X5_isBrother ml_X6_114 in_X5_isBrother se_X5_isBrother cl_X5 rfl rfl (Nat.le_of_ble_eq_true rfl) rfl ?_
      refine go_ifb_eq (pc := 53) (tgt := 69) dX6_tallyVoices_53 (by decide) (fun c7 => ?_) (fun c7 => ?_)
      · rw [if_neg (by rw [c7]; decide)] at h
        refine go_bipush (pc := 69) (v := (-15 : Int32)) dX6_tallyVoices_69 (by decide) ?_
        refine go_istore_n (pc := 71) (ls1 := [some (.ref 0), some (.int y1), some (.int v3), some (.int (-15 : Int32))]) dX6_tallyVoices_71 rfl (by decide) rfl ?_
        refine go_iload_n (pc := 72) dX6_tallyVoices_72 rfl rfl ?_
        refine go_if_lt (pc := 73) (tgt := 112) dX6_tallyVoices_73 (by decide) (fun _ => ?_) (fun c8 => absurd (by decide) c8)
        refine go_iinc (pc := 112) (v := (y1 + (1 : Int32))) (ls1 := [some (.ref 0), some (.int (y1 + (1 : Int32))), some (.int v3), some (.int (-15 : Int32))]) dX6_tallyVoices_112 rfl rfl (Nat.le_of_ble_eq_true rfl) rfl ?_
        refine go_goto (pc := 115) (tgt := 26) dX6_tallyVoices_115 (by decide) ?_
        refine go_drop 2 (ls1 := [some (.ref 0), some (.int (y1 + (1 : Int32))), none, some (.int (-15 : Int32))]) rfl ?_
        refine go_drop 3 (ls1 := [some (.ref 0), some (.int (y1 + (1 : Int32))), none, none]) rfl ?_
        exact ih _ _ _ h
      · rw [if_pos c7] at h
        refine go_aload_n (pc := 56) dX6_tallyVoices_56 rfl rfl ?_
        refine go_getR (pc := 57) (k := 0) (q2 := 1) dX6_tallyVoices_57 cl_X6 rfl rfl (by decide) lk_X6_12 ?_
        refine go_bipush (pc := 60) (v := (7 : Int32)) dX6_tallyVoices_60 (by decide) ?_
        refine go_iload_n (pc := 62) dX6_tallyVoices_62 rfl rfl ?_
        obtain ⟨v9, hv10, h⟩ := fm_bind h
        refine go_callVi (pc := 63) (As := [.int (7 : Int32), .int v3]) (st := []) dX6_tallyVoices_63 (c_X5_of (p := 1) (r := 2) rfl rfl _ _ _ hv10) (by decide) ce_X5_of ml_X6_118 in_X5_of se_X5_of cl_X5 rfl rfl (Nat.le_of_ble_eq_true rfl) rfl ?_
        refine go_goto (pc := 66) (tgt := 71) dX6_tallyVoices_66 (by decide) ?_
        refine go_istore_n (pc := 71) (ls1 := [some (.ref 0), some (.int y1), some (.int v3), some (.int v9)]) dX6_tallyVoices_71 rfl (by decide) rfl ?_
        refine go_iload_n (pc := 72) dX6_tallyVoices_72 rfl rfl ?_
        refine go_if_lt (pc := 73) (tgt := 112) dX6_tallyVoices_73 (by decide) (fun c11 => ?_) (fun c11 => ?_)
        · rw [if_pos c11] at h
          refine go_iinc (pc := 112) (v := (y1 + (1 : Int32))) (ls1 := [some (.ref 0), some (.int (y1 + (1 : Int32))), some (.int v3), some (.int v9)]) dX6_tallyVoices_112 rfl rfl (Nat.le_of_ble_eq_true rfl) rfl ?_
          refine go_goto (pc := 115) (tgt := 26) dX6_tallyVoices_115 (by decide) ?_
          refine go_drop 2 (ls1 := [some (.ref 0), some (.int (y1 + (1 : Int32))), none, some (.int v9)]) rfl ?_
          refine go_drop 3 (ls1 := [some (.ref 0), some (.int (y1 + (1 : Int32))), none, none]) rfl ?_
          exact ih _ _ _ h
        · rw [if_neg c11] at h
          refine go_iload_n (pc := 76) dX6_tallyVoices_76 rfl rfl ?_
          refine go_aload_n (pc := 77) dX6_tallyVoices_77 rfl rfl ?_
          refine go_getR (pc := 78) (k := 8) (q2 := 22) dX6_tallyVoices_78 cl_X6 rfl rfl (by decide) lk_X6_59 ?_
          refine go_alen (pc := 81) (v := (16 : Int32)) dX6_tallyVoices_81 rfl (by decide) ?_
          refine go_icmp_ge (pc := 82) (tgt := 112) dX6_tallyVoices_82 (by decide) (fun c12 => ?_) (fun c12 => ?_)
          · rw [if_pos c12] at h
            refine go_iinc (pc := 112) (v := (y1 + (1 : Int32))) (ls1 := [some (.ref 0), some (.int (y1 + (1 : Int32))), some (.int v3), some (.int v9)]) dX6_tallyVoices_112 rfl rfl (Nat.le_of_ble_eq_true rfl) rfl ?_
            refine go_goto (pc := 115) (tgt := 26) dX6_tallyVoices_115 (by decide) ?_
            refine go_drop 2 (ls1 := [some (.ref 0), some (.int (y1 + (1 : Int32))), none, some (.int v9)]) rfl ?_
            refine go_drop 3 (ls1 := [some (.ref 0), some (.int (y1 + (1 : Int32))), none, none]) rfl ?_
            exact ih _ _ _ h
          · rw [if_neg c12] at h
            refine go_aload_n (pc := 85) dX6_tallyVoices_85 rfl rfl ?_
            refine go_getR (pc := 86) (k := 8) (q2 := 22) dX6_tallyVoices_86 cl_X6 rfl rfl (by decide) lk_X6_59 ?_
            refine go_iload_n (pc := 89) dX6_tallyVoices_89 rfl rfl ?_
            refine go_dup2 (pc := 90) dX6_tallyVoices_90 rfl rfl ?_
            obtain ⟨hi13, h⟩ := fm_chk h
            refine go_iald (pc := 91) dX6_tallyVoices_91 rfl (fm_in_vp hi13) ?_
            refine go_aload_n (pc := 92) dX6_tallyVoices_92 rfl rfl ?_
            refine go_getR (pc := 93) (k := 0) (q2 := 1) dX6_tallyVoices_93 cl_X6 rfl rfl (by decide) lk_X6_12 ?_
            refine go_iconst (pc := 96) (v := (1 : Int32)) dX6_tallyVoices_96 (by decide) ?_
            refine go_iload_n (pc := 97) dX6_tallyVoices_97 rfl rfl ?_
            obtain ⟨v14, hv15, h⟩ := fm_bind h
            refine go_callVi (pc := 98) (As := [.int (1 : Int32), .int v9]) (st := [.int (m 22 v9.toNatClampNeg), .int v9, .ref 22]) dX6_tallyVoices_98 (c_X5_of (p := 1) (r := 2) rfl rfl _ _ _ hv15) (by decide) ce_X5_of ml_X6_118 in_X5_of se_X5_of cl_X5 rfl rfl (Nat.le_of_ble_eq_true rfl) rfl ?_
            refine go_iconst (pc := 101) (v := (1 : Int32)) dX6_tallyVoices_101 (by decide) ?_
            refine go_icmp_ne (pc := 102) (tgt := 109) dX6_tallyVoices_102 (by decide) (fun c16 => ?_) (fun c16 => ?_)
            · rw [if_neg c16] at h
              refine go_iconst (pc := 109) (v := (1 : Int32)) dX6_tallyVoices_109 (by decide) ?_
              refine go_iadd (pc := 110) dX6_tallyVoices_110 ?_
              obtain ⟨hi17, h⟩ := fm_chk h
              refine go_iast (pc := 111) dX6_tallyVoices_111 rfl (fm_in_vp hi17) ?_
              refine go_iinc (pc := 112) (v := (y1 + (1 : Int32))) (ls1 := [some (.ref 0), some (.int (y1 + (1 : Int32))), some (.int v3), some (.int v9)]) dX6_tallyVoices_112 rfl rfl (Nat.le_of_ble_eq_true rfl) rfl ?_
              refine go_goto (pc := 115) (tgt := 26) dX6_tallyVoices_115 (by decide) ?_
              refine go_drop 2 (ls1 := [some (.ref 0), some (.int (y1 + (1 : Int32))), none, some (.int v9)]) rfl ?_
              refine go_drop 3 (ls1 := [some (.ref 0), some (.int (y1 + (1 : Int32))), none, none]) rfl ?_
              exact ih _ _ _ h
            · rw [if_pos c16] at h
              refine go_iconst (pc := 105) (v := (2 : Int32)) dX6_tallyVoices_105 (by decide) ?_
              refine go_goto (pc := 106) (tgt := 110) dX6_tallyVoices_106 (by decide) ?_
              refine go_iadd (pc := 110) dX6_tallyVoices_110 ?_
              obtain ⟨hi18, h⟩ := fm_chk h
              refine go_iast (pc := 111) dX6_tallyVoices_111 rfl (fm_in_vp hi18) ?_
              refine go_iinc (pc := 112) (v := (y1 + (1 : Int32))) (ls1 := [some (.ref 0), some (.int (y1 + (1 : Int32))), some (.int v3), some (.int v9)]) dX6_tallyVoices_112 rfl rfl (Nat.le_of_ble_eq_true rfl) rfl ?_
              refine go_goto (pc := 115) (tgt := 26) dX6_tallyVoices_115 (by decide) ?_
              refine go_drop 2 (ls1 := [some (.ref 0), some (.int (y1 + (1 : Int32))), none, some (.int v9)]) rfl ?_
              refine go_drop 3 (ls1 := [some (.ref 0), some (.int (y1 + (1 : Int32))), none, none]) rfl ?_
              exact ih _ _ _ h
set_option maxRecDepth 100000 in
set_option maxHeartbeats 4000000 in
theorem c_X6_tallyVoices_L2 {X : List fm_L} : ∀ (n : Nat) (y1 : Int32) (m : fm_M) (res : fm_M), f_X6_tallyVoices_L2 n y1 m = some res → fm_Go (fm_layH ++ X) 2 m_X6_tallyVoices (fm_pv res) 2 [some (.ref 0), some (.int y1), none, none] [] m := by
  intro n
  induction n with
  | zero => intro y1 m res h; cases h
  | succ n ih =>
    intro y1 m res h
    rw [f_X6_tallyVoices_L2] at h
    refine go_iload_n (pc := 2) dX6_tallyVoices_2 rfl rfl ?_
    refine go_aload_n (pc := 3) dX6_tallyVoices_3 rfl rfl ?_
    refine go_getR (pc := 4) (k := 8) (q2 := 22) dX6_tallyVoices_4 cl_X6 rfl rfl (by decide) lk_X6_59 ?_
    refine go_alen (pc := 7) (v := (16 : Int32)) dX6_tallyVoices_7 rfl (by decide) ?_
    refine go_icmp_ge (pc := 8) (tgt := 24) dX6_tallyVoices_8 (by decide) (fun c1 => ?_) (fun c1 => ?_)
    · rw [if_pos c1] at h
      refine go_iconst (pc := 24) (v := (0 : Int32)) dX6_tallyVoices_24 (by decide) ?_
      refine go_istore_n (pc := 25) (ls1 := [some (.ref 0), some (.int (0 : Int32)), none, none]) dX6_tallyVoices_25 rfl (by decide) rfl ?_
      exact c_X6_tallyVoices_L26  fm_F _ _ _ h
    · rw [if_neg c1] at h
      refine go_aload_n (pc := 11) dX6_tallyVoices_11 rfl rfl ?_
      refine go_getR (pc := 12) (k := 8) (q2 := 22) dX6_tallyVoices_12 cl_X6 rfl rfl (by decide) lk_X6_59 ?_
      refine go_iload_n (pc := 15) dX6_tallyVoices_15 rfl rfl ?_
      refine go_iconst (pc := 16) (v := (0 : Int32)) dX6_tallyVoices_16 (by decide) ?_
      obtain ⟨hi19, h⟩ := fm_chk h
      refine go_iast (pc := 17) dX6_tallyVoices_17 rfl (fm_in_vp hi19) ?_
      refine go_iinc (pc := 18) (v := (y1 + (1 : Int32))) (ls1 := [some (.ref 0), some (.int (y1 + (1 : Int32))), none, none]) dX6_tallyVoices_18 rfl rfl (Nat.le_of_ble_eq_true rfl) rfl ?_
      refine go_goto (pc := 21) (tgt := 2) dX6_tallyVoices_21 (by decide) ?_
      exact ih _ _ _ h
set_option maxRecDepth 100000 in
set_option maxHeartbeats 4000000 in
theorem c_X6_tallyVoices {X : List fm_L} (m : fm_M) {res : fm_M} (h : f_X6_tallyVoices  m = some res) : fm_Met (fm_layH ++ X) 2 m_X6_tallyVoices [.ref 0] m (fm_pv res) := by
  refine fm_Met_of (ls := [some (.ref 0), none, none, none]) (by decide) rfl (fm_cc_r _ fm_cc_0) (Nat.le_of_ble_eq_true rfl) rfl ?_
  unfold f_X6_tallyVoices at h
  refine go_iconst (pc := 0) (v := (0 : Int32)) dX6_tallyVoices_0 (by decide) ?_
  refine go_istore_n (pc := 1) (ls1 := [some (.ref 0), some (.int (0 : Int32)), none, none]) dX6_tallyVoices_1 rfl (by decide) rfl ?_
  exact c_X6_tallyVoices_L2  fm_F _ _ _ h
def f_X6_voicesAgain (x1 : Int32) (m : fm_M) : Option (Int32 × fm_M) :=
  (f_X5_isBrother 1 2 x1 m).bind fun v1 => if v1 = true then ((f_X6_tallyVoices m).bind fun v4 => if x1 < 0 then (some ((0 : Int32), v4)) else (if (16 : Int32) ≤ x1 then (some ((0 : Int32), v4)) else (if fm_in x1 16 = true then (some ((v4 22 x1.toNatClampNeg), v4)) else none))) else (some ((-11 : Int32), m))
set_option maxRecDepth 100000 in
set_option maxHeartbeats 4000000 in
theorem c_X6_voicesAgain {X : List fm_L} (x1 : Int32) (m : fm_M) {res : Int32 × fm_M} (h : f_X6_voicesAgain x1 m = some res) : fm_Met (fm_layH ++ X) 3 m_X6_voicesAgain [.ref 0, .int x1] m (fm_pi res.1 res.2) := by
  refine fm_Met_of (ls := [some (.ref 0), some (.int x1)]) (by decide) rfl (fm_cc_r _ (fm_cc_i _ fm_cc_0)) (Nat.le_of_ble_eq_true rfl) rfl ?_
  unfold f_X6_voicesAgain at h
  refine go_aload_n (pc := 0) dX6_voicesAgain_0 rfl rfl ?_
  refine go_getR (pc := 1) (k := 0) (q2 := 1) dX6_voicesAgain_1 cl_X6 rfl rfl (by decide) lk_X6_12 ?_
  refine go_iload_n (pc := 4) dX6_voicesAgain_4 rfl rfl ?_
  obtain ⟨v1, hv2, h⟩ := fm_bind h
  refine go_callVi (pc := 5) (As := [.int x1]) (st := []) dX6_voicesAgain_5 (c_X5_isBrother (p := 1) (r := 2) rfl rfl _ _ hv2) (by decide) ce_X5_isBrother ml_X6_114 in_X5_isBrother se_X5_isBrother cl_X5 rfl rfl (Nat.le_of_ble_eq_true rfl) rfl ?_
  refine go_ifb_ne (pc := 8) (tgt := 14) dX6_voicesAgain_8 (by decide) (fun c3 => ?_) (fun c3 => ?_)
  · rw [if_pos c3] at h
    refine go_aload_n (pc := 14) dX6_voicesAgain_14 rfl rfl ?_
    obtain ⟨v4, hv5, h⟩ := fm_bind h
    refine go_callVv (pc := 15) (As := []) (st := []) dX6_voicesAgain_15 (c_X6_tallyVoices   _ hv5) (by decide) ce_X6_tallyVoices ml_X6_146 in_X6_tallyVoices se_X6_tallyVoices cl_X6 rfl rfl (Nat.le_of_ble_eq_true rfl) rfl ?_
    refine go_iload_n (pc := 18) dX6_voicesAgain_18 rfl rfl ?_
    refine go_if_lt (pc := 19) (tgt := 40) dX6_voicesAgain_19 (by decide) (fun c6 => ?_) (fun c6 => ?_)
    · rw [if_pos c6] at h
      refine go_iconst (pc := 40) (v := (0 : Int32)) dX6_voicesAgain_40 (by decide) ?_
      obtain rfl := Option.some.inj h
      exact go_iret (pc := 41) .int dX6_voicesAgain_41 rfl rfl ⟨rfl, rfl⟩
    · rw [if_neg c6] at h
      refine go_iload_n (pc := 22) dX6_voicesAgain_22 rfl rfl ?_
      refine go_aload_n (pc := 23) dX6_voicesAgain_23 rfl rfl ?_
      refine go_getR (pc := 24) (k := 8) (q2 := 22) dX6_voicesAgain_24 cl_X6 rfl rfl (by decide) lk_X6_59 ?_
      refine go_alen (pc := 27) (v := (16 : Int32)) dX6_voicesAgain_27 rfl (by decide) ?_
      refine go_icmp_ge (pc := 28) (tgt := 40) dX6_voicesAgain_28 (by decide) (fun c7 => ?_) (fun c7 => ?_)
      · rw [if_pos c7] at h
        refine go_iconst (pc := 40) (v := (0 : Int32)) dX6_voicesAgain_40 (by decide) ?_
        obtain rfl := Option.some.inj h
        exact go_iret (pc := 41) .int dX6_voicesAgain_41 rfl rfl ⟨rfl, rfl⟩
      · rw [if_neg c7] at h
        refine go_aload_n (pc := 31) dX6_voicesAgain_31 rfl rfl ?_
        refine go_getR (pc := 32) (k := 8) (q2 := 22) dX6_voicesAgain_32 cl_X6 rfl rfl (by decide) lk_X6_59 ?_
        refine go_iload_n (pc := 35) dX6_voicesAgain_35 rfl rfl ?_
        obtain ⟨hi8, h⟩ := fm_chk h
        refine go_iald (pc := 36) dX6_voicesAgain_36 rfl (fm_in_vp hi8) ?_
        refine go_goto (pc := 37) (tgt := 41) dX6_voicesAgain_37 (by decide) ?_
        obtain rfl := Option.some.inj h
        exact go_iret (pc := 41) .int dX6_voicesAgain_41 rfl rfl ⟨rfl, rfl⟩
  · rw [if_neg (by rw [c3]; decide)] at h
    refine go_bipush (pc := 11) (v := (-11 : Int32)) dX6_voicesAgain_11 (by decide) ?_
    obtain rfl := Option.some.inj h
    exact go_iret (pc := 13) .int dX6_voicesAgain_13 rfl rfl ⟨rfl, rfl⟩
def f_X6_ranked (x1 : Int32) (m : fm_M) : Option (Int32 × fm_M) :=
  (f_X3_byVoices 10 11 1 2 x1 m).bind fun v1 => some (v1.1, v1.2)
set_option maxRecDepth 100000 in
set_option maxHeartbeats 4000000 in
theorem c_X6_ranked {X : List fm_L} (x1 : Int32) (m : fm_M) {res : Int32 × fm_M} (h : f_X6_ranked x1 m = some res) : fm_Met (fm_layH ++ X) 3 m_X6_ranked [.ref 0, .int x1] m (fm_pi res.1 res.2) := by
  refine fm_Met_of (ls := [some (.ref 0), some (.int x1)]) (by decide) rfl (fm_cc_r _ (fm_cc_i _ fm_cc_0)) (Nat.le_of_ble_eq_true rfl) rfl ?_
  unfold f_X6_ranked at h
  refine go_aload_n (pc := 0) dX6_ranked_0 rfl rfl ?_
  refine go_getR (pc := 1) (k := 3) (q2 := 10) dX6_ranked_1 cl_X6 rfl rfl (by decide) lk_X6_29 ?_
  refine go_aload_n (pc := 4) dX6_ranked_4 rfl rfl ?_
  refine go_getR (pc := 5) (k := 0) (q2 := 1) dX6_ranked_5 cl_X6 rfl rfl (by decide) lk_X6_12 ?_
  refine go_iload_n (pc := 8) dX6_ranked_8 rfl rfl ?_
  obtain ⟨v1, hv2, h⟩ := fm_bind h
  refine go_callVi (pc := 9) (As := [.ref 1, .int x1]) (st := []) dX6_ranked_9 (c_X3_byVoices (p := 10) (r := 11) (p2 := 1) (r2 := 2) rfl rfl rfl rfl _ _ hv2) (by decide) ce_X3_byVoices ml_X6_149 in_X3_byVoices se_X3_byVoices cl_X3 rfl rfl (Nat.le_of_ble_eq_true rfl) rfl ?_
  obtain rfl := Option.some.inj h
  exact go_iret (pc := 12) .int dX6_ranked_12 rfl rfl ⟨rfl, rfl⟩
def f_X6_senior (x1 : Int32) (m : fm_M) : Option (Int32 × fm_M) :=
  (f_X3_byTime 10 11 1 2 x1 m).bind fun v1 => some (v1.1, v1.2)
set_option maxRecDepth 100000 in
set_option maxHeartbeats 4000000 in
theorem c_X6_senior {X : List fm_L} (x1 : Int32) (m : fm_M) {res : Int32 × fm_M} (h : f_X6_senior x1 m = some res) : fm_Met (fm_layH ++ X) 2 m_X6_senior [.ref 0, .int x1] m (fm_pi res.1 res.2) := by
  refine fm_Met_of (ls := [some (.ref 0), some (.int x1)]) (by decide) rfl (fm_cc_r _ (fm_cc_i _ fm_cc_0)) (Nat.le_of_ble_eq_true rfl) rfl ?_
  unfold f_X6_senior at h
  refine go_aload_n (pc := 0) dX6_senior_0 rfl rfl ?_
  refine go_getR (pc := 1) (k := 3) (q2 := 10) dX6_senior_1 cl_X6 rfl rfl (by decide) lk_X6_29 ?_
  refine go_aload_n (pc := 4) dX6_senior_4 rfl rfl ?_
  refine go_getR (pc := 5) (k := 0) (q2 := 1) dX6_senior_5 cl_X6 rfl rfl (by decide) lk_X6_12 ?_
  refine go_iload_n (pc := 8) dX6_senior_8 rfl rfl ?_
  obtain ⟨v1, hv2, h⟩ := fm_bind h
  refine go_callVi (pc := 9) (As := [.ref 1, .int x1]) (st := []) dX6_senior_9 (c_X3_byTime (p := 10) (r := 11) (p2 := 1) (r2 := 2) rfl rfl rfl rfl _ _ hv2) (by decide) ce_X3_byTime ml_X6_153 in_X3_byTime se_X3_byTime cl_X3 rfl rfl (Nat.le_of_ble_eq_true rfl) rfl ?_
  obtain rfl := Option.some.inj h
  exact go_iret (pc := 12) .int dX6_senior_12 rfl rfl ⟨rfl, rfl⟩
def f_X6_shabby (x1 : Int32) (m : fm_M) : Option (Int32 × fm_M) :=
  (f_X3_byGown 10 11 1 2 x1 m).bind fun v1 => some (v1.1, v1.2)
set_option maxRecDepth 100000 in
set_option maxHeartbeats 4000000 in
theorem c_X6_shabby {X : List fm_L} (x1 : Int32) (m : fm_M) {res : Int32 × fm_M} (h : f_X6_shabby x1 m = some res) : fm_Met (fm_layH ++ X) 2 m_X6_shabby [.ref 0, .int x1] m (fm_pi res.1 res.2) := by
  refine fm_Met_of (ls := [some (.ref 0), some (.int x1)]) (by decide) rfl (fm_cc_r _ (fm_cc_i _ fm_cc_0)) (Nat.le_of_ble_eq_true rfl) rfl ?_
  unfold f_X6_shabby at h
  refine go_aload_n (pc := 0) dX6_shabby_0 rfl rfl ?_
  refine go_getR (pc := 1) (k := 3) (q2 := 10) dX6_shabby_1 cl_X6 rfl rfl (by decide) lk_X6_29 ?_
  refine go_aload_n (pc := 4) dX6_shabby_4 rfl rfl ?_
  refine go_getR (pc := 5) (k := 0) (q2 := 1) dX6_shabby_5 cl_X6 rfl rfl (by decide) lk_X6_12 ?_
  refine go_iload_n (pc := 8) dX6_shabby_8 rfl rfl ?_
  obtain ⟨v1, hv2, h⟩ := fm_bind h
  refine go_callVi (pc := 9) (As := [.ref 1, .int x1]) (st := []) dX6_shabby_9 (c_X3_byGown (p := 10) (r := 11) (p2 := 1) (r2 := 2) rfl rfl rfl rfl _ _ hv2) (by decide) ce_X3_byGown ml_X6_156 in_X3_byGown se_X3_byGown cl_X3 rfl rfl (Nat.le_of_ble_eq_true rfl) rfl ?_
  obtain rfl := Option.some.inj h
  exact go_iret (pc := 12) .int dX6_shabby_12 rfl rfl ⟨rfl, rfl⟩
def f_X6_nextFeast_L2 : Nat → Int32 → fm_M → Option (Int32)
  | 0, _, _ => none
  | n + 1, y1, m => if (52 : Int32) ≤ y1 then (some (-15 : Int32)) else ((f_X5_get 1 2 (287 : Int32) m).bind fun v2 => (f_X5_pittanceIn 1 2 ((v2 + y1) - (v2 + y1) / (52 : Int32) * (52 : Int32)) m).bind fun v4 => if v4 ≤ 0 then (f_X6_nextFeast_L2 n (y1 + (1 : Int32)) m) else (some y1))
def f_X6_nextFeast (m : fm_M) : Option (Int32) :=
  f_X6_nextFeast_L2 fm_F (0 : Int32) m
set_option maxRecDepth 100000 in
set_option maxHeartbeats 4000000 in
theorem c_X6_nextFeast_L2 {X : List fm_L} : ∀ (n : Nat) (y1 : Int32) (m : fm_M) (res : Int32), f_X6_nextFeast_L2 n y1 m = some res → fm_Go (fm_layH ++ X) 2 m_X6_nextFeast (fm_pi res m) 2 [some (.ref 0), some (.int y1)] [] m := by
  intro n
  induction n with
  | zero => intro y1 m res h; cases h
  | succ n ih =>
    intro y1 m res h
    rw [f_X6_nextFeast_L2] at h
    refine go_iload_n (pc := 2) dX6_nextFeast_2 rfl rfl ?_
    refine go_bipush (pc := 3) (v := (52 : Int32)) dX6_nextFeast_3 (by decide) ?_
    refine go_icmp_ge (pc := 5) (tgt := 41) dX6_nextFeast_5 (by decide) (fun c1 => ?_) (fun c1 => ?_)
    · rw [if_pos c1] at h
      refine go_bipush (pc := 41) (v := (-15 : Int32)) dX6_nextFeast_41 (by decide) ?_
      obtain rfl := Option.some.inj h
      exact go_iret (pc := 43) .int dX6_nextFeast_43 rfl rfl ⟨rfl, rfl⟩
    · rw [if_neg c1] at h
      refine go_aload_n (pc := 8) dX6_nextFeast_8 rfl rfl ?_
      refine go_getR (pc := 9) (k := 0) (q2 := 1) dX6_nextFeast_9 cl_X6 rfl rfl (by decide) lk_X6_12 ?_
      refine go_aload_n (pc := 12) dX6_nextFeast_12 rfl rfl ?_
      refine go_getR (pc := 13) (k := 0) (q2 := 1) dX6_nextFeast_13 cl_X6 rfl rfl (by decide) lk_X6_12 ?_
      refine go_sipush (pc := 16) (v := (287 : Int32)) dX6_nextFeast_16 (by decide) ?_
      obtain ⟨v2, hv3, h⟩ := fm_bind h
      refine go_callVi (pc := 19) (As := [.int (287 : Int32)]) (st := [.ref 1]) dX6_nextFeast_19 (c_X5_get (p := 1) (r := 2) rfl rfl _ _ hv3) (by decide) ce_X5_get ml_X6_137 in_X5_get se_X5_get cl_X5 rfl rfl (Nat.le_of_ble_eq_true rfl) rfl ?_
      refine go_iload_n (pc := 22) dX6_nextFeast_22 rfl rfl ?_
      refine go_iadd (pc := 23) dX6_nextFeast_23 ?_
      refine go_bipush (pc := 24) (v := (52 : Int32)) dX6_nextFeast_24 (by decide) ?_
      refine go_irem (pc := 26) dX6_nextFeast_26 (by decide) ?_
      obtain ⟨v4, hv5, h⟩ := fm_bind h
      refine go_callVi (pc := 27) (As := [.int ((v2 + y1) - (v2 + y1) / (52 : Int32) * (52 : Int32))]) (st := []) dX6_nextFeast_27 (c_X5_pittanceIn (p := 1) (r := 2) rfl rfl _ _ hv5) (by decide) ce_X5_pittanceIn ml_X6_159 in_X5_pittanceIn se_X5_pittanceIn cl_X5 rfl rfl (Nat.le_of_ble_eq_true rfl) rfl ?_
      refine go_if_le (pc := 30) (tgt := 35) dX6_nextFeast_30 (by decide) (fun c6 => ?_) (fun c6 => ?_)
      · rw [if_pos c6] at h
        refine go_iinc (pc := 35) (v := (y1 + (1 : Int32))) (ls1 := [some (.ref 0), some (.int (y1 + (1 : Int32)))]) dX6_nextFeast_35 rfl rfl (Nat.le_of_ble_eq_true rfl) rfl ?_
        refine go_goto (pc := 38) (tgt := 2) dX6_nextFeast_38 (by decide) ?_
        exact ih _ _ _ h
      · rw [if_neg c6] at h
        refine go_iload_n (pc := 33) dX6_nextFeast_33 rfl rfl ?_
        obtain rfl := Option.some.inj h
        exact go_iret (pc := 34) .int dX6_nextFeast_34 rfl rfl ⟨rfl, rfl⟩
set_option maxRecDepth 100000 in
set_option maxHeartbeats 4000000 in
theorem c_X6_nextFeast {X : List fm_L} (m : fm_M) {res : Int32} (h : f_X6_nextFeast  m = some res) : fm_Met (fm_layH ++ X) 2 m_X6_nextFeast [.ref 0] m (fm_pi res m) := by
  refine fm_Met_of (ls := [some (.ref 0), none]) (by decide) rfl (fm_cc_r _ fm_cc_0) (Nat.le_of_ble_eq_true rfl) rfl ?_
  unfold f_X6_nextFeast at h
  refine go_iconst (pc := 0) (v := (0 : Int32)) dX6_nextFeast_0 (by decide) ?_
  refine go_istore_n (pc := 1) (ls1 := [some (.ref 0), some (.int (0 : Int32))]) dX6_nextFeast_1 rfl (by decide) rfl ?_
  exact c_X6_nextFeast_L2  fm_F _ _ _ h
def f_X6_wouldGet (x1 : Int32) (x2 : Int32) (m : fm_M) : Option (Int32 × fm_M) :=
  (f_X5_isBrother 1 2 x1 m).bind fun v1 => if v1 = true then (if x2 < 0 then (some ((-12 : Int32), m)) else (if x2 ≤ (60 : Int32) then ((f_X6_onTrial m).bind fun v6 => (f_X0_after x2 v6).bind fun v8 => (f_X5_of 6 7 (6 : Int32) x1 v8).bind fun v10 => (f_X5_of 1 2 (6 : Int32) x1 v8).bind fun v12 => some ((v10 - v12), v8)) else (some ((-12 : Int32), m)))) else (some ((-11 : Int32), m))
set_option maxRecDepth 100000 in
set_option maxHeartbeats 4000000 in
theorem c_X6_wouldGet {X : List fm_L} (x1 : Int32) (x2 : Int32) (m : fm_M) {res : Int32 × fm_M} (h : f_X6_wouldGet x1 x2 m = some res) : fm_Met (fm_layH ++ X) 5 m_X6_wouldGet [.ref 0, .int x1, .int x2] m (fm_pi res.1 res.2) := by
  refine fm_Met_of (ls := [some (.ref 0), some (.int x1), some (.int x2)]) (by decide) rfl (fm_cc_r _ (fm_cc_i _ (fm_cc_i _ fm_cc_0))) (Nat.le_of_ble_eq_true rfl) rfl ?_
  unfold f_X6_wouldGet at h
  refine go_aload_n (pc := 0) dX6_wouldGet_0 rfl rfl ?_
  refine go_getR (pc := 1) (k := 0) (q2 := 1) dX6_wouldGet_1 cl_X6 rfl rfl (by decide) lk_X6_12 ?_
  refine go_iload_n (pc := 4) dX6_wouldGet_4 rfl rfl ?_
  obtain ⟨v1, hv2, h⟩ := fm_bind h
  refine go_callVi (pc := 5) (As := [.int x1]) (st := []) dX6_wouldGet_5 (c_X5_isBrother (p := 1) (r := 2) rfl rfl _ _ hv2) (by decide) ce_X5_isBrother ml_X6_114 in_X5_isBrother se_X5_isBrother cl_X5 rfl rfl (Nat.le_of_ble_eq_true rfl) rfl ?_
  refine go_ifb_ne (pc := 8) (tgt := 14) dX6_wouldGet_8 (by decide) (fun c3 => ?_) (fun c3 => ?_)
  · rw [if_pos c3] at h
    refine go_iload_n (pc := 14) dX6_wouldGet_14 rfl rfl ?_
    refine go_if_lt (pc := 15) (tgt := 24) dX6_wouldGet_15 (by decide) (fun c4 => ?_) (fun c4 => ?_)
    · rw [if_pos c4] at h
      refine go_bipush (pc := 24) (v := (-12 : Int32)) dX6_wouldGet_24 (by decide) ?_
      obtain rfl := Option.some.inj h
      exact go_iret (pc := 26) .int dX6_wouldGet_26 rfl rfl ⟨rfl, rfl⟩
    · rw [if_neg c4] at h
      refine go_iload_n (pc := 18) dX6_wouldGet_18 rfl rfl ?_
      refine go_bipush (pc := 19) (v := (60 : Int32)) dX6_wouldGet_19 (by decide) ?_
      refine go_icmp_le (pc := 21) (tgt := 27) dX6_wouldGet_21 (by decide) (fun c5 => ?_) (fun c5 => ?_)
      · rw [if_pos c5] at h
        refine go_aload_n (pc := 27) dX6_wouldGet_27 rfl rfl ?_
        obtain ⟨v6, hv7, h⟩ := fm_bind h
        refine go_callVr (pc := 28) (As := []) (st := []) dX6_wouldGet_28 (c_X6_onTrial   _ hv7) (by decide) ce_X6_onTrial ml_X6_74 in_X6_onTrial se_X6_onTrial cl_X6 rfl rfl (Nat.le_of_ble_eq_true rfl) rfl ?_
        refine go_iload_n (pc := 31) dX6_wouldGet_31 rfl rfl ?_
        obtain ⟨v8, hv9, h⟩ := fm_bind h
        refine go_callVr (pc := 32) (As := [.int x2]) (st := []) dX6_wouldGet_32 (c_X0_after   _ _ hv9) (by decide) ce_X0_after ml_X6_162 in_X0_after se_X0_after cl_X0 rfl rfl (Nat.le_of_ble_eq_true rfl) rfl ?_
        refine go_bipush (pc := 35) (v := (6 : Int32)) dX6_wouldGet_35 (by decide) ?_
        refine go_iload_n (pc := 37) dX6_wouldGet_37 rfl rfl ?_
        obtain ⟨v10, hv11, h⟩ := fm_bind h
        refine go_callVi (pc := 38) (As := [.int (6 : Int32), .int x1]) (st := []) dX6_wouldGet_38 (c_X5_of (p := 6) (r := 7) rfl rfl _ _ _ hv11) (by decide) ce_X5_of ml_X6_118 in_X5_of se_X5_of cl_X5 rfl rfl (Nat.le_of_ble_eq_true rfl) rfl ?_
        refine go_aload_n (pc := 41) dX6_wouldGet_41 rfl rfl ?_
        refine go_getR (pc := 42) (k := 0) (q2 := 1) dX6_wouldGet_42 cl_X6 rfl rfl (by decide) lk_X6_12 ?_
        refine go_bipush (pc := 45) (v := (6 : Int32)) dX6_wouldGet_45 (by decide) ?_
        refine go_iload_n (pc := 47) dX6_wouldGet_47 rfl rfl ?_
        obtain ⟨v12, hv13, h⟩ := fm_bind h
        refine go_callVi (pc := 48) (As := [.int (6 : Int32), .int x1]) (st := [.int v10]) dX6_wouldGet_48 (c_X5_of (p := 1) (r := 2) rfl rfl _ _ _ hv13) (by decide) ce_X5_of ml_X6_118 in_X5_of se_X5_of cl_X5 rfl rfl (Nat.le_of_ble_eq_true rfl) rfl ?_
        refine go_isub (pc := 51) dX6_wouldGet_51 ?_
        obtain rfl := Option.some.inj h
        exact go_iret (pc := 52) .int dX6_wouldGet_52 rfl rfl ⟨rfl, rfl⟩
      · rw [if_neg c5] at h
        refine go_bipush (pc := 24) (v := (-12 : Int32)) dX6_wouldGet_24 (by decide) ?_
        obtain rfl := Option.some.inj h
        exact go_iret (pc := 26) .int dX6_wouldGet_26 rfl rfl ⟨rfl, rfl⟩
  · rw [if_neg (by rw [c3]; decide)] at h
    refine go_bipush (pc := 11) (v := (-11 : Int32)) dX6_wouldGet_11 (by decide) ?_
    obtain rfl := Option.some.inj h
    exact go_iret (pc := 13) .int dX6_wouldGet_13 rfl rfl ⟨rfl, rfl⟩
def f_X6_chestIn (x1 : Int32) (m : fm_M) : Option (Int32 × fm_M) :=
  if x1 < 0 then (some ((-12 : Int32), m)) else (if x1 ≤ (60 : Int32) then ((f_X6_onTrial m).bind fun v3 => (f_X0_after x1 v3).bind fun v5 => (f_X5_get 6 7 (288 : Int32) v5).bind fun v7 => some (v7, v5)) else (some ((-12 : Int32), m)))
set_option maxRecDepth 100000 in
set_option maxHeartbeats 4000000 in
theorem c_X6_chestIn {X : List fm_L} (x1 : Int32) (m : fm_M) {res : Int32 × fm_M} (h : f_X6_chestIn x1 m = some res) : fm_Met (fm_layH ++ X) 5 m_X6_chestIn [.ref 0, .int x1] m (fm_pi res.1 res.2) := by
  refine fm_Met_of (ls := [some (.ref 0), some (.int x1)]) (by decide) rfl (fm_cc_r _ (fm_cc_i _ fm_cc_0)) (Nat.le_of_ble_eq_true rfl) rfl ?_
  unfold f_X6_chestIn at h
  refine go_iload_n (pc := 0) dX6_chestIn_0 rfl rfl ?_
  refine go_if_lt (pc := 1) (tgt := 10) dX6_chestIn_1 (by decide) (fun c1 => ?_) (fun c1 => ?_)
  · rw [if_pos c1] at h
    refine go_bipush (pc := 10) (v := (-12 : Int32)) dX6_chestIn_10 (by decide) ?_
    refine go_goto (pc := 12) (tgt := 29) dX6_chestIn_12 (by decide) ?_
    obtain rfl := Option.some.inj h
    exact go_iret (pc := 29) .int dX6_chestIn_29 rfl rfl ⟨rfl, rfl⟩
  · rw [if_neg c1] at h
    refine go_iload_n (pc := 4) dX6_chestIn_4 rfl rfl ?_
    refine go_bipush (pc := 5) (v := (60 : Int32)) dX6_chestIn_5 (by decide) ?_
    refine go_icmp_le (pc := 7) (tgt := 15) dX6_chestIn_7 (by decide) (fun c2 => ?_) (fun c2 => ?_)
    · rw [if_pos c2] at h
      refine go_aload_n (pc := 15) dX6_chestIn_15 rfl rfl ?_
      obtain ⟨v3, hv4, h⟩ := fm_bind h
      refine go_callVr (pc := 16) (As := []) (st := []) dX6_chestIn_16 (c_X6_onTrial   _ hv4) (by decide) ce_X6_onTrial ml_X6_74 in_X6_onTrial se_X6_onTrial cl_X6 rfl rfl (Nat.le_of_ble_eq_true rfl) rfl ?_
      refine go_iload_n (pc := 19) dX6_chestIn_19 rfl rfl ?_
      obtain ⟨v5, hv6, h⟩ := fm_bind h
      refine go_callVr (pc := 20) (As := [.int x1]) (st := []) dX6_chestIn_20 (c_X0_after   _ _ hv6) (by decide) ce_X0_after ml_X6_162 in_X0_after se_X0_after cl_X0 rfl rfl (Nat.le_of_ble_eq_true rfl) rfl ?_
      refine go_sipush (pc := 23) (v := (288 : Int32)) dX6_chestIn_23 (by decide) ?_
      obtain ⟨v7, hv8, h⟩ := fm_bind h
      refine go_callVi (pc := 26) (As := [.int (288 : Int32)]) (st := []) dX6_chestIn_26 (c_X5_get (p := 6) (r := 7) rfl rfl _ _ hv8) (by decide) ce_X5_get ml_X6_137 in_X5_get se_X5_get cl_X5 rfl rfl (Nat.le_of_ble_eq_true rfl) rfl ?_
      obtain rfl := Option.some.inj h
      exact go_iret (pc := 29) .int dX6_chestIn_29 rfl rfl ⟨rfl, rfl⟩
    · rw [if_neg c2] at h
      refine go_bipush (pc := 10) (v := (-12 : Int32)) dX6_chestIn_10 (by decide) ?_
      refine go_goto (pc := 12) (tgt := 29) dX6_chestIn_12 (by decide) ?_
      obtain rfl := Option.some.inj h
      exact go_iret (pc := 29) .int dX6_chestIn_29 rfl rfl ⟨rfl, rfl⟩
def f_X6_append (x1 : Int32) (m : fm_M) : Option (Int32 × fm_M) :=
  if x1 < (32 : Int32) then (some ((-12 : Int32), m)) else (if x1 ≤ (126 : Int32) then ((f_X4_size 18 19 60 m).bind fun v3 => if v3 < (60 : Int32) then ((f_X4_add 18 19 60 x1 m).bind fun v6 => (f_X4_size 18 19 60 v6).bind fun v8 => some (v8, v6)) else (some ((-13 : Int32), m))) else (some ((-12 : Int32), m)))
set_option maxRecDepth 100000 in
set_option maxHeartbeats 4000000 in
theorem c_X6_append {X : List fm_L} (x1 : Int32) (m : fm_M) {res : Int32 × fm_M} (h : f_X6_append x1 m = some res) : fm_Met (fm_layH ++ X) 1 m_X6_append [.ref 0, .int x1] m (fm_pi res.1 res.2) := by
  refine fm_Met_of (ls := [some (.ref 0), some (.int x1)]) (by decide) rfl (fm_cc_r _ (fm_cc_i _ fm_cc_0)) (Nat.le_of_ble_eq_true rfl) rfl ?_
  unfold f_X6_append at h
  refine go_iload_n (pc := 0) dX6_append_0 rfl rfl ?_
  refine go_bipush (pc := 1) (v := (32 : Int32)) dX6_append_1 (by decide) ?_
  refine go_icmp_lt (pc := 3) (tgt := 12) dX6_append_3 (by decide) (fun c1 => ?_) (fun c1 => ?_)
  · rw [if_pos c1] at h
    refine go_bipush (pc := 12) (v := (-12 : Int32)) dX6_append_12 (by decide) ?_
    obtain rfl := Option.some.inj h
    exact go_iret (pc := 14) .int dX6_append_14 rfl rfl ⟨rfl, rfl⟩
  · rw [if_neg c1] at h
    refine go_iload_n (pc := 6) dX6_append_6 rfl rfl ?_
    refine go_bipush (pc := 7) (v := (126 : Int32)) dX6_append_7 (by decide) ?_
    refine go_icmp_le (pc := 9) (tgt := 15) dX6_append_9 (by decide) (fun c2 => ?_) (fun c2 => ?_)
    · rw [if_pos c2] at h
      refine go_aload_n (pc := 15) dX6_append_15 rfl rfl ?_
      refine go_getR (pc := 16) (k := 6) (q2 := 18) dX6_append_16 cl_X6 rfl rfl (by decide) lk_X6_52 ?_
      obtain ⟨v3, hv4, h⟩ := fm_bind h
      refine go_callVi (pc := 19) (As := []) (st := []) dX6_append_19 (c_X4_size (p := 18) (r := 19) (n0 := 60) rfl rfl _ hv4) (by decide) ce_X4_size ml_X6_166 in_X4_size se_X4_size cl_X4 rfl rfl (Nat.le_of_ble_eq_true rfl) rfl ?_
      refine go_bipush (pc := 22) (v := (60 : Int32)) dX6_append_22 (by decide) ?_
      refine go_icmp_lt (pc := 24) (tgt := 30) dX6_append_24 (by decide) (fun c5 => ?_) (fun c5 => ?_)
      · rw [if_pos c5] at h
        refine go_aload_n (pc := 30) dX6_append_30 rfl rfl ?_
        refine go_getR (pc := 31) (k := 6) (q2 := 18) dX6_append_31 cl_X6 rfl rfl (by decide) lk_X6_52 ?_
        refine go_iload_n (pc := 34) dX6_append_34 rfl rfl ?_
        obtain ⟨v6, hv7, h⟩ := fm_bind h
        refine go_callVv (pc := 35) (As := [.int x1]) (st := []) dX6_append_35 (c_X4_add (p := 18) (r := 19) (n0 := 60) rfl rfl _ _ hv7) (by decide) ce_X4_add ml_X6_170 in_X4_add se_X4_add cl_X4 rfl rfl (Nat.le_of_ble_eq_true rfl) rfl ?_
        refine go_aload_n (pc := 38) dX6_append_38 rfl rfl ?_
        refine go_getR (pc := 39) (k := 6) (q2 := 18) dX6_append_39 cl_X6 rfl rfl (by decide) lk_X6_52 ?_
        obtain ⟨v8, hv9, h⟩ := fm_bind h
        refine go_callVi (pc := 42) (As := []) (st := []) dX6_append_42 (c_X4_size (p := 18) (r := 19) (n0 := 60) rfl rfl _ hv9) (by decide) ce_X4_size ml_X6_166 in_X4_size se_X4_size cl_X4 rfl rfl (Nat.le_of_ble_eq_true rfl) rfl ?_
        obtain rfl := Option.some.inj h
        exact go_iret (pc := 45) .int dX6_append_45 rfl rfl ⟨rfl, rfl⟩
      · rw [if_neg c5] at h
        refine go_bipush (pc := 27) (v := (-13 : Int32)) dX6_append_27 (by decide) ?_
        obtain rfl := Option.some.inj h
        exact go_iret (pc := 29) .int dX6_append_29 rfl rfl ⟨rfl, rfl⟩
    · rw [if_neg c2] at h
      refine go_bipush (pc := 12) (v := (-12 : Int32)) dX6_append_12 (by decide) ?_
      obtain rfl := Option.some.inj h
      exact go_iret (pc := 14) .int dX6_append_14 rfl rfl ⟨rfl, rfl⟩
def f_X6_run_L36 : Nat → Int32 → fm_M → Option (Int32 × fm_M)
  | 0, _, _ => none
  | n + 1, y3, m => (f_X2_size m).bind fun v8 => if v8 ≤ y3 then ((f_X2_size m).bind fun v11 => (f_X6_settle v11 m).bind fun v13 => some (v13.1, v13.2)) else ((f_X2_kindOf y3 m).bind fun v15 => (f_X2_firstOf y3 m).bind fun v17 => (f_X2_secondOf y3 m).bind fun v19 => (f_X0_perform v15 v17 v19 m).bind fun v21 => if 0 ≤ v21.1 then (f_X6_run_L36 n (y3 + (1 : Int32)) v21.2) else ((f_X0_refuse (11 : Int32) y3 v21.2).bind fun v24 => (f_X6_settle v24.1 v24.2).bind fun v26 => some (v26.1, v26.2)))
def f_X6_run (m : fm_M) : Option (Int32 × fm_M) :=
  (f_X2_read 18 19 60 m).bind fun v1 => (f_X4_clear 18 19 60 v1.2).bind fun v3 => if v1.1 < 0 then ((f_X6_onTrial v3).bind fun v6 => f_X6_run_L36 fm_F (0 : Int32) v6) else (some (((-1000 : Int32) - v1.1), v3))
set_option maxRecDepth 100000 in
set_option maxHeartbeats 4000000 in
theorem c_X6_run_L36 {X : List fm_L} : ∀ (n : Nat) (y3 : Int32) (m : fm_M) (res : Int32 × fm_M), f_X6_run_L36 n y3 m = some res → fm_Go (fm_layH ++ X) 7 m_X6_run (fm_pi res.1 res.2) 36 [some (.ref 0), none, some (.ref 5), some (.int y3)] [] m := by
  intro n
  induction n with
  | zero => intro y3 m res h; cases h
  | succ n ih =>
    intro y3 m res h
    rw [f_X6_run_L36] at h
    refine go_iload_n (pc := 36) dX6_run_36 rfl rfl ?_
    refine go_aload_n (pc := 37) dX6_run_37 rfl rfl ?_
    refine go_getR (pc := 38) (k := 5) (q2 := 14) dX6_run_38 cl_X6 rfl rfl (by decide) lk_X6_43 ?_
    obtain ⟨v8, hv9, h⟩ := fm_bind h
    refine go_callVi (pc := 41) (As := []) (st := [.int y3]) dX6_run_41 (c_X2_size   _ hv9) (by decide) ce_X2_size ml_X6_180 in_X2_size se_X2_size cl_X2 rfl rfl (Nat.le_of_ble_eq_true rfl) rfl ?_
    refine go_icmp_ge (pc := 44) (tgt := 96) dX6_run_44 (by decide) (fun c10 => ?_) (fun c10 => ?_)
    · rw [if_pos c10] at h
      refine go_aload_n (pc := 96) dX6_run_96 rfl rfl ?_
      refine go_aload_n (pc := 97) dX6_run_97 rfl rfl ?_
      refine go_getR (pc := 98) (k := 5) (q2 := 14) dX6_run_98 cl_X6 rfl rfl (by decide) lk_X6_43 ?_
      obtain ⟨v11, hv12, h⟩ := fm_bind h
      refine go_callVi (pc := 101) (As := []) (st := [.ref 0]) dX6_run_101 (c_X2_size   _ hv12) (by decide) ce_X2_size ml_X6_180 in_X2_size se_X2_size cl_X2 rfl rfl (Nat.le_of_ble_eq_true rfl) rfl ?_
      obtain ⟨v13, hv14, h⟩ := fm_bind h
      refine go_callVi (pc := 104) (As := [.int v11]) (st := []) dX6_run_104 (c_X6_settle   _ _ hv14) (by decide) ce_X6_settle ml_X6_82 in_X6_settle se_X6_settle cl_X6 rfl rfl (Nat.le_of_ble_eq_true rfl) rfl ?_
      obtain rfl := Option.some.inj h
      exact go_iret (pc := 107) .int dX6_run_107 rfl rfl ⟨rfl, rfl⟩
    · rw [if_neg c10] at h
      refine go_aload_n (pc := 47) dX6_run_47 rfl rfl ?_
      refine go_aload_n (pc := 48) dX6_run_48 rfl rfl ?_
      refine go_getR (pc := 49) (k := 5) (q2 := 14) dX6_run_49 cl_X6 rfl rfl (by decide) lk_X6_43 ?_
      refine go_iload_n (pc := 52) dX6_run_52 rfl rfl ?_
      obtain ⟨v15, hv16, h⟩ := fm_bind h
      refine go_callVi (pc := 53) (As := [.int y3]) (st := [.ref 5]) dX6_run_53 (c_X2_kindOf   _ _ hv16) (by decide) ce_X2_kindOf ml_X6_181 in_X2_kindOf se_X2_kindOf cl_X2 rfl rfl (Nat.le_of_ble_eq_true rfl) rfl ?_
      refine go_aload_n (pc := 56) dX6_run_56 rfl rfl ?_
      refine go_getR (pc := 57) (k := 5) (q2 := 14) dX6_run_57 cl_X6 rfl rfl (by decide) lk_X6_43 ?_
      refine go_iload_n (pc := 60) dX6_run_60 rfl rfl ?_
      obtain ⟨v17, hv18, h⟩ := fm_bind h
      refine go_callVi (pc := 61) (As := [.int y3]) (st := [.int v15, .ref 5]) dX6_run_61 (c_X2_firstOf   _ _ hv18) (by decide) ce_X2_firstOf ml_X6_184 in_X2_firstOf se_X2_firstOf cl_X2 rfl rfl (Nat.le_of_ble_eq_true rfl) rfl ?_
      refine go_aload_n (pc := 64) dX6_run_64 rfl rfl ?_
      refine go_getR (pc := 65) (k := 5) (q2 := 14) dX6_run_65 cl_X6 rfl rfl (by decide) lk_X6_43 ?_
      refine go_iload_n (pc := 68) dX6_run_68 rfl rfl ?_
      obtain ⟨v19, hv20, h⟩ := fm_bind h
      refine go_callVi (pc := 69) (As := [.int y3]) (st := [.int v17, .int v15, .ref 5]) dX6_run_69 (c_X2_secondOf   _ _ hv20) (by decide) ce_X2_secondOf ml_X6_187 in_X2_secondOf se_X2_secondOf cl_X2 rfl rfl (Nat.le_of_ble_eq_true rfl) rfl ?_
      obtain ⟨v21, hv22, h⟩ := fm_bind h
      refine go_callVi (pc := 72) (As := [.int v15, .int v17, .int v19]) (st := []) dX6_run_72 (c_X0_perform   _ _ _ _ hv22) (by decide) ce_X0_perform ml_X6_190 in_X0_perform se_X0_perform cl_X0 rfl rfl (Nat.le_of_ble_eq_true rfl) rfl ?_
      refine go_if_ge (pc := 75) (tgt := 90) dX6_run_75 (by decide) (fun c23 => ?_) (fun c23 => ?_)
      · rw [if_pos c23] at h
        refine go_iinc (pc := 90) (v := (y3 + (1 : Int32))) (ls1 := [some (.ref 0), none, some (.ref 5), some (.int (y3 + (1 : Int32)))]) dX6_run_90 rfl rfl (Nat.le_of_ble_eq_true rfl) rfl ?_
        refine go_goto (pc := 93) (tgt := 36) dX6_run_93 (by decide) ?_
        exact ih _ _ _ h
      · rw [if_neg c23] at h
        refine go_aload_n (pc := 78) dX6_run_78 rfl rfl ?_
        refine go_aload_n (pc := 79) dX6_run_79 rfl rfl ?_
        refine go_bipush (pc := 80) (v := (11 : Int32)) dX6_run_80 (by decide) ?_
        refine go_iload_n (pc := 82) dX6_run_82 rfl rfl ?_
        obtain ⟨v24, hv25, h⟩ := fm_bind h
        refine go_callVi (pc := 83) (As := [.int (11 : Int32), .int y3]) (st := [.ref 0]) dX6_run_83 (c_X0_refuse   _ _ _ hv25) (by decide) ce_X0_refuse ml_X6_194 in_X0_refuse se_X0_refuse cl_X0 rfl rfl (Nat.le_of_ble_eq_true rfl) rfl ?_
        obtain ⟨v26, hv27, h⟩ := fm_bind h
        refine go_callVi (pc := 86) (As := [.int v24.1]) (st := []) dX6_run_86 (c_X6_settle   _ _ hv27) (by decide) ce_X6_settle ml_X6_82 in_X6_settle se_X6_settle cl_X6 rfl rfl (Nat.le_of_ble_eq_true rfl) rfl ?_
        obtain rfl := Option.some.inj h
        exact go_iret (pc := 89) .int dX6_run_89 rfl rfl ⟨rfl, rfl⟩
set_option maxRecDepth 100000 in
set_option maxHeartbeats 4000000 in
theorem c_X6_run {X : List fm_L} (m : fm_M) {res : Int32 × fm_M} (h : f_X6_run  m = some res) : fm_Met (fm_layH ++ X) 7 m_X6_run [.ref 0] m (fm_pi res.1 res.2) := by
  refine fm_Met_of (ls := [some (.ref 0), none, none, none]) (by decide) rfl (fm_cc_r _ fm_cc_0) (Nat.le_of_ble_eq_true rfl) rfl ?_
  unfold f_X6_run at h
  refine go_aload_n (pc := 0) dX6_run_0 rfl rfl ?_
  refine go_getR (pc := 1) (k := 5) (q2 := 14) dX6_run_1 cl_X6 rfl rfl (by decide) lk_X6_43 ?_
  refine go_aload_n (pc := 4) dX6_run_4 rfl rfl ?_
  refine go_getR (pc := 5) (k := 6) (q2 := 18) dX6_run_5 cl_X6 rfl rfl (by decide) lk_X6_52 ?_
  obtain ⟨v1, hv2, h⟩ := fm_bind h
  refine go_callVi (pc := 8) (As := [.ref 18]) (st := []) dX6_run_8 (c_X2_read (p2 := 18) (r2 := 19) (n2 := 60) rfl rfl _ hv2) (by decide) ce_X2_read ml_X6_173 in_X2_read se_X2_read cl_X2 rfl rfl (Nat.le_of_ble_eq_true rfl) rfl ?_
  refine go_istore_n (pc := 11) (ls1 := [some (.ref 0), some (.int v1.1), none, none]) dX6_run_11 rfl (by decide) rfl ?_
  refine go_aload_n (pc := 12) dX6_run_12 rfl rfl ?_
  refine go_getR (pc := 13) (k := 6) (q2 := 18) dX6_run_13 cl_X6 rfl rfl (by decide) lk_X6_52 ?_
  obtain ⟨v3, hv4, h⟩ := fm_bind h
  refine go_callVv (pc := 16) (As := []) (st := []) dX6_run_16 (c_X4_clear (p := 18) (r := 19) (n0 := 60) rfl rfl _ hv4) (by decide) ce_X4_clear ml_X6_177 in_X4_clear se_X4_clear cl_X4 rfl rfl (Nat.le_of_ble_eq_true rfl) rfl ?_
  refine go_iload_n (pc := 19) dX6_run_19 rfl rfl ?_
  refine go_if_lt (pc := 20) (tgt := 29) dX6_run_20 (by decide) (fun c5 => ?_) (fun c5 => ?_)
  · rw [if_pos c5] at h
    refine go_aload_n (pc := 29) dX6_run_29 rfl rfl ?_
    obtain ⟨v6, hv7, h⟩ := fm_bind h
    refine go_callVr (pc := 30) (As := []) (st := []) dX6_run_30 (c_X6_onTrial   _ hv7) (by decide) ce_X6_onTrial ml_X6_74 in_X6_onTrial se_X6_onTrial cl_X6 rfl rfl (Nat.le_of_ble_eq_true rfl) rfl ?_
    refine go_astore_n (pc := 33) (ls1 := [some (.ref 0), some (.int v1.1), some (.ref 5), none]) dX6_run_33 rfl (by decide) rfl ?_
    refine go_iconst (pc := 34) (v := (0 : Int32)) dX6_run_34 (by decide) ?_
    refine go_istore_n (pc := 35) (ls1 := [some (.ref 0), some (.int v1.1), some (.ref 5), some (.int (0 : Int32))]) dX6_run_35 rfl (by decide) rfl ?_
    refine go_drop 1 (ls1 := [some (.ref 0), none, some (.ref 5), some (.int (0 : Int32))]) rfl ?_
    exact c_X6_run_L36  fm_F _ _ _ h
  · rw [if_neg c5] at h
    refine go_sipush (pc := 23) (v := (-1000 : Int32)) dX6_run_23 (by decide) ?_
    refine go_iload_n (pc := 26) dX6_run_26 rfl rfl ?_
    refine go_isub (pc := 27) dX6_run_27 ?_
    obtain rfl := Option.some.inj h
    exact go_iret (pc := 28) .int dX6_run_28 rfl rfl ⟨rfl, rfl⟩
def f_X6_brethrenUnderBan_L4 : Nat → Int32 → Int32 → fm_M → Option (Int32)
  | 0, _, _, _ => none
  | n + 1, y1, y2, m => if (16 : Int32) ≤ y2 then (some y1) else ((f_X5_of 1 2 (5 : Int32) y2 m).bind fun v2 => if v2 ≤ 0 then (f_X6_brethrenUnderBan_L4 n y1 (y2 + (1 : Int32)) m) else (f_X6_brethrenUnderBan_L4 n (y1 + (1 : Int32)) (y2 + (1 : Int32)) m))
def f_X6_brethrenUnderBan (m : fm_M) : Option (Int32) :=
  f_X6_brethrenUnderBan_L4 fm_F (0 : Int32) (0 : Int32) m
set_option maxRecDepth 100000 in
set_option maxHeartbeats 4000000 in
theorem c_X6_brethrenUnderBan_L4 {X : List fm_L} : ∀ (n : Nat) (y1 : Int32) (y2 : Int32) (m : fm_M) (res : Int32), f_X6_brethrenUnderBan_L4 n y1 y2 m = some res → fm_Go (fm_layH ++ X) 1 m_X6_brethrenUnderBan (fm_pi res m) 4 [some (.ref 0), some (.int y1), some (.int y2)] [] m := by
  intro n
  induction n with
  | zero => intro y1 y2 m res h; cases h
  | succ n ih =>
    intro y1 y2 m res h
    rw [f_X6_brethrenUnderBan_L4] at h
    refine go_iload_n (pc := 4) dX6_brethrenUnderBan_4 rfl rfl ?_
    refine go_bipush (pc := 5) (v := (16 : Int32)) dX6_brethrenUnderBan_5 (by decide) ?_
    refine go_icmp_ge (pc := 7) (tgt := 31) dX6_brethrenUnderBan_7 (by decide) (fun c1 => ?_) (fun c1 => ?_)
    · rw [if_pos c1] at h
      refine go_iload_n (pc := 31) dX6_brethrenUnderBan_31 rfl rfl ?_
      obtain rfl := Option.some.inj h
      exact go_iret (pc := 32) .int dX6_brethrenUnderBan_32 rfl rfl ⟨rfl, rfl⟩
    · rw [if_neg c1] at h
      refine go_aload_n (pc := 10) dX6_brethrenUnderBan_10 rfl rfl ?_
      refine go_getR (pc := 11) (k := 0) (q2 := 1) dX6_brethrenUnderBan_11 cl_X6 rfl rfl (by decide) lk_X6_12 ?_
      refine go_iconst (pc := 14) (v := (5 : Int32)) dX6_brethrenUnderBan_14 (by decide) ?_
      refine go_iload_n (pc := 15) dX6_brethrenUnderBan_15 rfl rfl ?_
      obtain ⟨v2, hv3, h⟩ := fm_bind h
      refine go_callVi (pc := 16) (As := [.int (5 : Int32), .int y2]) (st := []) dX6_brethrenUnderBan_16 (c_X5_of (p := 1) (r := 2) rfl rfl _ _ _ hv3) (by decide) ce_X5_of ml_X6_118 in_X5_of se_X5_of cl_X5 rfl rfl (Nat.le_of_ble_eq_true rfl) rfl ?_
      refine go_if_le (pc := 19) (tgt := 25) dX6_brethrenUnderBan_19 (by decide) (fun c4 => ?_) (fun c4 => ?_)
      · rw [if_pos c4] at h
        refine go_iinc (pc := 25) (v := (y2 + (1 : Int32))) (ls1 := [some (.ref 0), some (.int y1), some (.int (y2 + (1 : Int32)))]) dX6_brethrenUnderBan_25 rfl rfl (Nat.le_of_ble_eq_true rfl) rfl ?_
        refine go_goto (pc := 28) (tgt := 4) dX6_brethrenUnderBan_28 (by decide) ?_
        exact ih _ _ _ _ h
      · rw [if_neg c4] at h
        refine go_iinc (pc := 22) (v := (y1 + (1 : Int32))) (ls1 := [some (.ref 0), some (.int (y1 + (1 : Int32))), some (.int y2)]) dX6_brethrenUnderBan_22 rfl rfl (Nat.le_of_ble_eq_true rfl) rfl ?_
        refine go_iinc (pc := 25) (v := (y2 + (1 : Int32))) (ls1 := [some (.ref 0), some (.int (y1 + (1 : Int32))), some (.int (y2 + (1 : Int32)))]) dX6_brethrenUnderBan_25 rfl rfl (Nat.le_of_ble_eq_true rfl) rfl ?_
        refine go_goto (pc := 28) (tgt := 4) dX6_brethrenUnderBan_28 (by decide) ?_
        exact ih _ _ _ _ h
set_option maxRecDepth 100000 in
set_option maxHeartbeats 4000000 in
theorem c_X6_brethrenUnderBan {X : List fm_L} (m : fm_M) {res : Int32} (h : f_X6_brethrenUnderBan  m = some res) : fm_Met (fm_layH ++ X) 1 m_X6_brethrenUnderBan [.ref 0] m (fm_pi res m) := by
  refine fm_Met_of (ls := [some (.ref 0), none, none]) (by decide) rfl (fm_cc_r _ fm_cc_0) (Nat.le_of_ble_eq_true rfl) rfl ?_
  unfold f_X6_brethrenUnderBan at h
  refine go_iconst (pc := 0) (v := (0 : Int32)) dX6_brethrenUnderBan_0 (by decide) ?_
  refine go_istore_n (pc := 1) (ls1 := [some (.ref 0), some (.int (0 : Int32)), none]) dX6_brethrenUnderBan_1 rfl (by decide) rfl ?_
  refine go_iconst (pc := 2) (v := (0 : Int32)) dX6_brethrenUnderBan_2 (by decide) ?_
  refine go_istore_n (pc := 3) (ls1 := [some (.ref 0), some (.int (0 : Int32)), some (.int (0 : Int32))]) dX6_brethrenUnderBan_3 rfl (by decide) rfl ?_
  exact c_X6_brethrenUnderBan_L4  fm_F _ _ _ _ h
def f_X6_account (x1 : Int32) (m : fm_M) : Option (Int32) :=
  if x1 = (0 : Int32) then ((f_X5_get 1 2 (286 : Int32) m).bind fun v2 => some v2) else (if x1 = (1 : Int32) then ((f_X5_get 1 2 (287 : Int32) m).bind fun v5 => some v5) else (if x1 = (2 : Int32) then ((f_X5_get 1 2 (284 : Int32) m).bind fun v8 => some v8) else (if x1 = (3 : Int32) then ((f_X5_howMany 1 2 (0 : Int32) m).bind fun v11 => some v11) else (if x1 = (4 : Int32) then ((f_X5_howMany 1 2 (1 : Int32) m).bind fun v14 => some v14) else (if x1 = (5 : Int32) then ((f_X5_howMany 1 2 (2 : Int32) m).bind fun v17 => some v17) else (if x1 = (6 : Int32) then ((f_X5_howMany 1 2 (3 : Int32) m).bind fun v20 => some v20) else (if x1 = (7 : Int32) then ((f_X6_brethrenUnderBan m).bind fun v23 => some v23) else (if x1 = (8 : Int32) then ((f_X5_feastsTold 1 2 m).bind fun v26 => some v26) else (if x1 = (9 : Int32) then ((f_X5_get 1 2 (288 : Int32) m).bind fun v29 => some v29) else (if x1 = (10 : Int32) then ((f_X5_get 1 2 (289 : Int32) m).bind fun v32 => some v32) else (if x1 = (11 : Int32) then ((f_X5_get 1 2 (290 : Int32) m).bind fun v35 => some v35) else (if x1 = (12 : Int32) then ((f_X5_get 1 2 (291 : Int32) m).bind fun v38 => some v38) else (if x1 = (13 : Int32) then ((f_X5_get 1 2 (292 : Int32) m).bind fun v41 => some v41) else (if x1 = (14 : Int32) then ((f_X5_get 1 2 (293 : Int32) m).bind fun v44 => some v44) else (if x1 = (15 : Int32) then ((f_X4_size 18 19 60 m).bind fun v47 => some v47) else (if x1 = (16 : Int32) then ((f_X1_size m).bind fun v50 => some v50) else (some (-12 : Int32))))))))))))))))))
set_option maxRecDepth 100000 in
set_option maxHeartbeats 4000000 in
theorem c_X6_account {X : List fm_L} (x1 : Int32) (m : fm_M) {res : Int32} (h : f_X6_account x1 m = some res) : fm_Met (fm_layH ++ X) 3 m_X6_account [.ref 0, .int x1] m (fm_pi res m) := by
  refine fm_Met_of (ls := [some (.ref 0), some (.int x1)]) (by decide) rfl (fm_cc_r _ (fm_cc_i _ fm_cc_0)) (Nat.le_of_ble_eq_true rfl) rfl ?_
  unfold f_X6_account at h
  refine go_iload_n (pc := 0) dX6_account_0 rfl rfl ?_
  by_cases c1 : x1 = (0 : Int32)
  · rw [if_pos c1] at h
    refine go_tswHit (pc := 1) (tgt := 84) dX6_account_1 c1 (by decide) (by decide) rfl (by decide) ?_
    refine go_aload_n (pc := 84) dX6_account_84 rfl rfl ?_
    refine go_getR (pc := 85) (k := 0) (q2 := 1) dX6_account_85 cl_X6 rfl rfl (by decide) lk_X6_12 ?_
    refine go_sipush (pc := 88) (v := (286 : Int32)) dX6_account_88 (by decide) ?_
    obtain ⟨v2, hv3, h⟩ := fm_bind h
    refine go_callVi (pc := 91) (As := [.int (286 : Int32)]) (st := []) dX6_account_91 (c_X5_get (p := 1) (r := 2) rfl rfl _ _ hv3) (by decide) ce_X5_get ml_X6_137 in_X5_get se_X5_get cl_X5 rfl rfl (Nat.le_of_ble_eq_true rfl) rfl ?_
    obtain rfl := Option.some.inj h
    exact go_iret (pc := 94) .int dX6_account_94 rfl rfl ⟨rfl, rfl⟩
  rw [if_neg c1] at h
  by_cases c4 : x1 = (1 : Int32)
  · rw [if_pos c4] at h
    refine go_tswHit (pc := 1) (tgt := 95) dX6_account_1 c4 (by decide) (by decide) rfl (by decide) ?_
    refine go_aload_n (pc := 95) dX6_account_95 rfl rfl ?_
    refine go_getR (pc := 96) (k := 0) (q2 := 1) dX6_account_96 cl_X6 rfl rfl (by decide) lk_X6_12 ?_
    refine go_sipush (pc := 99) (v := (287 : Int32)) dX6_account_99 (by decide) ?_
    obtain ⟨v5, hv6, h⟩ := fm_bind h
    refine go_callVi (pc := 102) (As := [.int (287 : Int32)]) (st := []) dX6_account_102 (c_X5_get (p := 1) (r := 2) rfl rfl _ _ hv6) (by decide) ce_X5_get ml_X6_137 in_X5_get se_X5_get cl_X5 rfl rfl (Nat.le_of_ble_eq_true rfl) rfl ?_
    obtain rfl := Option.some.inj h
    exact go_iret (pc := 105) .int dX6_account_105 rfl rfl ⟨rfl, rfl⟩
  rw [if_neg c4] at h
  by_cases c7 : x1 = (2 : Int32)
  · rw [if_pos c7] at h
    refine go_tswHit (pc := 1) (tgt := 106) dX6_account_1 c7 (by decide) (by decide) rfl (by decide) ?_
    refine go_aload_n (pc := 106) dX6_account_106 rfl rfl ?_
    refine go_getR (pc := 107) (k := 0) (q2 := 1) dX6_account_107 cl_X6 rfl rfl (by decide) lk_X6_12 ?_
    refine go_sipush (pc := 110) (v := (284 : Int32)) dX6_account_110 (by decide) ?_
    obtain ⟨v8, hv9, h⟩ := fm_bind h
    refine go_callVi (pc := 113) (As := [.int (284 : Int32)]) (st := []) dX6_account_113 (c_X5_get (p := 1) (r := 2) rfl rfl _ _ hv9) (by decide) ce_X5_get ml_X6_137 in_X5_get se_X5_get cl_X5 rfl rfl (Nat.le_of_ble_eq_true rfl) rfl ?_
    obtain rfl := Option.some.inj h
    exact go_iret (pc := 116) .int dX6_account_116 rfl rfl ⟨rfl, rfl⟩
  rw [if_neg c7] at h
  by_cases c10 : x1 = (3 : Int32)
  · rw [if_pos c10] at h
    refine go_tswHit (pc := 1) (tgt := 117) dX6_account_1 c10 (by decide) (by decide) rfl (by decide) ?_
    refine go_aload_n (pc := 117) dX6_account_117 rfl rfl ?_
    refine go_getR (pc := 118) (k := 0) (q2 := 1) dX6_account_118 cl_X6 rfl rfl (by decide) lk_X6_12 ?_
    refine go_iconst (pc := 121) (v := (0 : Int32)) dX6_account_121 (by decide) ?_
    obtain ⟨v11, hv12, h⟩ := fm_bind h
    refine go_callVi (pc := 122) (As := [.int (0 : Int32)]) (st := []) dX6_account_122 (c_X5_howMany (p := 1) (r := 2) rfl rfl _ _ hv12) (by decide) ce_X5_howMany ml_X6_206 in_X5_howMany se_X5_howMany cl_X5 rfl rfl (Nat.le_of_ble_eq_true rfl) rfl ?_
    obtain rfl := Option.some.inj h
    exact go_iret (pc := 125) .int dX6_account_125 rfl rfl ⟨rfl, rfl⟩
  rw [if_neg c10] at h
  by_cases c13 : x1 = (4 : Int32)
  · rw [if_pos c13] at h
    refine go_tswHit (pc := 1) (tgt := 126) dX6_account_1 c13 (by decide) (by decide) rfl (by decide) ?_
    refine go_aload_n (pc := 126) dX6_account_126 rfl rfl ?_
    refine go_getR (pc := 127) (k := 0) (q2 := 1) dX6_account_127 cl_X6 rfl rfl (by decide) lk_X6_12 ?_
    refine go_iconst (pc := 130) (v := (1 : Int32)) dX6_account_130 (by decide) ?_
    obtain ⟨v14, hv15, h⟩ := fm_bind h
    refine go_callVi (pc := 131) (As := [.int (1 : Int32)]) (st := []) dX6_account_131 (c_X5_howMany (p := 1) (r := 2) rfl rfl _ _ hv15) (by decide) ce_X5_howMany ml_X6_206 in_X5_howMany se_X5_howMany cl_X5 rfl rfl (Nat.le_of_ble_eq_true rfl) rfl ?_
    obtain rfl := Option.some.inj h
    exact go_iret (pc := 134) .int dX6_account_134 rfl rfl ⟨rfl, rfl⟩
  rw [if_neg c13] at h
  by_cases c16 : x1 = (5 : Int32)
  · rw [if_pos c16] at h
    refine go_tswHit (pc := 1) (tgt := 135) dX6_account_1 c16 (by decide) (by decide) rfl (by decide) ?_
    refine go_aload_n (pc := 135) dX6_account_135 rfl rfl ?_
    refine go_getR (pc := 136) (k := 0) (q2 := 1) dX6_account_136 cl_X6 rfl rfl (by decide) lk_X6_12 ?_
    refine go_iconst (pc := 139) (v := (2 : Int32)) dX6_account_139 (by decide) ?_
    obtain ⟨v17, hv18, h⟩ := fm_bind h
    refine go_callVi (pc := 140) (As := [.int (2 : Int32)]) (st := []) dX6_account_140 (c_X5_howMany (p := 1) (r := 2) rfl rfl _ _ hv18) (by decide) ce_X5_howMany ml_X6_206 in_X5_howMany se_X5_howMany cl_X5 rfl rfl (Nat.le_of_ble_eq_true rfl) rfl ?_
    obtain rfl := Option.some.inj h
    exact go_iret (pc := 143) .int dX6_account_143 rfl rfl ⟨rfl, rfl⟩
  rw [if_neg c16] at h
  by_cases c19 : x1 = (6 : Int32)
  · rw [if_pos c19] at h
    refine go_tswHit (pc := 1) (tgt := 144) dX6_account_1 c19 (by decide) (by decide) rfl (by decide) ?_
    refine go_aload_n (pc := 144) dX6_account_144 rfl rfl ?_
    refine go_getR (pc := 145) (k := 0) (q2 := 1) dX6_account_145 cl_X6 rfl rfl (by decide) lk_X6_12 ?_
    refine go_iconst (pc := 148) (v := (3 : Int32)) dX6_account_148 (by decide) ?_
    obtain ⟨v20, hv21, h⟩ := fm_bind h
    refine go_callVi (pc := 149) (As := [.int (3 : Int32)]) (st := []) dX6_account_149 (c_X5_howMany (p := 1) (r := 2) rfl rfl _ _ hv21) (by decide) ce_X5_howMany ml_X6_206 in_X5_howMany se_X5_howMany cl_X5 rfl rfl (Nat.le_of_ble_eq_true rfl) rfl ?_
    obtain rfl := Option.some.inj h
    exact go_iret (pc := 152) .int dX6_account_152 rfl rfl ⟨rfl, rfl⟩
  rw [if_neg c19] at h
  by_cases c22 : x1 = (7 : Int32)
  · rw [if_pos c22] at h
    refine go_tswHit (pc := 1) (tgt := 153) dX6_account_1 c22 (by decide) (by decide) rfl (by decide) ?_
    refine go_aload_n (pc := 153) dX6_account_153 rfl rfl ?_
    obtain ⟨v23, hv24, h⟩ := fm_bind h
    refine go_callVi (pc := 154) (As := []) (st := []) dX6_account_154 (c_X6_brethrenUnderBan   _ hv24) (by decide) ce_X6_brethrenUnderBan ml_X6_209 in_X6_brethrenUnderBan se_X6_brethrenUnderBan cl_X6 rfl rfl (Nat.le_of_ble_eq_true rfl) rfl ?_
    obtain rfl := Option.some.inj h
    exact go_iret (pc := 157) .int dX6_account_157 rfl rfl ⟨rfl, rfl⟩
  rw [if_neg c22] at h
  by_cases c25 : x1 = (8 : Int32)
  · rw [if_pos c25] at h
    refine go_tswHit (pc := 1) (tgt := 158) dX6_account_1 c25 (by decide) (by decide) rfl (by decide) ?_
    refine go_aload_n (pc := 158) dX6_account_158 rfl rfl ?_
    refine go_getR (pc := 159) (k := 0) (q2 := 1) dX6_account_159 cl_X6 rfl rfl (by decide) lk_X6_12 ?_
    obtain ⟨v26, hv27, h⟩ := fm_bind h
    refine go_callVi (pc := 162) (As := []) (st := []) dX6_account_162 (c_X5_feastsTold (p := 1) (r := 2) rfl rfl _ hv27) (by decide) ce_X5_feastsTold ml_X6_212 in_X5_feastsTold se_X5_feastsTold cl_X5 rfl rfl (Nat.le_of_ble_eq_true rfl) rfl ?_
    obtain rfl := Option.some.inj h
    exact go_iret (pc := 165) .int dX6_account_165 rfl rfl ⟨rfl, rfl⟩
  rw [if_neg c25] at h
  by_cases c28 : x1 = (9 : Int32)
  · rw [if_pos c28] at h
    refine go_tswHit (pc := 1) (tgt := 166) dX6_account_1 c28 (by decide) (by decide) rfl (by decide) ?_
    refine go_aload_n (pc := 166) dX6_account_166 rfl rfl ?_
    refine go_getR (pc := 167) (k := 0) (q2 := 1) dX6_account_167 cl_X6 rfl rfl (by decide) lk_X6_12 ?_
    refine go_sipush (pc := 170) (v := (288 : Int32)) dX6_account_170 (by decide) ?_
    obtain ⟨v29, hv30, h⟩ := fm_bind h
    refine go_callVi (pc := 173) (As := [.int (288 : Int32)]) (st := []) dX6_account_173 (c_X5_get (p := 1) (r := 2) rfl rfl _ _ hv30) (by decide) ce_X5_get ml_X6_137 in_X5_get se_X5_get cl_X5 rfl rfl (Nat.le_of_ble_eq_true rfl) rfl ?_
    obtain rfl := Option.some.inj h
    exact go_iret (pc := 176) .int dX6_account_176 rfl rfl ⟨rfl, rfl⟩
  rw [if_neg c28] at h
  by_cases c31 : x1 = (10 : Int32)
  · rw [if_pos c31] at h
    refine go_tswHit (pc := 1) (tgt := 177) dX6_account_1 c31 (by decide) (by decide) rfl (by decide) ?_
    refine go_aload_n (pc := 177) dX6_account_177 rfl rfl ?_
    refine go_getR (pc := 178) (k := 0) (q2 := 1) dX6_account_178 cl_X6 rfl rfl (by decide) lk_X6_12 ?_
    refine go_sipush (pc := 181) (v := (289 : Int32)) dX6_account_181 (by decide) ?_
    obtain ⟨v32, hv33, h⟩ := fm_bind h
    refine go_callVi (pc := 184) (As := [.int (289 : Int32)]) (st := []) dX6_account_184 (c_X5_get (p := 1) (r := 2) rfl rfl _ _ hv33) (by decide) ce_X5_get ml_X6_137 in_X5_get se_X5_get cl_X5 rfl rfl (Nat.le_of_ble_eq_true rfl) rfl ?_
    obtain rfl := Option.some.inj h
    exact go_iret (pc := 187) .int dX6_account_187 rfl rfl ⟨rfl, rfl⟩
  rw [if_neg c31] at h
  by_cases c34 : x1 = (11 : Int32)
  · rw [if_pos c34] at h
    refine go_tswHit (pc := 1) (tgt := 188) dX6_account_1 c34 (by decide) (by decide) rfl (by decide) ?_
    refine go_aload_n (pc := 188) dX6_account_188 rfl rfl ?_
    refine go_getR (pc := 189) (k := 0) (q2 := 1) dX6_account_189 cl_X6 rfl rfl (by decide) lk_X6_12 ?_
    refine go_sipush (pc := 192) (v := (290 : Int32)) dX6_account_192 (by decide) ?_
    obtain ⟨v35, hv36, h⟩ := fm_bind h
    refine go_callVi (pc := 195) (As := [.int (290 : Int32)]) (st := []) dX6_account_195 (c_X5_get (p := 1) (r := 2) rfl rfl _ _ hv36) (by decide) ce_X5_get ml_X6_137 in_X5_get se_X5_get cl_X5 rfl rfl (Nat.le_of_ble_eq_true rfl) rfl ?_
    obtain rfl := Option.some.inj h
    exact go_iret (pc := 198) .int dX6_account_198 rfl rfl ⟨rfl, rfl⟩
  rw [if_neg c34] at h
  by_cases c37 : x1 = (12 : Int32)
  · rw [if_pos c37] at h
    refine go_tswHit (pc := 1) (tgt := 199) dX6_account_1 c37 (by decide) (by decide) rfl (by decide) ?_
    refine go_aload_n (pc := 199) dX6_account_199 rfl rfl ?_
    refine go_getR (pc := 200) (k := 0) (q2 := 1) dX6_account_200 cl_X6 rfl rfl (by decide) lk_X6_12 ?_
    refine go_sipush (pc := 203) (v := (291 : Int32)) dX6_account_203 (by decide) ?_
    obtain ⟨v38, hv39, h⟩ := fm_bind h
    refine go_callVi (pc := 206) (As := [.int (291 : Int32)]) (st := []) dX6_account_206 (c_X5_get (p := 1) (r := 2) rfl rfl _ _ hv39) (by decide) ce_X5_get ml_X6_137 in_X5_get se_X5_get cl_X5 rfl rfl (Nat.le_of_ble_eq_true rfl) rfl ?_
    obtain rfl := Option.some.inj h
    exact go_iret (pc := 209) .int dX6_account_209 rfl rfl ⟨rfl, rfl⟩
  rw [if_neg c37] at h
  by_cases c40 : x1 = (13 : Int32)
  · rw [if_pos c40] at h
    refine go_tswHit (pc := 1) (tgt := 210) dX6_account_1 c40 (by decide) (by decide) rfl (by decide) ?_
    refine go_aload_n (pc := 210) dX6_account_210 rfl rfl ?_
    refine go_getR (pc := 211) (k := 0) (q2 := 1) dX6_account_211 cl_X6 rfl rfl (by decide) lk_X6_12 ?_
    refine go_sipush (pc := 214) (v := (292 : Int32)) dX6_account_214 (by decide) ?_
    obtain ⟨v41, hv42, h⟩ := fm_bind h
    refine go_callVi (pc := 217) (As := [.int (292 : Int32)]) (st := []) dX6_account_217 (c_X5_get (p := 1) (r := 2) rfl rfl _ _ hv42) (by decide) ce_X5_get ml_X6_137 in_X5_get se_X5_get cl_X5 rfl rfl (Nat.le_of_ble_eq_true rfl) rfl ?_
    obtain rfl := Option.some.inj h
    exact go_iret (pc := 220) .int dX6_account_220 rfl rfl ⟨rfl, rfl⟩
  rw [if_neg c40] at h
  by_cases c43 : x1 = (14 : Int32)
  · rw [if_pos c43] at h
    refine go_tswHit (pc := 1) (tgt := 221) dX6_account_1 c43 (by decide) (by decide) rfl (by decide) ?_
    refine go_aload_n (pc := 221) dX6_account_221 rfl rfl ?_
    refine go_getR (pc := 222) (k := 0) (q2 := 1) dX6_account_222 cl_X6 rfl rfl (by decide) lk_X6_12 ?_
    refine go_sipush (pc := 225) (v := (293 : Int32)) dX6_account_225 (by decide) ?_
    obtain ⟨v44, hv45, h⟩ := fm_bind h
    refine go_callVi (pc := 228) (As := [.int (293 : Int32)]) (st := []) dX6_account_228 (c_X5_get (p := 1) (r := 2) rfl rfl _ _ hv45) (by decide) ce_X5_get ml_X6_137 in_X5_get se_X5_get cl_X5 rfl rfl (Nat.le_of_ble_eq_true rfl) rfl ?_
    obtain rfl := Option.some.inj h
    exact go_iret (pc := 231) .int dX6_account_231 rfl rfl ⟨rfl, rfl⟩
  rw [if_neg c43] at h
  by_cases c46 : x1 = (15 : Int32)
  · rw [if_pos c46] at h
    refine go_tswHit (pc := 1) (tgt := 232) dX6_account_1 c46 (by decide) (by decide) rfl (by decide) ?_
    refine go_aload_n (pc := 232) dX6_account_232 rfl rfl ?_
    refine go_getR (pc := 233) (k := 6) (q2 := 18) dX6_account_233 cl_X6 rfl rfl (by decide) lk_X6_52 ?_
    obtain ⟨v47, hv48, h⟩ := fm_bind h
    refine go_callVi (pc := 236) (As := []) (st := []) dX6_account_236 (c_X4_size (p := 18) (r := 19) (n0 := 60) rfl rfl _ hv48) (by decide) ce_X4_size ml_X6_166 in_X4_size se_X4_size cl_X4 rfl rfl (Nat.le_of_ble_eq_true rfl) rfl ?_
    obtain rfl := Option.some.inj h
    exact go_iret (pc := 239) .int dX6_account_239 rfl rfl ⟨rfl, rfl⟩
  rw [if_neg c46] at h
  by_cases c49 : x1 = (16 : Int32)
  · rw [if_pos c49] at h
    refine go_tswHit (pc := 1) (tgt := 240) dX6_account_1 c49 (by decide) (by decide) rfl (by decide) ?_
    refine go_aload_n (pc := 240) dX6_account_240 rfl rfl ?_
    refine go_getR (pc := 241) (k := 4) (q2 := 12) dX6_account_241 cl_X6 rfl rfl (by decide) lk_X6_36 ?_
    obtain ⟨v50, hv51, h⟩ := fm_bind h
    refine go_callVi (pc := 244) (As := []) (st := []) dX6_account_244 (c_X1_size   _ hv51) (by decide) ce_X1_size ml_X6_215 in_X1_size se_X1_size cl_X1 rfl rfl (Nat.le_of_ble_eq_true rfl) rfl ?_
    obtain rfl := Option.some.inj h
    exact go_iret (pc := 247) .int dX6_account_247 rfl rfl ⟨rfl, rfl⟩
  rw [if_neg c49] at h
  refine go_tswMiss (pc := 1) (tgt := 248) dX6_account_1 17 (by decide) (lt_s (lt_s (lt_s (lt_s (lt_s (lt_s (lt_s (lt_s (lt_s (lt_s (lt_s (lt_s (lt_s (lt_s (lt_s (lt_s (lt_s lt_0 (Or.inl (lv_neT c1 rfl))) (Or.inl (lv_neT c4 rfl))) (Or.inl (lv_neT c7 rfl))) (Or.inl (lv_neT c10 rfl))) (Or.inl (lv_neT c13 rfl))) (Or.inl (lv_neT c16 rfl))) (Or.inl (lv_neT c19 rfl))) (Or.inl (lv_neT c22 rfl))) (Or.inl (lv_neT c25 rfl))) (Or.inl (lv_neT c28 rfl))) (Or.inl (lv_neT c31 rfl))) (Or.inl (lv_neT c34 rfl))) (Or.inl (lv_neT c37 rfl))) (Or.inl (lv_neT c40 rfl))) (Or.inl (lv_neT c43 rfl))) (Or.inl (lv_neT c46 rfl))) (Or.inl (lv_neT c49 rfl))) (by decide) ?_
  refine go_bipush (pc := 248) (v := (-12 : Int32)) dX6_account_248 (by decide) ?_
  obtain rfl := Option.some.inj h
  exact go_iret (pc := 250) .int dX6_account_250 rfl rfl ⟨rfl, rfl⟩
def f_X6_cellsWith_L4 : Nat → Int32 → Int32 → Int32 → fm_M → Option (Int32)
  | 0, _, _, _, _ => none
  | n + 1, y1, y2, y3, m => if (8 : Int32) ≤ y3 then (some y2) else ((f_X5_get 1 2 ((224 : Int32) + y3) m).bind fun v2 => if v2 = y1 then (f_X6_cellsWith_L4 n y1 (y2 + (1 : Int32)) (y3 + (1 : Int32)) m) else (f_X6_cellsWith_L4 n y1 y2 (y3 + (1 : Int32)) m))
def f_X6_cellsWith (x1 : Int32) (m : fm_M) : Option (Int32) :=
  f_X6_cellsWith_L4 fm_F x1 (0 : Int32) (0 : Int32) m
set_option maxRecDepth 100000 in
set_option maxHeartbeats 4000000 in
theorem c_X6_cellsWith_L4 {X : List fm_L} : ∀ (n : Nat) (y1 : Int32) (y2 : Int32) (y3 : Int32) (m : fm_M) (res : Int32), f_X6_cellsWith_L4 n y1 y2 y3 m = some res → fm_Go (fm_layH ++ X) 1 m_X6_cellsWith (fm_pi res m) 4 [some (.ref 0), some (.int y1), some (.int y2), some (.int y3)] [] m := by
  intro n
  induction n with
  | zero => intro y1 y2 y3 m res h; cases h
  | succ n ih =>
    intro y1 y2 y3 m res h
    rw [f_X6_cellsWith_L4] at h
    refine go_iload_n (pc := 4) dX6_cellsWith_4 rfl rfl ?_
    refine go_bipush (pc := 5) (v := (8 : Int32)) dX6_cellsWith_5 (by decide) ?_
    refine go_icmp_ge (pc := 7) (tgt := 35) dX6_cellsWith_7 (by decide) (fun c1 => ?_) (fun c1 => ?_)
    · rw [if_pos c1] at h
      refine go_iload_n (pc := 35) dX6_cellsWith_35 rfl rfl ?_
      obtain rfl := Option.some.inj h
      exact go_iret (pc := 36) .int dX6_cellsWith_36 rfl rfl ⟨rfl, rfl⟩
    · rw [if_neg c1] at h
      refine go_aload_n (pc := 10) dX6_cellsWith_10 rfl rfl ?_
      refine go_getR (pc := 11) (k := 0) (q2 := 1) dX6_cellsWith_11 cl_X6 rfl rfl (by decide) lk_X6_12 ?_
      refine go_sipush (pc := 14) (v := (224 : Int32)) dX6_cellsWith_14 (by decide) ?_
      refine go_iload_n (pc := 17) dX6_cellsWith_17 rfl rfl ?_
      refine go_iadd (pc := 18) dX6_cellsWith_18 ?_
      obtain ⟨v2, hv3, h⟩ := fm_bind h
      refine go_callVi (pc := 19) (As := [.int ((224 : Int32) + y3)]) (st := []) dX6_cellsWith_19 (c_X5_get (p := 1) (r := 2) rfl rfl _ _ hv3) (by decide) ce_X5_get ml_X6_137 in_X5_get se_X5_get cl_X5 rfl rfl (Nat.le_of_ble_eq_true rfl) rfl ?_
      refine go_iload_n (pc := 22) dX6_cellsWith_22 rfl rfl ?_
      refine go_icmp_ne (pc := 23) (tgt := 29) dX6_cellsWith_23 (by decide) (fun c4 => ?_) (fun c4 => ?_)
      · rw [if_neg c4] at h
        refine go_iinc (pc := 29) (v := (y3 + (1 : Int32))) (ls1 := [some (.ref 0), some (.int y1), some (.int y2), some (.int (y3 + (1 : Int32)))]) dX6_cellsWith_29 rfl rfl (Nat.le_of_ble_eq_true rfl) rfl ?_
        refine go_goto (pc := 32) (tgt := 4) dX6_cellsWith_32 (by decide) ?_
        exact ih _ _ _ _ _ h
      · rw [if_pos c4] at h
        refine go_iinc (pc := 26) (v := (y2 + (1 : Int32))) (ls1 := [some (.ref 0), some (.int y1), some (.int (y2 + (1 : Int32))), some (.int y3)]) dX6_cellsWith_26 rfl rfl (Nat.le_of_ble_eq_true rfl) rfl ?_
        refine go_iinc (pc := 29) (v := (y3 + (1 : Int32))) (ls1 := [some (.ref 0), some (.int y1), some (.int (y2 + (1 : Int32))), some (.int (y3 + (1 : Int32)))]) dX6_cellsWith_29 rfl rfl (Nat.le_of_ble_eq_true rfl) rfl ?_
        refine go_goto (pc := 32) (tgt := 4) dX6_cellsWith_32 (by decide) ?_
        exact ih _ _ _ _ _ h
set_option maxRecDepth 100000 in
set_option maxHeartbeats 4000000 in
theorem c_X6_cellsWith {X : List fm_L} (x1 : Int32) (m : fm_M) {res : Int32} (h : f_X6_cellsWith x1 m = some res) : fm_Met (fm_layH ++ X) 1 m_X6_cellsWith [.ref 0, .int x1] m (fm_pi res m) := by
  refine fm_Met_of (ls := [some (.ref 0), some (.int x1), none, none]) (by decide) rfl (fm_cc_r _ (fm_cc_i _ fm_cc_0)) (Nat.le_of_ble_eq_true rfl) rfl ?_
  unfold f_X6_cellsWith at h
  refine go_iconst (pc := 0) (v := (0 : Int32)) dX6_cellsWith_0 (by decide) ?_
  refine go_istore_n (pc := 1) (ls1 := [some (.ref 0), some (.int x1), some (.int (0 : Int32)), none]) dX6_cellsWith_1 rfl (by decide) rfl ?_
  refine go_iconst (pc := 2) (v := (0 : Int32)) dX6_cellsWith_2 (by decide) ?_
  refine go_istore_n (pc := 3) (ls1 := [some (.ref 0), some (.int x1), some (.int (0 : Int32)), some (.int (0 : Int32))]) dX6_cellsWith_3 rfl (by decide) rfl ?_
  exact c_X6_cellsWith_L4  fm_F _ _ _ _ _ h
def f_X6_isBalanced_L43 : Nat → Int32 → Int32 → Int32 → Int32 → fm_M → Option (Int32)
  | 0, _, _, _, _, _ => none
  | n + 1, y1, y2, y3, y4, m => if (16 : Int32) ≤ y4 then (if y3 = 0 then (some (0 : Int32)) else ((f_X5_get 1 2 (288 : Int32) m).bind fun v9 => if v9 = y1 then ((f_X5_get 1 2 (290 : Int32) m).bind fun v12 => if v12 = y2 then (some (1 : Int32)) else (some (0 : Int32))) else (some (0 : Int32)))) else ((f_X5_of 1 2 (6 : Int32) y4 m).bind fun v15 => if y3 = 0 then (f_X6_isBalanced_L43 n y1 (y2 + v15) (0 : Int32) (y4 + (1 : Int32)) m) else ((f_X6_cellsWith y4 m).bind fun v18 => (f_X5_is 1 2 (1 : Int32) y4 m).bind fun v20 => if v20 = true then (if v18 = (1 : Int32) then (f_X6_isBalanced_L43 n y1 (y2 + v15) (1 : Int32) (y4 + (1 : Int32)) m) else (f_X6_isBalanced_L43 n y1 (y2 + v15) (0 : Int32) (y4 + (1 : Int32)) m)) else (if v18 = (0 : Int32) then (f_X6_isBalanced_L43 n y1 (y2 + v15) (1 : Int32) (y4 + (1 : Int32)) m) else (f_X6_isBalanced_L43 n y1 (y2 + v15) (0 : Int32) (y4 + (1 : Int32)) m))))
def f_X6_isBalanced (m : fm_M) : Option (Int32) :=
  (f_X5_get 1 2 (289 : Int32) m).bind fun v1 => (f_X5_get 1 2 (290 : Int32) m).bind fun v3 => (f_X5_get 1 2 (291 : Int32) m).bind fun v5 => f_X6_isBalanced_L43 fm_F ((((100 : Int32) + v1) - v3) - v5) (0 : Int32) (1 : Int32) (0 : Int32) m
set_option maxRecDepth 100000 in
set_option maxHeartbeats 4000000 in
theorem c_X6_isBalanced_L43 {X : List fm_L} : ∀ (n : Nat) (y1 : Int32) (y2 : Int32) (y3 : Int32) (y4 : Int32) (m : fm_M) (res : Int32), f_X6_isBalanced_L43 n y1 y2 y3 y4 m = some res → fm_Go (fm_layH ++ X) 2 m_X6_isBalanced (fm_pi res m) 43 [some (.ref 0), some (.int y1), some (.int y2), some (.int y3), some (.int y4)] [] m := by
  intro n
  induction n with
  | zero => intro y1 y2 y3 y4 m res h; cases h
  | succ n ih =>
    intro y1 y2 y3 y4 m res h
    rw [f_X6_isBalanced_L43] at h
    refine go_iload (pc := 43) dX6_isBalanced_43 rfl ?_
    refine go_bipush (pc := 45) (v := (16 : Int32)) dX6_isBalanced_45 (by decide) ?_
    refine go_icmp_ge (pc := 47) (tgt := 107) dX6_isBalanced_47 (by decide) (fun c7 => ?_) (fun c7 => ?_)
    · rw [if_pos c7] at h
      refine go_iload_n (pc := 107) dX6_isBalanced_107 rfl rfl ?_
      refine go_if_eq (pc := 108) (tgt := 143) dX6_isBalanced_108 (by decide) (fun c8 => ?_) (fun c8 => ?_)
      · rw [if_pos c8] at h
        refine go_iconst (pc := 143) (v := (0 : Int32)) dX6_isBalanced_143 (by decide) ?_
        obtain rfl := Option.some.inj h
        exact go_iret (pc := 144) .int dX6_isBalanced_144 rfl rfl ⟨rfl, rfl⟩
      · rw [if_neg c8] at h
        refine go_aload_n (pc := 111) dX6_isBalanced_111 rfl rfl ?_
        refine go_getR (pc := 112) (k := 0) (q2 := 1) dX6_isBalanced_112 cl_X6 rfl rfl (by decide) lk_X6_12 ?_
        refine go_sipush (pc := 115) (v := (288 : Int32)) dX6_isBalanced_115 (by decide) ?_
        obtain ⟨v9, hv10, h⟩ := fm_bind h
        refine go_callVi (pc := 118) (As := [.int (288 : Int32)]) (st := []) dX6_isBalanced_118 (c_X5_get (p := 1) (r := 2) rfl rfl _ _ hv10) (by decide) ce_X5_get ml_X6_137 in_X5_get se_X5_get cl_X5 rfl rfl (Nat.le_of_ble_eq_true rfl) rfl ?_
        refine go_iload_n (pc := 121) dX6_isBalanced_121 rfl rfl ?_
        refine go_icmp_ne (pc := 122) (tgt := 143) dX6_isBalanced_122 (by decide) (fun c11 => ?_) (fun c11 => ?_)
        · rw [if_neg c11] at h
          refine go_iconst (pc := 143) (v := (0 : Int32)) dX6_isBalanced_143 (by decide) ?_
          obtain rfl := Option.some.inj h
          exact go_iret (pc := 144) .int dX6_isBalanced_144 rfl rfl ⟨rfl, rfl⟩
        · rw [if_pos c11] at h
          refine go_aload_n (pc := 125) dX6_isBalanced_125 rfl rfl ?_
          refine go_getR (pc := 126) (k := 0) (q2 := 1) dX6_isBalanced_126 cl_X6 rfl rfl (by decide) lk_X6_12 ?_
          refine go_sipush (pc := 129) (v := (290 : Int32)) dX6_isBalanced_129 (by decide) ?_
          obtain ⟨v12, hv13, h⟩ := fm_bind h
          refine go_callVi (pc := 132) (As := [.int (290 : Int32)]) (st := []) dX6_isBalanced_132 (c_X5_get (p := 1) (r := 2) rfl rfl _ _ hv13) (by decide) ce_X5_get ml_X6_137 in_X5_get se_X5_get cl_X5 rfl rfl (Nat.le_of_ble_eq_true rfl) rfl ?_
          refine go_iload_n (pc := 135) dX6_isBalanced_135 rfl rfl ?_
          refine go_icmp_ne (pc := 136) (tgt := 143) dX6_isBalanced_136 (by decide) (fun c14 => ?_) (fun c14 => ?_)
          · rw [if_neg c14] at h
            refine go_iconst (pc := 143) (v := (0 : Int32)) dX6_isBalanced_143 (by decide) ?_
            obtain rfl := Option.some.inj h
            exact go_iret (pc := 144) .int dX6_isBalanced_144 rfl rfl ⟨rfl, rfl⟩
          · rw [if_pos c14] at h
            refine go_iconst (pc := 139) (v := (1 : Int32)) dX6_isBalanced_139 (by decide) ?_
            refine go_goto (pc := 140) (tgt := 144) dX6_isBalanced_140 (by decide) ?_
            obtain rfl := Option.some.inj h
            exact go_iret (pc := 144) .int dX6_isBalanced_144 rfl rfl ⟨rfl, rfl⟩
    · rw [if_neg c7] at h
      refine go_iload_n (pc := 50) dX6_isBalanced_50 rfl rfl ?_
      refine go_aload_n (pc := 51) dX6_isBalanced_51 rfl rfl ?_
      refine go_getR (pc := 52) (k := 0) (q2 := 1) dX6_isBalanced_52 cl_X6 rfl rfl (by decide) lk_X6_12 ?_
      refine go_bipush (pc := 55) (v := (6 : Int32)) dX6_isBalanced_55 (by decide) ?_
      refine go_iload (pc := 57) dX6_isBalanced_57 rfl ?_
      obtain ⟨v15, hv16, h⟩ := fm_bind h
      refine go_callVi (pc := 59) (As := [.int (6 : Int32), .int y4]) (st := [.int y2]) dX6_isBalanced_59 (c_X5_of (p := 1) (r := 2) rfl rfl _ _ _ hv16) (by decide) ce_X5_of ml_X6_118 in_X5_of se_X5_of cl_X5 rfl rfl (Nat.le_of_ble_eq_true rfl) rfl ?_
      refine go_iadd (pc := 62) dX6_isBalanced_62 ?_
      refine go_istore_n (pc := 63) (ls1 := [some (.ref 0), some (.int y1), some (.int (y2 + v15)), some (.int y3), some (.int y4)]) dX6_isBalanced_63 rfl (by decide) rfl ?_
      refine go_iload_n (pc := 64) dX6_isBalanced_64 rfl rfl ?_
      refine go_if_eq (pc := 65) (tgt := 99) dX6_isBalanced_65 (by decide) (fun c17 => ?_) (fun c17 => ?_)
      · rw [if_pos c17] at h
        refine go_iconst (pc := 99) (v := (0 : Int32)) dX6_isBalanced_99 (by decide) ?_
        refine go_istore_n (pc := 100) (ls1 := [some (.ref 0), some (.int y1), some (.int (y2 + v15)), some (.int (0 : Int32)), some (.int y4)]) dX6_isBalanced_100 rfl (by decide) rfl ?_
        refine go_iinc (pc := 101) (v := (y4 + (1 : Int32))) (ls1 := [some (.ref 0), some (.int y1), some (.int (y2 + v15)), some (.int (0 : Int32)), some (.int (y4 + (1 : Int32)))]) dX6_isBalanced_101 rfl rfl (Nat.le_of_ble_eq_true rfl) rfl ?_
        refine go_goto (pc := 104) (tgt := 43) dX6_isBalanced_104 (by decide) ?_
        exact ih _ _ _ _ _ _ h
      · rw [if_neg c17] at h
        refine go_aload_n (pc := 68) dX6_isBalanced_68 rfl rfl ?_
        refine go_iload (pc := 69) dX6_isBalanced_69 rfl ?_
        obtain ⟨v18, hv19, h⟩ := fm_bind h
        refine go_callVi (pc := 71) (As := [.int y4]) (st := []) dX6_isBalanced_71 (c_X6_cellsWith   _ _ hv19) (by decide) ce_X6_cellsWith ml_X6_216 in_X6_cellsWith se_X6_cellsWith cl_X6 rfl rfl (Nat.le_of_ble_eq_true rfl) rfl ?_
        refine go_aload_n (pc := 74) dX6_isBalanced_74 rfl rfl ?_
        refine go_getR (pc := 75) (k := 0) (q2 := 1) dX6_isBalanced_75 cl_X6 rfl rfl (by decide) lk_X6_12 ?_
        refine go_iconst (pc := 78) (v := (1 : Int32)) dX6_isBalanced_78 (by decide) ?_
        refine go_iload (pc := 79) dX6_isBalanced_79 rfl ?_
        obtain ⟨v20, hv21, h⟩ := fm_bind h
        refine go_callVi (pc := 81) (As := [.int (1 : Int32), .int y4]) (st := [.int v18]) dX6_isBalanced_81 (c_X5_is (p := 1) (r := 2) rfl rfl _ _ _ hv21) (by decide) ce_X5_is ml_X6_121 in_X5_is se_X5_is cl_X5 rfl rfl (Nat.le_of_ble_eq_true rfl) rfl ?_
        refine go_ifb_eq (pc := 84) (tgt := 91) dX6_isBalanced_84 (by decide) (fun c22 => ?_) (fun c22 => ?_)
        · rw [if_neg (by rw [c22]; decide)] at h
          refine go_iconst (pc := 91) (v := (0 : Int32)) dX6_isBalanced_91 (by decide) ?_
          refine go_icmp_ne (pc := 92) (tgt := 99) dX6_isBalanced_92 (by decide) (fun c23 => ?_) (fun c23 => ?_)
          · rw [if_neg c23] at h
            refine go_iconst (pc := 99) (v := (0 : Int32)) dX6_isBalanced_99 (by decide) ?_
            refine go_istore_n (pc := 100) (ls1 := [some (.ref 0), some (.int y1), some (.int (y2 + v15)), some (.int (0 : Int32)), some (.int y4)]) dX6_isBalanced_100 rfl (by decide) rfl ?_
            refine go_iinc (pc := 101) (v := (y4 + (1 : Int32))) (ls1 := [some (.ref 0), some (.int y1), some (.int (y2 + v15)), some (.int (0 : Int32)), some (.int (y4 + (1 : Int32)))]) dX6_isBalanced_101 rfl rfl (Nat.le_of_ble_eq_true rfl) rfl ?_
            refine go_goto (pc := 104) (tgt := 43) dX6_isBalanced_104 (by decide) ?_
            exact ih _ _ _ _ _ _ h
          · rw [if_pos c23] at h
            refine go_iconst (pc := 95) (v := (1 : Int32)) dX6_isBalanced_95 (by decide) ?_
            refine go_goto (pc := 96) (tgt := 100) dX6_isBalanced_96 (by decide) ?_
            refine go_istore_n (pc := 100) (ls1 := [some (.ref 0), some (.int y1), some (.int (y2 + v15)), some (.int (1 : Int32)), some (.int y4)]) dX6_isBalanced_100 rfl (by decide) rfl ?_
            refine go_iinc (pc := 101) (v := (y4 + (1 : Int32))) (ls1 := [some (.ref 0), some (.int y1), some (.int (y2 + v15)), some (.int (1 : Int32)), some (.int (y4 + (1 : Int32)))]) dX6_isBalanced_101 rfl rfl (Nat.le_of_ble_eq_true rfl) rfl ?_
            refine go_goto (pc := 104) (tgt := 43) dX6_isBalanced_104 (by decide) ?_
            exact ih _ _ _ _ _ _ h
        · rw [if_pos c22] at h
          refine go_iconst (pc := 87) (v := (1 : Int32)) dX6_isBalanced_87 (by decide) ?_
          refine go_goto (pc := 88) (tgt := 92) dX6_isBalanced_88 (by decide) ?_
          refine go_icmp_ne (pc := 92) (tgt := 99) dX6_isBalanced_92 (by decide) (fun c24 => ?_) (fun c24 => ?_)
          · rw [if_neg c24] at h
            refine go_iconst (pc := 99) (v := (0 : Int32)) dX6_isBalanced_99 (by decide) ?_
            refine go_istore_n (pc := 100) (ls1 := [some (.ref 0), some (.int y1), some (.int (y2 + v15)), some (.int (0 : Int32)), some (.int y4)]) dX6_isBalanced_100 rfl (by decide) rfl ?_
            refine go_iinc (pc := 101) (v := (y4 + (1 : Int32))) (ls1 := [some (.ref 0), some (.int y1), some (.int (y2 + v15)), some (.int (0 : Int32)), some (.int (y4 + (1 : Int32)))]) dX6_isBalanced_101 rfl rfl (Nat.le_of_ble_eq_true rfl) rfl ?_
            refine go_goto (pc := 104) (tgt := 43) dX6_isBalanced_104 (by decide) ?_
            exact ih _ _ _ _ _ _ h
          · rw [if_pos c24] at h
            refine go_iconst (pc := 95) (v := (1 : Int32)) dX6_isBalanced_95 (by decide) ?_
            refine go_goto (pc := 96) (tgt := 100) dX6_isBalanced_96 (by decide) ?_
            refine go_istore_n (pc := 100) (ls1 := [some (.ref 0), some (.int y1), some (.int (y2 + v15)), some (.int (1 : Int32)), some (.int y4)]) dX6_isBalanced_100 rfl (by decide) rfl ?_
            refine go_iinc (pc := 101) (v := (y4 + (1 : Int32))) (ls1 := [some (.ref 0), some (.int y1), some (.int (y2 + v15)), some (.int (1 : Int32)), some (.int (y4 + (1 : Int32)))]) dX6_isBalanced_101 rfl rfl (Nat.le_of_ble_eq_true rfl) rfl ?_
            refine go_goto (pc := 104) (tgt := 43) dX6_isBalanced_104 (by decide) ?_
            exact ih _ _ _ _ _ _ h
set_option maxRecDepth 100000 in
set_option maxHeartbeats 4000000 in
theorem c_X6_isBalanced {X : List fm_L} (m : fm_M) {res : Int32} (h : f_X6_isBalanced  m = some res) : fm_Met (fm_layH ++ X) 2 m_X6_isBalanced [.ref 0] m (fm_pi res m) := by
  refine fm_Met_of (ls := [some (.ref 0), none, none, none, none]) (by decide) rfl (fm_cc_r _ fm_cc_0) (Nat.le_of_ble_eq_true rfl) rfl ?_
  unfold f_X6_isBalanced at h
  refine go_bipush (pc := 0) (v := (100 : Int32)) dX6_isBalanced_0 (by decide) ?_
  refine go_aload_n (pc := 2) dX6_isBalanced_2 rfl rfl ?_
  refine go_getR (pc := 3) (k := 0) (q2 := 1) dX6_isBalanced_3 cl_X6 rfl rfl (by decide) lk_X6_12 ?_
  refine go_sipush (pc := 6) (v := (289 : Int32)) dX6_isBalanced_6 (by decide) ?_
  obtain ⟨v1, hv2, h⟩ := fm_bind h
  refine go_callVi (pc := 9) (As := [.int (289 : Int32)]) (st := [.int (100 : Int32)]) dX6_isBalanced_9 (c_X5_get (p := 1) (r := 2) rfl rfl _ _ hv2) (by decide) ce_X5_get ml_X6_137 in_X5_get se_X5_get cl_X5 rfl rfl (Nat.le_of_ble_eq_true rfl) rfl ?_
  refine go_iadd (pc := 12) dX6_isBalanced_12 ?_
  refine go_aload_n (pc := 13) dX6_isBalanced_13 rfl rfl ?_
  refine go_getR (pc := 14) (k := 0) (q2 := 1) dX6_isBalanced_14 cl_X6 rfl rfl (by decide) lk_X6_12 ?_
  refine go_sipush (pc := 17) (v := (290 : Int32)) dX6_isBalanced_17 (by decide) ?_
  obtain ⟨v3, hv4, h⟩ := fm_bind h
  refine go_callVi (pc := 20) (As := [.int (290 : Int32)]) (st := [.int ((100 : Int32) + v1)]) dX6_isBalanced_20 (c_X5_get (p := 1) (r := 2) rfl rfl _ _ hv4) (by decide) ce_X5_get ml_X6_137 in_X5_get se_X5_get cl_X5 rfl rfl (Nat.le_of_ble_eq_true rfl) rfl ?_
  refine go_isub (pc := 23) dX6_isBalanced_23 ?_
  refine go_aload_n (pc := 24) dX6_isBalanced_24 rfl rfl ?_
  refine go_getR (pc := 25) (k := 0) (q2 := 1) dX6_isBalanced_25 cl_X6 rfl rfl (by decide) lk_X6_12 ?_
  refine go_sipush (pc := 28) (v := (291 : Int32)) dX6_isBalanced_28 (by decide) ?_
  obtain ⟨v5, hv6, h⟩ := fm_bind h
  refine go_callVi (pc := 31) (As := [.int (291 : Int32)]) (st := [.int (((100 : Int32) + v1) - v3)]) dX6_isBalanced_31 (c_X5_get (p := 1) (r := 2) rfl rfl _ _ hv6) (by decide) ce_X5_get ml_X6_137 in_X5_get se_X5_get cl_X5 rfl rfl (Nat.le_of_ble_eq_true rfl) rfl ?_
  refine go_isub (pc := 34) dX6_isBalanced_34 ?_
  refine go_istore_n (pc := 35) (ls1 := [some (.ref 0), some (.int ((((100 : Int32) + v1) - v3) - v5)), none, none, none]) dX6_isBalanced_35 rfl (by decide) rfl ?_
  refine go_iconst (pc := 36) (v := (0 : Int32)) dX6_isBalanced_36 (by decide) ?_
  refine go_istore_n (pc := 37) (ls1 := [some (.ref 0), some (.int ((((100 : Int32) + v1) - v3) - v5)), some (.int (0 : Int32)), none, none]) dX6_isBalanced_37 rfl (by decide) rfl ?_
  refine go_iconst (pc := 38) (v := (1 : Int32)) dX6_isBalanced_38 (by decide) ?_
  refine go_istore_n (pc := 39) (ls1 := [some (.ref 0), some (.int ((((100 : Int32) + v1) - v3) - v5)), some (.int (0 : Int32)), some (.int (1 : Int32)), none]) dX6_isBalanced_39 rfl (by decide) rfl ?_
  refine go_iconst (pc := 40) (v := (0 : Int32)) dX6_isBalanced_40 (by decide) ?_
  refine go_istore (pc := 41) (ls1 := [some (.ref 0), some (.int ((((100 : Int32) + v1) - v3) - v5)), some (.int (0 : Int32)), some (.int (1 : Int32)), some (.int (0 : Int32))]) dX6_isBalanced_41 (by decide) rfl ?_
  exact c_X6_isBalanced_L43  fm_F _ _ _ _ _ _ h
def f_X6_undo (m : fm_M) : Option (Int32 × fm_M) :=
  (f_X1_giveBack 1 2 m).bind fun v1 => if v1.1 = true then ((f_X1_size v1.2).bind fun v4 => some (v4, v1.2)) else (some ((-15 : Int32), v1.2))
set_option maxRecDepth 100000 in
set_option maxHeartbeats 4000000 in
theorem c_X6_undo {X : List fm_L} (m : fm_M) {res : Int32 × fm_M} (h : f_X6_undo  m = some res) : fm_Met (fm_layH ++ X) 4 m_X6_undo [.ref 0] m (fm_pi res.1 res.2) := by
  refine fm_Met_of (ls := [some (.ref 0)]) (by decide) rfl (fm_cc_r _ fm_cc_0) (Nat.le_of_ble_eq_true rfl) rfl ?_
  unfold f_X6_undo at h
  refine go_aload_n (pc := 0) dX6_undo_0 rfl rfl ?_
  refine go_getR (pc := 1) (k := 4) (q2 := 12) dX6_undo_1 cl_X6 rfl rfl (by decide) lk_X6_36 ?_
  refine go_aload_n (pc := 4) dX6_undo_4 rfl rfl ?_
  refine go_getR (pc := 5) (k := 0) (q2 := 1) dX6_undo_5 cl_X6 rfl rfl (by decide) lk_X6_12 ?_
  obtain ⟨v1, hv2, h⟩ := fm_bind h
  refine go_callVi (pc := 8) (As := [.ref 1]) (st := []) dX6_undo_8 (c_X1_giveBack (p2 := 1) (r2 := 2) rfl rfl _ hv2) (by decide) ce_X1_giveBack ml_X6_222 in_X1_giveBack se_X1_giveBack cl_X1 rfl rfl (Nat.le_of_ble_eq_true rfl) rfl ?_
  refine go_ifb_eq (pc := 11) (tgt := 24) dX6_undo_11 (by decide) (fun c3 => ?_) (fun c3 => ?_)
  · rw [if_neg (by rw [c3]; decide)] at h
    refine go_bipush (pc := 24) (v := (-15 : Int32)) dX6_undo_24 (by decide) ?_
    obtain rfl := Option.some.inj h
    exact go_iret (pc := 26) .int dX6_undo_26 rfl rfl ⟨rfl, rfl⟩
  · rw [if_pos c3] at h
    refine go_aload_n (pc := 14) dX6_undo_14 rfl rfl ?_
    refine go_getR (pc := 15) (k := 4) (q2 := 12) dX6_undo_15 cl_X6 rfl rfl (by decide) lk_X6_36 ?_
    obtain ⟨v4, hv5, h⟩ := fm_bind h
    refine go_callVi (pc := 18) (As := []) (st := []) dX6_undo_18 (c_X1_size   _ hv5) (by decide) ce_X1_size ml_X6_215 in_X1_size se_X1_size cl_X1 rfl rfl (Nat.le_of_ble_eq_true rfl) rfl ?_
    refine go_goto (pc := 21) (tgt := 26) dX6_undo_21 (by decide) ?_
    obtain rfl := Option.some.inj h
    exact go_iret (pc := 26) .int dX6_undo_26 rfl rfl ⟨rfl, rfl⟩
def f_X6_save (m : fm_M) : Option (Int32 × fm_M) :=
  (f_X5_copyFrom 3 4 1 2 m).bind fun v1 => (f_X5_get 1 2 (284 : Int32) (fm_put v1 0 9 (1 : Int32))).bind fun v3 => some (v3, (fm_put v1 0 9 (1 : Int32)))
set_option maxRecDepth 100000 in
set_option maxHeartbeats 4000000 in
theorem c_X6_save {X : List fm_L} (m : fm_M) {res : Int32 × fm_M} (h : f_X6_save  m = some res) : fm_Met (fm_layH ++ X) 3 m_X6_save [.ref 0] m (fm_pi res.1 res.2) := by
  refine fm_Met_of (ls := [some (.ref 0)]) (by decide) rfl (fm_cc_r _ fm_cc_0) (Nat.le_of_ble_eq_true rfl) rfl ?_
  unfold f_X6_save at h
  refine go_aload_n (pc := 0) dX6_save_0 rfl rfl ?_
  refine go_getR (pc := 1) (k := 1) (q2 := 3) dX6_save_1 cl_X6 rfl rfl (by decide) lk_X6_16 ?_
  refine go_aload_n (pc := 4) dX6_save_4 rfl rfl ?_
  refine go_getR (pc := 5) (k := 0) (q2 := 1) dX6_save_5 cl_X6 rfl rfl (by decide) lk_X6_12 ?_
  obtain ⟨v1, hv2, h⟩ := fm_bind h
  refine go_callVv (pc := 8) (As := [.ref 1]) (st := []) dX6_save_8 (c_X5_copyFrom (p := 3) (r := 4) (p2 := 1) (r2 := 2) rfl rfl rfl rfl _ hv2) (by decide) ce_X5_copyFrom ml_X6_226 in_X5_copyFrom se_X5_copyFrom cl_X5 rfl rfl (Nat.le_of_ble_eq_true rfl) rfl ?_
  refine go_aload_n (pc := 11) dX6_save_11 rfl rfl ?_
  refine go_iconst (pc := 12) (v := (1 : Int32)) dX6_save_12 (by decide) ?_
  refine go_put (pc := 13) (k := 9) .boolean dX6_save_13 cl_X6 rfl rfl (by decide) lk_X6_63 rfl (by decide +kernel) rfl rfl ?_
  refine go_aload_n (pc := 16) dX6_save_16 rfl rfl ?_
  refine go_getR (pc := 17) (k := 0) (q2 := 1) dX6_save_17 cl_X6 rfl rfl (by decide) lk_X6_12 ?_
  refine go_sipush (pc := 20) (v := (284 : Int32)) dX6_save_20 (by decide) ?_
  obtain ⟨v3, hv4, h⟩ := fm_bind h
  refine go_callVi (pc := 23) (As := [.int (284 : Int32)]) (st := []) dX6_save_23 (c_X5_get (p := 1) (r := 2) rfl rfl _ _ hv4) (by decide) ce_X5_get ml_X6_137 in_X5_get se_X5_get cl_X5 rfl rfl (Nat.le_of_ble_eq_true rfl) rfl ?_
  obtain rfl := Option.some.inj h
  exact go_iret (pc := 26) .int dX6_save_26 rfl rfl ⟨rfl, rfl⟩
def f_X6_restore (m : fm_M) : Option (Int32 × fm_M) :=
  if (m 0 9) = 0 then (some ((-15 : Int32), m)) else ((f_X5_copyFrom 1 2 3 4 m).bind fun v2 => (f_X1_forget v2).bind fun v4 => (f_X5_get 1 2 (284 : Int32) v4).bind fun v6 => some (v6, v4))
set_option maxRecDepth 100000 in
set_option maxHeartbeats 4000000 in
theorem c_X6_restore {X : List fm_L} (m : fm_M) {res : Int32 × fm_M} (h : f_X6_restore  m = some res) : fm_Met (fm_layH ++ X) 3 m_X6_restore [.ref 0] m (fm_pi res.1 res.2) := by
  refine fm_Met_of (ls := [some (.ref 0)]) (by decide) rfl (fm_cc_r _ fm_cc_0) (Nat.le_of_ble_eq_true rfl) rfl ?_
  unfold f_X6_restore at h
  refine go_aload_n (pc := 0) dX6_restore_0 rfl rfl ?_
  refine go_getI (pc := 1) (k := 9) dX6_restore_1 cl_X6 rfl rfl (by decide) lk_X6_63 ?_
  refine go_if_ne (pc := 4) (tgt := 10) dX6_restore_4 (by decide) (fun c1 => ?_) (fun c1 => ?_)
  · rw [if_neg c1] at h
    refine go_aload_n (pc := 10) dX6_restore_10 rfl rfl ?_
    refine go_getR (pc := 11) (k := 0) (q2 := 1) dX6_restore_11 cl_X6 rfl rfl (by decide) lk_X6_12 ?_
    refine go_aload_n (pc := 14) dX6_restore_14 rfl rfl ?_
    refine go_getR (pc := 15) (k := 1) (q2 := 3) dX6_restore_15 cl_X6 rfl rfl (by decide) lk_X6_16 ?_
    obtain ⟨v2, hv3, h⟩ := fm_bind h
    refine go_callVv (pc := 18) (As := [.ref 3]) (st := []) dX6_restore_18 (c_X5_copyFrom (p := 1) (r := 2) (p2 := 3) (r2 := 4) rfl rfl rfl rfl _ hv3) (by decide) ce_X5_copyFrom ml_X6_226 in_X5_copyFrom se_X5_copyFrom cl_X5 rfl rfl (Nat.le_of_ble_eq_true rfl) rfl ?_
    refine go_aload_n (pc := 21) dX6_restore_21 rfl rfl ?_
    refine go_getR (pc := 22) (k := 4) (q2 := 12) dX6_restore_22 cl_X6 rfl rfl (by decide) lk_X6_36 ?_
    obtain ⟨v4, hv5, h⟩ := fm_bind h
    refine go_callVv (pc := 25) (As := []) (st := []) dX6_restore_25 (c_X1_forget   _ hv5) (by decide) ce_X1_forget ml_X6_230 in_X1_forget se_X1_forget cl_X1 rfl rfl (Nat.le_of_ble_eq_true rfl) rfl ?_
    refine go_aload_n (pc := 28) dX6_restore_28 rfl rfl ?_
    refine go_getR (pc := 29) (k := 0) (q2 := 1) dX6_restore_29 cl_X6 rfl rfl (by decide) lk_X6_12 ?_
    refine go_sipush (pc := 32) (v := (284 : Int32)) dX6_restore_32 (by decide) ?_
    obtain ⟨v6, hv7, h⟩ := fm_bind h
    refine go_callVi (pc := 35) (As := [.int (284 : Int32)]) (st := []) dX6_restore_35 (c_X5_get (p := 1) (r := 2) rfl rfl _ _ hv7) (by decide) ce_X5_get ml_X6_137 in_X5_get se_X5_get cl_X5 rfl rfl (Nat.le_of_ble_eq_true rfl) rfl ?_
    obtain rfl := Option.some.inj h
    exact go_iret (pc := 38) .int dX6_restore_38 rfl rfl ⟨rfl, rfl⟩
  · rw [if_pos c1] at h
    refine go_bipush (pc := 7) (v := (-15 : Int32)) dX6_restore_7 (by decide) ?_
    obtain rfl := Option.some.inj h
    exact go_iret (pc := 9) .int dX6_restore_9 rfl rfl ⟨rfl, rfl⟩

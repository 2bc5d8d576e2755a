def f_L_come (x1 : Int32) (x2 : Int32) (m : fm_M) : Option (Int64 × fm_M) :=
  (f_X6_come x1 x2 m).bind fun v1 => some ((v1.1.toInt64), v1.2)
set_option maxRecDepth 100000 in
set_option maxHeartbeats 4000000 in
theorem c_L_come {L : Nat} {xs : Nat → Int32} {X : List fm_L} (x1 : Int32) (x2 : Int32) (m : fm_M) {res : Int64 × fm_M} (h : f_L_come x1 x2 m = some res) : fl_Met L xs (fm_layH ++ X) 6 m_L_come [.ref 0, .int x1, .int x2] m (fm_pj res.1 res.2) := by
  refine fl_Met_of (ls := [some (.ref 0), some (.int x1), some (.int x2)]) (by decide) rfl (fm_cc_r _ (fm_cc_i _ (fm_cc_i _ fm_cc_0))) (Nat.le_of_ble_eq_true rfl) rfl ?_
  unfold f_L_come at h
  refine lo_aload_n (pc := 0) dL_come_0 rfl rfl ?_
  refine lo_iload_n (pc := 1) dL_come_1 rfl rfl ?_
  refine lo_iload_n (pc := 2) dL_come_2 rfl rfl ?_
  obtain ⟨v1, hv2, h⟩ := fm_bind h
  refine lo_callVi (pc := 3) (As := [.int x1, .int x2]) (st := []) dL_come_3 (c_X6_come _ _ _ hv2) (by decide) ce_X6_come ml_L_7 in_X6_come se_X6_come cl_X6 rfl rfl (Nat.le_of_ble_eq_true rfl) rfl ?_
  refine lo_i2l (pc := 6) dL_come_6 ?_
  obtain rfl := Option.some.inj h
  exact lo_lret (pc := 7) dL_come_7 rfl ⟨rfl, rfl⟩
def f_L_withdraw (x1 : Int32) (m : fm_M) : Option (Int64 × fm_M) :=
  (f_X6_withdraw x1 m).bind fun v1 => some ((v1.1.toInt64), v1.2)
set_option maxRecDepth 100000 in
set_option maxHeartbeats 4000000 in
theorem c_L_withdraw {L : Nat} {xs : Nat → Int32} {X : List fm_L} (x1 : Int32) (m : fm_M) {res : Int64 × fm_M} (h : f_L_withdraw x1 m = some res) : fl_Met L xs (fm_layH ++ X) 6 m_L_withdraw [.ref 0, .int x1] m (fm_pj res.1 res.2) := by
  refine fl_Met_of (ls := [some (.ref 0), some (.int x1)]) (by decide) rfl (fm_cc_r _ (fm_cc_i _ fm_cc_0)) (Nat.le_of_ble_eq_true rfl) rfl ?_
  unfold f_L_withdraw at h
  refine lo_aload_n (pc := 0) dL_withdraw_0 rfl rfl ?_
  refine lo_iload_n (pc := 1) dL_withdraw_1 rfl rfl ?_
  obtain ⟨v1, hv2, h⟩ := fm_bind h
  refine lo_callVi (pc := 2) (As := [.int x1]) (st := []) dL_withdraw_2 (c_X6_withdraw _ _ hv2) (by decide) ce_X6_withdraw ml_L_13 in_X6_withdraw se_X6_withdraw cl_X6 rfl rfl (Nat.le_of_ble_eq_true rfl) rfl ?_
  refine lo_i2l (pc := 5) dL_withdraw_5 ?_
  obtain rfl := Option.some.inj h
  exact lo_lret (pc := 6) dL_withdraw_6 rfl ⟨rfl, rfl⟩
def f_L_voice (x1 : Int32) (x2 : Int32) (m : fm_M) : Option (Int64 × fm_M) :=
  (f_X6_voice x1 x2 m).bind fun v1 => some ((v1.1.toInt64), v1.2)
set_option maxRecDepth 100000 in
set_option maxHeartbeats 4000000 in
theorem c_L_voice {L : Nat} {xs : Nat → Int32} {X : List fm_L} (x1 : Int32) (x2 : Int32) (m : fm_M) {res : Int64 × fm_M} (h : f_L_voice x1 x2 m = some res) : fl_Met L xs (fm_layH ++ X) 6 m_L_voice [.ref 0, .int x1, .int x2] m (fm_pj res.1 res.2) := by
  refine fl_Met_of (ls := [some (.ref 0), some (.int x1), some (.int x2)]) (by decide) rfl (fm_cc_r _ (fm_cc_i _ (fm_cc_i _ fm_cc_0))) (Nat.le_of_ble_eq_true rfl) rfl ?_
  unfold f_L_voice at h
  refine lo_aload_n (pc := 0) dL_voice_0 rfl rfl ?_
  refine lo_iload_n (pc := 1) dL_voice_1 rfl rfl ?_
  refine lo_iload_n (pc := 2) dL_voice_2 rfl rfl ?_
  obtain ⟨v1, hv2, h⟩ := fm_bind h
  refine lo_callVi (pc := 3) (As := [.int x1, .int x2]) (st := []) dL_voice_3 (c_X6_voice _ _ _ hv2) (by decide) ce_X6_voice ml_L_17 in_X6_voice se_X6_voice cl_X6 rfl rfl (Nat.le_of_ble_eq_true rfl) rfl ?_
  refine lo_i2l (pc := 6) dL_voice_6 ?_
  obtain rfl := Option.some.inj h
  exact lo_lret (pc := 7) dL_voice_7 rfl ⟨rfl, rfl⟩
def f_L_choose (x1 : Int32) (m : fm_M) : Option (Int64 × fm_M) :=
  (f_X6_choose x1 m).bind fun v1 => some ((v1.1.toInt64), v1.2)
set_option maxRecDepth 100000 in
set_option maxHeartbeats 4000000 in
theorem c_L_choose {L : Nat} {xs : Nat → Int32} {X : List fm_L} (x1 : Int32) (m : fm_M) {res : Int64 × fm_M} (h : f_L_choose x1 m = some res) : fl_Met L xs (fm_layH ++ X) 6 m_L_choose [.ref 0, .int x1] m (fm_pj res.1 res.2) := by
  refine fl_Met_of (ls := [some (.ref 0), some (.int x1)]) (by decide) rfl (fm_cc_r _ (fm_cc_i _ fm_cc_0)) (Nat.le_of_ble_eq_true rfl) rfl ?_
  unfold f_L_choose at h
  refine lo_aload_n (pc := 0) dL_choose_0 rfl rfl ?_
  refine lo_iload_n (pc := 1) dL_choose_1 rfl rfl ?_
  obtain ⟨v1, hv2, h⟩ := fm_bind h
  refine lo_callVi (pc := 2) (As := [.int x1]) (st := []) dL_choose_2 (c_X6_choose _ _ hv2) (by decide) ce_X6_choose ml_L_21 in_X6_choose se_X6_choose cl_X6 rfl rfl (Nat.le_of_ble_eq_true rfl) rfl ?_
  refine lo_i2l (pc := 5) dL_choose_5 ?_
  obtain rfl := Option.some.inj h
  exact lo_lret (pc := 6) dL_choose_6 rfl ⟨rfl, rfl⟩
def f_L_leave (x1 : Int32) (m : fm_M) : Option (Int64 × fm_M) :=
  (f_X6_leave x1 m).bind fun v1 => some ((v1.1.toInt64), v1.2)
set_option maxRecDepth 100000 in
set_option maxHeartbeats 4000000 in
theorem c_L_leave {L : Nat} {xs : Nat → Int32} {X : List fm_L} (x1 : Int32) (m : fm_M) {res : Int64 × fm_M} (h : f_L_leave x1 m = some res) : fl_Met L xs (fm_layH ++ X) 6 m_L_leave [.ref 0, .int x1] m (fm_pj res.1 res.2) := by
  refine fl_Met_of (ls := [some (.ref 0), some (.int x1)]) (by decide) rfl (fm_cc_r _ (fm_cc_i _ fm_cc_0)) (Nat.le_of_ble_eq_true rfl) rfl ?_
  unfold f_L_leave at h
  refine lo_aload_n (pc := 0) dL_leave_0 rfl rfl ?_
  refine lo_iload_n (pc := 1) dL_leave_1 rfl rfl ?_
  obtain ⟨v1, hv2, h⟩ := fm_bind h
  refine lo_callVi (pc := 2) (As := [.int x1]) (st := []) dL_leave_2 (c_X6_leave _ _ hv2) (by decide) ce_X6_leave ml_L_24 in_X6_leave se_X6_leave cl_X6 rfl rfl (Nat.le_of_ble_eq_true rfl) rfl ?_
  refine lo_i2l (pc := 5) dL_leave_5 ?_
  obtain rfl := Option.some.inj h
  exact lo_lret (pc := 6) dL_leave_6 rfl ⟨rfl, rfl⟩
def f_L_feast (x1 : Int32) (x2 : Int32) (m : fm_M) : Option (Int64 × fm_M) :=
  (f_X6_feast x1 x2 m).bind fun v1 => some ((v1.1.toInt64), v1.2)
set_option maxRecDepth 100000 in
set_option maxHeartbeats 4000000 in
theorem c_L_feast {L : Nat} {xs : Nat → Int32} {X : List fm_L} (x1 : Int32) (x2 : Int32) (m : fm_M) {res : Int64 × fm_M} (h : f_L_feast x1 x2 m = some res) : fl_Met L xs (fm_layH ++ X) 6 m_L_feast [.ref 0, .int x1, .int x2] m (fm_pj res.1 res.2) := by
  refine fl_Met_of (ls := [some (.ref 0), some (.int x1), some (.int x2)]) (by decide) rfl (fm_cc_r _ (fm_cc_i _ (fm_cc_i _ fm_cc_0))) (Nat.le_of_ble_eq_true rfl) rfl ?_
  unfold f_L_feast at h
  refine lo_aload_n (pc := 0) dL_feast_0 rfl rfl ?_
  refine lo_iload_n (pc := 1) dL_feast_1 rfl rfl ?_
  refine lo_iload_n (pc := 2) dL_feast_2 rfl rfl ?_
  obtain ⟨v1, hv2, h⟩ := fm_bind h
  refine lo_callVi (pc := 3) (As := [.int x1, .int x2]) (st := []) dL_feast_3 (c_X6_feast _ _ _ hv2) (by decide) ce_X6_feast ml_L_27 in_X6_feast se_X6_feast cl_X6 rfl rfl (Nat.le_of_ble_eq_true rfl) rfl ?_
  refine lo_i2l (pc := 6) dL_feast_6 ?_
  obtain rfl := Option.some.inj h
  exact lo_lret (pc := 7) dL_feast_7 rfl ⟨rfl, rfl⟩
def f_L_breach (x1 : Int32) (x2 : Int32) (m : fm_M) : Option (Int64 × fm_M) :=
  (f_X6_breach x1 x2 m).bind fun v1 => some ((v1.1.toInt64), v1.2)
set_option maxRecDepth 100000 in
set_option maxHeartbeats 4000000 in
theorem c_L_breach {L : Nat} {xs : Nat → Int32} {X : List fm_L} (x1 : Int32) (x2 : Int32) (m : fm_M) {res : Int64 × fm_M} (h : f_L_breach x1 x2 m = some res) : fl_Met L xs (fm_layH ++ X) 6 m_L_breach [.ref 0, .int x1, .int x2] m (fm_pj res.1 res.2) := by
  refine fl_Met_of (ls := [some (.ref 0), some (.int x1), some (.int x2)]) (by decide) rfl (fm_cc_r _ (fm_cc_i _ (fm_cc_i _ fm_cc_0))) (Nat.le_of_ble_eq_true rfl) rfl ?_
  unfold f_L_breach at h
  refine lo_aload_n (pc := 0) dL_breach_0 rfl rfl ?_
  refine lo_iload_n (pc := 1) dL_breach_1 rfl rfl ?_
  refine lo_iload_n (pc := 2) dL_breach_2 rfl rfl ?_
  obtain ⟨v1, hv2, h⟩ := fm_bind h
  refine lo_callVi (pc := 3) (As := [.int x1, .int x2]) (st := []) dL_breach_3 (c_X6_breach _ _ _ hv2) (by decide) ce_X6_breach ml_L_30 in_X6_breach se_X6_breach cl_X6 rfl rfl (Nat.le_of_ble_eq_true rfl) rfl ?_
  refine lo_i2l (pc := 6) dL_breach_6 ?_
  obtain rfl := Option.some.inj h
  exact lo_lret (pc := 7) dL_breach_7 rfl ⟨rfl, rfl⟩
def f_L_pardon (x1 : Int32) (m : fm_M) : Option (Int64 × fm_M) :=
  (f_X6_pardon x1 m).bind fun v1 => some ((v1.1.toInt64), v1.2)
set_option maxRecDepth 100000 in
set_option maxHeartbeats 4000000 in
theorem c_L_pardon {L : Nat} {xs : Nat → Int32} {X : List fm_L} (x1 : Int32) (m : fm_M) {res : Int64 × fm_M} (h : f_L_pardon x1 m = some res) : fl_Met L xs (fm_layH ++ X) 6 m_L_pardon [.ref 0, .int x1] m (fm_pj res.1 res.2) := by
  refine fl_Met_of (ls := [some (.ref 0), some (.int x1)]) (by decide) rfl (fm_cc_r _ (fm_cc_i _ fm_cc_0)) (Nat.le_of_ble_eq_true rfl) rfl ?_
  unfold f_L_pardon at h
  refine lo_aload_n (pc := 0) dL_pardon_0 rfl rfl ?_
  refine lo_iload_n (pc := 1) dL_pardon_1 rfl rfl ?_
  obtain ⟨v1, hv2, h⟩ := fm_bind h
  refine lo_callVi (pc := 2) (As := [.int x1]) (st := []) dL_pardon_2 (c_X6_pardon _ _ hv2) (by decide) ce_X6_pardon ml_L_33 in_X6_pardon se_X6_pardon cl_X6 rfl rfl (Nat.le_of_ble_eq_true rfl) rfl ?_
  refine lo_i2l (pc := 5) dL_pardon_5 ?_
  obtain rfl := Option.some.inj h
  exact lo_lret (pc := 6) dL_pardon_6 rfl ⟨rfl, rfl⟩
def f_L_gift (x1 : Int32) (m : fm_M) : Option (Int64 × fm_M) :=
  (f_X6_gift x1 m).bind fun v1 => some ((v1.1.toInt64), v1.2)
set_option maxRecDepth 100000 in
set_option maxHeartbeats 4000000 in
theorem c_L_gift {L : Nat} {xs : Nat → Int32} {X : List fm_L} (x1 : Int32) (m : fm_M) {res : Int64 × fm_M} (h : f_L_gift x1 m = some res) : fl_Met L xs (fm_layH ++ X) 6 m_L_gift [.ref 0, .int x1] m (fm_pj res.1 res.2) := by
  refine fl_Met_of (ls := [some (.ref 0), some (.int x1)]) (by decide) rfl (fm_cc_r _ (fm_cc_i _ fm_cc_0)) (Nat.le_of_ble_eq_true rfl) rfl ?_
  unfold f_L_gift at h
  refine lo_aload_n (pc := 0) dL_gift_0 rfl rfl ?_
  refine lo_iload_n (pc := 1) dL_gift_1 rfl rfl ?_
  obtain ⟨v1, hv2, h⟩ := fm_bind h
  refine lo_callVi (pc := 2) (As := [.int x1]) (st := []) dL_gift_2 (c_X6_gift _ _ hv2) (by decide) ce_X6_gift ml_L_36 in_X6_gift se_X6_gift cl_X6 rfl rfl (Nat.le_of_ble_eq_true rfl) rfl ?_
  refine lo_i2l (pc := 5) dL_gift_5 ?_
  obtain rfl := Option.some.inj h
  exact lo_lret (pc := 6) dL_gift_6 rfl ⟨rfl, rfl⟩
def f_L_weeks (x1 : Int32) (m : fm_M) : Option (Int64 × fm_M) :=
  (f_X6_weeks x1 m).bind fun v1 => some ((v1.1.toInt64), v1.2)
set_option maxRecDepth 100000 in
set_option maxHeartbeats 4000000 in
theorem c_L_weeks {L : Nat} {xs : Nat → Int32} {X : List fm_L} (x1 : Int32) (m : fm_M) {res : Int64 × fm_M} (h : f_L_weeks x1 m = some res) : fl_Met L xs (fm_layH ++ X) 6 m_L_weeks [.ref 0, .int x1] m (fm_pj res.1 res.2) := by
  refine fl_Met_of (ls := [some (.ref 0), some (.int x1)]) (by decide) rfl (fm_cc_r _ (fm_cc_i _ fm_cc_0)) (Nat.le_of_ble_eq_true rfl) rfl ?_
  unfold f_L_weeks at h
  refine lo_aload_n (pc := 0) dL_weeks_0 rfl rfl ?_
  refine lo_iload_n (pc := 1) dL_weeks_1 rfl rfl ?_
  obtain ⟨v1, hv2, h⟩ := fm_bind h
  refine lo_callVi (pc := 2) (As := [.int x1]) (st := []) dL_weeks_2 (c_X6_weeks _ _ hv2) (by decide) ce_X6_weeks ml_L_39 in_X6_weeks se_X6_weeks cl_X6 rfl rfl (Nat.le_of_ble_eq_true rfl) rfl ?_
  refine lo_i2l (pc := 5) dL_weeks_5 ?_
  obtain rfl := Option.some.inj h
  exact lo_lret (pc := 6) dL_weeks_6 rfl ⟨rfl, rfl⟩
def f_L_brotherOf (x1 : Int32) (x2 : Int32) (m : fm_M) : Option (Int64) :=
  (f_X6_brotherOf x1 x2 m).bind fun v1 => some (v1.toInt64)
set_option maxRecDepth 100000 in
set_option maxHeartbeats 4000000 in
theorem c_L_brotherOf {L : Nat} {xs : Nat → Int32} {X : List fm_L} (x1 : Int32) (x2 : Int32) (m : fm_M) {res : Int64} (h : f_L_brotherOf x1 x2 m = some res) : fl_Met L xs (fm_layH ++ X) 4 m_L_brotherOf [.ref 0, .int x1, .int x2] m (fm_pj res m) := by
  refine fl_Met_of (ls := [some (.ref 0), some (.int x1), some (.int x2)]) (by decide) rfl (fm_cc_r _ (fm_cc_i _ (fm_cc_i _ fm_cc_0))) (Nat.le_of_ble_eq_true rfl) rfl ?_
  unfold f_L_brotherOf at h
  refine lo_aload_n (pc := 0) dL_brotherOf_0 rfl rfl ?_
  refine lo_iload_n (pc := 1) dL_brotherOf_1 rfl rfl ?_
  refine lo_iload_n (pc := 2) dL_brotherOf_2 rfl rfl ?_
  obtain ⟨v1, hv2, h⟩ := fm_bind h
  refine lo_callVi (pc := 3) (As := [.int x1, .int x2]) (st := []) dL_brotherOf_3 (c_X6_brotherOf _ _ _ hv2) (by decide) ce_X6_brotherOf ml_L_42 in_X6_brotherOf se_X6_brotherOf cl_X6 rfl rfl (Nat.le_of_ble_eq_true rfl) rfl ?_
  refine lo_i2l (pc := 6) dL_brotherOf_6 ?_
  obtain rfl := Option.some.inj h
  exact lo_lret (pc := 7) dL_brotherOf_7 rfl ⟨rfl, rfl⟩
def f_L_broke (x1 : Int32) (x2 : Int32) (m : fm_M) : Option (Int64) :=
  (f_X6_broke x1 x2 m).bind fun v1 => some (v1.toInt64)
set_option maxRecDepth 100000 in
set_option maxHeartbeats 4000000 in
theorem c_L_broke {L : Nat} {xs : Nat → Int32} {X : List fm_L} (x1 : Int32) (x2 : Int32) (m : fm_M) {res : Int64} (h : f_L_broke x1 x2 m = some res) : fl_Met L xs (fm_layH ++ X) 3 m_L_broke [.ref 0, .int x1, .int x2] m (fm_pj res m) := by
  refine fl_Met_of (ls := [some (.ref 0), some (.int x1), some (.int x2)]) (by decide) rfl (fm_cc_r _ (fm_cc_i _ (fm_cc_i _ fm_cc_0))) (Nat.le_of_ble_eq_true rfl) rfl ?_
  unfold f_L_broke at h
  refine lo_aload_n (pc := 0) dL_broke_0 rfl rfl ?_
  refine lo_iload_n (pc := 1) dL_broke_1 rfl rfl ?_
  refine lo_iload_n (pc := 2) dL_broke_2 rfl rfl ?_
  obtain ⟨v1, hv2, h⟩ := fm_bind h
  refine lo_callVi (pc := 3) (As := [.int x1, .int x2]) (st := []) dL_broke_3 (c_X6_broke _ _ _ hv2) (by decide) ce_X6_broke ml_L_45 in_X6_broke se_X6_broke cl_X6 rfl rfl (Nat.le_of_ble_eq_true rfl) rfl ?_
  refine lo_i2l (pc := 6) dL_broke_6 ?_
  obtain rfl := Option.some.inj h
  exact lo_lret (pc := 7) dL_broke_7 rfl ⟨rfl, rfl⟩
def f_L_inCell (x1 : Int32) (m : fm_M) : Option (Int64) :=
  (f_X6_inCell x1 m).bind fun v1 => some (v1.toInt64)
set_option maxRecDepth 100000 in
set_option maxHeartbeats 4000000 in
theorem c_L_inCell {L : Nat} {xs : Nat → Int32} {X : List fm_L} (x1 : Int32) (m : fm_M) {res : Int64} (h : f_L_inCell x1 m = some res) : fl_Met L xs (fm_layH ++ X) 2 m_L_inCell [.ref 0, .int x1] m (fm_pj res m) := by
  refine fl_Met_of (ls := [some (.ref 0), some (.int x1)]) (by decide) rfl (fm_cc_r _ (fm_cc_i _ fm_cc_0)) (Nat.le_of_ble_eq_true rfl) rfl ?_
  unfold f_L_inCell at h
  refine lo_aload_n (pc := 0) dL_inCell_0 rfl rfl ?_
  refine lo_iload_n (pc := 1) dL_inCell_1 rfl rfl ?_
  obtain ⟨v1, hv2, h⟩ := fm_bind h
  refine lo_callVi (pc := 2) (As := [.int x1]) (st := []) dL_inCell_2 (c_X6_inCell _ _ hv2) (by decide) ce_X6_inCell ml_L_48 in_X6_inCell se_X6_inCell cl_X6 rfl rfl (Nat.le_of_ble_eq_true rfl) rfl ?_
  refine lo_i2l (pc := 5) dL_inCell_5 ?_
  obtain rfl := Option.some.inj h
  exact lo_lret (pc := 6) dL_inCell_6 rfl ⟨rfl, rfl⟩
def f_L_entitled (m : fm_M) : Option (Int64) :=
  (f_X6_entitled m).bind fun v1 => some (v1.toInt64)
set_option maxRecDepth 100000 in
set_option maxHeartbeats 4000000 in
theorem c_L_entitled {L : Nat} {xs : Nat → Int32} {X : List fm_L} (m : fm_M) {res : Int64} (h : f_L_entitled m = some res) : fl_Met L xs (fm_layH ++ X) 3 m_L_entitled [.ref 0] m (fm_pj res m) := by
  refine fl_Met_of (ls := [some (.ref 0)]) (by decide) rfl (fm_cc_r _ fm_cc_0) (Nat.le_of_ble_eq_true rfl) rfl ?_
  unfold f_L_entitled at h
  refine lo_aload_n (pc := 0) dL_entitled_0 rfl rfl ?_
  obtain ⟨v1, hv2, h⟩ := fm_bind h
  refine lo_callVi (pc := 1) (As := []) (st := []) dL_entitled_1 (c_X6_entitled _ hv2) (by decide) ce_X6_entitled ml_L_51 in_X6_entitled se_X6_entitled cl_X6 rfl rfl (Nat.le_of_ble_eq_true rfl) rfl ?_
  refine lo_i2l (pc := 4) dL_entitled_4 ?_
  obtain rfl := Option.some.inj h
  exact lo_lret (pc := 5) dL_entitled_5 rfl ⟨rfl, rfl⟩
def f_L_entitledAgain (m : fm_M) : Option (Int64) :=
  (f_X6_entitledAgain m).bind fun v1 => some (v1.toInt64)
set_option maxRecDepth 100000 in
set_option maxHeartbeats 4000000 in
theorem c_L_entitledAgain {L : Nat} {xs : Nat → Int32} {X : List fm_L} (m : fm_M) {res : Int64} (h : f_L_entitledAgain m = some res) : fl_Met L xs (fm_layH ++ X) 3 m_L_entitledAgain [.ref 0] m (fm_pj res m) := by
  refine fl_Met_of (ls := [some (.ref 0)]) (by decide) rfl (fm_cc_r _ fm_cc_0) (Nat.le_of_ble_eq_true rfl) rfl ?_
  unfold f_L_entitledAgain at h
  refine lo_aload_n (pc := 0) dL_entitledAgain_0 rfl rfl ?_
  obtain ⟨v1, hv2, h⟩ := fm_bind h
  refine lo_callVi (pc := 1) (As := []) (st := []) dL_entitledAgain_1 (c_X6_entitledAgain _ hv2) (by decide) ce_X6_entitledAgain ml_L_55 in_X6_entitledAgain se_X6_entitledAgain cl_X6 rfl rfl (Nat.le_of_ble_eq_true rfl) rfl ?_
  refine lo_i2l (pc := 4) dL_entitledAgain_4 ?_
  obtain rfl := Option.some.inj h
  exact lo_lret (pc := 5) dL_entitledAgain_5 rfl ⟨rfl, rfl⟩
def f_L_voices (x1 : Int32) (m : fm_M) : Option (Int64) :=
  (f_X6_voices x1 m).bind fun v1 => some (v1.toInt64)
set_option maxRecDepth 100000 in
set_option maxHeartbeats 4000000 in
theorem c_L_voices {L : Nat} {xs : Nat → Int32} {X : List fm_L} (x1 : Int32) (m : fm_M) {res : Int64} (h : f_L_voices x1 m = some res) : fl_Met L xs (fm_layH ++ X) 3 m_L_voices [.ref 0, .int x1] m (fm_pj res m) := by
  refine fl_Met_of (ls := [some (.ref 0), some (.int x1)]) (by decide) rfl (fm_cc_r _ (fm_cc_i _ fm_cc_0)) (Nat.le_of_ble_eq_true rfl) rfl ?_
  unfold f_L_voices at h
  refine lo_aload_n (pc := 0) dL_voices_0 rfl rfl ?_
  refine lo_iload_n (pc := 1) dL_voices_1 rfl rfl ?_
  obtain ⟨v1, hv2, h⟩ := fm_bind h
  refine lo_callVi (pc := 2) (As := [.int x1]) (st := []) dL_voices_2 (c_X6_voices _ _ hv2) (by decide) ce_X6_voices ml_L_58 in_X6_voices se_X6_voices cl_X6 rfl rfl (Nat.le_of_ble_eq_true rfl) rfl ?_
  refine lo_i2l (pc := 5) dL_voices_5 ?_
  obtain rfl := Option.some.inj h
  exact lo_lret (pc := 6) dL_voices_6 rfl ⟨rfl, rfl⟩
def f_L_voicesAgain (x1 : Int32) (m : fm_M) : Option (Int64 × fm_M) :=
  (f_X6_voicesAgain x1 m).bind fun v1 => some ((v1.1.toInt64), v1.2)
set_option maxRecDepth 100000 in
set_option maxHeartbeats 4000000 in
theorem c_L_voicesAgain {L : Nat} {xs : Nat → Int32} {X : List fm_L} (x1 : Int32) (m : fm_M) {res : Int64 × fm_M} (h : f_L_voicesAgain x1 m = some res) : fl_Met L xs (fm_layH ++ X) 4 m_L_voicesAgain [.ref 0, .int x1] m (fm_pj res.1 res.2) := by
  refine fl_Met_of (ls := [some (.ref 0), some (.int x1)]) (by decide) rfl (fm_cc_r _ (fm_cc_i _ fm_cc_0)) (Nat.le_of_ble_eq_true rfl) rfl ?_
  unfold f_L_voicesAgain at h
  refine lo_aload_n (pc := 0) dL_voicesAgain_0 rfl rfl ?_
  refine lo_iload_n (pc := 1) dL_voicesAgain_1 rfl rfl ?_
  obtain ⟨v1, hv2, h⟩ := fm_bind h
  refine lo_callVi (pc := 2) (As := [.int x1]) (st := []) dL_voicesAgain_2 (c_X6_voicesAgain _ _ hv2) (by decide) ce_X6_voicesAgain ml_L_61 in_X6_voicesAgain se_X6_voicesAgain cl_X6 rfl rfl (Nat.le_of_ble_eq_true rfl) rfl ?_
  refine lo_i2l (pc := 5) dL_voicesAgain_5 ?_
  obtain rfl := Option.some.inj h
  exact lo_lret (pc := 6) dL_voicesAgain_6 rfl ⟨rfl, rfl⟩
def f_L_ranked (x1 : Int32) (m : fm_M) : Option (Int64 × fm_M) :=
  (f_X6_ranked x1 m).bind fun v1 => some ((v1.1.toInt64), v1.2)
set_option maxRecDepth 100000 in
set_option maxHeartbeats 4000000 in
theorem c_L_ranked {L : Nat} {xs : Nat → Int32} {X : List fm_L} (x1 : Int32) (m : fm_M) {res : Int64 × fm_M} (h : f_L_ranked x1 m = some res) : fl_Met L xs (fm_layH ++ X) 4 m_L_ranked [.ref 0, .int x1] m (fm_pj res.1 res.2) := by
  refine fl_Met_of (ls := [some (.ref 0), some (.int x1)]) (by decide) rfl (fm_cc_r _ (fm_cc_i _ fm_cc_0)) (Nat.le_of_ble_eq_true rfl) rfl ?_
  unfold f_L_ranked at h
  refine lo_aload_n (pc := 0) dL_ranked_0 rfl rfl ?_
  refine lo_iload_n (pc := 1) dL_ranked_1 rfl rfl ?_
  obtain ⟨v1, hv2, h⟩ := fm_bind h
  refine lo_callVi (pc := 2) (As := [.int x1]) (st := []) dL_ranked_2 (c_X6_ranked _ _ hv2) (by decide) ce_X6_ranked ml_L_64 in_X6_ranked se_X6_ranked cl_X6 rfl rfl (Nat.le_of_ble_eq_true rfl) rfl ?_
  refine lo_i2l (pc := 5) dL_ranked_5 ?_
  obtain rfl := Option.some.inj h
  exact lo_lret (pc := 6) dL_ranked_6 rfl ⟨rfl, rfl⟩
def f_L_senior (x1 : Int32) (m : fm_M) : Option (Int64 × fm_M) :=
  (f_X6_senior x1 m).bind fun v1 => some ((v1.1.toInt64), v1.2)
set_option maxRecDepth 100000 in
set_option maxHeartbeats 4000000 in
theorem c_L_senior {L : Nat} {xs : Nat → Int32} {X : List fm_L} (x1 : Int32) (m : fm_M) {res : Int64 × fm_M} (h : f_L_senior x1 m = some res) : fl_Met L xs (fm_layH ++ X) 3 m_L_senior [.ref 0, .int x1] m (fm_pj res.1 res.2) := by
  refine fl_Met_of (ls := [some (.ref 0), some (.int x1)]) (by decide) rfl (fm_cc_r _ (fm_cc_i _ fm_cc_0)) (Nat.le_of_ble_eq_true rfl) rfl ?_
  unfold f_L_senior at h
  refine lo_aload_n (pc := 0) dL_senior_0 rfl rfl ?_
  refine lo_iload_n (pc := 1) dL_senior_1 rfl rfl ?_
  obtain ⟨v1, hv2, h⟩ := fm_bind h
  refine lo_callVi (pc := 2) (As := [.int x1]) (st := []) dL_senior_2 (c_X6_senior _ _ hv2) (by decide) ce_X6_senior ml_L_67 in_X6_senior se_X6_senior cl_X6 rfl rfl (Nat.le_of_ble_eq_true rfl) rfl ?_
  refine lo_i2l (pc := 5) dL_senior_5 ?_
  obtain rfl := Option.some.inj h
  exact lo_lret (pc := 6) dL_senior_6 rfl ⟨rfl, rfl⟩
def f_L_shabby (x1 : Int32) (m : fm_M) : Option (Int64 × fm_M) :=
  (f_X6_shabby x1 m).bind fun v1 => some ((v1.1.toInt64), v1.2)
set_option maxRecDepth 100000 in
set_option maxHeartbeats 4000000 in
theorem c_L_shabby {L : Nat} {xs : Nat → Int32} {X : List fm_L} (x1 : Int32) (m : fm_M) {res : Int64 × fm_M} (h : f_L_shabby x1 m = some res) : fl_Met L xs (fm_layH ++ X) 3 m_L_shabby [.ref 0, .int x1] m (fm_pj res.1 res.2) := by
  refine fl_Met_of (ls := [some (.ref 0), some (.int x1)]) (by decide) rfl (fm_cc_r _ (fm_cc_i _ fm_cc_0)) (Nat.le_of_ble_eq_true rfl) rfl ?_
  unfold f_L_shabby at h
  refine lo_aload_n (pc := 0) dL_shabby_0 rfl rfl ?_
  refine lo_iload_n (pc := 1) dL_shabby_1 rfl rfl ?_
  obtain ⟨v1, hv2, h⟩ := fm_bind h
  refine lo_callVi (pc := 2) (As := [.int x1]) (st := []) dL_shabby_2 (c_X6_shabby _ _ hv2) (by decide) ce_X6_shabby ml_L_70 in_X6_shabby se_X6_shabby cl_X6 rfl rfl (Nat.le_of_ble_eq_true rfl) rfl ?_
  refine lo_i2l (pc := 5) dL_shabby_5 ?_
  obtain rfl := Option.some.inj h
  exact lo_lret (pc := 6) dL_shabby_6 rfl ⟨rfl, rfl⟩
def f_L_nextFeast (m : fm_M) : Option (Int64) :=
  (f_X6_nextFeast m).bind fun v1 => some (v1.toInt64)
set_option maxRecDepth 100000 in
set_option maxHeartbeats 4000000 in
theorem c_L_nextFeast {L : Nat} {xs : Nat → Int32} {X : List fm_L} (m : fm_M) {res : Int64} (h : f_L_nextFeast m = some res) : fl_Met L xs (fm_layH ++ X) 3 m_L_nextFeast [.ref 0] m (fm_pj res m) := by
  refine fl_Met_of (ls := [some (.ref 0)]) (by decide) rfl (fm_cc_r _ fm_cc_0) (Nat.le_of_ble_eq_true rfl) rfl ?_
  unfold f_L_nextFeast at h
  refine lo_aload_n (pc := 0) dL_nextFeast_0 rfl rfl ?_
  obtain ⟨v1, hv2, h⟩ := fm_bind h
  refine lo_callVi (pc := 1) (As := []) (st := []) dL_nextFeast_1 (c_X6_nextFeast _ hv2) (by decide) ce_X6_nextFeast ml_L_73 in_X6_nextFeast se_X6_nextFeast cl_X6 rfl rfl (Nat.le_of_ble_eq_true rfl) rfl ?_
  refine lo_i2l (pc := 4) dL_nextFeast_4 ?_
  obtain rfl := Option.some.inj h
  exact lo_lret (pc := 5) dL_nextFeast_5 rfl ⟨rfl, rfl⟩
def f_L_wouldGet (x1 : Int32) (x2 : Int32) (m : fm_M) : Option (Int64 × fm_M) :=
  (f_X6_wouldGet x1 x2 m).bind fun v1 => some ((v1.1.toInt64), v1.2)
set_option maxRecDepth 100000 in
set_option maxHeartbeats 4000000 in
theorem c_L_wouldGet {L : Nat} {xs : Nat → Int32} {X : List fm_L} (x1 : Int32) (x2 : Int32) (m : fm_M) {res : Int64 × fm_M} (h : f_L_wouldGet x1 x2 m = some res) : fl_Met L xs (fm_layH ++ X) 6 m_L_wouldGet [.ref 0, .int x1, .int x2] m (fm_pj res.1 res.2) := by
  refine fl_Met_of (ls := [some (.ref 0), some (.int x1), some (.int x2)]) (by decide) rfl (fm_cc_r _ (fm_cc_i _ (fm_cc_i _ fm_cc_0))) (Nat.le_of_ble_eq_true rfl) rfl ?_
  unfold f_L_wouldGet at h
  refine lo_aload_n (pc := 0) dL_wouldGet_0 rfl rfl ?_
  refine lo_iload_n (pc := 1) dL_wouldGet_1 rfl rfl ?_
  refine lo_iload_n (pc := 2) dL_wouldGet_2 rfl rfl ?_
  obtain ⟨v1, hv2, h⟩ := fm_bind h
  refine lo_callVi (pc := 3) (As := [.int x1, .int x2]) (st := []) dL_wouldGet_3 (c_X6_wouldGet _ _ _ hv2) (by decide) ce_X6_wouldGet ml_L_76 in_X6_wouldGet se_X6_wouldGet cl_X6 rfl rfl (Nat.le_of_ble_eq_true rfl) rfl ?_
  refine lo_i2l (pc := 6) dL_wouldGet_6 ?_
  obtain rfl := Option.some.inj h
  exact lo_lret (pc := 7) dL_wouldGet_7 rfl ⟨rfl, rfl⟩
def f_L_chestIn (x1 : Int32) (m : fm_M) : Option (Int64 × fm_M) :=
  (f_X6_chestIn x1 m).bind fun v1 => some ((v1.1.toInt64), v1.2)
set_option maxRecDepth 100000 in
set_option maxHeartbeats 4000000 in
theorem c_L_chestIn {L : Nat} {xs : Nat → Int32} {X : List fm_L} (x1 : Int32) (m : fm_M) {res : Int64 × fm_M} (h : f_L_chestIn x1 m = some res) : fl_Met L xs (fm_layH ++ X) 6 m_L_chestIn [.ref 0, .int x1] m (fm_pj res.1 res.2) := by
  refine fl_Met_of (ls := [some (.ref 0), some (.int x1)]) (by decide) rfl (fm_cc_r _ (fm_cc_i _ fm_cc_0)) (Nat.le_of_ble_eq_true rfl) rfl ?_
  unfold f_L_chestIn at h
  refine lo_aload_n (pc := 0) dL_chestIn_0 rfl rfl ?_
  refine lo_iload_n (pc := 1) dL_chestIn_1 rfl rfl ?_
  obtain ⟨v1, hv2, h⟩ := fm_bind h
  refine lo_callVi (pc := 2) (As := [.int x1]) (st := []) dL_chestIn_2 (c_X6_chestIn _ _ hv2) (by decide) ce_X6_chestIn ml_L_79 in_X6_chestIn se_X6_chestIn cl_X6 rfl rfl (Nat.le_of_ble_eq_true rfl) rfl ?_
  refine lo_i2l (pc := 5) dL_chestIn_5 ?_
  obtain rfl := Option.some.inj h
  exact lo_lret (pc := 6) dL_chestIn_6 rfl ⟨rfl, rfl⟩
def f_L_run (m : fm_M) : Option (Int64 × fm_M) :=
  (f_X6_run m).bind fun v1 => some ((v1.1.toInt64), v1.2)
set_option maxRecDepth 100000 in
set_option maxHeartbeats 4000000 in
theorem c_L_run {L : Nat} {xs : Nat → Int32} {X : List fm_L} (m : fm_M) {res : Int64 × fm_M} (h : f_L_run m = some res) : fl_Met L xs (fm_layH ++ X) 8 m_L_run [.ref 0] m (fm_pj res.1 res.2) := by
  refine fl_Met_of (ls := [some (.ref 0)]) (by decide) rfl (fm_cc_r _ fm_cc_0) (Nat.le_of_ble_eq_true rfl) rfl ?_
  unfold f_L_run at h
  refine lo_aload_n (pc := 0) dL_run_0 rfl rfl ?_
  obtain ⟨v1, hv2, h⟩ := fm_bind h
  refine lo_callVi (pc := 1) (As := []) (st := []) dL_run_1 (c_X6_run _ hv2) (by decide) ce_X6_run ml_L_85 in_X6_run se_X6_run cl_X6 rfl rfl (Nat.le_of_ble_eq_true rfl) rfl ?_
  refine lo_i2l (pc := 4) dL_run_4 ?_
  obtain rfl := Option.some.inj h
  exact lo_lret (pc := 5) dL_run_5 rfl ⟨rfl, rfl⟩
def f_L_account (x1 : Int32) (m : fm_M) : Option (Int64) :=
  (f_X6_account x1 m).bind fun v1 => some (v1.toInt64)
set_option maxRecDepth 100000 in
set_option maxHeartbeats 4000000 in
theorem c_L_account {L : Nat} {xs : Nat → Int32} {X : List fm_L} (x1 : Int32) (m : fm_M) {res : Int64} (h : f_L_account x1 m = some res) : fl_Met L xs (fm_layH ++ X) 4 m_L_account [.ref 0, .int x1] m (fm_pj res m) := by
  refine fl_Met_of (ls := [some (.ref 0), some (.int x1)]) (by decide) rfl (fm_cc_r _ (fm_cc_i _ fm_cc_0)) (Nat.le_of_ble_eq_true rfl) rfl ?_
  unfold f_L_account at h
  refine lo_aload_n (pc := 0) dL_account_0 rfl rfl ?_
  refine lo_iload_n (pc := 1) dL_account_1 rfl rfl ?_
  obtain ⟨v1, hv2, h⟩ := fm_bind h
  refine lo_callVi (pc := 2) (As := [.int x1]) (st := []) dL_account_2 (c_X6_account _ _ hv2) (by decide) ce_X6_account ml_L_101 in_X6_account se_X6_account cl_X6 rfl rfl (Nat.le_of_ble_eq_true rfl) rfl ?_
  refine lo_i2l (pc := 5) dL_account_5 ?_
  obtain rfl := Option.some.inj h
  exact lo_lret (pc := 6) dL_account_6 rfl ⟨rfl, rfl⟩
def f_L_isBalanced (m : fm_M) : Option (Int64) :=
  (f_X6_isBalanced m).bind fun v1 => some (v1.toInt64)
set_option maxRecDepth 100000 in
set_option maxHeartbeats 4000000 in
theorem c_L_isBalanced {L : Nat} {xs : Nat → Int32} {X : List fm_L} (m : fm_M) {res : Int64} (h : f_L_isBalanced m = some res) : fl_Met L xs (fm_layH ++ X) 3 m_L_isBalanced [.ref 0] m (fm_pj res m) := by
  refine fl_Met_of (ls := [some (.ref 0)]) (by decide) rfl (fm_cc_r _ fm_cc_0) (Nat.le_of_ble_eq_true rfl) rfl ?_
  unfold f_L_isBalanced at h
  refine lo_aload_n (pc := 0) dL_isBalanced_0 rfl rfl ?_
  obtain ⟨v1, hv2, h⟩ := fm_bind h
  refine lo_callVi (pc := 1) (As := []) (st := []) dL_isBalanced_1 (c_X6_isBalanced _ hv2) (by decide) ce_X6_isBalanced ml_L_104 in_X6_isBalanced se_X6_isBalanced cl_X6 rfl rfl (Nat.le_of_ble_eq_true rfl) rfl ?_
  refine lo_i2l (pc := 4) dL_isBalanced_4 ?_
  obtain rfl := Option.some.inj h
  exact lo_lret (pc := 5) dL_isBalanced_5 rfl ⟨rfl, rfl⟩
def f_L_undo (m : fm_M) : Option (Int64 × fm_M) :=
  (f_X6_undo m).bind fun v1 => some ((v1.1.toInt64), v1.2)
set_option maxRecDepth 100000 in
set_option maxHeartbeats 4000000 in
theorem c_L_undo {L : Nat} {xs : Nat → Int32} {X : List fm_L} (m : fm_M) {res : Int64 × fm_M} (h : f_L_undo m = some res) : fl_Met L xs (fm_layH ++ X) 5 m_L_undo [.ref 0] m (fm_pj res.1 res.2) := by
  refine fl_Met_of (ls := [some (.ref 0)]) (by decide) rfl (fm_cc_r _ fm_cc_0) (Nat.le_of_ble_eq_true rfl) rfl ?_
  unfold f_L_undo at h
  refine lo_aload_n (pc := 0) dL_undo_0 rfl rfl ?_
  obtain ⟨v1, hv2, h⟩ := fm_bind h
  refine lo_callVi (pc := 1) (As := []) (st := []) dL_undo_1 (c_X6_undo _ hv2) (by decide) ce_X6_undo ml_L_127 in_X6_undo se_X6_undo cl_X6 rfl rfl (Nat.le_of_ble_eq_true rfl) rfl ?_
  refine lo_i2l (pc := 4) dL_undo_4 ?_
  obtain rfl := Option.some.inj h
  exact lo_lret (pc := 5) dL_undo_5 rfl ⟨rfl, rfl⟩
def f_L_save (m : fm_M) : Option (Int64 × fm_M) :=
  (f_X6_save m).bind fun v1 => some ((v1.1.toInt64), v1.2)
set_option maxRecDepth 100000 in
set_option maxHeartbeats 4000000 in
theorem c_L_save {L : Nat} {xs : Nat → Int32} {X : List fm_L} (m : fm_M) {res : Int64 × fm_M} (h : f_L_save m = some res) : fl_Met L xs (fm_layH ++ X) 4 m_L_save [.ref 0] m (fm_pj res.1 res.2) := by
  refine fl_Met_of (ls := [some (.ref 0)]) (by decide) rfl (fm_cc_r _ fm_cc_0) (Nat.le_of_ble_eq_true rfl) rfl ?_
  unfold f_L_save at h
  refine lo_aload_n (pc := 0) dL_save_0 rfl rfl ?_
  obtain ⟨v1, hv2, h⟩ := fm_bind h
  refine lo_callVi (pc := 1) (As := []) (st := []) dL_save_1 (c_X6_save _ hv2) (by decide) ce_X6_save ml_L_130 in_X6_save se_X6_save cl_X6 rfl rfl (Nat.le_of_ble_eq_true rfl) rfl ?_
  refine lo_i2l (pc := 4) dL_save_4 ?_
  obtain rfl := Option.some.inj h
  exact lo_lret (pc := 5) dL_save_5 rfl ⟨rfl, rfl⟩
def f_L_restore (m : fm_M) : Option (Int64 × fm_M) :=
  (f_X6_restore m).bind fun v1 => some ((v1.1.toInt64), v1.2)
set_option maxRecDepth 100000 in
set_option maxHeartbeats 4000000 in
theorem c_L_restore {L : Nat} {xs : Nat → Int32} {X : List fm_L} (m : fm_M) {res : Int64 × fm_M} (h : f_L_restore m = some res) : fl_Met L xs (fm_layH ++ X) 4 m_L_restore [.ref 0] m (fm_pj res.1 res.2) := by
  refine fl_Met_of (ls := [some (.ref 0)]) (by decide) rfl (fm_cc_r _ fm_cc_0) (Nat.le_of_ble_eq_true rfl) rfl ?_
  unfold f_L_restore at h
  refine lo_aload_n (pc := 0) dL_restore_0 rfl rfl ?_
  obtain ⟨v1, hv2, h⟩ := fm_bind h
  refine lo_callVi (pc := 1) (As := []) (st := []) dL_restore_1 (c_X6_restore _ hv2) (by decide) ce_X6_restore ml_L_133 in_X6_restore se_X6_restore cl_X6 rfl rfl (Nat.le_of_ble_eq_true rfl) rfl ?_
  refine lo_i2l (pc := 4) dL_restore_4 ?_
  obtain rfl := Option.some.inj h
  exact lo_lret (pc := 5) dL_restore_5 rfl ⟨rfl, rfl⟩
def f_L_cell (L : Nat) (xs : Nat → Int32) (x1 : Int32) (m : fm_M) : Option (Int32) :=
  if (Int32.ofNat L) ≤ x1 then (some (((7919 : Int32) * x1) + (12 : Int32))) else (if fm_in x1 L = true then (some (xs x1.toNatClampNeg)) else none)
set_option maxRecDepth 100000 in
set_option maxHeartbeats 4000000 in
theorem c_L_cell {L : Nat} {xs : Nat → Int32} {X : List fm_L} (x1 : Int32) (m : fm_M) {res : Int32} (h : f_L_cell L xs x1 m = some res) : fl_Met L xs (fm_layH ++ X) 0 m_L_cell [.ref 4000, .int x1] m (fm_pi res m) := by
  refine fl_Met_of (ls := [some (.ref 4000), some (.int x1)]) (by decide) rfl (fm_cc_r _ (fm_cc_i _ fm_cc_0)) (Nat.le_of_ble_eq_true rfl) rfl ?_
  unfold f_L_cell at h
  refine lo_iload_n (pc := 0) dL_cell_0 rfl rfl ?_
  refine lo_aload_n (pc := 1) dL_cell_1 rfl rfl ?_
  refine lo_slen (pc := 2) dL_cell_2 ?_
  refine lo_icmp_ge (pc := 3) (tgt := 12) dL_cell_3 (by decide) (fun c1 => ?_) (fun c1 => ?_)
  · rw [if_pos c1] at h
    refine lo_sipush (pc := 12) (v := (7919 : Int32)) dL_cell_12 (by decide) ?_
    refine lo_iload_n (pc := 15) dL_cell_15 rfl rfl ?_
    refine lo_imul (pc := 16) dL_cell_16 ?_
    refine lo_bipush (pc := 17) (v := (12 : Int32)) dL_cell_17 (by decide) ?_
    refine lo_iadd (pc := 19) dL_cell_19 ?_
    obtain rfl := Option.some.inj h
    exact lo_iret (pc := 20) .int dL_cell_20 rfl rfl ⟨rfl, rfl⟩
  · rw [if_neg c1] at h
    refine lo_aload_n (pc := 6) dL_cell_6 rfl rfl ?_
    refine lo_iload_n (pc := 7) dL_cell_7 rfl rfl ?_
    obtain ⟨hi2, h⟩ := fm_chk h
    refine lo_sld (pc := 8) dL_cell_8 (fm_in_vp hi2) ?_
    refine lo_goto (pc := 9) (tgt := 20) dL_cell_9 (by decide) ?_
    obtain rfl := Option.some.inj h
    exact lo_iret (pc := 20) .int dL_cell_20 rfl rfl ⟨rfl, rfl⟩
def f_L_pick (x0 : Int32) (x1 : Int32) (m : fm_M) : Option (Int32) :=
  if x1 = 0 then none else some ((x0 &&& (2147483647 : Int32)) - (x0 &&& (2147483647 : Int32)) / x1 * x1)
set_option maxRecDepth 100000 in
set_option maxHeartbeats 4000000 in
theorem c_L_pick {L : Nat} {xs : Nat → Int32} {X : List fm_L} (x0 : Int32) (x1 : Int32) (m : fm_M) {res : Int32} (h : f_L_pick x0 x1 m = some res) : fl_Met L xs (fm_layH ++ X) 0 m_L_pick [.int x0, .int x1] m (fm_pi res m) := by
  refine fl_Met_of (ls := [some (.int x0), some (.int x1)]) (by decide) rfl (fm_cc_i _ (fm_cc_i _ fm_cc_0)) (Nat.le_of_ble_eq_true rfl) rfl ?_
  unfold f_L_pick at h
  refine lo_iload_n (pc := 0) dL_pick_0 rfl rfl ?_
  refine lo_ldc (pc := 1) (v := (2147483647 : Int32)) dL_pick_1 cs_L_136 ?_
  refine lo_iand (pc := 3) dL_pick_3 ?_
  refine lo_iload_n (pc := 4) dL_pick_4 rfl rfl ?_
  obtain ⟨hz1, h⟩ := fm_chk2 h
  refine lo_irem (pc := 5) dL_pick_5 hz1 ?_
  obtain rfl := Option.some.inj h
  exact lo_iret (pc := 6) .int dL_pick_6 rfl rfl ⟨rfl, rfl⟩
def f_L_told_L2 (w : Nat) : Nat → Int32 → fm_M → Option (Int64 × fm_M)
  | 0, _, _ => none
  | n + 1, y2, m => if (Int32.ofNat (fm_len.getD w 0)) ≤ y2 then ((f_L_run m).bind fun v2 => some (v2.1, v2.2)) else (if fm_in y2 (fm_len.getD w 0) = true then ((f_X6_append ((fm_byt.getD w []).getD y2.toNatClampNeg 0) m).bind fun v5 => f_L_told_L2 w n (y2 + (1 : Int32)) v5.2) else none)
def f_L_told (w : Nat) (m : fm_M) : Option (Int64 × fm_M) :=
  f_L_told_L2 w fm_F (0 : Int32) m
set_option maxRecDepth 100000 in
set_option maxHeartbeats 4000000 in
theorem c_L_told_L2 {L : Nat} {xs : Nat → Int32} {X : List fm_L} {w : Nat} (hw : w < 16) : ∀ (n : Nat) (y2 : Int32) (m : fm_M) (res : Int64 × fm_M), f_L_told_L2 w n y2 m = some res → fl_Go L xs (fm_layH ++ X) 9 m_L_told (fm_pj res.1 res.2) 2 [some (.ref 0), some (.ref (1000 + w)), some (.int y2)] [] m := by
  intro n
  induction n with
  | zero => intro y2 m res h; cases h
  | succ n ih =>
    intro y2 m res h
    rw [f_L_told_L2] at h
    refine lo_iload_n (pc := 2) dL_told_2 rfl rfl ?_
    refine lo_aload_n (pc := 3) dL_told_3 rfl rfl ?_
    refine lo_callTi (pc := 4) (As := []) (st := [.int y2]) dL_told_4 hw (c_J0_length hw _) (by decide) ce_J0_length_8abf5 ml_L_137 in_J0_length_8abf5 se_J0_length_8abf5 rfl (Nat.le_of_ble_eq_true rfl) rfl ?_
    refine lo_icmp_ge (pc := 7) (tgt := 26) dL_told_7 (by decide) (fun c1 => ?_) (fun c1 => ?_)
    · rw [if_pos c1] at h
      refine lo_aload_n (pc := 26) dL_told_26 rfl rfl ?_
      obtain ⟨v2, hv3, h⟩ := fm_bind h
      refine lo_callSj (pc := 27) (As := [.ref 0]) (st := []) dL_told_27 (c_L_run  _ hv3) (by decide) (Nat.le_of_ble_eq_true rfl) ce_L_run ml_L_146 st_L_run rfl (Nat.le_of_ble_eq_true rfl) rfl ?_
      obtain rfl := Option.some.inj h
      exact lo_lret (pc := 30) dL_told_30 rfl ⟨rfl, rfl⟩
    · rw [if_neg c1] at h
      refine lo_aload_n (pc := 10) dL_told_10 rfl rfl ?_
      refine lo_aload_n (pc := 11) dL_told_11 rfl rfl ?_
      refine lo_iload_n (pc := 12) dL_told_12 rfl rfl ?_
      obtain ⟨hi4, h⟩ := fm_chk h
      refine lo_callTi (pc := 13) (As := [.int y2]) (st := [.ref 0]) dL_told_13 hw (c_J0_charAt hw (fm_in_vp hi4) _) (by decide) ce_J0_charAt_5068e ml_L_142 in_J0_charAt_5068e se_J0_charAt_5068e rfl (Nat.le_of_ble_eq_true rfl) rfl ?_
      obtain ⟨v5, hv6, h⟩ := fm_bind h
      refine lo_callVi (pc := 16) (As := [.int ((fm_byt.getD w []).getD y2.toNatClampNeg 0)]) (st := []) dL_told_16 (c_X6_append _ _ hv6) (by decide) ce_X6_append ml_L_82 in_X6_append se_X6_append cl_X6 rfl rfl (Nat.le_of_ble_eq_true rfl) rfl ?_
      refine lo_pop (pc := 19) dL_told_19 rfl ?_
      refine lo_iinc (pc := 20) (v := (y2 + (1 : Int32))) (ls1 := [some (.ref 0), some (.ref (1000 + w)), some (.int (y2 + (1 : Int32)))]) dL_told_20 rfl rfl (Nat.le_of_ble_eq_true rfl) rfl rfl ?_
      refine lo_goto (pc := 23) (tgt := 2) dL_told_23 (by decide) ?_
      exact ih _ _ _ h
set_option maxRecDepth 100000 in
set_option maxHeartbeats 4000000 in
theorem c_L_told {L : Nat} {xs : Nat → Int32} {X : List fm_L} {w : Nat} (hw : w < 16) (m : fm_M) {res : Int64 × fm_M} (h : f_L_told w m = some res) : fl_Met L xs (fm_layH ++ X) 9 m_L_told [.ref 0, .ref (1000 + w)] m (fm_pj res.1 res.2) := by
  refine fl_Met_of (ls := [some (.ref 0), some (.ref (1000 + w)), none]) (by decide) rfl (fm_cc_r _ (fm_cc_r _ fm_cc_0)) (Nat.le_of_ble_eq_true rfl) rfl ?_
  unfold f_L_told at h
  refine lo_iconst (pc := 0) (v := (0 : Int32)) dL_told_0 (by decide) ?_
  refine lo_istore_n (pc := 1) (ls1 := [some (.ref 0), some (.ref (1000 + w)), some (.int (0 : Int32))]) dL_told_1 rfl (by decide) rfl rfl ?_
  exact c_L_told_L2 hw fm_F _ _ _ h
def f_L_mark_L114 : Nat → Int64 → Int32 → fm_M → Option (Int64)
  | 0, _, _, _ => none
  | n + 1, y1, y3, m => if (8 : Int32) ≤ y3 then ((f_L_nextFeast m).bind fun v9 => some (((31 : Int64) * y1) + v9)) else ((f_L_inCell y3 m).bind fun v11 => f_L_mark_L114 n (((31 : Int64) * y1) + v11) (y3 + (1 : Int32)) m)
def f_L_mark_L74 : Nat → Int64 → Int32 → fm_M → Option (Int64)
  | 0, _, _, _ => none
  | n + 1, y1, y3, m => (f_L_account (2 : Int32) m).bind fun v5 => if 0 ≤ (lg_cmp (y3.toInt64) ((5 : Int64) * v5)) then (f_L_mark_L114 fm_F y1 (0 : Int32) m) else ((f_L_broke (y3 / (5 : Int32)) (y3 - y3 / (5 : Int32) * (5 : Int32)) m).bind fun v13 => f_L_mark_L74 n (((31 : Int64) * y1) + v13) (y3 + (1 : Int32)) m)
def f_L_mark_L32 : Nat → Int64 → Int32 → fm_M → Option (Int64)
  | 0, _, _, _ => none
  | n + 1, y1, y3, m => (f_L_account (2 : Int32) m).bind fun v2 => if 0 ≤ (lg_cmp (y3.toInt64) ((10 : Int64) * v2)) then (f_L_mark_L74 fm_F y1 (0 : Int32) m) else ((f_L_brotherOf (y3 / (10 : Int32)) (y3 - y3 / (10 : Int32) * (10 : Int32)) m).bind fun v15 => f_L_mark_L32 n (((31 : Int64) * y1) + v15) (y3 + (1 : Int32)) m)
def f_L_mark_L6 : Nat → Int64 → Int32 → fm_M → Option (Int64)
  | 0, _, _, _ => none
  | n + 1, y1, y3, m => if (15 : Int32) ≤ y3 then (f_L_mark_L32 fm_F y1 (0 : Int32) m) else ((f_L_account y3 m).bind fun v17 => f_L_mark_L6 n (((31 : Int64) * y1) + v17) (y3 + (1 : Int32)) m)
def f_L_mark (m : fm_M) : Option (Int64) :=
  f_L_mark_L6 fm_F (17 : Int64) (0 : Int32) m
set_option maxRecDepth 100000 in
set_option maxHeartbeats 4000000 in
theorem c_L_mark_L114 {L : Nat} {xs : Nat → Int32} {X : List fm_L} : ∀ (n : Nat) (y1 : Int64) (y3 : Int32) (m : fm_M) (res : Int64), f_L_mark_L114 n y1 y3 m = some res → fl_Go L xs (fm_layH ++ X) 5 m_L_mark (fm_pj res m) 114 [some (.ref 0), some (.long y1), none, some (.int y3)] [] m := by
  intro n
  induction n with
  | zero => intro y1 y3 m res h; cases h
  | succ n ih =>
    intro y1 y3 m res h
    rw [f_L_mark_L114] at h
    refine lo_iload_n (pc := 114) dL_mark_114 rfl rfl ?_
    refine lo_bipush (pc := 115) (v := (8 : Int32)) dL_mark_115 (by decide) ?_
    refine lo_icmp_ge (pc := 117) (tgt := 138) dL_mark_117 (by decide) (fun c8 => ?_) (fun c8 => ?_)
    · rw [if_pos c8] at h
      refine lo_ldc2 (pc := 138) (v := (31 : Int64)) dL_mark_138 cs_L_153 ?_
      refine lo_lload_n (pc := 141) dL_mark_141 rfl rfl ?_
      refine lo_lmul (pc := 142) dL_mark_142 ?_
      refine lo_aload_n (pc := 143) dL_mark_143 rfl rfl ?_
      obtain ⟨v9, hv10, h⟩ := fm_bind h
      refine lo_callSj (pc := 144) (As := [.ref 0]) (st := [.long ((31 : Int64) * y1)]) dL_mark_144 (c_L_nextFeast  _ hv10) (by decide) (Nat.le_of_ble_eq_true rfl) ce_L_nextFeast ml_L_169 st_L_nextFeast rfl (Nat.le_of_ble_eq_true rfl) rfl ?_
      refine lo_ladd (pc := 147) dL_mark_147 ?_
      obtain rfl := Option.some.inj h
      exact lo_lret (pc := 148) dL_mark_148 rfl ⟨rfl, rfl⟩
    · rw [if_neg c8] at h
      refine lo_ldc2 (pc := 120) (v := (31 : Int64)) dL_mark_120 cs_L_153 ?_
      refine lo_lload_n (pc := 123) dL_mark_123 rfl rfl ?_
      refine lo_lmul (pc := 124) dL_mark_124 ?_
      refine lo_aload_n (pc := 125) dL_mark_125 rfl rfl ?_
      refine lo_iload_n (pc := 126) dL_mark_126 rfl rfl ?_
      obtain ⟨v11, hv12, h⟩ := fm_bind h
      refine lo_callSj (pc := 127) (As := [.ref 0, .int y3]) (st := [.long ((31 : Int64) * y1)]) dL_mark_127 (c_L_inCell  _ _ hv12) (by decide) (Nat.le_of_ble_eq_true rfl) ce_L_inCell ml_L_167 st_L_inCell rfl (Nat.le_of_ble_eq_true rfl) rfl ?_
      refine lo_ladd (pc := 130) dL_mark_130 ?_
      refine lo_lstore_n (pc := 131) (ls1 := [some (.ref 0), some (.long (((31 : Int64) * y1) + v11)), none, some (.int y3)]) dL_mark_131 rfl (by decide) rfl rfl ?_
      refine lo_iinc (pc := 132) (v := (y3 + (1 : Int32))) (ls1 := [some (.ref 0), some (.long (((31 : Int64) * y1) + v11)), none, some (.int (y3 + (1 : Int32)))]) dL_mark_132 rfl rfl (Nat.le_of_ble_eq_true rfl) rfl rfl ?_
      refine lo_goto (pc := 135) (tgt := 114) dL_mark_135 (by decide) ?_
      exact ih _ _ _ _ h
set_option maxRecDepth 100000 in
set_option maxHeartbeats 4000000 in
theorem c_L_mark_L74 {L : Nat} {xs : Nat → Int32} {X : List fm_L} : ∀ (n : Nat) (y1 : Int64) (y3 : Int32) (m : fm_M) (res : Int64), f_L_mark_L74 n y1 y3 m = some res → fl_Go L xs (fm_layH ++ X) 5 m_L_mark (fm_pj res m) 74 [some (.ref 0), some (.long y1), none, some (.int y3)] [] m := by
  intro n
  induction n with
  | zero => intro y1 y3 m res h; cases h
  | succ n ih =>
    intro y1 y3 m res h
    rw [f_L_mark_L74] at h
    refine lo_iload_n (pc := 74) dL_mark_74 rfl rfl ?_
    refine lo_i2l (pc := 75) dL_mark_75 ?_
    refine lo_ldc2 (pc := 76) (v := (5 : Int64)) dL_mark_76 cs_L_163 ?_
    refine lo_aload_n (pc := 79) dL_mark_79 rfl rfl ?_
    refine lo_iconst (pc := 80) (v := (2 : Int32)) dL_mark_80 (by decide) ?_
    obtain ⟨v5, hv6, h⟩ := fm_bind h
    refine lo_callSj (pc := 81) (As := [.ref 0, .int (2 : Int32)]) (st := [.long (5 : Int64), .long (y3.toInt64)]) dL_mark_81 (c_L_account  _ _ hv6) (by decide) (Nat.le_of_ble_eq_true rfl) ce_L_account ml_L_155 st_L_account rfl (Nat.le_of_ble_eq_true rfl) rfl ?_
    refine lo_lmul (pc := 84) dL_mark_84 ?_
    refine lo_lcmp (pc := 85) dL_mark_85 ?_
    refine lo_if_ge (pc := 86) (tgt := 112) dL_mark_86 (by decide) (fun c7 => ?_) (fun c7 => ?_)
    · rw [if_pos c7] at h
      refine lo_iconst (pc := 112) (v := (0 : Int32)) dL_mark_112 (by decide) ?_
      refine lo_istore_n (pc := 113) (ls1 := [some (.ref 0), some (.long y1), none, some (.int (0 : Int32))]) dL_mark_113 rfl (by decide) rfl rfl ?_
      exact c_L_mark_L114  fm_F _ _ _ _ h
    · rw [if_neg c7] at h
      refine lo_ldc2 (pc := 89) (v := (31 : Int64)) dL_mark_89 cs_L_153 ?_
      refine lo_lload_n (pc := 92) dL_mark_92 rfl rfl ?_
      refine lo_lmul (pc := 93) dL_mark_93 ?_
      refine lo_aload_n (pc := 94) dL_mark_94 rfl rfl ?_
      refine lo_iload_n (pc := 95) dL_mark_95 rfl rfl ?_
      refine lo_iconst (pc := 96) (v := (5 : Int32)) dL_mark_96 (by decide) ?_
      refine lo_idiv (pc := 97) dL_mark_97 (by decide) ?_
      refine lo_iload_n (pc := 98) dL_mark_98 rfl rfl ?_
      refine lo_iconst (pc := 99) (v := (5 : Int32)) dL_mark_99 (by decide) ?_
      refine lo_irem (pc := 100) dL_mark_100 (by decide) ?_
      obtain ⟨v13, hv14, h⟩ := fm_bind h
      refine lo_callSj (pc := 101) (As := [.ref 0, .int (y3 / (5 : Int32)), .int (y3 - y3 / (5 : Int32) * (5 : Int32))]) (st := [.long ((31 : Int64) * y1)]) dL_mark_101 (c_L_broke  _ _ _ hv14) (by decide) (Nat.le_of_ble_eq_true rfl) ce_L_broke ml_L_165 st_L_broke rfl (Nat.le_of_ble_eq_true rfl) rfl ?_
      refine lo_ladd (pc := 104) dL_mark_104 ?_
      refine lo_lstore_n (pc := 105) (ls1 := [some (.ref 0), some (.long (((31 : Int64) * y1) + v13)), none, some (.int y3)]) dL_mark_105 rfl (by decide) rfl rfl ?_
      refine lo_iinc (pc := 106) (v := (y3 + (1 : Int32))) (ls1 := [some (.ref 0), some (.long (((31 : Int64) * y1) + v13)), none, some (.int (y3 + (1 : Int32)))]) dL_mark_106 rfl rfl (Nat.le_of_ble_eq_true rfl) rfl rfl ?_
      refine lo_goto (pc := 109) (tgt := 74) dL_mark_109 (by decide) ?_
      exact ih _ _ _ _ h
set_option maxRecDepth 100000 in
set_option maxHeartbeats 4000000 in
theorem c_L_mark_L32 {L : Nat} {xs : Nat → Int32} {X : List fm_L} : ∀ (n : Nat) (y1 : Int64) (y3 : Int32) (m : fm_M) (res : Int64), f_L_mark_L32 n y1 y3 m = some res → fl_Go L xs (fm_layH ++ X) 5 m_L_mark (fm_pj res m) 32 [some (.ref 0), some (.long y1), none, some (.int y3)] [] m := by
  intro n
  induction n with
  | zero => intro y1 y3 m res h; cases h
  | succ n ih =>
    intro y1 y3 m res h
    rw [f_L_mark_L32] at h
    refine lo_iload_n (pc := 32) dL_mark_32 rfl rfl ?_
    refine lo_i2l (pc := 33) dL_mark_33 ?_
    refine lo_ldc2 (pc := 34) (v := (10 : Int64)) dL_mark_34 cs_L_158 ?_
    refine lo_aload_n (pc := 37) dL_mark_37 rfl rfl ?_
    refine lo_iconst (pc := 38) (v := (2 : Int32)) dL_mark_38 (by decide) ?_
    obtain ⟨v2, hv3, h⟩ := fm_bind h
    refine lo_callSj (pc := 39) (As := [.ref 0, .int (2 : Int32)]) (st := [.long (10 : Int64), .long (y3.toInt64)]) dL_mark_39 (c_L_account  _ _ hv3) (by decide) (Nat.le_of_ble_eq_true rfl) ce_L_account ml_L_155 st_L_account rfl (Nat.le_of_ble_eq_true rfl) rfl ?_
    refine lo_lmul (pc := 42) dL_mark_42 ?_
    refine lo_lcmp (pc := 43) dL_mark_43 ?_
    refine lo_if_ge (pc := 44) (tgt := 72) dL_mark_44 (by decide) (fun c4 => ?_) (fun c4 => ?_)
    · rw [if_pos c4] at h
      refine lo_iconst (pc := 72) (v := (0 : Int32)) dL_mark_72 (by decide) ?_
      refine lo_istore_n (pc := 73) (ls1 := [some (.ref 0), some (.long y1), none, some (.int (0 : Int32))]) dL_mark_73 rfl (by decide) rfl rfl ?_
      exact c_L_mark_L74  fm_F _ _ _ _ h
    · rw [if_neg c4] at h
      refine lo_ldc2 (pc := 47) (v := (31 : Int64)) dL_mark_47 cs_L_153 ?_
      refine lo_lload_n (pc := 50) dL_mark_50 rfl rfl ?_
      refine lo_lmul (pc := 51) dL_mark_51 ?_
      refine lo_aload_n (pc := 52) dL_mark_52 rfl rfl ?_
      refine lo_iload_n (pc := 53) dL_mark_53 rfl rfl ?_
      refine lo_bipush (pc := 54) (v := (10 : Int32)) dL_mark_54 (by decide) ?_
      refine lo_idiv (pc := 56) dL_mark_56 (by decide) ?_
      refine lo_iload_n (pc := 57) dL_mark_57 rfl rfl ?_
      refine lo_bipush (pc := 58) (v := (10 : Int32)) dL_mark_58 (by decide) ?_
      refine lo_irem (pc := 60) dL_mark_60 (by decide) ?_
      obtain ⟨v15, hv16, h⟩ := fm_bind h
      refine lo_callSj (pc := 61) (As := [.ref 0, .int (y3 / (10 : Int32)), .int (y3 - y3 / (10 : Int32) * (10 : Int32))]) (st := [.long ((31 : Int64) * y1)]) dL_mark_61 (c_L_brotherOf  _ _ _ hv16) (by decide) (Nat.le_of_ble_eq_true rfl) ce_L_brotherOf ml_L_160 st_L_brotherOf rfl (Nat.le_of_ble_eq_true rfl) rfl ?_
      refine lo_ladd (pc := 64) dL_mark_64 ?_
      refine lo_lstore_n (pc := 65) (ls1 := [some (.ref 0), some (.long (((31 : Int64) * y1) + v15)), none, some (.int y3)]) dL_mark_65 rfl (by decide) rfl rfl ?_
      refine lo_iinc (pc := 66) (v := (y3 + (1 : Int32))) (ls1 := [some (.ref 0), some (.long (((31 : Int64) * y1) + v15)), none, some (.int (y3 + (1 : Int32)))]) dL_mark_66 rfl rfl (Nat.le_of_ble_eq_true rfl) rfl rfl ?_
      refine lo_goto (pc := 69) (tgt := 32) dL_mark_69 (by decide) ?_
      exact ih _ _ _ _ h
set_option maxRecDepth 100000 in
set_option maxHeartbeats 4000000 in
theorem c_L_mark_L6 {L : Nat} {xs : Nat → Int32} {X : List fm_L} : ∀ (n : Nat) (y1 : Int64) (y3 : Int32) (m : fm_M) (res : Int64), f_L_mark_L6 n y1 y3 m = some res → fl_Go L xs (fm_layH ++ X) 5 m_L_mark (fm_pj res m) 6 [some (.ref 0), some (.long y1), none, some (.int y3)] [] m := by
  intro n
  induction n with
  | zero => intro y1 y3 m res h; cases h
  | succ n ih =>
    intro y1 y3 m res h
    rw [f_L_mark_L6] at h
    refine lo_iload_n (pc := 6) dL_mark_6 rfl rfl ?_
    refine lo_bipush (pc := 7) (v := (15 : Int32)) dL_mark_7 (by decide) ?_
    refine lo_icmp_ge (pc := 9) (tgt := 30) dL_mark_9 (by decide) (fun c1 => ?_) (fun c1 => ?_)
    · rw [if_pos c1] at h
      refine lo_iconst (pc := 30) (v := (0 : Int32)) dL_mark_30 (by decide) ?_
      refine lo_istore_n (pc := 31) (ls1 := [some (.ref 0), some (.long y1), none, some (.int (0 : Int32))]) dL_mark_31 rfl (by decide) rfl rfl ?_
      exact c_L_mark_L32  fm_F _ _ _ _ h
    · rw [if_neg c1] at h
      refine lo_ldc2 (pc := 12) (v := (31 : Int64)) dL_mark_12 cs_L_153 ?_
      refine lo_lload_n (pc := 15) dL_mark_15 rfl rfl ?_
      refine lo_lmul (pc := 16) dL_mark_16 ?_
      refine lo_aload_n (pc := 17) dL_mark_17 rfl rfl ?_
      refine lo_iload_n (pc := 18) dL_mark_18 rfl rfl ?_
      obtain ⟨v17, hv18, h⟩ := fm_bind h
      refine lo_callSj (pc := 19) (As := [.ref 0, .int y3]) (st := [.long ((31 : Int64) * y1)]) dL_mark_19 (c_L_account  _ _ hv18) (by decide) (Nat.le_of_ble_eq_true rfl) ce_L_account ml_L_155 st_L_account rfl (Nat.le_of_ble_eq_true rfl) rfl ?_
      refine lo_ladd (pc := 22) dL_mark_22 ?_
      refine lo_lstore_n (pc := 23) (ls1 := [some (.ref 0), some (.long (((31 : Int64) * y1) + v17)), none, some (.int y3)]) dL_mark_23 rfl (by decide) rfl rfl ?_
      refine lo_iinc (pc := 24) (v := (y3 + (1 : Int32))) (ls1 := [some (.ref 0), some (.long (((31 : Int64) * y1) + v17)), none, some (.int (y3 + (1 : Int32)))]) dL_mark_24 rfl rfl (Nat.le_of_ble_eq_true rfl) rfl rfl ?_
      refine lo_goto (pc := 27) (tgt := 6) dL_mark_27 (by decide) ?_
      exact ih _ _ _ _ h
set_option maxRecDepth 100000 in
set_option maxHeartbeats 4000000 in
theorem c_L_mark {L : Nat} {xs : Nat → Int32} {X : List fm_L} (m : fm_M) {res : Int64} (h : f_L_mark m = some res) : fl_Met L xs (fm_layH ++ X) 5 m_L_mark [.ref 0] m (fm_pj res m) := by
  refine fl_Met_of (ls := [some (.ref 0), none, none, none]) (by decide) rfl (fm_cc_r _ fm_cc_0) (Nat.le_of_ble_eq_true rfl) rfl ?_
  unfold f_L_mark at h
  refine lo_ldc2 (pc := 0) (v := (17 : Int64)) dL_mark_0 cs_L_151 ?_
  refine lo_lstore_n (pc := 3) (ls1 := [some (.ref 0), some (.long (17 : Int64)), none, none]) dL_mark_3 rfl (by decide) rfl rfl ?_
  refine lo_iconst (pc := 4) (v := (0 : Int32)) dL_mark_4 (by decide) ?_
  refine lo_istore_n (pc := 5) (ls1 := [some (.ref 0), some (.long (17 : Int64)), none, some (.int (0 : Int32))]) dL_mark_5 rfl (by decide) rfl rfl ?_
  exact c_L_mark_L6  fm_F _ _ _ _ h

def f_X7_isBetween (x1 : Int32) (x2 : Int32) (x3 : Int32) (m : fm_M) : Option (Bool) :=
  if x1 < x2 then (some false) else (if x3 < x1 then (some false) else (some true))
set_option maxRecDepth 100000 in
set_option maxHeartbeats 4000000 in
theorem c_X7_isBetween {lay : List fm_L} (x1 : Int32) (x2 : Int32) (x3 : Int32) (m : fm_M) {res : Bool} (h : f_X7_isBetween x1 x2 x3 m = some res) : fm_Met lay 0 m_X7_isBetween [.int x1, .int x2, .int x3] m (fm_pi (fm_b res) m) := by
  refine fm_Met_of (ls := [some (.int x1), some (.int x2), some (.int x3)]) (by decide) rfl (fm_cc_i _ (fm_cc_i _ (fm_cc_i _ fm_cc_0))) (Nat.le_of_ble_eq_true rfl) rfl ?_
  unfold f_X7_isBetween at h
  refine go_iload_n (pc := 0) dX7_isBetween_0 rfl rfl ?_
  refine go_iload_n (pc := 1) dX7_isBetween_1 rfl rfl ?_
  refine go_icmp_gt (pc := 2) (tgt := 14) dX7_isBetween_2 (by decide) (fun c1 => ?_) (fun c1 => ?_)
  · rw [if_pos c1] at h
    refine go_iconst (pc := 14) (v := (0 : Int32)) dX7_isBetween_14 (by decide) ?_
    obtain rfl := Option.some.inj h
    exact go_iret (pc := 15) .boolean dX7_isBetween_15 rfl rfl ⟨rfl, rfl⟩
  · rw [if_neg c1] at h
    refine go_iload_n (pc := 5) dX7_isBetween_5 rfl rfl ?_
    refine go_iload_n (pc := 6) dX7_isBetween_6 rfl rfl ?_
    refine go_icmp_gt (pc := 7) (tgt := 14) dX7_isBetween_7 (by decide) (fun c2 => ?_) (fun c2 => ?_)
    · rw [if_pos c2] at h
      refine go_iconst (pc := 14) (v := (0 : Int32)) dX7_isBetween_14 (by decide) ?_
      obtain rfl := Option.some.inj h
      exact go_iret (pc := 15) .boolean dX7_isBetween_15 rfl rfl ⟨rfl, rfl⟩
    · rw [if_neg c2] at h
      refine go_iconst (pc := 10) (v := (1 : Int32)) dX7_isBetween_10 (by decide) ?_
      refine go_goto (pc := 11) (tgt := 15) dX7_isBetween_11 (by decide) ?_
      obtain rfl := Option.some.inj h
      exact go_iret (pc := 15) .boolean dX7_isBetween_15 rfl rfl ⟨rfl, rfl⟩
def f_X7_lesser (x1 : Int32) (x2 : Int32) (m : fm_M) : Option (Int32) :=
  if x2 ≤ x1 then (some x2) else (some x1)
set_option maxRecDepth 100000 in
set_option maxHeartbeats 4000000 in
theorem c_X7_lesser {lay : List fm_L} (x1 : Int32) (x2 : Int32) (m : fm_M) {res : Int32} (h : f_X7_lesser x1 x2 m = some res) : fm_Met lay 0 m_X7_lesser [.int x1, .int x2] m (fm_pi res m) := by
  refine fm_Met_of (ls := [some (.int x1), some (.int x2)]) (by decide) rfl (fm_cc_i _ (fm_cc_i _ fm_cc_0)) (Nat.le_of_ble_eq_true rfl) rfl ?_
  unfold f_X7_lesser at h
  refine go_iload_n (pc := 0) dX7_lesser_0 rfl rfl ?_
  refine go_iload_n (pc := 1) dX7_lesser_1 rfl rfl ?_
  refine go_icmp_ge (pc := 2) (tgt := 9) dX7_lesser_2 (by decide) (fun c1 => ?_) (fun c1 => ?_)
  · rw [if_pos c1] at h
    refine go_iload_n (pc := 9) dX7_lesser_9 rfl rfl ?_
    obtain rfl := Option.some.inj h
    exact go_iret (pc := 10) .int dX7_lesser_10 rfl rfl ⟨rfl, rfl⟩
  · rw [if_neg c1] at h
    refine go_iload_n (pc := 5) dX7_lesser_5 rfl rfl ?_
    refine go_goto (pc := 6) (tgt := 10) dX7_lesser_6 (by decide) ?_
    obtain rfl := Option.some.inj h
    exact go_iret (pc := 10) .int dX7_lesser_10 rfl rfl ⟨rfl, rfl⟩
def f_X7_isNot (x1 : Int32) (x2 : Int32) (m : fm_M) : Option (Int32 × fm_M) :=
  some ((-14 : Int32), (fm_put (fm_put m 23 2 x1) 23 3 x2))
set_option maxRecDepth 100000 in
set_option maxHeartbeats 4000000 in
theorem c_X7_isNot (x1 : Int32) (x2 : Int32) (m : fm_M) {res : Int32 × fm_M} (h : f_X7_isNot x1 x2 m = some res) : fm_Met fm_layW 0 m_X7_isNot [.ref 23, .int x1, .int x2] m (fm_pi res.1 res.2) := by
  refine fm_Met_of (ls := [some (.ref 23), some (.int x1), some (.int x2)]) (by decide) rfl (fm_cc_r _ (fm_cc_i _ (fm_cc_i _ fm_cc_0))) (Nat.le_of_ble_eq_true rfl) rfl ?_
  unfold f_X7_isNot at h
  refine go_aload_n (pc := 0) dX7_isNot_0 rfl rfl ?_
  refine go_iload_n (pc := 1) dX7_isNot_1 rfl rfl ?_
  refine go_put (pc := 2) (k := 2) .int dX7_isNot_2 cl_X7 rfl rfl (by decide) lk_X7_35 rfl (by decide +kernel) rfl rfl ?_
  refine go_aload_n (pc := 5) dX7_isNot_5 rfl rfl ?_
  refine go_iload_n (pc := 6) dX7_isNot_6 rfl rfl ?_
  refine go_put (pc := 7) (k := 3) .int dX7_isNot_7 cl_X7 rfl rfl (by decide) lk_X7_39 rfl (by decide +kernel) rfl rfl ?_
  refine go_bipush (pc := 10) (v := (-14 : Int32)) dX7_isNot_10 (by decide) ?_
  obtain rfl := Option.some.inj h
  exact go_iret (pc := 12) .int dX7_isNot_12 rfl rfl ⟨rfl, rfl⟩
def f_X7_refuses (x1 : Int32) (m : fm_M) : Option (Int32 × fm_M) :=
  if x1 = (-14 : Int32) then (some (x1, (fm_put (fm_put m 23 0 (m 23 2)) 23 1 ((fm_put m 23 0 (m 23 2)) 23 3)))) else (some (x1, m))
set_option maxRecDepth 100000 in
set_option maxHeartbeats 4000000 in
theorem c_X7_refuses (x1 : Int32) (m : fm_M) {res : Int32 × fm_M} (h : f_X7_refuses x1 m = some res) : fm_Met fm_layW 0 m_X7_refuses [.ref 23, .int x1] m (fm_pi res.1 res.2) := by
  refine fm_Met_of (ls := [some (.ref 23), some (.int x1)]) (by decide) rfl (fm_cc_r _ (fm_cc_i _ fm_cc_0)) (Nat.le_of_ble_eq_true rfl) rfl ?_
  unfold f_X7_refuses at h
  refine go_iload_n (pc := 0) dX7_refuses_0 rfl rfl ?_
  refine go_bipush (pc := 1) (v := (-14 : Int32)) dX7_refuses_1 (by decide) ?_
  refine go_icmp_ne (pc := 3) (tgt := 22) dX7_refuses_3 (by decide) (fun c1 => ?_) (fun c1 => ?_)
  · rw [if_neg c1] at h
    refine go_iload_n (pc := 22) dX7_refuses_22 rfl rfl ?_
    obtain rfl := Option.some.inj h
    exact go_iret (pc := 23) .int dX7_refuses_23 rfl rfl ⟨rfl, rfl⟩
  · rw [if_pos c1] at h
    refine go_aload_n (pc := 6) dX7_refuses_6 rfl rfl ?_
    refine go_aload_n (pc := 7) dX7_refuses_7 rfl rfl ?_
    refine go_getI (pc := 8) (k := 2) dX7_refuses_8 cl_X7 rfl rfl (by decide) lk_X7_35 ?_
    refine go_put (pc := 11) (k := 0) .int dX7_refuses_11 cl_X7 rfl rfl (by decide) lk_X7_42 rfl (by decide +kernel) rfl rfl ?_
    refine go_aload_n (pc := 14) dX7_refuses_14 rfl rfl ?_
    refine go_aload_n (pc := 15) dX7_refuses_15 rfl rfl ?_
    refine go_getI (pc := 16) (k := 3) dX7_refuses_16 cl_X7 rfl rfl (by decide) lk_X7_39 ?_
    refine go_put (pc := 19) (k := 1) .int dX7_refuses_19 cl_X7 rfl rfl (by decide) lk_X7_45 rfl (by decide +kernel) rfl rfl ?_
    refine go_iload_n (pc := 22) dX7_refuses_22 rfl rfl ?_
    obtain rfl := Option.some.inj h
    exact go_iret (pc := 23) .int dX7_refuses_23 rfl rfl ⟨rfl, rfl⟩
def f_X7_reason (x1 : Int32) (m : fm_M) : Option (Int32) :=
  if (m 23 0) = 0 then (some (-15 : Int32)) else (if x1 = 0 then (some (m 23 0)) else (some (m 23 1)))
set_option maxRecDepth 100000 in
set_option maxHeartbeats 4000000 in
theorem c_X7_reason (x1 : Int32) (m : fm_M) {res : Int32} (h : f_X7_reason x1 m = some res) : fm_Met fm_layW 0 m_X7_reason [.ref 23, .int x1] m (fm_pi res m) := by
  refine fm_Met_of (ls := [some (.ref 23), some (.int x1)]) (by decide) rfl (fm_cc_r _ (fm_cc_i _ fm_cc_0)) (Nat.le_of_ble_eq_true rfl) rfl ?_
  unfold f_X7_reason at h
  refine go_aload_n (pc := 0) dX7_reason_0 rfl rfl ?_
  refine go_getI (pc := 1) (k := 0) dX7_reason_1 cl_X7 rfl rfl (by decide) lk_X7_42 ?_
  refine go_if_ne (pc := 4) (tgt := 12) dX7_reason_4 (by decide) (fun c1 => ?_) (fun c1 => ?_)
  · rw [if_neg c1] at h
    refine go_iload_n (pc := 12) dX7_reason_12 rfl rfl ?_
    refine go_if_eq (pc := 13) (tgt := 23) dX7_reason_13 (by decide) (fun c2 => ?_) (fun c2 => ?_)
    · rw [if_pos c2] at h
      refine go_aload_n (pc := 23) dX7_reason_23 rfl rfl ?_
      refine go_getI (pc := 24) (k := 0) dX7_reason_24 cl_X7 rfl rfl (by decide) lk_X7_42 ?_
      obtain rfl := Option.some.inj h
      exact go_iret (pc := 27) .int dX7_reason_27 rfl rfl ⟨rfl, rfl⟩
    · rw [if_neg c2] at h
      refine go_aload_n (pc := 16) dX7_reason_16 rfl rfl ?_
      refine go_getI (pc := 17) (k := 1) dX7_reason_17 cl_X7 rfl rfl (by decide) lk_X7_45 ?_
      refine go_goto (pc := 20) (tgt := 27) dX7_reason_20 (by decide) ?_
      obtain rfl := Option.some.inj h
      exact go_iret (pc := 27) .int dX7_reason_27 rfl rfl ⟨rfl, rfl⟩
  · rw [if_pos c1] at h
    refine go_bipush (pc := 7) (v := (-15 : Int32)) dX7_reason_7 (by decide) ?_
    refine go_goto (pc := 9) (tgt := 27) dX7_reason_9 (by decide) ?_
    obtain rfl := Option.some.inj h
    exact go_iret (pc := 27) .int dX7_reason_27 rfl rfl ⟨rfl, rfl⟩
def f_X7_thinks_L2 : Nat → Int32 → fm_M → Option (fm_M)
  | 0, _, _ => none
  | n + 1, y1, m => if (320 : Int32) ≤ y1 then (some m) else (if fm_in y1 320 = true then (if fm_in y1 320 = true then (f_X7_thinks_L2 n (y1 + (1 : Int32)) (fm_put m 27 y1.toNatClampNeg (m 24 y1.toNatClampNeg))) else none) else none)
def f_X7_thinks (m : fm_M) : Option (fm_M) :=
  f_X7_thinks_L2 fm_F (0 : Int32) m
set_option maxRecDepth 100000 in
set_option maxHeartbeats 4000000 in
theorem c_X7_thinks_L2 : ∀ (n : Nat) (y1 : Int32) (m : fm_M) (res : fm_M), f_X7_thinks_L2 n y1 m = some res → fm_Go fm_layW 0 m_X7_thinks (fm_pv res) 2 [some (.ref 23), some (.int y1)] [] m := by
  intro n
  induction n with
  | zero => intro y1 m res h; cases h
  | succ n ih =>
    intro y1 m res h
    rw [f_X7_thinks_L2] at h
    refine go_iload_n (pc := 2) dX7_thinks_2 rfl rfl ?_
    refine go_sipush (pc := 3) (v := (320 : Int32)) dX7_thinks_3 (by decide) ?_
    refine go_icmp_ge (pc := 6) (tgt := 27) dX7_thinks_6 (by decide) (fun c1 => ?_) (fun c1 => ?_)
    · rw [if_pos c1] at h
      obtain rfl := Option.some.inj h
      exact go_vret (pc := 27) dX7_thinks_27 rfl ⟨rfl, rfl⟩
    · rw [if_neg c1] at h
      refine go_aload_n (pc := 9) dX7_thinks_9 rfl rfl ?_
      refine go_getR (pc := 10) (k := 7) (q2 := 27) dX7_thinks_10 cl_X7 rfl rfl (by decide) lk_X7_19 ?_
      refine go_iload_n (pc := 13) dX7_thinks_13 rfl rfl ?_
      refine go_aload_n (pc := 14) dX7_thinks_14 rfl rfl ?_
      refine go_getR (pc := 15) (k := 4) (q2 := 24) dX7_thinks_15 cl_X7 rfl rfl (by decide) lk_X7_7 ?_
      refine go_iload_n (pc := 18) dX7_thinks_18 rfl rfl ?_
      obtain ⟨hi2, h⟩ := fm_chk h
      refine go_iald (pc := 19) dX7_thinks_19 rfl (fm_in_vp hi2) ?_
      obtain ⟨hi3, h⟩ := fm_chk h
      refine go_iast (pc := 20) dX7_thinks_20 rfl (fm_in_vp hi3) ?_
      refine go_iinc (pc := 21) (v := (y1 + (1 : Int32))) (ls1 := [some (.ref 23), some (.int (y1 + (1 : Int32)))]) dX7_thinks_21 rfl rfl (Nat.le_of_ble_eq_true rfl) rfl ?_
      refine go_goto (pc := 24) (tgt := 2) dX7_thinks_24 (by decide) ?_
      exact ih _ _ _ h
set_option maxRecDepth 100000 in
set_option maxHeartbeats 4000000 in
theorem c_X7_thinks (m : fm_M) {res : fm_M} (h : f_X7_thinks  m = some res) : fm_Met fm_layW 0 m_X7_thinks [.ref 23] m (fm_pv res) := by
  refine fm_Met_of (ls := [some (.ref 23), none]) (by decide) rfl (fm_cc_r _ fm_cc_0) (Nat.le_of_ble_eq_true rfl) rfl ?_
  unfold f_X7_thinks at h
  refine go_iconst (pc := 0) (v := (0 : Int32)) dX7_thinks_0 (by decide) ?_
  refine go_istore_n (pc := 1) (ls1 := [some (.ref 23), some (.int (0 : Int32))]) dX7_thinks_1 rfl (by decide) rfl ?_
  exact c_X7_thinks_L2  fm_F _ _ _ h
def f_X7_forgets_L2 : Nat → Int32 → fm_M → Option (fm_M)
  | 0, _, _ => none
  | n + 1, y1, m => if (320 : Int32) ≤ y1 then (some m) else (if fm_in y1 320 = true then (if fm_in y1 320 = true then (f_X7_forgets_L2 n (y1 + (1 : Int32)) (fm_put m 24 y1.toNatClampNeg (m 27 y1.toNatClampNeg))) else none) else none)
def f_X7_forgets (m : fm_M) : Option (fm_M) :=
  f_X7_forgets_L2 fm_F (0 : Int32) m
set_option maxRecDepth 100000 in
set_option maxHeartbeats 4000000 in
theorem c_X7_forgets_L2 : ∀ (n : Nat) (y1 : Int32) (m : fm_M) (res : fm_M), f_X7_forgets_L2 n y1 m = some res → fm_Go fm_layW 0 m_X7_forgets (fm_pv res) 2 [some (.ref 23), some (.int y1)] [] m := by
  intro n
  induction n with
  | zero => intro y1 m res h; cases h
  | succ n ih =>
    intro y1 m res h
    rw [f_X7_forgets_L2] at h
    refine go_iload_n (pc := 2) dX7_forgets_2 rfl rfl ?_
    refine go_sipush (pc := 3) (v := (320 : Int32)) dX7_forgets_3 (by decide) ?_
    refine go_icmp_ge (pc := 6) (tgt := 27) dX7_forgets_6 (by decide) (fun c1 => ?_) (fun c1 => ?_)
    · rw [if_pos c1] at h
      obtain rfl := Option.some.inj h
      exact go_vret (pc := 27) dX7_forgets_27 rfl ⟨rfl, rfl⟩
    · rw [if_neg c1] at h
      refine go_aload_n (pc := 9) dX7_forgets_9 rfl rfl ?_
      refine go_getR (pc := 10) (k := 4) (q2 := 24) dX7_forgets_10 cl_X7 rfl rfl (by decide) lk_X7_7 ?_
      refine go_iload_n (pc := 13) dX7_forgets_13 rfl rfl ?_
      refine go_aload_n (pc := 14) dX7_forgets_14 rfl rfl ?_
      refine go_getR (pc := 15) (k := 7) (q2 := 27) dX7_forgets_15 cl_X7 rfl rfl (by decide) lk_X7_19 ?_
      refine go_iload_n (pc := 18) dX7_forgets_18 rfl rfl ?_
      obtain ⟨hi2, h⟩ := fm_chk h
      refine go_iald (pc := 19) dX7_forgets_19 rfl (fm_in_vp hi2) ?_
      obtain ⟨hi3, h⟩ := fm_chk h
      refine go_iast (pc := 20) dX7_forgets_20 rfl (fm_in_vp hi3) ?_
      refine go_iinc (pc := 21) (v := (y1 + (1 : Int32))) (ls1 := [some (.ref 23), some (.int (y1 + (1 : Int32)))]) dX7_forgets_21 rfl rfl (Nat.le_of_ble_eq_true rfl) rfl ?_
      refine go_goto (pc := 24) (tgt := 2) dX7_forgets_24 (by decide) ?_
      exact ih _ _ _ h
set_option maxRecDepth 100000 in
set_option maxHeartbeats 4000000 in
theorem c_X7_forgets (m : fm_M) {res : fm_M} (h : f_X7_forgets  m = some res) : fm_Met fm_layW 0 m_X7_forgets [.ref 23] m (fm_pv res) := by
  refine fm_Met_of (ls := [some (.ref 23), none]) (by decide) rfl (fm_cc_r _ fm_cc_0) (Nat.le_of_ble_eq_true rfl) rfl ?_
  unfold f_X7_forgets at h
  refine go_iconst (pc := 0) (v := (0 : Int32)) dX7_forgets_0 (by decide) ?_
  refine go_istore_n (pc := 1) (ls1 := [some (.ref 23), some (.int (0 : Int32))]) dX7_forgets_1 rfl (by decide) rfl ?_
  exact c_X7_forgets_L2  fm_F _ _ _ h
def f_X7_keepsMind_L47 : Nat → Int32 → Int32 → fm_M → Option (fm_M)
  | 0, _, _, _ => none
  | n + 1, y1, y2, m => if (320 : Int32) ≤ y2 then (some (fm_put m 23 8 ((m 23 8) + (1 : Int32)))) else (if fm_in y2 320 = true then (if fm_in (((320 : Int32) * y1) + y2) 2560 = true then (f_X7_keepsMind_L47 n y1 (y2 + (1 : Int32)) (fm_put m 25 (((320 : Int32) * y1) + y2).toNatClampNeg (m 27 y2.toNatClampNeg))) else none) else none)
def f_X7_keepsMind (m : fm_M) : Option (fm_M) :=
  if (m 23 8) = (8 : Int32) then (f_X7_keepsMind_L47 fm_F ((((fm_put (fm_put m 23 9 (((m 23 9) + (1 : Int32)) - ((m 23 9) + (1 : Int32)) / (8 : Int32) * (8 : Int32))) 23 8 (((fm_put m 23 9 (((m 23 9) + (1 : Int32)) - ((m 23 9) + (1 : Int32)) / (8 : Int32) * (8 : Int32))) 23 8) - (1 : Int32))) 23 9) + ((fm_put (fm_put m 23 9 (((m 23 9) + (1 : Int32)) - ((m 23 9) + (1 : Int32)) / (8 : Int32) * (8 : Int32))) 23 8 (((fm_put m 23 9 (((m 23 9) + (1 : Int32)) - ((m 23 9) + (1 : Int32)) / (8 : Int32) * (8 : Int32))) 23 8) - (1 : Int32))) 23 8)) - (((fm_put (fm_put m 23 9 (((m 23 9) + (1 : Int32)) - ((m 23 9) + (1 : Int32)) / (8 : Int32) * (8 : Int32))) 23 8 (((fm_put m 23 9 (((m 23 9) + (1 : Int32)) - ((m 23 9) + (1 : Int32)) / (8 : Int32) * (8 : Int32))) 23 8) - (1 : Int32))) 23 9) + ((fm_put (fm_put m 23 9 (((m 23 9) + (1 : Int32)) - ((m 23 9) + (1 : Int32)) / (8 : Int32) * (8 : Int32))) 23 8 (((fm_put m 23 9 (((m 23 9) + (1 : Int32)) - ((m 23 9) + (1 : Int32)) / (8 : Int32) * (8 : Int32))) 23 8) - (1 : Int32))) 23 8)) / (8 : Int32) * (8 : Int32)) (0 : Int32) (fm_put (fm_put m 23 9 (((m 23 9) + (1 : Int32)) - ((m 23 9) + (1 : Int32)) / (8 : Int32) * (8 : Int32))) 23 8 (((fm_put m 23 9 (((m 23 9) + (1 : Int32)) - ((m 23 9) + (1 : Int32)) / (8 : Int32) * (8 : Int32))) 23 8) - (1 : Int32)))) else (f_X7_keepsMind_L47 fm_F (((m 23 9) + (m 23 8)) - ((m 23 9) + (m 23 8)) / (8 : Int32) * (8 : Int32)) (0 : Int32) m)
set_option maxRecDepth 100000 in
set_option maxHeartbeats 4000000 in
theorem c_X7_keepsMind_L47 : ∀ (n : Nat) (y1 : Int32) (y2 : Int32) (m : fm_M) (res : fm_M), f_X7_keepsMind_L47 n y1 y2 m = some res → fm_Go fm_layW 0 m_X7_keepsMind (fm_pv res) 47 [some (.ref 23), some (.int y1), some (.int y2)] [] m := by
  intro n
  induction n with
  | zero => intro y1 y2 m res h; cases h
  | succ n ih =>
    intro y1 y2 m res h
    rw [f_X7_keepsMind_L47] at h
    refine go_iload_n (pc := 47) dX7_keepsMind_47 rfl rfl ?_
    refine go_sipush (pc := 48) (v := (320 : Int32)) dX7_keepsMind_48 (by decide) ?_
    refine go_icmp_ge (pc := 51) (tgt := 78) dX7_keepsMind_51 (by decide) (fun c2 => ?_) (fun c2 => ?_)
    · rw [if_pos c2] at h
      refine go_aload_n (pc := 78) dX7_keepsMind_78 rfl rfl ?_
      refine go_dup (pc := 79) dX7_keepsMind_79 rfl ?_
      refine go_getI (pc := 80) (k := 8) dX7_keepsMind_80 cl_X7 rfl rfl (by decide) lk_X7_48 ?_
      refine go_iconst (pc := 83) (v := (1 : Int32)) dX7_keepsMind_83 (by decide) ?_
      refine go_iadd (pc := 84) dX7_keepsMind_84 ?_
      refine go_put (pc := 85) (k := 8) .int dX7_keepsMind_85 cl_X7 rfl rfl (by decide) lk_X7_48 rfl (by decide +kernel) rfl rfl ?_
      obtain rfl := Option.some.inj h
      exact go_vret (pc := 88) dX7_keepsMind_88 rfl ⟨rfl, rfl⟩
    · rw [if_neg c2] at h
      refine go_aload_n (pc := 54) dX7_keepsMind_54 rfl rfl ?_
      refine go_getR (pc := 55) (k := 5) (q2 := 25) dX7_keepsMind_55 cl_X7 rfl rfl (by decide) lk_X7_13 ?_
      refine go_sipush (pc := 58) (v := (320 : Int32)) dX7_keepsMind_58 (by decide) ?_
      refine go_iload_n (pc := 61) dX7_keepsMind_61 rfl rfl ?_
      refine go_imul (pc := 62) dX7_keepsMind_62 ?_
      refine go_iload_n (pc := 63) dX7_keepsMind_63 rfl rfl ?_
      refine go_iadd (pc := 64) dX7_keepsMind_64 ?_
      refine go_aload_n (pc := 65) dX7_keepsMind_65 rfl rfl ?_
      refine go_getR (pc := 66) (k := 7) (q2 := 27) dX7_keepsMind_66 cl_X7 rfl rfl (by decide) lk_X7_19 ?_
      refine go_iload_n (pc := 69) dX7_keepsMind_69 rfl rfl ?_
      obtain ⟨hi3, h⟩ := fm_chk h
      refine go_iald (pc := 70) dX7_keepsMind_70 rfl (fm_in_vp hi3) ?_
      obtain ⟨hi4, h⟩ := fm_chk h
      refine go_iast (pc := 71) dX7_keepsMind_71 rfl (fm_in_vp hi4) ?_
      refine go_iinc (pc := 72) (v := (y2 + (1 : Int32))) (ls1 := [some (.ref 23), some (.int y1), some (.int (y2 + (1 : Int32)))]) dX7_keepsMind_72 rfl rfl (Nat.le_of_ble_eq_true rfl) rfl ?_
      refine go_goto (pc := 75) (tgt := 47) dX7_keepsMind_75 (by decide) ?_
      exact ih _ _ _ _ h
set_option maxRecDepth 100000 in
set_option maxHeartbeats 4000000 in
theorem c_X7_keepsMind (m : fm_M) {res : fm_M} (h : f_X7_keepsMind  m = some res) : fm_Met fm_layW 0 m_X7_keepsMind [.ref 23] m (fm_pv res) := by
  refine fm_Met_of (ls := [some (.ref 23), none, none]) (by decide) rfl (fm_cc_r _ fm_cc_0) (Nat.le_of_ble_eq_true rfl) rfl ?_
  unfold f_X7_keepsMind at h
  refine go_aload_n (pc := 0) dX7_keepsMind_0 rfl rfl ?_
  refine go_getI (pc := 1) (k := 8) dX7_keepsMind_1 cl_X7 rfl rfl (by decide) lk_X7_48 ?_
  refine go_bipush (pc := 4) (v := (8 : Int32)) dX7_keepsMind_4 (by decide) ?_
  refine go_icmp_ne (pc := 6) (tgt := 32) dX7_keepsMind_6 (by decide) (fun c1 => ?_) (fun c1 => ?_)
  · rw [if_neg c1] at h
    refine go_aload_n (pc := 32) dX7_keepsMind_32 rfl rfl ?_
    refine go_getI (pc := 33) (k := 9) dX7_keepsMind_33 cl_X7 rfl rfl (by decide) lk_X7_51 ?_
    refine go_aload_n (pc := 36) dX7_keepsMind_36 rfl rfl ?_
    refine go_getI (pc := 37) (k := 8) dX7_keepsMind_37 cl_X7 rfl rfl (by decide) lk_X7_48 ?_
    refine go_iadd (pc := 40) dX7_keepsMind_40 ?_
    refine go_bipush (pc := 41) (v := (8 : Int32)) dX7_keepsMind_41 (by decide) ?_
    refine go_irem (pc := 43) dX7_keepsMind_43 (by decide) ?_
    refine go_istore_n (pc := 44) (ls1 := [some (.ref 23), some (.int (((m 23 9) + (m 23 8)) - ((m 23 9) + (m 23 8)) / (8 : Int32) * (8 : Int32))), none]) dX7_keepsMind_44 rfl (by decide) rfl ?_
    refine go_iconst (pc := 45) (v := (0 : Int32)) dX7_keepsMind_45 (by decide) ?_
    refine go_istore_n (pc := 46) (ls1 := [some (.ref 23), some (.int (((m 23 9) + (m 23 8)) - ((m 23 9) + (m 23 8)) / (8 : Int32) * (8 : Int32))), some (.int (0 : Int32))]) dX7_keepsMind_46 rfl (by decide) rfl ?_
    exact c_X7_keepsMind_L47  fm_F _ _ _ _ h
  · rw [if_pos c1] at h
    refine go_aload_n (pc := 9) dX7_keepsMind_9 rfl rfl ?_
    refine go_aload_n (pc := 10) dX7_keepsMind_10 rfl rfl ?_
    refine go_getI (pc := 11) (k := 9) dX7_keepsMind_11 cl_X7 rfl rfl (by decide) lk_X7_51 ?_
    refine go_iconst (pc := 14) (v := (1 : Int32)) dX7_keepsMind_14 (by decide) ?_
    refine go_iadd (pc := 15) dX7_keepsMind_15 ?_
    refine go_bipush (pc := 16) (v := (8 : Int32)) dX7_keepsMind_16 (by decide) ?_
    refine go_irem (pc := 18) dX7_keepsMind_18 (by decide) ?_
    refine go_put (pc := 19) (k := 9) .int dX7_keepsMind_19 cl_X7 rfl rfl (by decide) lk_X7_51 rfl (by decide +kernel) rfl rfl ?_
    refine go_aload_n (pc := 22) dX7_keepsMind_22 rfl rfl ?_
    refine go_dup (pc := 23) dX7_keepsMind_23 rfl ?_
    refine go_getI (pc := 24) (k := 8) dX7_keepsMind_24 cl_X7 rfl rfl (by decide) lk_X7_48 ?_
    refine go_iconst (pc := 27) (v := (1 : Int32)) dX7_keepsMind_27 (by decide) ?_
    refine go_isub (pc := 28) dX7_keepsMind_28 ?_
    refine go_put (pc := 29) (k := 8) .int dX7_keepsMind_29 cl_X7 rfl rfl (by decide) lk_X7_48 rfl (by decide +kernel) rfl rfl ?_
    refine go_aload_n (pc := 32) dX7_keepsMind_32 rfl rfl ?_
    refine go_getI (pc := 33) (k := 9) dX7_keepsMind_33 cl_X7 rfl rfl (by decide) lk_X7_51 ?_
    refine go_aload_n (pc := 36) dX7_keepsMind_36 rfl rfl ?_
    refine go_getI (pc := 37) (k := 8) dX7_keepsMind_37 cl_X7 rfl rfl (by decide) lk_X7_48 ?_
    refine go_iadd (pc := 40) dX7_keepsMind_40 ?_
    refine go_bipush (pc := 41) (v := (8 : Int32)) dX7_keepsMind_41 (by decide) ?_
    refine go_irem (pc := 43) dX7_keepsMind_43 (by decide) ?_
    refine go_istore_n (pc := 44) (ls1 := [some (.ref 23), some (.int ((((fm_put (fm_put m 23 9 (((m 23 9) + (1 : Int32)) - ((m 23 9) + (1 : Int32)) / (8 : Int32) * (8 : Int32))) 23 8 (((fm_put m 23 9 (((m 23 9) + (1 : Int32)) - ((m 23 9) + (1 : Int32)) / (8 : Int32) * (8 : Int32))) 23 8) - (1 : Int32))) 23 9) + ((fm_put (fm_put m 23 9 (((m 23 9) + (1 : Int32)) - ((m 23 9) + (1 : Int32)) / (8 : Int32) * (8 : Int32))) 23 8 (((fm_put m 23 9 (((m 23 9) + (1 : Int32)) - ((m 23 9) + (1 : Int32)) / (8 : Int32) * (8 : Int32))) 23 8) - (1 : Int32))) 23 8)) - (((fm_put (fm_put m 23 9 (((m 23 9) + (1 : Int32)) - ((m 23 9) + (1 : Int32)) / (8 : Int32) * (8 : Int32))) 23 8 (((fm_put m 23 9 (((m 23 9) + (1 : Int32)) - ((m 23 9) + (1 : Int32)) / (8 : Int32) * (8 : Int32))) 23 8) - (1 : Int32))) 23 9) + ((fm_put (fm_put m 23 9 (((m 23 9) + (1 : Int32)) - ((m 23 9) + (1 : Int32)) / (8 : Int32) * (8 : Int32))) 23 8 (((fm_put m 23 9 (((m 23 9) + (1 : Int32)) - ((m 23 9) + (1 : Int32)) / (8 : Int32) * (8 : Int32))) 23 8) - (1 : Int32))) 23 8)) / (8 : Int32) * (8 : Int32))), none]) dX7_keepsMind_44 rfl (by decide) rfl ?_
    refine go_iconst (pc := 45) (v := (0 : Int32)) dX7_keepsMind_45 (by decide) ?_
    refine go_istore_n (pc := 46) (ls1 := [some (.ref 23), some (.int ((((fm_put (fm_put m 23 9 (((m 23 9) + (1 : Int32)) - ((m 23 9) + (1 : Int32)) / (8 : Int32) * (8 : Int32))) 23 8 (((fm_put m 23 9 (((m 23 9) + (1 : Int32)) - ((m 23 9) + (1 : Int32)) / (8 : Int32) * (8 : Int32))) 23 8) - (1 : Int32))) 23 9) + ((fm_put (fm_put m 23 9 (((m 23 9) + (1 : Int32)) - ((m 23 9) + (1 : Int32)) / (8 : Int32) * (8 : Int32))) 23 8 (((fm_put m 23 9 (((m 23 9) + (1 : Int32)) - ((m 23 9) + (1 : Int32)) / (8 : Int32) * (8 : Int32))) 23 8) - (1 : Int32))) 23 8)) - (((fm_put (fm_put m 23 9 (((m 23 9) + (1 : Int32)) - ((m 23 9) + (1 : Int32)) / (8 : Int32) * (8 : Int32))) 23 8 (((fm_put m 23 9 (((m 23 9) + (1 : Int32)) - ((m 23 9) + (1 : Int32)) / (8 : Int32) * (8 : Int32))) 23 8) - (1 : Int32))) 23 9) + ((fm_put (fm_put m 23 9 (((m 23 9) + (1 : Int32)) - ((m 23 9) + (1 : Int32)) / (8 : Int32) * (8 : Int32))) 23 8 (((fm_put m 23 9 (((m 23 9) + (1 : Int32)) - ((m 23 9) + (1 : Int32)) / (8 : Int32) * (8 : Int32))) 23 8) - (1 : Int32))) 23 8)) / (8 : Int32) * (8 : Int32))), some (.int (0 : Int32))]) dX7_keepsMind_46 rfl (by decide) rfl ?_
    exact c_X7_keepsMind_L47  fm_F _ _ _ _ h
def f_X7_remembers (m : fm_M) : Option (fm_M) :=
  (f_X7_thinks m).bind fun v1 => (f_X7_keepsMind v1).bind fun v3 => some v3
set_option maxRecDepth 100000 in
set_option maxHeartbeats 4000000 in
theorem c_X7_remembers (m : fm_M) {res : fm_M} (h : f_X7_remembers  m = some res) : fm_Met fm_layW 1 m_X7_remembers [.ref 23] m (fm_pv res) := by
  refine fm_Met_of (ls := [some (.ref 23)]) (by decide) rfl (fm_cc_r _ fm_cc_0) (Nat.le_of_ble_eq_true rfl) rfl ?_
  unfold f_X7_remembers at h
  refine go_aload_n (pc := 0) dX7_remembers_0 rfl rfl ?_
  obtain ⟨v1, hv2, h⟩ := fm_bind h
  refine go_callVv (pc := 1) (As := []) (st := []) dX7_remembers_1 (c_X7_thinks   _ hv2) (by decide) ce_X7_thinks ml_X7_54 in_X7_thinks se_X7_thinks cl_X7 rfl rfl (Nat.le_of_ble_eq_true rfl) rfl ?_
  refine go_aload_n (pc := 4) dX7_remembers_4 rfl rfl ?_
  obtain ⟨v3, hv4, h⟩ := fm_bind h
  refine go_callVv (pc := 5) (As := []) (st := []) dX7_remembers_5 (c_X7_keepsMind   _ hv4) (by decide) ce_X7_keepsMind ml_X7_57 in_X7_keepsMind se_X7_keepsMind cl_X7 rfl rfl (Nat.le_of_ble_eq_true rfl) rfl ?_
  obtain rfl := Option.some.inj h
  exact go_vret (pc := 8) dX7_remembers_8 rfl ⟨rfl, rfl⟩
def f_X7_of (x1 : Int32) (x2 : Int32) (m : fm_M) : Option (Int32) :=
  if fm_in (((64 : Int32) + ((16 : Int32) * x1)) + x2) 320 = true then (some (m 24 (((64 : Int32) + ((16 : Int32) * x1)) + x2).toNatClampNeg)) else none
set_option maxRecDepth 100000 in
set_option maxHeartbeats 4000000 in
theorem c_X7_of (x1 : Int32) (x2 : Int32) (m : fm_M) {res : Int32} (h : f_X7_of x1 x2 m = some res) : fm_Met fm_layW 0 m_X7_of [.ref 23, .int x1, .int x2] m (fm_pi res m) := by
  refine fm_Met_of (ls := [some (.ref 23), some (.int x1), some (.int x2)]) (by decide) rfl (fm_cc_r _ (fm_cc_i _ (fm_cc_i _ fm_cc_0))) (Nat.le_of_ble_eq_true rfl) rfl ?_
  unfold f_X7_of at h
  refine go_aload_n (pc := 0) dX7_of_0 rfl rfl ?_
  refine go_getR (pc := 1) (k := 4) (q2 := 24) dX7_of_1 cl_X7 rfl rfl (by decide) lk_X7_7 ?_
  refine go_bipush (pc := 4) (v := (64 : Int32)) dX7_of_4 (by decide) ?_
  refine go_bipush (pc := 6) (v := (16 : Int32)) dX7_of_6 (by decide) ?_
  refine go_iload_n (pc := 8) dX7_of_8 rfl rfl ?_
  refine go_imul (pc := 9) dX7_of_9 ?_
  refine go_iadd (pc := 10) dX7_of_10 ?_
  refine go_iload_n (pc := 11) dX7_of_11 rfl rfl ?_
  refine go_iadd (pc := 12) dX7_of_12 ?_
  obtain ⟨hi1, h⟩ := fm_chk h
  refine go_iald (pc := 13) dX7_of_13 rfl (fm_in_vp hi1) ?_
  obtain rfl := Option.some.inj h
  exact go_iret (pc := 14) .int dX7_of_14 rfl rfl ⟨rfl, rfl⟩
def f_X7_sets (x1 : Int32) (x2 : Int32) (x3 : Int32) (m : fm_M) : Option (fm_M) :=
  if fm_in (((64 : Int32) + ((16 : Int32) * x1)) + x2) 320 = true then (some (fm_put m 24 (((64 : Int32) + ((16 : Int32) * x1)) + x2).toNatClampNeg x3)) else none
set_option maxRecDepth 100000 in
set_option maxHeartbeats 4000000 in
theorem c_X7_sets (x1 : Int32) (x2 : Int32) (x3 : Int32) (m : fm_M) {res : fm_M} (h : f_X7_sets x1 x2 x3 m = some res) : fm_Met fm_layW 0 m_X7_sets [.ref 23, .int x1, .int x2, .int x3] m (fm_pv res) := by
  refine fm_Met_of (ls := [some (.ref 23), some (.int x1), some (.int x2), some (.int x3)]) (by decide) rfl (fm_cc_r _ (fm_cc_i _ (fm_cc_i _ (fm_cc_i _ fm_cc_0)))) (Nat.le_of_ble_eq_true rfl) rfl ?_
  unfold f_X7_sets at h
  refine go_aload_n (pc := 0) dX7_sets_0 rfl rfl ?_
  refine go_getR (pc := 1) (k := 4) (q2 := 24) dX7_sets_1 cl_X7 rfl rfl (by decide) lk_X7_7 ?_
  refine go_bipush (pc := 4) (v := (64 : Int32)) dX7_sets_4 (by decide) ?_
  refine go_bipush (pc := 6) (v := (16 : Int32)) dX7_sets_6 (by decide) ?_
  refine go_iload_n (pc := 8) dX7_sets_8 rfl rfl ?_
  refine go_imul (pc := 9) dX7_sets_9 ?_
  refine go_iadd (pc := 10) dX7_sets_10 ?_
  refine go_iload_n (pc := 11) dX7_sets_11 rfl rfl ?_
  refine go_iadd (pc := 12) dX7_sets_12 ?_
  refine go_iload_n (pc := 13) dX7_sets_13 rfl rfl ?_
  obtain ⟨hi1, h⟩ := fm_chk h
  refine go_iast (pc := 14) dX7_sets_14 rfl (fm_in_vp hi1) ?_
  obtain rfl := Option.some.inj h
  exact go_vret (pc := 15) dX7_sets_15 rfl ⟨rfl, rfl⟩
def f_X7_isBrother (x1 : Int32) (m : fm_M) : Option (Bool) :=
  if fm_in (2 : Int32) 320 = true then ((f_X7_isBetween x1 (0 : Int32) ((m 24 (2 : Int32).toNatClampNeg) - (1 : Int32)) m).bind fun v2 => some v2) else none
set_option maxRecDepth 100000 in
set_option maxHeartbeats 4000000 in
theorem c_X7_isBrother (x1 : Int32) (m : fm_M) {res : Bool} (h : f_X7_isBrother x1 m = some res) : fm_Met fm_layW 1 m_X7_isBrother [.ref 23, .int x1] m (fm_pi (fm_b res) m) := by
  refine fm_Met_of (ls := [some (.ref 23), some (.int x1)]) (by decide) rfl (fm_cc_r _ (fm_cc_i _ fm_cc_0)) (Nat.le_of_ble_eq_true rfl) rfl ?_
  unfold f_X7_isBrother at h
  refine go_iload_n (pc := 0) dX7_isBrother_0 rfl rfl ?_
  refine go_iconst (pc := 1) (v := (0 : Int32)) dX7_isBrother_1 (by decide) ?_
  refine go_aload_n (pc := 2) dX7_isBrother_2 rfl rfl ?_
  refine go_getR (pc := 3) (k := 4) (q2 := 24) dX7_isBrother_3 cl_X7 rfl rfl (by decide) lk_X7_7 ?_
  refine go_iconst (pc := 6) (v := (2 : Int32)) dX7_isBrother_6 (by decide) ?_
  obtain ⟨hi1, h⟩ := fm_chk h
  refine go_iald (pc := 7) dX7_isBrother_7 rfl (fm_in_vp hi1) ?_
  refine go_iconst (pc := 8) (v := (1 : Int32)) dX7_isBrother_8 (by decide) ?_
  refine go_isub (pc := 9) dX7_isBrother_9 ?_
  obtain ⟨v2, hv3, h⟩ := fm_bind h
  refine go_callSi (pc := 10) (As := [.int x1, .int (0 : Int32), .int ((m 24 (2 : Int32).toNatClampNeg) - (1 : Int32))]) (st := []) dX7_isBrother_10 (c_X7_isBetween   _ _ _ _ hv3) (by decide) ce_X7_isBetween ml_X7_60 st_X7_isBetween rfl (Nat.le_of_ble_eq_true rfl) rfl ?_
  obtain rfl := Option.some.inj h
  exact go_iret (pc := 13) .boolean dX7_isBrother_13 rfl (fm_b_nar _) ⟨rfl, rfl⟩
def f_X7_isCell (x1 : Int32) (m : fm_M) : Option (Bool) :=
  (f_X7_isBetween x1 (0 : Int32) (7 : Int32) m).bind fun v1 => some v1
set_option maxRecDepth 100000 in
set_option maxHeartbeats 4000000 in
theorem c_X7_isCell {lay : List fm_L} (x1 : Int32) (m : fm_M) {res : Bool} (h : f_X7_isCell x1 m = some res) : fm_Met lay 1 m_X7_isCell [.int x1] m (fm_pi (fm_b res) m) := by
  refine fm_Met_of (ls := [some (.int x1)]) (by decide) rfl (fm_cc_i _ fm_cc_0) (Nat.le_of_ble_eq_true rfl) rfl ?_
  unfold f_X7_isCell at h
  refine go_iload_n (pc := 0) dX7_isCell_0 rfl rfl ?_
  refine go_iconst (pc := 1) (v := (0 : Int32)) dX7_isCell_1 (by decide) ?_
  refine go_bipush (pc := 2) (v := (7 : Int32)) dX7_isCell_2 (by decide) ?_
  obtain ⟨v1, hv2, h⟩ := fm_bind h
  refine go_callSi (pc := 4) (As := [.int x1, .int (0 : Int32), .int (7 : Int32)]) (st := []) dX7_isCell_4 (c_X7_isBetween   _ _ _ _ hv2) (by decide) ce_X7_isBetween ml_X7_60 st_X7_isBetween rfl (Nat.le_of_ble_eq_true rfl) rfl ?_
  obtain rfl := Option.some.inj h
  exact go_iret (pc := 7) .boolean dX7_isCell_7 rfl (fm_b_nar _) ⟨rfl, rfl⟩
def f_X7_isSo (x1 : Int32) (x2 : Int32) (m : fm_M) : Option (Bool) :=
  (f_X7_of x1 (2 : Int32) m).bind fun v1 => if v1 = x2 then (some true) else (some false)
set_option maxRecDepth 100000 in
set_option maxHeartbeats 4000000 in
theorem c_X7_isSo (x1 : Int32) (x2 : Int32) (m : fm_M) {res : Bool} (h : f_X7_isSo x1 x2 m = some res) : fm_Met fm_layW 1 m_X7_isSo [.ref 23, .int x1, .int x2] m (fm_pi (fm_b res) m) := by
  refine fm_Met_of (ls := [some (.ref 23), some (.int x1), some (.int x2)]) (by decide) rfl (fm_cc_r _ (fm_cc_i _ (fm_cc_i _ fm_cc_0))) (Nat.le_of_ble_eq_true rfl) rfl ?_
  unfold f_X7_isSo at h
  refine go_aload_n (pc := 0) dX7_isSo_0 rfl rfl ?_
  refine go_iload_n (pc := 1) dX7_isSo_1 rfl rfl ?_
  refine go_iconst (pc := 2) (v := (2 : Int32)) dX7_isSo_2 (by decide) ?_
  obtain ⟨v1, hv2, h⟩ := fm_bind h
  refine go_callVi (pc := 3) (As := [.int x1, .int (2 : Int32)]) (st := []) dX7_isSo_3 (c_X7_of   _ _ _ hv2) (by decide) ce_X7_of ml_X7_64 in_X7_of se_X7_of cl_X7 rfl rfl (Nat.le_of_ble_eq_true rfl) rfl ?_
  refine go_iload_n (pc := 6) dX7_isSo_6 rfl rfl ?_
  refine go_icmp_ne (pc := 7) (tgt := 14) dX7_isSo_7 (by decide) (fun c3 => ?_) (fun c3 => ?_)
  · rw [if_neg c3] at h
    refine go_iconst (pc := 14) (v := (0 : Int32)) dX7_isSo_14 (by decide) ?_
    obtain rfl := Option.some.inj h
    exact go_iret (pc := 15) .boolean dX7_isSo_15 rfl rfl ⟨rfl, rfl⟩
  · rw [if_pos c3] at h
    refine go_iconst (pc := 10) (v := (1 : Int32)) dX7_isSo_10 (by decide) ?_
    refine go_goto (pc := 11) (tgt := 15) dX7_isSo_11 (by decide) ?_
    obtain rfl := Option.some.inj h
    exact go_iret (pc := 15) .boolean dX7_isSo_15 rfl rfl ⟨rfl, rfl⟩
def f_X7_brethrenThat_L4 : Nat → Int32 → Int32 → Int32 → fm_M → Option (Int32)
  | 0, _, _, _, _ => none
  | n + 1, y1, y2, y3, m => if fm_in (2 : Int32) 320 = true then (if (m 24 (2 : Int32).toNatClampNeg) ≤ y3 then (some y2) else ((f_X7_isSo y3 y1 m).bind fun v3 => if v3 = true then (f_X7_brethrenThat_L4 n y1 (y2 + (1 : Int32)) (y3 + (1 : Int32)) m) else (f_X7_brethrenThat_L4 n y1 (y2 + (0 : Int32)) (y3 + (1 : Int32)) m))) else none
def f_X7_brethrenThat (x1 : Int32) (m : fm_M) : Option (Int32) :=
  f_X7_brethrenThat_L4 fm_F x1 (0 : Int32) (0 : Int32) m
set_option maxRecDepth 100000 in
set_option maxHeartbeats 4000000 in
theorem c_X7_brethrenThat_L4 : ∀ (n : Nat) (y1 : Int32) (y2 : Int32) (y3 : Int32) (m : fm_M) (res : Int32), f_X7_brethrenThat_L4 n y1 y2 y3 m = some res → fm_Go fm_layW 2 m_X7_brethrenThat (fm_pi res m) 4 [some (.ref 23), some (.int y1), some (.int y2), some (.int y3)] [] m := by
  intro n
  induction n with
  | zero => intro y1 y2 y3 m res h; cases h
  | succ n ih =>
    intro y1 y2 y3 m res h
    rw [f_X7_brethrenThat_L4] at h
    refine go_iload_n (pc := 4) dX7_brethrenThat_4 rfl rfl ?_
    refine go_aload_n (pc := 5) dX7_brethrenThat_5 rfl rfl ?_
    refine go_getR (pc := 6) (k := 4) (q2 := 24) dX7_brethrenThat_6 cl_X7 rfl rfl (by decide) lk_X7_7 ?_
    refine go_iconst (pc := 9) (v := (2 : Int32)) dX7_brethrenThat_9 (by decide) ?_
    obtain ⟨hi1, h⟩ := fm_chk h
    refine go_iald (pc := 10) dX7_brethrenThat_10 rfl (fm_in_vp hi1) ?_
    refine go_icmp_ge (pc := 11) (tgt := 37) dX7_brethrenThat_11 (by decide) (fun c2 => ?_) (fun c2 => ?_)
    · rw [if_pos c2] at h
      refine go_iload_n (pc := 37) dX7_brethrenThat_37 rfl rfl ?_
      obtain rfl := Option.some.inj h
      exact go_iret (pc := 38) .int dX7_brethrenThat_38 rfl rfl ⟨rfl, rfl⟩
    · rw [if_neg c2] at h
      refine go_iload_n (pc := 14) dX7_brethrenThat_14 rfl rfl ?_
      refine go_aload_n (pc := 15) dX7_brethrenThat_15 rfl rfl ?_
      refine go_iload_n (pc := 16) dX7_brethrenThat_16 rfl rfl ?_
      refine go_iload_n (pc := 17) dX7_brethrenThat_17 rfl rfl ?_
      obtain ⟨v3, hv4, h⟩ := fm_bind h
      refine go_callVi (pc := 18) (As := [.int y3, .int y1]) (st := [.int y2]) dX7_brethrenThat_18 (c_X7_isSo   _ _ _ hv4) (by decide) ce_X7_isSo ml_X7_68 in_X7_isSo se_X7_isSo cl_X7 rfl rfl (Nat.le_of_ble_eq_true rfl) rfl ?_
      refine go_ifb_eq (pc := 21) (tgt := 28) dX7_brethrenThat_21 (by decide) (fun c5 => ?_) (fun c5 => ?_)
      · rw [if_neg (by rw [c5]; decide)] at h
        refine go_iconst (pc := 28) (v := (0 : Int32)) dX7_brethrenThat_28 (by decide) ?_
        refine go_iadd (pc := 29) dX7_brethrenThat_29 ?_
        refine go_istore_n (pc := 30) (ls1 := [some (.ref 23), some (.int y1), some (.int (y2 + (0 : Int32))), some (.int y3)]) dX7_brethrenThat_30 rfl (by decide) rfl ?_
        refine go_iinc (pc := 31) (v := (y3 + (1 : Int32))) (ls1 := [some (.ref 23), some (.int y1), some (.int (y2 + (0 : Int32))), some (.int (y3 + (1 : Int32)))]) dX7_brethrenThat_31 rfl rfl (Nat.le_of_ble_eq_true rfl) rfl ?_
        refine go_goto (pc := 34) (tgt := 4) dX7_brethrenThat_34 (by decide) ?_
        exact ih _ _ _ _ _ h
      · rw [if_pos c5] at h
        refine go_iconst (pc := 24) (v := (1 : Int32)) dX7_brethrenThat_24 (by decide) ?_
        refine go_goto (pc := 25) (tgt := 29) dX7_brethrenThat_25 (by decide) ?_
        refine go_iadd (pc := 29) dX7_brethrenThat_29 ?_
        refine go_istore_n (pc := 30) (ls1 := [some (.ref 23), some (.int y1), some (.int (y2 + (1 : Int32))), some (.int y3)]) dX7_brethrenThat_30 rfl (by decide) rfl ?_
        refine go_iinc (pc := 31) (v := (y3 + (1 : Int32))) (ls1 := [some (.ref 23), some (.int y1), some (.int (y2 + (1 : Int32))), some (.int (y3 + (1 : Int32)))]) dX7_brethrenThat_31 rfl rfl (Nat.le_of_ble_eq_true rfl) rfl ?_
        refine go_goto (pc := 34) (tgt := 4) dX7_brethrenThat_34 (by decide) ?_
        exact ih _ _ _ _ _ h
set_option maxRecDepth 100000 in
set_option maxHeartbeats 4000000 in
theorem c_X7_brethrenThat (x1 : Int32) (m : fm_M) {res : Int32} (h : f_X7_brethrenThat x1 m = some res) : fm_Met fm_layW 2 m_X7_brethrenThat [.ref 23, .int x1] m (fm_pi res m) := by
  refine fm_Met_of (ls := [some (.ref 23), some (.int x1), none, none]) (by decide) rfl (fm_cc_r _ (fm_cc_i _ fm_cc_0)) (Nat.le_of_ble_eq_true rfl) rfl ?_
  unfold f_X7_brethrenThat at h
  refine go_iconst (pc := 0) (v := (0 : Int32)) dX7_brethrenThat_0 (by decide) ?_
  refine go_istore_n (pc := 1) (ls1 := [some (.ref 23), some (.int x1), some (.int (0 : Int32)), none]) dX7_brethrenThat_1 rfl (by decide) rfl ?_
  refine go_iconst (pc := 2) (v := (0 : Int32)) dX7_brethrenThat_2 (by decide) ?_
  refine go_istore_n (pc := 3) (ls1 := [some (.ref 23), some (.int x1), some (.int (0 : Int32)), some (.int (0 : Int32))]) dX7_brethrenThat_3 rfl (by decide) rfl ?_
  exact c_X7_brethrenThat_L4  fm_F _ _ _ _ _ h
def f_X7_brotherIn_L2 : Nat → Int32 → Int32 → fm_M → Option (Int32)
  | 0, _, _, _ => none
  | n + 1, y1, y2, m => if fm_in (2 : Int32) 320 = true then (if (m 24 (2 : Int32).toNatClampNeg) ≤ y2 then (some (-15 : Int32)) else ((f_X7_isSo y2 (1 : Int32) m).bind fun v3 => if v3 = true then ((f_X7_of y2 (3 : Int32) m).bind fun v6 => if v6 = y1 then (some y2) else (f_X7_brotherIn_L2 n y1 (y2 + (1 : Int32)) m)) else (f_X7_brotherIn_L2 n y1 (y2 + (1 : Int32)) m))) else none
def f_X7_brotherIn (x1 : Int32) (m : fm_M) : Option (Int32) :=
  f_X7_brotherIn_L2 fm_F x1 (0 : Int32) m
set_option maxRecDepth 100000 in
set_option maxHeartbeats 4000000 in
theorem c_X7_brotherIn_L2 : ∀ (n : Nat) (y1 : Int32) (y2 : Int32) (m : fm_M) (res : Int32), f_X7_brotherIn_L2 n y1 y2 m = some res → fm_Go fm_layW 2 m_X7_brotherIn (fm_pi res m) 2 [some (.ref 23), some (.int y1), some (.int y2)] [] m := by
  intro n
  induction n with
  | zero => intro y1 y2 m res h; cases h
  | succ n ih =>
    intro y1 y2 m res h
    rw [f_X7_brotherIn_L2] at h
    refine go_iload_n (pc := 2) dX7_brotherIn_2 rfl rfl ?_
    refine go_aload_n (pc := 3) dX7_brotherIn_3 rfl rfl ?_
    refine go_getR (pc := 4) (k := 4) (q2 := 24) dX7_brotherIn_4 cl_X7 rfl rfl (by decide) lk_X7_7 ?_
    refine go_iconst (pc := 7) (v := (2 : Int32)) dX7_brotherIn_7 (by decide) ?_
    obtain ⟨hi1, h⟩ := fm_chk h
    refine go_iald (pc := 8) dX7_brotherIn_8 rfl (fm_in_vp hi1) ?_
    refine go_icmp_ge (pc := 9) (tgt := 39) dX7_brotherIn_9 (by decide) (fun c2 => ?_) (fun c2 => ?_)
    · rw [if_pos c2] at h
      refine go_bipush (pc := 39) (v := (-15 : Int32)) dX7_brotherIn_39 (by decide) ?_
      obtain rfl := Option.some.inj h
      exact go_iret (pc := 41) .int dX7_brotherIn_41 rfl rfl ⟨rfl, rfl⟩
    · rw [if_neg c2] at h
      refine go_aload_n (pc := 12) dX7_brotherIn_12 rfl rfl ?_
      refine go_iload_n (pc := 13) dX7_brotherIn_13 rfl rfl ?_
      refine go_iconst (pc := 14) (v := (1 : Int32)) dX7_brotherIn_14 (by decide) ?_
      obtain ⟨v3, hv4, h⟩ := fm_bind h
      refine go_callVi (pc := 15) (As := [.int y2, .int (1 : Int32)]) (st := []) dX7_brotherIn_15 (c_X7_isSo   _ _ _ hv4) (by decide) ce_X7_isSo ml_X7_68 in_X7_isSo se_X7_isSo cl_X7 rfl rfl (Nat.le_of_ble_eq_true rfl) rfl ?_
      refine go_ifb_eq (pc := 18) (tgt := 33) dX7_brotherIn_18 (by decide) (fun c5 => ?_) (fun c5 => ?_)
      · rw [if_neg (by rw [c5]; decide)] at h
        refine go_iinc (pc := 33) (v := (y2 + (1 : Int32))) (ls1 := [some (.ref 23), some (.int y1), some (.int (y2 + (1 : Int32)))]) dX7_brotherIn_33 rfl rfl (Nat.le_of_ble_eq_true rfl) rfl ?_
        refine go_goto (pc := 36) (tgt := 2) dX7_brotherIn_36 (by decide) ?_
        exact ih _ _ _ _ h
      · rw [if_pos c5] at h
        refine go_aload_n (pc := 21) dX7_brotherIn_21 rfl rfl ?_
        refine go_iload_n (pc := 22) dX7_brotherIn_22 rfl rfl ?_
        refine go_iconst (pc := 23) (v := (3 : Int32)) dX7_brotherIn_23 (by decide) ?_
        obtain ⟨v6, hv7, h⟩ := fm_bind h
        refine go_callVi (pc := 24) (As := [.int y2, .int (3 : Int32)]) (st := []) dX7_brotherIn_24 (c_X7_of   _ _ _ hv7) (by decide) ce_X7_of ml_X7_64 in_X7_of se_X7_of cl_X7 rfl rfl (Nat.le_of_ble_eq_true rfl) rfl ?_
        refine go_iload_n (pc := 27) dX7_brotherIn_27 rfl rfl ?_
        refine go_icmp_ne (pc := 28) (tgt := 33) dX7_brotherIn_28 (by decide) (fun c8 => ?_) (fun c8 => ?_)
        · rw [if_neg c8] at h
          refine go_iinc (pc := 33) (v := (y2 + (1 : Int32))) (ls1 := [some (.ref 23), some (.int y1), some (.int (y2 + (1 : Int32)))]) dX7_brotherIn_33 rfl rfl (Nat.le_of_ble_eq_true rfl) rfl ?_
          refine go_goto (pc := 36) (tgt := 2) dX7_brotherIn_36 (by decide) ?_
          exact ih _ _ _ _ h
        · rw [if_pos c8] at h
          refine go_iload_n (pc := 31) dX7_brotherIn_31 rfl rfl ?_
          obtain rfl := Option.some.inj h
          exact go_iret (pc := 32) .int dX7_brotherIn_32 rfl rfl ⟨rfl, rfl⟩
set_option maxRecDepth 100000 in
set_option maxHeartbeats 4000000 in
theorem c_X7_brotherIn (x1 : Int32) (m : fm_M) {res : Int32} (h : f_X7_brotherIn x1 m = some res) : fm_Met fm_layW 2 m_X7_brotherIn [.ref 23, .int x1] m (fm_pi res m) := by
  refine fm_Met_of (ls := [some (.ref 23), some (.int x1), none]) (by decide) rfl (fm_cc_r _ (fm_cc_i _ fm_cc_0)) (Nat.le_of_ble_eq_true rfl) rfl ?_
  unfold f_X7_brotherIn at h
  refine go_iconst (pc := 0) (v := (0 : Int32)) dX7_brotherIn_0 (by decide) ?_
  refine go_istore_n (pc := 1) (ls1 := [some (.ref 23), some (.int x1), some (.int (0 : Int32))]) dX7_brotherIn_1 rfl (by decide) rfl ?_
  exact c_X7_brotherIn_L2  fm_F _ _ _ _ h
def f_X7_countsFor (x1 : Int32) (m : fm_M) : Option (Int32) :=
  (f_X7_of x1 (1 : Int32) m).bind fun v1 => if v1 = (1 : Int32) then (some (2 : Int32)) else (some (1 : Int32))
set_option maxRecDepth 100000 in
set_option maxHeartbeats 4000000 in
theorem c_X7_countsFor (x1 : Int32) (m : fm_M) {res : Int32} (h : f_X7_countsFor x1 m = some res) : fm_Met fm_layW 1 m_X7_countsFor [.ref 23, .int x1] m (fm_pi res m) := by
  refine fm_Met_of (ls := [some (.ref 23), some (.int x1)]) (by decide) rfl (fm_cc_r _ (fm_cc_i _ fm_cc_0)) (Nat.le_of_ble_eq_true rfl) rfl ?_
  unfold f_X7_countsFor at h
  refine go_aload_n (pc := 0) dX7_countsFor_0 rfl rfl ?_
  refine go_iload_n (pc := 1) dX7_countsFor_1 rfl rfl ?_
  refine go_iconst (pc := 2) (v := (1 : Int32)) dX7_countsFor_2 (by decide) ?_
  obtain ⟨v1, hv2, h⟩ := fm_bind h
  refine go_callVi (pc := 3) (As := [.int x1, .int (1 : Int32)]) (st := []) dX7_countsFor_3 (c_X7_of   _ _ _ hv2) (by decide) ce_X7_of ml_X7_64 in_X7_of se_X7_of cl_X7 rfl rfl (Nat.le_of_ble_eq_true rfl) rfl ?_
  refine go_iconst (pc := 6) (v := (1 : Int32)) dX7_countsFor_6 (by decide) ?_
  refine go_icmp_ne (pc := 7) (tgt := 14) dX7_countsFor_7 (by decide) (fun c3 => ?_) (fun c3 => ?_)
  · rw [if_neg c3] at h
    refine go_iconst (pc := 14) (v := (1 : Int32)) dX7_countsFor_14 (by decide) ?_
    obtain rfl := Option.some.inj h
    exact go_iret (pc := 15) .int dX7_countsFor_15 rfl rfl ⟨rfl, rfl⟩
  · rw [if_pos c3] at h
    refine go_iconst (pc := 10) (v := (2 : Int32)) dX7_countsFor_10 (by decide) ?_
    refine go_goto (pc := 11) (tgt := 15) dX7_countsFor_11 (by decide) ?_
    obtain rfl := Option.some.inj h
    exact go_iret (pc := 15) .int dX7_countsFor_15 rfl rfl ⟨rfl, rfl⟩
def f_X7_voicesFor_L15 : Nat → Int32 → Int32 → Int32 → fm_M → Option (Int32)
  | 0, _, _, _, _ => none
  | n + 1, y1, y2, y3, m => if fm_in (2 : Int32) 320 = true then (if (m 24 (2 : Int32).toNatClampNeg) ≤ y3 then (some y2) else ((f_X7_of y3 (7 : Int32) m).bind fun v6 => if v6 = (y1 + (1 : Int32)) then ((f_X7_countsFor y1 m).bind fun v9 => f_X7_voicesFor_L15 n y1 (y2 + v9) (y3 + (1 : Int32)) m) else (f_X7_voicesFor_L15 n y1 (y2 + (0 : Int32)) (y3 + (1 : Int32)) m))) else none
def f_X7_voicesFor (x1 : Int32) (m : fm_M) : Option (Int32) :=
  (f_X7_isSo x1 (0 : Int32) m).bind fun v1 => if v1 = true then (f_X7_voicesFor_L15 fm_F x1 (0 : Int32) (0 : Int32) m) else (some (0 : Int32))
set_option maxRecDepth 100000 in
set_option maxHeartbeats 4000000 in
theorem c_X7_voicesFor_L15 : ∀ (n : Nat) (y1 : Int32) (y2 : Int32) (y3 : Int32) (m : fm_M) (res : Int32), f_X7_voicesFor_L15 n y1 y2 y3 m = some res → fm_Go fm_layW 2 m_X7_voicesFor (fm_pi res m) 15 [some (.ref 23), some (.int y1), some (.int y2), some (.int y3)] [] m := by
  intro n
  induction n with
  | zero => intro y1 y2 y3 m res h; cases h
  | succ n ih =>
    intro y1 y2 y3 m res h
    rw [f_X7_voicesFor_L15] at h
    refine go_iload_n (pc := 15) dX7_voicesFor_15 rfl rfl ?_
    refine go_aload_n (pc := 16) dX7_voicesFor_16 rfl rfl ?_
    refine go_getR (pc := 17) (k := 4) (q2 := 24) dX7_voicesFor_17 cl_X7 rfl rfl (by decide) lk_X7_7 ?_
    refine go_iconst (pc := 20) (v := (2 : Int32)) dX7_voicesFor_20 (by decide) ?_
    obtain ⟨hi4, h⟩ := fm_chk h
    refine go_iald (pc := 21) dX7_voicesFor_21 rfl (fm_in_vp hi4) ?_
    refine go_icmp_ge (pc := 22) (tgt := 56) dX7_voicesFor_22 (by decide) (fun c5 => ?_) (fun c5 => ?_)
    · rw [if_pos c5] at h
      refine go_iload_n (pc := 56) dX7_voicesFor_56 rfl rfl ?_
      obtain rfl := Option.some.inj h
      exact go_iret (pc := 57) .int dX7_voicesFor_57 rfl rfl ⟨rfl, rfl⟩
    · rw [if_neg c5] at h
      refine go_iload_n (pc := 25) dX7_voicesFor_25 rfl rfl ?_
      refine go_aload_n (pc := 26) dX7_voicesFor_26 rfl rfl ?_
      refine go_iload_n (pc := 27) dX7_voicesFor_27 rfl rfl ?_
      refine go_bipush (pc := 28) (v := (7 : Int32)) dX7_voicesFor_28 (by decide) ?_
      obtain ⟨v6, hv7, h⟩ := fm_bind h
      refine go_callVi (pc := 30) (As := [.int y3, .int (7 : Int32)]) (st := [.int y2]) dX7_voicesFor_30 (c_X7_of   _ _ _ hv7) (by decide) ce_X7_of ml_X7_64 in_X7_of se_X7_of cl_X7 rfl rfl (Nat.le_of_ble_eq_true rfl) rfl ?_
      refine go_iload_n (pc := 33) dX7_voicesFor_33 rfl rfl ?_
      refine go_iconst (pc := 34) (v := (1 : Int32)) dX7_voicesFor_34 (by decide) ?_
      refine go_iadd (pc := 35) dX7_voicesFor_35 ?_
      refine go_icmp_ne (pc := 36) (tgt := 47) dX7_voicesFor_36 (by decide) (fun c8 => ?_) (fun c8 => ?_)
      · rw [if_neg c8] at h
        refine go_iconst (pc := 47) (v := (0 : Int32)) dX7_voicesFor_47 (by decide) ?_
        refine go_iadd (pc := 48) dX7_voicesFor_48 ?_
        refine go_istore_n (pc := 49) (ls1 := [some (.ref 23), some (.int y1), some (.int (y2 + (0 : Int32))), some (.int y3)]) dX7_voicesFor_49 rfl (by decide) rfl ?_
        refine go_iinc (pc := 50) (v := (y3 + (1 : Int32))) (ls1 := [some (.ref 23), some (.int y1), some (.int (y2 + (0 : Int32))), some (.int (y3 + (1 : Int32)))]) dX7_voicesFor_50 rfl rfl (Nat.le_of_ble_eq_true rfl) rfl ?_
        refine go_goto (pc := 53) (tgt := 15) dX7_voicesFor_53 (by decide) ?_
        exact ih _ _ _ _ _ h
      · rw [if_pos c8] at h
        refine go_aload_n (pc := 39) dX7_voicesFor_39 rfl rfl ?_
        refine go_iload_n (pc := 40) dX7_voicesFor_40 rfl rfl ?_
        obtain ⟨v9, hv10, h⟩ := fm_bind h
        refine go_callVi (pc := 41) (As := [.int y1]) (st := [.int y2]) dX7_voicesFor_41 (c_X7_countsFor   _ _ hv10) (by decide) ce_X7_countsFor ml_X7_72 in_X7_countsFor se_X7_countsFor cl_X7 rfl rfl (Nat.le_of_ble_eq_true rfl) rfl ?_
        refine go_goto (pc := 44) (tgt := 48) dX7_voicesFor_44 (by decide) ?_
        refine go_iadd (pc := 48) dX7_voicesFor_48 ?_
        refine go_istore_n (pc := 49) (ls1 := [some (.ref 23), some (.int y1), some (.int (y2 + v9)), some (.int y3)]) dX7_voicesFor_49 rfl (by decide) rfl ?_
        refine go_iinc (pc := 50) (v := (y3 + (1 : Int32))) (ls1 := [some (.ref 23), some (.int y1), some (.int (y2 + v9)), some (.int (y3 + (1 : Int32)))]) dX7_voicesFor_50 rfl rfl (Nat.le_of_ble_eq_true rfl) rfl ?_
        refine go_goto (pc := 53) (tgt := 15) dX7_voicesFor_53 (by decide) ?_
        exact ih _ _ _ _ _ h
set_option maxRecDepth 100000 in
set_option maxHeartbeats 4000000 in
theorem c_X7_voicesFor (x1 : Int32) (m : fm_M) {res : Int32} (h : f_X7_voicesFor x1 m = some res) : fm_Met fm_layW 2 m_X7_voicesFor [.ref 23, .int x1] m (fm_pi res m) := by
  refine fm_Met_of (ls := [some (.ref 23), some (.int x1), none, none]) (by decide) rfl (fm_cc_r _ (fm_cc_i _ fm_cc_0)) (Nat.le_of_ble_eq_true rfl) rfl ?_
  unfold f_X7_voicesFor at h
  refine go_aload_n (pc := 0) dX7_voicesFor_0 rfl rfl ?_
  refine go_iload_n (pc := 1) dX7_voicesFor_1 rfl rfl ?_
  refine go_iconst (pc := 2) (v := (0 : Int32)) dX7_voicesFor_2 (by decide) ?_
  obtain ⟨v1, hv2, h⟩ := fm_bind h
  refine go_callVi (pc := 3) (As := [.int x1, .int (0 : Int32)]) (st := []) dX7_voicesFor_3 (c_X7_isSo   _ _ _ hv2) (by decide) ce_X7_isSo ml_X7_68 in_X7_isSo se_X7_isSo cl_X7 rfl rfl (Nat.le_of_ble_eq_true rfl) rfl ?_
  refine go_ifb_ne (pc := 6) (tgt := 11) dX7_voicesFor_6 (by decide) (fun c3 => ?_) (fun c3 => ?_)
  · rw [if_pos c3] at h
    refine go_iconst (pc := 11) (v := (0 : Int32)) dX7_voicesFor_11 (by decide) ?_
    refine go_istore_n (pc := 12) (ls1 := [some (.ref 23), some (.int x1), some (.int (0 : Int32)), none]) dX7_voicesFor_12 rfl (by decide) rfl ?_
    refine go_iconst (pc := 13) (v := (0 : Int32)) dX7_voicesFor_13 (by decide) ?_
    refine go_istore_n (pc := 14) (ls1 := [some (.ref 23), some (.int x1), some (.int (0 : Int32)), some (.int (0 : Int32))]) dX7_voicesFor_14 rfl (by decide) rfl ?_
    exact c_X7_voicesFor_L15  fm_F _ _ _ _ _ h
  · rw [if_neg (by rw [c3]; decide)] at h
    refine go_iconst (pc := 9) (v := (0 : Int32)) dX7_voicesFor_9 (by decide) ?_
    obtain rfl := Option.some.inj h
    exact go_iret (pc := 10) .int dX7_voicesFor_10 rfl rfl ⟨rfl, rfl⟩
def f_X7_voicesGo_L29 : Nat → Int32 → Int32 → fm_M → Option (fm_M)
  | 0, _, _, _ => none
  | n + 1, y1, y2, m => if fm_in (2 : Int32) 320 = true then (if (m 24 (2 : Int32).toNatClampNeg) ≤ y2 then (some m) else ((f_X7_of y2 (7 : Int32) m).bind fun v9 => if v9 = (y1 + (1 : Int32)) then ((f_X7_sets y2 (7 : Int32) (0 : Int32) m).bind fun v12 => f_X7_voicesGo_L29 n y1 (y2 + (1 : Int32)) v12) else (f_X7_voicesGo_L29 n y1 (y2 + (1 : Int32)) m))) else none
def f_X7_voicesGo (x1 : Int32) (m : fm_M) : Option (fm_M) :=
  (f_X7_isSo x1 (1 : Int32) m).bind fun v1 => if v1 = true then ((f_X7_isSo x1 (0 : Int32) m).bind fun v4 => if v4 = true then (some m) else (f_X7_voicesGo_L29 fm_F x1 (0 : Int32) m)) else ((f_X7_sets x1 (7 : Int32) (0 : Int32) m).bind fun v14 => (f_X7_isSo x1 (0 : Int32) v14).bind fun v16 => if v16 = true then (some v14) else (f_X7_voicesGo_L29 fm_F x1 (0 : Int32) v14))
set_option maxRecDepth 100000 in
set_option maxHeartbeats 4000000 in
theorem c_X7_voicesGo_L29 : ∀ (n : Nat) (y1 : Int32) (y2 : Int32) (m : fm_M) (res : fm_M), f_X7_voicesGo_L29 n y1 y2 m = some res → fm_Go fm_layW 2 m_X7_voicesGo (fm_pv res) 29 [some (.ref 23), some (.int y1), some (.int y2)] [] m := by
  intro n
  induction n with
  | zero => intro y1 y2 m res h; cases h
  | succ n ih =>
    intro y1 y2 m res h
    rw [f_X7_voicesGo_L29] at h
    refine go_iload_n (pc := 29) dX7_voicesGo_29 rfl rfl ?_
    refine go_aload_n (pc := 30) dX7_voicesGo_30 rfl rfl ?_
    refine go_getR (pc := 31) (k := 4) (q2 := 24) dX7_voicesGo_31 cl_X7 rfl rfl (by decide) lk_X7_7 ?_
    refine go_iconst (pc := 34) (v := (2 : Int32)) dX7_voicesGo_34 (by decide) ?_
    obtain ⟨hi7, h⟩ := fm_chk h
    refine go_iald (pc := 35) dX7_voicesGo_35 rfl (fm_in_vp hi7) ?_
    refine go_icmp_ge (pc := 36) (tgt := 66) dX7_voicesGo_36 (by decide) (fun c8 => ?_) (fun c8 => ?_)
    · rw [if_pos c8] at h
      obtain rfl := Option.some.inj h
      exact go_vret (pc := 66) dX7_voicesGo_66 rfl ⟨rfl, rfl⟩
    · rw [if_neg c8] at h
      refine go_aload_n (pc := 39) dX7_voicesGo_39 rfl rfl ?_
      refine go_iload_n (pc := 40) dX7_voicesGo_40 rfl rfl ?_
      refine go_bipush (pc := 41) (v := (7 : Int32)) dX7_voicesGo_41 (by decide) ?_
      obtain ⟨v9, hv10, h⟩ := fm_bind h
      refine go_callVi (pc := 43) (As := [.int y2, .int (7 : Int32)]) (st := []) dX7_voicesGo_43 (c_X7_of   _ _ _ hv10) (by decide) ce_X7_of ml_X7_64 in_X7_of se_X7_of cl_X7 rfl rfl (Nat.le_of_ble_eq_true rfl) rfl ?_
      refine go_iload_n (pc := 46) dX7_voicesGo_46 rfl rfl ?_
      refine go_iconst (pc := 47) (v := (1 : Int32)) dX7_voicesGo_47 (by decide) ?_
      refine go_iadd (pc := 48) dX7_voicesGo_48 ?_
      refine go_icmp_ne (pc := 49) (tgt := 60) dX7_voicesGo_49 (by decide) (fun c11 => ?_) (fun c11 => ?_)
      · rw [if_neg c11] at h
        refine go_iinc (pc := 60) (v := (y2 + (1 : Int32))) (ls1 := [some (.ref 23), some (.int y1), some (.int (y2 + (1 : Int32)))]) dX7_voicesGo_60 rfl rfl (Nat.le_of_ble_eq_true rfl) rfl ?_
        refine go_goto (pc := 63) (tgt := 29) dX7_voicesGo_63 (by decide) ?_
        exact ih _ _ _ _ h
      · rw [if_pos c11] at h
        refine go_aload_n (pc := 52) dX7_voicesGo_52 rfl rfl ?_
        refine go_iload_n (pc := 53) dX7_voicesGo_53 rfl rfl ?_
        refine go_bipush (pc := 54) (v := (7 : Int32)) dX7_voicesGo_54 (by decide) ?_
        refine go_iconst (pc := 56) (v := (0 : Int32)) dX7_voicesGo_56 (by decide) ?_
        obtain ⟨v12, hv13, h⟩ := fm_bind h
        refine go_callVv (pc := 57) (As := [.int y2, .int (7 : Int32), .int (0 : Int32)]) (st := []) dX7_voicesGo_57 (c_X7_sets   _ _ _ _ hv13) (by decide) ce_X7_sets ml_X7_76 in_X7_sets se_X7_sets cl_X7 rfl rfl (Nat.le_of_ble_eq_true rfl) rfl ?_
        refine go_iinc (pc := 60) (v := (y2 + (1 : Int32))) (ls1 := [some (.ref 23), some (.int y1), some (.int (y2 + (1 : Int32)))]) dX7_voicesGo_60 rfl rfl (Nat.le_of_ble_eq_true rfl) rfl ?_
        refine go_goto (pc := 63) (tgt := 29) dX7_voicesGo_63 (by decide) ?_
        exact ih _ _ _ _ h
set_option maxRecDepth 100000 in
set_option maxHeartbeats 4000000 in
theorem c_X7_voicesGo (x1 : Int32) (m : fm_M) {res : fm_M} (h : f_X7_voicesGo x1 m = some res) : fm_Met fm_layW 2 m_X7_voicesGo [.ref 23, .int x1] m (fm_pv res) := by
  refine fm_Met_of (ls := [some (.ref 23), some (.int x1), none]) (by decide) rfl (fm_cc_r _ (fm_cc_i _ fm_cc_0)) (Nat.le_of_ble_eq_true rfl) rfl ?_
  unfold f_X7_voicesGo at h
  refine go_aload_n (pc := 0) dX7_voicesGo_0 rfl rfl ?_
  refine go_iload_n (pc := 1) dX7_voicesGo_1 rfl rfl ?_
  refine go_iconst (pc := 2) (v := (1 : Int32)) dX7_voicesGo_2 (by decide) ?_
  obtain ⟨v1, hv2, h⟩ := fm_bind h
  refine go_callVi (pc := 3) (As := [.int x1, .int (1 : Int32)]) (st := []) dX7_voicesGo_3 (c_X7_isSo   _ _ _ hv2) (by decide) ce_X7_isSo ml_X7_68 in_X7_isSo se_X7_isSo cl_X7 rfl rfl (Nat.le_of_ble_eq_true rfl) rfl ?_
  refine go_ifb_ne (pc := 6) (tgt := 17) dX7_voicesGo_6 (by decide) (fun c3 => ?_) (fun c3 => ?_)
  · rw [if_pos c3] at h
    refine go_aload_n (pc := 17) dX7_voicesGo_17 rfl rfl ?_
    refine go_iload_n (pc := 18) dX7_voicesGo_18 rfl rfl ?_
    refine go_iconst (pc := 19) (v := (0 : Int32)) dX7_voicesGo_19 (by decide) ?_
    obtain ⟨v4, hv5, h⟩ := fm_bind h
    refine go_callVi (pc := 20) (As := [.int x1, .int (0 : Int32)]) (st := []) dX7_voicesGo_20 (c_X7_isSo   _ _ _ hv5) (by decide) ce_X7_isSo ml_X7_68 in_X7_isSo se_X7_isSo cl_X7 rfl rfl (Nat.le_of_ble_eq_true rfl) rfl ?_
    refine go_ifb_eq (pc := 23) (tgt := 27) dX7_voicesGo_23 (by decide) (fun c6 => ?_) (fun c6 => ?_)
    · rw [if_neg (by rw [c6]; decide)] at h
      refine go_iconst (pc := 27) (v := (0 : Int32)) dX7_voicesGo_27 (by decide) ?_
      refine go_istore_n (pc := 28) (ls1 := [some (.ref 23), some (.int x1), some (.int (0 : Int32))]) dX7_voicesGo_28 rfl (by decide) rfl ?_
      exact c_X7_voicesGo_L29  fm_F _ _ _ _ h
    · rw [if_pos c6] at h
      obtain rfl := Option.some.inj h
      exact go_vret (pc := 26) dX7_voicesGo_26 rfl ⟨rfl, rfl⟩
  · rw [if_neg (by rw [c3]; decide)] at h
    refine go_aload_n (pc := 9) dX7_voicesGo_9 rfl rfl ?_
    refine go_iload_n (pc := 10) dX7_voicesGo_10 rfl rfl ?_
    refine go_bipush (pc := 11) (v := (7 : Int32)) dX7_voicesGo_11 (by decide) ?_
    refine go_iconst (pc := 13) (v := (0 : Int32)) dX7_voicesGo_13 (by decide) ?_
    obtain ⟨v14, hv15, h⟩ := fm_bind h
    refine go_callVv (pc := 14) (As := [.int x1, .int (7 : Int32), .int (0 : Int32)]) (st := []) dX7_voicesGo_14 (c_X7_sets   _ _ _ _ hv15) (by decide) ce_X7_sets ml_X7_76 in_X7_sets se_X7_sets cl_X7 rfl rfl (Nat.le_of_ble_eq_true rfl) rfl ?_
    refine go_aload_n (pc := 17) dX7_voicesGo_17 rfl rfl ?_
    refine go_iload_n (pc := 18) dX7_voicesGo_18 rfl rfl ?_
    refine go_iconst (pc := 19) (v := (0 : Int32)) dX7_voicesGo_19 (by decide) ?_
    obtain ⟨v16, hv17, h⟩ := fm_bind h
    refine go_callVi (pc := 20) (As := [.int x1, .int (0 : Int32)]) (st := []) dX7_voicesGo_20 (c_X7_isSo   _ _ _ hv17) (by decide) ce_X7_isSo ml_X7_68 in_X7_isSo se_X7_isSo cl_X7 rfl rfl (Nat.le_of_ble_eq_true rfl) rfl ?_
    refine go_ifb_eq (pc := 23) (tgt := 27) dX7_voicesGo_23 (by decide) (fun c18 => ?_) (fun c18 => ?_)
    · rw [if_neg (by rw [c18]; decide)] at h
      refine go_iconst (pc := 27) (v := (0 : Int32)) dX7_voicesGo_27 (by decide) ?_
      refine go_istore_n (pc := 28) (ls1 := [some (.ref 23), some (.int x1), some (.int (0 : Int32))]) dX7_voicesGo_28 rfl (by decide) rfl ?_
      exact c_X7_voicesGo_L29  fm_F _ _ _ _ h
    · rw [if_pos c18] at h
      obtain rfl := Option.some.inj h
      exact go_vret (pc := 26) dX7_voicesGo_26 rfl ⟨rfl, rfl⟩
def f_X7_stamps (x1 : Int32) (m : fm_M) : Option (fm_M) :=
  if fm_in (10 : Int32) 320 = true then (if fm_in (10 : Int32) 320 = true then (if fm_in (10 : Int32) 320 = true then ((f_X7_sets x1 (8 : Int32) ((fm_put m 24 (10 : Int32).toNatClampNeg ((m 24 (10 : Int32).toNatClampNeg) + (1 : Int32))) 24 (10 : Int32).toNatClampNeg) (fm_put m 24 (10 : Int32).toNatClampNeg ((m 24 (10 : Int32).toNatClampNeg) + (1 : Int32)))).bind fun v4 => some v4) else none) else none) else none
set_option maxRecDepth 100000 in
set_option maxHeartbeats 4000000 in
theorem c_X7_stamps (x1 : Int32) (m : fm_M) {res : fm_M} (h : f_X7_stamps x1 m = some res) : fm_Met fm_layW 1 m_X7_stamps [.ref 23, .int x1] m (fm_pv res) := by
  refine fm_Met_of (ls := [some (.ref 23), some (.int x1)]) (by decide) rfl (fm_cc_r _ (fm_cc_i _ fm_cc_0)) (Nat.le_of_ble_eq_true rfl) rfl ?_
  unfold f_X7_stamps at h
  refine go_aload_n (pc := 0) dX7_stamps_0 rfl rfl ?_
  refine go_getR (pc := 1) (k := 4) (q2 := 24) dX7_stamps_1 cl_X7 rfl rfl (by decide) lk_X7_7 ?_
  refine go_bipush (pc := 4) (v := (10 : Int32)) dX7_stamps_4 (by decide) ?_
  refine go_dup2 (pc := 6) dX7_stamps_6 rfl rfl ?_
  obtain ⟨hi1, h⟩ := fm_chk h
  refine go_iald (pc := 7) dX7_stamps_7 rfl (fm_in_vp hi1) ?_
  refine go_iconst (pc := 8) (v := (1 : Int32)) dX7_stamps_8 (by decide) ?_
  refine go_iadd (pc := 9) dX7_stamps_9 ?_
  obtain ⟨hi2, h⟩ := fm_chk h
  refine go_iast (pc := 10) dX7_stamps_10 rfl (fm_in_vp hi2) ?_
  refine go_aload_n (pc := 11) dX7_stamps_11 rfl rfl ?_
  refine go_iload_n (pc := 12) dX7_stamps_12 rfl rfl ?_
  refine go_bipush (pc := 13) (v := (8 : Int32)) dX7_stamps_13 (by decide) ?_
  refine go_aload_n (pc := 15) dX7_stamps_15 rfl rfl ?_
  refine go_getR (pc := 16) (k := 4) (q2 := 24) dX7_stamps_16 cl_X7 rfl rfl (by decide) lk_X7_7 ?_
  refine go_bipush (pc := 19) (v := (10 : Int32)) dX7_stamps_19 (by decide) ?_
  obtain ⟨hi3, h⟩ := fm_chk h
  refine go_iald (pc := 21) dX7_stamps_21 rfl (fm_in_vp hi3) ?_
  obtain ⟨v4, hv5, h⟩ := fm_bind h
  refine go_callVv (pc := 22) (As := [.int x1, .int (8 : Int32), .int ((fm_put m 24 (10 : Int32).toNatClampNeg ((m 24 (10 : Int32).toNatClampNeg) + (1 : Int32))) 24 (10 : Int32).toNatClampNeg)]) (st := []) dX7_stamps_22 (c_X7_sets   _ _ _ _ hv5) (by decide) ce_X7_sets ml_X7_76 in_X7_sets se_X7_sets cl_X7 rfl rfl (Nat.le_of_ble_eq_true rfl) rfl ?_
  obtain rfl := Option.some.inj h
  exact go_vret (pc := 25) dX7_stamps_25 rfl ⟨rfl, rfl⟩
def f_X7_becomes (x1 : Int32) (x2 : Int32) (m : fm_M) : Option (fm_M) :=
  (f_X7_sets x1 (2 : Int32) x2 m).bind fun v1 => (f_X7_sets x1 (5 : Int32) (0 : Int32) v1).bind fun v3 => (f_X7_voicesGo x1 v3).bind fun v5 => some v5
set_option maxRecDepth 100000 in
set_option maxHeartbeats 4000000 in
theorem c_X7_becomes (x1 : Int32) (x2 : Int32) (m : fm_M) {res : fm_M} (h : f_X7_becomes x1 x2 m = some res) : fm_Met fm_layW 3 m_X7_becomes [.ref 23, .int x1, .int x2] m (fm_pv res) := by
  refine fm_Met_of (ls := [some (.ref 23), some (.int x1), some (.int x2)]) (by decide) rfl (fm_cc_r _ (fm_cc_i _ (fm_cc_i _ fm_cc_0))) (Nat.le_of_ble_eq_true rfl) rfl ?_
  unfold f_X7_becomes at h
  refine go_aload_n (pc := 0) dX7_becomes_0 rfl rfl ?_
  refine go_iload_n (pc := 1) dX7_becomes_1 rfl rfl ?_
  refine go_iconst (pc := 2) (v := (2 : Int32)) dX7_becomes_2 (by decide) ?_
  refine go_iload_n (pc := 3) dX7_becomes_3 rfl rfl ?_
  obtain ⟨v1, hv2, h⟩ := fm_bind h
  refine go_callVv (pc := 4) (As := [.int x1, .int (2 : Int32), .int x2]) (st := []) dX7_becomes_4 (c_X7_sets   _ _ _ _ hv2) (by decide) ce_X7_sets ml_X7_76 in_X7_sets se_X7_sets cl_X7 rfl rfl (Nat.le_of_ble_eq_true rfl) rfl ?_
  refine go_aload_n (pc := 7) dX7_becomes_7 rfl rfl ?_
  refine go_iload_n (pc := 8) dX7_becomes_8 rfl rfl ?_
  refine go_iconst (pc := 9) (v := (5 : Int32)) dX7_becomes_9 (by decide) ?_
  refine go_iconst (pc := 10) (v := (0 : Int32)) dX7_becomes_10 (by decide) ?_
  obtain ⟨v3, hv4, h⟩ := fm_bind h
  refine go_callVv (pc := 11) (As := [.int x1, .int (5 : Int32), .int (0 : Int32)]) (st := []) dX7_becomes_11 (c_X7_sets   _ _ _ _ hv4) (by decide) ce_X7_sets ml_X7_76 in_X7_sets se_X7_sets cl_X7 rfl rfl (Nat.le_of_ble_eq_true rfl) rfl ?_
  refine go_aload_n (pc := 14) dX7_becomes_14 rfl rfl ?_
  refine go_iload_n (pc := 15) dX7_becomes_15 rfl rfl ?_
  obtain ⟨v5, hv6, h⟩ := fm_bind h
  refine go_callVv (pc := 16) (As := [.int x1]) (st := []) dX7_becomes_16 (c_X7_voicesGo   _ _ hv6) (by decide) ce_X7_voicesGo ml_X7_80 in_X7_voicesGo se_X7_voicesGo cl_X7 rfl rfl (Nat.le_of_ble_eq_true rfl) rfl ?_
  obtain rfl := Option.some.inj h
  exact go_vret (pc := 19) dX7_becomes_19 rfl ⟨rfl, rfl⟩
def f_X7_come (x1 : Int32) (x2 : Int32) (m : fm_M) : Option (Int32 × fm_M) :=
  (f_X7_isBetween x1 (50 : Int32) (90 : Int32) m).bind fun v1 => if v1 = true then (if fm_in (2 : Int32) 320 = true then (if (m 24 (2 : Int32).toNatClampNeg) = (16 : Int32) then ((f_X7_isNot (1 : Int32) (16 : Int32) m).bind fun v22 => (f_X7_refuses v22.1 v22.2).bind fun v24 => some (v24.1, v24.2)) else ((f_X7_remembers m).bind fun v6 => if fm_in (2 : Int32) 320 = true then (if fm_in (2 : Int32) 320 = true then (if fm_in (2 : Int32) 320 = true then ((f_X7_sets (v6 24 (2 : Int32).toNatClampNeg) (0 : Int32) x1 (fm_put v6 24 (2 : Int32).toNatClampNeg ((v6 24 (2 : Int32).toNatClampNeg) + (1 : Int32)))).bind fun v11 => if x2 = 0 then ((f_X7_sets (v6 24 (2 : Int32).toNatClampNeg) (1 : Int32) (0 : Int32) v11).bind fun v14 => (f_X7_stamps (v6 24 (2 : Int32).toNatClampNeg) v14).bind fun v16 => some ((v6 24 (2 : Int32).toNatClampNeg), v16)) else ((f_X7_sets (v6 24 (2 : Int32).toNatClampNeg) (1 : Int32) (1 : Int32) v11).bind fun v18 => (f_X7_stamps (v6 24 (2 : Int32).toNatClampNeg) v18).bind fun v20 => some ((v6 24 (2 : Int32).toNatClampNeg), v20))) else none) else none) else none)) else none) else (some ((-12 : Int32), m))
set_option maxRecDepth 100000 in
set_option maxHeartbeats 4000000 in
theorem c_X7_come (x1 : Int32) (x2 : Int32) (m : fm_M) {res : Int32 × fm_M} (h : f_X7_come x1 x2 m = some res) : fm_Met fm_layW 2 m_X7_come [.ref 23, .int x1, .int x2] m (fm_pi res.1 res.2) := by
  refine fm_Met_of (ls := [some (.ref 23), some (.int x1), some (.int x2), none]) (by decide) rfl (fm_cc_r _ (fm_cc_i _ (fm_cc_i _ fm_cc_0))) (Nat.le_of_ble_eq_true rfl) rfl ?_
  unfold f_X7_come at h
  refine go_iload_n (pc := 0) dX7_come_0 rfl rfl ?_
  refine go_bipush (pc := 1) (v := (50 : Int32)) dX7_come_1 (by decide) ?_
  refine go_bipush (pc := 3) (v := (90 : Int32)) dX7_come_3 (by decide) ?_
  obtain ⟨v1, hv2, h⟩ := fm_bind h
  refine go_callSi (pc := 5) (As := [.int x1, .int (50 : Int32), .int (90 : Int32)]) (st := []) dX7_come_5 (c_X7_isBetween   _ _ _ _ hv2) (by decide) ce_X7_isBetween ml_X7_60 st_X7_isBetween rfl (Nat.le_of_ble_eq_true rfl) rfl ?_
  refine go_ifb_ne (pc := 8) (tgt := 14) dX7_come_8 (by decide) (fun c3 => ?_) (fun c3 => ?_)
  · rw [if_pos c3] at h
    refine go_aload_n (pc := 14) dX7_come_14 rfl rfl ?_
    refine go_getR (pc := 15) (k := 4) (q2 := 24) dX7_come_15 cl_X7 rfl rfl (by decide) lk_X7_7 ?_
    refine go_iconst (pc := 18) (v := (2 : Int32)) dX7_come_18 (by decide) ?_
    obtain ⟨hi4, h⟩ := fm_chk h
    refine go_iald (pc := 19) dX7_come_19 rfl (fm_in_vp hi4) ?_
    refine go_bipush (pc := 20) (v := (16 : Int32)) dX7_come_20 (by decide) ?_
    refine go_icmp_ne (pc := 22) (tgt := 37) dX7_come_22 (by decide) (fun c5 => ?_) (fun c5 => ?_)
    · rw [if_neg c5] at h
      refine go_aload_n (pc := 37) dX7_come_37 rfl rfl ?_
      obtain ⟨v6, hv7, h⟩ := fm_bind h
      refine go_callVv (pc := 38) (As := []) (st := []) dX7_come_38 (c_X7_remembers   _ hv7) (by decide) ce_X7_remembers ml_X7_90 in_X7_remembers se_X7_remembers cl_X7 rfl rfl (Nat.le_of_ble_eq_true rfl) rfl ?_
      refine go_aload_n (pc := 41) dX7_come_41 rfl rfl ?_
      refine go_getR (pc := 42) (k := 4) (q2 := 24) dX7_come_42 cl_X7 rfl rfl (by decide) lk_X7_7 ?_
      refine go_iconst (pc := 45) (v := (2 : Int32)) dX7_come_45 (by decide) ?_
      obtain ⟨hi8, h⟩ := fm_chk h
      refine go_iald (pc := 46) dX7_come_46 rfl (fm_in_vp hi8) ?_
      refine go_istore_n (pc := 47) (ls1 := [some (.ref 23), some (.int x1), some (.int x2), some (.int (v6 24 (2 : Int32).toNatClampNeg))]) dX7_come_47 rfl (by decide) rfl ?_
      refine go_aload_n (pc := 48) dX7_come_48 rfl rfl ?_
      refine go_getR (pc := 49) (k := 4) (q2 := 24) dX7_come_49 cl_X7 rfl rfl (by decide) lk_X7_7 ?_
      refine go_iconst (pc := 52) (v := (2 : Int32)) dX7_come_52 (by decide) ?_
      refine go_dup2 (pc := 53) dX7_come_53 rfl rfl ?_
      obtain ⟨hi9, h⟩ := fm_chk h
      refine go_iald (pc := 54) dX7_come_54 rfl (fm_in_vp hi9) ?_
      refine go_iconst (pc := 55) (v := (1 : Int32)) dX7_come_55 (by decide) ?_
      refine go_iadd (pc := 56) dX7_come_56 ?_
      obtain ⟨hi10, h⟩ := fm_chk h
      refine go_iast (pc := 57) dX7_come_57 rfl (fm_in_vp hi10) ?_
      refine go_aload_n (pc := 58) dX7_come_58 rfl rfl ?_
      refine go_iload_n (pc := 59) dX7_come_59 rfl rfl ?_
      refine go_iconst (pc := 60) (v := (0 : Int32)) dX7_come_60 (by decide) ?_
      refine go_iload_n (pc := 61) dX7_come_61 rfl rfl ?_
      obtain ⟨v11, hv12, h⟩ := fm_bind h
      refine go_callVv (pc := 62) (As := [.int (v6 24 (2 : Int32).toNatClampNeg), .int (0 : Int32), .int x1]) (st := []) dX7_come_62 (c_X7_sets   _ _ _ _ hv12) (by decide) ce_X7_sets ml_X7_76 in_X7_sets se_X7_sets cl_X7 rfl rfl (Nat.le_of_ble_eq_true rfl) rfl ?_
      refine go_aload_n (pc := 65) dX7_come_65 rfl rfl ?_
      refine go_iload_n (pc := 66) dX7_come_66 rfl rfl ?_
      refine go_iconst (pc := 67) (v := (1 : Int32)) dX7_come_67 (by decide) ?_
      refine go_iload_n (pc := 68) dX7_come_68 rfl rfl ?_
      refine go_if_eq (pc := 69) (tgt := 76) dX7_come_69 (by decide) (fun c13 => ?_) (fun c13 => ?_)
      · rw [if_pos c13] at h
        refine go_iconst (pc := 76) (v := (0 : Int32)) dX7_come_76 (by decide) ?_
        obtain ⟨v14, hv15, h⟩ := fm_bind h
        refine go_callVv (pc := 77) (As := [.int (v6 24 (2 : Int32).toNatClampNeg), .int (1 : Int32), .int (0 : Int32)]) (st := []) dX7_come_77 (c_X7_sets   _ _ _ _ hv15) (by decide) ce_X7_sets ml_X7_76 in_X7_sets se_X7_sets cl_X7 rfl rfl (Nat.le_of_ble_eq_true rfl) rfl ?_
        refine go_aload_n (pc := 80) dX7_come_80 rfl rfl ?_
        refine go_iload_n (pc := 81) dX7_come_81 rfl rfl ?_
        obtain ⟨v16, hv17, h⟩ := fm_bind h
        refine go_callVv (pc := 82) (As := [.int (v6 24 (2 : Int32).toNatClampNeg)]) (st := []) dX7_come_82 (c_X7_stamps   _ _ hv17) (by decide) ce_X7_stamps ml_X7_93 in_X7_stamps se_X7_stamps cl_X7 rfl rfl (Nat.le_of_ble_eq_true rfl) rfl ?_
        refine go_iload_n (pc := 85) dX7_come_85 rfl rfl ?_
        obtain rfl := Option.some.inj h
        exact go_iret (pc := 86) .int dX7_come_86 rfl rfl ⟨rfl, rfl⟩
      · rw [if_neg c13] at h
        refine go_iconst (pc := 72) (v := (1 : Int32)) dX7_come_72 (by decide) ?_
        refine go_goto (pc := 73) (tgt := 77) dX7_come_73 (by decide) ?_
        obtain ⟨v18, hv19, h⟩ := fm_bind h
        refine go_callVv (pc := 77) (As := [.int (v6 24 (2 : Int32).toNatClampNeg), .int (1 : Int32), .int (1 : Int32)]) (st := []) dX7_come_77 (c_X7_sets   _ _ _ _ hv19) (by decide) ce_X7_sets ml_X7_76 in_X7_sets se_X7_sets cl_X7 rfl rfl (Nat.le_of_ble_eq_true rfl) rfl ?_
        refine go_aload_n (pc := 80) dX7_come_80 rfl rfl ?_
        refine go_iload_n (pc := 81) dX7_come_81 rfl rfl ?_
        obtain ⟨v20, hv21, h⟩ := fm_bind h
        refine go_callVv (pc := 82) (As := [.int (v6 24 (2 : Int32).toNatClampNeg)]) (st := []) dX7_come_82 (c_X7_stamps   _ _ hv21) (by decide) ce_X7_stamps ml_X7_93 in_X7_stamps se_X7_stamps cl_X7 rfl rfl (Nat.le_of_ble_eq_true rfl) rfl ?_
        refine go_iload_n (pc := 85) dX7_come_85 rfl rfl ?_
        obtain rfl := Option.some.inj h
        exact go_iret (pc := 86) .int dX7_come_86 rfl rfl ⟨rfl, rfl⟩
    · rw [if_pos c5] at h
      refine go_aload_n (pc := 25) dX7_come_25 rfl rfl ?_
      refine go_aload_n (pc := 26) dX7_come_26 rfl rfl ?_
      refine go_iconst (pc := 27) (v := (1 : Int32)) dX7_come_27 (by decide) ?_
      refine go_bipush (pc := 28) (v := (16 : Int32)) dX7_come_28 (by decide) ?_
      obtain ⟨v22, hv23, h⟩ := fm_bind h
      refine go_callVi (pc := 30) (As := [.int (1 : Int32), .int (16 : Int32)]) (st := [.ref 23]) dX7_come_30 (c_X7_isNot   _ _ _ hv23) (by decide) ce_X7_isNot ml_X7_84 in_X7_isNot se_X7_isNot cl_X7 rfl rfl (Nat.le_of_ble_eq_true rfl) rfl ?_
      obtain ⟨v24, hv25, h⟩ := fm_bind h
      refine go_callVi (pc := 33) (As := [.int v22.1]) (st := []) dX7_come_33 (c_X7_refuses   _ _ hv25) (by decide) ce_X7_refuses ml_X7_87 in_X7_refuses se_X7_refuses cl_X7 rfl rfl (Nat.le_of_ble_eq_true rfl) rfl ?_
      obtain rfl := Option.some.inj h
      exact go_iret (pc := 36) .int dX7_come_36 rfl rfl ⟨rfl, rfl⟩
  · rw [if_neg (by rw [c3]; decide)] at h
    refine go_bipush (pc := 11) (v := (-12 : Int32)) dX7_come_11 (by decide) ?_
    obtain rfl := Option.some.inj h
    exact go_iret (pc := 13) .int dX7_come_13 rfl rfl ⟨rfl, rfl⟩
def f_X7_withdraw (x1 : Int32) (m : fm_M) : Option (Int32 × fm_M) :=
  (f_X7_isBrother x1 m).bind fun v1 => if v1 = true then ((f_X7_isSo x1 (0 : Int32) m).bind fun v4 => if v4 = true then ((f_X7_remembers m).bind fun v7 => (f_X7_becomes x1 (3 : Int32) v7).bind fun v9 => (f_X7_brethrenThat (0 : Int32) v9).bind fun v11 => some (v11, v9)) else ((f_X7_of x1 (2 : Int32) m).bind fun v13 => (f_X7_isNot (2 : Int32) v13 m).bind fun v15 => (f_X7_refuses v15.1 v15.2).bind fun v17 => some (v17.1, v17.2))) else (some ((-11 : Int32), m))
set_option maxRecDepth 100000 in
set_option maxHeartbeats 4000000 in
theorem c_X7_withdraw (x1 : Int32) (m : fm_M) {res : Int32 × fm_M} (h : f_X7_withdraw x1 m = some res) : fm_Met fm_layW 4 m_X7_withdraw [.ref 23, .int x1] m (fm_pi res.1 res.2) := by
  refine fm_Met_of (ls := [some (.ref 23), some (.int x1)]) (by decide) rfl (fm_cc_r _ (fm_cc_i _ fm_cc_0)) (Nat.le_of_ble_eq_true rfl) rfl ?_
  unfold f_X7_withdraw at h
  refine go_aload_n (pc := 0) dX7_withdraw_0 rfl rfl ?_
  refine go_iload_n (pc := 1) dX7_withdraw_1 rfl rfl ?_
  obtain ⟨v1, hv2, h⟩ := fm_bind h
  refine go_callVi (pc := 2) (As := [.int x1]) (st := []) dX7_withdraw_2 (c_X7_isBrother   _ _ hv2) (by decide) ce_X7_isBrother ml_X7_96 in_X7_isBrother se_X7_isBrother cl_X7 rfl rfl (Nat.le_of_ble_eq_true rfl) rfl ?_
  refine go_ifb_ne (pc := 5) (tgt := 11) dX7_withdraw_5 (by decide) (fun c3 => ?_) (fun c3 => ?_)
  · rw [if_pos c3] at h
    refine go_aload_n (pc := 11) dX7_withdraw_11 rfl rfl ?_
    refine go_iload_n (pc := 12) dX7_withdraw_12 rfl rfl ?_
    refine go_iconst (pc := 13) (v := (0 : Int32)) dX7_withdraw_13 (by decide) ?_
    obtain ⟨v4, hv5, h⟩ := fm_bind h
    refine go_callVi (pc := 14) (As := [.int x1, .int (0 : Int32)]) (st := []) dX7_withdraw_14 (c_X7_isSo   _ _ _ hv5) (by decide) ce_X7_isSo ml_X7_68 in_X7_isSo se_X7_isSo cl_X7 rfl rfl (Nat.le_of_ble_eq_true rfl) rfl ?_
    refine go_ifb_ne (pc := 17) (tgt := 36) dX7_withdraw_17 (by decide) (fun c6 => ?_) (fun c6 => ?_)
    · rw [if_pos c6] at h
      refine go_aload_n (pc := 36) dX7_withdraw_36 rfl rfl ?_
      obtain ⟨v7, hv8, h⟩ := fm_bind h
      refine go_callVv (pc := 37) (As := []) (st := []) dX7_withdraw_37 (c_X7_remembers   _ hv8) (by decide) ce_X7_remembers ml_X7_90 in_X7_remembers se_X7_remembers cl_X7 rfl rfl (Nat.le_of_ble_eq_true rfl) rfl ?_
      refine go_aload_n (pc := 40) dX7_withdraw_40 rfl rfl ?_
      refine go_iload_n (pc := 41) dX7_withdraw_41 rfl rfl ?_
      refine go_iconst (pc := 42) (v := (3 : Int32)) dX7_withdraw_42 (by decide) ?_
      obtain ⟨v9, hv10, h⟩ := fm_bind h
      refine go_callVv (pc := 43) (As := [.int x1, .int (3 : Int32)]) (st := []) dX7_withdraw_43 (c_X7_becomes   _ _ _ hv10) (by decide) ce_X7_becomes ml_X7_100 in_X7_becomes se_X7_becomes cl_X7 rfl rfl (Nat.le_of_ble_eq_true rfl) rfl ?_
      refine go_aload_n (pc := 46) dX7_withdraw_46 rfl rfl ?_
      refine go_iconst (pc := 47) (v := (0 : Int32)) dX7_withdraw_47 (by decide) ?_
      obtain ⟨v11, hv12, h⟩ := fm_bind h
      refine go_callVi (pc := 48) (As := [.int (0 : Int32)]) (st := []) dX7_withdraw_48 (c_X7_brethrenThat   _ _ hv12) (by decide) ce_X7_brethrenThat ml_X7_104 in_X7_brethrenThat se_X7_brethrenThat cl_X7 rfl rfl (Nat.le_of_ble_eq_true rfl) rfl ?_
      obtain rfl := Option.some.inj h
      exact go_iret (pc := 51) .int dX7_withdraw_51 rfl rfl ⟨rfl, rfl⟩
    · rw [if_neg (by rw [c6]; decide)] at h
      refine go_aload_n (pc := 20) dX7_withdraw_20 rfl rfl ?_
      refine go_aload_n (pc := 21) dX7_withdraw_21 rfl rfl ?_
      refine go_iconst (pc := 22) (v := (2 : Int32)) dX7_withdraw_22 (by decide) ?_
      refine go_aload_n (pc := 23) dX7_withdraw_23 rfl rfl ?_
      refine go_iload_n (pc := 24) dX7_withdraw_24 rfl rfl ?_
      refine go_iconst (pc := 25) (v := (2 : Int32)) dX7_withdraw_25 (by decide) ?_
      obtain ⟨v13, hv14, h⟩ := fm_bind h
      refine go_callVi (pc := 26) (As := [.int x1, .int (2 : Int32)]) (st := [.int (2 : Int32), .ref 23, .ref 23]) dX7_withdraw_26 (c_X7_of   _ _ _ hv14) (by decide) ce_X7_of ml_X7_64 in_X7_of se_X7_of cl_X7 rfl rfl (Nat.le_of_ble_eq_true rfl) rfl ?_
      obtain ⟨v15, hv16, h⟩ := fm_bind h
      refine go_callVi (pc := 29) (As := [.int (2 : Int32), .int v13]) (st := [.ref 23]) dX7_withdraw_29 (c_X7_isNot   _ _ _ hv16) (by decide) ce_X7_isNot ml_X7_84 in_X7_isNot se_X7_isNot cl_X7 rfl rfl (Nat.le_of_ble_eq_true rfl) rfl ?_
      obtain ⟨v17, hv18, h⟩ := fm_bind h
      refine go_callVi (pc := 32) (As := [.int v15.1]) (st := []) dX7_withdraw_32 (c_X7_refuses   _ _ hv18) (by decide) ce_X7_refuses ml_X7_87 in_X7_refuses se_X7_refuses cl_X7 rfl rfl (Nat.le_of_ble_eq_true rfl) rfl ?_
      obtain rfl := Option.some.inj h
      exact go_iret (pc := 35) .int dX7_withdraw_35 rfl rfl ⟨rfl, rfl⟩
  · rw [if_neg (by rw [c3]; decide)] at h
    refine go_bipush (pc := 8) (v := (-11 : Int32)) dX7_withdraw_8 (by decide) ?_
    obtain rfl := Option.some.inj h
    exact go_iret (pc := 10) .int dX7_withdraw_10 rfl rfl ⟨rfl, rfl⟩
def f_X7_notVoice (x1 : Int32) (x2 : Int32) (m : fm_M) : Option (Int32 × fm_M) :=
  (f_X7_isBrother x1 m).bind fun v1 => if v1 = true then ((f_X7_isBrother x2 m).bind fun v4 => if v4 = true then ((f_X7_isSo x1 (1 : Int32) m).bind fun v7 => if v7 = true then ((f_X7_of x1 (5 : Int32) m).bind fun v10 => if v10 ≤ 0 then ((f_X7_isSo x2 (0 : Int32) m).bind fun v13 => if v13 = true then (some ((0 : Int32), m)) else ((f_X7_of x2 (2 : Int32) m).bind fun v16 => (f_X7_isNot (2 : Int32) v16 m).bind fun v18 => some (v18.1, v18.2))) else ((f_X7_of x1 (5 : Int32) m).bind fun v20 => (f_X7_isNot (4 : Int32) v20 m).bind fun v22 => some (v22.1, v22.2))) else ((f_X7_of x1 (2 : Int32) m).bind fun v24 => (f_X7_isNot (3 : Int32) v24 m).bind fun v26 => some (v26.1, v26.2))) else (some ((-11 : Int32), m))) else (some ((-11 : Int32), m))
set_option maxRecDepth 100000 in
set_option maxHeartbeats 4000000 in
theorem c_X7_notVoice (x1 : Int32) (x2 : Int32) (m : fm_M) {res : Int32 × fm_M} (h : f_X7_notVoice x1 x2 m = some res) : fm_Met fm_layW 2 m_X7_notVoice [.ref 23, .int x1, .int x2] m (fm_pi res.1 res.2) := by
  refine fm_Met_of (ls := [some (.ref 23), some (.int x1), some (.int x2)]) (by decide) rfl (fm_cc_r _ (fm_cc_i _ (fm_cc_i _ fm_cc_0))) (Nat.le_of_ble_eq_true rfl) rfl ?_
  unfold f_X7_notVoice at h
  refine go_aload_n (pc := 0) dX7_notVoice_0 rfl rfl ?_
  refine go_iload_n (pc := 1) dX7_notVoice_1 rfl rfl ?_
  obtain ⟨v1, hv2, h⟩ := fm_bind h
  refine go_callVi (pc := 2) (As := [.int x1]) (st := []) dX7_notVoice_2 (c_X7_isBrother   _ _ hv2) (by decide) ce_X7_isBrother ml_X7_96 in_X7_isBrother se_X7_isBrother cl_X7 rfl rfl (Nat.le_of_ble_eq_true rfl) rfl ?_
  refine go_ifb_eq (pc := 5) (tgt := 16) dX7_notVoice_5 (by decide) (fun c3 => ?_) (fun c3 => ?_)
  · rw [if_neg (by rw [c3]; decide)] at h
    refine go_bipush (pc := 16) (v := (-11 : Int32)) dX7_notVoice_16 (by decide) ?_
    obtain rfl := Option.some.inj h
    exact go_iret (pc := 18) .int dX7_notVoice_18 rfl rfl ⟨rfl, rfl⟩
  · rw [if_pos c3] at h
    refine go_aload_n (pc := 8) dX7_notVoice_8 rfl rfl ?_
    refine go_iload_n (pc := 9) dX7_notVoice_9 rfl rfl ?_
    obtain ⟨v4, hv5, h⟩ := fm_bind h
    refine go_callVi (pc := 10) (As := [.int x2]) (st := []) dX7_notVoice_10 (c_X7_isBrother   _ _ hv5) (by decide) ce_X7_isBrother ml_X7_96 in_X7_isBrother se_X7_isBrother cl_X7 rfl rfl (Nat.le_of_ble_eq_true rfl) rfl ?_
    refine go_ifb_ne (pc := 13) (tgt := 19) dX7_notVoice_13 (by decide) (fun c6 => ?_) (fun c6 => ?_)
    · rw [if_pos c6] at h
      refine go_aload_n (pc := 19) dX7_notVoice_19 rfl rfl ?_
      refine go_iload_n (pc := 20) dX7_notVoice_20 rfl rfl ?_
      refine go_iconst (pc := 21) (v := (1 : Int32)) dX7_notVoice_21 (by decide) ?_
      obtain ⟨v7, hv8, h⟩ := fm_bind h
      refine go_callVi (pc := 22) (As := [.int x1, .int (1 : Int32)]) (st := []) dX7_notVoice_22 (c_X7_isSo   _ _ _ hv8) (by decide) ce_X7_isSo ml_X7_68 in_X7_isSo se_X7_isSo cl_X7 rfl rfl (Nat.le_of_ble_eq_true rfl) rfl ?_
      refine go_ifb_ne (pc := 25) (tgt := 40) dX7_notVoice_25 (by decide) (fun c9 => ?_) (fun c9 => ?_)
      · rw [if_pos c9] at h
        refine go_aload_n (pc := 40) dX7_notVoice_40 rfl rfl ?_
        refine go_iload_n (pc := 41) dX7_notVoice_41 rfl rfl ?_
        refine go_iconst (pc := 42) (v := (5 : Int32)) dX7_notVoice_42 (by decide) ?_
        obtain ⟨v10, hv11, h⟩ := fm_bind h
        refine go_callVi (pc := 43) (As := [.int x1, .int (5 : Int32)]) (st := []) dX7_notVoice_43 (c_X7_of   _ _ _ hv11) (by decide) ce_X7_of ml_X7_64 in_X7_of se_X7_of cl_X7 rfl rfl (Nat.le_of_ble_eq_true rfl) rfl ?_
        refine go_if_le (pc := 46) (tgt := 61) dX7_notVoice_46 (by decide) (fun c12 => ?_) (fun c12 => ?_)
        · rw [if_pos c12] at h
          refine go_aload_n (pc := 61) dX7_notVoice_61 rfl rfl ?_
          refine go_iload_n (pc := 62) dX7_notVoice_62 rfl rfl ?_
          refine go_iconst (pc := 63) (v := (0 : Int32)) dX7_notVoice_63 (by decide) ?_
          obtain ⟨v13, hv14, h⟩ := fm_bind h
          refine go_callVi (pc := 64) (As := [.int x2, .int (0 : Int32)]) (st := []) dX7_notVoice_64 (c_X7_isSo   _ _ _ hv14) (by decide) ce_X7_isSo ml_X7_68 in_X7_isSo se_X7_isSo cl_X7 rfl rfl (Nat.le_of_ble_eq_true rfl) rfl ?_
          refine go_ifb_eq (pc := 67) (tgt := 74) dX7_notVoice_67 (by decide) (fun c15 => ?_) (fun c15 => ?_)
          · rw [if_neg (by rw [c15]; decide)] at h
            refine go_aload_n (pc := 74) dX7_notVoice_74 rfl rfl ?_
            refine go_iconst (pc := 75) (v := (2 : Int32)) dX7_notVoice_75 (by decide) ?_
            refine go_aload_n (pc := 76) dX7_notVoice_76 rfl rfl ?_
            refine go_iload_n (pc := 77) dX7_notVoice_77 rfl rfl ?_
            refine go_iconst (pc := 78) (v := (2 : Int32)) dX7_notVoice_78 (by decide) ?_
            obtain ⟨v16, hv17, h⟩ := fm_bind h
            refine go_callVi (pc := 79) (As := [.int x2, .int (2 : Int32)]) (st := [.int (2 : Int32), .ref 23]) dX7_notVoice_79 (c_X7_of   _ _ _ hv17) (by decide) ce_X7_of ml_X7_64 in_X7_of se_X7_of cl_X7 rfl rfl (Nat.le_of_ble_eq_true rfl) rfl ?_
            obtain ⟨v18, hv19, h⟩ := fm_bind h
            refine go_callVi (pc := 82) (As := [.int (2 : Int32), .int v16]) (st := []) dX7_notVoice_82 (c_X7_isNot   _ _ _ hv19) (by decide) ce_X7_isNot ml_X7_84 in_X7_isNot se_X7_isNot cl_X7 rfl rfl (Nat.le_of_ble_eq_true rfl) rfl ?_
            obtain rfl := Option.some.inj h
            exact go_iret (pc := 85) .int dX7_notVoice_85 rfl rfl ⟨rfl, rfl⟩
          · rw [if_pos c15] at h
            refine go_iconst (pc := 70) (v := (0 : Int32)) dX7_notVoice_70 (by decide) ?_
            refine go_goto (pc := 71) (tgt := 85) dX7_notVoice_71 (by decide) ?_
            obtain rfl := Option.some.inj h
            exact go_iret (pc := 85) .int dX7_notVoice_85 rfl rfl ⟨rfl, rfl⟩
        · rw [if_neg c12] at h
          refine go_aload_n (pc := 49) dX7_notVoice_49 rfl rfl ?_
          refine go_iconst (pc := 50) (v := (4 : Int32)) dX7_notVoice_50 (by decide) ?_
          refine go_aload_n (pc := 51) dX7_notVoice_51 rfl rfl ?_
          refine go_iload_n (pc := 52) dX7_notVoice_52 rfl rfl ?_
          refine go_iconst (pc := 53) (v := (5 : Int32)) dX7_notVoice_53 (by decide) ?_
          obtain ⟨v20, hv21, h⟩ := fm_bind h
          refine go_callVi (pc := 54) (As := [.int x1, .int (5 : Int32)]) (st := [.int (4 : Int32), .ref 23]) dX7_notVoice_54 (c_X7_of   _ _ _ hv21) (by decide) ce_X7_of ml_X7_64 in_X7_of se_X7_of cl_X7 rfl rfl (Nat.le_of_ble_eq_true rfl) rfl ?_
          obtain ⟨v22, hv23, h⟩ := fm_bind h
          refine go_callVi (pc := 57) (As := [.int (4 : Int32), .int v20]) (st := []) dX7_notVoice_57 (c_X7_isNot   _ _ _ hv23) (by decide) ce_X7_isNot ml_X7_84 in_X7_isNot se_X7_isNot cl_X7 rfl rfl (Nat.le_of_ble_eq_true rfl) rfl ?_
          obtain rfl := Option.some.inj h
          exact go_iret (pc := 60) .int dX7_notVoice_60 rfl rfl ⟨rfl, rfl⟩
      · rw [if_neg (by rw [c9]; decide)] at h
        refine go_aload_n (pc := 28) dX7_notVoice_28 rfl rfl ?_
        refine go_iconst (pc := 29) (v := (3 : Int32)) dX7_notVoice_29 (by decide) ?_
        refine go_aload_n (pc := 30) dX7_notVoice_30 rfl rfl ?_
        refine go_iload_n (pc := 31) dX7_notVoice_31 rfl rfl ?_
        refine go_iconst (pc := 32) (v := (2 : Int32)) dX7_notVoice_32 (by decide) ?_
        obtain ⟨v24, hv25, h⟩ := fm_bind h
        refine go_callVi (pc := 33) (As := [.int x1, .int (2 : Int32)]) (st := [.int (3 : Int32), .ref 23]) dX7_notVoice_33 (c_X7_of   _ _ _ hv25) (by decide) ce_X7_of ml_X7_64 in_X7_of se_X7_of cl_X7 rfl rfl (Nat.le_of_ble_eq_true rfl) rfl ?_
        obtain ⟨v26, hv27, h⟩ := fm_bind h
        refine go_callVi (pc := 36) (As := [.int (3 : Int32), .int v24]) (st := []) dX7_notVoice_36 (c_X7_isNot   _ _ _ hv27) (by decide) ce_X7_isNot ml_X7_84 in_X7_isNot se_X7_isNot cl_X7 rfl rfl (Nat.le_of_ble_eq_true rfl) rfl ?_
        obtain rfl := Option.some.inj h
        exact go_iret (pc := 39) .int dX7_notVoice_39 rfl rfl ⟨rfl, rfl⟩
    · rw [if_neg (by rw [c6]; decide)] at h
      refine go_bipush (pc := 16) (v := (-11 : Int32)) dX7_notVoice_16 (by decide) ?_
      obtain rfl := Option.some.inj h
      exact go_iret (pc := 18) .int dX7_notVoice_18 rfl rfl ⟨rfl, rfl⟩
def f_X7_gives (x1 : Int32) (x2 : Int32) (m : fm_M) : Option (Int32 × fm_M) :=
  (f_X7_sets x1 (7 : Int32) (x2 + (1 : Int32)) m).bind fun v1 => (f_X7_voicesFor x2 v1).bind fun v3 => some (v3, v1)
set_option maxRecDepth 100000 in
set_option maxHeartbeats 4000000 in
theorem c_X7_gives (x1 : Int32) (x2 : Int32) (m : fm_M) {res : Int32 × fm_M} (h : f_X7_gives x1 x2 m = some res) : fm_Met fm_layW 3 m_X7_gives [.ref 23, .int x1, .int x2] m (fm_pi res.1 res.2) := by
  refine fm_Met_of (ls := [some (.ref 23), some (.int x1), some (.int x2)]) (by decide) rfl (fm_cc_r _ (fm_cc_i _ (fm_cc_i _ fm_cc_0))) (Nat.le_of_ble_eq_true rfl) rfl ?_
  unfold f_X7_gives at h
  refine go_aload_n (pc := 0) dX7_gives_0 rfl rfl ?_
  refine go_iload_n (pc := 1) dX7_gives_1 rfl rfl ?_
  refine go_bipush (pc := 2) (v := (7 : Int32)) dX7_gives_2 (by decide) ?_
  refine go_iload_n (pc := 4) dX7_gives_4 rfl rfl ?_
  refine go_iconst (pc := 5) (v := (1 : Int32)) dX7_gives_5 (by decide) ?_
  refine go_iadd (pc := 6) dX7_gives_6 ?_
  obtain ⟨v1, hv2, h⟩ := fm_bind h
  refine go_callVv (pc := 7) (As := [.int x1, .int (7 : Int32), .int (x2 + (1 : Int32))]) (st := []) dX7_gives_7 (c_X7_sets   _ _ _ _ hv2) (by decide) ce_X7_sets ml_X7_76 in_X7_sets se_X7_sets cl_X7 rfl rfl (Nat.le_of_ble_eq_true rfl) rfl ?_
  refine go_aload_n (pc := 10) dX7_gives_10 rfl rfl ?_
  refine go_iload_n (pc := 11) dX7_gives_11 rfl rfl ?_
  obtain ⟨v3, hv4, h⟩ := fm_bind h
  refine go_callVi (pc := 12) (As := [.int x2]) (st := []) dX7_gives_12 (c_X7_voicesFor   _ _ hv4) (by decide) ce_X7_voicesFor ml_X7_107 in_X7_voicesFor se_X7_voicesFor cl_X7 rfl rfl (Nat.le_of_ble_eq_true rfl) rfl ?_
  obtain rfl := Option.some.inj h
  exact go_iret (pc := 15) .int dX7_gives_15 rfl rfl ⟨rfl, rfl⟩
def f_X7_voice (x1 : Int32) (x2 : Int32) (m : fm_M) : Option (Int32 × fm_M) :=
  (f_X7_notVoice x1 x2 m).bind fun v1 => if v1.1 = 0 then ((f_X7_remembers v1.2).bind fun v4 => (f_X7_gives x1 x2 v4).bind fun v6 => some (v6.1, v6.2)) else ((f_X7_refuses v1.1 v1.2).bind fun v8 => some (v8.1, v8.2))
set_option maxRecDepth 100000 in
set_option maxHeartbeats 4000000 in
theorem c_X7_voice (x1 : Int32) (x2 : Int32) (m : fm_M) {res : Int32 × fm_M} (h : f_X7_voice x1 x2 m = some res) : fm_Met fm_layW 4 m_X7_voice [.ref 23, .int x1, .int x2] m (fm_pi res.1 res.2) := by
  refine fm_Met_of (ls := [some (.ref 23), some (.int x1), some (.int x2), none]) (by decide) rfl (fm_cc_r _ (fm_cc_i _ (fm_cc_i _ fm_cc_0))) (Nat.le_of_ble_eq_true rfl) rfl ?_
  unfold f_X7_voice at h
  refine go_aload_n (pc := 0) dX7_voice_0 rfl rfl ?_
  refine go_iload_n (pc := 1) dX7_voice_1 rfl rfl ?_
  refine go_iload_n (pc := 2) dX7_voice_2 rfl rfl ?_
  obtain ⟨v1, hv2, h⟩ := fm_bind h
  refine go_callVi (pc := 3) (As := [.int x1, .int x2]) (st := []) dX7_voice_3 (c_X7_notVoice   _ _ _ hv2) (by decide) ce_X7_notVoice ml_X7_110 in_X7_notVoice se_X7_notVoice cl_X7 rfl rfl (Nat.le_of_ble_eq_true rfl) rfl ?_
  refine go_istore_n (pc := 6) (ls1 := [some (.ref 23), some (.int x1), some (.int x2), some (.int v1.1)]) dX7_voice_6 rfl (by decide) rfl ?_
  refine go_iload_n (pc := 7) dX7_voice_7 rfl rfl ?_
  refine go_if_eq (pc := 8) (tgt := 17) dX7_voice_8 (by decide) (fun c3 => ?_) (fun c3 => ?_)
  · rw [if_pos c3] at h
    refine go_aload_n (pc := 17) dX7_voice_17 rfl rfl ?_
    obtain ⟨v4, hv5, h⟩ := fm_bind h
    refine go_callVv (pc := 18) (As := []) (st := []) dX7_voice_18 (c_X7_remembers   _ hv5) (by decide) ce_X7_remembers ml_X7_90 in_X7_remembers se_X7_remembers cl_X7 rfl rfl (Nat.le_of_ble_eq_true rfl) rfl ?_
    refine go_aload_n (pc := 21) dX7_voice_21 rfl rfl ?_
    refine go_iload_n (pc := 22) dX7_voice_22 rfl rfl ?_
    refine go_iload_n (pc := 23) dX7_voice_23 rfl rfl ?_
    obtain ⟨v6, hv7, h⟩ := fm_bind h
    refine go_callVi (pc := 24) (As := [.int x1, .int x2]) (st := []) dX7_voice_24 (c_X7_gives   _ _ _ hv7) (by decide) ce_X7_gives ml_X7_113 in_X7_gives se_X7_gives cl_X7 rfl rfl (Nat.le_of_ble_eq_true rfl) rfl ?_
    obtain rfl := Option.some.inj h
    exact go_iret (pc := 27) .int dX7_voice_27 rfl rfl ⟨rfl, rfl⟩
  · rw [if_neg c3] at h
    refine go_aload_n (pc := 11) dX7_voice_11 rfl rfl ?_
    refine go_iload_n (pc := 12) dX7_voice_12 rfl rfl ?_
    obtain ⟨v8, hv9, h⟩ := fm_bind h
    refine go_callVi (pc := 13) (As := [.int v1.1]) (st := []) dX7_voice_13 (c_X7_refuses   _ _ hv9) (by decide) ce_X7_refuses ml_X7_87 in_X7_refuses se_X7_refuses cl_X7 rfl rfl (Nat.le_of_ble_eq_true rfl) rfl ?_
    obtain rfl := Option.some.inj h
    exact go_iret (pc := 16) .int dX7_voice_16 rfl rfl ⟨rfl, rfl⟩
def f_X7_isChosenAhead (x1 : Int32) (x2 : Int32) (m : fm_M) : Option (Bool) :=
  (f_X7_voicesFor x1 m).bind fun v1 => (f_X7_voicesFor x2 m).bind fun v3 => if v1 = v3 then ((f_X7_of x1 (8 : Int32) m).bind fun v6 => (f_X7_of x2 (8 : Int32) m).bind fun v8 => if v8 ≤ v6 then (some false) else (some true)) else ((f_X7_voicesFor x1 m).bind fun v11 => (f_X7_voicesFor x2 m).bind fun v13 => if v11 ≤ v13 then (some false) else (some true))
set_option maxRecDepth 100000 in
set_option maxHeartbeats 4000000 in
theorem c_X7_isChosenAhead (x1 : Int32) (x2 : Int32) (m : fm_M) {res : Bool} (h : f_X7_isChosenAhead x1 x2 m = some res) : fm_Met fm_layW 3 m_X7_isChosenAhead [.ref 23, .int x1, .int x2] m (fm_pi (fm_b res) m) := by
  refine fm_Met_of (ls := [some (.ref 23), some (.int x1), some (.int x2)]) (by decide) rfl (fm_cc_r _ (fm_cc_i _ (fm_cc_i _ fm_cc_0))) (Nat.le_of_ble_eq_true rfl) rfl ?_
  unfold f_X7_isChosenAhead at h
  refine go_aload_n (pc := 0) dX7_isChosenAhead_0 rfl rfl ?_
  refine go_iload_n (pc := 1) dX7_isChosenAhead_1 rfl rfl ?_
  obtain ⟨v1, hv2, h⟩ := fm_bind h
  refine go_callVi (pc := 2) (As := [.int x1]) (st := []) dX7_isChosenAhead_2 (c_X7_voicesFor   _ _ hv2) (by decide) ce_X7_voicesFor ml_X7_107 in_X7_voicesFor se_X7_voicesFor cl_X7 rfl rfl (Nat.le_of_ble_eq_true rfl) rfl ?_
  refine go_aload_n (pc := 5) dX7_isChosenAhead_5 rfl rfl ?_
  refine go_iload_n (pc := 6) dX7_isChosenAhead_6 rfl rfl ?_
  obtain ⟨v3, hv4, h⟩ := fm_bind h
  refine go_callVi (pc := 7) (As := [.int x2]) (st := [.int v1]) dX7_isChosenAhead_7 (c_X7_voicesFor   _ _ hv4) (by decide) ce_X7_voicesFor ml_X7_107 in_X7_voicesFor se_X7_voicesFor cl_X7 rfl rfl (Nat.le_of_ble_eq_true rfl) rfl ?_
  refine go_icmp_eq (pc := 10) (tgt := 34) dX7_isChosenAhead_10 (by decide) (fun c5 => ?_) (fun c5 => ?_)
  · rw [if_pos c5] at h
    refine go_aload_n (pc := 34) dX7_isChosenAhead_34 rfl rfl ?_
    refine go_iload_n (pc := 35) dX7_isChosenAhead_35 rfl rfl ?_
    refine go_bipush (pc := 36) (v := (8 : Int32)) dX7_isChosenAhead_36 (by decide) ?_
    obtain ⟨v6, hv7, h⟩ := fm_bind h
    refine go_callVi (pc := 38) (As := [.int x1, .int (8 : Int32)]) (st := []) dX7_isChosenAhead_38 (c_X7_of   _ _ _ hv7) (by decide) ce_X7_of ml_X7_64 in_X7_of se_X7_of cl_X7 rfl rfl (Nat.le_of_ble_eq_true rfl) rfl ?_
    refine go_aload_n (pc := 41) dX7_isChosenAhead_41 rfl rfl ?_
    refine go_iload_n (pc := 42) dX7_isChosenAhead_42 rfl rfl ?_
    refine go_bipush (pc := 43) (v := (8 : Int32)) dX7_isChosenAhead_43 (by decide) ?_
    obtain ⟨v8, hv9, h⟩ := fm_bind h
    refine go_callVi (pc := 45) (As := [.int x2, .int (8 : Int32)]) (st := [.int v6]) dX7_isChosenAhead_45 (c_X7_of   _ _ _ hv9) (by decide) ce_X7_of ml_X7_64 in_X7_of se_X7_of cl_X7 rfl rfl (Nat.le_of_ble_eq_true rfl) rfl ?_
    refine go_icmp_ge (pc := 48) (tgt := 55) dX7_isChosenAhead_48 (by decide) (fun c10 => ?_) (fun c10 => ?_)
    · rw [if_pos c10] at h
      refine go_iconst (pc := 55) (v := (0 : Int32)) dX7_isChosenAhead_55 (by decide) ?_
      obtain rfl := Option.some.inj h
      exact go_iret (pc := 56) .boolean dX7_isChosenAhead_56 rfl rfl ⟨rfl, rfl⟩
    · rw [if_neg c10] at h
      refine go_iconst (pc := 51) (v := (1 : Int32)) dX7_isChosenAhead_51 (by decide) ?_
      refine go_goto (pc := 52) (tgt := 56) dX7_isChosenAhead_52 (by decide) ?_
      obtain rfl := Option.some.inj h
      exact go_iret (pc := 56) .boolean dX7_isChosenAhead_56 rfl rfl ⟨rfl, rfl⟩
  · rw [if_neg c5] at h
    refine go_aload_n (pc := 13) dX7_isChosenAhead_13 rfl rfl ?_
    refine go_iload_n (pc := 14) dX7_isChosenAhead_14 rfl rfl ?_
    obtain ⟨v11, hv12, h⟩ := fm_bind h
    refine go_callVi (pc := 15) (As := [.int x1]) (st := []) dX7_isChosenAhead_15 (c_X7_voicesFor   _ _ hv12) (by decide) ce_X7_voicesFor ml_X7_107 in_X7_voicesFor se_X7_voicesFor cl_X7 rfl rfl (Nat.le_of_ble_eq_true rfl) rfl ?_
    refine go_aload_n (pc := 18) dX7_isChosenAhead_18 rfl rfl ?_
    refine go_iload_n (pc := 19) dX7_isChosenAhead_19 rfl rfl ?_
    obtain ⟨v13, hv14, h⟩ := fm_bind h
    refine go_callVi (pc := 20) (As := [.int x2]) (st := [.int v11]) dX7_isChosenAhead_20 (c_X7_voicesFor   _ _ hv14) (by decide) ce_X7_voicesFor ml_X7_107 in_X7_voicesFor se_X7_voicesFor cl_X7 rfl rfl (Nat.le_of_ble_eq_true rfl) rfl ?_
    refine go_icmp_le (pc := 23) (tgt := 30) dX7_isChosenAhead_23 (by decide) (fun c15 => ?_) (fun c15 => ?_)
    · rw [if_pos c15] at h
      refine go_iconst (pc := 30) (v := (0 : Int32)) dX7_isChosenAhead_30 (by decide) ?_
      refine go_goto (pc := 31) (tgt := 56) dX7_isChosenAhead_31 (by decide) ?_
      obtain rfl := Option.some.inj h
      exact go_iret (pc := 56) .boolean dX7_isChosenAhead_56 rfl rfl ⟨rfl, rfl⟩
    · rw [if_neg c15] at h
      refine go_iconst (pc := 26) (v := (1 : Int32)) dX7_isChosenAhead_26 (by decide) ?_
      refine go_goto (pc := 27) (tgt := 56) dX7_isChosenAhead_27 (by decide) ?_
      obtain rfl := Option.some.inj h
      exact go_iret (pc := 56) .boolean dX7_isChosenAhead_56 rfl rfl ⟨rfl, rfl⟩
def f_X7_rankedAt_L29 : Nat → Int32 → Int32 → Int32 → Int32 → fm_M → Option (Int32)
  | 0, _, _, _, _, _ => none
  | n + 1, y1, y2, y3, y4, m => if fm_in (2 : Int32) 320 = true then (if (m 24 (2 : Int32).toNatClampNeg) ≤ y4 then (some y3) else ((f_X7_isSo y4 (0 : Int32) m).bind fun v8 => if v8 = true then ((f_X7_isChosenAhead y4 y2 m).bind fun v11 => if v11 = true then (f_X7_rankedAt_L29 n y1 y2 (y3 + (1 : Int32)) (y4 + (1 : Int32)) m) else (f_X7_rankedAt_L29 n y1 y2 (y3 + (0 : Int32)) (y4 + (1 : Int32)) m)) else (f_X7_rankedAt_L29 n y1 y2 (y3 + (0 : Int32)) (y4 + (1 : Int32)) m))) else none
def f_X7_rankedAt_L2 : Nat → Int32 → Int32 → fm_M → Option (Int32)
  | 0, _, _, _ => none
  | n + 1, y1, y2, m => if fm_in (2 : Int32) 320 = true then (if (m 24 (2 : Int32).toNatClampNeg) ≤ y2 then (some (-11 : Int32)) else ((f_X7_isSo y2 (0 : Int32) m).bind fun v3 => if v3 = true then ((f_X7_rankedAt_L29 fm_F y1 y2 (0 : Int32) (0 : Int32) m).bind fun e14 => if e14 = y1 then (some y2) else (f_X7_rankedAt_L2 n y1 (y2 + (1 : Int32)) m)) else (f_X7_rankedAt_L2 n y1 (y2 + (1 : Int32)) m))) else none
def f_X7_rankedAt (x1 : Int32) (m : fm_M) : Option (Int32) :=
  f_X7_rankedAt_L2 fm_F x1 (0 : Int32) m
set_option maxRecDepth 100000 in
set_option maxHeartbeats 4000000 in
theorem c_X7_rankedAt_L29 {Post : Option Value → fm_M → Prop} : ∀ (n : Nat) (y1 : Int32) (y2 : Int32) (y3 : Int32) (y4 : Int32) (m : fm_M) (e : Int32), f_X7_rankedAt_L29 n y1 y2 y3 y4 m = some e → fm_Go fm_layW 4 m_X7_rankedAt Post 74 [some (.ref 23), some (.int y1), some (.int y2), some (.int e), none] [] m → fm_Go fm_layW 4 m_X7_rankedAt Post 29 [some (.ref 23), some (.int y1), some (.int y2), some (.int y3), some (.int y4)] [] m := by
  intro n
  induction n with
  | zero => intro y1 y2 y3 y4 m e h hk; cases h
  | succ n ih =>
    intro y1 y2 y3 y4 m e h hk
    rw [f_X7_rankedAt_L29] at h
    refine go_iload (pc := 29) dX7_rankedAt_29 rfl ?_
    refine go_aload_n (pc := 31) dX7_rankedAt_31 rfl rfl ?_
    refine go_getR (pc := 32) (k := 4) (q2 := 24) dX7_rankedAt_32 cl_X7 rfl rfl (by decide) lk_X7_7 ?_
    refine go_iconst (pc := 35) (v := (2 : Int32)) dX7_rankedAt_35 (by decide) ?_
    obtain ⟨hi6, h⟩ := fm_chk h
    refine go_iald (pc := 36) dX7_rankedAt_36 rfl (fm_in_vp hi6) ?_
    refine go_icmp_ge (pc := 37) (tgt := 74) dX7_rankedAt_37 (by decide) (fun c7 => ?_) (fun c7 => ?_)
    · rw [if_pos c7] at h
      refine go_drop 4 (ls1 := [some (.ref 23), some (.int y1), some (.int y2), some (.int y3), none]) rfl ?_
      obtain rfl := Option.some.inj h
      exact hk
    · rw [if_neg c7] at h
      refine go_iload_n (pc := 40) dX7_rankedAt_40 rfl rfl ?_
      refine go_aload_n (pc := 41) dX7_rankedAt_41 rfl rfl ?_
      refine go_iload (pc := 42) dX7_rankedAt_42 rfl ?_
      refine go_iconst (pc := 44) (v := (0 : Int32)) dX7_rankedAt_44 (by decide) ?_
      obtain ⟨v8, hv9, h⟩ := fm_bind h
      refine go_callVi (pc := 45) (As := [.int y4, .int (0 : Int32)]) (st := [.int y3]) dX7_rankedAt_45 (c_X7_isSo   _ _ _ hv9) (by decide) ce_X7_isSo ml_X7_68 in_X7_isSo se_X7_isSo cl_X7 rfl rfl (Nat.le_of_ble_eq_true rfl) rfl ?_
      refine go_ifb_eq (pc := 48) (tgt := 65) dX7_rankedAt_48 (by decide) (fun c10 => ?_) (fun c10 => ?_)
      · rw [if_neg (by rw [c10]; decide)] at h
        refine go_iconst (pc := 65) (v := (0 : Int32)) dX7_rankedAt_65 (by decide) ?_
        refine go_iadd (pc := 66) dX7_rankedAt_66 ?_
        refine go_istore_n (pc := 67) (ls1 := [some (.ref 23), some (.int y1), some (.int y2), some (.int (y3 + (0 : Int32))), some (.int y4)]) dX7_rankedAt_67 rfl (by decide) rfl ?_
        refine go_iinc (pc := 68) (v := (y4 + (1 : Int32))) (ls1 := [some (.ref 23), some (.int y1), some (.int y2), some (.int (y3 + (0 : Int32))), some (.int (y4 + (1 : Int32)))]) dX7_rankedAt_68 rfl rfl (Nat.le_of_ble_eq_true rfl) rfl ?_
        refine go_goto (pc := 71) (tgt := 29) dX7_rankedAt_71 (by decide) ?_
        exact ih _ _ _ _ _ _ h hk
      · rw [if_pos c10] at h
        refine go_aload_n (pc := 51) dX7_rankedAt_51 rfl rfl ?_
        refine go_iload (pc := 52) dX7_rankedAt_52 rfl ?_
        refine go_iload_n (pc := 54) dX7_rankedAt_54 rfl rfl ?_
        obtain ⟨v11, hv12, h⟩ := fm_bind h
        refine go_callVi (pc := 55) (As := [.int y4, .int y2]) (st := [.int y3]) dX7_rankedAt_55 (c_X7_isChosenAhead   _ _ _ hv12) (by decide) ce_X7_isChosenAhead ml_X7_116 in_X7_isChosenAhead se_X7_isChosenAhead cl_X7 rfl rfl (Nat.le_of_ble_eq_true rfl) rfl ?_
        refine go_ifb_eq (pc := 58) (tgt := 65) dX7_rankedAt_58 (by decide) (fun c13 => ?_) (fun c13 => ?_)
        · rw [if_neg (by rw [c13]; decide)] at h
          refine go_iconst (pc := 65) (v := (0 : Int32)) dX7_rankedAt_65 (by decide) ?_
          refine go_iadd (pc := 66) dX7_rankedAt_66 ?_
          refine go_istore_n (pc := 67) (ls1 := [some (.ref 23), some (.int y1), some (.int y2), some (.int (y3 + (0 : Int32))), some (.int y4)]) dX7_rankedAt_67 rfl (by decide) rfl ?_
          refine go_iinc (pc := 68) (v := (y4 + (1 : Int32))) (ls1 := [some (.ref 23), some (.int y1), some (.int y2), some (.int (y3 + (0 : Int32))), some (.int (y4 + (1 : Int32)))]) dX7_rankedAt_68 rfl rfl (Nat.le_of_ble_eq_true rfl) rfl ?_
          refine go_goto (pc := 71) (tgt := 29) dX7_rankedAt_71 (by decide) ?_
          exact ih _ _ _ _ _ _ h hk
        · rw [if_pos c13] at h
          refine go_iconst (pc := 61) (v := (1 : Int32)) dX7_rankedAt_61 (by decide) ?_
          refine go_goto (pc := 62) (tgt := 66) dX7_rankedAt_62 (by decide) ?_
          refine go_iadd (pc := 66) dX7_rankedAt_66 ?_
          refine go_istore_n (pc := 67) (ls1 := [some (.ref 23), some (.int y1), some (.int y2), some (.int (y3 + (1 : Int32))), some (.int y4)]) dX7_rankedAt_67 rfl (by decide) rfl ?_
          refine go_iinc (pc := 68) (v := (y4 + (1 : Int32))) (ls1 := [some (.ref 23), some (.int y1), some (.int y2), some (.int (y3 + (1 : Int32))), some (.int (y4 + (1 : Int32)))]) dX7_rankedAt_68 rfl rfl (Nat.le_of_ble_eq_true rfl) rfl ?_
          refine go_goto (pc := 71) (tgt := 29) dX7_rankedAt_71 (by decide) ?_
          exact ih _ _ _ _ _ _ h hk
set_option maxRecDepth 100000 in
set_option maxHeartbeats 4000000 in
theorem c_X7_rankedAt_L2 : ∀ (n : Nat) (y1 : Int32) (y2 : Int32) (m : fm_M) (res : Int32), f_X7_rankedAt_L2 n y1 y2 m = some res → fm_Go fm_layW 4 m_X7_rankedAt (fm_pi res m) 2 [some (.ref 23), some (.int y1), some (.int y2), none, none] [] m := by
  intro n
  induction n with
  | zero => intro y1 y2 m res h; cases h
  | succ n ih =>
    intro y1 y2 m res h
    rw [f_X7_rankedAt_L2] at h
    refine go_iload_n (pc := 2) dX7_rankedAt_2 rfl rfl ?_
    refine go_aload_n (pc := 3) dX7_rankedAt_3 rfl rfl ?_
    refine go_getR (pc := 4) (k := 4) (q2 := 24) dX7_rankedAt_4 cl_X7 rfl rfl (by decide) lk_X7_7 ?_
    refine go_iconst (pc := 7) (v := (2 : Int32)) dX7_rankedAt_7 (by decide) ?_
    obtain ⟨hi1, h⟩ := fm_chk h
    refine go_iald (pc := 8) dX7_rankedAt_8 rfl (fm_in_vp hi1) ?_
    refine go_icmp_ge (pc := 9) (tgt := 87) dX7_rankedAt_9 (by decide) (fun c2 => ?_) (fun c2 => ?_)
    · rw [if_pos c2] at h
      refine go_bipush (pc := 87) (v := (-11 : Int32)) dX7_rankedAt_87 (by decide) ?_
      obtain rfl := Option.some.inj h
      exact go_iret (pc := 89) .int dX7_rankedAt_89 rfl rfl ⟨rfl, rfl⟩
    · rw [if_neg c2] at h
      refine go_aload_n (pc := 12) dX7_rankedAt_12 rfl rfl ?_
      refine go_iload_n (pc := 13) dX7_rankedAt_13 rfl rfl ?_
      refine go_iconst (pc := 14) (v := (0 : Int32)) dX7_rankedAt_14 (by decide) ?_
      obtain ⟨v3, hv4, h⟩ := fm_bind h
      refine go_callVi (pc := 15) (As := [.int y2, .int (0 : Int32)]) (st := []) dX7_rankedAt_15 (c_X7_isSo   _ _ _ hv4) (by decide) ce_X7_isSo ml_X7_68 in_X7_isSo se_X7_isSo cl_X7 rfl rfl (Nat.le_of_ble_eq_true rfl) rfl ?_
      refine go_ifb_ne (pc := 18) (tgt := 24) dX7_rankedAt_18 (by decide) (fun c5 => ?_) (fun c5 => ?_)
      · rw [if_pos c5] at h
        refine go_iconst (pc := 24) (v := (0 : Int32)) dX7_rankedAt_24 (by decide) ?_
        refine go_istore_n (pc := 25) (ls1 := [some (.ref 23), some (.int y1), some (.int y2), some (.int (0 : Int32)), none]) dX7_rankedAt_25 rfl (by decide) rfl ?_
        refine go_iconst (pc := 26) (v := (0 : Int32)) dX7_rankedAt_26 (by decide) ?_
        refine go_istore (pc := 27) (ls1 := [some (.ref 23), some (.int y1), some (.int y2), some (.int (0 : Int32)), some (.int (0 : Int32))]) dX7_rankedAt_27 (by decide) rfl ?_
        obtain ⟨e14, he15, h⟩ := fm_bind h
        refine c_X7_rankedAt_L29  fm_F _ _ _ _ _ e14 he15 ?_
        refine go_iload_n (pc := 74) dX7_rankedAt_74 rfl rfl ?_
        refine go_iload_n (pc := 75) dX7_rankedAt_75 rfl rfl ?_
        refine go_icmp_ne (pc := 76) (tgt := 81) dX7_rankedAt_76 (by decide) (fun c16 => ?_) (fun c16 => ?_)
        · rw [if_neg c16] at h
          refine go_iinc (pc := 81) (v := (y2 + (1 : Int32))) (ls1 := [some (.ref 23), some (.int y1), some (.int (y2 + (1 : Int32))), some (.int e14), none]) dX7_rankedAt_81 rfl rfl (Nat.le_of_ble_eq_true rfl) rfl ?_
          refine go_goto (pc := 84) (tgt := 2) dX7_rankedAt_84 (by decide) ?_
          refine go_drop 3 (ls1 := [some (.ref 23), some (.int y1), some (.int (y2 + (1 : Int32))), none, none]) rfl ?_
          exact ih _ _ _ _ h
        · rw [if_pos c16] at h
          refine go_iload_n (pc := 79) dX7_rankedAt_79 rfl rfl ?_
          obtain rfl := Option.some.inj h
          exact go_iret (pc := 80) .int dX7_rankedAt_80 rfl rfl ⟨rfl, rfl⟩
      · rw [if_neg (by rw [c5]; decide)] at h
        refine go_goto (pc := 21) (tgt := 81) dX7_rankedAt_21 (by decide) ?_
        refine go_iinc (pc := 81) (v := (y2 + (1 : Int32))) (ls1 := [some (.ref 23), some (.int y1), some (.int (y2 + (1 : Int32))), none, none]) dX7_rankedAt_81 rfl rfl (Nat.le_of_ble_eq_true rfl) rfl ?_
        refine go_goto (pc := 84) (tgt := 2) dX7_rankedAt_84 (by decide) ?_
        exact ih _ _ _ _ h
set_option maxRecDepth 100000 in
set_option maxHeartbeats 4000000 in
theorem c_X7_rankedAt (x1 : Int32) (m : fm_M) {res : Int32} (h : f_X7_rankedAt x1 m = some res) : fm_Met fm_layW 4 m_X7_rankedAt [.ref 23, .int x1] m (fm_pi res m) := by
  refine fm_Met_of (ls := [some (.ref 23), some (.int x1), none, none, none]) (by decide) rfl (fm_cc_r _ (fm_cc_i _ fm_cc_0)) (Nat.le_of_ble_eq_true rfl) rfl ?_
  unfold f_X7_rankedAt at h
  refine go_iconst (pc := 0) (v := (0 : Int32)) dX7_rankedAt_0 (by decide) ?_
  refine go_istore_n (pc := 1) (ls1 := [some (.ref 23), some (.int x1), some (.int (0 : Int32)), none, none]) dX7_rankedAt_1 rfl (by decide) rfl ?_
  exact c_X7_rankedAt_L2  fm_F _ _ _ _ h
def f_X7_notChoose (x1 : Int32) (m : fm_M) : Option (Int32 × fm_M) :=
  (f_X7_isCell x1 m).bind fun v1 => if v1 = true then ((f_X7_brotherIn x1 m).bind fun v4 => if v4 < 0 then ((f_X7_brethrenThat (0 : Int32) m).bind fun v7 => if v7 = 0 then ((f_X7_isNot (6 : Int32) x1 m).bind fun v10 => some (v10.1, v10.2)) else (some ((0 : Int32), m))) else ((f_X7_brotherIn x1 m).bind fun v12 => (f_X7_isNot (5 : Int32) v12 m).bind fun v14 => some (v14.1, v14.2))) else (some ((-11 : Int32), m))
set_option maxRecDepth 100000 in
set_option maxHeartbeats 4000000 in
theorem c_X7_notChoose (x1 : Int32) (m : fm_M) {res : Int32 × fm_M} (h : f_X7_notChoose x1 m = some res) : fm_Met fm_layW 3 m_X7_notChoose [.ref 23, .int x1] m (fm_pi res.1 res.2) := by
  refine fm_Met_of (ls := [some (.ref 23), some (.int x1)]) (by decide) rfl (fm_cc_r _ (fm_cc_i _ fm_cc_0)) (Nat.le_of_ble_eq_true rfl) rfl ?_
  unfold f_X7_notChoose at h
  refine go_iload_n (pc := 0) dX7_notChoose_0 rfl rfl ?_
  obtain ⟨v1, hv2, h⟩ := fm_bind h
  refine go_callSi (pc := 1) (As := [.int x1]) (st := []) dX7_notChoose_1 (c_X7_isCell   _ _ hv2) (by decide) ce_X7_isCell ml_X7_119 st_X7_isCell rfl (Nat.le_of_ble_eq_true rfl) rfl ?_
  refine go_ifb_ne (pc := 4) (tgt := 10) dX7_notChoose_4 (by decide) (fun c3 => ?_) (fun c3 => ?_)
  · rw [if_pos c3] at h
    refine go_aload_n (pc := 10) dX7_notChoose_10 rfl rfl ?_
    refine go_iload_n (pc := 11) dX7_notChoose_11 rfl rfl ?_
    obtain ⟨v4, hv5, h⟩ := fm_bind h
    refine go_callVi (pc := 12) (As := [.int x1]) (st := []) dX7_notChoose_12 (c_X7_brotherIn   _ _ hv5) (by decide) ce_X7_brotherIn ml_X7_122 in_X7_brotherIn se_X7_brotherIn cl_X7 rfl rfl (Nat.le_of_ble_eq_true rfl) rfl ?_
    refine go_if_lt (pc := 15) (tgt := 29) dX7_notChoose_15 (by decide) (fun c6 => ?_) (fun c6 => ?_)
    · rw [if_pos c6] at h
      refine go_aload_n (pc := 29) dX7_notChoose_29 rfl rfl ?_
      refine go_iconst (pc := 30) (v := (0 : Int32)) dX7_notChoose_30 (by decide) ?_
      obtain ⟨v7, hv8, h⟩ := fm_bind h
      refine go_callVi (pc := 31) (As := [.int (0 : Int32)]) (st := []) dX7_notChoose_31 (c_X7_brethrenThat   _ _ hv8) (by decide) ce_X7_brethrenThat ml_X7_104 in_X7_brethrenThat se_X7_brethrenThat cl_X7 rfl rfl (Nat.le_of_ble_eq_true rfl) rfl ?_
      refine go_if_ne (pc := 34) (tgt := 47) dX7_notChoose_34 (by decide) (fun c9 => ?_) (fun c9 => ?_)
      · rw [if_neg c9] at h
        refine go_iconst (pc := 47) (v := (0 : Int32)) dX7_notChoose_47 (by decide) ?_
        obtain rfl := Option.some.inj h
        exact go_iret (pc := 48) .int dX7_notChoose_48 rfl rfl ⟨rfl, rfl⟩
      · rw [if_pos c9] at h
        refine go_aload_n (pc := 37) dX7_notChoose_37 rfl rfl ?_
        refine go_bipush (pc := 38) (v := (6 : Int32)) dX7_notChoose_38 (by decide) ?_
        refine go_iload_n (pc := 40) dX7_notChoose_40 rfl rfl ?_
        obtain ⟨v10, hv11, h⟩ := fm_bind h
        refine go_callVi (pc := 41) (As := [.int (6 : Int32), .int x1]) (st := []) dX7_notChoose_41 (c_X7_isNot   _ _ _ hv11) (by decide) ce_X7_isNot ml_X7_84 in_X7_isNot se_X7_isNot cl_X7 rfl rfl (Nat.le_of_ble_eq_true rfl) rfl ?_
        refine go_goto (pc := 44) (tgt := 48) dX7_notChoose_44 (by decide) ?_
        obtain rfl := Option.some.inj h
        exact go_iret (pc := 48) .int dX7_notChoose_48 rfl rfl ⟨rfl, rfl⟩
    · rw [if_neg c6] at h
      refine go_aload_n (pc := 18) dX7_notChoose_18 rfl rfl ?_
      refine go_iconst (pc := 19) (v := (5 : Int32)) dX7_notChoose_19 (by decide) ?_
      refine go_aload_n (pc := 20) dX7_notChoose_20 rfl rfl ?_
      refine go_iload_n (pc := 21) dX7_notChoose_21 rfl rfl ?_
      obtain ⟨v12, hv13, h⟩ := fm_bind h
      refine go_callVi (pc := 22) (As := [.int x1]) (st := [.int (5 : Int32), .ref 23]) dX7_notChoose_22 (c_X7_brotherIn   _ _ hv13) (by decide) ce_X7_brotherIn ml_X7_122 in_X7_brotherIn se_X7_brotherIn cl_X7 rfl rfl (Nat.le_of_ble_eq_true rfl) rfl ?_
      obtain ⟨v14, hv15, h⟩ := fm_bind h
      refine go_callVi (pc := 25) (As := [.int (5 : Int32), .int v12]) (st := []) dX7_notChoose_25 (c_X7_isNot   _ _ _ hv15) (by decide) ce_X7_isNot ml_X7_84 in_X7_isNot se_X7_isNot cl_X7 rfl rfl (Nat.le_of_ble_eq_true rfl) rfl ?_
      obtain rfl := Option.some.inj h
      exact go_iret (pc := 28) .int dX7_notChoose_28 rfl rfl ⟨rfl, rfl⟩
  · rw [if_neg (by rw [c3]; decide)] at h
    refine go_bipush (pc := 7) (v := (-11 : Int32)) dX7_notChoose_7 (by decide) ?_
    obtain rfl := Option.some.inj h
    exact go_iret (pc := 9) .int dX7_notChoose_9 rfl rfl ⟨rfl, rfl⟩
def f_X7_chooses (x1 : Int32) (m : fm_M) : Option (Int32 × fm_M) :=
  (f_X7_rankedAt (0 : Int32) m).bind fun v1 => (f_X7_becomes v1 (1 : Int32) m).bind fun v3 => (f_X7_sets v1 (3 : Int32) x1 v3).bind fun v5 => (f_X7_sets v1 (4 : Int32) (0 : Int32) v5).bind fun v7 => (f_X7_stamps v1 v7).bind fun v9 => some (v1, v9)
set_option maxRecDepth 100000 in
set_option maxHeartbeats 4000000 in
theorem c_X7_chooses (x1 : Int32) (m : fm_M) {res : Int32 × fm_M} (h : f_X7_chooses x1 m = some res) : fm_Met fm_layW 5 m_X7_chooses [.ref 23, .int x1] m (fm_pi res.1 res.2) := by
  refine fm_Met_of (ls := [some (.ref 23), some (.int x1), none]) (by decide) rfl (fm_cc_r _ (fm_cc_i _ fm_cc_0)) (Nat.le_of_ble_eq_true rfl) rfl ?_
  unfold f_X7_chooses at h
  refine go_aload_n (pc := 0) dX7_chooses_0 rfl rfl ?_
  refine go_iconst (pc := 1) (v := (0 : Int32)) dX7_chooses_1 (by decide) ?_
  obtain ⟨v1, hv2, h⟩ := fm_bind h
  refine go_callVi (pc := 2) (As := [.int (0 : Int32)]) (st := []) dX7_chooses_2 (c_X7_rankedAt   _ _ hv2) (by decide) ce_X7_rankedAt ml_X7_125 in_X7_rankedAt se_X7_rankedAt cl_X7 rfl rfl (Nat.le_of_ble_eq_true rfl) rfl ?_
  refine go_istore_n (pc := 5) (ls1 := [some (.ref 23), some (.int x1), some (.int v1)]) dX7_chooses_5 rfl (by decide) rfl ?_
  refine go_aload_n (pc := 6) dX7_chooses_6 rfl rfl ?_
  refine go_iload_n (pc := 7) dX7_chooses_7 rfl rfl ?_
  refine go_iconst (pc := 8) (v := (1 : Int32)) dX7_chooses_8 (by decide) ?_
  obtain ⟨v3, hv4, h⟩ := fm_bind h
  refine go_callVv (pc := 9) (As := [.int v1, .int (1 : Int32)]) (st := []) dX7_chooses_9 (c_X7_becomes   _ _ _ hv4) (by decide) ce_X7_becomes ml_X7_100 in_X7_becomes se_X7_becomes cl_X7 rfl rfl (Nat.le_of_ble_eq_true rfl) rfl ?_
  refine go_aload_n (pc := 12) dX7_chooses_12 rfl rfl ?_
  refine go_iload_n (pc := 13) dX7_chooses_13 rfl rfl ?_
  refine go_iconst (pc := 14) (v := (3 : Int32)) dX7_chooses_14 (by decide) ?_
  refine go_iload_n (pc := 15) dX7_chooses_15 rfl rfl ?_
  obtain ⟨v5, hv6, h⟩ := fm_bind h
  refine go_callVv (pc := 16) (As := [.int v1, .int (3 : Int32), .int x1]) (st := []) dX7_chooses_16 (c_X7_sets   _ _ _ _ hv6) (by decide) ce_X7_sets ml_X7_76 in_X7_sets se_X7_sets cl_X7 rfl rfl (Nat.le_of_ble_eq_true rfl) rfl ?_
  refine go_aload_n (pc := 19) dX7_chooses_19 rfl rfl ?_
  refine go_iload_n (pc := 20) dX7_chooses_20 rfl rfl ?_
  refine go_iconst (pc := 21) (v := (4 : Int32)) dX7_chooses_21 (by decide) ?_
  refine go_iconst (pc := 22) (v := (0 : Int32)) dX7_chooses_22 (by decide) ?_
  obtain ⟨v7, hv8, h⟩ := fm_bind h
  refine go_callVv (pc := 23) (As := [.int v1, .int (4 : Int32), .int (0 : Int32)]) (st := []) dX7_chooses_23 (c_X7_sets   _ _ _ _ hv8) (by decide) ce_X7_sets ml_X7_76 in_X7_sets se_X7_sets cl_X7 rfl rfl (Nat.le_of_ble_eq_true rfl) rfl ?_
  refine go_aload_n (pc := 26) dX7_chooses_26 rfl rfl ?_
  refine go_iload_n (pc := 27) dX7_chooses_27 rfl rfl ?_
  obtain ⟨v9, hv10, h⟩ := fm_bind h
  refine go_callVv (pc := 28) (As := [.int v1]) (st := []) dX7_chooses_28 (c_X7_stamps   _ _ hv10) (by decide) ce_X7_stamps ml_X7_93 in_X7_stamps se_X7_stamps cl_X7 rfl rfl (Nat.le_of_ble_eq_true rfl) rfl ?_
  refine go_iload_n (pc := 31) dX7_chooses_31 rfl rfl ?_
  obtain rfl := Option.some.inj h
  exact go_iret (pc := 32) .int dX7_chooses_32 rfl rfl ⟨rfl, rfl⟩
def f_X7_choose (x1 : Int32) (m : fm_M) : Option (Int32 × fm_M) :=
  (f_X7_notChoose x1 m).bind fun v1 => if v1.1 = 0 then ((f_X7_remembers v1.2).bind fun v4 => (f_X7_chooses x1 v4).bind fun v6 => some (v6.1, v6.2)) else ((f_X7_refuses v1.1 v1.2).bind fun v8 => some (v8.1, v8.2))
set_option maxRecDepth 100000 in
set_option maxHeartbeats 4000000 in
theorem c_X7_choose (x1 : Int32) (m : fm_M) {res : Int32 × fm_M} (h : f_X7_choose x1 m = some res) : fm_Met fm_layW 6 m_X7_choose [.ref 23, .int x1] m (fm_pi res.1 res.2) := by
  refine fm_Met_of (ls := [some (.ref 23), some (.int x1), none]) (by decide) rfl (fm_cc_r _ (fm_cc_i _ fm_cc_0)) (Nat.le_of_ble_eq_true rfl) rfl ?_
  unfold f_X7_choose at h
  refine go_aload_n (pc := 0) dX7_choose_0 rfl rfl ?_
  refine go_iload_n (pc := 1) dX7_choose_1 rfl rfl ?_
  obtain ⟨v1, hv2, h⟩ := fm_bind h
  refine go_callVi (pc := 2) (As := [.int x1]) (st := []) dX7_choose_2 (c_X7_notChoose   _ _ hv2) (by decide) ce_X7_notChoose ml_X7_128 in_X7_notChoose se_X7_notChoose cl_X7 rfl rfl (Nat.le_of_ble_eq_true rfl) rfl ?_
  refine go_istore_n (pc := 5) (ls1 := [some (.ref 23), some (.int x1), some (.int v1.1)]) dX7_choose_5 rfl (by decide) rfl ?_
  refine go_iload_n (pc := 6) dX7_choose_6 rfl rfl ?_
  refine go_if_eq (pc := 7) (tgt := 16) dX7_choose_7 (by decide) (fun c3 => ?_) (fun c3 => ?_)
  · rw [if_pos c3] at h
    refine go_aload_n (pc := 16) dX7_choose_16 rfl rfl ?_
    obtain ⟨v4, hv5, h⟩ := fm_bind h
    refine go_callVv (pc := 17) (As := []) (st := []) dX7_choose_17 (c_X7_remembers   _ hv5) (by decide) ce_X7_remembers ml_X7_90 in_X7_remembers se_X7_remembers cl_X7 rfl rfl (Nat.le_of_ble_eq_true rfl) rfl ?_
    refine go_aload_n (pc := 20) dX7_choose_20 rfl rfl ?_
    refine go_iload_n (pc := 21) dX7_choose_21 rfl rfl ?_
    obtain ⟨v6, hv7, h⟩ := fm_bind h
    refine go_callVi (pc := 22) (As := [.int x1]) (st := []) dX7_choose_22 (c_X7_chooses   _ _ hv7) (by decide) ce_X7_chooses ml_X7_131 in_X7_chooses se_X7_chooses cl_X7 rfl rfl (Nat.le_of_ble_eq_true rfl) rfl ?_
    obtain rfl := Option.some.inj h
    exact go_iret (pc := 25) .int dX7_choose_25 rfl rfl ⟨rfl, rfl⟩
  · rw [if_neg c3] at h
    refine go_aload_n (pc := 10) dX7_choose_10 rfl rfl ?_
    refine go_iload_n (pc := 11) dX7_choose_11 rfl rfl ?_
    obtain ⟨v8, hv9, h⟩ := fm_bind h
    refine go_callVi (pc := 12) (As := [.int v1.1]) (st := []) dX7_choose_12 (c_X7_refuses   _ _ hv9) (by decide) ce_X7_refuses ml_X7_87 in_X7_refuses se_X7_refuses cl_X7 rfl rfl (Nat.le_of_ble_eq_true rfl) rfl ?_
    obtain rfl := Option.some.inj h
    exact go_iret (pc := 15) .int dX7_choose_15 rfl rfl ⟨rfl, rfl⟩
def f_X7_notLeave (x1 : Int32) (m : fm_M) : Option (Int32 × fm_M) :=
  (f_X7_isCell x1 m).bind fun v1 => if v1 = true then ((f_X7_brotherIn x1 m).bind fun v4 => if 0 ≤ v4 then (some ((0 : Int32), m)) else ((f_X7_isNot (7 : Int32) x1 m).bind fun v7 => some (v7.1, v7.2))) else (some ((-11 : Int32), m))
set_option maxRecDepth 100000 in
set_option maxHeartbeats 4000000 in
theorem c_X7_notLeave (x1 : Int32) (m : fm_M) {res : Int32 × fm_M} (h : f_X7_notLeave x1 m = some res) : fm_Met fm_layW 3 m_X7_notLeave [.ref 23, .int x1] m (fm_pi res.1 res.2) := by
  refine fm_Met_of (ls := [some (.ref 23), some (.int x1)]) (by decide) rfl (fm_cc_r _ (fm_cc_i _ fm_cc_0)) (Nat.le_of_ble_eq_true rfl) rfl ?_
  unfold f_X7_notLeave at h
  refine go_iload_n (pc := 0) dX7_notLeave_0 rfl rfl ?_
  obtain ⟨v1, hv2, h⟩ := fm_bind h
  refine go_callSi (pc := 1) (As := [.int x1]) (st := []) dX7_notLeave_1 (c_X7_isCell   _ _ hv2) (by decide) ce_X7_isCell ml_X7_119 st_X7_isCell rfl (Nat.le_of_ble_eq_true rfl) rfl ?_
  refine go_ifb_ne (pc := 4) (tgt := 10) dX7_notLeave_4 (by decide) (fun c3 => ?_) (fun c3 => ?_)
  · rw [if_pos c3] at h
    refine go_aload_n (pc := 10) dX7_notLeave_10 rfl rfl ?_
    refine go_iload_n (pc := 11) dX7_notLeave_11 rfl rfl ?_
    obtain ⟨v4, hv5, h⟩ := fm_bind h
    refine go_callVi (pc := 12) (As := [.int x1]) (st := []) dX7_notLeave_12 (c_X7_brotherIn   _ _ hv5) (by decide) ce_X7_brotherIn ml_X7_122 in_X7_brotherIn se_X7_brotherIn cl_X7 rfl rfl (Nat.le_of_ble_eq_true rfl) rfl ?_
    refine go_if_ge (pc := 15) (tgt := 28) dX7_notLeave_15 (by decide) (fun c6 => ?_) (fun c6 => ?_)
    · rw [if_pos c6] at h
      refine go_iconst (pc := 28) (v := (0 : Int32)) dX7_notLeave_28 (by decide) ?_
      obtain rfl := Option.some.inj h
      exact go_iret (pc := 29) .int dX7_notLeave_29 rfl rfl ⟨rfl, rfl⟩
    · rw [if_neg c6] at h
      refine go_aload_n (pc := 18) dX7_notLeave_18 rfl rfl ?_
      refine go_bipush (pc := 19) (v := (7 : Int32)) dX7_notLeave_19 (by decide) ?_
      refine go_iload_n (pc := 21) dX7_notLeave_21 rfl rfl ?_
      obtain ⟨v7, hv8, h⟩ := fm_bind h
      refine go_callVi (pc := 22) (As := [.int (7 : Int32), .int x1]) (st := []) dX7_notLeave_22 (c_X7_isNot   _ _ _ hv8) (by decide) ce_X7_isNot ml_X7_84 in_X7_isNot se_X7_isNot cl_X7 rfl rfl (Nat.le_of_ble_eq_true rfl) rfl ?_
      refine go_goto (pc := 25) (tgt := 29) dX7_notLeave_25 (by decide) ?_
      obtain rfl := Option.some.inj h
      exact go_iret (pc := 29) .int dX7_notLeave_29 rfl rfl ⟨rfl, rfl⟩
  · rw [if_neg (by rw [c3]; decide)] at h
    refine go_bipush (pc := 7) (v := (-11 : Int32)) dX7_notLeave_7 (by decide) ?_
    obtain rfl := Option.some.inj h
    exact go_iret (pc := 9) .int dX7_notLeave_9 rfl rfl ⟨rfl, rfl⟩
def f_X7_leaves (x1 : Int32) (m : fm_M) : Option (Int32 × fm_M) :=
  (f_X7_brotherIn x1 m).bind fun v1 => (f_X7_becomes v1 (3 : Int32) m).bind fun v3 => some (v1, v3)
set_option maxRecDepth 100000 in
set_option maxHeartbeats 4000000 in
theorem c_X7_leaves (x1 : Int32) (m : fm_M) {res : Int32 × fm_M} (h : f_X7_leaves x1 m = some res) : fm_Met fm_layW 4 m_X7_leaves [.ref 23, .int x1] m (fm_pi res.1 res.2) := by
  refine fm_Met_of (ls := [some (.ref 23), some (.int x1), none]) (by decide) rfl (fm_cc_r _ (fm_cc_i _ fm_cc_0)) (Nat.le_of_ble_eq_true rfl) rfl ?_
  unfold f_X7_leaves at h
  refine go_aload_n (pc := 0) dX7_leaves_0 rfl rfl ?_
  refine go_iload_n (pc := 1) dX7_leaves_1 rfl rfl ?_
  obtain ⟨v1, hv2, h⟩ := fm_bind h
  refine go_callVi (pc := 2) (As := [.int x1]) (st := []) dX7_leaves_2 (c_X7_brotherIn   _ _ hv2) (by decide) ce_X7_brotherIn ml_X7_122 in_X7_brotherIn se_X7_brotherIn cl_X7 rfl rfl (Nat.le_of_ble_eq_true rfl) rfl ?_
  refine go_istore_n (pc := 5) (ls1 := [some (.ref 23), some (.int x1), some (.int v1)]) dX7_leaves_5 rfl (by decide) rfl ?_
  refine go_aload_n (pc := 6) dX7_leaves_6 rfl rfl ?_
  refine go_iload_n (pc := 7) dX7_leaves_7 rfl rfl ?_
  refine go_iconst (pc := 8) (v := (3 : Int32)) dX7_leaves_8 (by decide) ?_
  obtain ⟨v3, hv4, h⟩ := fm_bind h
  refine go_callVv (pc := 9) (As := [.int v1, .int (3 : Int32)]) (st := []) dX7_leaves_9 (c_X7_becomes   _ _ _ hv4) (by decide) ce_X7_becomes ml_X7_100 in_X7_becomes se_X7_becomes cl_X7 rfl rfl (Nat.le_of_ble_eq_true rfl) rfl ?_
  refine go_iload_n (pc := 12) dX7_leaves_12 rfl rfl ?_
  obtain rfl := Option.some.inj h
  exact go_iret (pc := 13) .int dX7_leaves_13 rfl rfl ⟨rfl, rfl⟩
def f_X7_leave (x1 : Int32) (m : fm_M) : Option (Int32 × fm_M) :=
  (f_X7_notLeave x1 m).bind fun v1 => if v1.1 = 0 then ((f_X7_remembers v1.2).bind fun v4 => (f_X7_leaves x1 v4).bind fun v6 => some (v6.1, v6.2)) else ((f_X7_refuses v1.1 v1.2).bind fun v8 => some (v8.1, v8.2))
set_option maxRecDepth 100000 in
set_option maxHeartbeats 4000000 in
theorem c_X7_leave (x1 : Int32) (m : fm_M) {res : Int32 × fm_M} (h : f_X7_leave x1 m = some res) : fm_Met fm_layW 5 m_X7_leave [.ref 23, .int x1] m (fm_pi res.1 res.2) := by
  refine fm_Met_of (ls := [some (.ref 23), some (.int x1), none]) (by decide) rfl (fm_cc_r _ (fm_cc_i _ fm_cc_0)) (Nat.le_of_ble_eq_true rfl) rfl ?_
  unfold f_X7_leave at h
  refine go_aload_n (pc := 0) dX7_leave_0 rfl rfl ?_
  refine go_iload_n (pc := 1) dX7_leave_1 rfl rfl ?_
  obtain ⟨v1, hv2, h⟩ := fm_bind h
  refine go_callVi (pc := 2) (As := [.int x1]) (st := []) dX7_leave_2 (c_X7_notLeave   _ _ hv2) (by decide) ce_X7_notLeave ml_X7_134 in_X7_notLeave se_X7_notLeave cl_X7 rfl rfl (Nat.le_of_ble_eq_true rfl) rfl ?_
  refine go_istore_n (pc := 5) (ls1 := [some (.ref 23), some (.int x1), some (.int v1.1)]) dX7_leave_5 rfl (by decide) rfl ?_
  refine go_iload_n (pc := 6) dX7_leave_6 rfl rfl ?_
  refine go_if_eq (pc := 7) (tgt := 16) dX7_leave_7 (by decide) (fun c3 => ?_) (fun c3 => ?_)
  · rw [if_pos c3] at h
    refine go_aload_n (pc := 16) dX7_leave_16 rfl rfl ?_
    obtain ⟨v4, hv5, h⟩ := fm_bind h
    refine go_callVv (pc := 17) (As := []) (st := []) dX7_leave_17 (c_X7_remembers   _ hv5) (by decide) ce_X7_remembers ml_X7_90 in_X7_remembers se_X7_remembers cl_X7 rfl rfl (Nat.le_of_ble_eq_true rfl) rfl ?_
    refine go_aload_n (pc := 20) dX7_leave_20 rfl rfl ?_
    refine go_iload_n (pc := 21) dX7_leave_21 rfl rfl ?_
    obtain ⟨v6, hv7, h⟩ := fm_bind h
    refine go_callVi (pc := 22) (As := [.int x1]) (st := []) dX7_leave_22 (c_X7_leaves   _ _ hv7) (by decide) ce_X7_leaves ml_X7_137 in_X7_leaves se_X7_leaves cl_X7 rfl rfl (Nat.le_of_ble_eq_true rfl) rfl ?_
    obtain rfl := Option.some.inj h
    exact go_iret (pc := 25) .int dX7_leave_25 rfl rfl ⟨rfl, rfl⟩
  · rw [if_neg c3] at h
    refine go_aload_n (pc := 10) dX7_leave_10 rfl rfl ?_
    refine go_iload_n (pc := 11) dX7_leave_11 rfl rfl ?_
    obtain ⟨v8, hv9, h⟩ := fm_bind h
    refine go_callVi (pc := 12) (As := [.int v1.1]) (st := []) dX7_leave_12 (c_X7_refuses   _ _ hv9) (by decide) ce_X7_refuses ml_X7_87 in_X7_refuses se_X7_refuses cl_X7 rfl rfl (Nat.le_of_ble_eq_true rfl) rfl ?_
    obtain rfl := Option.some.inj h
    exact go_iret (pc := 15) .int dX7_leave_15 rfl rfl ⟨rfl, rfl⟩
def f_X7_notFeast (x1 : Int32) (x2 : Int32) (m : fm_M) : Option (Int32 × fm_M) :=
  (f_X7_isBetween x1 (0 : Int32) (51 : Int32) m).bind fun v1 => if v1 = true then ((f_X7_isBetween x2 (1 : Int32) (9 : Int32) m).bind fun v4 => if v4 = true then (if fm_in ((12 : Int32) + x1) 320 = true then (if (m 24 ((12 : Int32) + x1).toNatClampNeg) = 0 then (if fm_in (9 : Int32) 320 = true then (if (m 24 (9 : Int32).toNatClampNeg) = (6 : Int32) then ((f_X7_isNot (8 : Int32) (6 : Int32) m).bind fun v11 => some (v11.1, v11.2)) else (some ((0 : Int32), m))) else none) else (some ((0 : Int32), m))) else none) else (some ((-12 : Int32), m))) else (some ((-12 : Int32), m))
set_option maxRecDepth 100000 in
set_option maxHeartbeats 4000000 in
theorem c_X7_notFeast (x1 : Int32) (x2 : Int32) (m : fm_M) {res : Int32 × fm_M} (h : f_X7_notFeast x1 x2 m = some res) : fm_Met fm_layW 1 m_X7_notFeast [.ref 23, .int x1, .int x2] m (fm_pi res.1 res.2) := by
  refine fm_Met_of (ls := [some (.ref 23), some (.int x1), some (.int x2)]) (by decide) rfl (fm_cc_r _ (fm_cc_i _ (fm_cc_i _ fm_cc_0))) (Nat.le_of_ble_eq_true rfl) rfl ?_
  unfold f_X7_notFeast at h
  refine go_iload_n (pc := 0) dX7_notFeast_0 rfl rfl ?_
  refine go_iconst (pc := 1) (v := (0 : Int32)) dX7_notFeast_1 (by decide) ?_
  refine go_bipush (pc := 2) (v := (51 : Int32)) dX7_notFeast_2 (by decide) ?_
  obtain ⟨v1, hv2, h⟩ := fm_bind h
  refine go_callSi (pc := 4) (As := [.int x1, .int (0 : Int32), .int (51 : Int32)]) (st := []) dX7_notFeast_4 (c_X7_isBetween   _ _ _ _ hv2) (by decide) ce_X7_isBetween ml_X7_60 st_X7_isBetween rfl (Nat.le_of_ble_eq_true rfl) rfl ?_
  refine go_ifb_eq (pc := 7) (tgt := 20) dX7_notFeast_7 (by decide) (fun c3 => ?_) (fun c3 => ?_)
  · rw [if_neg (by rw [c3]; decide)] at h
    refine go_bipush (pc := 20) (v := (-12 : Int32)) dX7_notFeast_20 (by decide) ?_
    obtain rfl := Option.some.inj h
    exact go_iret (pc := 22) .int dX7_notFeast_22 rfl rfl ⟨rfl, rfl⟩
  · rw [if_pos c3] at h
    refine go_iload_n (pc := 10) dX7_notFeast_10 rfl rfl ?_
    refine go_iconst (pc := 11) (v := (1 : Int32)) dX7_notFeast_11 (by decide) ?_
    refine go_bipush (pc := 12) (v := (9 : Int32)) dX7_notFeast_12 (by decide) ?_
    obtain ⟨v4, hv5, h⟩ := fm_bind h
    refine go_callSi (pc := 14) (As := [.int x2, .int (1 : Int32), .int (9 : Int32)]) (st := []) dX7_notFeast_14 (c_X7_isBetween   _ _ _ _ hv5) (by decide) ce_X7_isBetween ml_X7_60 st_X7_isBetween rfl (Nat.le_of_ble_eq_true rfl) rfl ?_
    refine go_ifb_ne (pc := 17) (tgt := 23) dX7_notFeast_17 (by decide) (fun c6 => ?_) (fun c6 => ?_)
    · rw [if_pos c6] at h
      refine go_aload_n (pc := 23) dX7_notFeast_23 rfl rfl ?_
      refine go_getR (pc := 24) (k := 4) (q2 := 24) dX7_notFeast_24 cl_X7 rfl rfl (by decide) lk_X7_7 ?_
      refine go_bipush (pc := 27) (v := (12 : Int32)) dX7_notFeast_27 (by decide) ?_
      refine go_iload_n (pc := 29) dX7_notFeast_29 rfl rfl ?_
      refine go_iadd (pc := 30) dX7_notFeast_30 ?_
      obtain ⟨hi7, h⟩ := fm_chk h
      refine go_iald (pc := 31) dX7_notFeast_31 rfl (fm_in_vp hi7) ?_
      refine go_if_ne (pc := 32) (tgt := 58) dX7_notFeast_32 (by decide) (fun c8 => ?_) (fun c8 => ?_)
      · rw [if_neg c8] at h
        refine go_iconst (pc := 58) (v := (0 : Int32)) dX7_notFeast_58 (by decide) ?_
        obtain rfl := Option.some.inj h
        exact go_iret (pc := 59) .int dX7_notFeast_59 rfl rfl ⟨rfl, rfl⟩
      · rw [if_pos c8] at h
        refine go_aload_n (pc := 35) dX7_notFeast_35 rfl rfl ?_
        refine go_getR (pc := 36) (k := 4) (q2 := 24) dX7_notFeast_36 cl_X7 rfl rfl (by decide) lk_X7_7 ?_
        refine go_bipush (pc := 39) (v := (9 : Int32)) dX7_notFeast_39 (by decide) ?_
        obtain ⟨hi9, h⟩ := fm_chk h
        refine go_iald (pc := 41) dX7_notFeast_41 rfl (fm_in_vp hi9) ?_
        refine go_bipush (pc := 42) (v := (6 : Int32)) dX7_notFeast_42 (by decide) ?_
        refine go_icmp_ne (pc := 44) (tgt := 58) dX7_notFeast_44 (by decide) (fun c10 => ?_) (fun c10 => ?_)
        · rw [if_neg c10] at h
          refine go_iconst (pc := 58) (v := (0 : Int32)) dX7_notFeast_58 (by decide) ?_
          obtain rfl := Option.some.inj h
          exact go_iret (pc := 59) .int dX7_notFeast_59 rfl rfl ⟨rfl, rfl⟩
        · rw [if_pos c10] at h
          refine go_aload_n (pc := 47) dX7_notFeast_47 rfl rfl ?_
          refine go_bipush (pc := 48) (v := (8 : Int32)) dX7_notFeast_48 (by decide) ?_
          refine go_bipush (pc := 50) (v := (6 : Int32)) dX7_notFeast_50 (by decide) ?_
          obtain ⟨v11, hv12, h⟩ := fm_bind h
          refine go_callVi (pc := 52) (As := [.int (8 : Int32), .int (6 : Int32)]) (st := []) dX7_notFeast_52 (c_X7_isNot   _ _ _ hv12) (by decide) ce_X7_isNot ml_X7_84 in_X7_isNot se_X7_isNot cl_X7 rfl rfl (Nat.le_of_ble_eq_true rfl) rfl ?_
          refine go_goto (pc := 55) (tgt := 59) dX7_notFeast_55 (by decide) ?_
          obtain rfl := Option.some.inj h
          exact go_iret (pc := 59) .int dX7_notFeast_59 rfl rfl ⟨rfl, rfl⟩
    · rw [if_neg (by rw [c6]; decide)] at h
      refine go_bipush (pc := 20) (v := (-12 : Int32)) dX7_notFeast_20 (by decide) ?_
      obtain rfl := Option.some.inj h
      exact go_iret (pc := 22) .int dX7_notFeast_22 rfl rfl ⟨rfl, rfl⟩
def f_X7_tells (x1 : Int32) (x2 : Int32) (m : fm_M) : Option (Int32 × fm_M) :=
  if fm_in ((12 : Int32) + x1) 320 = true then (if (m 24 ((12 : Int32) + x1).toNatClampNeg) = 0 then (if fm_in (9 : Int32) 320 = true then (if fm_in (9 : Int32) 320 = true then (if fm_in ((12 : Int32) + x1) 320 = true then (if fm_in (9 : Int32) 320 = true then (some (((fm_put (fm_put m 24 (9 : Int32).toNatClampNeg ((m 24 (9 : Int32).toNatClampNeg) + (1 : Int32))) 24 ((12 : Int32) + x1).toNatClampNeg x2) 24 (9 : Int32).toNatClampNeg), (fm_put (fm_put m 24 (9 : Int32).toNatClampNeg ((m 24 (9 : Int32).toNatClampNeg) + (1 : Int32))) 24 ((12 : Int32) + x1).toNatClampNeg x2))) else none) else none) else none) else none) else (if fm_in ((12 : Int32) + x1) 320 = true then (if fm_in (9 : Int32) 320 = true then (some (((fm_put m 24 ((12 : Int32) + x1).toNatClampNeg x2) 24 (9 : Int32).toNatClampNeg), (fm_put m 24 ((12 : Int32) + x1).toNatClampNeg x2))) else none) else none)) else none
set_option maxRecDepth 100000 in
set_option maxHeartbeats 4000000 in
theorem c_X7_tells (x1 : Int32) (x2 : Int32) (m : fm_M) {res : Int32 × fm_M} (h : f_X7_tells x1 x2 m = some res) : fm_Met fm_layW 0 m_X7_tells [.ref 23, .int x1, .int x2] m (fm_pi res.1 res.2) := by
  refine fm_Met_of (ls := [some (.ref 23), some (.int x1), some (.int x2)]) (by decide) rfl (fm_cc_r _ (fm_cc_i _ (fm_cc_i _ fm_cc_0))) (Nat.le_of_ble_eq_true rfl) rfl ?_
  unfold f_X7_tells at h
  refine go_aload_n (pc := 0) dX7_tells_0 rfl rfl ?_
  refine go_getR (pc := 1) (k := 4) (q2 := 24) dX7_tells_1 cl_X7 rfl rfl (by decide) lk_X7_7 ?_
  refine go_bipush (pc := 4) (v := (12 : Int32)) dX7_tells_4 (by decide) ?_
  refine go_iload_n (pc := 6) dX7_tells_6 rfl rfl ?_
  refine go_iadd (pc := 7) dX7_tells_7 ?_
  obtain ⟨hi1, h⟩ := fm_chk h
  refine go_iald (pc := 8) dX7_tells_8 rfl (fm_in_vp hi1) ?_
  refine go_if_ne (pc := 9) (tgt := 23) dX7_tells_9 (by decide) (fun c2 => ?_) (fun c2 => ?_)
  · rw [if_neg c2] at h
    refine go_aload_n (pc := 23) dX7_tells_23 rfl rfl ?_
    refine go_getR (pc := 24) (k := 4) (q2 := 24) dX7_tells_24 cl_X7 rfl rfl (by decide) lk_X7_7 ?_
    refine go_bipush (pc := 27) (v := (12 : Int32)) dX7_tells_27 (by decide) ?_
    refine go_iload_n (pc := 29) dX7_tells_29 rfl rfl ?_
    refine go_iadd (pc := 30) dX7_tells_30 ?_
    refine go_iload_n (pc := 31) dX7_tells_31 rfl rfl ?_
    obtain ⟨hi3, h⟩ := fm_chk h
    refine go_iast (pc := 32) dX7_tells_32 rfl (fm_in_vp hi3) ?_
    refine go_aload_n (pc := 33) dX7_tells_33 rfl rfl ?_
    refine go_getR (pc := 34) (k := 4) (q2 := 24) dX7_tells_34 cl_X7 rfl rfl (by decide) lk_X7_7 ?_
    refine go_bipush (pc := 37) (v := (9 : Int32)) dX7_tells_37 (by decide) ?_
    obtain ⟨hi4, h⟩ := fm_chk h
    refine go_iald (pc := 39) dX7_tells_39 rfl (fm_in_vp hi4) ?_
    obtain rfl := Option.some.inj h
    exact go_iret (pc := 40) .int dX7_tells_40 rfl rfl ⟨rfl, rfl⟩
  · rw [if_pos c2] at h
    refine go_aload_n (pc := 12) dX7_tells_12 rfl rfl ?_
    refine go_getR (pc := 13) (k := 4) (q2 := 24) dX7_tells_13 cl_X7 rfl rfl (by decide) lk_X7_7 ?_
    refine go_bipush (pc := 16) (v := (9 : Int32)) dX7_tells_16 (by decide) ?_
    refine go_dup2 (pc := 18) dX7_tells_18 rfl rfl ?_
    obtain ⟨hi5, h⟩ := fm_chk h
    refine go_iald (pc := 19) dX7_tells_19 rfl (fm_in_vp hi5) ?_
    refine go_iconst (pc := 20) (v := (1 : Int32)) dX7_tells_20 (by decide) ?_
    refine go_iadd (pc := 21) dX7_tells_21 ?_
    obtain ⟨hi6, h⟩ := fm_chk h
    refine go_iast (pc := 22) dX7_tells_22 rfl (fm_in_vp hi6) ?_
    refine go_aload_n (pc := 23) dX7_tells_23 rfl rfl ?_
    refine go_getR (pc := 24) (k := 4) (q2 := 24) dX7_tells_24 cl_X7 rfl rfl (by decide) lk_X7_7 ?_
    refine go_bipush (pc := 27) (v := (12 : Int32)) dX7_tells_27 (by decide) ?_
    refine go_iload_n (pc := 29) dX7_tells_29 rfl rfl ?_
    refine go_iadd (pc := 30) dX7_tells_30 ?_
    refine go_iload_n (pc := 31) dX7_tells_31 rfl rfl ?_
    obtain ⟨hi7, h⟩ := fm_chk h
    refine go_iast (pc := 32) dX7_tells_32 rfl (fm_in_vp hi7) ?_
    refine go_aload_n (pc := 33) dX7_tells_33 rfl rfl ?_
    refine go_getR (pc := 34) (k := 4) (q2 := 24) dX7_tells_34 cl_X7 rfl rfl (by decide) lk_X7_7 ?_
    refine go_bipush (pc := 37) (v := (9 : Int32)) dX7_tells_37 (by decide) ?_
    obtain ⟨hi8, h⟩ := fm_chk h
    refine go_iald (pc := 39) dX7_tells_39 rfl (fm_in_vp hi8) ?_
    obtain rfl := Option.some.inj h
    exact go_iret (pc := 40) .int dX7_tells_40 rfl rfl ⟨rfl, rfl⟩
def f_X7_feast (x1 : Int32) (x2 : Int32) (m : fm_M) : Option (Int32 × fm_M) :=
  (f_X7_notFeast x1 x2 m).bind fun v1 => if v1.1 = 0 then ((f_X7_remembers v1.2).bind fun v4 => (f_X7_tells x1 x2 v4).bind fun v6 => some (v6.1, v6.2)) else ((f_X7_refuses v1.1 v1.2).bind fun v8 => some (v8.1, v8.2))
set_option maxRecDepth 100000 in
set_option maxHeartbeats 4000000 in
theorem c_X7_feast (x1 : Int32) (x2 : Int32) (m : fm_M) {res : Int32 × fm_M} (h : f_X7_feast x1 x2 m = some res) : fm_Met fm_layW 2 m_X7_feast [.ref 23, .int x1, .int x2] m (fm_pi res.1 res.2) := by
  refine fm_Met_of (ls := [some (.ref 23), some (.int x1), some (.int x2), none]) (by decide) rfl (fm_cc_r _ (fm_cc_i _ (fm_cc_i _ fm_cc_0))) (Nat.le_of_ble_eq_true rfl) rfl ?_
  unfold f_X7_feast at h
  refine go_aload_n (pc := 0) dX7_feast_0 rfl rfl ?_
  refine go_iload_n (pc := 1) dX7_feast_1 rfl rfl ?_
  refine go_iload_n (pc := 2) dX7_feast_2 rfl rfl ?_
  obtain ⟨v1, hv2, h⟩ := fm_bind h
  refine go_callVi (pc := 3) (As := [.int x1, .int x2]) (st := []) dX7_feast_3 (c_X7_notFeast   _ _ _ hv2) (by decide) ce_X7_notFeast ml_X7_140 in_X7_notFeast se_X7_notFeast cl_X7 rfl rfl (Nat.le_of_ble_eq_true rfl) rfl ?_
  refine go_istore_n (pc := 6) (ls1 := [some (.ref 23), some (.int x1), some (.int x2), some (.int v1.1)]) dX7_feast_6 rfl (by decide) rfl ?_
  refine go_iload_n (pc := 7) dX7_feast_7 rfl rfl ?_
  refine go_if_eq (pc := 8) (tgt := 17) dX7_feast_8 (by decide) (fun c3 => ?_) (fun c3 => ?_)
  · rw [if_pos c3] at h
    refine go_aload_n (pc := 17) dX7_feast_17 rfl rfl ?_
    obtain ⟨v4, hv5, h⟩ := fm_bind h
    refine go_callVv (pc := 18) (As := []) (st := []) dX7_feast_18 (c_X7_remembers   _ hv5) (by decide) ce_X7_remembers ml_X7_90 in_X7_remembers se_X7_remembers cl_X7 rfl rfl (Nat.le_of_ble_eq_true rfl) rfl ?_
    refine go_aload_n (pc := 21) dX7_feast_21 rfl rfl ?_
    refine go_iload_n (pc := 22) dX7_feast_22 rfl rfl ?_
    refine go_iload_n (pc := 23) dX7_feast_23 rfl rfl ?_
    obtain ⟨v6, hv7, h⟩ := fm_bind h
    refine go_callVi (pc := 24) (As := [.int x1, .int x2]) (st := []) dX7_feast_24 (c_X7_tells   _ _ _ hv7) (by decide) ce_X7_tells ml_X7_143 in_X7_tells se_X7_tells cl_X7 rfl rfl (Nat.le_of_ble_eq_true rfl) rfl ?_
    obtain rfl := Option.some.inj h
    exact go_iret (pc := 27) .int dX7_feast_27 rfl rfl ⟨rfl, rfl⟩
  · rw [if_neg c3] at h
    refine go_aload_n (pc := 11) dX7_feast_11 rfl rfl ?_
    refine go_iload_n (pc := 12) dX7_feast_12 rfl rfl ?_
    obtain ⟨v8, hv9, h⟩ := fm_bind h
    refine go_callVi (pc := 13) (As := [.int v1.1]) (st := []) dX7_feast_13 (c_X7_refuses   _ _ hv9) (by decide) ce_X7_refuses ml_X7_87 in_X7_refuses se_X7_refuses cl_X7 rfl rfl (Nat.le_of_ble_eq_true rfl) rfl ?_
    obtain rfl := Option.some.inj h
    exact go_iret (pc := 16) .int dX7_feast_16 rfl rfl ⟨rfl, rfl⟩
def f_X7_notBreach (x1 : Int32) (x2 : Int32) (m : fm_M) : Option (Int32 × fm_M) :=
  (f_X7_isBrother x1 m).bind fun v1 => if v1 = true then ((f_X7_isBetween x2 (0 : Int32) (4 : Int32) m).bind fun v4 => if v4 = true then ((f_X7_isSo x1 (1 : Int32) m).bind fun v7 => if v7 = true then (some ((0 : Int32), m)) else ((f_X7_of x1 (2 : Int32) m).bind fun v10 => (f_X7_isNot (3 : Int32) v10 m).bind fun v12 => some (v12.1, v12.2))) else (some ((-11 : Int32), m))) else (some ((-11 : Int32), m))
set_option maxRecDepth 100000 in
set_option maxHeartbeats 4000000 in
theorem c_X7_notBreach (x1 : Int32) (x2 : Int32) (m : fm_M) {res : Int32 × fm_M} (h : f_X7_notBreach x1 x2 m = some res) : fm_Met fm_layW 2 m_X7_notBreach [.ref 23, .int x1, .int x2] m (fm_pi res.1 res.2) := by
  refine fm_Met_of (ls := [some (.ref 23), some (.int x1), some (.int x2)]) (by decide) rfl (fm_cc_r _ (fm_cc_i _ (fm_cc_i _ fm_cc_0))) (Nat.le_of_ble_eq_true rfl) rfl ?_
  unfold f_X7_notBreach at h
  refine go_aload_n (pc := 0) dX7_notBreach_0 rfl rfl ?_
  refine go_iload_n (pc := 1) dX7_notBreach_1 rfl rfl ?_
  obtain ⟨v1, hv2, h⟩ := fm_bind h
  refine go_callVi (pc := 2) (As := [.int x1]) (st := []) dX7_notBreach_2 (c_X7_isBrother   _ _ hv2) (by decide) ce_X7_isBrother ml_X7_96 in_X7_isBrother se_X7_isBrother cl_X7 rfl rfl (Nat.le_of_ble_eq_true rfl) rfl ?_
  refine go_ifb_eq (pc := 5) (tgt := 17) dX7_notBreach_5 (by decide) (fun c3 => ?_) (fun c3 => ?_)
  · rw [if_neg (by rw [c3]; decide)] at h
    refine go_bipush (pc := 17) (v := (-11 : Int32)) dX7_notBreach_17 (by decide) ?_
    obtain rfl := Option.some.inj h
    exact go_iret (pc := 19) .int dX7_notBreach_19 rfl rfl ⟨rfl, rfl⟩
  · rw [if_pos c3] at h
    refine go_iload_n (pc := 8) dX7_notBreach_8 rfl rfl ?_
    refine go_iconst (pc := 9) (v := (0 : Int32)) dX7_notBreach_9 (by decide) ?_
    refine go_iconst (pc := 10) (v := (4 : Int32)) dX7_notBreach_10 (by decide) ?_
    obtain ⟨v4, hv5, h⟩ := fm_bind h
    refine go_callSi (pc := 11) (As := [.int x2, .int (0 : Int32), .int (4 : Int32)]) (st := []) dX7_notBreach_11 (c_X7_isBetween   _ _ _ _ hv5) (by decide) ce_X7_isBetween ml_X7_60 st_X7_isBetween rfl (Nat.le_of_ble_eq_true rfl) rfl ?_
    refine go_ifb_ne (pc := 14) (tgt := 20) dX7_notBreach_14 (by decide) (fun c6 => ?_) (fun c6 => ?_)
    · rw [if_pos c6] at h
      refine go_aload_n (pc := 20) dX7_notBreach_20 rfl rfl ?_
      refine go_iload_n (pc := 21) dX7_notBreach_21 rfl rfl ?_
      refine go_iconst (pc := 22) (v := (1 : Int32)) dX7_notBreach_22 (by decide) ?_
      obtain ⟨v7, hv8, h⟩ := fm_bind h
      refine go_callVi (pc := 23) (As := [.int x1, .int (1 : Int32)]) (st := []) dX7_notBreach_23 (c_X7_isSo   _ _ _ hv8) (by decide) ce_X7_isSo ml_X7_68 in_X7_isSo se_X7_isSo cl_X7 rfl rfl (Nat.le_of_ble_eq_true rfl) rfl ?_
      refine go_ifb_eq (pc := 26) (tgt := 33) dX7_notBreach_26 (by decide) (fun c9 => ?_) (fun c9 => ?_)
      · rw [if_neg (by rw [c9]; decide)] at h
        refine go_aload_n (pc := 33) dX7_notBreach_33 rfl rfl ?_
        refine go_iconst (pc := 34) (v := (3 : Int32)) dX7_notBreach_34 (by decide) ?_
        refine go_aload_n (pc := 35) dX7_notBreach_35 rfl rfl ?_
        refine go_iload_n (pc := 36) dX7_notBreach_36 rfl rfl ?_
        refine go_iconst (pc := 37) (v := (2 : Int32)) dX7_notBreach_37 (by decide) ?_
        obtain ⟨v10, hv11, h⟩ := fm_bind h
        refine go_callVi (pc := 38) (As := [.int x1, .int (2 : Int32)]) (st := [.int (3 : Int32), .ref 23]) dX7_notBreach_38 (c_X7_of   _ _ _ hv11) (by decide) ce_X7_of ml_X7_64 in_X7_of se_X7_of cl_X7 rfl rfl (Nat.le_of_ble_eq_true rfl) rfl ?_
        obtain ⟨v12, hv13, h⟩ := fm_bind h
        refine go_callVi (pc := 41) (As := [.int (3 : Int32), .int v10]) (st := []) dX7_notBreach_41 (c_X7_isNot   _ _ _ hv13) (by decide) ce_X7_isNot ml_X7_84 in_X7_isNot se_X7_isNot cl_X7 rfl rfl (Nat.le_of_ble_eq_true rfl) rfl ?_
        obtain rfl := Option.some.inj h
        exact go_iret (pc := 44) .int dX7_notBreach_44 rfl rfl ⟨rfl, rfl⟩
      · rw [if_pos c9] at h
        refine go_iconst (pc := 29) (v := (0 : Int32)) dX7_notBreach_29 (by decide) ?_
        refine go_goto (pc := 30) (tgt := 44) dX7_notBreach_30 (by decide) ?_
        obtain rfl := Option.some.inj h
        exact go_iret (pc := 44) .int dX7_notBreach_44 rfl rfl ⟨rfl, rfl⟩
    · rw [if_neg (by rw [c6]; decide)] at h
      refine go_bipush (pc := 17) (v := (-11 : Int32)) dX7_notBreach_17 (by decide) ?_
      obtain rfl := Option.some.inj h
      exact go_iret (pc := 19) .int dX7_notBreach_19 rfl rfl ⟨rfl, rfl⟩
def f_X7_breaks (x1 : Int32) (x2 : Int32) (m : fm_M) : Option (Int32 × fm_M) :=
  (f_X7_of x1 ((9 : Int32) + x2) m).bind fun v1 => (f_X7_sets x1 ((9 : Int32) + x2) (v1 + (1 : Int32)) m).bind fun v3 => if (v1 + (1 : Int32)) = (3 : Int32) then ((f_X7_becomes x1 (2 : Int32) v3).bind fun v12 => (f_X7_of x1 (5 : Int32) v12).bind fun v14 => some (v14, v12)) else ((f_X7_of x1 (5 : Int32) v3).bind fun v6 => (f_X7_sets x1 (5 : Int32) (v6 + (v1 + (1 : Int32))) v3).bind fun v8 => (f_X7_of x1 (5 : Int32) v8).bind fun v10 => some (v10, v8))
set_option maxRecDepth 100000 in
set_option maxHeartbeats 4000000 in
theorem c_X7_breaks (x1 : Int32) (x2 : Int32) (m : fm_M) {res : Int32 × fm_M} (h : f_X7_breaks x1 x2 m = some res) : fm_Met fm_layW 4 m_X7_breaks [.ref 23, .int x1, .int x2] m (fm_pi res.1 res.2) := by
  refine fm_Met_of (ls := [some (.ref 23), some (.int x1), some (.int x2), none]) (by decide) rfl (fm_cc_r _ (fm_cc_i _ (fm_cc_i _ fm_cc_0))) (Nat.le_of_ble_eq_true rfl) rfl ?_
  unfold f_X7_breaks at h
  refine go_aload_n (pc := 0) dX7_breaks_0 rfl rfl ?_
  refine go_iload_n (pc := 1) dX7_breaks_1 rfl rfl ?_
  refine go_bipush (pc := 2) (v := (9 : Int32)) dX7_breaks_2 (by decide) ?_
  refine go_iload_n (pc := 4) dX7_breaks_4 rfl rfl ?_
  refine go_iadd (pc := 5) dX7_breaks_5 ?_
  obtain ⟨v1, hv2, h⟩ := fm_bind h
  refine go_callVi (pc := 6) (As := [.int x1, .int ((9 : Int32) + x2)]) (st := []) dX7_breaks_6 (c_X7_of   _ _ _ hv2) (by decide) ce_X7_of ml_X7_64 in_X7_of se_X7_of cl_X7 rfl rfl (Nat.le_of_ble_eq_true rfl) rfl ?_
  refine go_iconst (pc := 9) (v := (1 : Int32)) dX7_breaks_9 (by decide) ?_
  refine go_iadd (pc := 10) dX7_breaks_10 ?_
  refine go_istore_n (pc := 11) (ls1 := [some (.ref 23), some (.int x1), some (.int x2), some (.int (v1 + (1 : Int32)))]) dX7_breaks_11 rfl (by decide) rfl ?_
  refine go_aload_n (pc := 12) dX7_breaks_12 rfl rfl ?_
  refine go_iload_n (pc := 13) dX7_breaks_13 rfl rfl ?_
  refine go_bipush (pc := 14) (v := (9 : Int32)) dX7_breaks_14 (by decide) ?_
  refine go_iload_n (pc := 16) dX7_breaks_16 rfl rfl ?_
  refine go_iadd (pc := 17) dX7_breaks_17 ?_
  refine go_iload_n (pc := 18) dX7_breaks_18 rfl rfl ?_
  obtain ⟨v3, hv4, h⟩ := fm_bind h
  refine go_callVv (pc := 19) (As := [.int x1, .int ((9 : Int32) + x2), .int (v1 + (1 : Int32))]) (st := []) dX7_breaks_19 (c_X7_sets   _ _ _ _ hv4) (by decide) ce_X7_sets ml_X7_76 in_X7_sets se_X7_sets cl_X7 rfl rfl (Nat.le_of_ble_eq_true rfl) rfl ?_
  refine go_iload_n (pc := 22) dX7_breaks_22 rfl rfl ?_
  refine go_iconst (pc := 23) (v := (3 : Int32)) dX7_breaks_23 (by decide) ?_
  refine go_icmp_ne (pc := 24) (tgt := 36) dX7_breaks_24 (by decide) (fun c5 => ?_) (fun c5 => ?_)
  · rw [if_neg c5] at h
    refine go_aload_n (pc := 36) dX7_breaks_36 rfl rfl ?_
    refine go_iload_n (pc := 37) dX7_breaks_37 rfl rfl ?_
    refine go_iconst (pc := 38) (v := (5 : Int32)) dX7_breaks_38 (by decide) ?_
    refine go_aload_n (pc := 39) dX7_breaks_39 rfl rfl ?_
    refine go_iload_n (pc := 40) dX7_breaks_40 rfl rfl ?_
    refine go_iconst (pc := 41) (v := (5 : Int32)) dX7_breaks_41 (by decide) ?_
    obtain ⟨v6, hv7, h⟩ := fm_bind h
    refine go_callVi (pc := 42) (As := [.int x1, .int (5 : Int32)]) (st := [.int (5 : Int32), .int x1, .ref 23]) dX7_breaks_42 (c_X7_of   _ _ _ hv7) (by decide) ce_X7_of ml_X7_64 in_X7_of se_X7_of cl_X7 rfl rfl (Nat.le_of_ble_eq_true rfl) rfl ?_
    refine go_iload_n (pc := 45) dX7_breaks_45 rfl rfl ?_
    refine go_iadd (pc := 46) dX7_breaks_46 ?_
    obtain ⟨v8, hv9, h⟩ := fm_bind h
    refine go_callVv (pc := 47) (As := [.int x1, .int (5 : Int32), .int (v6 + (v1 + (1 : Int32)))]) (st := []) dX7_breaks_47 (c_X7_sets   _ _ _ _ hv9) (by decide) ce_X7_sets ml_X7_76 in_X7_sets se_X7_sets cl_X7 rfl rfl (Nat.le_of_ble_eq_true rfl) rfl ?_
    refine go_aload_n (pc := 50) dX7_breaks_50 rfl rfl ?_
    refine go_iload_n (pc := 51) dX7_breaks_51 rfl rfl ?_
    refine go_iconst (pc := 52) (v := (5 : Int32)) dX7_breaks_52 (by decide) ?_
    obtain ⟨v10, hv11, h⟩ := fm_bind h
    refine go_callVi (pc := 53) (As := [.int x1, .int (5 : Int32)]) (st := []) dX7_breaks_53 (c_X7_of   _ _ _ hv11) (by decide) ce_X7_of ml_X7_64 in_X7_of se_X7_of cl_X7 rfl rfl (Nat.le_of_ble_eq_true rfl) rfl ?_
    obtain rfl := Option.some.inj h
    exact go_iret (pc := 56) .int dX7_breaks_56 rfl rfl ⟨rfl, rfl⟩
  · rw [if_pos c5] at h
    refine go_aload_n (pc := 27) dX7_breaks_27 rfl rfl ?_
    refine go_iload_n (pc := 28) dX7_breaks_28 rfl rfl ?_
    refine go_iconst (pc := 29) (v := (2 : Int32)) dX7_breaks_29 (by decide) ?_
    obtain ⟨v12, hv13, h⟩ := fm_bind h
    refine go_callVv (pc := 30) (As := [.int x1, .int (2 : Int32)]) (st := []) dX7_breaks_30 (c_X7_becomes   _ _ _ hv13) (by decide) ce_X7_becomes ml_X7_100 in_X7_becomes se_X7_becomes cl_X7 rfl rfl (Nat.le_of_ble_eq_true rfl) rfl ?_
    refine go_goto (pc := 33) (tgt := 50) dX7_breaks_33 (by decide) ?_
    refine go_aload_n (pc := 50) dX7_breaks_50 rfl rfl ?_
    refine go_iload_n (pc := 51) dX7_breaks_51 rfl rfl ?_
    refine go_iconst (pc := 52) (v := (5 : Int32)) dX7_breaks_52 (by decide) ?_
    obtain ⟨v14, hv15, h⟩ := fm_bind h
    refine go_callVi (pc := 53) (As := [.int x1, .int (5 : Int32)]) (st := []) dX7_breaks_53 (c_X7_of   _ _ _ hv15) (by decide) ce_X7_of ml_X7_64 in_X7_of se_X7_of cl_X7 rfl rfl (Nat.le_of_ble_eq_true rfl) rfl ?_
    obtain rfl := Option.some.inj h
    exact go_iret (pc := 56) .int dX7_breaks_56 rfl rfl ⟨rfl, rfl⟩
def f_X7_breach (x1 : Int32) (x2 : Int32) (m : fm_M) : Option (Int32 × fm_M) :=
  (f_X7_notBreach x1 x2 m).bind fun v1 => if v1.1 = 0 then ((f_X7_remembers v1.2).bind fun v4 => (f_X7_breaks x1 x2 v4).bind fun v6 => some (v6.1, v6.2)) else ((f_X7_refuses v1.1 v1.2).bind fun v8 => some (v8.1, v8.2))
set_option maxRecDepth 100000 in
set_option maxHeartbeats 4000000 in
theorem c_X7_breach (x1 : Int32) (x2 : Int32) (m : fm_M) {res : Int32 × fm_M} (h : f_X7_breach x1 x2 m = some res) : fm_Met fm_layW 5 m_X7_breach [.ref 23, .int x1, .int x2] m (fm_pi res.1 res.2) := by
  refine fm_Met_of (ls := [some (.ref 23), some (.int x1), some (.int x2), none]) (by decide) rfl (fm_cc_r _ (fm_cc_i _ (fm_cc_i _ fm_cc_0))) (Nat.le_of_ble_eq_true rfl) rfl ?_
  unfold f_X7_breach at h
  refine go_aload_n (pc := 0) dX7_breach_0 rfl rfl ?_
  refine go_iload_n (pc := 1) dX7_breach_1 rfl rfl ?_
  refine go_iload_n (pc := 2) dX7_breach_2 rfl rfl ?_
  obtain ⟨v1, hv2, h⟩ := fm_bind h
  refine go_callVi (pc := 3) (As := [.int x1, .int x2]) (st := []) dX7_breach_3 (c_X7_notBreach   _ _ _ hv2) (by decide) ce_X7_notBreach ml_X7_146 in_X7_notBreach se_X7_notBreach cl_X7 rfl rfl (Nat.le_of_ble_eq_true rfl) rfl ?_
  refine go_istore_n (pc := 6) (ls1 := [some (.ref 23), some (.int x1), some (.int x2), some (.int v1.1)]) dX7_breach_6 rfl (by decide) rfl ?_
  refine go_iload_n (pc := 7) dX7_breach_7 rfl rfl ?_
  refine go_if_eq (pc := 8) (tgt := 17) dX7_breach_8 (by decide) (fun c3 => ?_) (fun c3 => ?_)
  · rw [if_pos c3] at h
    refine go_aload_n (pc := 17) dX7_breach_17 rfl rfl ?_
    obtain ⟨v4, hv5, h⟩ := fm_bind h
    refine go_callVv (pc := 18) (As := []) (st := []) dX7_breach_18 (c_X7_remembers   _ hv5) (by decide) ce_X7_remembers ml_X7_90 in_X7_remembers se_X7_remembers cl_X7 rfl rfl (Nat.le_of_ble_eq_true rfl) rfl ?_
    refine go_aload_n (pc := 21) dX7_breach_21 rfl rfl ?_
    refine go_iload_n (pc := 22) dX7_breach_22 rfl rfl ?_
    refine go_iload_n (pc := 23) dX7_breach_23 rfl rfl ?_
    obtain ⟨v6, hv7, h⟩ := fm_bind h
    refine go_callVi (pc := 24) (As := [.int x1, .int x2]) (st := []) dX7_breach_24 (c_X7_breaks   _ _ _ hv7) (by decide) ce_X7_breaks ml_X7_149 in_X7_breaks se_X7_breaks cl_X7 rfl rfl (Nat.le_of_ble_eq_true rfl) rfl ?_
    obtain rfl := Option.some.inj h
    exact go_iret (pc := 27) .int dX7_breach_27 rfl rfl ⟨rfl, rfl⟩
  · rw [if_neg c3] at h
    refine go_aload_n (pc := 11) dX7_breach_11 rfl rfl ?_
    refine go_iload_n (pc := 12) dX7_breach_12 rfl rfl ?_
    obtain ⟨v8, hv9, h⟩ := fm_bind h
    refine go_callVi (pc := 13) (As := [.int v1.1]) (st := []) dX7_breach_13 (c_X7_refuses   _ _ hv9) (by decide) ce_X7_refuses ml_X7_87 in_X7_refuses se_X7_refuses cl_X7 rfl rfl (Nat.le_of_ble_eq_true rfl) rfl ?_
    obtain rfl := Option.some.inj h
    exact go_iret (pc := 16) .int dX7_breach_16 rfl rfl ⟨rfl, rfl⟩
def f_X7_notPardon (x1 : Int32) (m : fm_M) : Option (Int32 × fm_M) :=
  (f_X7_isBrother x1 m).bind fun v1 => if v1 = true then ((f_X7_isSo x1 (1 : Int32) m).bind fun v4 => if v4 = true then ((f_X7_of x1 (5 : Int32) m).bind fun v7 => if v7 = 0 then ((f_X7_isNot (10 : Int32) x1 m).bind fun v14 => some (v14.1, v14.2)) else (if fm_in (8 : Int32) 320 = true then (if (m 24 (8 : Int32).toNatClampNeg) = (2 : Int32) then ((f_X7_isNot (9 : Int32) (2 : Int32) m).bind fun v12 => some (v12.1, v12.2)) else (some ((0 : Int32), m))) else none)) else ((f_X7_of x1 (2 : Int32) m).bind fun v16 => (f_X7_isNot (3 : Int32) v16 m).bind fun v18 => some (v18.1, v18.2))) else (some ((-11 : Int32), m))
set_option maxRecDepth 100000 in
set_option maxHeartbeats 4000000 in
theorem c_X7_notPardon (x1 : Int32) (m : fm_M) {res : Int32 × fm_M} (h : f_X7_notPardon x1 m = some res) : fm_Met fm_layW 2 m_X7_notPardon [.ref 23, .int x1] m (fm_pi res.1 res.2) := by
  refine fm_Met_of (ls := [some (.ref 23), some (.int x1)]) (by decide) rfl (fm_cc_r _ (fm_cc_i _ fm_cc_0)) (Nat.le_of_ble_eq_true rfl) rfl ?_
  unfold f_X7_notPardon at h
  refine go_aload_n (pc := 0) dX7_notPardon_0 rfl rfl ?_
  refine go_iload_n (pc := 1) dX7_notPardon_1 rfl rfl ?_
  obtain ⟨v1, hv2, h⟩ := fm_bind h
  refine go_callVi (pc := 2) (As := [.int x1]) (st := []) dX7_notPardon_2 (c_X7_isBrother   _ _ hv2) (by decide) ce_X7_isBrother ml_X7_96 in_X7_isBrother se_X7_isBrother cl_X7 rfl rfl (Nat.le_of_ble_eq_true rfl) rfl ?_
  refine go_ifb_ne (pc := 5) (tgt := 11) dX7_notPardon_5 (by decide) (fun c3 => ?_) (fun c3 => ?_)
  · rw [if_pos c3] at h
    refine go_aload_n (pc := 11) dX7_notPardon_11 rfl rfl ?_
    refine go_iload_n (pc := 12) dX7_notPardon_12 rfl rfl ?_
    refine go_iconst (pc := 13) (v := (1 : Int32)) dX7_notPardon_13 (by decide) ?_
    obtain ⟨v4, hv5, h⟩ := fm_bind h
    refine go_callVi (pc := 14) (As := [.int x1, .int (1 : Int32)]) (st := []) dX7_notPardon_14 (c_X7_isSo   _ _ _ hv5) (by decide) ce_X7_isSo ml_X7_68 in_X7_isSo se_X7_isSo cl_X7 rfl rfl (Nat.le_of_ble_eq_true rfl) rfl ?_
    refine go_ifb_ne (pc := 17) (tgt := 32) dX7_notPardon_17 (by decide) (fun c6 => ?_) (fun c6 => ?_)
    · rw [if_pos c6] at h
      refine go_aload_n (pc := 32) dX7_notPardon_32 rfl rfl ?_
      refine go_iload_n (pc := 33) dX7_notPardon_33 rfl rfl ?_
      refine go_iconst (pc := 34) (v := (5 : Int32)) dX7_notPardon_34 (by decide) ?_
      obtain ⟨v7, hv8, h⟩ := fm_bind h
      refine go_callVi (pc := 35) (As := [.int x1, .int (5 : Int32)]) (st := []) dX7_notPardon_35 (c_X7_of   _ _ _ hv8) (by decide) ce_X7_of ml_X7_64 in_X7_of se_X7_of cl_X7 rfl rfl (Nat.le_of_ble_eq_true rfl) rfl ?_
      refine go_if_ne (pc := 38) (tgt := 49) dX7_notPardon_38 (by decide) (fun c9 => ?_) (fun c9 => ?_)
      · rw [if_neg c9] at h
        refine go_aload_n (pc := 49) dX7_notPardon_49 rfl rfl ?_
        refine go_getR (pc := 50) (k := 4) (q2 := 24) dX7_notPardon_50 cl_X7 rfl rfl (by decide) lk_X7_7 ?_
        refine go_bipush (pc := 53) (v := (8 : Int32)) dX7_notPardon_53 (by decide) ?_
        obtain ⟨hi10, h⟩ := fm_chk h
        refine go_iald (pc := 55) dX7_notPardon_55 rfl (fm_in_vp hi10) ?_
        refine go_iconst (pc := 56) (v := (2 : Int32)) dX7_notPardon_56 (by decide) ?_
        refine go_icmp_ne (pc := 57) (tgt := 70) dX7_notPardon_57 (by decide) (fun c11 => ?_) (fun c11 => ?_)
        · rw [if_neg c11] at h
          refine go_iconst (pc := 70) (v := (0 : Int32)) dX7_notPardon_70 (by decide) ?_
          obtain rfl := Option.some.inj h
          exact go_iret (pc := 71) .int dX7_notPardon_71 rfl rfl ⟨rfl, rfl⟩
        · rw [if_pos c11] at h
          refine go_aload_n (pc := 60) dX7_notPardon_60 rfl rfl ?_
          refine go_bipush (pc := 61) (v := (9 : Int32)) dX7_notPardon_61 (by decide) ?_
          refine go_iconst (pc := 63) (v := (2 : Int32)) dX7_notPardon_63 (by decide) ?_
          obtain ⟨v12, hv13, h⟩ := fm_bind h
          refine go_callVi (pc := 64) (As := [.int (9 : Int32), .int (2 : Int32)]) (st := []) dX7_notPardon_64 (c_X7_isNot   _ _ _ hv13) (by decide) ce_X7_isNot ml_X7_84 in_X7_isNot se_X7_isNot cl_X7 rfl rfl (Nat.le_of_ble_eq_true rfl) rfl ?_
          refine go_goto (pc := 67) (tgt := 71) dX7_notPardon_67 (by decide) ?_
          obtain rfl := Option.some.inj h
          exact go_iret (pc := 71) .int dX7_notPardon_71 rfl rfl ⟨rfl, rfl⟩
      · rw [if_pos c9] at h
        refine go_aload_n (pc := 41) dX7_notPardon_41 rfl rfl ?_
        refine go_bipush (pc := 42) (v := (10 : Int32)) dX7_notPardon_42 (by decide) ?_
        refine go_iload_n (pc := 44) dX7_notPardon_44 rfl rfl ?_
        obtain ⟨v14, hv15, h⟩ := fm_bind h
        refine go_callVi (pc := 45) (As := [.int (10 : Int32), .int x1]) (st := []) dX7_notPardon_45 (c_X7_isNot   _ _ _ hv15) (by decide) ce_X7_isNot ml_X7_84 in_X7_isNot se_X7_isNot cl_X7 rfl rfl (Nat.le_of_ble_eq_true rfl) rfl ?_
        obtain rfl := Option.some.inj h
        exact go_iret (pc := 48) .int dX7_notPardon_48 rfl rfl ⟨rfl, rfl⟩
    · rw [if_neg (by rw [c6]; decide)] at h
      refine go_aload_n (pc := 20) dX7_notPardon_20 rfl rfl ?_
      refine go_iconst (pc := 21) (v := (3 : Int32)) dX7_notPardon_21 (by decide) ?_
      refine go_aload_n (pc := 22) dX7_notPardon_22 rfl rfl ?_
      refine go_iload_n (pc := 23) dX7_notPardon_23 rfl rfl ?_
      refine go_iconst (pc := 24) (v := (2 : Int32)) dX7_notPardon_24 (by decide) ?_
      obtain ⟨v16, hv17, h⟩ := fm_bind h
      refine go_callVi (pc := 25) (As := [.int x1, .int (2 : Int32)]) (st := [.int (3 : Int32), .ref 23]) dX7_notPardon_25 (c_X7_of   _ _ _ hv17) (by decide) ce_X7_of ml_X7_64 in_X7_of se_X7_of cl_X7 rfl rfl (Nat.le_of_ble_eq_true rfl) rfl ?_
      obtain ⟨v18, hv19, h⟩ := fm_bind h
      refine go_callVi (pc := 28) (As := [.int (3 : Int32), .int v16]) (st := []) dX7_notPardon_28 (c_X7_isNot   _ _ _ hv19) (by decide) ce_X7_isNot ml_X7_84 in_X7_isNot se_X7_isNot cl_X7 rfl rfl (Nat.le_of_ble_eq_true rfl) rfl ?_
      obtain rfl := Option.some.inj h
      exact go_iret (pc := 31) .int dX7_notPardon_31 rfl rfl ⟨rfl, rfl⟩
  · rw [if_neg (by rw [c3]; decide)] at h
    refine go_bipush (pc := 8) (v := (-11 : Int32)) dX7_notPardon_8 (by decide) ?_
    obtain rfl := Option.some.inj h
    exact go_iret (pc := 10) .int dX7_notPardon_10 rfl rfl ⟨rfl, rfl⟩
def f_X7_pardons (x1 : Int32) (m : fm_M) : Option (Int32 × fm_M) :=
  (f_X7_of x1 (5 : Int32) m).bind fun v1 => (f_X7_sets x1 (5 : Int32) (0 : Int32) m).bind fun v3 => if fm_in (8 : Int32) 320 = true then (if fm_in (8 : Int32) 320 = true then (some (v1, (fm_put v3 24 (8 : Int32).toNatClampNeg ((v3 24 (8 : Int32).toNatClampNeg) + (1 : Int32))))) else none) else none
set_option maxRecDepth 100000 in
set_option maxHeartbeats 4000000 in
theorem c_X7_pardons (x1 : Int32) (m : fm_M) {res : Int32 × fm_M} (h : f_X7_pardons x1 m = some res) : fm_Met fm_layW 1 m_X7_pardons [.ref 23, .int x1] m (fm_pi res.1 res.2) := by
  refine fm_Met_of (ls := [some (.ref 23), some (.int x1), none]) (by decide) rfl (fm_cc_r _ (fm_cc_i _ fm_cc_0)) (Nat.le_of_ble_eq_true rfl) rfl ?_
  unfold f_X7_pardons at h
  refine go_aload_n (pc := 0) dX7_pardons_0 rfl rfl ?_
  refine go_iload_n (pc := 1) dX7_pardons_1 rfl rfl ?_
  refine go_iconst (pc := 2) (v := (5 : Int32)) dX7_pardons_2 (by decide) ?_
  obtain ⟨v1, hv2, h⟩ := fm_bind h
  refine go_callVi (pc := 3) (As := [.int x1, .int (5 : Int32)]) (st := []) dX7_pardons_3 (c_X7_of   _ _ _ hv2) (by decide) ce_X7_of ml_X7_64 in_X7_of se_X7_of cl_X7 rfl rfl (Nat.le_of_ble_eq_true rfl) rfl ?_
  refine go_istore_n (pc := 6) (ls1 := [some (.ref 23), some (.int x1), some (.int v1)]) dX7_pardons_6 rfl (by decide) rfl ?_
  refine go_aload_n (pc := 7) dX7_pardons_7 rfl rfl ?_
  refine go_iload_n (pc := 8) dX7_pardons_8 rfl rfl ?_
  refine go_iconst (pc := 9) (v := (5 : Int32)) dX7_pardons_9 (by decide) ?_
  refine go_iconst (pc := 10) (v := (0 : Int32)) dX7_pardons_10 (by decide) ?_
  obtain ⟨v3, hv4, h⟩ := fm_bind h
  refine go_callVv (pc := 11) (As := [.int x1, .int (5 : Int32), .int (0 : Int32)]) (st := []) dX7_pardons_11 (c_X7_sets   _ _ _ _ hv4) (by decide) ce_X7_sets ml_X7_76 in_X7_sets se_X7_sets cl_X7 rfl rfl (Nat.le_of_ble_eq_true rfl) rfl ?_
  refine go_aload_n (pc := 14) dX7_pardons_14 rfl rfl ?_
  refine go_getR (pc := 15) (k := 4) (q2 := 24) dX7_pardons_15 cl_X7 rfl rfl (by decide) lk_X7_7 ?_
  refine go_bipush (pc := 18) (v := (8 : Int32)) dX7_pardons_18 (by decide) ?_
  refine go_dup2 (pc := 20) dX7_pardons_20 rfl rfl ?_
  obtain ⟨hi5, h⟩ := fm_chk h
  refine go_iald (pc := 21) dX7_pardons_21 rfl (fm_in_vp hi5) ?_
  refine go_iconst (pc := 22) (v := (1 : Int32)) dX7_pardons_22 (by decide) ?_
  refine go_iadd (pc := 23) dX7_pardons_23 ?_
  obtain ⟨hi6, h⟩ := fm_chk h
  refine go_iast (pc := 24) dX7_pardons_24 rfl (fm_in_vp hi6) ?_
  refine go_iload_n (pc := 25) dX7_pardons_25 rfl rfl ?_
  obtain rfl := Option.some.inj h
  exact go_iret (pc := 26) .int dX7_pardons_26 rfl rfl ⟨rfl, rfl⟩
def f_X7_pardon (x1 : Int32) (m : fm_M) : Option (Int32 × fm_M) :=
  (f_X7_notPardon x1 m).bind fun v1 => if v1.1 = 0 then ((f_X7_remembers v1.2).bind fun v4 => (f_X7_pardons x1 v4).bind fun v6 => some (v6.1, v6.2)) else ((f_X7_refuses v1.1 v1.2).bind fun v8 => some (v8.1, v8.2))
set_option maxRecDepth 100000 in
set_option maxHeartbeats 4000000 in
theorem c_X7_pardon (x1 : Int32) (m : fm_M) {res : Int32 × fm_M} (h : f_X7_pardon x1 m = some res) : fm_Met fm_layW 3 m_X7_pardon [.ref 23, .int x1] m (fm_pi res.1 res.2) := by
  refine fm_Met_of (ls := [some (.ref 23), some (.int x1), none]) (by decide) rfl (fm_cc_r _ (fm_cc_i _ fm_cc_0)) (Nat.le_of_ble_eq_true rfl) rfl ?_
  unfold f_X7_pardon at h
  refine go_aload_n (pc := 0) dX7_pardon_0 rfl rfl ?_
  refine go_iload_n (pc := 1) dX7_pardon_1 rfl rfl ?_
  obtain ⟨v1, hv2, h⟩ := fm_bind h
  refine go_callVi (pc := 2) (As := [.int x1]) (st := []) dX7_pardon_2 (c_X7_notPardon   _ _ hv2) (by decide) ce_X7_notPardon ml_X7_152 in_X7_notPardon se_X7_notPardon cl_X7 rfl rfl (Nat.le_of_ble_eq_true rfl) rfl ?_
  refine go_istore_n (pc := 5) (ls1 := [some (.ref 23), some (.int x1), some (.int v1.1)]) dX7_pardon_5 rfl (by decide) rfl ?_
  refine go_iload_n (pc := 6) dX7_pardon_6 rfl rfl ?_
  refine go_if_eq (pc := 7) (tgt := 16) dX7_pardon_7 (by decide) (fun c3 => ?_) (fun c3 => ?_)
  · rw [if_pos c3] at h
    refine go_aload_n (pc := 16) dX7_pardon_16 rfl rfl ?_
    obtain ⟨v4, hv5, h⟩ := fm_bind h
    refine go_callVv (pc := 17) (As := []) (st := []) dX7_pardon_17 (c_X7_remembers   _ hv5) (by decide) ce_X7_remembers ml_X7_90 in_X7_remembers se_X7_remembers cl_X7 rfl rfl (Nat.le_of_ble_eq_true rfl) rfl ?_
    refine go_aload_n (pc := 20) dX7_pardon_20 rfl rfl ?_
    refine go_iload_n (pc := 21) dX7_pardon_21 rfl rfl ?_
    obtain ⟨v6, hv7, h⟩ := fm_bind h
    refine go_callVi (pc := 22) (As := [.int x1]) (st := []) dX7_pardon_22 (c_X7_pardons   _ _ hv7) (by decide) ce_X7_pardons ml_X7_155 in_X7_pardons se_X7_pardons cl_X7 rfl rfl (Nat.le_of_ble_eq_true rfl) rfl ?_
    obtain rfl := Option.some.inj h
    exact go_iret (pc := 25) .int dX7_pardon_25 rfl rfl ⟨rfl, rfl⟩
  · rw [if_neg c3] at h
    refine go_aload_n (pc := 10) dX7_pardon_10 rfl rfl ?_
    refine go_iload_n (pc := 11) dX7_pardon_11 rfl rfl ?_
    obtain ⟨v8, hv9, h⟩ := fm_bind h
    refine go_callVi (pc := 12) (As := [.int v1.1]) (st := []) dX7_pardon_12 (c_X7_refuses   _ _ hv9) (by decide) ce_X7_refuses ml_X7_87 in_X7_refuses se_X7_refuses cl_X7 rfl rfl (Nat.le_of_ble_eq_true rfl) rfl ?_
    obtain rfl := Option.some.inj h
    exact go_iret (pc := 15) .int dX7_pardon_15 rfl rfl ⟨rfl, rfl⟩
def f_X7_comesIn (x1 : Int32) (m : fm_M) : Option (fm_M) :=
  if fm_in (3 : Int32) 320 = true then ((f_X7_lesser x1 ((9999 : Int32) - (m 24 (3 : Int32).toNatClampNeg)) m).bind fun v2 => if fm_in (3 : Int32) 320 = true then (if fm_in (3 : Int32) 320 = true then (if fm_in (4 : Int32) 320 = true then (if fm_in (4 : Int32) 320 = true then (some (fm_put (fm_put m 24 (3 : Int32).toNatClampNeg ((m 24 (3 : Int32).toNatClampNeg) + v2)) 24 (4 : Int32).toNatClampNeg (((fm_put m 24 (3 : Int32).toNatClampNeg ((m 24 (3 : Int32).toNatClampNeg) + v2)) 24 (4 : Int32).toNatClampNeg) + v2))) else none) else none) else none) else none) else none
set_option maxRecDepth 100000 in
set_option maxHeartbeats 4000000 in
theorem c_X7_comesIn (x1 : Int32) (m : fm_M) {res : fm_M} (h : f_X7_comesIn x1 m = some res) : fm_Met fm_layW 1 m_X7_comesIn [.ref 23, .int x1] m (fm_pv res) := by
  refine fm_Met_of (ls := [some (.ref 23), some (.int x1), none]) (by decide) rfl (fm_cc_r _ (fm_cc_i _ fm_cc_0)) (Nat.le_of_ble_eq_true rfl) rfl ?_
  unfold f_X7_comesIn at h
  refine go_iload_n (pc := 0) dX7_comesIn_0 rfl rfl ?_
  refine go_sipush (pc := 1) (v := (9999 : Int32)) dX7_comesIn_1 (by decide) ?_
  refine go_aload_n (pc := 4) dX7_comesIn_4 rfl rfl ?_
  refine go_getR (pc := 5) (k := 4) (q2 := 24) dX7_comesIn_5 cl_X7 rfl rfl (by decide) lk_X7_7 ?_
  refine go_iconst (pc := 8) (v := (3 : Int32)) dX7_comesIn_8 (by decide) ?_
  obtain ⟨hi1, h⟩ := fm_chk h
  refine go_iald (pc := 9) dX7_comesIn_9 rfl (fm_in_vp hi1) ?_
  refine go_isub (pc := 10) dX7_comesIn_10 ?_
  obtain ⟨v2, hv3, h⟩ := fm_bind h
  refine go_callSi (pc := 11) (As := [.int x1, .int ((9999 : Int32) - (m 24 (3 : Int32).toNatClampNeg))]) (st := []) dX7_comesIn_11 (c_X7_lesser   _ _ _ hv3) (by decide) ce_X7_lesser ml_X7_158 st_X7_lesser rfl (Nat.le_of_ble_eq_true rfl) rfl ?_
  refine go_istore_n (pc := 14) (ls1 := [some (.ref 23), some (.int x1), some (.int v2)]) dX7_comesIn_14 rfl (by decide) rfl ?_
  refine go_aload_n (pc := 15) dX7_comesIn_15 rfl rfl ?_
  refine go_getR (pc := 16) (k := 4) (q2 := 24) dX7_comesIn_16 cl_X7 rfl rfl (by decide) lk_X7_7 ?_
  refine go_iconst (pc := 19) (v := (3 : Int32)) dX7_comesIn_19 (by decide) ?_
  refine go_dup2 (pc := 20) dX7_comesIn_20 rfl rfl ?_
  obtain ⟨hi4, h⟩ := fm_chk h
  refine go_iald (pc := 21) dX7_comesIn_21 rfl (fm_in_vp hi4) ?_
  refine go_iload_n (pc := 22) dX7_comesIn_22 rfl rfl ?_
  refine go_iadd (pc := 23) dX7_comesIn_23 ?_
  obtain ⟨hi5, h⟩ := fm_chk h
  refine go_iast (pc := 24) dX7_comesIn_24 rfl (fm_in_vp hi5) ?_
  refine go_aload_n (pc := 25) dX7_comesIn_25 rfl rfl ?_
  refine go_getR (pc := 26) (k := 4) (q2 := 24) dX7_comesIn_26 cl_X7 rfl rfl (by decide) lk_X7_7 ?_
  refine go_iconst (pc := 29) (v := (4 : Int32)) dX7_comesIn_29 (by decide) ?_
  refine go_dup2 (pc := 30) dX7_comesIn_30 rfl rfl ?_
  obtain ⟨hi6, h⟩ := fm_chk h
  refine go_iald (pc := 31) dX7_comesIn_31 rfl (fm_in_vp hi6) ?_
  refine go_iload_n (pc := 32) dX7_comesIn_32 rfl rfl ?_
  refine go_iadd (pc := 33) dX7_comesIn_33 ?_
  obtain ⟨hi7, h⟩ := fm_chk h
  refine go_iast (pc := 34) dX7_comesIn_34 rfl (fm_in_vp hi7) ?_
  obtain rfl := Option.some.inj h
  exact go_vret (pc := 35) dX7_comesIn_35 rfl ⟨rfl, rfl⟩
def f_X7_puts (x1 : Int32) (m : fm_M) : Option (Int32 × fm_M) :=
  (f_X7_comesIn x1 m).bind fun v1 => if fm_in (3 : Int32) 320 = true then (some ((v1 24 (3 : Int32).toNatClampNeg), v1)) else none
set_option maxRecDepth 100000 in
set_option maxHeartbeats 4000000 in
theorem c_X7_puts (x1 : Int32) (m : fm_M) {res : Int32 × fm_M} (h : f_X7_puts x1 m = some res) : fm_Met fm_layW 2 m_X7_puts [.ref 23, .int x1] m (fm_pi res.1 res.2) := by
  refine fm_Met_of (ls := [some (.ref 23), some (.int x1)]) (by decide) rfl (fm_cc_r _ (fm_cc_i _ fm_cc_0)) (Nat.le_of_ble_eq_true rfl) rfl ?_
  unfold f_X7_puts at h
  refine go_aload_n (pc := 0) dX7_puts_0 rfl rfl ?_
  refine go_iload_n (pc := 1) dX7_puts_1 rfl rfl ?_
  obtain ⟨v1, hv2, h⟩ := fm_bind h
  refine go_callVv (pc := 2) (As := [.int x1]) (st := []) dX7_puts_2 (c_X7_comesIn   _ _ hv2) (by decide) ce_X7_comesIn ml_X7_161 in_X7_comesIn se_X7_comesIn cl_X7 rfl rfl (Nat.le_of_ble_eq_true rfl) rfl ?_
  refine go_aload_n (pc := 5) dX7_puts_5 rfl rfl ?_
  refine go_getR (pc := 6) (k := 4) (q2 := 24) dX7_puts_6 cl_X7 rfl rfl (by decide) lk_X7_7 ?_
  refine go_iconst (pc := 9) (v := (3 : Int32)) dX7_puts_9 (by decide) ?_
  obtain ⟨hi3, h⟩ := fm_chk h
  refine go_iald (pc := 10) dX7_puts_10 rfl (fm_in_vp hi3) ?_
  obtain rfl := Option.some.inj h
  exact go_iret (pc := 11) .int dX7_puts_11 rfl rfl ⟨rfl, rfl⟩
def f_X7_gift (x1 : Int32) (m : fm_M) : Option (Int32 × fm_M) :=
  (f_X7_isBetween x1 (1 : Int32) (500 : Int32) m).bind fun v1 => if v1 = true then ((f_X7_remembers m).bind fun v4 => (f_X7_puts x1 v4).bind fun v6 => some (v6.1, v6.2)) else (some ((-12 : Int32), m))
set_option maxRecDepth 100000 in
set_option maxHeartbeats 4000000 in
theorem c_X7_gift (x1 : Int32) (m : fm_M) {res : Int32 × fm_M} (h : f_X7_gift x1 m = some res) : fm_Met fm_layW 3 m_X7_gift [.ref 23, .int x1] m (fm_pi res.1 res.2) := by
  refine fm_Met_of (ls := [some (.ref 23), some (.int x1)]) (by decide) rfl (fm_cc_r _ (fm_cc_i _ fm_cc_0)) (Nat.le_of_ble_eq_true rfl) rfl ?_
  unfold f_X7_gift at h
  refine go_iload_n (pc := 0) dX7_gift_0 rfl rfl ?_
  refine go_iconst (pc := 1) (v := (1 : Int32)) dX7_gift_1 (by decide) ?_
  refine go_sipush (pc := 2) (v := (500 : Int32)) dX7_gift_2 (by decide) ?_
  obtain ⟨v1, hv2, h⟩ := fm_bind h
  refine go_callSi (pc := 5) (As := [.int x1, .int (1 : Int32), .int (500 : Int32)]) (st := []) dX7_gift_5 (c_X7_isBetween   _ _ _ _ hv2) (by decide) ce_X7_isBetween ml_X7_60 st_X7_isBetween rfl (Nat.le_of_ble_eq_true rfl) rfl ?_
  refine go_ifb_ne (pc := 8) (tgt := 14) dX7_gift_8 (by decide) (fun c3 => ?_) (fun c3 => ?_)
  · rw [if_pos c3] at h
    refine go_aload_n (pc := 14) dX7_gift_14 rfl rfl ?_
    obtain ⟨v4, hv5, h⟩ := fm_bind h
    refine go_callVv (pc := 15) (As := []) (st := []) dX7_gift_15 (c_X7_remembers   _ hv5) (by decide) ce_X7_remembers ml_X7_90 in_X7_remembers se_X7_remembers cl_X7 rfl rfl (Nat.le_of_ble_eq_true rfl) rfl ?_
    refine go_aload_n (pc := 18) dX7_gift_18 rfl rfl ?_
    refine go_iload_n (pc := 19) dX7_gift_19 rfl rfl ?_
    obtain ⟨v6, hv7, h⟩ := fm_bind h
    refine go_callVi (pc := 20) (As := [.int x1]) (st := []) dX7_gift_20 (c_X7_puts   _ _ hv7) (by decide) ce_X7_puts ml_X7_164 in_X7_puts se_X7_puts cl_X7 rfl rfl (Nat.le_of_ble_eq_true rfl) rfl ?_
    obtain rfl := Option.some.inj h
    exact go_iret (pc := 23) .int dX7_gift_23 rfl rfl ⟨rfl, rfl⟩
  · rw [if_neg (by rw [c3]; decide)] at h
    refine go_bipush (pc := 11) (v := (-12 : Int32)) dX7_gift_11 (by decide) ?_
    obtain rfl := Option.some.inj h
    exact go_iret (pc := 13) .int dX7_gift_13 rfl rfl ⟨rfl, rfl⟩
def f_X7_isEntitled (x1 : Int32) (m : fm_M) : Option (Bool) :=
  (f_X7_isSo x1 (1 : Int32) m).bind fun v1 => if v1 = true then ((f_X7_of x1 (5 : Int32) m).bind fun v4 => if v4 = 0 then (some true) else (some false)) else (some false)
set_option maxRecDepth 100000 in
set_option maxHeartbeats 4000000 in
theorem c_X7_isEntitled (x1 : Int32) (m : fm_M) {res : Bool} (h : f_X7_isEntitled x1 m = some res) : fm_Met fm_layW 2 m_X7_isEntitled [.ref 23, .int x1] m (fm_pi (fm_b res) m) := by
  refine fm_Met_of (ls := [some (.ref 23), some (.int x1)]) (by decide) rfl (fm_cc_r _ (fm_cc_i _ fm_cc_0)) (Nat.le_of_ble_eq_true rfl) rfl ?_
  unfold f_X7_isEntitled at h
  refine go_aload_n (pc := 0) dX7_isEntitled_0 rfl rfl ?_
  refine go_iload_n (pc := 1) dX7_isEntitled_1 rfl rfl ?_
  refine go_iconst (pc := 2) (v := (1 : Int32)) dX7_isEntitled_2 (by decide) ?_
  obtain ⟨v1, hv2, h⟩ := fm_bind h
  refine go_callVi (pc := 3) (As := [.int x1, .int (1 : Int32)]) (st := []) dX7_isEntitled_3 (c_X7_isSo   _ _ _ hv2) (by decide) ce_X7_isSo ml_X7_68 in_X7_isSo se_X7_isSo cl_X7 rfl rfl (Nat.le_of_ble_eq_true rfl) rfl ?_
  refine go_ifb_eq (pc := 6) (tgt := 22) dX7_isEntitled_6 (by decide) (fun c3 => ?_) (fun c3 => ?_)
  · rw [if_neg (by rw [c3]; decide)] at h
    refine go_iconst (pc := 22) (v := (0 : Int32)) dX7_isEntitled_22 (by decide) ?_
    obtain rfl := Option.some.inj h
    exact go_iret (pc := 23) .boolean dX7_isEntitled_23 rfl rfl ⟨rfl, rfl⟩
  · rw [if_pos c3] at h
    refine go_aload_n (pc := 9) dX7_isEntitled_9 rfl rfl ?_
    refine go_iload_n (pc := 10) dX7_isEntitled_10 rfl rfl ?_
    refine go_iconst (pc := 11) (v := (5 : Int32)) dX7_isEntitled_11 (by decide) ?_
    obtain ⟨v4, hv5, h⟩ := fm_bind h
    refine go_callVi (pc := 12) (As := [.int x1, .int (5 : Int32)]) (st := []) dX7_isEntitled_12 (c_X7_of   _ _ _ hv5) (by decide) ce_X7_of ml_X7_64 in_X7_of se_X7_of cl_X7 rfl rfl (Nat.le_of_ble_eq_true rfl) rfl ?_
    refine go_if_ne (pc := 15) (tgt := 22) dX7_isEntitled_15 (by decide) (fun c6 => ?_) (fun c6 => ?_)
    · rw [if_neg c6] at h
      refine go_iconst (pc := 22) (v := (0 : Int32)) dX7_isEntitled_22 (by decide) ?_
      obtain rfl := Option.some.inj h
      exact go_iret (pc := 23) .boolean dX7_isEntitled_23 rfl rfl ⟨rfl, rfl⟩
    · rw [if_pos c6] at h
      refine go_iconst (pc := 18) (v := (1 : Int32)) dX7_isEntitled_18 (by decide) ?_
      refine go_goto (pc := 19) (tgt := 23) dX7_isEntitled_19 (by decide) ?_
      obtain rfl := Option.some.inj h
      exact go_iret (pc := 23) .boolean dX7_isEntitled_23 rfl rfl ⟨rfl, rfl⟩
def f_X7_entitledMany_L4 : Nat → Int32 → Int32 → fm_M → Option (Int32)
  | 0, _, _, _ => none
  | n + 1, y1, y2, m => if fm_in (2 : Int32) 320 = true then (if (m 24 (2 : Int32).toNatClampNeg) ≤ y2 then (some y1) else ((f_X7_isEntitled y2 m).bind fun v3 => if v3 = true then (f_X7_entitledMany_L4 n (y1 + (1 : Int32)) (y2 + (1 : Int32)) m) else (f_X7_entitledMany_L4 n (y1 + (0 : Int32)) (y2 + (1 : Int32)) m))) else none
def f_X7_entitledMany (m : fm_M) : Option (Int32) :=
  f_X7_entitledMany_L4 fm_F (0 : Int32) (0 : Int32) m
set_option maxRecDepth 100000 in
set_option maxHeartbeats 4000000 in
theorem c_X7_entitledMany_L4 : ∀ (n : Nat) (y1 : Int32) (y2 : Int32) (m : fm_M) (res : Int32), f_X7_entitledMany_L4 n y1 y2 m = some res → fm_Go fm_layW 3 m_X7_entitledMany (fm_pi res m) 4 [some (.ref 23), some (.int y1), some (.int y2)] [] m := by
  intro n
  induction n with
  | zero => intro y1 y2 m res h; cases h
  | succ n ih =>
    intro y1 y2 m res h
    rw [f_X7_entitledMany_L4] at h
    refine go_iload_n (pc := 4) dX7_entitledMany_4 rfl rfl ?_
    refine go_aload_n (pc := 5) dX7_entitledMany_5 rfl rfl ?_
    refine go_getR (pc := 6) (k := 4) (q2 := 24) dX7_entitledMany_6 cl_X7 rfl rfl (by decide) lk_X7_7 ?_
    refine go_iconst (pc := 9) (v := (2 : Int32)) dX7_entitledMany_9 (by decide) ?_
    obtain ⟨hi1, h⟩ := fm_chk h
    refine go_iald (pc := 10) dX7_entitledMany_10 rfl (fm_in_vp hi1) ?_
    refine go_icmp_ge (pc := 11) (tgt := 36) dX7_entitledMany_11 (by decide) (fun c2 => ?_) (fun c2 => ?_)
    · rw [if_pos c2] at h
      refine go_iload_n (pc := 36) dX7_entitledMany_36 rfl rfl ?_
      obtain rfl := Option.some.inj h
      exact go_iret (pc := 37) .int dX7_entitledMany_37 rfl rfl ⟨rfl, rfl⟩
    · rw [if_neg c2] at h
      refine go_iload_n (pc := 14) dX7_entitledMany_14 rfl rfl ?_
      refine go_aload_n (pc := 15) dX7_entitledMany_15 rfl rfl ?_
      refine go_iload_n (pc := 16) dX7_entitledMany_16 rfl rfl ?_
      obtain ⟨v3, hv4, h⟩ := fm_bind h
      refine go_callVi (pc := 17) (As := [.int y2]) (st := [.int y1]) dX7_entitledMany_17 (c_X7_isEntitled   _ _ hv4) (by decide) ce_X7_isEntitled ml_X7_167 in_X7_isEntitled se_X7_isEntitled cl_X7 rfl rfl (Nat.le_of_ble_eq_true rfl) rfl ?_
      refine go_ifb_eq (pc := 20) (tgt := 27) dX7_entitledMany_20 (by decide) (fun c5 => ?_) (fun c5 => ?_)
      · rw [if_neg (by rw [c5]; decide)] at h
        refine go_iconst (pc := 27) (v := (0 : Int32)) dX7_entitledMany_27 (by decide) ?_
        refine go_iadd (pc := 28) dX7_entitledMany_28 ?_
        refine go_istore_n (pc := 29) (ls1 := [some (.ref 23), some (.int (y1 + (0 : Int32))), some (.int y2)]) dX7_entitledMany_29 rfl (by decide) rfl ?_
        refine go_iinc (pc := 30) (v := (y2 + (1 : Int32))) (ls1 := [some (.ref 23), some (.int (y1 + (0 : Int32))), some (.int (y2 + (1 : Int32)))]) dX7_entitledMany_30 rfl rfl (Nat.le_of_ble_eq_true rfl) rfl ?_
        refine go_goto (pc := 33) (tgt := 4) dX7_entitledMany_33 (by decide) ?_
        exact ih _ _ _ _ h
      · rw [if_pos c5] at h
        refine go_iconst (pc := 23) (v := (1 : Int32)) dX7_entitledMany_23 (by decide) ?_
        refine go_goto (pc := 24) (tgt := 28) dX7_entitledMany_24 (by decide) ?_
        refine go_iadd (pc := 28) dX7_entitledMany_28 ?_
        refine go_istore_n (pc := 29) (ls1 := [some (.ref 23), some (.int (y1 + (1 : Int32))), some (.int y2)]) dX7_entitledMany_29 rfl (by decide) rfl ?_
        refine go_iinc (pc := 30) (v := (y2 + (1 : Int32))) (ls1 := [some (.ref 23), some (.int (y1 + (1 : Int32))), some (.int (y2 + (1 : Int32)))]) dX7_entitledMany_30 rfl rfl (Nat.le_of_ble_eq_true rfl) rfl ?_
        refine go_goto (pc := 33) (tgt := 4) dX7_entitledMany_33 (by decide) ?_
        exact ih _ _ _ _ h
set_option maxRecDepth 100000 in
set_option maxHeartbeats 4000000 in
theorem c_X7_entitledMany (m : fm_M) {res : Int32} (h : f_X7_entitledMany  m = some res) : fm_Met fm_layW 3 m_X7_entitledMany [.ref 23] m (fm_pi res m) := by
  refine fm_Met_of (ls := [some (.ref 23), none, none]) (by decide) rfl (fm_cc_r _ fm_cc_0) (Nat.le_of_ble_eq_true rfl) rfl ?_
  unfold f_X7_entitledMany at h
  refine go_iconst (pc := 0) (v := (0 : Int32)) dX7_entitledMany_0 (by decide) ?_
  refine go_istore_n (pc := 1) (ls1 := [some (.ref 23), some (.int (0 : Int32)), none]) dX7_entitledMany_1 rfl (by decide) rfl ?_
  refine go_iconst (pc := 2) (v := (0 : Int32)) dX7_entitledMany_2 (by decide) ?_
  refine go_istore_n (pc := 3) (ls1 := [some (.ref 23), some (.int (0 : Int32)), some (.int (0 : Int32))]) dX7_entitledMany_3 rfl (by decide) rfl ?_
  exact c_X7_entitledMany_L4  fm_F _ _ _ _ h
def f_X7_feastComes_L46 : Nat → Int32 → Int32 → Int32 → fm_M → Option (Int32 × fm_M)
  | 0, _, _, _, _ => none
  | n + 1, y1, y3, y4, m => if fm_in (2 : Int32) 320 = true then (if (m 24 (2 : Int32).toNatClampNeg) ≤ y4 then (if fm_in (3 : Int32) 320 = true then (if fm_in (3 : Int32) 320 = true then (if fm_in (5 : Int32) 320 = true then (if fm_in (5 : Int32) 320 = true then (some ((y3 * y1), (fm_put (fm_put m 24 (3 : Int32).toNatClampNeg ((m 24 (3 : Int32).toNatClampNeg) - (y3 * y1))) 24 (5 : Int32).toNatClampNeg (((fm_put m 24 (3 : Int32).toNatClampNeg ((m 24 (3 : Int32).toNatClampNeg) - (y3 * y1))) 24 (5 : Int32).toNatClampNeg) + (y3 * y1))))) else none) else none) else none) else none) else ((f_X7_isEntitled y4 m).bind fun v17 => if v17 = true then ((f_X7_of y4 (6 : Int32) m).bind fun v20 => (f_X7_sets y4 (6 : Int32) (v20 + y3) m).bind fun v22 => f_X7_feastComes_L46 n y1 y3 (y4 + (1 : Int32)) v22) else (f_X7_feastComes_L46 n y1 y3 (y4 + (1 : Int32)) m))) else none
def f_X7_feastComes (m : fm_M) : Option (Int32 × fm_M) :=
  (f_X7_entitledMany m).bind fun v1 => if fm_in (1 : Int32) 320 = true then (if fm_in ((12 : Int32) + (m 24 (1 : Int32).toNatClampNeg)) 320 = true then (if v1 = 0 then (some ((0 : Int32), m)) else (if (m 24 ((12 : Int32) + (m 24 (1 : Int32).toNatClampNeg)).toNatClampNeg) = 0 then (some ((0 : Int32), m)) else (if fm_in (3 : Int32) 320 = true then (if v1 = 0 then none else (f_X7_lesser (m 24 ((12 : Int32) + (m 24 (1 : Int32).toNatClampNeg)).toNatClampNeg) ((m 24 (3 : Int32).toNatClampNeg) / v1) m).bind fun v9 => f_X7_feastComes_L46 fm_F v1 v9 (0 : Int32) m) else none))) else none) else none
set_option maxRecDepth 100000 in
set_option maxHeartbeats 4000000 in
theorem c_X7_feastComes_L46 : ∀ (n : Nat) (y1 : Int32) (y3 : Int32) (y4 : Int32) (m : fm_M) (res : Int32 × fm_M), f_X7_feastComes_L46 n y1 y3 y4 m = some res → fm_Go fm_layW 4 m_X7_feastComes (fm_pi res.1 res.2) 46 [some (.ref 23), some (.int y1), none, some (.int y3), some (.int y4)] [] m := by
  intro n
  induction n with
  | zero => intro y1 y3 y4 m res h; cases h
  | succ n ih =>
    intro y1 y3 y4 m res h
    rw [f_X7_feastComes_L46] at h
    refine go_iload (pc := 46) dX7_feastComes_46 rfl ?_
    refine go_aload_n (pc := 48) dX7_feastComes_48 rfl rfl ?_
    refine go_getR (pc := 49) (k := 4) (q2 := 24) dX7_feastComes_49 cl_X7 rfl rfl (by decide) lk_X7_7 ?_
    refine go_iconst (pc := 52) (v := (2 : Int32)) dX7_feastComes_52 (by decide) ?_
    obtain ⟨hi11, h⟩ := fm_chk h
    refine go_iald (pc := 53) dX7_feastComes_53 rfl (fm_in_vp hi11) ?_
    refine go_icmp_ge (pc := 54) (tgt := 90) dX7_feastComes_54 (by decide) (fun c12 => ?_) (fun c12 => ?_)
    · rw [if_pos c12] at h
      refine go_aload_n (pc := 90) dX7_feastComes_90 rfl rfl ?_
      refine go_getR (pc := 91) (k := 4) (q2 := 24) dX7_feastComes_91 cl_X7 rfl rfl (by decide) lk_X7_7 ?_
      refine go_iconst (pc := 94) (v := (3 : Int32)) dX7_feastComes_94 (by decide) ?_
      refine go_dup2 (pc := 95) dX7_feastComes_95 rfl rfl ?_
      obtain ⟨hi13, h⟩ := fm_chk h
      refine go_iald (pc := 96) dX7_feastComes_96 rfl (fm_in_vp hi13) ?_
      refine go_iload_n (pc := 97) dX7_feastComes_97 rfl rfl ?_
      refine go_iload_n (pc := 98) dX7_feastComes_98 rfl rfl ?_
      refine go_imul (pc := 99) dX7_feastComes_99 ?_
      refine go_isub (pc := 100) dX7_feastComes_100 ?_
      obtain ⟨hi14, h⟩ := fm_chk h
      refine go_iast (pc := 101) dX7_feastComes_101 rfl (fm_in_vp hi14) ?_
      refine go_aload_n (pc := 102) dX7_feastComes_102 rfl rfl ?_
      refine go_getR (pc := 103) (k := 4) (q2 := 24) dX7_feastComes_103 cl_X7 rfl rfl (by decide) lk_X7_7 ?_
      refine go_iconst (pc := 106) (v := (5 : Int32)) dX7_feastComes_106 (by decide) ?_
      refine go_dup2 (pc := 107) dX7_feastComes_107 rfl rfl ?_
      obtain ⟨hi15, h⟩ := fm_chk h
      refine go_iald (pc := 108) dX7_feastComes_108 rfl (fm_in_vp hi15) ?_
      refine go_iload_n (pc := 109) dX7_feastComes_109 rfl rfl ?_
      refine go_iload_n (pc := 110) dX7_feastComes_110 rfl rfl ?_
      refine go_imul (pc := 111) dX7_feastComes_111 ?_
      refine go_iadd (pc := 112) dX7_feastComes_112 ?_
      obtain ⟨hi16, h⟩ := fm_chk h
      refine go_iast (pc := 113) dX7_feastComes_113 rfl (fm_in_vp hi16) ?_
      refine go_iload_n (pc := 114) dX7_feastComes_114 rfl rfl ?_
      refine go_iload_n (pc := 115) dX7_feastComes_115 rfl rfl ?_
      refine go_imul (pc := 116) dX7_feastComes_116 ?_
      obtain rfl := Option.some.inj h
      exact go_iret (pc := 117) .int dX7_feastComes_117 rfl rfl ⟨rfl, rfl⟩
    · rw [if_neg c12] at h
      refine go_aload_n (pc := 57) dX7_feastComes_57 rfl rfl ?_
      refine go_iload (pc := 58) dX7_feastComes_58 rfl ?_
      obtain ⟨v17, hv18, h⟩ := fm_bind h
      refine go_callVi (pc := 60) (As := [.int y4]) (st := []) dX7_feastComes_60 (c_X7_isEntitled   _ _ hv18) (by decide) ce_X7_isEntitled ml_X7_167 in_X7_isEntitled se_X7_isEntitled cl_X7 rfl rfl (Nat.le_of_ble_eq_true rfl) rfl ?_
      refine go_ifb_eq (pc := 63) (tgt := 84) dX7_feastComes_63 (by decide) (fun c19 => ?_) (fun c19 => ?_)
      · rw [if_neg (by rw [c19]; decide)] at h
        refine go_iinc (pc := 84) (v := (y4 + (1 : Int32))) (ls1 := [some (.ref 23), some (.int y1), none, some (.int y3), some (.int (y4 + (1 : Int32)))]) dX7_feastComes_84 rfl rfl (Nat.le_of_ble_eq_true rfl) rfl ?_
        refine go_goto (pc := 87) (tgt := 46) dX7_feastComes_87 (by decide) ?_
        exact ih _ _ _ _ _ h
      · rw [if_pos c19] at h
        refine go_aload_n (pc := 66) dX7_feastComes_66 rfl rfl ?_
        refine go_iload (pc := 67) dX7_feastComes_67 rfl ?_
        refine go_bipush (pc := 69) (v := (6 : Int32)) dX7_feastComes_69 (by decide) ?_
        refine go_aload_n (pc := 71) dX7_feastComes_71 rfl rfl ?_
        refine go_iload (pc := 72) dX7_feastComes_72 rfl ?_
        refine go_bipush (pc := 74) (v := (6 : Int32)) dX7_feastComes_74 (by decide) ?_
        obtain ⟨v20, hv21, h⟩ := fm_bind h
        refine go_callVi (pc := 76) (As := [.int y4, .int (6 : Int32)]) (st := [.int (6 : Int32), .int y4, .ref 23]) dX7_feastComes_76 (c_X7_of   _ _ _ hv21) (by decide) ce_X7_of ml_X7_64 in_X7_of se_X7_of cl_X7 rfl rfl (Nat.le_of_ble_eq_true rfl) rfl ?_
        refine go_iload_n (pc := 79) dX7_feastComes_79 rfl rfl ?_
        refine go_iadd (pc := 80) dX7_feastComes_80 ?_
        obtain ⟨v22, hv23, h⟩ := fm_bind h
        refine go_callVv (pc := 81) (As := [.int y4, .int (6 : Int32), .int (v20 + y3)]) (st := []) dX7_feastComes_81 (c_X7_sets   _ _ _ _ hv23) (by decide) ce_X7_sets ml_X7_76 in_X7_sets se_X7_sets cl_X7 rfl rfl (Nat.le_of_ble_eq_true rfl) rfl ?_
        refine go_iinc (pc := 84) (v := (y4 + (1 : Int32))) (ls1 := [some (.ref 23), some (.int y1), none, some (.int y3), some (.int (y4 + (1 : Int32)))]) dX7_feastComes_84 rfl rfl (Nat.le_of_ble_eq_true rfl) rfl ?_
        refine go_goto (pc := 87) (tgt := 46) dX7_feastComes_87 (by decide) ?_
        exact ih _ _ _ _ _ h
set_option maxRecDepth 100000 in
set_option maxHeartbeats 4000000 in
theorem c_X7_feastComes (m : fm_M) {res : Int32 × fm_M} (h : f_X7_feastComes  m = some res) : fm_Met fm_layW 4 m_X7_feastComes [.ref 23] m (fm_pi res.1 res.2) := by
  refine fm_Met_of (ls := [some (.ref 23), none, none, none, none]) (by decide) rfl (fm_cc_r _ fm_cc_0) (Nat.le_of_ble_eq_true rfl) rfl ?_
  unfold f_X7_feastComes at h
  refine go_aload_n (pc := 0) dX7_feastComes_0 rfl rfl ?_
  obtain ⟨v1, hv2, h⟩ := fm_bind h
  refine go_callVi (pc := 1) (As := []) (st := []) dX7_feastComes_1 (c_X7_entitledMany   _ hv2) (by decide) ce_X7_entitledMany ml_X7_170 in_X7_entitledMany se_X7_entitledMany cl_X7 rfl rfl (Nat.le_of_ble_eq_true rfl) rfl ?_
  refine go_istore_n (pc := 4) (ls1 := [some (.ref 23), some (.int v1), none, none, none]) dX7_feastComes_4 rfl (by decide) rfl ?_
  refine go_aload_n (pc := 5) dX7_feastComes_5 rfl rfl ?_
  refine go_getR (pc := 6) (k := 4) (q2 := 24) dX7_feastComes_6 cl_X7 rfl rfl (by decide) lk_X7_7 ?_
  refine go_bipush (pc := 9) (v := (12 : Int32)) dX7_feastComes_9 (by decide) ?_
  refine go_aload_n (pc := 11) dX7_feastComes_11 rfl rfl ?_
  refine go_getR (pc := 12) (k := 4) (q2 := 24) dX7_feastComes_12 cl_X7 rfl rfl (by decide) lk_X7_7 ?_
  refine go_iconst (pc := 15) (v := (1 : Int32)) dX7_feastComes_15 (by decide) ?_
  obtain ⟨hi3, h⟩ := fm_chk h
  refine go_iald (pc := 16) dX7_feastComes_16 rfl (fm_in_vp hi3) ?_
  refine go_iadd (pc := 17) dX7_feastComes_17 ?_
  obtain ⟨hi4, h⟩ := fm_chk h
  refine go_iald (pc := 18) dX7_feastComes_18 rfl (fm_in_vp hi4) ?_
  refine go_istore_n (pc := 19) (ls1 := [some (.ref 23), some (.int v1), some (.int (m 24 ((12 : Int32) + (m 24 (1 : Int32).toNatClampNeg)).toNatClampNeg)), none, none]) dX7_feastComes_19 rfl (by decide) rfl ?_
  refine go_iload_n (pc := 20) dX7_feastComes_20 rfl rfl ?_
  refine go_if_eq (pc := 21) (tgt := 28) dX7_feastComes_21 (by decide) (fun c5 => ?_) (fun c5 => ?_)
  · rw [if_pos c5] at h
    refine go_iconst (pc := 28) (v := (0 : Int32)) dX7_feastComes_28 (by decide) ?_
    obtain rfl := Option.some.inj h
    exact go_iret (pc := 29) .int dX7_feastComes_29 rfl rfl ⟨rfl, rfl⟩
  · rw [if_neg c5] at h
    refine go_iload_n (pc := 24) dX7_feastComes_24 rfl rfl ?_
    refine go_if_ne (pc := 25) (tgt := 30) dX7_feastComes_25 (by decide) (fun c6 => ?_) (fun c6 => ?_)
    · rw [if_neg c6] at h
      refine go_iload_n (pc := 30) dX7_feastComes_30 rfl rfl ?_
      refine go_aload_n (pc := 31) dX7_feastComes_31 rfl rfl ?_
      refine go_getR (pc := 32) (k := 4) (q2 := 24) dX7_feastComes_32 cl_X7 rfl rfl (by decide) lk_X7_7 ?_
      refine go_iconst (pc := 35) (v := (3 : Int32)) dX7_feastComes_35 (by decide) ?_
      obtain ⟨hi7, h⟩ := fm_chk h
      refine go_iald (pc := 36) dX7_feastComes_36 rfl (fm_in_vp hi7) ?_
      refine go_iload_n (pc := 37) dX7_feastComes_37 rfl rfl ?_
      obtain ⟨hz8, h⟩ := fm_chk2 h
      refine go_idiv (pc := 38) dX7_feastComes_38 hz8 ?_
      obtain ⟨v9, hv10, h⟩ := fm_bind h
      refine go_callSi (pc := 39) (As := [.int (m 24 ((12 : Int32) + (m 24 (1 : Int32).toNatClampNeg)).toNatClampNeg), .int ((m 24 (3 : Int32).toNatClampNeg) / v1)]) (st := []) dX7_feastComes_39 (c_X7_lesser   _ _ _ hv10) (by decide) ce_X7_lesser ml_X7_158 st_X7_lesser rfl (Nat.le_of_ble_eq_true rfl) rfl ?_
      refine go_istore_n (pc := 42) (ls1 := [some (.ref 23), some (.int v1), some (.int (m 24 ((12 : Int32) + (m 24 (1 : Int32).toNatClampNeg)).toNatClampNeg)), some (.int v9), none]) dX7_feastComes_42 rfl (by decide) rfl ?_
      refine go_iconst (pc := 43) (v := (0 : Int32)) dX7_feastComes_43 (by decide) ?_
      refine go_istore (pc := 44) (ls1 := [some (.ref 23), some (.int v1), some (.int (m 24 ((12 : Int32) + (m 24 (1 : Int32).toNatClampNeg)).toNatClampNeg)), some (.int v9), some (.int (0 : Int32))]) dX7_feastComes_44 (by decide) rfl ?_
      refine go_drop 2 (ls1 := [some (.ref 23), some (.int v1), none, some (.int v9), some (.int (0 : Int32))]) rfl ?_
      exact c_X7_feastComes_L46  fm_F _ _ _ _ _ h
    · rw [if_pos c6] at h
      refine go_iconst (pc := 28) (v := (0 : Int32)) dX7_feastComes_28 (by decide) ?_
      obtain rfl := Option.some.inj h
      exact go_iret (pc := 29) .int dX7_feastComes_29 rfl rfl ⟨rfl, rfl⟩
def f_X7_isSeniorTo (x1 : Int32) (x2 : Int32) (m : fm_M) : Option (Bool) :=
  (f_X7_of x1 (8 : Int32) m).bind fun v1 => (f_X7_of x2 (8 : Int32) m).bind fun v3 => if v3 ≤ v1 then (some false) else (some true)
set_option maxRecDepth 100000 in
set_option maxHeartbeats 4000000 in
theorem c_X7_isSeniorTo (x1 : Int32) (x2 : Int32) (m : fm_M) {res : Bool} (h : f_X7_isSeniorTo x1 x2 m = some res) : fm_Met fm_layW 1 m_X7_isSeniorTo [.ref 23, .int x1, .int x2] m (fm_pi (fm_b res) m) := by
  refine fm_Met_of (ls := [some (.ref 23), some (.int x1), some (.int x2)]) (by decide) rfl (fm_cc_r _ (fm_cc_i _ (fm_cc_i _ fm_cc_0))) (Nat.le_of_ble_eq_true rfl) rfl ?_
  unfold f_X7_isSeniorTo at h
  refine go_aload_n (pc := 0) dX7_isSeniorTo_0 rfl rfl ?_
  refine go_iload_n (pc := 1) dX7_isSeniorTo_1 rfl rfl ?_
  refine go_bipush (pc := 2) (v := (8 : Int32)) dX7_isSeniorTo_2 (by decide) ?_
  obtain ⟨v1, hv2, h⟩ := fm_bind h
  refine go_callVi (pc := 4) (As := [.int x1, .int (8 : Int32)]) (st := []) dX7_isSeniorTo_4 (c_X7_of   _ _ _ hv2) (by decide) ce_X7_of ml_X7_64 in_X7_of se_X7_of cl_X7 rfl rfl (Nat.le_of_ble_eq_true rfl) rfl ?_
  refine go_aload_n (pc := 7) dX7_isSeniorTo_7 rfl rfl ?_
  refine go_iload_n (pc := 8) dX7_isSeniorTo_8 rfl rfl ?_
  refine go_bipush (pc := 9) (v := (8 : Int32)) dX7_isSeniorTo_9 (by decide) ?_
  obtain ⟨v3, hv4, h⟩ := fm_bind h
  refine go_callVi (pc := 11) (As := [.int x2, .int (8 : Int32)]) (st := [.int v1]) dX7_isSeniorTo_11 (c_X7_of   _ _ _ hv4) (by decide) ce_X7_of ml_X7_64 in_X7_of se_X7_of cl_X7 rfl rfl (Nat.le_of_ble_eq_true rfl) rfl ?_
  refine go_icmp_ge (pc := 14) (tgt := 21) dX7_isSeniorTo_14 (by decide) (fun c5 => ?_) (fun c5 => ?_)
  · rw [if_pos c5] at h
    refine go_iconst (pc := 21) (v := (0 : Int32)) dX7_isSeniorTo_21 (by decide) ?_
    obtain rfl := Option.some.inj h
    exact go_iret (pc := 22) .boolean dX7_isSeniorTo_22 rfl rfl ⟨rfl, rfl⟩
  · rw [if_neg c5] at h
    refine go_iconst (pc := 17) (v := (1 : Int32)) dX7_isSeniorTo_17 (by decide) ?_
    refine go_goto (pc := 18) (tgt := 22) dX7_isSeniorTo_18 (by decide) ?_
    obtain rfl := Option.some.inj h
    exact go_iret (pc := 22) .boolean dX7_isSeniorTo_22 rfl rfl ⟨rfl, rfl⟩
def f_X7_isShabbier (x1 : Int32) (x2 : Int32) (m : fm_M) : Option (Bool) :=
  (f_X7_of x1 (4 : Int32) m).bind fun v1 => (f_X7_of x2 (4 : Int32) m).bind fun v3 => if v1 = v3 then ((f_X7_isSeniorTo x1 x2 m).bind fun v6 => some v6) else ((f_X7_of x1 (4 : Int32) m).bind fun v8 => (f_X7_of x2 (4 : Int32) m).bind fun v10 => if v8 ≤ v10 then (some false) else (some true))
set_option maxRecDepth 100000 in
set_option maxHeartbeats 4000000 in
theorem c_X7_isShabbier (x1 : Int32) (x2 : Int32) (m : fm_M) {res : Bool} (h : f_X7_isShabbier x1 x2 m = some res) : fm_Met fm_layW 2 m_X7_isShabbier [.ref 23, .int x1, .int x2] m (fm_pi (fm_b res) m) := by
  refine fm_Met_of (ls := [some (.ref 23), some (.int x1), some (.int x2)]) (by decide) rfl (fm_cc_r _ (fm_cc_i _ (fm_cc_i _ fm_cc_0))) (Nat.le_of_ble_eq_true rfl) rfl ?_
  unfold f_X7_isShabbier at h
  refine go_aload_n (pc := 0) dX7_isShabbier_0 rfl rfl ?_
  refine go_iload_n (pc := 1) dX7_isShabbier_1 rfl rfl ?_
  refine go_iconst (pc := 2) (v := (4 : Int32)) dX7_isShabbier_2 (by decide) ?_
  obtain ⟨v1, hv2, h⟩ := fm_bind h
  refine go_callVi (pc := 3) (As := [.int x1, .int (4 : Int32)]) (st := []) dX7_isShabbier_3 (c_X7_of   _ _ _ hv2) (by decide) ce_X7_of ml_X7_64 in_X7_of se_X7_of cl_X7 rfl rfl (Nat.le_of_ble_eq_true rfl) rfl ?_
  refine go_aload_n (pc := 6) dX7_isShabbier_6 rfl rfl ?_
  refine go_iload_n (pc := 7) dX7_isShabbier_7 rfl rfl ?_
  refine go_iconst (pc := 8) (v := (4 : Int32)) dX7_isShabbier_8 (by decide) ?_
  obtain ⟨v3, hv4, h⟩ := fm_bind h
  refine go_callVi (pc := 9) (As := [.int x2, .int (4 : Int32)]) (st := [.int v1]) dX7_isShabbier_9 (c_X7_of   _ _ _ hv4) (by decide) ce_X7_of ml_X7_64 in_X7_of se_X7_of cl_X7 rfl rfl (Nat.le_of_ble_eq_true rfl) rfl ?_
  refine go_icmp_eq (pc := 12) (tgt := 38) dX7_isShabbier_12 (by decide) (fun c5 => ?_) (fun c5 => ?_)
  · rw [if_pos c5] at h
    refine go_aload_n (pc := 38) dX7_isShabbier_38 rfl rfl ?_
    refine go_iload_n (pc := 39) dX7_isShabbier_39 rfl rfl ?_
    refine go_iload_n (pc := 40) dX7_isShabbier_40 rfl rfl ?_
    obtain ⟨v6, hv7, h⟩ := fm_bind h
    refine go_callVi (pc := 41) (As := [.int x1, .int x2]) (st := []) dX7_isShabbier_41 (c_X7_isSeniorTo   _ _ _ hv7) (by decide) ce_X7_isSeniorTo ml_X7_174 in_X7_isSeniorTo se_X7_isSeniorTo cl_X7 rfl rfl (Nat.le_of_ble_eq_true rfl) rfl ?_
    obtain rfl := Option.some.inj h
    exact go_iret (pc := 44) .boolean dX7_isShabbier_44 rfl (fm_b_nar _) ⟨rfl, rfl⟩
  · rw [if_neg c5] at h
    refine go_aload_n (pc := 15) dX7_isShabbier_15 rfl rfl ?_
    refine go_iload_n (pc := 16) dX7_isShabbier_16 rfl rfl ?_
    refine go_iconst (pc := 17) (v := (4 : Int32)) dX7_isShabbier_17 (by decide) ?_
    obtain ⟨v8, hv9, h⟩ := fm_bind h
    refine go_callVi (pc := 18) (As := [.int x1, .int (4 : Int32)]) (st := []) dX7_isShabbier_18 (c_X7_of   _ _ _ hv9) (by decide) ce_X7_of ml_X7_64 in_X7_of se_X7_of cl_X7 rfl rfl (Nat.le_of_ble_eq_true rfl) rfl ?_
    refine go_aload_n (pc := 21) dX7_isShabbier_21 rfl rfl ?_
    refine go_iload_n (pc := 22) dX7_isShabbier_22 rfl rfl ?_
    refine go_iconst (pc := 23) (v := (4 : Int32)) dX7_isShabbier_23 (by decide) ?_
    obtain ⟨v10, hv11, h⟩ := fm_bind h
    refine go_callVi (pc := 24) (As := [.int x2, .int (4 : Int32)]) (st := [.int v8]) dX7_isShabbier_24 (c_X7_of   _ _ _ hv11) (by decide) ce_X7_of ml_X7_64 in_X7_of se_X7_of cl_X7 rfl rfl (Nat.le_of_ble_eq_true rfl) rfl ?_
    refine go_icmp_le (pc := 27) (tgt := 34) dX7_isShabbier_27 (by decide) (fun c12 => ?_) (fun c12 => ?_)
    · rw [if_pos c12] at h
      refine go_iconst (pc := 34) (v := (0 : Int32)) dX7_isShabbier_34 (by decide) ?_
      refine go_goto (pc := 35) (tgt := 44) dX7_isShabbier_35 (by decide) ?_
      obtain rfl := Option.some.inj h
      exact go_iret (pc := 44) .boolean dX7_isShabbier_44 rfl rfl ⟨rfl, rfl⟩
    · rw [if_neg c12] at h
      refine go_iconst (pc := 30) (v := (1 : Int32)) dX7_isShabbier_30 (by decide) ?_
      refine go_goto (pc := 31) (tgt := 44) dX7_isShabbier_31 (by decide) ?_
      obtain rfl := Option.some.inj h
      exact go_iret (pc := 44) .boolean dX7_isShabbier_44 rfl rfl ⟨rfl, rfl⟩
def f_X7_shabbyAt_L29 : Nat → Int32 → Int32 → Int32 → Int32 → fm_M → Option (Int32)
  | 0, _, _, _, _, _ => none
  | n + 1, y1, y2, y3, y4, m => if fm_in (2 : Int32) 320 = true then (if (m 24 (2 : Int32).toNatClampNeg) ≤ y4 then (some y3) else ((f_X7_isSo y4 (1 : Int32) m).bind fun v8 => if v8 = true then ((f_X7_isShabbier y4 y2 m).bind fun v11 => if v11 = true then (f_X7_shabbyAt_L29 n y1 y2 (y3 + (1 : Int32)) (y4 + (1 : Int32)) m) else (f_X7_shabbyAt_L29 n y1 y2 (y3 + (0 : Int32)) (y4 + (1 : Int32)) m)) else (f_X7_shabbyAt_L29 n y1 y2 (y3 + (0 : Int32)) (y4 + (1 : Int32)) m))) else none
def f_X7_shabbyAt_L2 : Nat → Int32 → Int32 → fm_M → Option (Int32)
  | 0, _, _, _ => none
  | n + 1, y1, y2, m => if fm_in (2 : Int32) 320 = true then (if (m 24 (2 : Int32).toNatClampNeg) ≤ y2 then (some (-11 : Int32)) else ((f_X7_isSo y2 (1 : Int32) m).bind fun v3 => if v3 = true then ((f_X7_shabbyAt_L29 fm_F y1 y2 (0 : Int32) (0 : Int32) m).bind fun e14 => if e14 = y1 then (some y2) else (f_X7_shabbyAt_L2 n y1 (y2 + (1 : Int32)) m)) else (f_X7_shabbyAt_L2 n y1 (y2 + (1 : Int32)) m))) else none
def f_X7_shabbyAt (x1 : Int32) (m : fm_M) : Option (Int32) :=
  f_X7_shabbyAt_L2 fm_F x1 (0 : Int32) m
set_option maxRecDepth 100000 in
set_option maxHeartbeats 4000000 in
theorem c_X7_shabbyAt_L29 {Post : Option Value → fm_M → Prop} : ∀ (n : Nat) (y1 : Int32) (y2 : Int32) (y3 : Int32) (y4 : Int32) (m : fm_M) (e : Int32), f_X7_shabbyAt_L29 n y1 y2 y3 y4 m = some e → fm_Go fm_layW 3 m_X7_shabbyAt Post 74 [some (.ref 23), some (.int y1), some (.int y2), some (.int e), none] [] m → fm_Go fm_layW 3 m_X7_shabbyAt Post 29 [some (.ref 23), some (.int y1), some (.int y2), some (.int y3), some (.int y4)] [] m := by
  intro n
  induction n with
  | zero => intro y1 y2 y3 y4 m e h hk; cases h
  | succ n ih =>
    intro y1 y2 y3 y4 m e h hk
    rw [f_X7_shabbyAt_L29] at h
    refine go_iload (pc := 29) dX7_shabbyAt_29 rfl ?_
    refine go_aload_n (pc := 31) dX7_shabbyAt_31 rfl rfl ?_
    refine go_getR (pc := 32) (k := 4) (q2 := 24) dX7_shabbyAt_32 cl_X7 rfl rfl (by decide) lk_X7_7 ?_
    refine go_iconst (pc := 35) (v := (2 : Int32)) dX7_shabbyAt_35 (by decide) ?_
    obtain ⟨hi6, h⟩ := fm_chk h
    refine go_iald (pc := 36) dX7_shabbyAt_36 rfl (fm_in_vp hi6) ?_
    refine go_icmp_ge (pc := 37) (tgt := 74) dX7_shabbyAt_37 (by decide) (fun c7 => ?_) (fun c7 => ?_)
    · rw [if_pos c7] at h
      refine go_drop 4 (ls1 := [some (.ref 23), some (.int y1), some (.int y2), some (.int y3), none]) rfl ?_
      obtain rfl := Option.some.inj h
      exact hk
    · rw [if_neg c7] at h
      refine go_iload_n (pc := 40) dX7_shabbyAt_40 rfl rfl ?_
      refine go_aload_n (pc := 41) dX7_shabbyAt_41 rfl rfl ?_
      refine go_iload (pc := 42) dX7_shabbyAt_42 rfl ?_
      refine go_iconst (pc := 44) (v := (1 : Int32)) dX7_shabbyAt_44 (by decide) ?_
      obtain ⟨v8, hv9, h⟩ := fm_bind h
      refine go_callVi (pc := 45) (As := [.int y4, .int (1 : Int32)]) (st := [.int y3]) dX7_shabbyAt_45 (c_X7_isSo   _ _ _ hv9) (by decide) ce_X7_isSo ml_X7_68 in_X7_isSo se_X7_isSo cl_X7 rfl rfl (Nat.le_of_ble_eq_true rfl) rfl ?_
      refine go_ifb_eq (pc := 48) (tgt := 65) dX7_shabbyAt_48 (by decide) (fun c10 => ?_) (fun c10 => ?_)
      · rw [if_neg (by rw [c10]; decide)] at h
        refine go_iconst (pc := 65) (v := (0 : Int32)) dX7_shabbyAt_65 (by decide) ?_
        refine go_iadd (pc := 66) dX7_shabbyAt_66 ?_
        refine go_istore_n (pc := 67) (ls1 := [some (.ref 23), some (.int y1), some (.int y2), some (.int (y3 + (0 : Int32))), some (.int y4)]) dX7_shabbyAt_67 rfl (by decide) rfl ?_
        refine go_iinc (pc := 68) (v := (y4 + (1 : Int32))) (ls1 := [some (.ref 23), some (.int y1), some (.int y2), some (.int (y3 + (0 : Int32))), some (.int (y4 + (1 : Int32)))]) dX7_shabbyAt_68 rfl rfl (Nat.le_of_ble_eq_true rfl) rfl ?_
        refine go_goto (pc := 71) (tgt := 29) dX7_shabbyAt_71 (by decide) ?_
        exact ih _ _ _ _ _ _ h hk
      · rw [if_pos c10] at h
        refine go_aload_n (pc := 51) dX7_shabbyAt_51 rfl rfl ?_
        refine go_iload (pc := 52) dX7_shabbyAt_52 rfl ?_
        refine go_iload_n (pc := 54) dX7_shabbyAt_54 rfl rfl ?_
        obtain ⟨v11, hv12, h⟩ := fm_bind h
        refine go_callVi (pc := 55) (As := [.int y4, .int y2]) (st := [.int y3]) dX7_shabbyAt_55 (c_X7_isShabbier   _ _ _ hv12) (by decide) ce_X7_isShabbier ml_X7_177 in_X7_isShabbier se_X7_isShabbier cl_X7 rfl rfl (Nat.le_of_ble_eq_true rfl) rfl ?_
        refine go_ifb_eq (pc := 58) (tgt := 65) dX7_shabbyAt_58 (by decide) (fun c13 => ?_) (fun c13 => ?_)
        · rw [if_neg (by rw [c13]; decide)] at h
          refine go_iconst (pc := 65) (v := (0 : Int32)) dX7_shabbyAt_65 (by decide) ?_
          refine go_iadd (pc := 66) dX7_shabbyAt_66 ?_
          refine go_istore_n (pc := 67) (ls1 := [some (.ref 23), some (.int y1), some (.int y2), some (.int (y3 + (0 : Int32))), some (.int y4)]) dX7_shabbyAt_67 rfl (by decide) rfl ?_
          refine go_iinc (pc := 68) (v := (y4 + (1 : Int32))) (ls1 := [some (.ref 23), some (.int y1), some (.int y2), some (.int (y3 + (0 : Int32))), some (.int (y4 + (1 : Int32)))]) dX7_shabbyAt_68 rfl rfl (Nat.le_of_ble_eq_true rfl) rfl ?_
          refine go_goto (pc := 71) (tgt := 29) dX7_shabbyAt_71 (by decide) ?_
          exact ih _ _ _ _ _ _ h hk
        · rw [if_pos c13] at h
          refine go_iconst (pc := 61) (v := (1 : Int32)) dX7_shabbyAt_61 (by decide) ?_
          refine go_goto (pc := 62) (tgt := 66) dX7_shabbyAt_62 (by decide) ?_
          refine go_iadd (pc := 66) dX7_shabbyAt_66 ?_
          refine go_istore_n (pc := 67) (ls1 := [some (.ref 23), some (.int y1), some (.int y2), some (.int (y3 + (1 : Int32))), some (.int y4)]) dX7_shabbyAt_67 rfl (by decide) rfl ?_
          refine go_iinc (pc := 68) (v := (y4 + (1 : Int32))) (ls1 := [some (.ref 23), some (.int y1), some (.int y2), some (.int (y3 + (1 : Int32))), some (.int (y4 + (1 : Int32)))]) dX7_shabbyAt_68 rfl rfl (Nat.le_of_ble_eq_true rfl) rfl ?_
          refine go_goto (pc := 71) (tgt := 29) dX7_shabbyAt_71 (by decide) ?_
          exact ih _ _ _ _ _ _ h hk
set_option maxRecDepth 100000 in
set_option maxHeartbeats 4000000 in
theorem c_X7_shabbyAt_L2 : ∀ (n : Nat) (y1 : Int32) (y2 : Int32) (m : fm_M) (res : Int32), f_X7_shabbyAt_L2 n y1 y2 m = some res → fm_Go fm_layW 3 m_X7_shabbyAt (fm_pi res m) 2 [some (.ref 23), some (.int y1), some (.int y2), none, none] [] m := by
  intro n
  induction n with
  | zero => intro y1 y2 m res h; cases h
  | succ n ih =>
    intro y1 y2 m res h
    rw [f_X7_shabbyAt_L2] at h
    refine go_iload_n (pc := 2) dX7_shabbyAt_2 rfl rfl ?_
    refine go_aload_n (pc := 3) dX7_shabbyAt_3 rfl rfl ?_
    refine go_getR (pc := 4) (k := 4) (q2 := 24) dX7_shabbyAt_4 cl_X7 rfl rfl (by decide) lk_X7_7 ?_
    refine go_iconst (pc := 7) (v := (2 : Int32)) dX7_shabbyAt_7 (by decide) ?_
    obtain ⟨hi1, h⟩ := fm_chk h
    refine go_iald (pc := 8) dX7_shabbyAt_8 rfl (fm_in_vp hi1) ?_
    refine go_icmp_ge (pc := 9) (tgt := 87) dX7_shabbyAt_9 (by decide) (fun c2 => ?_) (fun c2 => ?_)
    · rw [if_pos c2] at h
      refine go_bipush (pc := 87) (v := (-11 : Int32)) dX7_shabbyAt_87 (by decide) ?_
      obtain rfl := Option.some.inj h
      exact go_iret (pc := 89) .int dX7_shabbyAt_89 rfl rfl ⟨rfl, rfl⟩
    · rw [if_neg c2] at h
      refine go_aload_n (pc := 12) dX7_shabbyAt_12 rfl rfl ?_
      refine go_iload_n (pc := 13) dX7_shabbyAt_13 rfl rfl ?_
      refine go_iconst (pc := 14) (v := (1 : Int32)) dX7_shabbyAt_14 (by decide) ?_
      obtain ⟨v3, hv4, h⟩ := fm_bind h
      refine go_callVi (pc := 15) (As := [.int y2, .int (1 : Int32)]) (st := []) dX7_shabbyAt_15 (c_X7_isSo   _ _ _ hv4) (by decide) ce_X7_isSo ml_X7_68 in_X7_isSo se_X7_isSo cl_X7 rfl rfl (Nat.le_of_ble_eq_true rfl) rfl ?_
      refine go_ifb_ne (pc := 18) (tgt := 24) dX7_shabbyAt_18 (by decide) (fun c5 => ?_) (fun c5 => ?_)
      · rw [if_pos c5] at h
        refine go_iconst (pc := 24) (v := (0 : Int32)) dX7_shabbyAt_24 (by decide) ?_
        refine go_istore_n (pc := 25) (ls1 := [some (.ref 23), some (.int y1), some (.int y2), some (.int (0 : Int32)), none]) dX7_shabbyAt_25 rfl (by decide) rfl ?_
        refine go_iconst (pc := 26) (v := (0 : Int32)) dX7_shabbyAt_26 (by decide) ?_
        refine go_istore (pc := 27) (ls1 := [some (.ref 23), some (.int y1), some (.int y2), some (.int (0 : Int32)), some (.int (0 : Int32))]) dX7_shabbyAt_27 (by decide) rfl ?_
        obtain ⟨e14, he15, h⟩ := fm_bind h
        refine c_X7_shabbyAt_L29  fm_F _ _ _ _ _ e14 he15 ?_
        refine go_iload_n (pc := 74) dX7_shabbyAt_74 rfl rfl ?_
        refine go_iload_n (pc := 75) dX7_shabbyAt_75 rfl rfl ?_
        refine go_icmp_ne (pc := 76) (tgt := 81) dX7_shabbyAt_76 (by decide) (fun c16 => ?_) (fun c16 => ?_)
        · rw [if_neg c16] at h
          refine go_iinc (pc := 81) (v := (y2 + (1 : Int32))) (ls1 := [some (.ref 23), some (.int y1), some (.int (y2 + (1 : Int32))), some (.int e14), none]) dX7_shabbyAt_81 rfl rfl (Nat.le_of_ble_eq_true rfl) rfl ?_
          refine go_goto (pc := 84) (tgt := 2) dX7_shabbyAt_84 (by decide) ?_
          refine go_drop 3 (ls1 := [some (.ref 23), some (.int y1), some (.int (y2 + (1 : Int32))), none, none]) rfl ?_
          exact ih _ _ _ _ h
        · rw [if_pos c16] at h
          refine go_iload_n (pc := 79) dX7_shabbyAt_79 rfl rfl ?_
          obtain rfl := Option.some.inj h
          exact go_iret (pc := 80) .int dX7_shabbyAt_80 rfl rfl ⟨rfl, rfl⟩
      · rw [if_neg (by rw [c5]; decide)] at h
        refine go_goto (pc := 21) (tgt := 81) dX7_shabbyAt_21 (by decide) ?_
        refine go_iinc (pc := 81) (v := (y2 + (1 : Int32))) (ls1 := [some (.ref 23), some (.int y1), some (.int (y2 + (1 : Int32))), none, none]) dX7_shabbyAt_81 rfl rfl (Nat.le_of_ble_eq_true rfl) rfl ?_
        refine go_goto (pc := 84) (tgt := 2) dX7_shabbyAt_84 (by decide) ?_
        exact ih _ _ _ _ h
set_option maxRecDepth 100000 in
set_option maxHeartbeats 4000000 in
theorem c_X7_shabbyAt (x1 : Int32) (m : fm_M) {res : Int32} (h : f_X7_shabbyAt x1 m = some res) : fm_Met fm_layW 3 m_X7_shabbyAt [.ref 23, .int x1] m (fm_pi res m) := by
  refine fm_Met_of (ls := [some (.ref 23), some (.int x1), none, none, none]) (by decide) rfl (fm_cc_r _ (fm_cc_i _ fm_cc_0)) (Nat.le_of_ble_eq_true rfl) rfl ?_
  unfold f_X7_shabbyAt at h
  refine go_iconst (pc := 0) (v := (0 : Int32)) dX7_shabbyAt_0 (by decide) ?_
  refine go_istore_n (pc := 1) (ls1 := [some (.ref 23), some (.int x1), some (.int (0 : Int32)), none, none]) dX7_shabbyAt_1 rfl (by decide) rfl ?_
  exact c_X7_shabbyAt_L2  fm_F _ _ _ _ h
def f_X7_yearBegins_L112 : Nat → Int32 → fm_M → Option (fm_M)
  | 0, _, _ => none
  | n + 1, y1, m => if y1 < 0 then (some m) else ((f_X7_of y1 (4 : Int32) m).bind fun v10 => if v10 < (2 : Int32) then (some m) else (if fm_in (3 : Int32) 320 = true then (if (m 24 (3 : Int32).toNatClampNeg) < (8 : Int32) then (some m) else ((f_X7_sets y1 (4 : Int32) (0 : Int32) m).bind fun v15 => if fm_in (3 : Int32) 320 = true then (if fm_in (3 : Int32) 320 = true then (if fm_in (6 : Int32) 320 = true then (if fm_in (6 : Int32) 320 = true then (if fm_in (7 : Int32) 320 = true then (if fm_in (7 : Int32) 320 = true then ((f_X7_shabbyAt (0 : Int32) (fm_put (fm_put (fm_put v15 24 (3 : Int32).toNatClampNeg ((v15 24 (3 : Int32).toNatClampNeg) - (8 : Int32))) 24 (6 : Int32).toNatClampNeg (((fm_put v15 24 (3 : Int32).toNatClampNeg ((v15 24 (3 : Int32).toNatClampNeg) - (8 : Int32))) 24 (6 : Int32).toNatClampNeg) + (8 : Int32))) 24 (7 : Int32).toNatClampNeg (((fm_put (fm_put v15 24 (3 : Int32).toNatClampNeg ((v15 24 (3 : Int32).toNatClampNeg) - (8 : Int32))) 24 (6 : Int32).toNatClampNeg (((fm_put v15 24 (3 : Int32).toNatClampNeg ((v15 24 (3 : Int32).toNatClampNeg) - (8 : Int32))) 24 (6 : Int32).toNatClampNeg) + (8 : Int32))) 24 (7 : Int32).toNatClampNeg) + (1 : Int32)))).bind fun v23 => f_X7_yearBegins_L112 n v23 (fm_put (fm_put (fm_put v15 24 (3 : Int32).toNatClampNeg ((v15 24 (3 : Int32).toNatClampNeg) - (8 : Int32))) 24 (6 : Int32).toNatClampNeg (((fm_put v15 24 (3 : Int32).toNatClampNeg ((v15 24 (3 : Int32).toNatClampNeg) - (8 : Int32))) 24 (6 : Int32).toNatClampNeg) + (8 : Int32))) 24 (7 : Int32).toNatClampNeg (((fm_put (fm_put v15 24 (3 : Int32).toNatClampNeg ((v15 24 (3 : Int32).toNatClampNeg) - (8 : Int32))) 24 (6 : Int32).toNatClampNeg (((fm_put v15 24 (3 : Int32).toNatClampNeg ((v15 24 (3 : Int32).toNatClampNeg) - (8 : Int32))) 24 (6 : Int32).toNatClampNeg) + (8 : Int32))) 24 (7 : Int32).toNatClampNeg) + (1 : Int32)))) else none) else none) else none) else none) else none) else none)) else none))
def f_X7_yearBegins_L27 : Nat → Int32 → fm_M → Option (fm_M)
  | 0, _, _ => none
  | n + 1, y1, m => if fm_in (2 : Int32) 320 = true then (if (m 24 (2 : Int32).toNatClampNeg) ≤ y1 then ((f_X7_shabbyAt (0 : Int32) m).bind fun v7 => f_X7_yearBegins_L112 fm_F v7 m) else ((f_X7_of y1 (0 : Int32) m).bind fun v25 => (f_X7_isSo y1 (0 : Int32) m).bind fun v27 => if v27 = true then ((f_X7_sets y1 (0 : Int32) (v25 + (1 : Int32)) m).bind fun v30 => (f_X7_of y1 (4 : Int32) v30).bind fun v32 => (f_X7_isSo y1 (1 : Int32) v30).bind fun v34 => if v34 = true then ((f_X7_sets y1 (4 : Int32) (v32 + (1 : Int32)) v30).bind fun v39 => f_X7_yearBegins_L27 n (y1 + (1 : Int32)) v39) else ((f_X7_sets y1 (4 : Int32) (v32 + (0 : Int32)) v30).bind fun v37 => f_X7_yearBegins_L27 n (y1 + (1 : Int32)) v37)) else ((f_X7_isSo y1 (1 : Int32) m).bind fun v41 => if v41 = true then ((f_X7_sets y1 (0 : Int32) (v25 + (1 : Int32)) m).bind fun v55 => (f_X7_of y1 (4 : Int32) v55).bind fun v57 => (f_X7_isSo y1 (1 : Int32) v55).bind fun v59 => if v59 = true then ((f_X7_sets y1 (4 : Int32) (v57 + (1 : Int32)) v55).bind fun v64 => f_X7_yearBegins_L27 n (y1 + (1 : Int32)) v64) else ((f_X7_sets y1 (4 : Int32) (v57 + (0 : Int32)) v55).bind fun v62 => f_X7_yearBegins_L27 n (y1 + (1 : Int32)) v62)) else ((f_X7_sets y1 (0 : Int32) (v25 + (0 : Int32)) m).bind fun v44 => (f_X7_of y1 (4 : Int32) v44).bind fun v46 => (f_X7_isSo y1 (1 : Int32) v44).bind fun v48 => if v48 = true then ((f_X7_sets y1 (4 : Int32) (v46 + (1 : Int32)) v44).bind fun v53 => f_X7_yearBegins_L27 n (y1 + (1 : Int32)) v53) else ((f_X7_sets y1 (4 : Int32) (v46 + (0 : Int32)) v44).bind fun v51 => f_X7_yearBegins_L27 n (y1 + (1 : Int32)) v51))))) else none
def f_X7_yearBegins (m : fm_M) : Option (fm_M) :=
  if fm_in (1 : Int32) 320 = true then (if fm_in (0 : Int32) 320 = true then (if fm_in (0 : Int32) 320 = true then (if fm_in (8 : Int32) 320 = true then (f_X7_yearBegins_L27 fm_F (0 : Int32) (fm_put (fm_put (fm_put m 24 (1 : Int32).toNatClampNeg (0 : Int32)) 24 (0 : Int32).toNatClampNeg (((fm_put m 24 (1 : Int32).toNatClampNeg (0 : Int32)) 24 (0 : Int32).toNatClampNeg) + (1 : Int32))) 24 (8 : Int32).toNatClampNeg (0 : Int32))) else none) else none) else none) else none
set_option maxRecDepth 100000 in
set_option maxHeartbeats 4000000 in
theorem c_X7_yearBegins_L112 : ∀ (n : Nat) (y1 : Int32) (m : fm_M) (res : fm_M), f_X7_yearBegins_L112 n y1 m = some res → fm_Go fm_layW 4 m_X7_yearBegins (fm_pv res) 112 [some (.ref 23), some (.int y1)] [] m := by
  intro n
  induction n with
  | zero => intro y1 m res h; cases h
  | succ n ih =>
    intro y1 m res h
    rw [f_X7_yearBegins_L112] at h
    refine go_iload_n (pc := 112) dX7_yearBegins_112 rfl rfl ?_
    refine go_if_lt (pc := 113) (tgt := 187) dX7_yearBegins_113 (by decide) (fun c9 => ?_) (fun c9 => ?_)
    · rw [if_pos c9] at h
      obtain rfl := Option.some.inj h
      exact go_vret (pc := 187) dX7_yearBegins_187 rfl ⟨rfl, rfl⟩
    · rw [if_neg c9] at h
      refine go_aload_n (pc := 116) dX7_yearBegins_116 rfl rfl ?_
      refine go_iload_n (pc := 117) dX7_yearBegins_117 rfl rfl ?_
      refine go_iconst (pc := 118) (v := (4 : Int32)) dX7_yearBegins_118 (by decide) ?_
      obtain ⟨v10, hv11, h⟩ := fm_bind h
      refine go_callVi (pc := 119) (As := [.int y1, .int (4 : Int32)]) (st := []) dX7_yearBegins_119 (c_X7_of   _ _ _ hv11) (by decide) ce_X7_of ml_X7_64 in_X7_of se_X7_of cl_X7 rfl rfl (Nat.le_of_ble_eq_true rfl) rfl ?_
      refine go_iconst (pc := 122) (v := (2 : Int32)) dX7_yearBegins_122 (by decide) ?_
      refine go_icmp_lt (pc := 123) (tgt := 187) dX7_yearBegins_123 (by decide) (fun c12 => ?_) (fun c12 => ?_)
      · rw [if_pos c12] at h
        obtain rfl := Option.some.inj h
        exact go_vret (pc := 187) dX7_yearBegins_187 rfl ⟨rfl, rfl⟩
      · rw [if_neg c12] at h
        refine go_aload_n (pc := 126) dX7_yearBegins_126 rfl rfl ?_
        refine go_getR (pc := 127) (k := 4) (q2 := 24) dX7_yearBegins_127 cl_X7 rfl rfl (by decide) lk_X7_7 ?_
        refine go_iconst (pc := 130) (v := (3 : Int32)) dX7_yearBegins_130 (by decide) ?_
        obtain ⟨hi13, h⟩ := fm_chk h
        refine go_iald (pc := 131) dX7_yearBegins_131 rfl (fm_in_vp hi13) ?_
        refine go_bipush (pc := 132) (v := (8 : Int32)) dX7_yearBegins_132 (by decide) ?_
        refine go_icmp_lt (pc := 134) (tgt := 187) dX7_yearBegins_134 (by decide) (fun c14 => ?_) (fun c14 => ?_)
        · rw [if_pos c14] at h
          obtain rfl := Option.some.inj h
          exact go_vret (pc := 187) dX7_yearBegins_187 rfl ⟨rfl, rfl⟩
        · rw [if_neg c14] at h
          refine go_aload_n (pc := 137) dX7_yearBegins_137 rfl rfl ?_
          refine go_iload_n (pc := 138) dX7_yearBegins_138 rfl rfl ?_
          refine go_iconst (pc := 139) (v := (4 : Int32)) dX7_yearBegins_139 (by decide) ?_
          refine go_iconst (pc := 140) (v := (0 : Int32)) dX7_yearBegins_140 (by decide) ?_
          obtain ⟨v15, hv16, h⟩ := fm_bind h
          refine go_callVv (pc := 141) (As := [.int y1, .int (4 : Int32), .int (0 : Int32)]) (st := []) dX7_yearBegins_141 (c_X7_sets   _ _ _ _ hv16) (by decide) ce_X7_sets ml_X7_76 in_X7_sets se_X7_sets cl_X7 rfl rfl (Nat.le_of_ble_eq_true rfl) rfl ?_
          refine go_aload_n (pc := 144) dX7_yearBegins_144 rfl rfl ?_
          refine go_getR (pc := 145) (k := 4) (q2 := 24) dX7_yearBegins_145 cl_X7 rfl rfl (by decide) lk_X7_7 ?_
          refine go_iconst (pc := 148) (v := (3 : Int32)) dX7_yearBegins_148 (by decide) ?_
          refine go_dup2 (pc := 149) dX7_yearBegins_149 rfl rfl ?_
          obtain ⟨hi17, h⟩ := fm_chk h
          refine go_iald (pc := 150) dX7_yearBegins_150 rfl (fm_in_vp hi17) ?_
          refine go_bipush (pc := 151) (v := (8 : Int32)) dX7_yearBegins_151 (by decide) ?_
          refine go_isub (pc := 153) dX7_yearBegins_153 ?_
          obtain ⟨hi18, h⟩ := fm_chk h
          refine go_iast (pc := 154) dX7_yearBegins_154 rfl (fm_in_vp hi18) ?_
          refine go_aload_n (pc := 155) dX7_yearBegins_155 rfl rfl ?_
          refine go_getR (pc := 156) (k := 4) (q2 := 24) dX7_yearBegins_156 cl_X7 rfl rfl (by decide) lk_X7_7 ?_
          refine go_bipush (pc := 159) (v := (6 : Int32)) dX7_yearBegins_159 (by decide) ?_
          refine go_dup2 (pc := 161) dX7_yearBegins_161 rfl rfl ?_
          obtain ⟨hi19, h⟩ := fm_chk h
          refine go_iald (pc := 162) dX7_yearBegins_162 rfl (fm_in_vp hi19) ?_
          refine go_bipush (pc := 163) (v := (8 : Int32)) dX7_yearBegins_163 (by decide) ?_
          refine go_iadd (pc := 165) dX7_yearBegins_165 ?_
          obtain ⟨hi20, h⟩ := fm_chk h
          refine go_iast (pc := 166) dX7_yearBegins_166 rfl (fm_in_vp hi20) ?_
          refine go_aload_n (pc := 167) dX7_yearBegins_167 rfl rfl ?_
          refine go_getR (pc := 168) (k := 4) (q2 := 24) dX7_yearBegins_168 cl_X7 rfl rfl (by decide) lk_X7_7 ?_
          refine go_bipush (pc := 171) (v := (7 : Int32)) dX7_yearBegins_171 (by decide) ?_
          refine go_dup2 (pc := 173) dX7_yearBegins_173 rfl rfl ?_
          obtain ⟨hi21, h⟩ := fm_chk h
          refine go_iald (pc := 174) dX7_yearBegins_174 rfl (fm_in_vp hi21) ?_
          refine go_iconst (pc := 175) (v := (1 : Int32)) dX7_yearBegins_175 (by decide) ?_
          refine go_iadd (pc := 176) dX7_yearBegins_176 ?_
          obtain ⟨hi22, h⟩ := fm_chk h
          refine go_iast (pc := 177) dX7_yearBegins_177 rfl (fm_in_vp hi22) ?_
          refine go_aload_n (pc := 178) dX7_yearBegins_178 rfl rfl ?_
          refine go_iconst (pc := 179) (v := (0 : Int32)) dX7_yearBegins_179 (by decide) ?_
          obtain ⟨v23, hv24, h⟩ := fm_bind h
          refine go_callVi (pc := 180) (As := [.int (0 : Int32)]) (st := []) dX7_yearBegins_180 (c_X7_shabbyAt   _ _ hv24) (by decide) ce_X7_shabbyAt ml_X7_180 in_X7_shabbyAt se_X7_shabbyAt cl_X7 rfl rfl (Nat.le_of_ble_eq_true rfl) rfl ?_
          refine go_istore_n (pc := 183) (ls1 := [some (.ref 23), some (.int v23)]) dX7_yearBegins_183 rfl (by decide) rfl ?_
          refine go_goto (pc := 184) (tgt := 112) dX7_yearBegins_184 (by decide) ?_
          exact ih _ _ _ h
set_option maxRecDepth 100000 in
set_option maxHeartbeats 4000000 in
theorem c_X7_yearBegins_L27 : ∀ (n : Nat) (y1 : Int32) (m : fm_M) (res : fm_M), f_X7_yearBegins_L27 n y1 m = some res → fm_Go fm_layW 4 m_X7_yearBegins (fm_pv res) 27 [some (.ref 23), some (.int y1)] [] m := by
  intro n
  induction n with
  | zero => intro y1 m res h; cases h
  | succ n ih =>
    intro y1 m res h
    rw [f_X7_yearBegins_L27] at h
    refine go_iload_n (pc := 27) dX7_yearBegins_27 rfl rfl ?_
    refine go_aload_n (pc := 28) dX7_yearBegins_28 rfl rfl ?_
    refine go_getR (pc := 29) (k := 4) (q2 := 24) dX7_yearBegins_29 cl_X7 rfl rfl (by decide) lk_X7_7 ?_
    refine go_iconst (pc := 32) (v := (2 : Int32)) dX7_yearBegins_32 (by decide) ?_
    obtain ⟨hi5, h⟩ := fm_chk h
    refine go_iald (pc := 33) dX7_yearBegins_33 rfl (fm_in_vp hi5) ?_
    refine go_icmp_ge (pc := 34) (tgt := 106) dX7_yearBegins_34 (by decide) (fun c6 => ?_) (fun c6 => ?_)
    · rw [if_pos c6] at h
      refine go_aload_n (pc := 106) dX7_yearBegins_106 rfl rfl ?_
      refine go_iconst (pc := 107) (v := (0 : Int32)) dX7_yearBegins_107 (by decide) ?_
      obtain ⟨v7, hv8, h⟩ := fm_bind h
      refine go_callVi (pc := 108) (As := [.int (0 : Int32)]) (st := []) dX7_yearBegins_108 (c_X7_shabbyAt   _ _ hv8) (by decide) ce_X7_shabbyAt ml_X7_180 in_X7_shabbyAt se_X7_shabbyAt cl_X7 rfl rfl (Nat.le_of_ble_eq_true rfl) rfl ?_
      refine go_istore_n (pc := 111) (ls1 := [some (.ref 23), some (.int v7)]) dX7_yearBegins_111 rfl (by decide) rfl ?_
      exact c_X7_yearBegins_L112  fm_F _ _ _ h
    · rw [if_neg c6] at h
      refine go_aload_n (pc := 37) dX7_yearBegins_37 rfl rfl ?_
      refine go_iload_n (pc := 38) dX7_yearBegins_38 rfl rfl ?_
      refine go_iconst (pc := 39) (v := (0 : Int32)) dX7_yearBegins_39 (by decide) ?_
      refine go_aload_n (pc := 40) dX7_yearBegins_40 rfl rfl ?_
      refine go_iload_n (pc := 41) dX7_yearBegins_41 rfl rfl ?_
      refine go_iconst (pc := 42) (v := (0 : Int32)) dX7_yearBegins_42 (by decide) ?_
      obtain ⟨v25, hv26, h⟩ := fm_bind h
      refine go_callVi (pc := 43) (As := [.int y1, .int (0 : Int32)]) (st := [.int (0 : Int32), .int y1, .ref 23]) dX7_yearBegins_43 (c_X7_of   _ _ _ hv26) (by decide) ce_X7_of ml_X7_64 in_X7_of se_X7_of cl_X7 rfl rfl (Nat.le_of_ble_eq_true rfl) rfl ?_
      refine go_aload_n (pc := 46) dX7_yearBegins_46 rfl rfl ?_
      refine go_iload_n (pc := 47) dX7_yearBegins_47 rfl rfl ?_
      refine go_iconst (pc := 48) (v := (0 : Int32)) dX7_yearBegins_48 (by decide) ?_
      obtain ⟨v27, hv28, h⟩ := fm_bind h
      refine go_callVi (pc := 49) (As := [.int y1, .int (0 : Int32)]) (st := [.int v25, .int (0 : Int32), .int y1, .ref 23]) dX7_yearBegins_49 (c_X7_isSo   _ _ _ hv28) (by decide) ce_X7_isSo ml_X7_68 in_X7_isSo se_X7_isSo cl_X7 rfl rfl (Nat.le_of_ble_eq_true rfl) rfl ?_
      refine go_ifb_ne (pc := 52) (tgt := 64) dX7_yearBegins_52 (by decide) (fun c29 => ?_) (fun c29 => ?_)
      · rw [if_pos c29] at h
        refine go_iconst (pc := 64) (v := (1 : Int32)) dX7_yearBegins_64 (by decide) ?_
        refine go_goto (pc := 65) (tgt := 69) dX7_yearBegins_65 (by decide) ?_
        refine go_iadd (pc := 69) dX7_yearBegins_69 ?_
        obtain ⟨v30, hv31, h⟩ := fm_bind h
        refine go_callVv (pc := 70) (As := [.int y1, .int (0 : Int32), .int (v25 + (1 : Int32))]) (st := []) dX7_yearBegins_70 (c_X7_sets   _ _ _ _ hv31) (by decide) ce_X7_sets ml_X7_76 in_X7_sets se_X7_sets cl_X7 rfl rfl (Nat.le_of_ble_eq_true rfl) rfl ?_
        refine go_aload_n (pc := 73) dX7_yearBegins_73 rfl rfl ?_
        refine go_iload_n (pc := 74) dX7_yearBegins_74 rfl rfl ?_
        refine go_iconst (pc := 75) (v := (4 : Int32)) dX7_yearBegins_75 (by decide) ?_
        refine go_aload_n (pc := 76) dX7_yearBegins_76 rfl rfl ?_
        refine go_iload_n (pc := 77) dX7_yearBegins_77 rfl rfl ?_
        refine go_iconst (pc := 78) (v := (4 : Int32)) dX7_yearBegins_78 (by decide) ?_
        obtain ⟨v32, hv33, h⟩ := fm_bind h
        refine go_callVi (pc := 79) (As := [.int y1, .int (4 : Int32)]) (st := [.int (4 : Int32), .int y1, .ref 23]) dX7_yearBegins_79 (c_X7_of   _ _ _ hv33) (by decide) ce_X7_of ml_X7_64 in_X7_of se_X7_of cl_X7 rfl rfl (Nat.le_of_ble_eq_true rfl) rfl ?_
        refine go_aload_n (pc := 82) dX7_yearBegins_82 rfl rfl ?_
        refine go_iload_n (pc := 83) dX7_yearBegins_83 rfl rfl ?_
        refine go_iconst (pc := 84) (v := (1 : Int32)) dX7_yearBegins_84 (by decide) ?_
        obtain ⟨v34, hv35, h⟩ := fm_bind h
        refine go_callVi (pc := 85) (As := [.int y1, .int (1 : Int32)]) (st := [.int v32, .int (4 : Int32), .int y1, .ref 23]) dX7_yearBegins_85 (c_X7_isSo   _ _ _ hv35) (by decide) ce_X7_isSo ml_X7_68 in_X7_isSo se_X7_isSo cl_X7 rfl rfl (Nat.le_of_ble_eq_true rfl) rfl ?_
        refine go_ifb_eq (pc := 88) (tgt := 95) dX7_yearBegins_88 (by decide) (fun c36 => ?_) (fun c36 => ?_)
        · rw [if_neg (by rw [c36]; decide)] at h
          refine go_iconst (pc := 95) (v := (0 : Int32)) dX7_yearBegins_95 (by decide) ?_
          refine go_iadd (pc := 96) dX7_yearBegins_96 ?_
          obtain ⟨v37, hv38, h⟩ := fm_bind h
          refine go_callVv (pc := 97) (As := [.int y1, .int (4 : Int32), .int (v32 + (0 : Int32))]) (st := []) dX7_yearBegins_97 (c_X7_sets   _ _ _ _ hv38) (by decide) ce_X7_sets ml_X7_76 in_X7_sets se_X7_sets cl_X7 rfl rfl (Nat.le_of_ble_eq_true rfl) rfl ?_
          refine go_iinc (pc := 100) (v := (y1 + (1 : Int32))) (ls1 := [some (.ref 23), some (.int (y1 + (1 : Int32)))]) dX7_yearBegins_100 rfl rfl (Nat.le_of_ble_eq_true rfl) rfl ?_
          refine go_goto (pc := 103) (tgt := 27) dX7_yearBegins_103 (by decide) ?_
          exact ih _ _ _ h
        · rw [if_pos c36] at h
          refine go_iconst (pc := 91) (v := (1 : Int32)) dX7_yearBegins_91 (by decide) ?_
          refine go_goto (pc := 92) (tgt := 96) dX7_yearBegins_92 (by decide) ?_
          refine go_iadd (pc := 96) dX7_yearBegins_96 ?_
          obtain ⟨v39, hv40, h⟩ := fm_bind h
          refine go_callVv (pc := 97) (As := [.int y1, .int (4 : Int32), .int (v32 + (1 : Int32))]) (st := []) dX7_yearBegins_97 (c_X7_sets   _ _ _ _ hv40) (by decide) ce_X7_sets ml_X7_76 in_X7_sets se_X7_sets cl_X7 rfl rfl (Nat.le_of_ble_eq_true rfl) rfl ?_
          refine go_iinc (pc := 100) (v := (y1 + (1 : Int32))) (ls1 := [some (.ref 23), some (.int (y1 + (1 : Int32)))]) dX7_yearBegins_100 rfl rfl (Nat.le_of_ble_eq_true rfl) rfl ?_
          refine go_goto (pc := 103) (tgt := 27) dX7_yearBegins_103 (by decide) ?_
          exact ih _ _ _ h
      · rw [if_neg (by rw [c29]; decide)] at h
        refine go_aload_n (pc := 55) dX7_yearBegins_55 rfl rfl ?_
        refine go_iload_n (pc := 56) dX7_yearBegins_56 rfl rfl ?_
        refine go_iconst (pc := 57) (v := (1 : Int32)) dX7_yearBegins_57 (by decide) ?_
        obtain ⟨v41, hv42, h⟩ := fm_bind h
        refine go_callVi (pc := 58) (As := [.int y1, .int (1 : Int32)]) (st := [.int v25, .int (0 : Int32), .int y1, .ref 23]) dX7_yearBegins_58 (c_X7_isSo   _ _ _ hv42) (by decide) ce_X7_isSo ml_X7_68 in_X7_isSo se_X7_isSo cl_X7 rfl rfl (Nat.le_of_ble_eq_true rfl) rfl ?_
        refine go_ifb_eq (pc := 61) (tgt := 68) dX7_yearBegins_61 (by decide) (fun c43 => ?_) (fun c43 => ?_)
        · rw [if_neg (by rw [c43]; decide)] at h
          refine go_iconst (pc := 68) (v := (0 : Int32)) dX7_yearBegins_68 (by decide) ?_
          refine go_iadd (pc := 69) dX7_yearBegins_69 ?_
          obtain ⟨v44, hv45, h⟩ := fm_bind h
          refine go_callVv (pc := 70) (As := [.int y1, .int (0 : Int32), .int (v25 + (0 : Int32))]) (st := []) dX7_yearBegins_70 (c_X7_sets   _ _ _ _ hv45) (by decide) ce_X7_sets ml_X7_76 in_X7_sets se_X7_sets cl_X7 rfl rfl (Nat.le_of_ble_eq_true rfl) rfl ?_
          refine go_aload_n (pc := 73) dX7_yearBegins_73 rfl rfl ?_
          refine go_iload_n (pc := 74) dX7_yearBegins_74 rfl rfl ?_
          refine go_iconst (pc := 75) (v := (4 : Int32)) dX7_yearBegins_75 (by decide) ?_
          refine go_aload_n (pc := 76) dX7_yearBegins_76 rfl rfl ?_
          refine go_iload_n (pc := 77) dX7_yearBegins_77 rfl rfl ?_
          refine go_iconst (pc := 78) (v := (4 : Int32)) dX7_yearBegins_78 (by decide) ?_
          obtain ⟨v46, hv47, h⟩ := fm_bind h
          refine go_callVi (pc := 79) (As := [.int y1, .int (4 : Int32)]) (st := [.int (4 : Int32), .int y1, .ref 23]) dX7_yearBegins_79 (c_X7_of   _ _ _ hv47) (by decide) ce_X7_of ml_X7_64 in_X7_of se_X7_of cl_X7 rfl rfl (Nat.le_of_ble_eq_true rfl) rfl ?_
          refine go_aload_n (pc := 82) dX7_yearBegins_82 rfl rfl ?_
          refine go_iload_n (pc := 83) dX7_yearBegins_83 rfl rfl ?_
          refine go_iconst (pc := 84) (v := (1 : Int32)) dX7_yearBegins_84 (by decide) ?_
          obtain ⟨v48, hv49, h⟩ := fm_bind h
          refine go_callVi (pc := 85) (As := [.int y1, .int (1 : Int32)]) (st := [.int v46, .int (4 : Int32), .int y1, .ref 23]) dX7_yearBegins_85 (c_X7_isSo   _ _ _ hv49) (by decide) ce_X7_isSo ml_X7_68 in_X7_isSo se_X7_isSo cl_X7 rfl rfl (Nat.le_of_ble_eq_true rfl) rfl ?_
          refine go_ifb_eq (pc := 88) (tgt := 95) dX7_yearBegins_88 (by decide) (fun c50 => ?_) (fun c50 => ?_)
          · rw [if_neg (by rw [c50]; decide)] at h
            refine go_iconst (pc := 95) (v := (0 : Int32)) dX7_yearBegins_95 (by decide) ?_
            refine go_iadd (pc := 96) dX7_yearBegins_96 ?_
            obtain ⟨v51, hv52, h⟩ := fm_bind h
            refine go_callVv (pc := 97) (As := [.int y1, .int (4 : Int32), .int (v46 + (0 : Int32))]) (st := []) dX7_yearBegins_97 (c_X7_sets   _ _ _ _ hv52) (by decide) ce_X7_sets ml_X7_76 in_X7_sets se_X7_sets cl_X7 rfl rfl (Nat.le_of_ble_eq_true rfl) rfl ?_
            refine go_iinc (pc := 100) (v := (y1 + (1 : Int32))) (ls1 := [some (.ref 23), some (.int (y1 + (1 : Int32)))]) dX7_yearBegins_100 rfl rfl (Nat.le_of_ble_eq_true rfl) rfl ?_
            refine go_goto (pc := 103) (tgt := 27) dX7_yearBegins_103 (by decide) ?_
            exact ih _ _ _ h
          · rw [if_pos c50] at h
            refine go_iconst (pc := 91) (v := (1 : Int32)) dX7_yearBegins_91 (by decide) ?_
            refine go_goto (pc := 92) (tgt := 96) dX7_yearBegins_92 (by decide) ?_
            refine go_iadd (pc := 96) dX7_yearBegins_96 ?_
            obtain ⟨v53, hv54, h⟩ := fm_bind h
            refine go_callVv (pc := 97) (As := [.int y1, .int (4 : Int32), .int (v46 + (1 : Int32))]) (st := []) dX7_yearBegins_97 (c_X7_sets   _ _ _ _ hv54) (by decide) ce_X7_sets ml_X7_76 in_X7_sets se_X7_sets cl_X7 rfl rfl (Nat.le_of_ble_eq_true rfl) rfl ?_
            refine go_iinc (pc := 100) (v := (y1 + (1 : Int32))) (ls1 := [some (.ref 23), some (.int (y1 + (1 : Int32)))]) dX7_yearBegins_100 rfl rfl (Nat.le_of_ble_eq_true rfl) rfl ?_
            refine go_goto (pc := 103) (tgt := 27) dX7_yearBegins_103 (by decide) ?_
            exact ih _ _ _ h
        · rw [if_pos c43] at h
          refine go_iconst (pc := 64) (v := (1 : Int32)) dX7_yearBegins_64 (by decide) ?_
          refine go_goto (pc := 65) (tgt := 69) dX7_yearBegins_65 (by decide) ?_
          refine go_iadd (pc := 69) dX7_yearBegins_69 ?_
          obtain ⟨v55, hv56, h⟩ := fm_bind h
          refine go_callVv (pc := 70) (As := [.int y1, .int (0 : Int32), .int (v25 + (1 : Int32))]) (st := []) dX7_yearBegins_70 (c_X7_sets   _ _ _ _ hv56) (by decide) ce_X7_sets ml_X7_76 in_X7_sets se_X7_sets cl_X7 rfl rfl (Nat.le_of_ble_eq_true rfl) rfl ?_
          refine go_aload_n (pc := 73) dX7_yearBegins_73 rfl rfl ?_
          refine go_iload_n (pc := 74) dX7_yearBegins_74 rfl rfl ?_
          refine go_iconst (pc := 75) (v := (4 : Int32)) dX7_yearBegins_75 (by decide) ?_
          refine go_aload_n (pc := 76) dX7_yearBegins_76 rfl rfl ?_
          refine go_iload_n (pc := 77) dX7_yearBegins_77 rfl rfl ?_
          refine go_iconst (pc := 78) (v := (4 : Int32)) dX7_yearBegins_78 (by decide) ?_
          obtain ⟨v57, hv58, h⟩ := fm_bind h
          refine go_callVi (pc := 79) (As := [.int y1, .int (4 : Int32)]) (st := [.int (4 : Int32), .int y1, .ref 23]) dX7_yearBegins_79 (c_X7_of   _ _ _ hv58) (by decide) ce_X7_of ml_X7_64 in_X7_of se_X7_of cl_X7 rfl rfl (Nat.le_of_ble_eq_true rfl) rfl ?_
          refine go_aload_n (pc := 82) dX7_yearBegins_82 rfl rfl ?_
          refine go_iload_n (pc := 83) dX7_yearBegins_83 rfl rfl ?_
          refine go_iconst (pc := 84) (v := (1 : Int32)) dX7_yearBegins_84 (by decide) ?_
          obtain ⟨v59, hv60, h⟩ := fm_bind h
          refine go_callVi (pc := 85) (As := [.int y1, .int (1 : Int32)]) (st := [.int v57, .int (4 : Int32), .int y1, .ref 23]) dX7_yearBegins_85 (c_X7_isSo   _ _ _ hv60) (by decide) ce_X7_isSo ml_X7_68 in_X7_isSo se_X7_isSo cl_X7 rfl rfl (Nat.le_of_ble_eq_true rfl) rfl ?_
          refine go_ifb_eq (pc := 88) (tgt := 95) dX7_yearBegins_88 (by decide) (fun c61 => ?_) (fun c61 => ?_)
          · rw [if_neg (by rw [c61]; decide)] at h
            refine go_iconst (pc := 95) (v := (0 : Int32)) dX7_yearBegins_95 (by decide) ?_
            refine go_iadd (pc := 96) dX7_yearBegins_96 ?_
            obtain ⟨v62, hv63, h⟩ := fm_bind h
            refine go_callVv (pc := 97) (As := [.int y1, .int (4 : Int32), .int (v57 + (0 : Int32))]) (st := []) dX7_yearBegins_97 (c_X7_sets   _ _ _ _ hv63) (by decide) ce_X7_sets ml_X7_76 in_X7_sets se_X7_sets cl_X7 rfl rfl (Nat.le_of_ble_eq_true rfl) rfl ?_
            refine go_iinc (pc := 100) (v := (y1 + (1 : Int32))) (ls1 := [some (.ref 23), some (.int (y1 + (1 : Int32)))]) dX7_yearBegins_100 rfl rfl (Nat.le_of_ble_eq_true rfl) rfl ?_
            refine go_goto (pc := 103) (tgt := 27) dX7_yearBegins_103 (by decide) ?_
            exact ih _ _ _ h
          · rw [if_pos c61] at h
            refine go_iconst (pc := 91) (v := (1 : Int32)) dX7_yearBegins_91 (by decide) ?_
            refine go_goto (pc := 92) (tgt := 96) dX7_yearBegins_92 (by decide) ?_
            refine go_iadd (pc := 96) dX7_yearBegins_96 ?_
            obtain ⟨v64, hv65, h⟩ := fm_bind h
            refine go_callVv (pc := 97) (As := [.int y1, .int (4 : Int32), .int (v57 + (1 : Int32))]) (st := []) dX7_yearBegins_97 (c_X7_sets   _ _ _ _ hv65) (by decide) ce_X7_sets ml_X7_76 in_X7_sets se_X7_sets cl_X7 rfl rfl (Nat.le_of_ble_eq_true rfl) rfl ?_
            refine go_iinc (pc := 100) (v := (y1 + (1 : Int32))) (ls1 := [some (.ref 23), some (.int (y1 + (1 : Int32)))]) dX7_yearBegins_100 rfl rfl (Nat.le_of_ble_eq_true rfl) rfl ?_
            refine go_goto (pc := 103) (tgt := 27) dX7_yearBegins_103 (by decide) ?_
            exact ih _ _ _ h
set_option maxRecDepth 100000 in
set_option maxHeartbeats 4000000 in
theorem c_X7_yearBegins (m : fm_M) {res : fm_M} (h : f_X7_yearBegins  m = some res) : fm_Met fm_layW 4 m_X7_yearBegins [.ref 23] m (fm_pv res) := by
  refine fm_Met_of (ls := [some (.ref 23), none]) (by decide) rfl (fm_cc_r _ fm_cc_0) (Nat.le_of_ble_eq_true rfl) rfl ?_
  unfold f_X7_yearBegins at h
  refine go_aload_n (pc := 0) dX7_yearBegins_0 rfl rfl ?_
  refine go_getR (pc := 1) (k := 4) (q2 := 24) dX7_yearBegins_1 cl_X7 rfl rfl (by decide) lk_X7_7 ?_
  refine go_iconst (pc := 4) (v := (1 : Int32)) dX7_yearBegins_4 (by decide) ?_
  refine go_iconst (pc := 5) (v := (0 : Int32)) dX7_yearBegins_5 (by decide) ?_
  obtain ⟨hi1, h⟩ := fm_chk h
  refine go_iast (pc := 6) dX7_yearBegins_6 rfl (fm_in_vp hi1) ?_
  refine go_aload_n (pc := 7) dX7_yearBegins_7 rfl rfl ?_
  refine go_getR (pc := 8) (k := 4) (q2 := 24) dX7_yearBegins_8 cl_X7 rfl rfl (by decide) lk_X7_7 ?_
  refine go_iconst (pc := 11) (v := (0 : Int32)) dX7_yearBegins_11 (by decide) ?_
  refine go_dup2 (pc := 12) dX7_yearBegins_12 rfl rfl ?_
  obtain ⟨hi2, h⟩ := fm_chk h
  refine go_iald (pc := 13) dX7_yearBegins_13 rfl (fm_in_vp hi2) ?_
  refine go_iconst (pc := 14) (v := (1 : Int32)) dX7_yearBegins_14 (by decide) ?_
  refine go_iadd (pc := 15) dX7_yearBegins_15 ?_
  obtain ⟨hi3, h⟩ := fm_chk h
  refine go_iast (pc := 16) dX7_yearBegins_16 rfl (fm_in_vp hi3) ?_
  refine go_aload_n (pc := 17) dX7_yearBegins_17 rfl rfl ?_
  refine go_getR (pc := 18) (k := 4) (q2 := 24) dX7_yearBegins_18 cl_X7 rfl rfl (by decide) lk_X7_7 ?_
  refine go_bipush (pc := 21) (v := (8 : Int32)) dX7_yearBegins_21 (by decide) ?_
  refine go_iconst (pc := 23) (v := (0 : Int32)) dX7_yearBegins_23 (by decide) ?_
  obtain ⟨hi4, h⟩ := fm_chk h
  refine go_iast (pc := 24) dX7_yearBegins_24 rfl (fm_in_vp hi4) ?_
  refine go_iconst (pc := 25) (v := (0 : Int32)) dX7_yearBegins_25 (by decide) ?_
  refine go_istore_n (pc := 26) (ls1 := [some (.ref 23), some (.int (0 : Int32))]) dX7_yearBegins_26 rfl (by decide) rfl ?_
  exact c_X7_yearBegins_L27  fm_F _ _ _ h
def f_X7_weekGoes_L52 : Nat → Int32 → Int32 → fm_M → Option (Int32 × fm_M)
  | 0, _, _, _ => none
  | n + 1, y1, y2, m => if (8 : Int32) ≤ y2 then (if fm_in (1 : Int32) 320 = true then (if fm_in (1 : Int32) 320 = true then (if fm_in (1 : Int32) 320 = true then (if ((fm_put m 24 (1 : Int32).toNatClampNeg ((m 24 (1 : Int32).toNatClampNeg) + (1 : Int32))) 24 (1 : Int32).toNatClampNeg) = (52 : Int32) then ((f_X7_yearBegins (fm_put m 24 (1 : Int32).toNatClampNeg ((m 24 (1 : Int32).toNatClampNeg) + (1 : Int32)))).bind fun v10 => some (y1, v10)) else (some (y1, (fm_put m 24 (1 : Int32).toNatClampNeg ((m 24 (1 : Int32).toNatClampNeg) + (1 : Int32)))))) else none) else none) else none) else ((f_X7_brotherIn y2 m).bind fun v12 => if 0 ≤ v12 then (f_X7_weekGoes_L52 n y1 (y2 + (1 : Int32)) m) else ((f_X7_comesIn (2 : Int32) m).bind fun v15 => f_X7_weekGoes_L52 n y1 (y2 + (1 : Int32)) v15))
def f_X7_weekGoes_L7 : Nat → Int32 → Int32 → fm_M → Option (Int32 × fm_M)
  | 0, _, _, _ => none
  | n + 1, y1, y2, m => if fm_in (2 : Int32) 320 = true then (if (m 24 (2 : Int32).toNatClampNeg) ≤ y2 then (f_X7_weekGoes_L52 fm_F y1 (0 : Int32) m) else ((f_X7_of y2 (5 : Int32) m).bind fun v17 => if v17 ≤ 0 then ((f_X7_sets y2 (5 : Int32) (0 : Int32) m).bind fun v20 => f_X7_weekGoes_L7 n y1 (y2 + (1 : Int32)) v20) else ((f_X7_of y2 (5 : Int32) m).bind fun v22 => (f_X7_sets y2 (5 : Int32) (v22 - (1 : Int32)) m).bind fun v24 => f_X7_weekGoes_L7 n y1 (y2 + (1 : Int32)) v24))) else none
def f_X7_weekGoes (m : fm_M) : Option (Int32 × fm_M) :=
  (f_X7_feastComes m).bind fun v1 => f_X7_weekGoes_L7 fm_F v1.1 (0 : Int32) v1.2
set_option maxRecDepth 100000 in
set_option maxHeartbeats 4000000 in
theorem c_X7_weekGoes_L52 : ∀ (n : Nat) (y1 : Int32) (y2 : Int32) (m : fm_M) (res : Int32 × fm_M), f_X7_weekGoes_L52 n y1 y2 m = some res → fm_Go fm_layW 5 m_X7_weekGoes (fm_pi res.1 res.2) 52 [some (.ref 23), some (.int y1), some (.int y2)] [] m := by
  intro n
  induction n with
  | zero => intro y1 y2 m res h; cases h
  | succ n ih =>
    intro y1 y2 m res h
    rw [f_X7_weekGoes_L52] at h
    refine go_iload_n (pc := 52) dX7_weekGoes_52 rfl rfl ?_
    refine go_bipush (pc := 53) (v := (8 : Int32)) dX7_weekGoes_53 (by decide) ?_
    refine go_icmp_ge (pc := 55) (tgt := 77) dX7_weekGoes_55 (by decide) (fun c5 => ?_) (fun c5 => ?_)
    · rw [if_pos c5] at h
      refine go_aload_n (pc := 77) dX7_weekGoes_77 rfl rfl ?_
      refine go_getR (pc := 78) (k := 4) (q2 := 24) dX7_weekGoes_78 cl_X7 rfl rfl (by decide) lk_X7_7 ?_
      refine go_iconst (pc := 81) (v := (1 : Int32)) dX7_weekGoes_81 (by decide) ?_
      refine go_dup2 (pc := 82) dX7_weekGoes_82 rfl rfl ?_
      obtain ⟨hi6, h⟩ := fm_chk h
      refine go_iald (pc := 83) dX7_weekGoes_83 rfl (fm_in_vp hi6) ?_
      refine go_iconst (pc := 84) (v := (1 : Int32)) dX7_weekGoes_84 (by decide) ?_
      refine go_iadd (pc := 85) dX7_weekGoes_85 ?_
      obtain ⟨hi7, h⟩ := fm_chk h
      refine go_iast (pc := 86) dX7_weekGoes_86 rfl (fm_in_vp hi7) ?_
      refine go_aload_n (pc := 87) dX7_weekGoes_87 rfl rfl ?_
      refine go_getR (pc := 88) (k := 4) (q2 := 24) dX7_weekGoes_88 cl_X7 rfl rfl (by decide) lk_X7_7 ?_
      refine go_iconst (pc := 91) (v := (1 : Int32)) dX7_weekGoes_91 (by decide) ?_
      obtain ⟨hi8, h⟩ := fm_chk h
      refine go_iald (pc := 92) dX7_weekGoes_92 rfl (fm_in_vp hi8) ?_
      refine go_bipush (pc := 93) (v := (52 : Int32)) dX7_weekGoes_93 (by decide) ?_
      refine go_icmp_ne (pc := 95) (tgt := 102) dX7_weekGoes_95 (by decide) (fun c9 => ?_) (fun c9 => ?_)
      · rw [if_neg c9] at h
        refine go_iload_n (pc := 102) dX7_weekGoes_102 rfl rfl ?_
        obtain rfl := Option.some.inj h
        exact go_iret (pc := 103) .int dX7_weekGoes_103 rfl rfl ⟨rfl, rfl⟩
      · rw [if_pos c9] at h
        refine go_aload_n (pc := 98) dX7_weekGoes_98 rfl rfl ?_
        obtain ⟨v10, hv11, h⟩ := fm_bind h
        refine go_callVv (pc := 99) (As := []) (st := []) dX7_weekGoes_99 (c_X7_yearBegins   _ hv11) (by decide) ce_X7_yearBegins ml_X7_186 in_X7_yearBegins se_X7_yearBegins cl_X7 rfl rfl (Nat.le_of_ble_eq_true rfl) rfl ?_
        refine go_iload_n (pc := 102) dX7_weekGoes_102 rfl rfl ?_
        obtain rfl := Option.some.inj h
        exact go_iret (pc := 103) .int dX7_weekGoes_103 rfl rfl ⟨rfl, rfl⟩
    · rw [if_neg c5] at h
      refine go_aload_n (pc := 58) dX7_weekGoes_58 rfl rfl ?_
      refine go_iload_n (pc := 59) dX7_weekGoes_59 rfl rfl ?_
      obtain ⟨v12, hv13, h⟩ := fm_bind h
      refine go_callVi (pc := 60) (As := [.int y2]) (st := []) dX7_weekGoes_60 (c_X7_brotherIn   _ _ hv13) (by decide) ce_X7_brotherIn ml_X7_122 in_X7_brotherIn se_X7_brotherIn cl_X7 rfl rfl (Nat.le_of_ble_eq_true rfl) rfl ?_
      refine go_if_ge (pc := 63) (tgt := 71) dX7_weekGoes_63 (by decide) (fun c14 => ?_) (fun c14 => ?_)
      · rw [if_pos c14] at h
        refine go_iinc (pc := 71) (v := (y2 + (1 : Int32))) (ls1 := [some (.ref 23), some (.int y1), some (.int (y2 + (1 : Int32)))]) dX7_weekGoes_71 rfl rfl (Nat.le_of_ble_eq_true rfl) rfl ?_
        refine go_goto (pc := 74) (tgt := 52) dX7_weekGoes_74 (by decide) ?_
        exact ih _ _ _ _ h
      · rw [if_neg c14] at h
        refine go_aload_n (pc := 66) dX7_weekGoes_66 rfl rfl ?_
        refine go_iconst (pc := 67) (v := (2 : Int32)) dX7_weekGoes_67 (by decide) ?_
        obtain ⟨v15, hv16, h⟩ := fm_bind h
        refine go_callVv (pc := 68) (As := [.int (2 : Int32)]) (st := []) dX7_weekGoes_68 (c_X7_comesIn   _ _ hv16) (by decide) ce_X7_comesIn ml_X7_161 in_X7_comesIn se_X7_comesIn cl_X7 rfl rfl (Nat.le_of_ble_eq_true rfl) rfl ?_
        refine go_iinc (pc := 71) (v := (y2 + (1 : Int32))) (ls1 := [some (.ref 23), some (.int y1), some (.int (y2 + (1 : Int32)))]) dX7_weekGoes_71 rfl rfl (Nat.le_of_ble_eq_true rfl) rfl ?_
        refine go_goto (pc := 74) (tgt := 52) dX7_weekGoes_74 (by decide) ?_
        exact ih _ _ _ _ h
set_option maxRecDepth 100000 in
set_option maxHeartbeats 4000000 in
theorem c_X7_weekGoes_L7 : ∀ (n : Nat) (y1 : Int32) (y2 : Int32) (m : fm_M) (res : Int32 × fm_M), f_X7_weekGoes_L7 n y1 y2 m = some res → fm_Go fm_layW 5 m_X7_weekGoes (fm_pi res.1 res.2) 7 [some (.ref 23), some (.int y1), some (.int y2)] [] m := by
  intro n
  induction n with
  | zero => intro y1 y2 m res h; cases h
  | succ n ih =>
    intro y1 y2 m res h
    rw [f_X7_weekGoes_L7] at h
    refine go_iload_n (pc := 7) dX7_weekGoes_7 rfl rfl ?_
    refine go_aload_n (pc := 8) dX7_weekGoes_8 rfl rfl ?_
    refine go_getR (pc := 9) (k := 4) (q2 := 24) dX7_weekGoes_9 cl_X7 rfl rfl (by decide) lk_X7_7 ?_
    refine go_iconst (pc := 12) (v := (2 : Int32)) dX7_weekGoes_12 (by decide) ?_
    obtain ⟨hi3, h⟩ := fm_chk h
    refine go_iald (pc := 13) dX7_weekGoes_13 rfl (fm_in_vp hi3) ?_
    refine go_icmp_ge (pc := 14) (tgt := 50) dX7_weekGoes_14 (by decide) (fun c4 => ?_) (fun c4 => ?_)
    · rw [if_pos c4] at h
      refine go_iconst (pc := 50) (v := (0 : Int32)) dX7_weekGoes_50 (by decide) ?_
      refine go_istore_n (pc := 51) (ls1 := [some (.ref 23), some (.int y1), some (.int (0 : Int32))]) dX7_weekGoes_51 rfl (by decide) rfl ?_
      exact c_X7_weekGoes_L52  fm_F _ _ _ _ h
    · rw [if_neg c4] at h
      refine go_aload_n (pc := 17) dX7_weekGoes_17 rfl rfl ?_
      refine go_iload_n (pc := 18) dX7_weekGoes_18 rfl rfl ?_
      refine go_iconst (pc := 19) (v := (5 : Int32)) dX7_weekGoes_19 (by decide) ?_
      refine go_aload_n (pc := 20) dX7_weekGoes_20 rfl rfl ?_
      refine go_iload_n (pc := 21) dX7_weekGoes_21 rfl rfl ?_
      refine go_iconst (pc := 22) (v := (5 : Int32)) dX7_weekGoes_22 (by decide) ?_
      obtain ⟨v17, hv18, h⟩ := fm_bind h
      refine go_callVi (pc := 23) (As := [.int y2, .int (5 : Int32)]) (st := [.int (5 : Int32), .int y2, .ref 23]) dX7_weekGoes_23 (c_X7_of   _ _ _ hv18) (by decide) ce_X7_of ml_X7_64 in_X7_of se_X7_of cl_X7 rfl rfl (Nat.le_of_ble_eq_true rfl) rfl ?_
      refine go_if_le (pc := 26) (tgt := 40) dX7_weekGoes_26 (by decide) (fun c19 => ?_) (fun c19 => ?_)
      · rw [if_pos c19] at h
        refine go_iconst (pc := 40) (v := (0 : Int32)) dX7_weekGoes_40 (by decide) ?_
        obtain ⟨v20, hv21, h⟩ := fm_bind h
        refine go_callVv (pc := 41) (As := [.int y2, .int (5 : Int32), .int (0 : Int32)]) (st := []) dX7_weekGoes_41 (c_X7_sets   _ _ _ _ hv21) (by decide) ce_X7_sets ml_X7_76 in_X7_sets se_X7_sets cl_X7 rfl rfl (Nat.le_of_ble_eq_true rfl) rfl ?_
        refine go_iinc (pc := 44) (v := (y2 + (1 : Int32))) (ls1 := [some (.ref 23), some (.int y1), some (.int (y2 + (1 : Int32)))]) dX7_weekGoes_44 rfl rfl (Nat.le_of_ble_eq_true rfl) rfl ?_
        refine go_goto (pc := 47) (tgt := 7) dX7_weekGoes_47 (by decide) ?_
        exact ih _ _ _ _ h
      · rw [if_neg c19] at h
        refine go_aload_n (pc := 29) dX7_weekGoes_29 rfl rfl ?_
        refine go_iload_n (pc := 30) dX7_weekGoes_30 rfl rfl ?_
        refine go_iconst (pc := 31) (v := (5 : Int32)) dX7_weekGoes_31 (by decide) ?_
        obtain ⟨v22, hv23, h⟩ := fm_bind h
        refine go_callVi (pc := 32) (As := [.int y2, .int (5 : Int32)]) (st := [.int (5 : Int32), .int y2, .ref 23]) dX7_weekGoes_32 (c_X7_of   _ _ _ hv23) (by decide) ce_X7_of ml_X7_64 in_X7_of se_X7_of cl_X7 rfl rfl (Nat.le_of_ble_eq_true rfl) rfl ?_
        refine go_iconst (pc := 35) (v := (1 : Int32)) dX7_weekGoes_35 (by decide) ?_
        refine go_isub (pc := 36) dX7_weekGoes_36 ?_
        refine go_goto (pc := 37) (tgt := 41) dX7_weekGoes_37 (by decide) ?_
        obtain ⟨v24, hv25, h⟩ := fm_bind h
        refine go_callVv (pc := 41) (As := [.int y2, .int (5 : Int32), .int (v22 - (1 : Int32))]) (st := []) dX7_weekGoes_41 (c_X7_sets   _ _ _ _ hv25) (by decide) ce_X7_sets ml_X7_76 in_X7_sets se_X7_sets cl_X7 rfl rfl (Nat.le_of_ble_eq_true rfl) rfl ?_
        refine go_iinc (pc := 44) (v := (y2 + (1 : Int32))) (ls1 := [some (.ref 23), some (.int y1), some (.int (y2 + (1 : Int32)))]) dX7_weekGoes_44 rfl rfl (Nat.le_of_ble_eq_true rfl) rfl ?_
        refine go_goto (pc := 47) (tgt := 7) dX7_weekGoes_47 (by decide) ?_
        exact ih _ _ _ _ h
set_option maxRecDepth 100000 in
set_option maxHeartbeats 4000000 in
theorem c_X7_weekGoes (m : fm_M) {res : Int32 × fm_M} (h : f_X7_weekGoes  m = some res) : fm_Met fm_layW 5 m_X7_weekGoes [.ref 23] m (fm_pi res.1 res.2) := by
  refine fm_Met_of (ls := [some (.ref 23), none, none]) (by decide) rfl (fm_cc_r _ fm_cc_0) (Nat.le_of_ble_eq_true rfl) rfl ?_
  unfold f_X7_weekGoes at h
  refine go_aload_n (pc := 0) dX7_weekGoes_0 rfl rfl ?_
  obtain ⟨v1, hv2, h⟩ := fm_bind h
  refine go_callVi (pc := 1) (As := []) (st := []) dX7_weekGoes_1 (c_X7_feastComes   _ hv2) (by decide) ce_X7_feastComes ml_X7_183 in_X7_feastComes se_X7_feastComes cl_X7 rfl rfl (Nat.le_of_ble_eq_true rfl) rfl ?_
  refine go_istore_n (pc := 4) (ls1 := [some (.ref 23), some (.int v1.1), none]) dX7_weekGoes_4 rfl (by decide) rfl ?_
  refine go_iconst (pc := 5) (v := (0 : Int32)) dX7_weekGoes_5 (by decide) ?_
  refine go_istore_n (pc := 6) (ls1 := [some (.ref 23), some (.int v1.1), some (.int (0 : Int32))]) dX7_weekGoes_6 rfl (by decide) rfl ?_
  exact c_X7_weekGoes_L7  fm_F _ _ _ _ h
def f_X7_weeksGo_L4 : Nat → Int32 → Int32 → Int32 → fm_M → Option (Int32 × fm_M)
  | 0, _, _, _, _ => none
  | n + 1, y1, y2, y3, m => if y1 ≤ y3 then (some (y2, m)) else ((f_X7_weekGoes m).bind fun v2 => f_X7_weeksGo_L4 n y1 (y2 + v2.1) (y3 + (1 : Int32)) v2.2)
def f_X7_weeksGo (x1 : Int32) (m : fm_M) : Option (Int32 × fm_M) :=
  f_X7_weeksGo_L4 fm_F x1 (0 : Int32) (0 : Int32) m
set_option maxRecDepth 100000 in
set_option maxHeartbeats 4000000 in
theorem c_X7_weeksGo_L4 : ∀ (n : Nat) (y1 : Int32) (y2 : Int32) (y3 : Int32) (m : fm_M) (res : Int32 × fm_M), f_X7_weeksGo_L4 n y1 y2 y3 m = some res → fm_Go fm_layW 6 m_X7_weeksGo (fm_pi res.1 res.2) 4 [some (.ref 23), some (.int y1), some (.int y2), some (.int y3)] [] m := by
  intro n
  induction n with
  | zero => intro y1 y2 y3 m res h; cases h
  | succ n ih =>
    intro y1 y2 y3 m res h
    rw [f_X7_weeksGo_L4] at h
    refine go_iload_n (pc := 4) dX7_weeksGo_4 rfl rfl ?_
    refine go_iload_n (pc := 5) dX7_weeksGo_5 rfl rfl ?_
    refine go_icmp_ge (pc := 6) (tgt := 22) dX7_weeksGo_6 (by decide) (fun c1 => ?_) (fun c1 => ?_)
    · rw [if_pos c1] at h
      refine go_iload_n (pc := 22) dX7_weeksGo_22 rfl rfl ?_
      obtain rfl := Option.some.inj h
      exact go_iret (pc := 23) .int dX7_weeksGo_23 rfl rfl ⟨rfl, rfl⟩
    · rw [if_neg c1] at h
      refine go_iload_n (pc := 9) dX7_weeksGo_9 rfl rfl ?_
      refine go_aload_n (pc := 10) dX7_weeksGo_10 rfl rfl ?_
      obtain ⟨v2, hv3, h⟩ := fm_bind h
      refine go_callVi (pc := 11) (As := []) (st := [.int y2]) dX7_weeksGo_11 (c_X7_weekGoes   _ hv3) (by decide) ce_X7_weekGoes ml_X7_189 in_X7_weekGoes se_X7_weekGoes cl_X7 rfl rfl (Nat.le_of_ble_eq_true rfl) rfl ?_
      refine go_iadd (pc := 14) dX7_weeksGo_14 ?_
      refine go_istore_n (pc := 15) (ls1 := [some (.ref 23), some (.int y1), some (.int (y2 + v2.1)), some (.int y3)]) dX7_weeksGo_15 rfl (by decide) rfl ?_
      refine go_iinc (pc := 16) (v := (y3 + (1 : Int32))) (ls1 := [some (.ref 23), some (.int y1), some (.int (y2 + v2.1)), some (.int (y3 + (1 : Int32)))]) dX7_weeksGo_16 rfl rfl (Nat.le_of_ble_eq_true rfl) rfl ?_
      refine go_goto (pc := 19) (tgt := 4) dX7_weeksGo_19 (by decide) ?_
      exact ih _ _ _ _ _ h
set_option maxRecDepth 100000 in
set_option maxHeartbeats 4000000 in
theorem c_X7_weeksGo (x1 : Int32) (m : fm_M) {res : Int32 × fm_M} (h : f_X7_weeksGo x1 m = some res) : fm_Met fm_layW 6 m_X7_weeksGo [.ref 23, .int x1] m (fm_pi res.1 res.2) := by
  refine fm_Met_of (ls := [some (.ref 23), some (.int x1), none, none]) (by decide) rfl (fm_cc_r _ (fm_cc_i _ fm_cc_0)) (Nat.le_of_ble_eq_true rfl) rfl ?_
  unfold f_X7_weeksGo at h
  refine go_iconst (pc := 0) (v := (0 : Int32)) dX7_weeksGo_0 (by decide) ?_
  refine go_istore_n (pc := 1) (ls1 := [some (.ref 23), some (.int x1), some (.int (0 : Int32)), none]) dX7_weeksGo_1 rfl (by decide) rfl ?_
  refine go_iconst (pc := 2) (v := (0 : Int32)) dX7_weeksGo_2 (by decide) ?_
  refine go_istore_n (pc := 3) (ls1 := [some (.ref 23), some (.int x1), some (.int (0 : Int32)), some (.int (0 : Int32))]) dX7_weeksGo_3 rfl (by decide) rfl ?_
  exact c_X7_weeksGo_L4  fm_F _ _ _ _ _ h
def f_X7_weeks (x1 : Int32) (m : fm_M) : Option (Int32 × fm_M) :=
  (f_X7_isBetween x1 (1 : Int32) (60 : Int32) m).bind fun v1 => if v1 = true then ((f_X7_remembers m).bind fun v4 => (f_X7_weeksGo x1 v4).bind fun v6 => some (v6.1, v6.2)) else (some ((-12 : Int32), m))
set_option maxRecDepth 100000 in
set_option maxHeartbeats 4000000 in
theorem c_X7_weeks (x1 : Int32) (m : fm_M) {res : Int32 × fm_M} (h : f_X7_weeks x1 m = some res) : fm_Met fm_layW 7 m_X7_weeks [.ref 23, .int x1] m (fm_pi res.1 res.2) := by
  refine fm_Met_of (ls := [some (.ref 23), some (.int x1)]) (by decide) rfl (fm_cc_r _ (fm_cc_i _ fm_cc_0)) (Nat.le_of_ble_eq_true rfl) rfl ?_
  unfold f_X7_weeks at h
  refine go_iload_n (pc := 0) dX7_weeks_0 rfl rfl ?_
  refine go_iconst (pc := 1) (v := (1 : Int32)) dX7_weeks_1 (by decide) ?_
  refine go_bipush (pc := 2) (v := (60 : Int32)) dX7_weeks_2 (by decide) ?_
  obtain ⟨v1, hv2, h⟩ := fm_bind h
  refine go_callSi (pc := 4) (As := [.int x1, .int (1 : Int32), .int (60 : Int32)]) (st := []) dX7_weeks_4 (c_X7_isBetween   _ _ _ _ hv2) (by decide) ce_X7_isBetween ml_X7_60 st_X7_isBetween rfl (Nat.le_of_ble_eq_true rfl) rfl ?_
  refine go_ifb_ne (pc := 7) (tgt := 13) dX7_weeks_7 (by decide) (fun c3 => ?_) (fun c3 => ?_)
  · rw [if_pos c3] at h
    refine go_aload_n (pc := 13) dX7_weeks_13 rfl rfl ?_
    obtain ⟨v4, hv5, h⟩ := fm_bind h
    refine go_callVv (pc := 14) (As := []) (st := []) dX7_weeks_14 (c_X7_remembers   _ hv5) (by decide) ce_X7_remembers ml_X7_90 in_X7_remembers se_X7_remembers cl_X7 rfl rfl (Nat.le_of_ble_eq_true rfl) rfl ?_
    refine go_aload_n (pc := 17) dX7_weeks_17 rfl rfl ?_
    refine go_iload_n (pc := 18) dX7_weeks_18 rfl rfl ?_
    obtain ⟨v6, hv7, h⟩ := fm_bind h
    refine go_callVi (pc := 19) (As := [.int x1]) (st := []) dX7_weeks_19 (c_X7_weeksGo   _ _ hv7) (by decide) ce_X7_weeksGo ml_X7_192 in_X7_weeksGo se_X7_weeksGo cl_X7 rfl rfl (Nat.le_of_ble_eq_true rfl) rfl ?_
    obtain rfl := Option.some.inj h
    exact go_iret (pc := 22) .int dX7_weeks_22 rfl rfl ⟨rfl, rfl⟩
  · rw [if_neg (by rw [c3]; decide)] at h
    refine go_bipush (pc := 10) (v := (-12 : Int32)) dX7_weeks_10 (by decide) ?_
    obtain rfl := Option.some.inj h
    exact go_iret (pc := 12) .int dX7_weeks_12 rfl rfl ⟨rfl, rfl⟩
def f_X7_wouldGet (x1 : Int32) (x2 : Int32) (m : fm_M) : Option (Int32 × fm_M) :=
  (f_X7_isBrother x1 m).bind fun v1 => if v1 = true then ((f_X7_isBetween x2 (0 : Int32) (60 : Int32) m).bind fun v4 => if v4 = true then ((f_X7_thinks m).bind fun v7 => (f_X7_of x1 (6 : Int32) v7).bind fun v9 => (f_X7_weeksGo x2 v7).bind fun v11 => (f_X7_of x1 (6 : Int32) v11.2).bind fun v13 => (f_X7_forgets v11.2).bind fun v15 => some ((v13 - v9), v15)) else (some ((-12 : Int32), m))) else (some ((-11 : Int32), m))
set_option maxRecDepth 100000 in
set_option maxHeartbeats 4000000 in
theorem c_X7_wouldGet (x1 : Int32) (x2 : Int32) (m : fm_M) {res : Int32 × fm_M} (h : f_X7_wouldGet x1 x2 m = some res) : fm_Met fm_layW 7 m_X7_wouldGet [.ref 23, .int x1, .int x2] m (fm_pi res.1 res.2) := by
  refine fm_Met_of (ls := [some (.ref 23), some (.int x1), some (.int x2), none, none]) (by decide) rfl (fm_cc_r _ (fm_cc_i _ (fm_cc_i _ fm_cc_0))) (Nat.le_of_ble_eq_true rfl) rfl ?_
  unfold f_X7_wouldGet at h
  refine go_aload_n (pc := 0) dX7_wouldGet_0 rfl rfl ?_
  refine go_iload_n (pc := 1) dX7_wouldGet_1 rfl rfl ?_
  obtain ⟨v1, hv2, h⟩ := fm_bind h
  refine go_callVi (pc := 2) (As := [.int x1]) (st := []) dX7_wouldGet_2 (c_X7_isBrother   _ _ hv2) (by decide) ce_X7_isBrother ml_X7_96 in_X7_isBrother se_X7_isBrother cl_X7 rfl rfl (Nat.le_of_ble_eq_true rfl) rfl ?_
  refine go_ifb_ne (pc := 5) (tgt := 11) dX7_wouldGet_5 (by decide) (fun c3 => ?_) (fun c3 => ?_)
  · rw [if_pos c3] at h
    refine go_iload_n (pc := 11) dX7_wouldGet_11 rfl rfl ?_
    refine go_iconst (pc := 12) (v := (0 : Int32)) dX7_wouldGet_12 (by decide) ?_
    refine go_bipush (pc := 13) (v := (60 : Int32)) dX7_wouldGet_13 (by decide) ?_
    obtain ⟨v4, hv5, h⟩ := fm_bind h
    refine go_callSi (pc := 15) (As := [.int x2, .int (0 : Int32), .int (60 : Int32)]) (st := []) dX7_wouldGet_15 (c_X7_isBetween   _ _ _ _ hv5) (by decide) ce_X7_isBetween ml_X7_60 st_X7_isBetween rfl (Nat.le_of_ble_eq_true rfl) rfl ?_
    refine go_ifb_ne (pc := 18) (tgt := 24) dX7_wouldGet_18 (by decide) (fun c6 => ?_) (fun c6 => ?_)
    · rw [if_pos c6] at h
      refine go_aload_n (pc := 24) dX7_wouldGet_24 rfl rfl ?_
      obtain ⟨v7, hv8, h⟩ := fm_bind h
      refine go_callVv (pc := 25) (As := []) (st := []) dX7_wouldGet_25 (c_X7_thinks   _ hv8) (by decide) ce_X7_thinks ml_X7_54 in_X7_thinks se_X7_thinks cl_X7 rfl rfl (Nat.le_of_ble_eq_true rfl) rfl ?_
      refine go_aload_n (pc := 28) dX7_wouldGet_28 rfl rfl ?_
      refine go_iload_n (pc := 29) dX7_wouldGet_29 rfl rfl ?_
      refine go_bipush (pc := 30) (v := (6 : Int32)) dX7_wouldGet_30 (by decide) ?_
      obtain ⟨v9, hv10, h⟩ := fm_bind h
      refine go_callVi (pc := 32) (As := [.int x1, .int (6 : Int32)]) (st := []) dX7_wouldGet_32 (c_X7_of   _ _ _ hv10) (by decide) ce_X7_of ml_X7_64 in_X7_of se_X7_of cl_X7 rfl rfl (Nat.le_of_ble_eq_true rfl) rfl ?_
      refine go_istore_n (pc := 35) (ls1 := [some (.ref 23), some (.int x1), some (.int x2), some (.int v9), none]) dX7_wouldGet_35 rfl (by decide) rfl ?_
      refine go_aload_n (pc := 36) dX7_wouldGet_36 rfl rfl ?_
      refine go_iload_n (pc := 37) dX7_wouldGet_37 rfl rfl ?_
      obtain ⟨v11, hv12, h⟩ := fm_bind h
      refine go_callVi (pc := 38) (As := [.int x2]) (st := []) dX7_wouldGet_38 (c_X7_weeksGo   _ _ hv12) (by decide) ce_X7_weeksGo ml_X7_192 in_X7_weeksGo se_X7_weeksGo cl_X7 rfl rfl (Nat.le_of_ble_eq_true rfl) rfl ?_
      refine go_pop (pc := 41) dX7_wouldGet_41 rfl ?_
      refine go_aload_n (pc := 42) dX7_wouldGet_42 rfl rfl ?_
      refine go_iload_n (pc := 43) dX7_wouldGet_43 rfl rfl ?_
      refine go_bipush (pc := 44) (v := (6 : Int32)) dX7_wouldGet_44 (by decide) ?_
      obtain ⟨v13, hv14, h⟩ := fm_bind h
      refine go_callVi (pc := 46) (As := [.int x1, .int (6 : Int32)]) (st := []) dX7_wouldGet_46 (c_X7_of   _ _ _ hv14) (by decide) ce_X7_of ml_X7_64 in_X7_of se_X7_of cl_X7 rfl rfl (Nat.le_of_ble_eq_true rfl) rfl ?_
      refine go_iload_n (pc := 49) dX7_wouldGet_49 rfl rfl ?_
      refine go_isub (pc := 50) dX7_wouldGet_50 ?_
      refine go_istore (pc := 51) (ls1 := [some (.ref 23), some (.int x1), some (.int x2), some (.int v9), some (.int (v13 - v9))]) dX7_wouldGet_51 (by decide) rfl ?_
      refine go_aload_n (pc := 53) dX7_wouldGet_53 rfl rfl ?_
      obtain ⟨v15, hv16, h⟩ := fm_bind h
      refine go_callVv (pc := 54) (As := []) (st := []) dX7_wouldGet_54 (c_X7_forgets   _ hv16) (by decide) ce_X7_forgets ml_X7_195 in_X7_forgets se_X7_forgets cl_X7 rfl rfl (Nat.le_of_ble_eq_true rfl) rfl ?_
      refine go_iload (pc := 57) dX7_wouldGet_57 rfl ?_
      obtain rfl := Option.some.inj h
      exact go_iret (pc := 59) .int dX7_wouldGet_59 rfl rfl ⟨rfl, rfl⟩
    · rw [if_neg (by rw [c6]; decide)] at h
      refine go_bipush (pc := 21) (v := (-12 : Int32)) dX7_wouldGet_21 (by decide) ?_
      obtain rfl := Option.some.inj h
      exact go_iret (pc := 23) .int dX7_wouldGet_23 rfl rfl ⟨rfl, rfl⟩
  · rw [if_neg (by rw [c3]; decide)] at h
    refine go_bipush (pc := 8) (v := (-11 : Int32)) dX7_wouldGet_8 (by decide) ?_
    obtain rfl := Option.some.inj h
    exact go_iret (pc := 10) .int dX7_wouldGet_10 rfl rfl ⟨rfl, rfl⟩
def f_X7_chestIn (x1 : Int32) (m : fm_M) : Option (Int32 × fm_M) :=
  (f_X7_isBetween x1 (0 : Int32) (60 : Int32) m).bind fun v1 => if v1 = true then ((f_X7_thinks m).bind fun v4 => (f_X7_weeksGo x1 v4).bind fun v6 => if fm_in (3 : Int32) 320 = true then ((f_X7_forgets v6.2).bind fun v9 => some ((v6.2 24 (3 : Int32).toNatClampNeg), v9)) else none) else (some ((-12 : Int32), m))
set_option maxRecDepth 100000 in
set_option maxHeartbeats 4000000 in
theorem c_X7_chestIn (x1 : Int32) (m : fm_M) {res : Int32 × fm_M} (h : f_X7_chestIn x1 m = some res) : fm_Met fm_layW 7 m_X7_chestIn [.ref 23, .int x1] m (fm_pi res.1 res.2) := by
  refine fm_Met_of (ls := [some (.ref 23), some (.int x1), none]) (by decide) rfl (fm_cc_r _ (fm_cc_i _ fm_cc_0)) (Nat.le_of_ble_eq_true rfl) rfl ?_
  unfold f_X7_chestIn at h
  refine go_iload_n (pc := 0) dX7_chestIn_0 rfl rfl ?_
  refine go_iconst (pc := 1) (v := (0 : Int32)) dX7_chestIn_1 (by decide) ?_
  refine go_bipush (pc := 2) (v := (60 : Int32)) dX7_chestIn_2 (by decide) ?_
  obtain ⟨v1, hv2, h⟩ := fm_bind h
  refine go_callSi (pc := 4) (As := [.int x1, .int (0 : Int32), .int (60 : Int32)]) (st := []) dX7_chestIn_4 (c_X7_isBetween   _ _ _ _ hv2) (by decide) ce_X7_isBetween ml_X7_60 st_X7_isBetween rfl (Nat.le_of_ble_eq_true rfl) rfl ?_
  refine go_ifb_ne (pc := 7) (tgt := 13) dX7_chestIn_7 (by decide) (fun c3 => ?_) (fun c3 => ?_)
  · rw [if_pos c3] at h
    refine go_aload_n (pc := 13) dX7_chestIn_13 rfl rfl ?_
    obtain ⟨v4, hv5, h⟩ := fm_bind h
    refine go_callVv (pc := 14) (As := []) (st := []) dX7_chestIn_14 (c_X7_thinks   _ hv5) (by decide) ce_X7_thinks ml_X7_54 in_X7_thinks se_X7_thinks cl_X7 rfl rfl (Nat.le_of_ble_eq_true rfl) rfl ?_
    refine go_aload_n (pc := 17) dX7_chestIn_17 rfl rfl ?_
    refine go_iload_n (pc := 18) dX7_chestIn_18 rfl rfl ?_
    obtain ⟨v6, hv7, h⟩ := fm_bind h
    refine go_callVi (pc := 19) (As := [.int x1]) (st := []) dX7_chestIn_19 (c_X7_weeksGo   _ _ hv7) (by decide) ce_X7_weeksGo ml_X7_192 in_X7_weeksGo se_X7_weeksGo cl_X7 rfl rfl (Nat.le_of_ble_eq_true rfl) rfl ?_
    refine go_pop (pc := 22) dX7_chestIn_22 rfl ?_
    refine go_aload_n (pc := 23) dX7_chestIn_23 rfl rfl ?_
    refine go_getR (pc := 24) (k := 4) (q2 := 24) dX7_chestIn_24 cl_X7 rfl rfl (by decide) lk_X7_7 ?_
    refine go_iconst (pc := 27) (v := (3 : Int32)) dX7_chestIn_27 (by decide) ?_
    obtain ⟨hi8, h⟩ := fm_chk h
    refine go_iald (pc := 28) dX7_chestIn_28 rfl (fm_in_vp hi8) ?_
    refine go_istore_n (pc := 29) (ls1 := [some (.ref 23), some (.int x1), some (.int (v6.2 24 (3 : Int32).toNatClampNeg))]) dX7_chestIn_29 rfl (by decide) rfl ?_
    refine go_aload_n (pc := 30) dX7_chestIn_30 rfl rfl ?_
    obtain ⟨v9, hv10, h⟩ := fm_bind h
    refine go_callVv (pc := 31) (As := []) (st := []) dX7_chestIn_31 (c_X7_forgets   _ hv10) (by decide) ce_X7_forgets ml_X7_195 in_X7_forgets se_X7_forgets cl_X7 rfl rfl (Nat.le_of_ble_eq_true rfl) rfl ?_
    refine go_iload_n (pc := 34) dX7_chestIn_34 rfl rfl ?_
    obtain rfl := Option.some.inj h
    exact go_iret (pc := 35) .int dX7_chestIn_35 rfl rfl ⟨rfl, rfl⟩
  · rw [if_neg (by rw [c3]; decide)] at h
    refine go_bipush (pc := 10) (v := (-12 : Int32)) dX7_chestIn_10 (by decide) ?_
    obtain rfl := Option.some.inj h
    exact go_iret (pc := 12) .int dX7_chestIn_12 rfl rfl ⟨rfl, rfl⟩
def f_X7_placeInLine_L4 : Nat → Int32 → Int32 → Int32 → fm_M → Option (Int32)
  | 0, _, _, _, _ => none
  | n + 1, y1, y2, y3, m => if fm_in (2 : Int32) 320 = true then (if (m 24 (2 : Int32).toNatClampNeg) ≤ y3 then (some y2) else ((f_X7_isSo y3 (0 : Int32) m).bind fun v3 => if v3 = true then ((f_X7_of y3 (8 : Int32) m).bind fun v6 => (f_X7_of y1 (8 : Int32) m).bind fun v8 => if v8 ≤ v6 then (f_X7_placeInLine_L4 n y1 (y2 + (0 : Int32)) (y3 + (1 : Int32)) m) else (f_X7_placeInLine_L4 n y1 (y2 + (1 : Int32)) (y3 + (1 : Int32)) m)) else (f_X7_placeInLine_L4 n y1 (y2 + (0 : Int32)) (y3 + (1 : Int32)) m))) else none
def f_X7_placeInLine (x1 : Int32) (m : fm_M) : Option (Int32) :=
  f_X7_placeInLine_L4 fm_F x1 (0 : Int32) (0 : Int32) m
set_option maxRecDepth 100000 in
set_option maxHeartbeats 4000000 in
theorem c_X7_placeInLine_L4 : ∀ (n : Nat) (y1 : Int32) (y2 : Int32) (y3 : Int32) (m : fm_M) (res : Int32), f_X7_placeInLine_L4 n y1 y2 y3 m = some res → fm_Go fm_layW 2 m_X7_placeInLine (fm_pi res m) 4 [some (.ref 23), some (.int y1), some (.int y2), some (.int y3)] [] m := by
  intro n
  induction n with
  | zero => intro y1 y2 y3 m res h; cases h
  | succ n ih =>
    intro y1 y2 y3 m res h
    rw [f_X7_placeInLine_L4] at h
    refine go_iload_n (pc := 4) dX7_placeInLine_4 rfl rfl ?_
    refine go_aload_n (pc := 5) dX7_placeInLine_5 rfl rfl ?_
    refine go_getR (pc := 6) (k := 4) (q2 := 24) dX7_placeInLine_6 cl_X7 rfl rfl (by decide) lk_X7_7 ?_
    refine go_iconst (pc := 9) (v := (2 : Int32)) dX7_placeInLine_9 (by decide) ?_
    obtain ⟨hi1, h⟩ := fm_chk h
    refine go_iald (pc := 10) dX7_placeInLine_10 rfl (fm_in_vp hi1) ?_
    refine go_icmp_ge (pc := 11) (tgt := 54) dX7_placeInLine_11 (by decide) (fun c2 => ?_) (fun c2 => ?_)
    · rw [if_pos c2] at h
      refine go_iload_n (pc := 54) dX7_placeInLine_54 rfl rfl ?_
      obtain rfl := Option.some.inj h
      exact go_iret (pc := 55) .int dX7_placeInLine_55 rfl rfl ⟨rfl, rfl⟩
    · rw [if_neg c2] at h
      refine go_iload_n (pc := 14) dX7_placeInLine_14 rfl rfl ?_
      refine go_aload_n (pc := 15) dX7_placeInLine_15 rfl rfl ?_
      refine go_iload_n (pc := 16) dX7_placeInLine_16 rfl rfl ?_
      refine go_iconst (pc := 17) (v := (0 : Int32)) dX7_placeInLine_17 (by decide) ?_
      obtain ⟨v3, hv4, h⟩ := fm_bind h
      refine go_callVi (pc := 18) (As := [.int y3, .int (0 : Int32)]) (st := [.int y2]) dX7_placeInLine_18 (c_X7_isSo   _ _ _ hv4) (by decide) ce_X7_isSo ml_X7_68 in_X7_isSo se_X7_isSo cl_X7 rfl rfl (Nat.le_of_ble_eq_true rfl) rfl ?_
      refine go_ifb_eq (pc := 21) (tgt := 45) dX7_placeInLine_21 (by decide) (fun c5 => ?_) (fun c5 => ?_)
      · rw [if_neg (by rw [c5]; decide)] at h
        refine go_iconst (pc := 45) (v := (0 : Int32)) dX7_placeInLine_45 (by decide) ?_
        refine go_iadd (pc := 46) dX7_placeInLine_46 ?_
        refine go_istore_n (pc := 47) (ls1 := [some (.ref 23), some (.int y1), some (.int (y2 + (0 : Int32))), some (.int y3)]) dX7_placeInLine_47 rfl (by decide) rfl ?_
        refine go_iinc (pc := 48) (v := (y3 + (1 : Int32))) (ls1 := [some (.ref 23), some (.int y1), some (.int (y2 + (0 : Int32))), some (.int (y3 + (1 : Int32)))]) dX7_placeInLine_48 rfl rfl (Nat.le_of_ble_eq_true rfl) rfl ?_
        refine go_goto (pc := 51) (tgt := 4) dX7_placeInLine_51 (by decide) ?_
        exact ih _ _ _ _ _ h
      · rw [if_pos c5] at h
        refine go_aload_n (pc := 24) dX7_placeInLine_24 rfl rfl ?_
        refine go_iload_n (pc := 25) dX7_placeInLine_25 rfl rfl ?_
        refine go_bipush (pc := 26) (v := (8 : Int32)) dX7_placeInLine_26 (by decide) ?_
        obtain ⟨v6, hv7, h⟩ := fm_bind h
        refine go_callVi (pc := 28) (As := [.int y3, .int (8 : Int32)]) (st := [.int y2]) dX7_placeInLine_28 (c_X7_of   _ _ _ hv7) (by decide) ce_X7_of ml_X7_64 in_X7_of se_X7_of cl_X7 rfl rfl (Nat.le_of_ble_eq_true rfl) rfl ?_
        refine go_aload_n (pc := 31) dX7_placeInLine_31 rfl rfl ?_
        refine go_iload_n (pc := 32) dX7_placeInLine_32 rfl rfl ?_
        refine go_bipush (pc := 33) (v := (8 : Int32)) dX7_placeInLine_33 (by decide) ?_
        obtain ⟨v8, hv9, h⟩ := fm_bind h
        refine go_callVi (pc := 35) (As := [.int y1, .int (8 : Int32)]) (st := [.int v6, .int y2]) dX7_placeInLine_35 (c_X7_of   _ _ _ hv9) (by decide) ce_X7_of ml_X7_64 in_X7_of se_X7_of cl_X7 rfl rfl (Nat.le_of_ble_eq_true rfl) rfl ?_
        refine go_icmp_ge (pc := 38) (tgt := 45) dX7_placeInLine_38 (by decide) (fun c10 => ?_) (fun c10 => ?_)
        · rw [if_pos c10] at h
          refine go_iconst (pc := 45) (v := (0 : Int32)) dX7_placeInLine_45 (by decide) ?_
          refine go_iadd (pc := 46) dX7_placeInLine_46 ?_
          refine go_istore_n (pc := 47) (ls1 := [some (.ref 23), some (.int y1), some (.int (y2 + (0 : Int32))), some (.int y3)]) dX7_placeInLine_47 rfl (by decide) rfl ?_
          refine go_iinc (pc := 48) (v := (y3 + (1 : Int32))) (ls1 := [some (.ref 23), some (.int y1), some (.int (y2 + (0 : Int32))), some (.int (y3 + (1 : Int32)))]) dX7_placeInLine_48 rfl rfl (Nat.le_of_ble_eq_true rfl) rfl ?_
          refine go_goto (pc := 51) (tgt := 4) dX7_placeInLine_51 (by decide) ?_
          exact ih _ _ _ _ _ h
        · rw [if_neg c10] at h
          refine go_iconst (pc := 41) (v := (1 : Int32)) dX7_placeInLine_41 (by decide) ?_
          refine go_goto (pc := 42) (tgt := 46) dX7_placeInLine_42 (by decide) ?_
          refine go_iadd (pc := 46) dX7_placeInLine_46 ?_
          refine go_istore_n (pc := 47) (ls1 := [some (.ref 23), some (.int y1), some (.int (y2 + (1 : Int32))), some (.int y3)]) dX7_placeInLine_47 rfl (by decide) rfl ?_
          refine go_iinc (pc := 48) (v := (y3 + (1 : Int32))) (ls1 := [some (.ref 23), some (.int y1), some (.int (y2 + (1 : Int32))), some (.int (y3 + (1 : Int32)))]) dX7_placeInLine_48 rfl rfl (Nat.le_of_ble_eq_true rfl) rfl ?_
          refine go_goto (pc := 51) (tgt := 4) dX7_placeInLine_51 (by decide) ?_
          exact ih _ _ _ _ _ h
set_option maxRecDepth 100000 in
set_option maxHeartbeats 4000000 in
theorem c_X7_placeInLine (x1 : Int32) (m : fm_M) {res : Int32} (h : f_X7_placeInLine x1 m = some res) : fm_Met fm_layW 2 m_X7_placeInLine [.ref 23, .int x1] m (fm_pi res m) := by
  refine fm_Met_of (ls := [some (.ref 23), some (.int x1), none, none]) (by decide) rfl (fm_cc_r _ (fm_cc_i _ fm_cc_0)) (Nat.le_of_ble_eq_true rfl) rfl ?_
  unfold f_X7_placeInLine at h
  refine go_iconst (pc := 0) (v := (0 : Int32)) dX7_placeInLine_0 (by decide) ?_
  refine go_istore_n (pc := 1) (ls1 := [some (.ref 23), some (.int x1), some (.int (0 : Int32)), none]) dX7_placeInLine_1 rfl (by decide) rfl ?_
  refine go_iconst (pc := 2) (v := (0 : Int32)) dX7_placeInLine_2 (by decide) ?_
  refine go_istore_n (pc := 3) (ls1 := [some (.ref 23), some (.int x1), some (.int (0 : Int32)), some (.int (0 : Int32))]) dX7_placeInLine_3 rfl (by decide) rfl ?_
  exact c_X7_placeInLine_L4  fm_F _ _ _ _ _ h
def f_X7_brokeAll_L4 : Nat → Int32 → Int32 → Int32 → fm_M → Option (Int32)
  | 0, _, _, _, _ => none
  | n + 1, y1, y2, y3, m => if (5 : Int32) ≤ y3 then (some y2) else ((f_X7_of y1 ((9 : Int32) + y3) m).bind fun v2 => f_X7_brokeAll_L4 n y1 (y2 + v2) (y3 + (1 : Int32)) m)
def f_X7_brokeAll (x1 : Int32) (m : fm_M) : Option (Int32) :=
  f_X7_brokeAll_L4 fm_F x1 (0 : Int32) (0 : Int32) m
set_option maxRecDepth 100000 in
set_option maxHeartbeats 4000000 in
theorem c_X7_brokeAll_L4 : ∀ (n : Nat) (y1 : Int32) (y2 : Int32) (y3 : Int32) (m : fm_M) (res : Int32), f_X7_brokeAll_L4 n y1 y2 y3 m = some res → fm_Go fm_layW 1 m_X7_brokeAll (fm_pi res m) 4 [some (.ref 23), some (.int y1), some (.int y2), some (.int y3)] [] m := by
  intro n
  induction n with
  | zero => intro y1 y2 y3 m res h; cases h
  | succ n ih =>
    intro y1 y2 y3 m res h
    rw [f_X7_brokeAll_L4] at h
    refine go_iload_n (pc := 4) dX7_brokeAll_4 rfl rfl ?_
    refine go_iconst (pc := 5) (v := (5 : Int32)) dX7_brokeAll_5 (by decide) ?_
    refine go_icmp_ge (pc := 6) (tgt := 27) dX7_brokeAll_6 (by decide) (fun c1 => ?_) (fun c1 => ?_)
    · rw [if_pos c1] at h
      refine go_iload_n (pc := 27) dX7_brokeAll_27 rfl rfl ?_
      obtain rfl := Option.some.inj h
      exact go_iret (pc := 28) .int dX7_brokeAll_28 rfl rfl ⟨rfl, rfl⟩
    · rw [if_neg c1] at h
      refine go_iload_n (pc := 9) dX7_brokeAll_9 rfl rfl ?_
      refine go_aload_n (pc := 10) dX7_brokeAll_10 rfl rfl ?_
      refine go_iload_n (pc := 11) dX7_brokeAll_11 rfl rfl ?_
      refine go_bipush (pc := 12) (v := (9 : Int32)) dX7_brokeAll_12 (by decide) ?_
      refine go_iload_n (pc := 14) dX7_brokeAll_14 rfl rfl ?_
      refine go_iadd (pc := 15) dX7_brokeAll_15 ?_
      obtain ⟨v2, hv3, h⟩ := fm_bind h
      refine go_callVi (pc := 16) (As := [.int y1, .int ((9 : Int32) + y3)]) (st := [.int y2]) dX7_brokeAll_16 (c_X7_of   _ _ _ hv3) (by decide) ce_X7_of ml_X7_64 in_X7_of se_X7_of cl_X7 rfl rfl (Nat.le_of_ble_eq_true rfl) rfl ?_
      refine go_iadd (pc := 19) dX7_brokeAll_19 ?_
      refine go_istore_n (pc := 20) (ls1 := [some (.ref 23), some (.int y1), some (.int (y2 + v2)), some (.int y3)]) dX7_brokeAll_20 rfl (by decide) rfl ?_
      refine go_iinc (pc := 21) (v := (y3 + (1 : Int32))) (ls1 := [some (.ref 23), some (.int y1), some (.int (y2 + v2)), some (.int (y3 + (1 : Int32)))]) dX7_brokeAll_21 rfl rfl (Nat.le_of_ble_eq_true rfl) rfl ?_
      refine go_goto (pc := 24) (tgt := 4) dX7_brokeAll_24 (by decide) ?_
      exact ih _ _ _ _ _ h
set_option maxRecDepth 100000 in
set_option maxHeartbeats 4000000 in
theorem c_X7_brokeAll (x1 : Int32) (m : fm_M) {res : Int32} (h : f_X7_brokeAll x1 m = some res) : fm_Met fm_layW 1 m_X7_brokeAll [.ref 23, .int x1] m (fm_pi res m) := by
  refine fm_Met_of (ls := [some (.ref 23), some (.int x1), none, none]) (by decide) rfl (fm_cc_r _ (fm_cc_i _ fm_cc_0)) (Nat.le_of_ble_eq_true rfl) rfl ?_
  unfold f_X7_brokeAll at h
  refine go_iconst (pc := 0) (v := (0 : Int32)) dX7_brokeAll_0 (by decide) ?_
  refine go_istore_n (pc := 1) (ls1 := [some (.ref 23), some (.int x1), some (.int (0 : Int32)), none]) dX7_brokeAll_1 rfl (by decide) rfl ?_
  refine go_iconst (pc := 2) (v := (0 : Int32)) dX7_brokeAll_2 (by decide) ?_
  refine go_istore_n (pc := 3) (ls1 := [some (.ref 23), some (.int x1), some (.int (0 : Int32)), some (.int (0 : Int32))]) dX7_brokeAll_3 rfl (by decide) rfl ?_
  exact c_X7_brokeAll_L4  fm_F _ _ _ _ _ h
def f_X7_brotherOf (x1 : Int32) (x2 : Int32) (m : fm_M) : Option (Int32) :=
  (f_X7_isBrother x1 m).bind fun v1 => if v1 = true then (if x2 = (0 : Int32) then ((f_X7_of x1 x2 m).bind fun v5 => some v5) else (if x2 = (1 : Int32) then ((f_X7_of x1 x2 m).bind fun v8 => some v8) else (if x2 = (2 : Int32) then ((f_X7_of x1 x2 m).bind fun v11 => some v11) else (if x2 = (3 : Int32) then ((f_X7_isSo x1 (1 : Int32) m).bind fun v14 => if v14 = true then ((f_X7_of x1 x2 m).bind fun v17 => some v17) else (some (-15 : Int32))) else (if x2 = (4 : Int32) then ((f_X7_isSo x1 (1 : Int32) m).bind fun v20 => if v20 = true then ((f_X7_of x1 x2 m).bind fun v23 => some v23) else (some (-15 : Int32))) else (if x2 = (5 : Int32) then ((f_X7_of x1 x2 m).bind fun v26 => some v26) else (if x2 = (6 : Int32) then ((f_X7_of x1 x2 m).bind fun v29 => some v29) else (if x2 = (7 : Int32) then ((f_X7_brokeAll x1 m).bind fun v32 => some v32) else (if x2 = (8 : Int32) then ((f_X7_of x1 (7 : Int32) m).bind fun v35 => if v35 = 0 then (some (-15 : Int32)) else ((f_X7_of x1 (7 : Int32) m).bind fun v38 => some (v38 - (1 : Int32)))) else (if x2 = (9 : Int32) then ((f_X7_isSo x1 (0 : Int32) m).bind fun v41 => if v41 = true then ((f_X7_placeInLine x1 m).bind fun v44 => some v44) else (some (-15 : Int32))) else (some (-12 : Int32)))))))))))) else (some (-11 : Int32))
set_option maxRecDepth 100000 in
set_option maxHeartbeats 4000000 in
theorem c_X7_brotherOf (x1 : Int32) (x2 : Int32) (m : fm_M) {res : Int32} (h : f_X7_brotherOf x1 x2 m = some res) : fm_Met fm_layW 3 m_X7_brotherOf [.ref 23, .int x1, .int x2] m (fm_pi res m) := by
  refine fm_Met_of (ls := [some (.ref 23), some (.int x1), some (.int x2)]) (by decide) rfl (fm_cc_r _ (fm_cc_i _ (fm_cc_i _ fm_cc_0))) (Nat.le_of_ble_eq_true rfl) rfl ?_
  unfold f_X7_brotherOf at h
  refine go_aload_n (pc := 0) dX7_brotherOf_0 rfl rfl ?_
  refine go_iload_n (pc := 1) dX7_brotherOf_1 rfl rfl ?_
  obtain ⟨v1, hv2, h⟩ := fm_bind h
  refine go_callVi (pc := 2) (As := [.int x1]) (st := []) dX7_brotherOf_2 (c_X7_isBrother   _ _ hv2) (by decide) ce_X7_isBrother ml_X7_96 in_X7_isBrother se_X7_isBrother cl_X7 rfl rfl (Nat.le_of_ble_eq_true rfl) rfl ?_
  refine go_ifb_ne (pc := 5) (tgt := 11) dX7_brotherOf_5 (by decide) (fun c3 => ?_) (fun c3 => ?_)
  · rw [if_pos c3] at h
    refine go_iload_n (pc := 11) dX7_brotherOf_11 rfl rfl ?_
    by_cases c4 : x2 = (0 : Int32)
    · rw [if_pos c4] at h
      refine go_tswHit (pc := 12) (tgt := 68) dX7_brotherOf_12 c4 (by decide) (by decide) rfl (by decide) ?_
      refine go_aload_n (pc := 68) dX7_brotherOf_68 rfl rfl ?_
      refine go_iload_n (pc := 69) dX7_brotherOf_69 rfl rfl ?_
      refine go_iload_n (pc := 70) dX7_brotherOf_70 rfl rfl ?_
      obtain ⟨v5, hv6, h⟩ := fm_bind h
      refine go_callVi (pc := 71) (As := [.int x1, .int x2]) (st := []) dX7_brotherOf_71 (c_X7_of   _ _ _ hv6) (by decide) ce_X7_of ml_X7_64 in_X7_of se_X7_of cl_X7 rfl rfl (Nat.le_of_ble_eq_true rfl) rfl ?_
      obtain rfl := Option.some.inj h
      exact go_iret (pc := 74) .int dX7_brotherOf_74 rfl rfl ⟨rfl, rfl⟩
    rw [if_neg c4] at h
    by_cases c7 : x2 = (1 : Int32)
    · rw [if_pos c7] at h
      refine go_tswHit (pc := 12) (tgt := 68) dX7_brotherOf_12 c7 (by decide) (by decide) rfl (by decide) ?_
      refine go_aload_n (pc := 68) dX7_brotherOf_68 rfl rfl ?_
      refine go_iload_n (pc := 69) dX7_brotherOf_69 rfl rfl ?_
      refine go_iload_n (pc := 70) dX7_brotherOf_70 rfl rfl ?_
      obtain ⟨v8, hv9, h⟩ := fm_bind h
      refine go_callVi (pc := 71) (As := [.int x1, .int x2]) (st := []) dX7_brotherOf_71 (c_X7_of   _ _ _ hv9) (by decide) ce_X7_of ml_X7_64 in_X7_of se_X7_of cl_X7 rfl rfl (Nat.le_of_ble_eq_true rfl) rfl ?_
      obtain rfl := Option.some.inj h
      exact go_iret (pc := 74) .int dX7_brotherOf_74 rfl rfl ⟨rfl, rfl⟩
    rw [if_neg c7] at h
    by_cases c10 : x2 = (2 : Int32)
    · rw [if_pos c10] at h
      refine go_tswHit (pc := 12) (tgt := 68) dX7_brotherOf_12 c10 (by decide) (by decide) rfl (by decide) ?_
      refine go_aload_n (pc := 68) dX7_brotherOf_68 rfl rfl ?_
      refine go_iload_n (pc := 69) dX7_brotherOf_69 rfl rfl ?_
      refine go_iload_n (pc := 70) dX7_brotherOf_70 rfl rfl ?_
      obtain ⟨v11, hv12, h⟩ := fm_bind h
      refine go_callVi (pc := 71) (As := [.int x1, .int x2]) (st := []) dX7_brotherOf_71 (c_X7_of   _ _ _ hv12) (by decide) ce_X7_of ml_X7_64 in_X7_of se_X7_of cl_X7 rfl rfl (Nat.le_of_ble_eq_true rfl) rfl ?_
      obtain rfl := Option.some.inj h
      exact go_iret (pc := 74) .int dX7_brotherOf_74 rfl rfl ⟨rfl, rfl⟩
    rw [if_neg c10] at h
    by_cases c13 : x2 = (3 : Int32)
    · rw [if_pos c13] at h
      refine go_tswHit (pc := 12) (tgt := 75) dX7_brotherOf_12 c13 (by decide) (by decide) rfl (by decide) ?_
      refine go_aload_n (pc := 75) dX7_brotherOf_75 rfl rfl ?_
      refine go_iload_n (pc := 76) dX7_brotherOf_76 rfl rfl ?_
      refine go_iconst (pc := 77) (v := (1 : Int32)) dX7_brotherOf_77 (by decide) ?_
      obtain ⟨v14, hv15, h⟩ := fm_bind h
      refine go_callVi (pc := 78) (As := [.int x1, .int (1 : Int32)]) (st := []) dX7_brotherOf_78 (c_X7_isSo   _ _ _ hv15) (by decide) ce_X7_isSo ml_X7_68 in_X7_isSo se_X7_isSo cl_X7 rfl rfl (Nat.le_of_ble_eq_true rfl) rfl ?_
      refine go_ifb_eq (pc := 81) (tgt := 93) dX7_brotherOf_81 (by decide) (fun c16 => ?_) (fun c16 => ?_)
      · rw [if_neg (by rw [c16]; decide)] at h
        refine go_bipush (pc := 93) (v := (-15 : Int32)) dX7_brotherOf_93 (by decide) ?_
        obtain rfl := Option.some.inj h
        exact go_iret (pc := 95) .int dX7_brotherOf_95 rfl rfl ⟨rfl, rfl⟩
      · rw [if_pos c16] at h
        refine go_aload_n (pc := 84) dX7_brotherOf_84 rfl rfl ?_
        refine go_iload_n (pc := 85) dX7_brotherOf_85 rfl rfl ?_
        refine go_iload_n (pc := 86) dX7_brotherOf_86 rfl rfl ?_
        obtain ⟨v17, hv18, h⟩ := fm_bind h
        refine go_callVi (pc := 87) (As := [.int x1, .int x2]) (st := []) dX7_brotherOf_87 (c_X7_of   _ _ _ hv18) (by decide) ce_X7_of ml_X7_64 in_X7_of se_X7_of cl_X7 rfl rfl (Nat.le_of_ble_eq_true rfl) rfl ?_
        refine go_goto (pc := 90) (tgt := 95) dX7_brotherOf_90 (by decide) ?_
        obtain rfl := Option.some.inj h
        exact go_iret (pc := 95) .int dX7_brotherOf_95 rfl rfl ⟨rfl, rfl⟩
    rw [if_neg c13] at h
    by_cases c19 : x2 = (4 : Int32)
    · rw [if_pos c19] at h
      refine go_tswHit (pc := 12) (tgt := 75) dX7_brotherOf_12 c19 (by decide) (by decide) rfl (by decide) ?_
      refine go_aload_n (pc := 75) dX7_brotherOf_75 rfl rfl ?_
      refine go_iload_n (pc := 76) dX7_brotherOf_76 rfl rfl ?_
      refine go_iconst (pc := 77) (v := (1 : Int32)) dX7_brotherOf_77 (by decide) ?_
      obtain ⟨v20, hv21, h⟩ := fm_bind h
      refine go_callVi (pc := 78) (As := [.int x1, .int (1 : Int32)]) (st := []) dX7_brotherOf_78 (c_X7_isSo   _ _ _ hv21) (by decide) ce_X7_isSo ml_X7_68 in_X7_isSo se_X7_isSo cl_X7 rfl rfl (Nat.le_of_ble_eq_true rfl) rfl ?_
      refine go_ifb_eq (pc := 81) (tgt := 93) dX7_brotherOf_81 (by decide) (fun c22 => ?_) (fun c22 => ?_)
      · rw [if_neg (by rw [c22]; decide)] at h
        refine go_bipush (pc := 93) (v := (-15 : Int32)) dX7_brotherOf_93 (by decide) ?_
        obtain rfl := Option.some.inj h
        exact go_iret (pc := 95) .int dX7_brotherOf_95 rfl rfl ⟨rfl, rfl⟩
      · rw [if_pos c22] at h
        refine go_aload_n (pc := 84) dX7_brotherOf_84 rfl rfl ?_
        refine go_iload_n (pc := 85) dX7_brotherOf_85 rfl rfl ?_
        refine go_iload_n (pc := 86) dX7_brotherOf_86 rfl rfl ?_
        obtain ⟨v23, hv24, h⟩ := fm_bind h
        refine go_callVi (pc := 87) (As := [.int x1, .int x2]) (st := []) dX7_brotherOf_87 (c_X7_of   _ _ _ hv24) (by decide) ce_X7_of ml_X7_64 in_X7_of se_X7_of cl_X7 rfl rfl (Nat.le_of_ble_eq_true rfl) rfl ?_
        refine go_goto (pc := 90) (tgt := 95) dX7_brotherOf_90 (by decide) ?_
        obtain rfl := Option.some.inj h
        exact go_iret (pc := 95) .int dX7_brotherOf_95 rfl rfl ⟨rfl, rfl⟩
    rw [if_neg c19] at h
    by_cases c25 : x2 = (5 : Int32)
    · rw [if_pos c25] at h
      refine go_tswHit (pc := 12) (tgt := 96) dX7_brotherOf_12 c25 (by decide) (by decide) rfl (by decide) ?_
      refine go_aload_n (pc := 96) dX7_brotherOf_96 rfl rfl ?_
      refine go_iload_n (pc := 97) dX7_brotherOf_97 rfl rfl ?_
      refine go_iload_n (pc := 98) dX7_brotherOf_98 rfl rfl ?_
      obtain ⟨v26, hv27, h⟩ := fm_bind h
      refine go_callVi (pc := 99) (As := [.int x1, .int x2]) (st := []) dX7_brotherOf_99 (c_X7_of   _ _ _ hv27) (by decide) ce_X7_of ml_X7_64 in_X7_of se_X7_of cl_X7 rfl rfl (Nat.le_of_ble_eq_true rfl) rfl ?_
      obtain rfl := Option.some.inj h
      exact go_iret (pc := 102) .int dX7_brotherOf_102 rfl rfl ⟨rfl, rfl⟩
    rw [if_neg c25] at h
    by_cases c28 : x2 = (6 : Int32)
    · rw [if_pos c28] at h
      refine go_tswHit (pc := 12) (tgt := 96) dX7_brotherOf_12 c28 (by decide) (by decide) rfl (by decide) ?_
      refine go_aload_n (pc := 96) dX7_brotherOf_96 rfl rfl ?_
      refine go_iload_n (pc := 97) dX7_brotherOf_97 rfl rfl ?_
      refine go_iload_n (pc := 98) dX7_brotherOf_98 rfl rfl ?_
      obtain ⟨v29, hv30, h⟩ := fm_bind h
      refine go_callVi (pc := 99) (As := [.int x1, .int x2]) (st := []) dX7_brotherOf_99 (c_X7_of   _ _ _ hv30) (by decide) ce_X7_of ml_X7_64 in_X7_of se_X7_of cl_X7 rfl rfl (Nat.le_of_ble_eq_true rfl) rfl ?_
      obtain rfl := Option.some.inj h
      exact go_iret (pc := 102) .int dX7_brotherOf_102 rfl rfl ⟨rfl, rfl⟩
    rw [if_neg c28] at h
    by_cases c31 : x2 = (7 : Int32)
    · rw [if_pos c31] at h
      refine go_tswHit (pc := 12) (tgt := 103) dX7_brotherOf_12 c31 (by decide) (by decide) rfl (by decide) ?_
      refine go_aload_n (pc := 103) dX7_brotherOf_103 rfl rfl ?_
      refine go_iload_n (pc := 104) dX7_brotherOf_104 rfl rfl ?_
      obtain ⟨v32, hv33, h⟩ := fm_bind h
      refine go_callVi (pc := 105) (As := [.int x1]) (st := []) dX7_brotherOf_105 (c_X7_brokeAll   _ _ hv33) (by decide) ce_X7_brokeAll ml_X7_198 in_X7_brokeAll se_X7_brokeAll cl_X7 rfl rfl (Nat.le_of_ble_eq_true rfl) rfl ?_
      obtain rfl := Option.some.inj h
      exact go_iret (pc := 108) .int dX7_brotherOf_108 rfl rfl ⟨rfl, rfl⟩
    rw [if_neg c31] at h
    by_cases c34 : x2 = (8 : Int32)
    · rw [if_pos c34] at h
      refine go_tswHit (pc := 12) (tgt := 109) dX7_brotherOf_12 c34 (by decide) (by decide) rfl (by decide) ?_
      refine go_aload_n (pc := 109) dX7_brotherOf_109 rfl rfl ?_
      refine go_iload_n (pc := 110) dX7_brotherOf_110 rfl rfl ?_
      refine go_bipush (pc := 111) (v := (7 : Int32)) dX7_brotherOf_111 (by decide) ?_
      obtain ⟨v35, hv36, h⟩ := fm_bind h
      refine go_callVi (pc := 113) (As := [.int x1, .int (7 : Int32)]) (st := []) dX7_brotherOf_113 (c_X7_of   _ _ _ hv36) (by decide) ce_X7_of ml_X7_64 in_X7_of se_X7_of cl_X7 rfl rfl (Nat.le_of_ble_eq_true rfl) rfl ?_
      refine go_if_ne (pc := 116) (tgt := 124) dX7_brotherOf_116 (by decide) (fun c37 => ?_) (fun c37 => ?_)
      · rw [if_neg c37] at h
        refine go_aload_n (pc := 124) dX7_brotherOf_124 rfl rfl ?_
        refine go_iload_n (pc := 125) dX7_brotherOf_125 rfl rfl ?_
        refine go_bipush (pc := 126) (v := (7 : Int32)) dX7_brotherOf_126 (by decide) ?_
        obtain ⟨v38, hv39, h⟩ := fm_bind h
        refine go_callVi (pc := 128) (As := [.int x1, .int (7 : Int32)]) (st := []) dX7_brotherOf_128 (c_X7_of   _ _ _ hv39) (by decide) ce_X7_of ml_X7_64 in_X7_of se_X7_of cl_X7 rfl rfl (Nat.le_of_ble_eq_true rfl) rfl ?_
        refine go_iconst (pc := 131) (v := (1 : Int32)) dX7_brotherOf_131 (by decide) ?_
        refine go_isub (pc := 132) dX7_brotherOf_132 ?_
        obtain rfl := Option.some.inj h
        exact go_iret (pc := 133) .int dX7_brotherOf_133 rfl rfl ⟨rfl, rfl⟩
      · rw [if_pos c37] at h
        refine go_bipush (pc := 119) (v := (-15 : Int32)) dX7_brotherOf_119 (by decide) ?_
        refine go_goto (pc := 121) (tgt := 133) dX7_brotherOf_121 (by decide) ?_
        obtain rfl := Option.some.inj h
        exact go_iret (pc := 133) .int dX7_brotherOf_133 rfl rfl ⟨rfl, rfl⟩
    rw [if_neg c34] at h
    by_cases c40 : x2 = (9 : Int32)
    · rw [if_pos c40] at h
      refine go_tswHit (pc := 12) (tgt := 134) dX7_brotherOf_12 c40 (by decide) (by decide) rfl (by decide) ?_
      refine go_aload_n (pc := 134) dX7_brotherOf_134 rfl rfl ?_
      refine go_iload_n (pc := 135) dX7_brotherOf_135 rfl rfl ?_
      refine go_iconst (pc := 136) (v := (0 : Int32)) dX7_brotherOf_136 (by decide) ?_
      obtain ⟨v41, hv42, h⟩ := fm_bind h
      refine go_callVi (pc := 137) (As := [.int x1, .int (0 : Int32)]) (st := []) dX7_brotherOf_137 (c_X7_isSo   _ _ _ hv42) (by decide) ce_X7_isSo ml_X7_68 in_X7_isSo se_X7_isSo cl_X7 rfl rfl (Nat.le_of_ble_eq_true rfl) rfl ?_
      refine go_ifb_eq (pc := 140) (tgt := 151) dX7_brotherOf_140 (by decide) (fun c43 => ?_) (fun c43 => ?_)
      · rw [if_neg (by rw [c43]; decide)] at h
        refine go_bipush (pc := 151) (v := (-15 : Int32)) dX7_brotherOf_151 (by decide) ?_
        obtain rfl := Option.some.inj h
        exact go_iret (pc := 153) .int dX7_brotherOf_153 rfl rfl ⟨rfl, rfl⟩
      · rw [if_pos c43] at h
        refine go_aload_n (pc := 143) dX7_brotherOf_143 rfl rfl ?_
        refine go_iload_n (pc := 144) dX7_brotherOf_144 rfl rfl ?_
        obtain ⟨v44, hv45, h⟩ := fm_bind h
        refine go_callVi (pc := 145) (As := [.int x1]) (st := []) dX7_brotherOf_145 (c_X7_placeInLine   _ _ hv45) (by decide) ce_X7_placeInLine ml_X7_201 in_X7_placeInLine se_X7_placeInLine cl_X7 rfl rfl (Nat.le_of_ble_eq_true rfl) rfl ?_
        refine go_goto (pc := 148) (tgt := 153) dX7_brotherOf_148 (by decide) ?_
        obtain rfl := Option.some.inj h
        exact go_iret (pc := 153) .int dX7_brotherOf_153 rfl rfl ⟨rfl, rfl⟩
    rw [if_neg c40] at h
    refine go_tswMiss (pc := 12) (tgt := 154) dX7_brotherOf_12 10 (by decide) (lt_s (lt_s (lt_s (lt_s (lt_s (lt_s (lt_s (lt_s (lt_s (lt_s lt_0 (Or.inl (lv_neT c4 rfl))) (Or.inl (lv_neT c7 rfl))) (Or.inl (lv_neT c10 rfl))) (Or.inl (lv_neT c13 rfl))) (Or.inl (lv_neT c19 rfl))) (Or.inl (lv_neT c25 rfl))) (Or.inl (lv_neT c28 rfl))) (Or.inl (lv_neT c31 rfl))) (Or.inl (lv_neT c34 rfl))) (Or.inl (lv_neT c40 rfl))) (by decide) ?_
    refine go_bipush (pc := 154) (v := (-12 : Int32)) dX7_brotherOf_154 (by decide) ?_
    obtain rfl := Option.some.inj h
    exact go_iret (pc := 156) .int dX7_brotherOf_156 rfl rfl ⟨rfl, rfl⟩
  · rw [if_neg (by rw [c3]; decide)] at h
    refine go_bipush (pc := 8) (v := (-11 : Int32)) dX7_brotherOf_8 (by decide) ?_
    obtain rfl := Option.some.inj h
    exact go_iret (pc := 10) .int dX7_brotherOf_10 rfl rfl ⟨rfl, rfl⟩
def f_X7_broke (x1 : Int32) (x2 : Int32) (m : fm_M) : Option (Int32) :=
  (f_X7_isBrother x1 m).bind fun v1 => if v1 = true then ((f_X7_isBetween x2 (0 : Int32) (4 : Int32) m).bind fun v4 => if v4 = true then ((f_X7_of x1 ((9 : Int32) + x2) m).bind fun v7 => some v7) else (some (-11 : Int32))) else (some (-11 : Int32))
set_option maxRecDepth 100000 in
set_option maxHeartbeats 4000000 in
theorem c_X7_broke (x1 : Int32) (x2 : Int32) (m : fm_M) {res : Int32} (h : f_X7_broke x1 x2 m = some res) : fm_Met fm_layW 2 m_X7_broke [.ref 23, .int x1, .int x2] m (fm_pi res m) := by
  refine fm_Met_of (ls := [some (.ref 23), some (.int x1), some (.int x2)]) (by decide) rfl (fm_cc_r _ (fm_cc_i _ (fm_cc_i _ fm_cc_0))) (Nat.le_of_ble_eq_true rfl) rfl ?_
  unfold f_X7_broke at h
  refine go_aload_n (pc := 0) dX7_broke_0 rfl rfl ?_
  refine go_iload_n (pc := 1) dX7_broke_1 rfl rfl ?_
  obtain ⟨v1, hv2, h⟩ := fm_bind h
  refine go_callVi (pc := 2) (As := [.int x1]) (st := []) dX7_broke_2 (c_X7_isBrother   _ _ hv2) (by decide) ce_X7_isBrother ml_X7_96 in_X7_isBrother se_X7_isBrother cl_X7 rfl rfl (Nat.le_of_ble_eq_true rfl) rfl ?_
  refine go_ifb_eq (pc := 5) (tgt := 29) dX7_broke_5 (by decide) (fun c3 => ?_) (fun c3 => ?_)
  · rw [if_neg (by rw [c3]; decide)] at h
    refine go_bipush (pc := 29) (v := (-11 : Int32)) dX7_broke_29 (by decide) ?_
    obtain rfl := Option.some.inj h
    exact go_iret (pc := 31) .int dX7_broke_31 rfl rfl ⟨rfl, rfl⟩
  · rw [if_pos c3] at h
    refine go_iload_n (pc := 8) dX7_broke_8 rfl rfl ?_
    refine go_iconst (pc := 9) (v := (0 : Int32)) dX7_broke_9 (by decide) ?_
    refine go_iconst (pc := 10) (v := (4 : Int32)) dX7_broke_10 (by decide) ?_
    obtain ⟨v4, hv5, h⟩ := fm_bind h
    refine go_callSi (pc := 11) (As := [.int x2, .int (0 : Int32), .int (4 : Int32)]) (st := []) dX7_broke_11 (c_X7_isBetween   _ _ _ _ hv5) (by decide) ce_X7_isBetween ml_X7_60 st_X7_isBetween rfl (Nat.le_of_ble_eq_true rfl) rfl ?_
    refine go_ifb_eq (pc := 14) (tgt := 29) dX7_broke_14 (by decide) (fun c6 => ?_) (fun c6 => ?_)
    · rw [if_neg (by rw [c6]; decide)] at h
      refine go_bipush (pc := 29) (v := (-11 : Int32)) dX7_broke_29 (by decide) ?_
      obtain rfl := Option.some.inj h
      exact go_iret (pc := 31) .int dX7_broke_31 rfl rfl ⟨rfl, rfl⟩
    · rw [if_pos c6] at h
      refine go_aload_n (pc := 17) dX7_broke_17 rfl rfl ?_
      refine go_iload_n (pc := 18) dX7_broke_18 rfl rfl ?_
      refine go_bipush (pc := 19) (v := (9 : Int32)) dX7_broke_19 (by decide) ?_
      refine go_iload_n (pc := 21) dX7_broke_21 rfl rfl ?_
      refine go_iadd (pc := 22) dX7_broke_22 ?_
      obtain ⟨v7, hv8, h⟩ := fm_bind h
      refine go_callVi (pc := 23) (As := [.int x1, .int ((9 : Int32) + x2)]) (st := []) dX7_broke_23 (c_X7_of   _ _ _ hv8) (by decide) ce_X7_of ml_X7_64 in_X7_of se_X7_of cl_X7 rfl rfl (Nat.le_of_ble_eq_true rfl) rfl ?_
      refine go_goto (pc := 26) (tgt := 31) dX7_broke_26 (by decide) ?_
      obtain rfl := Option.some.inj h
      exact go_iret (pc := 31) .int dX7_broke_31 rfl rfl ⟨rfl, rfl⟩
def f_X7_inCell (x1 : Int32) (m : fm_M) : Option (Int32) :=
  (f_X7_isCell x1 m).bind fun v1 => if v1 = true then ((f_X7_brotherIn x1 m).bind fun v4 => some v4) else (some (-11 : Int32))
set_option maxRecDepth 100000 in
set_option maxHeartbeats 4000000 in
theorem c_X7_inCell (x1 : Int32) (m : fm_M) {res : Int32} (h : f_X7_inCell x1 m = some res) : fm_Met fm_layW 3 m_X7_inCell [.ref 23, .int x1] m (fm_pi res m) := by
  refine fm_Met_of (ls := [some (.ref 23), some (.int x1)]) (by decide) rfl (fm_cc_r _ (fm_cc_i _ fm_cc_0)) (Nat.le_of_ble_eq_true rfl) rfl ?_
  unfold f_X7_inCell at h
  refine go_iload_n (pc := 0) dX7_inCell_0 rfl rfl ?_
  obtain ⟨v1, hv2, h⟩ := fm_bind h
  refine go_callSi (pc := 1) (As := [.int x1]) (st := []) dX7_inCell_1 (c_X7_isCell   _ _ hv2) (by decide) ce_X7_isCell ml_X7_119 st_X7_isCell rfl (Nat.le_of_ble_eq_true rfl) rfl ?_
  refine go_ifb_eq (pc := 4) (tgt := 15) dX7_inCell_4 (by decide) (fun c3 => ?_) (fun c3 => ?_)
  · rw [if_neg (by rw [c3]; decide)] at h
    refine go_bipush (pc := 15) (v := (-11 : Int32)) dX7_inCell_15 (by decide) ?_
    obtain rfl := Option.some.inj h
    exact go_iret (pc := 17) .int dX7_inCell_17 rfl rfl ⟨rfl, rfl⟩
  · rw [if_pos c3] at h
    refine go_aload_n (pc := 7) dX7_inCell_7 rfl rfl ?_
    refine go_iload_n (pc := 8) dX7_inCell_8 rfl rfl ?_
    obtain ⟨v4, hv5, h⟩ := fm_bind h
    refine go_callVi (pc := 9) (As := [.int x1]) (st := []) dX7_inCell_9 (c_X7_brotherIn   _ _ hv5) (by decide) ce_X7_brotherIn ml_X7_122 in_X7_brotherIn se_X7_brotherIn cl_X7 rfl rfl (Nat.le_of_ble_eq_true rfl) rfl ?_
    refine go_goto (pc := 12) (tgt := 17) dX7_inCell_12 (by decide) ?_
    obtain rfl := Option.some.inj h
    exact go_iret (pc := 17) .int dX7_inCell_17 rfl rfl ⟨rfl, rfl⟩
def f_X7_entitled_L4 : Nat → Int32 → Int32 → fm_M → Option (Int32)
  | 0, _, _, _ => none
  | n + 1, y1, y2, m => if fm_in (2 : Int32) 320 = true then (if (m 24 (2 : Int32).toNatClampNeg) ≤ y2 then (some y1) else ((f_X7_isEntitled y2 m).bind fun v3 => if v3 = true then (f_X7_entitled_L4 n (y1 ||| ((1 : Int32) <<< (y2 &&& 31))) (y2 + (1 : Int32)) m) else (f_X7_entitled_L4 n (y1 ||| (0 : Int32)) (y2 + (1 : Int32)) m))) else none
def f_X7_entitled (m : fm_M) : Option (Int32) :=
  f_X7_entitled_L4 fm_F (0 : Int32) (0 : Int32) m
set_option maxRecDepth 100000 in
set_option maxHeartbeats 4000000 in
theorem c_X7_entitled_L4 : ∀ (n : Nat) (y1 : Int32) (y2 : Int32) (m : fm_M) (res : Int32), f_X7_entitled_L4 n y1 y2 m = some res → fm_Go fm_layW 3 m_X7_entitled (fm_pi res m) 4 [some (.ref 23), some (.int y1), some (.int y2)] [] m := by
  intro n
  induction n with
  | zero => intro y1 y2 m res h; cases h
  | succ n ih =>
    intro y1 y2 m res h
    rw [f_X7_entitled_L4] at h
    refine go_iload_n (pc := 4) dX7_entitled_4 rfl rfl ?_
    refine go_aload_n (pc := 5) dX7_entitled_5 rfl rfl ?_
    refine go_getR (pc := 6) (k := 4) (q2 := 24) dX7_entitled_6 cl_X7 rfl rfl (by decide) lk_X7_7 ?_
    refine go_iconst (pc := 9) (v := (2 : Int32)) dX7_entitled_9 (by decide) ?_
    obtain ⟨hi1, h⟩ := fm_chk h
    refine go_iald (pc := 10) dX7_entitled_10 rfl (fm_in_vp hi1) ?_
    refine go_icmp_ge (pc := 11) (tgt := 38) dX7_entitled_11 (by decide) (fun c2 => ?_) (fun c2 => ?_)
    · rw [if_pos c2] at h
      refine go_iload_n (pc := 38) dX7_entitled_38 rfl rfl ?_
      obtain rfl := Option.some.inj h
      exact go_iret (pc := 39) .int dX7_entitled_39 rfl rfl ⟨rfl, rfl⟩
    · rw [if_neg c2] at h
      refine go_iload_n (pc := 14) dX7_entitled_14 rfl rfl ?_
      refine go_aload_n (pc := 15) dX7_entitled_15 rfl rfl ?_
      refine go_iload_n (pc := 16) dX7_entitled_16 rfl rfl ?_
      obtain ⟨v3, hv4, h⟩ := fm_bind h
      refine go_callVi (pc := 17) (As := [.int y2]) (st := [.int y1]) dX7_entitled_17 (c_X7_isEntitled   _ _ hv4) (by decide) ce_X7_isEntitled ml_X7_167 in_X7_isEntitled se_X7_isEntitled cl_X7 rfl rfl (Nat.le_of_ble_eq_true rfl) rfl ?_
      refine go_ifb_eq (pc := 20) (tgt := 29) dX7_entitled_20 (by decide) (fun c5 => ?_) (fun c5 => ?_)
      · rw [if_neg (by rw [c5]; decide)] at h
        refine go_iconst (pc := 29) (v := (0 : Int32)) dX7_entitled_29 (by decide) ?_
        refine go_ior (pc := 30) dX7_entitled_30 ?_
        refine go_istore_n (pc := 31) (ls1 := [some (.ref 23), some (.int (y1 ||| (0 : Int32))), some (.int y2)]) dX7_entitled_31 rfl (by decide) rfl ?_
        refine go_iinc (pc := 32) (v := (y2 + (1 : Int32))) (ls1 := [some (.ref 23), some (.int (y1 ||| (0 : Int32))), some (.int (y2 + (1 : Int32)))]) dX7_entitled_32 rfl rfl (Nat.le_of_ble_eq_true rfl) rfl ?_
        refine go_goto (pc := 35) (tgt := 4) dX7_entitled_35 (by decide) ?_
        exact ih _ _ _ _ h
      · rw [if_pos c5] at h
        refine go_iconst (pc := 23) (v := (1 : Int32)) dX7_entitled_23 (by decide) ?_
        refine go_iload_n (pc := 24) dX7_entitled_24 rfl rfl ?_
        refine go_ishl (pc := 25) dX7_entitled_25 ?_
        refine go_goto (pc := 26) (tgt := 30) dX7_entitled_26 (by decide) ?_
        refine go_ior (pc := 30) dX7_entitled_30 ?_
        refine go_istore_n (pc := 31) (ls1 := [some (.ref 23), some (.int (y1 ||| ((1 : Int32) <<< (y2 &&& 31)))), some (.int y2)]) dX7_entitled_31 rfl (by decide) rfl ?_
        refine go_iinc (pc := 32) (v := (y2 + (1 : Int32))) (ls1 := [some (.ref 23), some (.int (y1 ||| ((1 : Int32) <<< (y2 &&& 31)))), some (.int (y2 + (1 : Int32)))]) dX7_entitled_32 rfl rfl (Nat.le_of_ble_eq_true rfl) rfl ?_
        refine go_goto (pc := 35) (tgt := 4) dX7_entitled_35 (by decide) ?_
        exact ih _ _ _ _ h
set_option maxRecDepth 100000 in
set_option maxHeartbeats 4000000 in
theorem c_X7_entitled (m : fm_M) {res : Int32} (h : f_X7_entitled  m = some res) : fm_Met fm_layW 3 m_X7_entitled [.ref 23] m (fm_pi res m) := by
  refine fm_Met_of (ls := [some (.ref 23), none, none]) (by decide) rfl (fm_cc_r _ fm_cc_0) (Nat.le_of_ble_eq_true rfl) rfl ?_
  unfold f_X7_entitled at h
  refine go_iconst (pc := 0) (v := (0 : Int32)) dX7_entitled_0 (by decide) ?_
  refine go_istore_n (pc := 1) (ls1 := [some (.ref 23), some (.int (0 : Int32)), none]) dX7_entitled_1 rfl (by decide) rfl ?_
  refine go_iconst (pc := 2) (v := (0 : Int32)) dX7_entitled_2 (by decide) ?_
  refine go_istore_n (pc := 3) (ls1 := [some (.ref 23), some (.int (0 : Int32)), some (.int (0 : Int32))]) dX7_entitled_3 rfl (by decide) rfl ?_
  exact c_X7_entitled_L4  fm_F _ _ _ _ h
def f_X7_entitledAgain_L4 : Nat → Int32 → Int32 → fm_M → Option (Int32)
  | 0, _, _, _ => none
  | n + 1, y1, y2, m => if (8 : Int32) ≤ y2 then (some y1) else ((f_X7_brotherIn y2 m).bind fun v2 => if v2 < 0 then (f_X7_entitledAgain_L4 n (y1 ||| (0 : Int32)) (y2 + (1 : Int32)) m) else ((f_X7_of v2 (5 : Int32) m).bind fun v5 => if v5 = 0 then (f_X7_entitledAgain_L4 n (y1 ||| ((1 : Int32) <<< (v2 &&& 31))) (y2 + (1 : Int32)) m) else (f_X7_entitledAgain_L4 n (y1 ||| (0 : Int32)) (y2 + (1 : Int32)) m)))
def f_X7_entitledAgain (m : fm_M) : Option (Int32) :=
  f_X7_entitledAgain_L4 fm_F (0 : Int32) (0 : Int32) m
set_option maxRecDepth 100000 in
set_option maxHeartbeats 4000000 in
theorem c_X7_entitledAgain_L4 : ∀ (n : Nat) (y1 : Int32) (y2 : Int32) (m : fm_M) (res : Int32), f_X7_entitledAgain_L4 n y1 y2 m = some res → fm_Go fm_layW 3 m_X7_entitledAgain (fm_pi res m) 4 [some (.ref 23), some (.int y1), some (.int y2), none] [] m := by
  intro n
  induction n with
  | zero => intro y1 y2 m res h; cases h
  | succ n ih =>
    intro y1 y2 m res h
    rw [f_X7_entitledAgain_L4] at h
    refine go_iload_n (pc := 4) dX7_entitledAgain_4 rfl rfl ?_
    refine go_bipush (pc := 5) (v := (8 : Int32)) dX7_entitledAgain_5 (by decide) ?_
    refine go_icmp_ge (pc := 7) (tgt := 45) dX7_entitledAgain_7 (by decide) (fun c1 => ?_) (fun c1 => ?_)
    · rw [if_pos c1] at h
      refine go_iload_n (pc := 45) dX7_entitledAgain_45 rfl rfl ?_
      obtain rfl := Option.some.inj h
      exact go_iret (pc := 46) .int dX7_entitledAgain_46 rfl rfl ⟨rfl, rfl⟩
    · rw [if_neg c1] at h
      refine go_aload_n (pc := 10) dX7_entitledAgain_10 rfl rfl ?_
      refine go_iload_n (pc := 11) dX7_entitledAgain_11 rfl rfl ?_
      obtain ⟨v2, hv3, h⟩ := fm_bind h
      refine go_callVi (pc := 12) (As := [.int y2]) (st := []) dX7_entitledAgain_12 (c_X7_brotherIn   _ _ hv3) (by decide) ce_X7_brotherIn ml_X7_122 in_X7_brotherIn se_X7_brotherIn cl_X7 rfl rfl (Nat.le_of_ble_eq_true rfl) rfl ?_
      refine go_istore_n (pc := 15) (ls1 := [some (.ref 23), some (.int y1), some (.int y2), some (.int v2)]) dX7_entitledAgain_15 rfl (by decide) rfl ?_
      refine go_iload_n (pc := 16) dX7_entitledAgain_16 rfl rfl ?_
      refine go_iload_n (pc := 17) dX7_entitledAgain_17 rfl rfl ?_
      refine go_if_lt (pc := 18) (tgt := 36) dX7_entitledAgain_18 (by decide) (fun c4 => ?_) (fun c4 => ?_)
      · rw [if_pos c4] at h
        refine go_iconst (pc := 36) (v := (0 : Int32)) dX7_entitledAgain_36 (by decide) ?_
        refine go_ior (pc := 37) dX7_entitledAgain_37 ?_
        refine go_istore_n (pc := 38) (ls1 := [some (.ref 23), some (.int (y1 ||| (0 : Int32))), some (.int y2), some (.int v2)]) dX7_entitledAgain_38 rfl (by decide) rfl ?_
        refine go_iinc (pc := 39) (v := (y2 + (1 : Int32))) (ls1 := [some (.ref 23), some (.int (y1 ||| (0 : Int32))), some (.int (y2 + (1 : Int32))), some (.int v2)]) dX7_entitledAgain_39 rfl rfl (Nat.le_of_ble_eq_true rfl) rfl ?_
        refine go_goto (pc := 42) (tgt := 4) dX7_entitledAgain_42 (by decide) ?_
        refine go_drop 3 (ls1 := [some (.ref 23), some (.int (y1 ||| (0 : Int32))), some (.int (y2 + (1 : Int32))), none]) rfl ?_
        exact ih _ _ _ _ h
      · rw [if_neg c4] at h
        refine go_aload_n (pc := 21) dX7_entitledAgain_21 rfl rfl ?_
        refine go_iload_n (pc := 22) dX7_entitledAgain_22 rfl rfl ?_
        refine go_iconst (pc := 23) (v := (5 : Int32)) dX7_entitledAgain_23 (by decide) ?_
        obtain ⟨v5, hv6, h⟩ := fm_bind h
        refine go_callVi (pc := 24) (As := [.int v2, .int (5 : Int32)]) (st := [.int y1]) dX7_entitledAgain_24 (c_X7_of   _ _ _ hv6) (by decide) ce_X7_of ml_X7_64 in_X7_of se_X7_of cl_X7 rfl rfl (Nat.le_of_ble_eq_true rfl) rfl ?_
        refine go_if_ne (pc := 27) (tgt := 36) dX7_entitledAgain_27 (by decide) (fun c7 => ?_) (fun c7 => ?_)
        · rw [if_neg c7] at h
          refine go_iconst (pc := 36) (v := (0 : Int32)) dX7_entitledAgain_36 (by decide) ?_
          refine go_ior (pc := 37) dX7_entitledAgain_37 ?_
          refine go_istore_n (pc := 38) (ls1 := [some (.ref 23), some (.int (y1 ||| (0 : Int32))), some (.int y2), some (.int v2)]) dX7_entitledAgain_38 rfl (by decide) rfl ?_
          refine go_iinc (pc := 39) (v := (y2 + (1 : Int32))) (ls1 := [some (.ref 23), some (.int (y1 ||| (0 : Int32))), some (.int (y2 + (1 : Int32))), some (.int v2)]) dX7_entitledAgain_39 rfl rfl (Nat.le_of_ble_eq_true rfl) rfl ?_
          refine go_goto (pc := 42) (tgt := 4) dX7_entitledAgain_42 (by decide) ?_
          refine go_drop 3 (ls1 := [some (.ref 23), some (.int (y1 ||| (0 : Int32))), some (.int (y2 + (1 : Int32))), none]) rfl ?_
          exact ih _ _ _ _ h
        · rw [if_pos c7] at h
          refine go_iconst (pc := 30) (v := (1 : Int32)) dX7_entitledAgain_30 (by decide) ?_
          refine go_iload_n (pc := 31) dX7_entitledAgain_31 rfl rfl ?_
          refine go_ishl (pc := 32) dX7_entitledAgain_32 ?_
          refine go_goto (pc := 33) (tgt := 37) dX7_entitledAgain_33 (by decide) ?_
          refine go_ior (pc := 37) dX7_entitledAgain_37 ?_
          refine go_istore_n (pc := 38) (ls1 := [some (.ref 23), some (.int (y1 ||| ((1 : Int32) <<< (v2 &&& 31)))), some (.int y2), some (.int v2)]) dX7_entitledAgain_38 rfl (by decide) rfl ?_
          refine go_iinc (pc := 39) (v := (y2 + (1 : Int32))) (ls1 := [some (.ref 23), some (.int (y1 ||| ((1 : Int32) <<< (v2 &&& 31)))), some (.int (y2 + (1 : Int32))), some (.int v2)]) dX7_entitledAgain_39 rfl rfl (Nat.le_of_ble_eq_true rfl) rfl ?_
          refine go_goto (pc := 42) (tgt := 4) dX7_entitledAgain_42 (by decide) ?_
          refine go_drop 3 (ls1 := [some (.ref 23), some (.int (y1 ||| ((1 : Int32) <<< (v2 &&& 31)))), some (.int (y2 + (1 : Int32))), none]) rfl ?_
          exact ih _ _ _ _ h
set_option maxRecDepth 100000 in
set_option maxHeartbeats 4000000 in
theorem c_X7_entitledAgain (m : fm_M) {res : Int32} (h : f_X7_entitledAgain  m = some res) : fm_Met fm_layW 3 m_X7_entitledAgain [.ref 23] m (fm_pi res m) := by
  refine fm_Met_of (ls := [some (.ref 23), none, none, none]) (by decide) rfl (fm_cc_r _ fm_cc_0) (Nat.le_of_ble_eq_true rfl) rfl ?_
  unfold f_X7_entitledAgain at h
  refine go_iconst (pc := 0) (v := (0 : Int32)) dX7_entitledAgain_0 (by decide) ?_
  refine go_istore_n (pc := 1) (ls1 := [some (.ref 23), some (.int (0 : Int32)), none, none]) dX7_entitledAgain_1 rfl (by decide) rfl ?_
  refine go_iconst (pc := 2) (v := (0 : Int32)) dX7_entitledAgain_2 (by decide) ?_
  refine go_istore_n (pc := 3) (ls1 := [some (.ref 23), some (.int (0 : Int32)), some (.int (0 : Int32)), none]) dX7_entitledAgain_3 rfl (by decide) rfl ?_
  exact c_X7_entitledAgain_L4  fm_F _ _ _ _ h
def f_X7_voices (x1 : Int32) (m : fm_M) : Option (Int32) :=
  (f_X7_isBrother x1 m).bind fun v1 => if v1 = true then ((f_X7_voicesFor x1 m).bind fun v4 => some v4) else (some (-11 : Int32))
set_option maxRecDepth 100000 in
set_option maxHeartbeats 4000000 in
theorem c_X7_voices (x1 : Int32) (m : fm_M) {res : Int32} (h : f_X7_voices x1 m = some res) : fm_Met fm_layW 3 m_X7_voices [.ref 23, .int x1] m (fm_pi res m) := by
  refine fm_Met_of (ls := [some (.ref 23), some (.int x1)]) (by decide) rfl (fm_cc_r _ (fm_cc_i _ fm_cc_0)) (Nat.le_of_ble_eq_true rfl) rfl ?_
  unfold f_X7_voices at h
  refine go_aload_n (pc := 0) dX7_voices_0 rfl rfl ?_
  refine go_iload_n (pc := 1) dX7_voices_1 rfl rfl ?_
  obtain ⟨v1, hv2, h⟩ := fm_bind h
  refine go_callVi (pc := 2) (As := [.int x1]) (st := []) dX7_voices_2 (c_X7_isBrother   _ _ hv2) (by decide) ce_X7_isBrother ml_X7_96 in_X7_isBrother se_X7_isBrother cl_X7 rfl rfl (Nat.le_of_ble_eq_true rfl) rfl ?_
  refine go_ifb_eq (pc := 5) (tgt := 16) dX7_voices_5 (by decide) (fun c3 => ?_) (fun c3 => ?_)
  · rw [if_neg (by rw [c3]; decide)] at h
    refine go_bipush (pc := 16) (v := (-11 : Int32)) dX7_voices_16 (by decide) ?_
    obtain rfl := Option.some.inj h
    exact go_iret (pc := 18) .int dX7_voices_18 rfl rfl ⟨rfl, rfl⟩
  · rw [if_pos c3] at h
    refine go_aload_n (pc := 8) dX7_voices_8 rfl rfl ?_
    refine go_iload_n (pc := 9) dX7_voices_9 rfl rfl ?_
    obtain ⟨v4, hv5, h⟩ := fm_bind h
    refine go_callVi (pc := 10) (As := [.int x1]) (st := []) dX7_voices_10 (c_X7_voicesFor   _ _ hv5) (by decide) ce_X7_voicesFor ml_X7_107 in_X7_voicesFor se_X7_voicesFor cl_X7 rfl rfl (Nat.le_of_ble_eq_true rfl) rfl ?_
    refine go_goto (pc := 13) (tgt := 18) dX7_voices_13 (by decide) ?_
    obtain rfl := Option.some.inj h
    exact go_iret (pc := 18) .int dX7_voices_18 rfl rfl ⟨rfl, rfl⟩
def f_X7_voicesAgain_L34 : Nat → Int32 → Int32 → fm_M → Option (Int32 × fm_M)
  | 0, _, _, _ => none
  | n + 1, y1, y2, m => if fm_in (2 : Int32) 320 = true then (if (m 24 (2 : Int32).toNatClampNeg) ≤ y2 then (if fm_in y1 16 = true then (some ((m 28 y1.toNatClampNeg), m)) else none) else ((f_X7_of y2 (7 : Int32) m).bind fun v8 => if (v8 - (1 : Int32)) < 0 then (f_X7_voicesAgain_L34 n y1 (y2 + (1 : Int32)) m) else (if fm_in (v8 - (1 : Int32)) 16 = true then ((f_X7_countsFor (v8 - (1 : Int32)) m).bind fun v12 => if fm_in (v8 - (1 : Int32)) 16 = true then (f_X7_voicesAgain_L34 n y1 (y2 + (1 : Int32)) (fm_put m 28 (v8 - (1 : Int32)).toNatClampNeg ((m 28 (v8 - (1 : Int32)).toNatClampNeg) + v12))) else none) else none))) else none
def f_X7_voicesAgain_L13 : Nat → Int32 → Int32 → fm_M → Option (Int32 × fm_M)
  | 0, _, _, _ => none
  | n + 1, y1, y2, m => if (16 : Int32) ≤ y2 then (f_X7_voicesAgain_L34 fm_F y1 (0 : Int32) m) else (if fm_in y2 16 = true then (f_X7_voicesAgain_L13 n y1 (y2 + (1 : Int32)) (fm_put m 28 y2.toNatClampNeg (0 : Int32))) else none)
def f_X7_voicesAgain (x1 : Int32) (m : fm_M) : Option (Int32 × fm_M) :=
  (f_X7_isBrother x1 m).bind fun v1 => if v1 = true then (f_X7_voicesAgain_L13 fm_F x1 (0 : Int32) m) else (some ((-11 : Int32), m))
set_option maxRecDepth 100000 in
set_option maxHeartbeats 4000000 in
theorem c_X7_voicesAgain_L34 : ∀ (n : Nat) (y1 : Int32) (y2 : Int32) (m : fm_M) (res : Int32 × fm_M), f_X7_voicesAgain_L34 n y1 y2 m = some res → fm_Go fm_layW 2 m_X7_voicesAgain (fm_pi res.1 res.2) 34 [some (.ref 23), some (.int y1), some (.int y2), none] [] m := by
  intro n
  induction n with
  | zero => intro y1 y2 m res h; cases h
  | succ n ih =>
    intro y1 y2 m res h
    rw [f_X7_voicesAgain_L34] at h
    refine go_iload_n (pc := 34) dX7_voicesAgain_34 rfl rfl ?_
    refine go_aload_n (pc := 35) dX7_voicesAgain_35 rfl rfl ?_
    refine go_getR (pc := 36) (k := 4) (q2 := 24) dX7_voicesAgain_36 cl_X7 rfl rfl (by decide) lk_X7_7 ?_
    refine go_iconst (pc := 39) (v := (2 : Int32)) dX7_voicesAgain_39 (by decide) ?_
    obtain ⟨hi5, h⟩ := fm_chk h
    refine go_iald (pc := 40) dX7_voicesAgain_40 rfl (fm_in_vp hi5) ?_
    refine go_icmp_ge (pc := 41) (tgt := 78) dX7_voicesAgain_41 (by decide) (fun c6 => ?_) (fun c6 => ?_)
    · rw [if_pos c6] at h
      refine go_aload_n (pc := 78) dX7_voicesAgain_78 rfl rfl ?_
      refine go_getR (pc := 79) (k := 11) (q2 := 28) dX7_voicesAgain_79 cl_X7 rfl rfl (by decide) lk_X7_22 ?_
      refine go_iload_n (pc := 82) dX7_voicesAgain_82 rfl rfl ?_
      obtain ⟨hi7, h⟩ := fm_chk h
      refine go_iald (pc := 83) dX7_voicesAgain_83 rfl (fm_in_vp hi7) ?_
      obtain rfl := Option.some.inj h
      exact go_iret (pc := 84) .int dX7_voicesAgain_84 rfl rfl ⟨rfl, rfl⟩
    · rw [if_neg c6] at h
      refine go_aload_n (pc := 44) dX7_voicesAgain_44 rfl rfl ?_
      refine go_iload_n (pc := 45) dX7_voicesAgain_45 rfl rfl ?_
      refine go_bipush (pc := 46) (v := (7 : Int32)) dX7_voicesAgain_46 (by decide) ?_
      obtain ⟨v8, hv9, h⟩ := fm_bind h
      refine go_callVi (pc := 48) (As := [.int y2, .int (7 : Int32)]) (st := []) dX7_voicesAgain_48 (c_X7_of   _ _ _ hv9) (by decide) ce_X7_of ml_X7_64 in_X7_of se_X7_of cl_X7 rfl rfl (Nat.le_of_ble_eq_true rfl) rfl ?_
      refine go_iconst (pc := 51) (v := (1 : Int32)) dX7_voicesAgain_51 (by decide) ?_
      refine go_isub (pc := 52) dX7_voicesAgain_52 ?_
      refine go_istore_n (pc := 53) (ls1 := [some (.ref 23), some (.int y1), some (.int y2), some (.int (v8 - (1 : Int32)))]) dX7_voicesAgain_53 rfl (by decide) rfl ?_
      refine go_iload_n (pc := 54) dX7_voicesAgain_54 rfl rfl ?_
      refine go_if_lt (pc := 55) (tgt := 72) dX7_voicesAgain_55 (by decide) (fun c10 => ?_) (fun c10 => ?_)
      · rw [if_pos c10] at h
        refine go_iinc (pc := 72) (v := (y2 + (1 : Int32))) (ls1 := [some (.ref 23), some (.int y1), some (.int (y2 + (1 : Int32))), some (.int (v8 - (1 : Int32)))]) dX7_voicesAgain_72 rfl rfl (Nat.le_of_ble_eq_true rfl) rfl ?_
        refine go_goto (pc := 75) (tgt := 34) dX7_voicesAgain_75 (by decide) ?_
        refine go_drop 3 (ls1 := [some (.ref 23), some (.int y1), some (.int (y2 + (1 : Int32))), none]) rfl ?_
        exact ih _ _ _ _ h
      · rw [if_neg c10] at h
        refine go_aload_n (pc := 58) dX7_voicesAgain_58 rfl rfl ?_
        refine go_getR (pc := 59) (k := 11) (q2 := 28) dX7_voicesAgain_59 cl_X7 rfl rfl (by decide) lk_X7_22 ?_
        refine go_iload_n (pc := 62) dX7_voicesAgain_62 rfl rfl ?_
        refine go_dup2 (pc := 63) dX7_voicesAgain_63 rfl rfl ?_
        obtain ⟨hi11, h⟩ := fm_chk h
        refine go_iald (pc := 64) dX7_voicesAgain_64 rfl (fm_in_vp hi11) ?_
        refine go_aload_n (pc := 65) dX7_voicesAgain_65 rfl rfl ?_
        refine go_iload_n (pc := 66) dX7_voicesAgain_66 rfl rfl ?_
        obtain ⟨v12, hv13, h⟩ := fm_bind h
        refine go_callVi (pc := 67) (As := [.int (v8 - (1 : Int32))]) (st := [.int (m 28 (v8 - (1 : Int32)).toNatClampNeg), .int (v8 - (1 : Int32)), .ref 28]) dX7_voicesAgain_67 (c_X7_countsFor   _ _ hv13) (by decide) ce_X7_countsFor ml_X7_72 in_X7_countsFor se_X7_countsFor cl_X7 rfl rfl (Nat.le_of_ble_eq_true rfl) rfl ?_
        refine go_iadd (pc := 70) dX7_voicesAgain_70 ?_
        obtain ⟨hi14, h⟩ := fm_chk h
        refine go_iast (pc := 71) dX7_voicesAgain_71 rfl (fm_in_vp hi14) ?_
        refine go_iinc (pc := 72) (v := (y2 + (1 : Int32))) (ls1 := [some (.ref 23), some (.int y1), some (.int (y2 + (1 : Int32))), some (.int (v8 - (1 : Int32)))]) dX7_voicesAgain_72 rfl rfl (Nat.le_of_ble_eq_true rfl) rfl ?_
        refine go_goto (pc := 75) (tgt := 34) dX7_voicesAgain_75 (by decide) ?_
        refine go_drop 3 (ls1 := [some (.ref 23), some (.int y1), some (.int (y2 + (1 : Int32))), none]) rfl ?_
        exact ih _ _ _ _ h
set_option maxRecDepth 100000 in
set_option maxHeartbeats 4000000 in
theorem c_X7_voicesAgain_L13 : ∀ (n : Nat) (y1 : Int32) (y2 : Int32) (m : fm_M) (res : Int32 × fm_M), f_X7_voicesAgain_L13 n y1 y2 m = some res → fm_Go fm_layW 2 m_X7_voicesAgain (fm_pi res.1 res.2) 13 [some (.ref 23), some (.int y1), some (.int y2), none] [] m := by
  intro n
  induction n with
  | zero => intro y1 y2 m res h; cases h
  | succ n ih =>
    intro y1 y2 m res h
    rw [f_X7_voicesAgain_L13] at h
    refine go_iload_n (pc := 13) dX7_voicesAgain_13 rfl rfl ?_
    refine go_bipush (pc := 14) (v := (16 : Int32)) dX7_voicesAgain_14 (by decide) ?_
    refine go_icmp_ge (pc := 16) (tgt := 32) dX7_voicesAgain_16 (by decide) (fun c4 => ?_) (fun c4 => ?_)
    · rw [if_pos c4] at h
      refine go_iconst (pc := 32) (v := (0 : Int32)) dX7_voicesAgain_32 (by decide) ?_
      refine go_istore_n (pc := 33) (ls1 := [some (.ref 23), some (.int y1), some (.int (0 : Int32)), none]) dX7_voicesAgain_33 rfl (by decide) rfl ?_
      exact c_X7_voicesAgain_L34  fm_F _ _ _ _ h
    · rw [if_neg c4] at h
      refine go_aload_n (pc := 19) dX7_voicesAgain_19 rfl rfl ?_
      refine go_getR (pc := 20) (k := 11) (q2 := 28) dX7_voicesAgain_20 cl_X7 rfl rfl (by decide) lk_X7_22 ?_
      refine go_iload_n (pc := 23) dX7_voicesAgain_23 rfl rfl ?_
      refine go_iconst (pc := 24) (v := (0 : Int32)) dX7_voicesAgain_24 (by decide) ?_
      obtain ⟨hi15, h⟩ := fm_chk h
      refine go_iast (pc := 25) dX7_voicesAgain_25 rfl (fm_in_vp hi15) ?_
      refine go_iinc (pc := 26) (v := (y2 + (1 : Int32))) (ls1 := [some (.ref 23), some (.int y1), some (.int (y2 + (1 : Int32))), none]) dX7_voicesAgain_26 rfl rfl (Nat.le_of_ble_eq_true rfl) rfl ?_
      refine go_goto (pc := 29) (tgt := 13) dX7_voicesAgain_29 (by decide) ?_
      exact ih _ _ _ _ h
set_option maxRecDepth 100000 in
set_option maxHeartbeats 4000000 in
theorem c_X7_voicesAgain (x1 : Int32) (m : fm_M) {res : Int32 × fm_M} (h : f_X7_voicesAgain x1 m = some res) : fm_Met fm_layW 2 m_X7_voicesAgain [.ref 23, .int x1] m (fm_pi res.1 res.2) := by
  refine fm_Met_of (ls := [some (.ref 23), some (.int x1), none, none]) (by decide) rfl (fm_cc_r _ (fm_cc_i _ fm_cc_0)) (Nat.le_of_ble_eq_true rfl) rfl ?_
  unfold f_X7_voicesAgain at h
  refine go_aload_n (pc := 0) dX7_voicesAgain_0 rfl rfl ?_
  refine go_iload_n (pc := 1) dX7_voicesAgain_1 rfl rfl ?_
  obtain ⟨v1, hv2, h⟩ := fm_bind h
  refine go_callVi (pc := 2) (As := [.int x1]) (st := []) dX7_voicesAgain_2 (c_X7_isBrother   _ _ hv2) (by decide) ce_X7_isBrother ml_X7_96 in_X7_isBrother se_X7_isBrother cl_X7 rfl rfl (Nat.le_of_ble_eq_true rfl) rfl ?_
  refine go_ifb_ne (pc := 5) (tgt := 11) dX7_voicesAgain_5 (by decide) (fun c3 => ?_) (fun c3 => ?_)
  · rw [if_pos c3] at h
    refine go_iconst (pc := 11) (v := (0 : Int32)) dX7_voicesAgain_11 (by decide) ?_
    refine go_istore_n (pc := 12) (ls1 := [some (.ref 23), some (.int x1), some (.int (0 : Int32)), none]) dX7_voicesAgain_12 rfl (by decide) rfl ?_
    exact c_X7_voicesAgain_L13  fm_F _ _ _ _ h
  · rw [if_neg (by rw [c3]; decide)] at h
    refine go_bipush (pc := 8) (v := (-11 : Int32)) dX7_voicesAgain_8 (by decide) ?_
    obtain rfl := Option.some.inj h
    exact go_iret (pc := 10) .int dX7_voicesAgain_10 rfl rfl ⟨rfl, rfl⟩
def f_X7_ranked (x1 : Int32) (m : fm_M) : Option (Int32) :=
  (f_X7_rankedAt x1 m).bind fun v1 => some v1
set_option maxRecDepth 100000 in
set_option maxHeartbeats 4000000 in
theorem c_X7_ranked (x1 : Int32) (m : fm_M) {res : Int32} (h : f_X7_ranked x1 m = some res) : fm_Met fm_layW 5 m_X7_ranked [.ref 23, .int x1] m (fm_pi res m) := by
  refine fm_Met_of (ls := [some (.ref 23), some (.int x1)]) (by decide) rfl (fm_cc_r _ (fm_cc_i _ fm_cc_0)) (Nat.le_of_ble_eq_true rfl) rfl ?_
  unfold f_X7_ranked at h
  refine go_aload_n (pc := 0) dX7_ranked_0 rfl rfl ?_
  refine go_iload_n (pc := 1) dX7_ranked_1 rfl rfl ?_
  obtain ⟨v1, hv2, h⟩ := fm_bind h
  refine go_callVi (pc := 2) (As := [.int x1]) (st := []) dX7_ranked_2 (c_X7_rankedAt   _ _ hv2) (by decide) ce_X7_rankedAt ml_X7_125 in_X7_rankedAt se_X7_rankedAt cl_X7 rfl rfl (Nat.le_of_ble_eq_true rfl) rfl ?_
  obtain rfl := Option.some.inj h
  exact go_iret (pc := 5) .int dX7_ranked_5 rfl rfl ⟨rfl, rfl⟩
def f_X7_senior_L29 : Nat → Int32 → Int32 → Int32 → Int32 → fm_M → Option (Int32)
  | 0, _, _, _, _, _ => none
  | n + 1, y1, y2, y3, y4, m => if fm_in (2 : Int32) 320 = true then (if (m 24 (2 : Int32).toNatClampNeg) ≤ y4 then (some y3) else ((f_X7_isSo y4 (1 : Int32) m).bind fun v8 => if v8 = true then ((f_X7_isSeniorTo y4 y2 m).bind fun v11 => if v11 = true then (f_X7_senior_L29 n y1 y2 (y3 + (1 : Int32)) (y4 + (1 : Int32)) m) else (f_X7_senior_L29 n y1 y2 (y3 + (0 : Int32)) (y4 + (1 : Int32)) m)) else (f_X7_senior_L29 n y1 y2 (y3 + (0 : Int32)) (y4 + (1 : Int32)) m))) else none
def f_X7_senior_L2 : Nat → Int32 → Int32 → fm_M → Option (Int32)
  | 0, _, _, _ => none
  | n + 1, y1, y2, m => if fm_in (2 : Int32) 320 = true then (if (m 24 (2 : Int32).toNatClampNeg) ≤ y2 then (some (-11 : Int32)) else ((f_X7_isSo y2 (1 : Int32) m).bind fun v3 => if v3 = true then ((f_X7_senior_L29 fm_F y1 y2 (0 : Int32) (0 : Int32) m).bind fun e14 => if e14 = y1 then (some y2) else (f_X7_senior_L2 n y1 (y2 + (1 : Int32)) m)) else (f_X7_senior_L2 n y1 (y2 + (1 : Int32)) m))) else none
def f_X7_senior (x1 : Int32) (m : fm_M) : Option (Int32) :=
  f_X7_senior_L2 fm_F x1 (0 : Int32) m
set_option maxRecDepth 100000 in
set_option maxHeartbeats 4000000 in
theorem c_X7_senior_L29 {Post : Option Value → fm_M → Prop} : ∀ (n : Nat) (y1 : Int32) (y2 : Int32) (y3 : Int32) (y4 : Int32) (m : fm_M) (e : Int32), f_X7_senior_L29 n y1 y2 y3 y4 m = some e → fm_Go fm_layW 2 m_X7_senior Post 74 [some (.ref 23), some (.int y1), some (.int y2), some (.int e), none] [] m → fm_Go fm_layW 2 m_X7_senior Post 29 [some (.ref 23), some (.int y1), some (.int y2), some (.int y3), some (.int y4)] [] m := by
  intro n
  induction n with
  | zero => intro y1 y2 y3 y4 m e h hk; cases h
  | succ n ih =>
    intro y1 y2 y3 y4 m e h hk
    rw [f_X7_senior_L29] at h
    refine go_iload (pc := 29) dX7_senior_29 rfl ?_
    refine go_aload_n (pc := 31) dX7_senior_31 rfl rfl ?_
    refine go_getR (pc := 32) (k := 4) (q2 := 24) dX7_senior_32 cl_X7 rfl rfl (by decide) lk_X7_7 ?_
    refine go_iconst (pc := 35) (v := (2 : Int32)) dX7_senior_35 (by decide) ?_
    obtain ⟨hi6, h⟩ := fm_chk h
    refine go_iald (pc := 36) dX7_senior_36 rfl (fm_in_vp hi6) ?_
    refine go_icmp_ge (pc := 37) (tgt := 74) dX7_senior_37 (by decide) (fun c7 => ?_) (fun c7 => ?_)
    · rw [if_pos c7] at h
      refine go_drop 4 (ls1 := [some (.ref 23), some (.int y1), some (.int y2), some (.int y3), none]) rfl ?_
      obtain rfl := Option.some.inj h
      exact hk
    · rw [if_neg c7] at h
      refine go_iload_n (pc := 40) dX7_senior_40 rfl rfl ?_
      refine go_aload_n (pc := 41) dX7_senior_41 rfl rfl ?_
      refine go_iload (pc := 42) dX7_senior_42 rfl ?_
      refine go_iconst (pc := 44) (v := (1 : Int32)) dX7_senior_44 (by decide) ?_
      obtain ⟨v8, hv9, h⟩ := fm_bind h
      refine go_callVi (pc := 45) (As := [.int y4, .int (1 : Int32)]) (st := [.int y3]) dX7_senior_45 (c_X7_isSo   _ _ _ hv9) (by decide) ce_X7_isSo ml_X7_68 in_X7_isSo se_X7_isSo cl_X7 rfl rfl (Nat.le_of_ble_eq_true rfl) rfl ?_
      refine go_ifb_eq (pc := 48) (tgt := 65) dX7_senior_48 (by decide) (fun c10 => ?_) (fun c10 => ?_)
      · rw [if_neg (by rw [c10]; decide)] at h
        refine go_iconst (pc := 65) (v := (0 : Int32)) dX7_senior_65 (by decide) ?_
        refine go_iadd (pc := 66) dX7_senior_66 ?_
        refine go_istore_n (pc := 67) (ls1 := [some (.ref 23), some (.int y1), some (.int y2), some (.int (y3 + (0 : Int32))), some (.int y4)]) dX7_senior_67 rfl (by decide) rfl ?_
        refine go_iinc (pc := 68) (v := (y4 + (1 : Int32))) (ls1 := [some (.ref 23), some (.int y1), some (.int y2), some (.int (y3 + (0 : Int32))), some (.int (y4 + (1 : Int32)))]) dX7_senior_68 rfl rfl (Nat.le_of_ble_eq_true rfl) rfl ?_
        refine go_goto (pc := 71) (tgt := 29) dX7_senior_71 (by decide) ?_
        exact ih _ _ _ _ _ _ h hk
      · rw [if_pos c10] at h
        refine go_aload_n (pc := 51) dX7_senior_51 rfl rfl ?_
        refine go_iload (pc := 52) dX7_senior_52 rfl ?_
        refine go_iload_n (pc := 54) dX7_senior_54 rfl rfl ?_
        obtain ⟨v11, hv12, h⟩ := fm_bind h
        refine go_callVi (pc := 55) (As := [.int y4, .int y2]) (st := [.int y3]) dX7_senior_55 (c_X7_isSeniorTo   _ _ _ hv12) (by decide) ce_X7_isSeniorTo ml_X7_174 in_X7_isSeniorTo se_X7_isSeniorTo cl_X7 rfl rfl (Nat.le_of_ble_eq_true rfl) rfl ?_
        refine go_ifb_eq (pc := 58) (tgt := 65) dX7_senior_58 (by decide) (fun c13 => ?_) (fun c13 => ?_)
        · rw [if_neg (by rw [c13]; decide)] at h
          refine go_iconst (pc := 65) (v := (0 : Int32)) dX7_senior_65 (by decide) ?_
          refine go_iadd (pc := 66) dX7_senior_66 ?_
          refine go_istore_n (pc := 67) (ls1 := [some (.ref 23), some (.int y1), some (.int y2), some (.int (y3 + (0 : Int32))), some (.int y4)]) dX7_senior_67 rfl (by decide) rfl ?_
          refine go_iinc (pc := 68) (v := (y4 + (1 : Int32))) (ls1 := [some (.ref 23), some (.int y1), some (.int y2), some (.int (y3 + (0 : Int32))), some (.int (y4 + (1 : Int32)))]) dX7_senior_68 rfl rfl (Nat.le_of_ble_eq_true rfl) rfl ?_
          refine go_goto (pc := 71) (tgt := 29) dX7_senior_71 (by decide) ?_
          exact ih _ _ _ _ _ _ h hk
        · rw [if_pos c13] at h
          refine go_iconst (pc := 61) (v := (1 : Int32)) dX7_senior_61 (by decide) ?_
          refine go_goto (pc := 62) (tgt := 66) dX7_senior_62 (by decide) ?_
          refine go_iadd (pc := 66) dX7_senior_66 ?_
          refine go_istore_n (pc := 67) (ls1 := [some (.ref 23), some (.int y1), some (.int y2), some (.int (y3 + (1 : Int32))), some (.int y4)]) dX7_senior_67 rfl (by decide) rfl ?_
          refine go_iinc (pc := 68) (v := (y4 + (1 : Int32))) (ls1 := [some (.ref 23), some (.int y1), some (.int y2), some (.int (y3 + (1 : Int32))), some (.int (y4 + (1 : Int32)))]) dX7_senior_68 rfl rfl (Nat.le_of_ble_eq_true rfl) rfl ?_
          refine go_goto (pc := 71) (tgt := 29) dX7_senior_71 (by decide) ?_
          exact ih _ _ _ _ _ _ h hk
set_option maxRecDepth 100000 in
set_option maxHeartbeats 4000000 in
theorem c_X7_senior_L2 : ∀ (n : Nat) (y1 : Int32) (y2 : Int32) (m : fm_M) (res : Int32), f_X7_senior_L2 n y1 y2 m = some res → fm_Go fm_layW 2 m_X7_senior (fm_pi res m) 2 [some (.ref 23), some (.int y1), some (.int y2), none, none] [] m := by
  intro n
  induction n with
  | zero => intro y1 y2 m res h; cases h
  | succ n ih =>
    intro y1 y2 m res h
    rw [f_X7_senior_L2] at h
    refine go_iload_n (pc := 2) dX7_senior_2 rfl rfl ?_
    refine go_aload_n (pc := 3) dX7_senior_3 rfl rfl ?_
    refine go_getR (pc := 4) (k := 4) (q2 := 24) dX7_senior_4 cl_X7 rfl rfl (by decide) lk_X7_7 ?_
    refine go_iconst (pc := 7) (v := (2 : Int32)) dX7_senior_7 (by decide) ?_
    obtain ⟨hi1, h⟩ := fm_chk h
    refine go_iald (pc := 8) dX7_senior_8 rfl (fm_in_vp hi1) ?_
    refine go_icmp_ge (pc := 9) (tgt := 87) dX7_senior_9 (by decide) (fun c2 => ?_) (fun c2 => ?_)
    · rw [if_pos c2] at h
      refine go_bipush (pc := 87) (v := (-11 : Int32)) dX7_senior_87 (by decide) ?_
      obtain rfl := Option.some.inj h
      exact go_iret (pc := 89) .int dX7_senior_89 rfl rfl ⟨rfl, rfl⟩
    · rw [if_neg c2] at h
      refine go_aload_n (pc := 12) dX7_senior_12 rfl rfl ?_
      refine go_iload_n (pc := 13) dX7_senior_13 rfl rfl ?_
      refine go_iconst (pc := 14) (v := (1 : Int32)) dX7_senior_14 (by decide) ?_
      obtain ⟨v3, hv4, h⟩ := fm_bind h
      refine go_callVi (pc := 15) (As := [.int y2, .int (1 : Int32)]) (st := []) dX7_senior_15 (c_X7_isSo   _ _ _ hv4) (by decide) ce_X7_isSo ml_X7_68 in_X7_isSo se_X7_isSo cl_X7 rfl rfl (Nat.le_of_ble_eq_true rfl) rfl ?_
      refine go_ifb_ne (pc := 18) (tgt := 24) dX7_senior_18 (by decide) (fun c5 => ?_) (fun c5 => ?_)
      · rw [if_pos c5] at h
        refine go_iconst (pc := 24) (v := (0 : Int32)) dX7_senior_24 (by decide) ?_
        refine go_istore_n (pc := 25) (ls1 := [some (.ref 23), some (.int y1), some (.int y2), some (.int (0 : Int32)), none]) dX7_senior_25 rfl (by decide) rfl ?_
        refine go_iconst (pc := 26) (v := (0 : Int32)) dX7_senior_26 (by decide) ?_
        refine go_istore (pc := 27) (ls1 := [some (.ref 23), some (.int y1), some (.int y2), some (.int (0 : Int32)), some (.int (0 : Int32))]) dX7_senior_27 (by decide) rfl ?_
        obtain ⟨e14, he15, h⟩ := fm_bind h
        refine c_X7_senior_L29  fm_F _ _ _ _ _ e14 he15 ?_
        refine go_iload_n (pc := 74) dX7_senior_74 rfl rfl ?_
        refine go_iload_n (pc := 75) dX7_senior_75 rfl rfl ?_
        refine go_icmp_ne (pc := 76) (tgt := 81) dX7_senior_76 (by decide) (fun c16 => ?_) (fun c16 => ?_)
        · rw [if_neg c16] at h
          refine go_iinc (pc := 81) (v := (y2 + (1 : Int32))) (ls1 := [some (.ref 23), some (.int y1), some (.int (y2 + (1 : Int32))), some (.int e14), none]) dX7_senior_81 rfl rfl (Nat.le_of_ble_eq_true rfl) rfl ?_
          refine go_goto (pc := 84) (tgt := 2) dX7_senior_84 (by decide) ?_
          refine go_drop 3 (ls1 := [some (.ref 23), some (.int y1), some (.int (y2 + (1 : Int32))), none, none]) rfl ?_
          exact ih _ _ _ _ h
        · rw [if_pos c16] at h
          refine go_iload_n (pc := 79) dX7_senior_79 rfl rfl ?_
          obtain rfl := Option.some.inj h
          exact go_iret (pc := 80) .int dX7_senior_80 rfl rfl ⟨rfl, rfl⟩
      · rw [if_neg (by rw [c5]; decide)] at h
        refine go_goto (pc := 21) (tgt := 81) dX7_senior_21 (by decide) ?_
        refine go_iinc (pc := 81) (v := (y2 + (1 : Int32))) (ls1 := [some (.ref 23), some (.int y1), some (.int (y2 + (1 : Int32))), none, none]) dX7_senior_81 rfl rfl (Nat.le_of_ble_eq_true rfl) rfl ?_
        refine go_goto (pc := 84) (tgt := 2) dX7_senior_84 (by decide) ?_
        exact ih _ _ _ _ h
set_option maxRecDepth 100000 in
set_option maxHeartbeats 4000000 in
theorem c_X7_senior (x1 : Int32) (m : fm_M) {res : Int32} (h : f_X7_senior x1 m = some res) : fm_Met fm_layW 2 m_X7_senior [.ref 23, .int x1] m (fm_pi res m) := by
  refine fm_Met_of (ls := [some (.ref 23), some (.int x1), none, none, none]) (by decide) rfl (fm_cc_r _ (fm_cc_i _ fm_cc_0)) (Nat.le_of_ble_eq_true rfl) rfl ?_
  unfold f_X7_senior at h
  refine go_iconst (pc := 0) (v := (0 : Int32)) dX7_senior_0 (by decide) ?_
  refine go_istore_n (pc := 1) (ls1 := [some (.ref 23), some (.int x1), some (.int (0 : Int32)), none, none]) dX7_senior_1 rfl (by decide) rfl ?_
  exact c_X7_senior_L2  fm_F _ _ _ _ h
def f_X7_shabby (x1 : Int32) (m : fm_M) : Option (Int32) :=
  (f_X7_shabbyAt x1 m).bind fun v1 => some v1
set_option maxRecDepth 100000 in
set_option maxHeartbeats 4000000 in
theorem c_X7_shabby (x1 : Int32) (m : fm_M) {res : Int32} (h : f_X7_shabby x1 m = some res) : fm_Met fm_layW 4 m_X7_shabby [.ref 23, .int x1] m (fm_pi res m) := by
  refine fm_Met_of (ls := [some (.ref 23), some (.int x1)]) (by decide) rfl (fm_cc_r _ (fm_cc_i _ fm_cc_0)) (Nat.le_of_ble_eq_true rfl) rfl ?_
  unfold f_X7_shabby at h
  refine go_aload_n (pc := 0) dX7_shabby_0 rfl rfl ?_
  refine go_iload_n (pc := 1) dX7_shabby_1 rfl rfl ?_
  obtain ⟨v1, hv2, h⟩ := fm_bind h
  refine go_callVi (pc := 2) (As := [.int x1]) (st := []) dX7_shabby_2 (c_X7_shabbyAt   _ _ hv2) (by decide) ce_X7_shabbyAt ml_X7_180 in_X7_shabbyAt se_X7_shabbyAt cl_X7 rfl rfl (Nat.le_of_ble_eq_true rfl) rfl ?_
  obtain rfl := Option.some.inj h
  exact go_iret (pc := 5) .int dX7_shabby_5 rfl rfl ⟨rfl, rfl⟩
def f_X7_nextFeast_L2 : Nat → Int32 → fm_M → Option (Int32)
  | 0, _, _ => none
  | n + 1, y1, m => if (52 : Int32) ≤ y1 then (some (-15 : Int32)) else (if fm_in (1 : Int32) 320 = true then (if fm_in ((12 : Int32) + (((m 24 (1 : Int32).toNatClampNeg) + y1) - ((m 24 (1 : Int32).toNatClampNeg) + y1) / (52 : Int32) * (52 : Int32))) 320 = true then (if (m 24 ((12 : Int32) + (((m 24 (1 : Int32).toNatClampNeg) + y1) - ((m 24 (1 : Int32).toNatClampNeg) + y1) / (52 : Int32) * (52 : Int32))).toNatClampNeg) ≤ 0 then (f_X7_nextFeast_L2 n (y1 + (1 : Int32)) m) else (some y1)) else none) else none)
def f_X7_nextFeast (m : fm_M) : Option (Int32) :=
  f_X7_nextFeast_L2 fm_F (0 : Int32) m
set_option maxRecDepth 100000 in
set_option maxHeartbeats 4000000 in
theorem c_X7_nextFeast_L2 : ∀ (n : Nat) (y1 : Int32) (m : fm_M) (res : Int32), f_X7_nextFeast_L2 n y1 m = some res → fm_Go fm_layW 0 m_X7_nextFeast (fm_pi res m) 2 [some (.ref 23), some (.int y1)] [] m := by
  intro n
  induction n with
  | zero => intro y1 m res h; cases h
  | succ n ih =>
    intro y1 m res h
    rw [f_X7_nextFeast_L2] at h
    refine go_iload_n (pc := 2) dX7_nextFeast_2 rfl rfl ?_
    refine go_bipush (pc := 3) (v := (52 : Int32)) dX7_nextFeast_3 (by decide) ?_
    refine go_icmp_ge (pc := 5) (tgt := 38) dX7_nextFeast_5 (by decide) (fun c1 => ?_) (fun c1 => ?_)
    · rw [if_pos c1] at h
      refine go_bipush (pc := 38) (v := (-15 : Int32)) dX7_nextFeast_38 (by decide) ?_
      obtain rfl := Option.some.inj h
      exact go_iret (pc := 40) .int dX7_nextFeast_40 rfl rfl ⟨rfl, rfl⟩
    · rw [if_neg c1] at h
      refine go_aload_n (pc := 8) dX7_nextFeast_8 rfl rfl ?_
      refine go_getR (pc := 9) (k := 4) (q2 := 24) dX7_nextFeast_9 cl_X7 rfl rfl (by decide) lk_X7_7 ?_
      refine go_bipush (pc := 12) (v := (12 : Int32)) dX7_nextFeast_12 (by decide) ?_
      refine go_aload_n (pc := 14) dX7_nextFeast_14 rfl rfl ?_
      refine go_getR (pc := 15) (k := 4) (q2 := 24) dX7_nextFeast_15 cl_X7 rfl rfl (by decide) lk_X7_7 ?_
      refine go_iconst (pc := 18) (v := (1 : Int32)) dX7_nextFeast_18 (by decide) ?_
      obtain ⟨hi2, h⟩ := fm_chk h
      refine go_iald (pc := 19) dX7_nextFeast_19 rfl (fm_in_vp hi2) ?_
      refine go_iload_n (pc := 20) dX7_nextFeast_20 rfl rfl ?_
      refine go_iadd (pc := 21) dX7_nextFeast_21 ?_
      refine go_bipush (pc := 22) (v := (52 : Int32)) dX7_nextFeast_22 (by decide) ?_
      refine go_irem (pc := 24) dX7_nextFeast_24 (by decide) ?_
      refine go_iadd (pc := 25) dX7_nextFeast_25 ?_
      obtain ⟨hi3, h⟩ := fm_chk h
      refine go_iald (pc := 26) dX7_nextFeast_26 rfl (fm_in_vp hi3) ?_
      refine go_if_le (pc := 27) (tgt := 32) dX7_nextFeast_27 (by decide) (fun c4 => ?_) (fun c4 => ?_)
      · rw [if_pos c4] at h
        refine go_iinc (pc := 32) (v := (y1 + (1 : Int32))) (ls1 := [some (.ref 23), some (.int (y1 + (1 : Int32)))]) dX7_nextFeast_32 rfl rfl (Nat.le_of_ble_eq_true rfl) rfl ?_
        refine go_goto (pc := 35) (tgt := 2) dX7_nextFeast_35 (by decide) ?_
        exact ih _ _ _ h
      · rw [if_neg c4] at h
        refine go_iload_n (pc := 30) dX7_nextFeast_30 rfl rfl ?_
        obtain rfl := Option.some.inj h
        exact go_iret (pc := 31) .int dX7_nextFeast_31 rfl rfl ⟨rfl, rfl⟩
set_option maxRecDepth 100000 in
set_option maxHeartbeats 4000000 in
theorem c_X7_nextFeast (m : fm_M) {res : Int32} (h : f_X7_nextFeast  m = some res) : fm_Met fm_layW 0 m_X7_nextFeast [.ref 23] m (fm_pi res m) := by
  refine fm_Met_of (ls := [some (.ref 23), none]) (by decide) rfl (fm_cc_r _ fm_cc_0) (Nat.le_of_ble_eq_true rfl) rfl ?_
  unfold f_X7_nextFeast at h
  refine go_iconst (pc := 0) (v := (0 : Int32)) dX7_nextFeast_0 (by decide) ?_
  refine go_istore_n (pc := 1) (ls1 := [some (.ref 23), some (.int (0 : Int32))]) dX7_nextFeast_1 rfl (by decide) rfl ?_
  exact c_X7_nextFeast_L2  fm_F _ _ _ h
def f_X7_append (x1 : Int32) (m : fm_M) : Option (Int32 × fm_M) :=
  (f_X7_isBetween x1 (32 : Int32) (126 : Int32) m).bind fun v1 => if v1 = true then (if (m 23 13) = (60 : Int32) then (some ((-13 : Int32), m)) else (if fm_in (m 23 13) 60 = true then (some (((fm_put (fm_put m 29 (m 23 13).toNatClampNeg (vp_nar .char (((x1).toUInt32 % 65536).toInt32))) 23 13 (((fm_put m 29 (m 23 13).toNatClampNeg (vp_nar .char (((x1).toUInt32 % 65536).toInt32))) 23 13) + (1 : Int32))) 23 13), (fm_put (fm_put m 29 (m 23 13).toNatClampNeg (vp_nar .char (((x1).toUInt32 % 65536).toInt32))) 23 13 (((fm_put m 29 (m 23 13).toNatClampNeg (vp_nar .char (((x1).toUInt32 % 65536).toInt32))) 23 13) + (1 : Int32))))) else none)) else (some ((-12 : Int32), m))
set_option maxRecDepth 100000 in
set_option maxHeartbeats 4000000 in
theorem c_X7_append (x1 : Int32) (m : fm_M) {res : Int32 × fm_M} (h : f_X7_append x1 m = some res) : fm_Met fm_layW 1 m_X7_append [.ref 23, .int x1] m (fm_pi res.1 res.2) := by
  refine fm_Met_of (ls := [some (.ref 23), some (.int x1)]) (by decide) rfl (fm_cc_r _ (fm_cc_i _ fm_cc_0)) (Nat.le_of_ble_eq_true rfl) rfl ?_
  unfold f_X7_append at h
  refine go_iload_n (pc := 0) dX7_append_0 rfl rfl ?_
  refine go_bipush (pc := 1) (v := (32 : Int32)) dX7_append_1 (by decide) ?_
  refine go_bipush (pc := 3) (v := (126 : Int32)) dX7_append_3 (by decide) ?_
  obtain ⟨v1, hv2, h⟩ := fm_bind h
  refine go_callSi (pc := 5) (As := [.int x1, .int (32 : Int32), .int (126 : Int32)]) (st := []) dX7_append_5 (c_X7_isBetween   _ _ _ _ hv2) (by decide) ce_X7_isBetween ml_X7_60 st_X7_isBetween rfl (Nat.le_of_ble_eq_true rfl) rfl ?_
  refine go_ifb_ne (pc := 8) (tgt := 14) dX7_append_8 (by decide) (fun c3 => ?_) (fun c3 => ?_)
  · rw [if_pos c3] at h
    refine go_aload_n (pc := 14) dX7_append_14 rfl rfl ?_
    refine go_getI (pc := 15) (k := 13) dX7_append_15 cl_X7 rfl rfl (by decide) lk_X7_204 ?_
    refine go_bipush (pc := 18) (v := (60 : Int32)) dX7_append_18 (by decide) ?_
    refine go_icmp_ne (pc := 20) (tgt := 26) dX7_append_20 (by decide) (fun c4 => ?_) (fun c4 => ?_)
    · rw [if_neg c4] at h
      refine go_aload_n (pc := 26) dX7_append_26 rfl rfl ?_
      refine go_getR (pc := 27) (k := 12) (q2 := 29) dX7_append_27 cl_X7 rfl rfl (by decide) lk_X7_25 ?_
      refine go_aload_n (pc := 30) dX7_append_30 rfl rfl ?_
      refine go_getI (pc := 31) (k := 13) dX7_append_31 cl_X7 rfl rfl (by decide) lk_X7_204 ?_
      refine go_iload_n (pc := 34) dX7_append_34 rfl rfl ?_
      refine go_i2c (pc := 35) dX7_append_35 ?_
      obtain ⟨hi5, h⟩ := fm_chk h
      refine go_cast (pc := 36) dX7_append_36 rfl (fm_in_vp hi5) ?_
      refine go_aload_n (pc := 37) dX7_append_37 rfl rfl ?_
      refine go_dup (pc := 38) dX7_append_38 rfl ?_
      refine go_getI (pc := 39) (k := 13) dX7_append_39 cl_X7 rfl rfl (by decide) lk_X7_204 ?_
      refine go_iconst (pc := 42) (v := (1 : Int32)) dX7_append_42 (by decide) ?_
      refine go_iadd (pc := 43) dX7_append_43 ?_
      refine go_put (pc := 44) (k := 13) .int dX7_append_44 cl_X7 rfl rfl (by decide) lk_X7_204 rfl (by decide +kernel) rfl rfl ?_
      refine go_aload_n (pc := 47) dX7_append_47 rfl rfl ?_
      refine go_getI (pc := 48) (k := 13) dX7_append_48 cl_X7 rfl rfl (by decide) lk_X7_204 ?_
      obtain rfl := Option.some.inj h
      exact go_iret (pc := 51) .int dX7_append_51 rfl rfl ⟨rfl, rfl⟩
    · rw [if_pos c4] at h
      refine go_bipush (pc := 23) (v := (-13 : Int32)) dX7_append_23 (by decide) ?_
      obtain rfl := Option.some.inj h
      exact go_iret (pc := 25) .int dX7_append_25 rfl rfl ⟨rfl, rfl⟩
  · rw [if_neg (by rw [c3]; decide)] at h
    refine go_bipush (pc := 11) (v := (-12 : Int32)) dX7_append_11 (by decide) ?_
    obtain rfl := Option.some.inj h
    exact go_iret (pc := 13) .int dX7_append_13 rfl rfl ⟨rfl, rfl⟩
def f_X7_sign (m : fm_M) : Option (Int32) :=
  if (m 23 13) ≤ (m 23 14) then (some (-1 : Int32)) else (if fm_in (m 23 14) 60 = true then (some (m 29 (m 23 14).toNatClampNeg)) else none)
set_option maxRecDepth 100000 in
set_option maxHeartbeats 4000000 in
theorem c_X7_sign (m : fm_M) {res : Int32} (h : f_X7_sign  m = some res) : fm_Met fm_layW 0 m_X7_sign [.ref 23] m (fm_pi res m) := by
  refine fm_Met_of (ls := [some (.ref 23)]) (by decide) rfl (fm_cc_r _ fm_cc_0) (Nat.le_of_ble_eq_true rfl) rfl ?_
  unfold f_X7_sign at h
  refine go_aload_n (pc := 0) dX7_sign_0 rfl rfl ?_
  refine go_getI (pc := 1) (k := 14) dX7_sign_1 cl_X7 rfl rfl (by decide) lk_X7_207 ?_
  refine go_aload_n (pc := 4) dX7_sign_4 rfl rfl ?_
  refine go_getI (pc := 5) (k := 13) dX7_sign_5 cl_X7 rfl rfl (by decide) lk_X7_204 ?_
  refine go_icmp_ge (pc := 8) (tgt := 23) dX7_sign_8 (by decide) (fun c1 => ?_) (fun c1 => ?_)
  · rw [if_pos c1] at h
    refine go_iconst (pc := 23) (v := (-1 : Int32)) dX7_sign_23 (by decide) ?_
    obtain rfl := Option.some.inj h
    exact go_iret (pc := 24) .int dX7_sign_24 rfl rfl ⟨rfl, rfl⟩
  · rw [if_neg c1] at h
    refine go_aload_n (pc := 11) dX7_sign_11 rfl rfl ?_
    refine go_getR (pc := 12) (k := 12) (q2 := 29) dX7_sign_12 cl_X7 rfl rfl (by decide) lk_X7_25 ?_
    refine go_aload_n (pc := 15) dX7_sign_15 rfl rfl ?_
    refine go_getI (pc := 16) (k := 14) dX7_sign_16 cl_X7 rfl rfl (by decide) lk_X7_207 ?_
    obtain ⟨hi2, h⟩ := fm_chk h
    refine go_cald (pc := 19) dX7_sign_19 rfl (fm_in_vp hi2) ?_
    refine go_goto (pc := 20) (tgt := 24) dX7_sign_20 (by decide) ?_
    obtain rfl := Option.some.inj h
    exact go_iret (pc := 24) .int dX7_sign_24 rfl rfl ⟨rfl, rfl⟩
def f_X7_reads (x1 : Int32) (m : fm_M) : Option (Bool × fm_M) :=
  (f_X7_sign m).bind fun v1 => if v1 = x1 then (some (true, (fm_put m 23 14 ((m 23 14) + (1 : Int32))))) else (some (false, m))
set_option maxRecDepth 100000 in
set_option maxHeartbeats 4000000 in
theorem c_X7_reads (x1 : Int32) (m : fm_M) {res : Bool × fm_M} (h : f_X7_reads x1 m = some res) : fm_Met fm_layW 1 m_X7_reads [.ref 23, .int x1] m (fm_pi (fm_b res.1) res.2) := by
  refine fm_Met_of (ls := [some (.ref 23), some (.int x1)]) (by decide) rfl (fm_cc_r _ (fm_cc_i _ fm_cc_0)) (Nat.le_of_ble_eq_true rfl) rfl ?_
  unfold f_X7_reads at h
  refine go_aload_n (pc := 0) dX7_reads_0 rfl rfl ?_
  obtain ⟨v1, hv2, h⟩ := fm_bind h
  refine go_callVi (pc := 1) (As := []) (st := []) dX7_reads_1 (c_X7_sign   _ hv2) (by decide) ce_X7_sign ml_X7_210 in_X7_sign se_X7_sign cl_X7 rfl rfl (Nat.le_of_ble_eq_true rfl) rfl ?_
  refine go_iload_n (pc := 4) dX7_reads_4 rfl rfl ?_
  refine go_icmp_eq (pc := 5) (tgt := 10) dX7_reads_5 (by decide) (fun c3 => ?_) (fun c3 => ?_)
  · rw [if_pos c3] at h
    refine go_aload_n (pc := 10) dX7_reads_10 rfl rfl ?_
    refine go_dup (pc := 11) dX7_reads_11 rfl ?_
    refine go_getI (pc := 12) (k := 14) dX7_reads_12 cl_X7 rfl rfl (by decide) lk_X7_207 ?_
    refine go_iconst (pc := 15) (v := (1 : Int32)) dX7_reads_15 (by decide) ?_
    refine go_iadd (pc := 16) dX7_reads_16 ?_
    refine go_put (pc := 17) (k := 14) .int dX7_reads_17 cl_X7 rfl rfl (by decide) lk_X7_207 rfl (by decide +kernel) rfl rfl ?_
    refine go_iconst (pc := 20) (v := (1 : Int32)) dX7_reads_20 (by decide) ?_
    obtain rfl := Option.some.inj h
    exact go_iret (pc := 21) .boolean dX7_reads_21 rfl rfl ⟨rfl, rfl⟩
  · rw [if_neg c3] at h
    refine go_iconst (pc := 8) (v := (0 : Int32)) dX7_reads_8 (by decide) ?_
    obtain rfl := Option.some.inj h
    exact go_iret (pc := 9) .boolean dX7_reads_9 rfl rfl ⟨rfl, rfl⟩
def f_X7_readsNumber_L34 : Nat → Int32 → Int32 → Int32 → fm_M → Option (Bool × fm_M)
  | 0, _, _, _, _ => none
  | n + 1, y1, y2, y3, m => if y2 ≤ y3 then (some (true, m)) else ((f_X7_sign m).bind fun v11 => (f_X7_isBetween v11 (48 : Int32) (57 : Int32) m).bind fun v13 => if v13 = true then (if fm_in y1 2 = true then ((f_X7_sign m).bind fun v17 => if fm_in y1 2 = true then (f_X7_readsNumber_L34 n y1 y2 (y3 + (1 : Int32)) (fm_put (fm_put m 30 y1.toNatClampNeg ((((10 : Int32) * (m 30 y1.toNatClampNeg)) + v17) - (48 : Int32))) 23 14 (((fm_put m 30 y1.toNatClampNeg ((((10 : Int32) * (m 30 y1.toNatClampNeg)) + v17) - (48 : Int32))) 23 14) + (1 : Int32)))) else none) else none) else (some (true, m)))
def f_X7_readsNumber (x1 : Int32) (x2 : Int32) (m : fm_M) : Option (Bool × fm_M) :=
  (f_X7_reads (32 : Int32) m).bind fun v1 => if v1.1 = true then ((f_X7_sign v1.2).bind fun v4 => (f_X7_isBetween v4 (48 : Int32) (57 : Int32) v1.2).bind fun v6 => if v6 = true then (if fm_in x1 2 = true then (f_X7_readsNumber_L34 fm_F x1 x2 (0 : Int32) (fm_put v1.2 30 x1.toNatClampNeg (0 : Int32))) else none) else (some (false, v1.2))) else (some (false, v1.2))
set_option maxRecDepth 100000 in
set_option maxHeartbeats 4000000 in
theorem c_X7_readsNumber_L34 : ∀ (n : Nat) (y1 : Int32) (y2 : Int32) (y3 : Int32) (m : fm_M) (res : Bool × fm_M), f_X7_readsNumber_L34 n y1 y2 y3 m = some res → fm_Go fm_layW 2 m_X7_readsNumber (fm_pi (fm_b res.1) res.2) 34 [some (.ref 23), some (.int y1), some (.int y2), some (.int y3)] [] m := by
  intro n
  induction n with
  | zero => intro y1 y2 y3 m res h; cases h
  | succ n ih =>
    intro y1 y2 y3 m res h
    rw [f_X7_readsNumber_L34] at h
    refine go_iload_n (pc := 34) dX7_readsNumber_34 rfl rfl ?_
    refine go_iload_n (pc := 35) dX7_readsNumber_35 rfl rfl ?_
    refine go_icmp_ge (pc := 36) (tgt := 92) dX7_readsNumber_36 (by decide) (fun c10 => ?_) (fun c10 => ?_)
    · rw [if_pos c10] at h
      refine go_iconst (pc := 92) (v := (1 : Int32)) dX7_readsNumber_92 (by decide) ?_
      obtain rfl := Option.some.inj h
      exact go_iret (pc := 93) .boolean dX7_readsNumber_93 rfl rfl ⟨rfl, rfl⟩
    · rw [if_neg c10] at h
      refine go_aload_n (pc := 39) dX7_readsNumber_39 rfl rfl ?_
      obtain ⟨v11, hv12, h⟩ := fm_bind h
      refine go_callVi (pc := 40) (As := []) (st := []) dX7_readsNumber_40 (c_X7_sign   _ hv12) (by decide) ce_X7_sign ml_X7_210 in_X7_sign se_X7_sign cl_X7 rfl rfl (Nat.le_of_ble_eq_true rfl) rfl ?_
      refine go_bipush (pc := 43) (v := (48 : Int32)) dX7_readsNumber_43 (by decide) ?_
      refine go_bipush (pc := 45) (v := (57 : Int32)) dX7_readsNumber_45 (by decide) ?_
      obtain ⟨v13, hv14, h⟩ := fm_bind h
      refine go_callSi (pc := 47) (As := [.int v11, .int (48 : Int32), .int (57 : Int32)]) (st := []) dX7_readsNumber_47 (c_X7_isBetween   _ _ _ _ hv14) (by decide) ce_X7_isBetween ml_X7_60 st_X7_isBetween rfl (Nat.le_of_ble_eq_true rfl) rfl ?_
      refine go_ifb_eq (pc := 50) (tgt := 92) dX7_readsNumber_50 (by decide) (fun c15 => ?_) (fun c15 => ?_)
      · rw [if_neg (by rw [c15]; decide)] at h
        refine go_iconst (pc := 92) (v := (1 : Int32)) dX7_readsNumber_92 (by decide) ?_
        obtain rfl := Option.some.inj h
        exact go_iret (pc := 93) .boolean dX7_readsNumber_93 rfl rfl ⟨rfl, rfl⟩
      · rw [if_pos c15] at h
        refine go_aload_n (pc := 53) dX7_readsNumber_53 rfl rfl ?_
        refine go_getR (pc := 54) (k := 15) (q2 := 30) dX7_readsNumber_54 cl_X7 rfl rfl (by decide) lk_X7_29 ?_
        refine go_iload_n (pc := 57) dX7_readsNumber_57 rfl rfl ?_
        refine go_bipush (pc := 58) (v := (10 : Int32)) dX7_readsNumber_58 (by decide) ?_
        refine go_aload_n (pc := 60) dX7_readsNumber_60 rfl rfl ?_
        refine go_getR (pc := 61) (k := 15) (q2 := 30) dX7_readsNumber_61 cl_X7 rfl rfl (by decide) lk_X7_29 ?_
        refine go_iload_n (pc := 64) dX7_readsNumber_64 rfl rfl ?_
        obtain ⟨hi16, h⟩ := fm_chk h
        refine go_iald (pc := 65) dX7_readsNumber_65 rfl (fm_in_vp hi16) ?_
        refine go_imul (pc := 66) dX7_readsNumber_66 ?_
        refine go_aload_n (pc := 67) dX7_readsNumber_67 rfl rfl ?_
        obtain ⟨v17, hv18, h⟩ := fm_bind h
        refine go_callVi (pc := 68) (As := []) (st := [.int ((10 : Int32) * (m 30 y1.toNatClampNeg)), .int y1, .ref 30]) dX7_readsNumber_68 (c_X7_sign   _ hv18) (by decide) ce_X7_sign ml_X7_210 in_X7_sign se_X7_sign cl_X7 rfl rfl (Nat.le_of_ble_eq_true rfl) rfl ?_
        refine go_iadd (pc := 71) dX7_readsNumber_71 ?_
        refine go_bipush (pc := 72) (v := (48 : Int32)) dX7_readsNumber_72 (by decide) ?_
        refine go_isub (pc := 74) dX7_readsNumber_74 ?_
        obtain ⟨hi19, h⟩ := fm_chk h
        refine go_iast (pc := 75) dX7_readsNumber_75 rfl (fm_in_vp hi19) ?_
        refine go_aload_n (pc := 76) dX7_readsNumber_76 rfl rfl ?_
        refine go_dup (pc := 77) dX7_readsNumber_77 rfl ?_
        refine go_getI (pc := 78) (k := 14) dX7_readsNumber_78 cl_X7 rfl rfl (by decide) lk_X7_207 ?_
        refine go_iconst (pc := 81) (v := (1 : Int32)) dX7_readsNumber_81 (by decide) ?_
        refine go_iadd (pc := 82) dX7_readsNumber_82 ?_
        refine go_put (pc := 83) (k := 14) .int dX7_readsNumber_83 cl_X7 rfl rfl (by decide) lk_X7_207 rfl (by decide +kernel) rfl rfl ?_
        refine go_iinc (pc := 86) (v := (y3 + (1 : Int32))) (ls1 := [some (.ref 23), some (.int y1), some (.int y2), some (.int (y3 + (1 : Int32)))]) dX7_readsNumber_86 rfl rfl (Nat.le_of_ble_eq_true rfl) rfl ?_
        refine go_goto (pc := 89) (tgt := 34) dX7_readsNumber_89 (by decide) ?_
        exact ih _ _ _ _ _ h
set_option maxRecDepth 100000 in
set_option maxHeartbeats 4000000 in
theorem c_X7_readsNumber (x1 : Int32) (x2 : Int32) (m : fm_M) {res : Bool × fm_M} (h : f_X7_readsNumber x1 x2 m = some res) : fm_Met fm_layW 2 m_X7_readsNumber [.ref 23, .int x1, .int x2] m (fm_pi (fm_b res.1) res.2) := by
  refine fm_Met_of (ls := [some (.ref 23), some (.int x1), some (.int x2), none]) (by decide) rfl (fm_cc_r _ (fm_cc_i _ (fm_cc_i _ fm_cc_0))) (Nat.le_of_ble_eq_true rfl) rfl ?_
  unfold f_X7_readsNumber at h
  refine go_aload_n (pc := 0) dX7_readsNumber_0 rfl rfl ?_
  refine go_bipush (pc := 1) (v := (32 : Int32)) dX7_readsNumber_1 (by decide) ?_
  obtain ⟨v1, hv2, h⟩ := fm_bind h
  refine go_callVi (pc := 3) (As := [.int (32 : Int32)]) (st := []) dX7_readsNumber_3 (c_X7_reads   _ _ hv2) (by decide) ce_X7_reads ml_X7_213 in_X7_reads se_X7_reads cl_X7 rfl rfl (Nat.le_of_ble_eq_true rfl) rfl ?_
  refine go_ifb_eq (pc := 6) (tgt := 23) dX7_readsNumber_6 (by decide) (fun c3 => ?_) (fun c3 => ?_)
  · rw [if_neg (by rw [c3]; decide)] at h
    refine go_iconst (pc := 23) (v := (0 : Int32)) dX7_readsNumber_23 (by decide) ?_
    obtain rfl := Option.some.inj h
    exact go_iret (pc := 24) .boolean dX7_readsNumber_24 rfl rfl ⟨rfl, rfl⟩
  · rw [if_pos c3] at h
    refine go_aload_n (pc := 9) dX7_readsNumber_9 rfl rfl ?_
    obtain ⟨v4, hv5, h⟩ := fm_bind h
    refine go_callVi (pc := 10) (As := []) (st := []) dX7_readsNumber_10 (c_X7_sign   _ hv5) (by decide) ce_X7_sign ml_X7_210 in_X7_sign se_X7_sign cl_X7 rfl rfl (Nat.le_of_ble_eq_true rfl) rfl ?_
    refine go_bipush (pc := 13) (v := (48 : Int32)) dX7_readsNumber_13 (by decide) ?_
    refine go_bipush (pc := 15) (v := (57 : Int32)) dX7_readsNumber_15 (by decide) ?_
    obtain ⟨v6, hv7, h⟩ := fm_bind h
    refine go_callSi (pc := 17) (As := [.int v4, .int (48 : Int32), .int (57 : Int32)]) (st := []) dX7_readsNumber_17 (c_X7_isBetween   _ _ _ _ hv7) (by decide) ce_X7_isBetween ml_X7_60 st_X7_isBetween rfl (Nat.le_of_ble_eq_true rfl) rfl ?_
    refine go_ifb_ne (pc := 20) (tgt := 25) dX7_readsNumber_20 (by decide) (fun c8 => ?_) (fun c8 => ?_)
    · rw [if_pos c8] at h
      refine go_aload_n (pc := 25) dX7_readsNumber_25 rfl rfl ?_
      refine go_getR (pc := 26) (k := 15) (q2 := 30) dX7_readsNumber_26 cl_X7 rfl rfl (by decide) lk_X7_29 ?_
      refine go_iload_n (pc := 29) dX7_readsNumber_29 rfl rfl ?_
      refine go_iconst (pc := 30) (v := (0 : Int32)) dX7_readsNumber_30 (by decide) ?_
      obtain ⟨hi9, h⟩ := fm_chk h
      refine go_iast (pc := 31) dX7_readsNumber_31 rfl (fm_in_vp hi9) ?_
      refine go_iconst (pc := 32) (v := (0 : Int32)) dX7_readsNumber_32 (by decide) ?_
      refine go_istore_n (pc := 33) (ls1 := [some (.ref 23), some (.int x1), some (.int x2), some (.int (0 : Int32))]) dX7_readsNumber_33 rfl (by decide) rfl ?_
      exact c_X7_readsNumber_L34  fm_F _ _ _ _ _ h
    · rw [if_neg (by rw [c8]; decide)] at h
      refine go_iconst (pc := 23) (v := (0 : Int32)) dX7_readsNumber_23 (by decide) ?_
      obtain rfl := Option.some.inj h
      exact go_iret (pc := 24) .boolean dX7_readsNumber_24 rfl rfl ⟨rfl, rfl⟩
def f_X7_readsTwo (x1 : Int32) (x2 : Int32) (x3 : Int32) (m : fm_M) : Option (Bool × fm_M) :=
  (f_X7_readsNumber (0 : Int32) x2 (fm_put m 23 16 x1)).bind fun v1 => if v1.1 = true then (if x3 = 0 then (some (true, v1.2)) else ((f_X7_readsNumber (1 : Int32) x3 v1.2).bind fun v5 => if v5.1 = true then (some (true, v5.2)) else (some (false, v5.2)))) else (some (false, v1.2))
set_option maxRecDepth 100000 in
set_option maxHeartbeats 4000000 in
theorem c_X7_readsTwo (x1 : Int32) (x2 : Int32) (x3 : Int32) (m : fm_M) {res : Bool × fm_M} (h : f_X7_readsTwo x1 x2 x3 m = some res) : fm_Met fm_layW 3 m_X7_readsTwo [.ref 23, .int x1, .int x2, .int x3] m (fm_pi (fm_b res.1) res.2) := by
  refine fm_Met_of (ls := [some (.ref 23), some (.int x1), some (.int x2), some (.int x3)]) (by decide) rfl (fm_cc_r _ (fm_cc_i _ (fm_cc_i _ (fm_cc_i _ fm_cc_0)))) (Nat.le_of_ble_eq_true rfl) rfl ?_
  unfold f_X7_readsTwo at h
  refine go_aload_n (pc := 0) dX7_readsTwo_0 rfl rfl ?_
  refine go_iload_n (pc := 1) dX7_readsTwo_1 rfl rfl ?_
  refine go_put (pc := 2) (k := 16) .int dX7_readsTwo_2 cl_X7 rfl rfl (by decide) lk_X7_216 rfl (by decide +kernel) rfl rfl ?_
  refine go_aload_n (pc := 5) dX7_readsTwo_5 rfl rfl ?_
  refine go_iconst (pc := 6) (v := (0 : Int32)) dX7_readsTwo_6 (by decide) ?_
  refine go_iload_n (pc := 7) dX7_readsTwo_7 rfl rfl ?_
  obtain ⟨v1, hv2, h⟩ := fm_bind h
  refine go_callVi (pc := 8) (As := [.int (0 : Int32), .int x2]) (st := []) dX7_readsTwo_8 (c_X7_readsNumber   _ _ _ hv2) (by decide) ce_X7_readsNumber ml_X7_219 in_X7_readsNumber se_X7_readsNumber cl_X7 rfl rfl (Nat.le_of_ble_eq_true rfl) rfl ?_
  refine go_ifb_eq (pc := 11) (tgt := 31) dX7_readsTwo_11 (by decide) (fun c3 => ?_) (fun c3 => ?_)
  · rw [if_neg (by rw [c3]; decide)] at h
    refine go_iconst (pc := 31) (v := (0 : Int32)) dX7_readsTwo_31 (by decide) ?_
    obtain rfl := Option.some.inj h
    exact go_iret (pc := 32) .boolean dX7_readsTwo_32 rfl rfl ⟨rfl, rfl⟩
  · rw [if_pos c3] at h
    refine go_iload_n (pc := 14) dX7_readsTwo_14 rfl rfl ?_
    refine go_if_eq (pc := 15) (tgt := 27) dX7_readsTwo_15 (by decide) (fun c4 => ?_) (fun c4 => ?_)
    · rw [if_pos c4] at h
      refine go_iconst (pc := 27) (v := (1 : Int32)) dX7_readsTwo_27 (by decide) ?_
      refine go_goto (pc := 28) (tgt := 32) dX7_readsTwo_28 (by decide) ?_
      obtain rfl := Option.some.inj h
      exact go_iret (pc := 32) .boolean dX7_readsTwo_32 rfl rfl ⟨rfl, rfl⟩
    · rw [if_neg c4] at h
      refine go_aload_n (pc := 18) dX7_readsTwo_18 rfl rfl ?_
      refine go_iconst (pc := 19) (v := (1 : Int32)) dX7_readsTwo_19 (by decide) ?_
      refine go_iload_n (pc := 20) dX7_readsTwo_20 rfl rfl ?_
      obtain ⟨v5, hv6, h⟩ := fm_bind h
      refine go_callVi (pc := 21) (As := [.int (1 : Int32), .int x3]) (st := []) dX7_readsTwo_21 (c_X7_readsNumber   _ _ _ hv6) (by decide) ce_X7_readsNumber ml_X7_219 in_X7_readsNumber se_X7_readsNumber cl_X7 rfl rfl (Nat.le_of_ble_eq_true rfl) rfl ?_
      refine go_ifb_eq (pc := 24) (tgt := 31) dX7_readsTwo_24 (by decide) (fun c7 => ?_) (fun c7 => ?_)
      · rw [if_neg (by rw [c7]; decide)] at h
        refine go_iconst (pc := 31) (v := (0 : Int32)) dX7_readsTwo_31 (by decide) ?_
        obtain rfl := Option.some.inj h
        exact go_iret (pc := 32) .boolean dX7_readsTwo_32 rfl rfl ⟨rfl, rfl⟩
      · rw [if_pos c7] at h
        refine go_iconst (pc := 27) (v := (1 : Int32)) dX7_readsTwo_27 (by decide) ?_
        refine go_goto (pc := 28) (tgt := 32) dX7_readsTwo_28 (by decide) ?_
        obtain rfl := Option.some.inj h
        exact go_iret (pc := 32) .boolean dX7_readsTwo_32 rfl rfl ⟨rfl, rfl⟩
def f_X7_readsOrder (m : fm_M) : Option (Bool × fm_M) :=
  (f_X7_reads (118 : Int32) m).bind fun v1 => if v1.1 = true then ((f_X7_reads (111 : Int32) v1.2).bind fun v136 => if v136.1 = true then ((f_X7_reads (105 : Int32) v136.2).bind fun v139 => if v139.1 = true then ((f_X7_reads (99 : Int32) v139.2).bind fun v142 => if v142.1 = true then ((f_X7_reads (101 : Int32) v142.2).bind fun v145 => if v145.1 = true then ((f_X7_readsTwo (0 : Int32) (2 : Int32) (2 : Int32) v145.2).bind fun v148 => if v148.1 = true then (some (true, v148.2)) else (some (false, v148.2))) else (some (false, v145.2))) else (some (false, v142.2))) else (some (false, v139.2))) else (some (false, v136.2))) else ((f_X7_reads (99 : Int32) v1.2).bind fun v4 => if v4.1 = true then ((f_X7_reads (104 : Int32) v4.2).bind fun v118 => if v118.1 = true then ((f_X7_reads (111 : Int32) v118.2).bind fun v121 => if v121.1 = true then ((f_X7_reads (111 : Int32) v121.2).bind fun v124 => if v124.1 = true then ((f_X7_reads (115 : Int32) v124.2).bind fun v127 => if v127.1 = true then ((f_X7_reads (101 : Int32) v127.2).bind fun v130 => if v130.1 = true then ((f_X7_readsTwo (1 : Int32) (1 : Int32) (0 : Int32) v130.2).bind fun v133 => if v133.1 = true then (some (true, v133.2)) else (some (false, v133.2))) else (some (false, v130.2))) else (some (false, v127.2))) else (some (false, v124.2))) else (some (false, v121.2))) else (some (false, v118.2))) else ((f_X7_reads (108 : Int32) v4.2).bind fun v7 => if v7.1 = true then ((f_X7_reads (101 : Int32) v7.2).bind fun v103 => if v103.1 = true then ((f_X7_reads (97 : Int32) v103.2).bind fun v106 => if v106.1 = true then ((f_X7_reads (118 : Int32) v106.2).bind fun v109 => if v109.1 = true then ((f_X7_reads (101 : Int32) v109.2).bind fun v112 => if v112.1 = true then ((f_X7_readsTwo (2 : Int32) (1 : Int32) (0 : Int32) v112.2).bind fun v115 => if v115.1 = true then (some (true, v115.2)) else (some (false, v115.2))) else (some (false, v112.2))) else (some (false, v109.2))) else (some (false, v106.2))) else (some (false, v103.2))) else ((f_X7_reads (98 : Int32) v7.2).bind fun v10 => if v10.1 = true then ((f_X7_reads (114 : Int32) v10.2).bind fun v85 => if v85.1 = true then ((f_X7_reads (101 : Int32) v85.2).bind fun v88 => if v88.1 = true then ((f_X7_reads (97 : Int32) v88.2).bind fun v91 => if v91.1 = true then ((f_X7_reads (99 : Int32) v91.2).bind fun v94 => if v94.1 = true then ((f_X7_reads (104 : Int32) v94.2).bind fun v97 => if v97.1 = true then ((f_X7_readsTwo (3 : Int32) (2 : Int32) (1 : Int32) v97.2).bind fun v100 => if v100.1 = true then (some (true, v100.2)) else (some (false, v100.2))) else (some (false, v97.2))) else (some (false, v94.2))) else (some (false, v91.2))) else (some (false, v88.2))) else (some (false, v85.2))) else ((f_X7_reads (112 : Int32) v10.2).bind fun v13 => if v13.1 = true then ((f_X7_reads (97 : Int32) v13.2).bind fun v67 => if v67.1 = true then ((f_X7_reads (114 : Int32) v67.2).bind fun v70 => if v70.1 = true then ((f_X7_reads (100 : Int32) v70.2).bind fun v73 => if v73.1 = true then ((f_X7_reads (111 : Int32) v73.2).bind fun v76 => if v76.1 = true then ((f_X7_reads (110 : Int32) v76.2).bind fun v79 => if v79.1 = true then ((f_X7_readsTwo (4 : Int32) (2 : Int32) (0 : Int32) v79.2).bind fun v82 => if v82.1 = true then (some (true, v82.2)) else (some (false, v82.2))) else (some (false, v79.2))) else (some (false, v76.2))) else (some (false, v73.2))) else (some (false, v70.2))) else (some (false, v67.2))) else ((f_X7_reads (102 : Int32) v13.2).bind fun v16 => if v16.1 = true then ((f_X7_reads (101 : Int32) v16.2).bind fun v52 => if v52.1 = true then ((f_X7_reads (97 : Int32) v52.2).bind fun v55 => if v55.1 = true then ((f_X7_reads (115 : Int32) v55.2).bind fun v58 => if v58.1 = true then ((f_X7_reads (116 : Int32) v58.2).bind fun v61 => if v61.1 = true then ((f_X7_readsTwo (5 : Int32) (2 : Int32) (1 : Int32) v61.2).bind fun v64 => if v64.1 = true then (some (true, v64.2)) else (some (false, v64.2))) else (some (false, v61.2))) else (some (false, v58.2))) else (some (false, v55.2))) else (some (false, v52.2))) else ((f_X7_reads (103 : Int32) v16.2).bind fun v19 => if v19.1 = true then ((f_X7_reads (105 : Int32) v19.2).bind fun v40 => if v40.1 = true then ((f_X7_reads (102 : Int32) v40.2).bind fun v43 => if v43.1 = true then ((f_X7_reads (116 : Int32) v43.2).bind fun v46 => if v46.1 = true then ((f_X7_readsTwo (6 : Int32) (3 : Int32) (0 : Int32) v46.2).bind fun v49 => if v49.1 = true then (some (true, v49.2)) else (some (false, v49.2))) else (some (false, v46.2))) else (some (false, v43.2))) else (some (false, v40.2))) else ((f_X7_reads (119 : Int32) v19.2).bind fun v22 => if v22.1 = true then ((f_X7_reads (101 : Int32) v22.2).bind fun v25 => if v25.1 = true then ((f_X7_reads (101 : Int32) v25.2).bind fun v28 => if v28.1 = true then ((f_X7_reads (107 : Int32) v28.2).bind fun v31 => if v31.1 = true then ((f_X7_reads (115 : Int32) v31.2).bind fun v34 => if v34.1 = true then ((f_X7_readsTwo (7 : Int32) (2 : Int32) (0 : Int32) v34.2).bind fun v37 => if v37.1 = true then (some (true, v37.2)) else (some (false, v37.2))) else (some (false, v34.2))) else (some (false, v31.2))) else (some (false, v28.2))) else (some (false, v25.2))) else (some (false, v22.2)))))))))
set_option maxRecDepth 100000 in
set_option maxHeartbeats 4000000 in
theorem c_X7_readsOrder (m : fm_M) {res : Bool × fm_M} (h : f_X7_readsOrder  m = some res) : fm_Met fm_layW 4 m_X7_readsOrder [.ref 23] m (fm_pi (fm_b res.1) res.2) := by
  refine fm_Met_of (ls := [some (.ref 23)]) (by decide) rfl (fm_cc_r _ fm_cc_0) (Nat.le_of_ble_eq_true rfl) rfl ?_
  unfold f_X7_readsOrder at h
  refine go_aload_n (pc := 0) dX7_readsOrder_0 rfl rfl ?_
  refine go_bipush (pc := 1) (v := (118 : Int32)) dX7_readsOrder_1 (by decide) ?_
  obtain ⟨v1, hv2, h⟩ := fm_bind h
  refine go_callVi (pc := 3) (As := [.int (118 : Int32)]) (st := []) dX7_readsOrder_3 (c_X7_reads   _ _ hv2) (by decide) ce_X7_reads ml_X7_213 in_X7_reads se_X7_reads cl_X7 rfl rfl (Nat.le_of_ble_eq_true rfl) rfl ?_
  refine go_ifb_eq (pc := 6) (tgt := 61) dX7_readsOrder_6 (by decide) (fun c3 => ?_) (fun c3 => ?_)
  · rw [if_neg (by rw [c3]; decide)] at h
    refine go_aload_n (pc := 61) dX7_readsOrder_61 rfl rfl ?_
    refine go_bipush (pc := 62) (v := (99 : Int32)) dX7_readsOrder_62 (by decide) ?_
    obtain ⟨v4, hv5, h⟩ := fm_bind h
    refine go_callVi (pc := 64) (As := [.int (99 : Int32)]) (st := []) dX7_readsOrder_64 (c_X7_reads   _ _ hv5) (by decide) ce_X7_reads ml_X7_213 in_X7_reads se_X7_reads cl_X7 rfl rfl (Nat.le_of_ble_eq_true rfl) rfl ?_
    refine go_ifb_eq (pc := 67) (tgt := 131) dX7_readsOrder_67 (by decide) (fun c6 => ?_) (fun c6 => ?_)
    · rw [if_neg (by rw [c6]; decide)] at h
      refine go_aload_n (pc := 131) dX7_readsOrder_131 rfl rfl ?_
      refine go_bipush (pc := 132) (v := (108 : Int32)) dX7_readsOrder_132 (by decide) ?_
      obtain ⟨v7, hv8, h⟩ := fm_bind h
      refine go_callVi (pc := 134) (As := [.int (108 : Int32)]) (st := []) dX7_readsOrder_134 (c_X7_reads   _ _ hv8) (by decide) ce_X7_reads ml_X7_213 in_X7_reads se_X7_reads cl_X7 rfl rfl (Nat.le_of_ble_eq_true rfl) rfl ?_
      refine go_ifb_eq (pc := 137) (tgt := 192) dX7_readsOrder_137 (by decide) (fun c9 => ?_) (fun c9 => ?_)
      · rw [if_neg (by rw [c9]; decide)] at h
        refine go_aload_n (pc := 192) dX7_readsOrder_192 rfl rfl ?_
        refine go_bipush (pc := 193) (v := (98 : Int32)) dX7_readsOrder_193 (by decide) ?_
        obtain ⟨v10, hv11, h⟩ := fm_bind h
        refine go_callVi (pc := 195) (As := [.int (98 : Int32)]) (st := []) dX7_readsOrder_195 (c_X7_reads   _ _ hv11) (by decide) ce_X7_reads ml_X7_213 in_X7_reads se_X7_reads cl_X7 rfl rfl (Nat.le_of_ble_eq_true rfl) rfl ?_
        refine go_ifb_eq (pc := 198) (tgt := 262) dX7_readsOrder_198 (by decide) (fun c12 => ?_) (fun c12 => ?_)
        · rw [if_neg (by rw [c12]; decide)] at h
          refine go_aload_n (pc := 262) dX7_readsOrder_262 rfl rfl ?_
          refine go_bipush (pc := 263) (v := (112 : Int32)) dX7_readsOrder_263 (by decide) ?_
          obtain ⟨v13, hv14, h⟩ := fm_bind h
          refine go_callVi (pc := 265) (As := [.int (112 : Int32)]) (st := []) dX7_readsOrder_265 (c_X7_reads   _ _ hv14) (by decide) ce_X7_reads ml_X7_213 in_X7_reads se_X7_reads cl_X7 rfl rfl (Nat.le_of_ble_eq_true rfl) rfl ?_
          refine go_ifb_eq (pc := 268) (tgt := 332) dX7_readsOrder_268 (by decide) (fun c15 => ?_) (fun c15 => ?_)
          · rw [if_neg (by rw [c15]; decide)] at h
            refine go_aload_n (pc := 332) dX7_readsOrder_332 rfl rfl ?_
            refine go_bipush (pc := 333) (v := (102 : Int32)) dX7_readsOrder_333 (by decide) ?_
            obtain ⟨v16, hv17, h⟩ := fm_bind h
            refine go_callVi (pc := 335) (As := [.int (102 : Int32)]) (st := []) dX7_readsOrder_335 (c_X7_reads   _ _ hv17) (by decide) ce_X7_reads ml_X7_213 in_X7_reads se_X7_reads cl_X7 rfl rfl (Nat.le_of_ble_eq_true rfl) rfl ?_
            refine go_ifb_eq (pc := 338) (tgt := 393) dX7_readsOrder_338 (by decide) (fun c18 => ?_) (fun c18 => ?_)
            · rw [if_neg (by rw [c18]; decide)] at h
              refine go_aload_n (pc := 393) dX7_readsOrder_393 rfl rfl ?_
              refine go_bipush (pc := 394) (v := (103 : Int32)) dX7_readsOrder_394 (by decide) ?_
              obtain ⟨v19, hv20, h⟩ := fm_bind h
              refine go_callVi (pc := 396) (As := [.int (103 : Int32)]) (st := []) dX7_readsOrder_396 (c_X7_reads   _ _ hv20) (by decide) ce_X7_reads ml_X7_213 in_X7_reads se_X7_reads cl_X7 rfl rfl (Nat.le_of_ble_eq_true rfl) rfl ?_
              refine go_ifb_eq (pc := 399) (tgt := 446) dX7_readsOrder_399 (by decide) (fun c21 => ?_) (fun c21 => ?_)
              · rw [if_neg (by rw [c21]; decide)] at h
                refine go_aload_n (pc := 446) dX7_readsOrder_446 rfl rfl ?_
                refine go_bipush (pc := 447) (v := (119 : Int32)) dX7_readsOrder_447 (by decide) ?_
                obtain ⟨v22, hv23, h⟩ := fm_bind h
                refine go_callVi (pc := 449) (As := [.int (119 : Int32)]) (st := []) dX7_readsOrder_449 (c_X7_reads   _ _ hv23) (by decide) ce_X7_reads ml_X7_213 in_X7_reads se_X7_reads cl_X7 rfl rfl (Nat.le_of_ble_eq_true rfl) rfl ?_
                refine go_ifb_eq (pc := 452) (tgt := 506) dX7_readsOrder_452 (by decide) (fun c24 => ?_) (fun c24 => ?_)
                · rw [if_neg (by rw [c24]; decide)] at h
                  refine go_iconst (pc := 506) (v := (0 : Int32)) dX7_readsOrder_506 (by decide) ?_
                  obtain rfl := Option.some.inj h
                  exact go_iret (pc := 507) .boolean dX7_readsOrder_507 rfl rfl ⟨rfl, rfl⟩
                · rw [if_pos c24] at h
                  refine go_aload_n (pc := 455) dX7_readsOrder_455 rfl rfl ?_
                  refine go_bipush (pc := 456) (v := (101 : Int32)) dX7_readsOrder_456 (by decide) ?_
                  obtain ⟨v25, hv26, h⟩ := fm_bind h
                  refine go_callVi (pc := 458) (As := [.int (101 : Int32)]) (st := []) dX7_readsOrder_458 (c_X7_reads   _ _ hv26) (by decide) ce_X7_reads ml_X7_213 in_X7_reads se_X7_reads cl_X7 rfl rfl (Nat.le_of_ble_eq_true rfl) rfl ?_
                  refine go_ifb_eq (pc := 461) (tgt := 506) dX7_readsOrder_461 (by decide) (fun c27 => ?_) (fun c27 => ?_)
                  · rw [if_neg (by rw [c27]; decide)] at h
                    refine go_iconst (pc := 506) (v := (0 : Int32)) dX7_readsOrder_506 (by decide) ?_
                    obtain rfl := Option.some.inj h
                    exact go_iret (pc := 507) .boolean dX7_readsOrder_507 rfl rfl ⟨rfl, rfl⟩
                  · rw [if_pos c27] at h
                    refine go_aload_n (pc := 464) dX7_readsOrder_464 rfl rfl ?_
                    refine go_bipush (pc := 465) (v := (101 : Int32)) dX7_readsOrder_465 (by decide) ?_
                    obtain ⟨v28, hv29, h⟩ := fm_bind h
                    refine go_callVi (pc := 467) (As := [.int (101 : Int32)]) (st := []) dX7_readsOrder_467 (c_X7_reads   _ _ hv29) (by decide) ce_X7_reads ml_X7_213 in_X7_reads se_X7_reads cl_X7 rfl rfl (Nat.le_of_ble_eq_true rfl) rfl ?_
                    refine go_ifb_eq (pc := 470) (tgt := 506) dX7_readsOrder_470 (by decide) (fun c30 => ?_) (fun c30 => ?_)
                    · rw [if_neg (by rw [c30]; decide)] at h
                      refine go_iconst (pc := 506) (v := (0 : Int32)) dX7_readsOrder_506 (by decide) ?_
                      obtain rfl := Option.some.inj h
                      exact go_iret (pc := 507) .boolean dX7_readsOrder_507 rfl rfl ⟨rfl, rfl⟩
                    · rw [if_pos c30] at h
                      refine go_aload_n (pc := 473) dX7_readsOrder_473 rfl rfl ?_
                      refine go_bipush (pc := 474) (v := (107 : Int32)) dX7_readsOrder_474 (by decide) ?_
                      obtain ⟨v31, hv32, h⟩ := fm_bind h
                      refine go_callVi (pc := 476) (As := [.int (107 : Int32)]) (st := []) dX7_readsOrder_476 (c_X7_reads   _ _ hv32) (by decide) ce_X7_reads ml_X7_213 in_X7_reads se_X7_reads cl_X7 rfl rfl (Nat.le_of_ble_eq_true rfl) rfl ?_
                      refine go_ifb_eq (pc := 479) (tgt := 506) dX7_readsOrder_479 (by decide) (fun c33 => ?_) (fun c33 => ?_)
                      · rw [if_neg (by rw [c33]; decide)] at h
                        refine go_iconst (pc := 506) (v := (0 : Int32)) dX7_readsOrder_506 (by decide) ?_
                        obtain rfl := Option.some.inj h
                        exact go_iret (pc := 507) .boolean dX7_readsOrder_507 rfl rfl ⟨rfl, rfl⟩
                      · rw [if_pos c33] at h
                        refine go_aload_n (pc := 482) dX7_readsOrder_482 rfl rfl ?_
                        refine go_bipush (pc := 483) (v := (115 : Int32)) dX7_readsOrder_483 (by decide) ?_
                        obtain ⟨v34, hv35, h⟩ := fm_bind h
                        refine go_callVi (pc := 485) (As := [.int (115 : Int32)]) (st := []) dX7_readsOrder_485 (c_X7_reads   _ _ hv35) (by decide) ce_X7_reads ml_X7_213 in_X7_reads se_X7_reads cl_X7 rfl rfl (Nat.le_of_ble_eq_true rfl) rfl ?_
                        refine go_ifb_eq (pc := 488) (tgt := 506) dX7_readsOrder_488 (by decide) (fun c36 => ?_) (fun c36 => ?_)
                        · rw [if_neg (by rw [c36]; decide)] at h
                          refine go_iconst (pc := 506) (v := (0 : Int32)) dX7_readsOrder_506 (by decide) ?_
                          obtain rfl := Option.some.inj h
                          exact go_iret (pc := 507) .boolean dX7_readsOrder_507 rfl rfl ⟨rfl, rfl⟩
                        · rw [if_pos c36] at h
                          refine go_aload_n (pc := 491) dX7_readsOrder_491 rfl rfl ?_
                          refine go_bipush (pc := 492) (v := (7 : Int32)) dX7_readsOrder_492 (by decide) ?_
                          refine go_iconst (pc := 494) (v := (2 : Int32)) dX7_readsOrder_494 (by decide) ?_
                          refine go_iconst (pc := 495) (v := (0 : Int32)) dX7_readsOrder_495 (by decide) ?_
                          obtain ⟨v37, hv38, h⟩ := fm_bind h
                          refine go_callVi (pc := 496) (As := [.int (7 : Int32), .int (2 : Int32), .int (0 : Int32)]) (st := []) dX7_readsOrder_496 (c_X7_readsTwo   _ _ _ _ hv38) (by decide) ce_X7_readsTwo ml_X7_222 in_X7_readsTwo se_X7_readsTwo cl_X7 rfl rfl (Nat.le_of_ble_eq_true rfl) rfl ?_
                          refine go_ifb_eq (pc := 499) (tgt := 506) dX7_readsOrder_499 (by decide) (fun c39 => ?_) (fun c39 => ?_)
                          · rw [if_neg (by rw [c39]; decide)] at h
                            refine go_iconst (pc := 506) (v := (0 : Int32)) dX7_readsOrder_506 (by decide) ?_
                            obtain rfl := Option.some.inj h
                            exact go_iret (pc := 507) .boolean dX7_readsOrder_507 rfl rfl ⟨rfl, rfl⟩
                          · rw [if_pos c39] at h
                            refine go_iconst (pc := 502) (v := (1 : Int32)) dX7_readsOrder_502 (by decide) ?_
                            refine go_goto (pc := 503) (tgt := 507) dX7_readsOrder_503 (by decide) ?_
                            obtain rfl := Option.some.inj h
                            exact go_iret (pc := 507) .boolean dX7_readsOrder_507 rfl rfl ⟨rfl, rfl⟩
              · rw [if_pos c21] at h
                refine go_aload_n (pc := 402) dX7_readsOrder_402 rfl rfl ?_
                refine go_bipush (pc := 403) (v := (105 : Int32)) dX7_readsOrder_403 (by decide) ?_
                obtain ⟨v40, hv41, h⟩ := fm_bind h
                refine go_callVi (pc := 405) (As := [.int (105 : Int32)]) (st := []) dX7_readsOrder_405 (c_X7_reads   _ _ hv41) (by decide) ce_X7_reads ml_X7_213 in_X7_reads se_X7_reads cl_X7 rfl rfl (Nat.le_of_ble_eq_true rfl) rfl ?_
                refine go_ifb_eq (pc := 408) (tgt := 444) dX7_readsOrder_408 (by decide) (fun c42 => ?_) (fun c42 => ?_)
                · rw [if_neg (by rw [c42]; decide)] at h
                  refine go_iconst (pc := 444) (v := (0 : Int32)) dX7_readsOrder_444 (by decide) ?_
                  obtain rfl := Option.some.inj h
                  exact go_iret (pc := 445) .boolean dX7_readsOrder_445 rfl rfl ⟨rfl, rfl⟩
                · rw [if_pos c42] at h
                  refine go_aload_n (pc := 411) dX7_readsOrder_411 rfl rfl ?_
                  refine go_bipush (pc := 412) (v := (102 : Int32)) dX7_readsOrder_412 (by decide) ?_
                  obtain ⟨v43, hv44, h⟩ := fm_bind h
                  refine go_callVi (pc := 414) (As := [.int (102 : Int32)]) (st := []) dX7_readsOrder_414 (c_X7_reads   _ _ hv44) (by decide) ce_X7_reads ml_X7_213 in_X7_reads se_X7_reads cl_X7 rfl rfl (Nat.le_of_ble_eq_true rfl) rfl ?_
                  refine go_ifb_eq (pc := 417) (tgt := 444) dX7_readsOrder_417 (by decide) (fun c45 => ?_) (fun c45 => ?_)
                  · rw [if_neg (by rw [c45]; decide)] at h
                    refine go_iconst (pc := 444) (v := (0 : Int32)) dX7_readsOrder_444 (by decide) ?_
                    obtain rfl := Option.some.inj h
                    exact go_iret (pc := 445) .boolean dX7_readsOrder_445 rfl rfl ⟨rfl, rfl⟩
                  · rw [if_pos c45] at h
                    refine go_aload_n (pc := 420) dX7_readsOrder_420 rfl rfl ?_
                    refine go_bipush (pc := 421) (v := (116 : Int32)) dX7_readsOrder_421 (by decide) ?_
                    obtain ⟨v46, hv47, h⟩ := fm_bind h
                    refine go_callVi (pc := 423) (As := [.int (116 : Int32)]) (st := []) dX7_readsOrder_423 (c_X7_reads   _ _ hv47) (by decide) ce_X7_reads ml_X7_213 in_X7_reads se_X7_reads cl_X7 rfl rfl (Nat.le_of_ble_eq_true rfl) rfl ?_
                    refine go_ifb_eq (pc := 426) (tgt := 444) dX7_readsOrder_426 (by decide) (fun c48 => ?_) (fun c48 => ?_)
                    · rw [if_neg (by rw [c48]; decide)] at h
                      refine go_iconst (pc := 444) (v := (0 : Int32)) dX7_readsOrder_444 (by decide) ?_
                      obtain rfl := Option.some.inj h
                      exact go_iret (pc := 445) .boolean dX7_readsOrder_445 rfl rfl ⟨rfl, rfl⟩
                    · rw [if_pos c48] at h
                      refine go_aload_n (pc := 429) dX7_readsOrder_429 rfl rfl ?_
                      refine go_bipush (pc := 430) (v := (6 : Int32)) dX7_readsOrder_430 (by decide) ?_
                      refine go_iconst (pc := 432) (v := (3 : Int32)) dX7_readsOrder_432 (by decide) ?_
                      refine go_iconst (pc := 433) (v := (0 : Int32)) dX7_readsOrder_433 (by decide) ?_
                      obtain ⟨v49, hv50, h⟩ := fm_bind h
                      refine go_callVi (pc := 434) (As := [.int (6 : Int32), .int (3 : Int32), .int (0 : Int32)]) (st := []) dX7_readsOrder_434 (c_X7_readsTwo   _ _ _ _ hv50) (by decide) ce_X7_readsTwo ml_X7_222 in_X7_readsTwo se_X7_readsTwo cl_X7 rfl rfl (Nat.le_of_ble_eq_true rfl) rfl ?_
                      refine go_ifb_eq (pc := 437) (tgt := 444) dX7_readsOrder_437 (by decide) (fun c51 => ?_) (fun c51 => ?_)
                      · rw [if_neg (by rw [c51]; decide)] at h
                        refine go_iconst (pc := 444) (v := (0 : Int32)) dX7_readsOrder_444 (by decide) ?_
                        obtain rfl := Option.some.inj h
                        exact go_iret (pc := 445) .boolean dX7_readsOrder_445 rfl rfl ⟨rfl, rfl⟩
                      · rw [if_pos c51] at h
                        refine go_iconst (pc := 440) (v := (1 : Int32)) dX7_readsOrder_440 (by decide) ?_
                        refine go_goto (pc := 441) (tgt := 445) dX7_readsOrder_441 (by decide) ?_
                        obtain rfl := Option.some.inj h
                        exact go_iret (pc := 445) .boolean dX7_readsOrder_445 rfl rfl ⟨rfl, rfl⟩
            · rw [if_pos c18] at h
              refine go_aload_n (pc := 341) dX7_readsOrder_341 rfl rfl ?_
              refine go_bipush (pc := 342) (v := (101 : Int32)) dX7_readsOrder_342 (by decide) ?_
              obtain ⟨v52, hv53, h⟩ := fm_bind h
              refine go_callVi (pc := 344) (As := [.int (101 : Int32)]) (st := []) dX7_readsOrder_344 (c_X7_reads   _ _ hv53) (by decide) ce_X7_reads ml_X7_213 in_X7_reads se_X7_reads cl_X7 rfl rfl (Nat.le_of_ble_eq_true rfl) rfl ?_
              refine go_ifb_eq (pc := 347) (tgt := 391) dX7_readsOrder_347 (by decide) (fun c54 => ?_) (fun c54 => ?_)
              · rw [if_neg (by rw [c54]; decide)] at h
                refine go_iconst (pc := 391) (v := (0 : Int32)) dX7_readsOrder_391 (by decide) ?_
                obtain rfl := Option.some.inj h
                exact go_iret (pc := 392) .boolean dX7_readsOrder_392 rfl rfl ⟨rfl, rfl⟩
              · rw [if_pos c54] at h
                refine go_aload_n (pc := 350) dX7_readsOrder_350 rfl rfl ?_
                refine go_bipush (pc := 351) (v := (97 : Int32)) dX7_readsOrder_351 (by decide) ?_
                obtain ⟨v55, hv56, h⟩ := fm_bind h
                refine go_callVi (pc := 353) (As := [.int (97 : Int32)]) (st := []) dX7_readsOrder_353 (c_X7_reads   _ _ hv56) (by decide) ce_X7_reads ml_X7_213 in_X7_reads se_X7_reads cl_X7 rfl rfl (Nat.le_of_ble_eq_true rfl) rfl ?_
                refine go_ifb_eq (pc := 356) (tgt := 391) dX7_readsOrder_356 (by decide) (fun c57 => ?_) (fun c57 => ?_)
                · rw [if_neg (by rw [c57]; decide)] at h
                  refine go_iconst (pc := 391) (v := (0 : Int32)) dX7_readsOrder_391 (by decide) ?_
                  obtain rfl := Option.some.inj h
                  exact go_iret (pc := 392) .boolean dX7_readsOrder_392 rfl rfl ⟨rfl, rfl⟩
                · rw [if_pos c57] at h
                  refine go_aload_n (pc := 359) dX7_readsOrder_359 rfl rfl ?_
                  refine go_bipush (pc := 360) (v := (115 : Int32)) dX7_readsOrder_360 (by decide) ?_
                  obtain ⟨v58, hv59, h⟩ := fm_bind h
                  refine go_callVi (pc := 362) (As := [.int (115 : Int32)]) (st := []) dX7_readsOrder_362 (c_X7_reads   _ _ hv59) (by decide) ce_X7_reads ml_X7_213 in_X7_reads se_X7_reads cl_X7 rfl rfl (Nat.le_of_ble_eq_true rfl) rfl ?_
                  refine go_ifb_eq (pc := 365) (tgt := 391) dX7_readsOrder_365 (by decide) (fun c60 => ?_) (fun c60 => ?_)
                  · rw [if_neg (by rw [c60]; decide)] at h
                    refine go_iconst (pc := 391) (v := (0 : Int32)) dX7_readsOrder_391 (by decide) ?_
                    obtain rfl := Option.some.inj h
                    exact go_iret (pc := 392) .boolean dX7_readsOrder_392 rfl rfl ⟨rfl, rfl⟩
                  · rw [if_pos c60] at h
                    refine go_aload_n (pc := 368) dX7_readsOrder_368 rfl rfl ?_
                    refine go_bipush (pc := 369) (v := (116 : Int32)) dX7_readsOrder_369 (by decide) ?_
                    obtain ⟨v61, hv62, h⟩ := fm_bind h
                    refine go_callVi (pc := 371) (As := [.int (116 : Int32)]) (st := []) dX7_readsOrder_371 (c_X7_reads   _ _ hv62) (by decide) ce_X7_reads ml_X7_213 in_X7_reads se_X7_reads cl_X7 rfl rfl (Nat.le_of_ble_eq_true rfl) rfl ?_
                    refine go_ifb_eq (pc := 374) (tgt := 391) dX7_readsOrder_374 (by decide) (fun c63 => ?_) (fun c63 => ?_)
                    · rw [if_neg (by rw [c63]; decide)] at h
                      refine go_iconst (pc := 391) (v := (0 : Int32)) dX7_readsOrder_391 (by decide) ?_
                      obtain rfl := Option.some.inj h
                      exact go_iret (pc := 392) .boolean dX7_readsOrder_392 rfl rfl ⟨rfl, rfl⟩
                    · rw [if_pos c63] at h
                      refine go_aload_n (pc := 377) dX7_readsOrder_377 rfl rfl ?_
                      refine go_iconst (pc := 378) (v := (5 : Int32)) dX7_readsOrder_378 (by decide) ?_
                      refine go_iconst (pc := 379) (v := (2 : Int32)) dX7_readsOrder_379 (by decide) ?_
                      refine go_iconst (pc := 380) (v := (1 : Int32)) dX7_readsOrder_380 (by decide) ?_
                      obtain ⟨v64, hv65, h⟩ := fm_bind h
                      refine go_callVi (pc := 381) (As := [.int (5 : Int32), .int (2 : Int32), .int (1 : Int32)]) (st := []) dX7_readsOrder_381 (c_X7_readsTwo   _ _ _ _ hv65) (by decide) ce_X7_readsTwo ml_X7_222 in_X7_readsTwo se_X7_readsTwo cl_X7 rfl rfl (Nat.le_of_ble_eq_true rfl) rfl ?_
                      refine go_ifb_eq (pc := 384) (tgt := 391) dX7_readsOrder_384 (by decide) (fun c66 => ?_) (fun c66 => ?_)
                      · rw [if_neg (by rw [c66]; decide)] at h
                        refine go_iconst (pc := 391) (v := (0 : Int32)) dX7_readsOrder_391 (by decide) ?_
                        obtain rfl := Option.some.inj h
                        exact go_iret (pc := 392) .boolean dX7_readsOrder_392 rfl rfl ⟨rfl, rfl⟩
                      · rw [if_pos c66] at h
                        refine go_iconst (pc := 387) (v := (1 : Int32)) dX7_readsOrder_387 (by decide) ?_
                        refine go_goto (pc := 388) (tgt := 392) dX7_readsOrder_388 (by decide) ?_
                        obtain rfl := Option.some.inj h
                        exact go_iret (pc := 392) .boolean dX7_readsOrder_392 rfl rfl ⟨rfl, rfl⟩
          · rw [if_pos c15] at h
            refine go_aload_n (pc := 271) dX7_readsOrder_271 rfl rfl ?_
            refine go_bipush (pc := 272) (v := (97 : Int32)) dX7_readsOrder_272 (by decide) ?_
            obtain ⟨v67, hv68, h⟩ := fm_bind h
            refine go_callVi (pc := 274) (As := [.int (97 : Int32)]) (st := []) dX7_readsOrder_274 (c_X7_reads   _ _ hv68) (by decide) ce_X7_reads ml_X7_213 in_X7_reads se_X7_reads cl_X7 rfl rfl (Nat.le_of_ble_eq_true rfl) rfl ?_
            refine go_ifb_eq (pc := 277) (tgt := 330) dX7_readsOrder_277 (by decide) (fun c69 => ?_) (fun c69 => ?_)
            · rw [if_neg (by rw [c69]; decide)] at h
              refine go_iconst (pc := 330) (v := (0 : Int32)) dX7_readsOrder_330 (by decide) ?_
              obtain rfl := Option.some.inj h
              exact go_iret (pc := 331) .boolean dX7_readsOrder_331 rfl rfl ⟨rfl, rfl⟩
            · rw [if_pos c69] at h
              refine go_aload_n (pc := 280) dX7_readsOrder_280 rfl rfl ?_
              refine go_bipush (pc := 281) (v := (114 : Int32)) dX7_readsOrder_281 (by decide) ?_
              obtain ⟨v70, hv71, h⟩ := fm_bind h
              refine go_callVi (pc := 283) (As := [.int (114 : Int32)]) (st := []) dX7_readsOrder_283 (c_X7_reads   _ _ hv71) (by decide) ce_X7_reads ml_X7_213 in_X7_reads se_X7_reads cl_X7 rfl rfl (Nat.le_of_ble_eq_true rfl) rfl ?_
              refine go_ifb_eq (pc := 286) (tgt := 330) dX7_readsOrder_286 (by decide) (fun c72 => ?_) (fun c72 => ?_)
              · rw [if_neg (by rw [c72]; decide)] at h
                refine go_iconst (pc := 330) (v := (0 : Int32)) dX7_readsOrder_330 (by decide) ?_
                obtain rfl := Option.some.inj h
                exact go_iret (pc := 331) .boolean dX7_readsOrder_331 rfl rfl ⟨rfl, rfl⟩
              · rw [if_pos c72] at h
                refine go_aload_n (pc := 289) dX7_readsOrder_289 rfl rfl ?_
                refine go_bipush (pc := 290) (v := (100 : Int32)) dX7_readsOrder_290 (by decide) ?_
                obtain ⟨v73, hv74, h⟩ := fm_bind h
                refine go_callVi (pc := 292) (As := [.int (100 : Int32)]) (st := []) dX7_readsOrder_292 (c_X7_reads   _ _ hv74) (by decide) ce_X7_reads ml_X7_213 in_X7_reads se_X7_reads cl_X7 rfl rfl (Nat.le_of_ble_eq_true rfl) rfl ?_
                refine go_ifb_eq (pc := 295) (tgt := 330) dX7_readsOrder_295 (by decide) (fun c75 => ?_) (fun c75 => ?_)
                · rw [if_neg (by rw [c75]; decide)] at h
                  refine go_iconst (pc := 330) (v := (0 : Int32)) dX7_readsOrder_330 (by decide) ?_
                  obtain rfl := Option.some.inj h
                  exact go_iret (pc := 331) .boolean dX7_readsOrder_331 rfl rfl ⟨rfl, rfl⟩
                · rw [if_pos c75] at h
                  refine go_aload_n (pc := 298) dX7_readsOrder_298 rfl rfl ?_
                  refine go_bipush (pc := 299) (v := (111 : Int32)) dX7_readsOrder_299 (by decide) ?_
                  obtain ⟨v76, hv77, h⟩ := fm_bind h
                  refine go_callVi (pc := 301) (As := [.int (111 : Int32)]) (st := []) dX7_readsOrder_301 (c_X7_reads   _ _ hv77) (by decide) ce_X7_reads ml_X7_213 in_X7_reads se_X7_reads cl_X7 rfl rfl (Nat.le_of_ble_eq_true rfl) rfl ?_
                  refine go_ifb_eq (pc := 304) (tgt := 330) dX7_readsOrder_304 (by decide) (fun c78 => ?_) (fun c78 => ?_)
                  · rw [if_neg (by rw [c78]; decide)] at h
                    refine go_iconst (pc := 330) (v := (0 : Int32)) dX7_readsOrder_330 (by decide) ?_
                    obtain rfl := Option.some.inj h
                    exact go_iret (pc := 331) .boolean dX7_readsOrder_331 rfl rfl ⟨rfl, rfl⟩
                  · rw [if_pos c78] at h
                    refine go_aload_n (pc := 307) dX7_readsOrder_307 rfl rfl ?_
                    refine go_bipush (pc := 308) (v := (110 : Int32)) dX7_readsOrder_308 (by decide) ?_
                    obtain ⟨v79, hv80, h⟩ := fm_bind h
                    refine go_callVi (pc := 310) (As := [.int (110 : Int32)]) (st := []) dX7_readsOrder_310 (c_X7_reads   _ _ hv80) (by decide) ce_X7_reads ml_X7_213 in_X7_reads se_X7_reads cl_X7 rfl rfl (Nat.le_of_ble_eq_true rfl) rfl ?_
                    refine go_ifb_eq (pc := 313) (tgt := 330) dX7_readsOrder_313 (by decide) (fun c81 => ?_) (fun c81 => ?_)
                    · rw [if_neg (by rw [c81]; decide)] at h
                      refine go_iconst (pc := 330) (v := (0 : Int32)) dX7_readsOrder_330 (by decide) ?_
                      obtain rfl := Option.some.inj h
                      exact go_iret (pc := 331) .boolean dX7_readsOrder_331 rfl rfl ⟨rfl, rfl⟩
                    · rw [if_pos c81] at h
                      refine go_aload_n (pc := 316) dX7_readsOrder_316 rfl rfl ?_
                      refine go_iconst (pc := 317) (v := (4 : Int32)) dX7_readsOrder_317 (by decide) ?_
                      refine go_iconst (pc := 318) (v := (2 : Int32)) dX7_readsOrder_318 (by decide) ?_
                      refine go_iconst (pc := 319) (v := (0 : Int32)) dX7_readsOrder_319 (by decide) ?_
                      obtain ⟨v82, hv83, h⟩ := fm_bind h
                      refine go_callVi (pc := 320) (As := [.int (4 : Int32), .int (2 : Int32), .int (0 : Int32)]) (st := []) dX7_readsOrder_320 (c_X7_readsTwo   _ _ _ _ hv83) (by decide) ce_X7_readsTwo ml_X7_222 in_X7_readsTwo se_X7_readsTwo cl_X7 rfl rfl (Nat.le_of_ble_eq_true rfl) rfl ?_
                      refine go_ifb_eq (pc := 323) (tgt := 330) dX7_readsOrder_323 (by decide) (fun c84 => ?_) (fun c84 => ?_)
                      · rw [if_neg (by rw [c84]; decide)] at h
                        refine go_iconst (pc := 330) (v := (0 : Int32)) dX7_readsOrder_330 (by decide) ?_
                        obtain rfl := Option.some.inj h
                        exact go_iret (pc := 331) .boolean dX7_readsOrder_331 rfl rfl ⟨rfl, rfl⟩
                      · rw [if_pos c84] at h
                        refine go_iconst (pc := 326) (v := (1 : Int32)) dX7_readsOrder_326 (by decide) ?_
                        refine go_goto (pc := 327) (tgt := 331) dX7_readsOrder_327 (by decide) ?_
                        obtain rfl := Option.some.inj h
                        exact go_iret (pc := 331) .boolean dX7_readsOrder_331 rfl rfl ⟨rfl, rfl⟩
        · rw [if_pos c12] at h
          refine go_aload_n (pc := 201) dX7_readsOrder_201 rfl rfl ?_
          refine go_bipush (pc := 202) (v := (114 : Int32)) dX7_readsOrder_202 (by decide) ?_
          obtain ⟨v85, hv86, h⟩ := fm_bind h
          refine go_callVi (pc := 204) (As := [.int (114 : Int32)]) (st := []) dX7_readsOrder_204 (c_X7_reads   _ _ hv86) (by decide) ce_X7_reads ml_X7_213 in_X7_reads se_X7_reads cl_X7 rfl rfl (Nat.le_of_ble_eq_true rfl) rfl ?_
          refine go_ifb_eq (pc := 207) (tgt := 260) dX7_readsOrder_207 (by decide) (fun c87 => ?_) (fun c87 => ?_)
          · rw [if_neg (by rw [c87]; decide)] at h
            refine go_iconst (pc := 260) (v := (0 : Int32)) dX7_readsOrder_260 (by decide) ?_
            obtain rfl := Option.some.inj h
            exact go_iret (pc := 261) .boolean dX7_readsOrder_261 rfl rfl ⟨rfl, rfl⟩
          · rw [if_pos c87] at h
            refine go_aload_n (pc := 210) dX7_readsOrder_210 rfl rfl ?_
            refine go_bipush (pc := 211) (v := (101 : Int32)) dX7_readsOrder_211 (by decide) ?_
            obtain ⟨v88, hv89, h⟩ := fm_bind h
            refine go_callVi (pc := 213) (As := [.int (101 : Int32)]) (st := []) dX7_readsOrder_213 (c_X7_reads   _ _ hv89) (by decide) ce_X7_reads ml_X7_213 in_X7_reads se_X7_reads cl_X7 rfl rfl (Nat.le_of_ble_eq_true rfl) rfl ?_
            refine go_ifb_eq (pc := 216) (tgt := 260) dX7_readsOrder_216 (by decide) (fun c90 => ?_) (fun c90 => ?_)
            · rw [if_neg (by rw [c90]; decide)] at h
              refine go_iconst (pc := 260) (v := (0 : Int32)) dX7_readsOrder_260 (by decide) ?_
              obtain rfl := Option.some.inj h
              exact go_iret (pc := 261) .boolean dX7_readsOrder_261 rfl rfl ⟨rfl, rfl⟩
            · rw [if_pos c90] at h
              refine go_aload_n (pc := 219) dX7_readsOrder_219 rfl rfl ?_
              refine go_bipush (pc := 220) (v := (97 : Int32)) dX7_readsOrder_220 (by decide) ?_
              obtain ⟨v91, hv92, h⟩ := fm_bind h
              refine go_callVi (pc := 222) (As := [.int (97 : Int32)]) (st := []) dX7_readsOrder_222 (c_X7_reads   _ _ hv92) (by decide) ce_X7_reads ml_X7_213 in_X7_reads se_X7_reads cl_X7 rfl rfl (Nat.le_of_ble_eq_true rfl) rfl ?_
              refine go_ifb_eq (pc := 225) (tgt := 260) dX7_readsOrder_225 (by decide) (fun c93 => ?_) (fun c93 => ?_)
              · rw [if_neg (by rw [c93]; decide)] at h
                refine go_iconst (pc := 260) (v := (0 : Int32)) dX7_readsOrder_260 (by decide) ?_
                obtain rfl := Option.some.inj h
                exact go_iret (pc := 261) .boolean dX7_readsOrder_261 rfl rfl ⟨rfl, rfl⟩
              · rw [if_pos c93] at h
                refine go_aload_n (pc := 228) dX7_readsOrder_228 rfl rfl ?_
                refine go_bipush (pc := 229) (v := (99 : Int32)) dX7_readsOrder_229 (by decide) ?_
                obtain ⟨v94, hv95, h⟩ := fm_bind h
                refine go_callVi (pc := 231) (As := [.int (99 : Int32)]) (st := []) dX7_readsOrder_231 (c_X7_reads   _ _ hv95) (by decide) ce_X7_reads ml_X7_213 in_X7_reads se_X7_reads cl_X7 rfl rfl (Nat.le_of_ble_eq_true rfl) rfl ?_
                refine go_ifb_eq (pc := 234) (tgt := 260) dX7_readsOrder_234 (by decide) (fun c96 => ?_) (fun c96 => ?_)
                · rw [if_neg (by rw [c96]; decide)] at h
                  refine go_iconst (pc := 260) (v := (0 : Int32)) dX7_readsOrder_260 (by decide) ?_
                  obtain rfl := Option.some.inj h
                  exact go_iret (pc := 261) .boolean dX7_readsOrder_261 rfl rfl ⟨rfl, rfl⟩
                · rw [if_pos c96] at h
                  refine go_aload_n (pc := 237) dX7_readsOrder_237 rfl rfl ?_
                  refine go_bipush (pc := 238) (v := (104 : Int32)) dX7_readsOrder_238 (by decide) ?_
                  obtain ⟨v97, hv98, h⟩ := fm_bind h
                  refine go_callVi (pc := 240) (As := [.int (104 : Int32)]) (st := []) dX7_readsOrder_240 (c_X7_reads   _ _ hv98) (by decide) ce_X7_reads ml_X7_213 in_X7_reads se_X7_reads cl_X7 rfl rfl (Nat.le_of_ble_eq_true rfl) rfl ?_
                  refine go_ifb_eq (pc := 243) (tgt := 260) dX7_readsOrder_243 (by decide) (fun c99 => ?_) (fun c99 => ?_)
                  · rw [if_neg (by rw [c99]; decide)] at h
                    refine go_iconst (pc := 260) (v := (0 : Int32)) dX7_readsOrder_260 (by decide) ?_
                    obtain rfl := Option.some.inj h
                    exact go_iret (pc := 261) .boolean dX7_readsOrder_261 rfl rfl ⟨rfl, rfl⟩
                  · rw [if_pos c99] at h
                    refine go_aload_n (pc := 246) dX7_readsOrder_246 rfl rfl ?_
                    refine go_iconst (pc := 247) (v := (3 : Int32)) dX7_readsOrder_247 (by decide) ?_
                    refine go_iconst (pc := 248) (v := (2 : Int32)) dX7_readsOrder_248 (by decide) ?_
                    refine go_iconst (pc := 249) (v := (1 : Int32)) dX7_readsOrder_249 (by decide) ?_
                    obtain ⟨v100, hv101, h⟩ := fm_bind h
                    refine go_callVi (pc := 250) (As := [.int (3 : Int32), .int (2 : Int32), .int (1 : Int32)]) (st := []) dX7_readsOrder_250 (c_X7_readsTwo   _ _ _ _ hv101) (by decide) ce_X7_readsTwo ml_X7_222 in_X7_readsTwo se_X7_readsTwo cl_X7 rfl rfl (Nat.le_of_ble_eq_true rfl) rfl ?_
                    refine go_ifb_eq (pc := 253) (tgt := 260) dX7_readsOrder_253 (by decide) (fun c102 => ?_) (fun c102 => ?_)
                    · rw [if_neg (by rw [c102]; decide)] at h
                      refine go_iconst (pc := 260) (v := (0 : Int32)) dX7_readsOrder_260 (by decide) ?_
                      obtain rfl := Option.some.inj h
                      exact go_iret (pc := 261) .boolean dX7_readsOrder_261 rfl rfl ⟨rfl, rfl⟩
                    · rw [if_pos c102] at h
                      refine go_iconst (pc := 256) (v := (1 : Int32)) dX7_readsOrder_256 (by decide) ?_
                      refine go_goto (pc := 257) (tgt := 261) dX7_readsOrder_257 (by decide) ?_
                      obtain rfl := Option.some.inj h
                      exact go_iret (pc := 261) .boolean dX7_readsOrder_261 rfl rfl ⟨rfl, rfl⟩
      · rw [if_pos c9] at h
        refine go_aload_n (pc := 140) dX7_readsOrder_140 rfl rfl ?_
        refine go_bipush (pc := 141) (v := (101 : Int32)) dX7_readsOrder_141 (by decide) ?_
        obtain ⟨v103, hv104, h⟩ := fm_bind h
        refine go_callVi (pc := 143) (As := [.int (101 : Int32)]) (st := []) dX7_readsOrder_143 (c_X7_reads   _ _ hv104) (by decide) ce_X7_reads ml_X7_213 in_X7_reads se_X7_reads cl_X7 rfl rfl (Nat.le_of_ble_eq_true rfl) rfl ?_
        refine go_ifb_eq (pc := 146) (tgt := 190) dX7_readsOrder_146 (by decide) (fun c105 => ?_) (fun c105 => ?_)
        · rw [if_neg (by rw [c105]; decide)] at h
          refine go_iconst (pc := 190) (v := (0 : Int32)) dX7_readsOrder_190 (by decide) ?_
          obtain rfl := Option.some.inj h
          exact go_iret (pc := 191) .boolean dX7_readsOrder_191 rfl rfl ⟨rfl, rfl⟩
        · rw [if_pos c105] at h
          refine go_aload_n (pc := 149) dX7_readsOrder_149 rfl rfl ?_
          refine go_bipush (pc := 150) (v := (97 : Int32)) dX7_readsOrder_150 (by decide) ?_
          obtain ⟨v106, hv107, h⟩ := fm_bind h
          refine go_callVi (pc := 152) (As := [.int (97 : Int32)]) (st := []) dX7_readsOrder_152 (c_X7_reads   _ _ hv107) (by decide) ce_X7_reads ml_X7_213 in_X7_reads se_X7_reads cl_X7 rfl rfl (Nat.le_of_ble_eq_true rfl) rfl ?_
          refine go_ifb_eq (pc := 155) (tgt := 190) dX7_readsOrder_155 (by decide) (fun c108 => ?_) (fun c108 => ?_)
          · rw [if_neg (by rw [c108]; decide)] at h
            refine go_iconst (pc := 190) (v := (0 : Int32)) dX7_readsOrder_190 (by decide) ?_
            obtain rfl := Option.some.inj h
            exact go_iret (pc := 191) .boolean dX7_readsOrder_191 rfl rfl ⟨rfl, rfl⟩
          · rw [if_pos c108] at h
            refine go_aload_n (pc := 158) dX7_readsOrder_158 rfl rfl ?_
            refine go_bipush (pc := 159) (v := (118 : Int32)) dX7_readsOrder_159 (by decide) ?_
            obtain ⟨v109, hv110, h⟩ := fm_bind h
            refine go_callVi (pc := 161) (As := [.int (118 : Int32)]) (st := []) dX7_readsOrder_161 (c_X7_reads   _ _ hv110) (by decide) ce_X7_reads ml_X7_213 in_X7_reads se_X7_reads cl_X7 rfl rfl (Nat.le_of_ble_eq_true rfl) rfl ?_
            refine go_ifb_eq (pc := 164) (tgt := 190) dX7_readsOrder_164 (by decide) (fun c111 => ?_) (fun c111 => ?_)
            · rw [if_neg (by rw [c111]; decide)] at h
              refine go_iconst (pc := 190) (v := (0 : Int32)) dX7_readsOrder_190 (by decide) ?_
              obtain rfl := Option.some.inj h
              exact go_iret (pc := 191) .boolean dX7_readsOrder_191 rfl rfl ⟨rfl, rfl⟩
            · rw [if_pos c111] at h
              refine go_aload_n (pc := 167) dX7_readsOrder_167 rfl rfl ?_
              refine go_bipush (pc := 168) (v := (101 : Int32)) dX7_readsOrder_168 (by decide) ?_
              obtain ⟨v112, hv113, h⟩ := fm_bind h
              refine go_callVi (pc := 170) (As := [.int (101 : Int32)]) (st := []) dX7_readsOrder_170 (c_X7_reads   _ _ hv113) (by decide) ce_X7_reads ml_X7_213 in_X7_reads se_X7_reads cl_X7 rfl rfl (Nat.le_of_ble_eq_true rfl) rfl ?_
              refine go_ifb_eq (pc := 173) (tgt := 190) dX7_readsOrder_173 (by decide) (fun c114 => ?_) (fun c114 => ?_)
              · rw [if_neg (by rw [c114]; decide)] at h
                refine go_iconst (pc := 190) (v := (0 : Int32)) dX7_readsOrder_190 (by decide) ?_
                obtain rfl := Option.some.inj h
                exact go_iret (pc := 191) .boolean dX7_readsOrder_191 rfl rfl ⟨rfl, rfl⟩
              · rw [if_pos c114] at h
                refine go_aload_n (pc := 176) dX7_readsOrder_176 rfl rfl ?_
                refine go_iconst (pc := 177) (v := (2 : Int32)) dX7_readsOrder_177 (by decide) ?_
                refine go_iconst (pc := 178) (v := (1 : Int32)) dX7_readsOrder_178 (by decide) ?_
                refine go_iconst (pc := 179) (v := (0 : Int32)) dX7_readsOrder_179 (by decide) ?_
                obtain ⟨v115, hv116, h⟩ := fm_bind h
                refine go_callVi (pc := 180) (As := [.int (2 : Int32), .int (1 : Int32), .int (0 : Int32)]) (st := []) dX7_readsOrder_180 (c_X7_readsTwo   _ _ _ _ hv116) (by decide) ce_X7_readsTwo ml_X7_222 in_X7_readsTwo se_X7_readsTwo cl_X7 rfl rfl (Nat.le_of_ble_eq_true rfl) rfl ?_
                refine go_ifb_eq (pc := 183) (tgt := 190) dX7_readsOrder_183 (by decide) (fun c117 => ?_) (fun c117 => ?_)
                · rw [if_neg (by rw [c117]; decide)] at h
                  refine go_iconst (pc := 190) (v := (0 : Int32)) dX7_readsOrder_190 (by decide) ?_
                  obtain rfl := Option.some.inj h
                  exact go_iret (pc := 191) .boolean dX7_readsOrder_191 rfl rfl ⟨rfl, rfl⟩
                · rw [if_pos c117] at h
                  refine go_iconst (pc := 186) (v := (1 : Int32)) dX7_readsOrder_186 (by decide) ?_
                  refine go_goto (pc := 187) (tgt := 191) dX7_readsOrder_187 (by decide) ?_
                  obtain rfl := Option.some.inj h
                  exact go_iret (pc := 191) .boolean dX7_readsOrder_191 rfl rfl ⟨rfl, rfl⟩
    · rw [if_pos c6] at h
      refine go_aload_n (pc := 70) dX7_readsOrder_70 rfl rfl ?_
      refine go_bipush (pc := 71) (v := (104 : Int32)) dX7_readsOrder_71 (by decide) ?_
      obtain ⟨v118, hv119, h⟩ := fm_bind h
      refine go_callVi (pc := 73) (As := [.int (104 : Int32)]) (st := []) dX7_readsOrder_73 (c_X7_reads   _ _ hv119) (by decide) ce_X7_reads ml_X7_213 in_X7_reads se_X7_reads cl_X7 rfl rfl (Nat.le_of_ble_eq_true rfl) rfl ?_
      refine go_ifb_eq (pc := 76) (tgt := 129) dX7_readsOrder_76 (by decide) (fun c120 => ?_) (fun c120 => ?_)
      · rw [if_neg (by rw [c120]; decide)] at h
        refine go_iconst (pc := 129) (v := (0 : Int32)) dX7_readsOrder_129 (by decide) ?_
        obtain rfl := Option.some.inj h
        exact go_iret (pc := 130) .boolean dX7_readsOrder_130 rfl rfl ⟨rfl, rfl⟩
      · rw [if_pos c120] at h
        refine go_aload_n (pc := 79) dX7_readsOrder_79 rfl rfl ?_
        refine go_bipush (pc := 80) (v := (111 : Int32)) dX7_readsOrder_80 (by decide) ?_
        obtain ⟨v121, hv122, h⟩ := fm_bind h
        refine go_callVi (pc := 82) (As := [.int (111 : Int32)]) (st := []) dX7_readsOrder_82 (c_X7_reads   _ _ hv122) (by decide) ce_X7_reads ml_X7_213 in_X7_reads se_X7_reads cl_X7 rfl rfl (Nat.le_of_ble_eq_true rfl) rfl ?_
        refine go_ifb_eq (pc := 85) (tgt := 129) dX7_readsOrder_85 (by decide) (fun c123 => ?_) (fun c123 => ?_)
        · rw [if_neg (by rw [c123]; decide)] at h
          refine go_iconst (pc := 129) (v := (0 : Int32)) dX7_readsOrder_129 (by decide) ?_
          obtain rfl := Option.some.inj h
          exact go_iret (pc := 130) .boolean dX7_readsOrder_130 rfl rfl ⟨rfl, rfl⟩
        · rw [if_pos c123] at h
          refine go_aload_n (pc := 88) dX7_readsOrder_88 rfl rfl ?_
          refine go_bipush (pc := 89) (v := (111 : Int32)) dX7_readsOrder_89 (by decide) ?_
          obtain ⟨v124, hv125, h⟩ := fm_bind h
          refine go_callVi (pc := 91) (As := [.int (111 : Int32)]) (st := []) dX7_readsOrder_91 (c_X7_reads   _ _ hv125) (by decide) ce_X7_reads ml_X7_213 in_X7_reads se_X7_reads cl_X7 rfl rfl (Nat.le_of_ble_eq_true rfl) rfl ?_
          refine go_ifb_eq (pc := 94) (tgt := 129) dX7_readsOrder_94 (by decide) (fun c126 => ?_) (fun c126 => ?_)
          · rw [if_neg (by rw [c126]; decide)] at h
            refine go_iconst (pc := 129) (v := (0 : Int32)) dX7_readsOrder_129 (by decide) ?_
            obtain rfl := Option.some.inj h
            exact go_iret (pc := 130) .boolean dX7_readsOrder_130 rfl rfl ⟨rfl, rfl⟩
          · rw [if_pos c126] at h
            refine go_aload_n (pc := 97) dX7_readsOrder_97 rfl rfl ?_
            refine go_bipush (pc := 98) (v := (115 : Int32)) dX7_readsOrder_98 (by decide) ?_
            obtain ⟨v127, hv128, h⟩ := fm_bind h
            refine go_callVi (pc := 100) (As := [.int (115 : Int32)]) (st := []) dX7_readsOrder_100 (c_X7_reads   _ _ hv128) (by decide) ce_X7_reads ml_X7_213 in_X7_reads se_X7_reads cl_X7 rfl rfl (Nat.le_of_ble_eq_true rfl) rfl ?_
            refine go_ifb_eq (pc := 103) (tgt := 129) dX7_readsOrder_103 (by decide) (fun c129 => ?_) (fun c129 => ?_)
            · rw [if_neg (by rw [c129]; decide)] at h
              refine go_iconst (pc := 129) (v := (0 : Int32)) dX7_readsOrder_129 (by decide) ?_
              obtain rfl := Option.some.inj h
              exact go_iret (pc := 130) .boolean dX7_readsOrder_130 rfl rfl ⟨rfl, rfl⟩
            · rw [if_pos c129] at h
              refine go_aload_n (pc := 106) dX7_readsOrder_106 rfl rfl ?_
              refine go_bipush (pc := 107) (v := (101 : Int32)) dX7_readsOrder_107 (by decide) ?_
              obtain ⟨v130, hv131, h⟩ := fm_bind h
              refine go_callVi (pc := 109) (As := [.int (101 : Int32)]) (st := []) dX7_readsOrder_109 (c_X7_reads   _ _ hv131) (by decide) ce_X7_reads ml_X7_213 in_X7_reads se_X7_reads cl_X7 rfl rfl (Nat.le_of_ble_eq_true rfl) rfl ?_
              refine go_ifb_eq (pc := 112) (tgt := 129) dX7_readsOrder_112 (by decide) (fun c132 => ?_) (fun c132 => ?_)
              · rw [if_neg (by rw [c132]; decide)] at h
                refine go_iconst (pc := 129) (v := (0 : Int32)) dX7_readsOrder_129 (by decide) ?_
                obtain rfl := Option.some.inj h
                exact go_iret (pc := 130) .boolean dX7_readsOrder_130 rfl rfl ⟨rfl, rfl⟩
              · rw [if_pos c132] at h
                refine go_aload_n (pc := 115) dX7_readsOrder_115 rfl rfl ?_
                refine go_iconst (pc := 116) (v := (1 : Int32)) dX7_readsOrder_116 (by decide) ?_
                refine go_iconst (pc := 117) (v := (1 : Int32)) dX7_readsOrder_117 (by decide) ?_
                refine go_iconst (pc := 118) (v := (0 : Int32)) dX7_readsOrder_118 (by decide) ?_
                obtain ⟨v133, hv134, h⟩ := fm_bind h
                refine go_callVi (pc := 119) (As := [.int (1 : Int32), .int (1 : Int32), .int (0 : Int32)]) (st := []) dX7_readsOrder_119 (c_X7_readsTwo   _ _ _ _ hv134) (by decide) ce_X7_readsTwo ml_X7_222 in_X7_readsTwo se_X7_readsTwo cl_X7 rfl rfl (Nat.le_of_ble_eq_true rfl) rfl ?_
                refine go_ifb_eq (pc := 122) (tgt := 129) dX7_readsOrder_122 (by decide) (fun c135 => ?_) (fun c135 => ?_)
                · rw [if_neg (by rw [c135]; decide)] at h
                  refine go_iconst (pc := 129) (v := (0 : Int32)) dX7_readsOrder_129 (by decide) ?_
                  obtain rfl := Option.some.inj h
                  exact go_iret (pc := 130) .boolean dX7_readsOrder_130 rfl rfl ⟨rfl, rfl⟩
                · rw [if_pos c135] at h
                  refine go_iconst (pc := 125) (v := (1 : Int32)) dX7_readsOrder_125 (by decide) ?_
                  refine go_goto (pc := 126) (tgt := 130) dX7_readsOrder_126 (by decide) ?_
                  obtain rfl := Option.some.inj h
                  exact go_iret (pc := 130) .boolean dX7_readsOrder_130 rfl rfl ⟨rfl, rfl⟩
  · rw [if_pos c3] at h
    refine go_aload_n (pc := 9) dX7_readsOrder_9 rfl rfl ?_
    refine go_bipush (pc := 10) (v := (111 : Int32)) dX7_readsOrder_10 (by decide) ?_
    obtain ⟨v136, hv137, h⟩ := fm_bind h
    refine go_callVi (pc := 12) (As := [.int (111 : Int32)]) (st := []) dX7_readsOrder_12 (c_X7_reads   _ _ hv137) (by decide) ce_X7_reads ml_X7_213 in_X7_reads se_X7_reads cl_X7 rfl rfl (Nat.le_of_ble_eq_true rfl) rfl ?_
    refine go_ifb_eq (pc := 15) (tgt := 59) dX7_readsOrder_15 (by decide) (fun c138 => ?_) (fun c138 => ?_)
    · rw [if_neg (by rw [c138]; decide)] at h
      refine go_iconst (pc := 59) (v := (0 : Int32)) dX7_readsOrder_59 (by decide) ?_
      obtain rfl := Option.some.inj h
      exact go_iret (pc := 60) .boolean dX7_readsOrder_60 rfl rfl ⟨rfl, rfl⟩
    · rw [if_pos c138] at h
      refine go_aload_n (pc := 18) dX7_readsOrder_18 rfl rfl ?_
      refine go_bipush (pc := 19) (v := (105 : Int32)) dX7_readsOrder_19 (by decide) ?_
      obtain ⟨v139, hv140, h⟩ := fm_bind h
      refine go_callVi (pc := 21) (As := [.int (105 : Int32)]) (st := []) dX7_readsOrder_21 (c_X7_reads   _ _ hv140) (by decide) ce_X7_reads ml_X7_213 in_X7_reads se_X7_reads cl_X7 rfl rfl (Nat.le_of_ble_eq_true rfl) rfl ?_
      refine go_ifb_eq (pc := 24) (tgt := 59) dX7_readsOrder_24 (by decide) (fun c141 => ?_) (fun c141 => ?_)
      · rw [if_neg (by rw [c141]; decide)] at h
        refine go_iconst (pc := 59) (v := (0 : Int32)) dX7_readsOrder_59 (by decide) ?_
        obtain rfl := Option.some.inj h
        exact go_iret (pc := 60) .boolean dX7_readsOrder_60 rfl rfl ⟨rfl, rfl⟩
      · rw [if_pos c141] at h
        refine go_aload_n (pc := 27) dX7_readsOrder_27 rfl rfl ?_
        refine go_bipush (pc := 28) (v := (99 : Int32)) dX7_readsOrder_28 (by decide) ?_
        obtain ⟨v142, hv143, h⟩ := fm_bind h
        refine go_callVi (pc := 30) (As := [.int (99 : Int32)]) (st := []) dX7_readsOrder_30 (c_X7_reads   _ _ hv143) (by decide) ce_X7_reads ml_X7_213 in_X7_reads se_X7_reads cl_X7 rfl rfl (Nat.le_of_ble_eq_true rfl) rfl ?_
        refine go_ifb_eq (pc := 33) (tgt := 59) dX7_readsOrder_33 (by decide) (fun c144 => ?_) (fun c144 => ?_)
        · rw [if_neg (by rw [c144]; decide)] at h
          refine go_iconst (pc := 59) (v := (0 : Int32)) dX7_readsOrder_59 (by decide) ?_
          obtain rfl := Option.some.inj h
          exact go_iret (pc := 60) .boolean dX7_readsOrder_60 rfl rfl ⟨rfl, rfl⟩
        · rw [if_pos c144] at h
          refine go_aload_n (pc := 36) dX7_readsOrder_36 rfl rfl ?_
          refine go_bipush (pc := 37) (v := (101 : Int32)) dX7_readsOrder_37 (by decide) ?_
          obtain ⟨v145, hv146, h⟩ := fm_bind h
          refine go_callVi (pc := 39) (As := [.int (101 : Int32)]) (st := []) dX7_readsOrder_39 (c_X7_reads   _ _ hv146) (by decide) ce_X7_reads ml_X7_213 in_X7_reads se_X7_reads cl_X7 rfl rfl (Nat.le_of_ble_eq_true rfl) rfl ?_
          refine go_ifb_eq (pc := 42) (tgt := 59) dX7_readsOrder_42 (by decide) (fun c147 => ?_) (fun c147 => ?_)
          · rw [if_neg (by rw [c147]; decide)] at h
            refine go_iconst (pc := 59) (v := (0 : Int32)) dX7_readsOrder_59 (by decide) ?_
            obtain rfl := Option.some.inj h
            exact go_iret (pc := 60) .boolean dX7_readsOrder_60 rfl rfl ⟨rfl, rfl⟩
          · rw [if_pos c147] at h
            refine go_aload_n (pc := 45) dX7_readsOrder_45 rfl rfl ?_
            refine go_iconst (pc := 46) (v := (0 : Int32)) dX7_readsOrder_46 (by decide) ?_
            refine go_iconst (pc := 47) (v := (2 : Int32)) dX7_readsOrder_47 (by decide) ?_
            refine go_iconst (pc := 48) (v := (2 : Int32)) dX7_readsOrder_48 (by decide) ?_
            obtain ⟨v148, hv149, h⟩ := fm_bind h
            refine go_callVi (pc := 49) (As := [.int (0 : Int32), .int (2 : Int32), .int (2 : Int32)]) (st := []) dX7_readsOrder_49 (c_X7_readsTwo   _ _ _ _ hv149) (by decide) ce_X7_readsTwo ml_X7_222 in_X7_readsTwo se_X7_readsTwo cl_X7 rfl rfl (Nat.le_of_ble_eq_true rfl) rfl ?_
            refine go_ifb_eq (pc := 52) (tgt := 59) dX7_readsOrder_52 (by decide) (fun c150 => ?_) (fun c150 => ?_)
            · rw [if_neg (by rw [c150]; decide)] at h
              refine go_iconst (pc := 59) (v := (0 : Int32)) dX7_readsOrder_59 (by decide) ?_
              obtain rfl := Option.some.inj h
              exact go_iret (pc := 60) .boolean dX7_readsOrder_60 rfl rfl ⟨rfl, rfl⟩
            · rw [if_pos c150] at h
              refine go_iconst (pc := 55) (v := (1 : Int32)) dX7_readsOrder_55 (by decide) ?_
              refine go_goto (pc := 56) (tgt := 60) dX7_readsOrder_56 (by decide) ?_
              obtain rfl := Option.some.inj h
              exact go_iret (pc := 60) .boolean dX7_readsOrder_60 rfl rfl ⟨rfl, rfl⟩
def f_X7_readsAll_L7 : Nat → Int32 → fm_M → Option (Bool × fm_M)
  | 0, _, _ => none
  | n + 1, y1, m => if y1 = 0 then (if (m 23 14) = (m 23 13) then (some (true, m)) else (some (false, m))) else ((f_X7_readsOrder m).bind fun v3 => if v3.1 = true then ((f_X7_reads (59 : Int32) v3.2).bind fun v6 => f_X7_readsAll_L7 n (fm_b v6.1) v6.2) else (some (false, v3.2)))
def f_X7_readsAll (m : fm_M) : Option (Bool × fm_M) :=
  f_X7_readsAll_L7 fm_F (1 : Int32) (fm_put m 23 14 (0 : Int32))
set_option maxRecDepth 100000 in
set_option maxHeartbeats 4000000 in
theorem c_X7_readsAll_L7 : ∀ (n : Nat) (y1 : Int32) (m : fm_M) (res : Bool × fm_M), f_X7_readsAll_L7 n y1 m = some res → fm_Go fm_layW 5 m_X7_readsAll (fm_pi (fm_b res.1) res.2) 7 [some (.ref 23), some (.int y1)] [] m := by
  intro n
  induction n with
  | zero => intro y1 m res h; cases h
  | succ n ih =>
    intro y1 m res h
    rw [f_X7_readsAll_L7] at h
    refine go_iload_n (pc := 7) dX7_readsAll_7 rfl rfl ?_
    refine go_if_eq (pc := 8) (tgt := 30) dX7_readsAll_8 (by decide) (fun c1 => ?_) (fun c1 => ?_)
    · rw [if_pos c1] at h
      refine go_aload_n (pc := 30) dX7_readsAll_30 rfl rfl ?_
      refine go_getI (pc := 31) (k := 14) dX7_readsAll_31 cl_X7 rfl rfl (by decide) lk_X7_207 ?_
      refine go_aload_n (pc := 34) dX7_readsAll_34 rfl rfl ?_
      refine go_getI (pc := 35) (k := 13) dX7_readsAll_35 cl_X7 rfl rfl (by decide) lk_X7_204 ?_
      refine go_icmp_ne (pc := 38) (tgt := 45) dX7_readsAll_38 (by decide) (fun c2 => ?_) (fun c2 => ?_)
      · rw [if_neg c2] at h
        refine go_iconst (pc := 45) (v := (0 : Int32)) dX7_readsAll_45 (by decide) ?_
        obtain rfl := Option.some.inj h
        exact go_iret (pc := 46) .boolean dX7_readsAll_46 rfl rfl ⟨rfl, rfl⟩
      · rw [if_pos c2] at h
        refine go_iconst (pc := 41) (v := (1 : Int32)) dX7_readsAll_41 (by decide) ?_
        refine go_goto (pc := 42) (tgt := 46) dX7_readsAll_42 (by decide) ?_
        obtain rfl := Option.some.inj h
        exact go_iret (pc := 46) .boolean dX7_readsAll_46 rfl rfl ⟨rfl, rfl⟩
    · rw [if_neg c1] at h
      refine go_aload_n (pc := 11) dX7_readsAll_11 rfl rfl ?_
      obtain ⟨v3, hv4, h⟩ := fm_bind h
      refine go_callVi (pc := 12) (As := []) (st := []) dX7_readsAll_12 (c_X7_readsOrder   _ hv4) (by decide) ce_X7_readsOrder ml_X7_225 in_X7_readsOrder se_X7_readsOrder cl_X7 rfl rfl (Nat.le_of_ble_eq_true rfl) rfl ?_
      refine go_ifb_ne (pc := 15) (tgt := 20) dX7_readsAll_15 (by decide) (fun c5 => ?_) (fun c5 => ?_)
      · rw [if_pos c5] at h
        refine go_aload_n (pc := 20) dX7_readsAll_20 rfl rfl ?_
        refine go_bipush (pc := 21) (v := (59 : Int32)) dX7_readsAll_21 (by decide) ?_
        obtain ⟨v6, hv7, h⟩ := fm_bind h
        refine go_callVi (pc := 23) (As := [.int (59 : Int32)]) (st := []) dX7_readsAll_23 (c_X7_reads   _ _ hv7) (by decide) ce_X7_reads ml_X7_213 in_X7_reads se_X7_reads cl_X7 rfl rfl (Nat.le_of_ble_eq_true rfl) rfl ?_
        refine go_istore_n (pc := 26) (ls1 := [some (.ref 23), some (.int (fm_b v6.1))]) dX7_readsAll_26 rfl (by decide) rfl ?_
        refine go_goto (pc := 27) (tgt := 7) dX7_readsAll_27 (by decide) ?_
        exact ih _ _ _ h
      · rw [if_neg (by rw [c5]; decide)] at h
        refine go_iconst (pc := 18) (v := (0 : Int32)) dX7_readsAll_18 (by decide) ?_
        obtain rfl := Option.some.inj h
        exact go_iret (pc := 19) .boolean dX7_readsAll_19 rfl rfl ⟨rfl, rfl⟩
set_option maxRecDepth 100000 in
set_option maxHeartbeats 4000000 in
theorem c_X7_readsAll (m : fm_M) {res : Bool × fm_M} (h : f_X7_readsAll  m = some res) : fm_Met fm_layW 5 m_X7_readsAll [.ref 23] m (fm_pi (fm_b res.1) res.2) := by
  refine fm_Met_of (ls := [some (.ref 23), none]) (by decide) rfl (fm_cc_r _ fm_cc_0) (Nat.le_of_ble_eq_true rfl) rfl ?_
  unfold f_X7_readsAll at h
  refine go_aload_n (pc := 0) dX7_readsAll_0 rfl rfl ?_
  refine go_iconst (pc := 1) (v := (0 : Int32)) dX7_readsAll_1 (by decide) ?_
  refine go_put (pc := 2) (k := 14) .int dX7_readsAll_2 cl_X7 rfl rfl (by decide) lk_X7_207 rfl (by decide +kernel) rfl rfl ?_
  refine go_iconst (pc := 5) (v := (1 : Int32)) dX7_readsAll_5 (by decide) ?_
  refine go_istore_n (pc := 6) (ls1 := [some (.ref 23), some (.int (1 : Int32))]) dX7_readsAll_6 rfl (by decide) rfl ?_
  exact c_X7_readsAll_L7  fm_F _ _ _ h
def f_X7_notNow (m : fm_M) : Option (Int32 × fm_M) :=
  if fm_in (0 : Int32) 2 = true then (if fm_in (1 : Int32) 2 = true then (if (m 23 16) = (0 : Int32) then ((f_X7_notVoice (m 30 (0 : Int32).toNatClampNeg) (m 30 (1 : Int32).toNatClampNeg) m).bind fun v4 => some (v4.1, v4.2)) else (if (m 23 16) = (1 : Int32) then ((f_X7_notChoose (m 30 (0 : Int32).toNatClampNeg) m).bind fun v7 => some (v7.1, v7.2)) else (if (m 23 16) = (2 : Int32) then ((f_X7_notLeave (m 30 (0 : Int32).toNatClampNeg) m).bind fun v10 => some (v10.1, v10.2)) else (if (m 23 16) = (3 : Int32) then ((f_X7_notBreach (m 30 (0 : Int32).toNatClampNeg) (m 30 (1 : Int32).toNatClampNeg) m).bind fun v13 => some (v13.1, v13.2)) else (if (m 23 16) = (4 : Int32) then ((f_X7_notPardon (m 30 (0 : Int32).toNatClampNeg) m).bind fun v16 => some (v16.1, v16.2)) else (if (m 23 16) = (5 : Int32) then ((f_X7_notFeast (m 30 (0 : Int32).toNatClampNeg) (m 30 (1 : Int32).toNatClampNeg) m).bind fun v19 => some (v19.1, v19.2)) else (if (m 23 16) = (6 : Int32) then ((f_X7_isBetween (m 30 (0 : Int32).toNatClampNeg) (1 : Int32) (500 : Int32) m).bind fun v22 => if v22 = true then (some ((0 : Int32), m)) else (some ((-12 : Int32), m))) else ((f_X7_isBetween (m 30 (0 : Int32).toNatClampNeg) (1 : Int32) (60 : Int32) m).bind fun v25 => if v25 = true then (some ((0 : Int32), m)) else (some ((-12 : Int32), m)))))))))) else none) else none
set_option maxRecDepth 100000 in
set_option maxHeartbeats 4000000 in
theorem c_X7_notNow (m : fm_M) {res : Int32 × fm_M} (h : f_X7_notNow  m = some res) : fm_Met fm_layW 4 m_X7_notNow [.ref 23] m (fm_pi res.1 res.2) := by
  refine fm_Met_of (ls := [some (.ref 23), none, none]) (by decide) rfl (fm_cc_r _ fm_cc_0) (Nat.le_of_ble_eq_true rfl) rfl ?_
  unfold f_X7_notNow at h
  refine go_aload_n (pc := 0) dX7_notNow_0 rfl rfl ?_
  refine go_getR (pc := 1) (k := 15) (q2 := 30) dX7_notNow_1 cl_X7 rfl rfl (by decide) lk_X7_29 ?_
  refine go_iconst (pc := 4) (v := (0 : Int32)) dX7_notNow_4 (by decide) ?_
  obtain ⟨hi1, h⟩ := fm_chk h
  refine go_iald (pc := 5) dX7_notNow_5 rfl (fm_in_vp hi1) ?_
  refine go_istore_n (pc := 6) (ls1 := [some (.ref 23), some (.int (m 30 (0 : Int32).toNatClampNeg)), none]) dX7_notNow_6 rfl (by decide) rfl ?_
  refine go_aload_n (pc := 7) dX7_notNow_7 rfl rfl ?_
  refine go_getR (pc := 8) (k := 15) (q2 := 30) dX7_notNow_8 cl_X7 rfl rfl (by decide) lk_X7_29 ?_
  refine go_iconst (pc := 11) (v := (1 : Int32)) dX7_notNow_11 (by decide) ?_
  obtain ⟨hi2, h⟩ := fm_chk h
  refine go_iald (pc := 12) dX7_notNow_12 rfl (fm_in_vp hi2) ?_
  refine go_istore_n (pc := 13) (ls1 := [some (.ref 23), some (.int (m 30 (0 : Int32).toNatClampNeg)), some (.int (m 30 (1 : Int32).toNatClampNeg))]) dX7_notNow_13 rfl (by decide) rfl ?_
  refine go_aload_n (pc := 14) dX7_notNow_14 rfl rfl ?_
  refine go_getI (pc := 15) (k := 16) dX7_notNow_15 cl_X7 rfl rfl (by decide) lk_X7_216 ?_
  by_cases c3 : (m 23 16) = (0 : Int32)
  · rw [if_pos c3] at h
    refine go_tswHit (pc := 18) (tgt := 60) dX7_notNow_18 c3 (by decide) (by decide) rfl (by decide) ?_
    refine go_aload_n (pc := 60) dX7_notNow_60 rfl rfl ?_
    refine go_iload_n (pc := 61) dX7_notNow_61 rfl rfl ?_
    refine go_iload_n (pc := 62) dX7_notNow_62 rfl rfl ?_
    obtain ⟨v4, hv5, h⟩ := fm_bind h
    refine go_callVi (pc := 63) (As := [.int (m 30 (0 : Int32).toNatClampNeg), .int (m 30 (1 : Int32).toNatClampNeg)]) (st := []) dX7_notNow_63 (c_X7_notVoice   _ _ _ hv5) (by decide) ce_X7_notVoice ml_X7_110 in_X7_notVoice se_X7_notVoice cl_X7 rfl rfl (Nat.le_of_ble_eq_true rfl) rfl ?_
    obtain rfl := Option.some.inj h
    exact go_iret (pc := 66) .int dX7_notNow_66 rfl rfl ⟨rfl, rfl⟩
  rw [if_neg c3] at h
  by_cases c6 : (m 23 16) = (1 : Int32)
  · rw [if_pos c6] at h
    refine go_tswHit (pc := 18) (tgt := 67) dX7_notNow_18 c6 (by decide) (by decide) rfl (by decide) ?_
    refine go_aload_n (pc := 67) dX7_notNow_67 rfl rfl ?_
    refine go_iload_n (pc := 68) dX7_notNow_68 rfl rfl ?_
    obtain ⟨v7, hv8, h⟩ := fm_bind h
    refine go_callVi (pc := 69) (As := [.int (m 30 (0 : Int32).toNatClampNeg)]) (st := []) dX7_notNow_69 (c_X7_notChoose   _ _ hv8) (by decide) ce_X7_notChoose ml_X7_128 in_X7_notChoose se_X7_notChoose cl_X7 rfl rfl (Nat.le_of_ble_eq_true rfl) rfl ?_
    obtain rfl := Option.some.inj h
    exact go_iret (pc := 72) .int dX7_notNow_72 rfl rfl ⟨rfl, rfl⟩
  rw [if_neg c6] at h
  by_cases c9 : (m 23 16) = (2 : Int32)
  · rw [if_pos c9] at h
    refine go_tswHit (pc := 18) (tgt := 73) dX7_notNow_18 c9 (by decide) (by decide) rfl (by decide) ?_
    refine go_aload_n (pc := 73) dX7_notNow_73 rfl rfl ?_
    refine go_iload_n (pc := 74) dX7_notNow_74 rfl rfl ?_
    obtain ⟨v10, hv11, h⟩ := fm_bind h
    refine go_callVi (pc := 75) (As := [.int (m 30 (0 : Int32).toNatClampNeg)]) (st := []) dX7_notNow_75 (c_X7_notLeave   _ _ hv11) (by decide) ce_X7_notLeave ml_X7_134 in_X7_notLeave se_X7_notLeave cl_X7 rfl rfl (Nat.le_of_ble_eq_true rfl) rfl ?_
    obtain rfl := Option.some.inj h
    exact go_iret (pc := 78) .int dX7_notNow_78 rfl rfl ⟨rfl, rfl⟩
  rw [if_neg c9] at h
  by_cases c12 : (m 23 16) = (3 : Int32)
  · rw [if_pos c12] at h
    refine go_tswHit (pc := 18) (tgt := 79) dX7_notNow_18 c12 (by decide) (by decide) rfl (by decide) ?_
    refine go_aload_n (pc := 79) dX7_notNow_79 rfl rfl ?_
    refine go_iload_n (pc := 80) dX7_notNow_80 rfl rfl ?_
    refine go_iload_n (pc := 81) dX7_notNow_81 rfl rfl ?_
    obtain ⟨v13, hv14, h⟩ := fm_bind h
    refine go_callVi (pc := 82) (As := [.int (m 30 (0 : Int32).toNatClampNeg), .int (m 30 (1 : Int32).toNatClampNeg)]) (st := []) dX7_notNow_82 (c_X7_notBreach   _ _ _ hv14) (by decide) ce_X7_notBreach ml_X7_146 in_X7_notBreach se_X7_notBreach cl_X7 rfl rfl (Nat.le_of_ble_eq_true rfl) rfl ?_
    obtain rfl := Option.some.inj h
    exact go_iret (pc := 85) .int dX7_notNow_85 rfl rfl ⟨rfl, rfl⟩
  rw [if_neg c12] at h
  by_cases c15 : (m 23 16) = (4 : Int32)
  · rw [if_pos c15] at h
    refine go_tswHit (pc := 18) (tgt := 86) dX7_notNow_18 c15 (by decide) (by decide) rfl (by decide) ?_
    refine go_aload_n (pc := 86) dX7_notNow_86 rfl rfl ?_
    refine go_iload_n (pc := 87) dX7_notNow_87 rfl rfl ?_
    obtain ⟨v16, hv17, h⟩ := fm_bind h
    refine go_callVi (pc := 88) (As := [.int (m 30 (0 : Int32).toNatClampNeg)]) (st := []) dX7_notNow_88 (c_X7_notPardon   _ _ hv17) (by decide) ce_X7_notPardon ml_X7_152 in_X7_notPardon se_X7_notPardon cl_X7 rfl rfl (Nat.le_of_ble_eq_true rfl) rfl ?_
    obtain rfl := Option.some.inj h
    exact go_iret (pc := 91) .int dX7_notNow_91 rfl rfl ⟨rfl, rfl⟩
  rw [if_neg c15] at h
  by_cases c18 : (m 23 16) = (5 : Int32)
  · rw [if_pos c18] at h
    refine go_tswHit (pc := 18) (tgt := 92) dX7_notNow_18 c18 (by decide) (by decide) rfl (by decide) ?_
    refine go_aload_n (pc := 92) dX7_notNow_92 rfl rfl ?_
    refine go_iload_n (pc := 93) dX7_notNow_93 rfl rfl ?_
    refine go_iload_n (pc := 94) dX7_notNow_94 rfl rfl ?_
    obtain ⟨v19, hv20, h⟩ := fm_bind h
    refine go_callVi (pc := 95) (As := [.int (m 30 (0 : Int32).toNatClampNeg), .int (m 30 (1 : Int32).toNatClampNeg)]) (st := []) dX7_notNow_95 (c_X7_notFeast   _ _ _ hv20) (by decide) ce_X7_notFeast ml_X7_140 in_X7_notFeast se_X7_notFeast cl_X7 rfl rfl (Nat.le_of_ble_eq_true rfl) rfl ?_
    obtain rfl := Option.some.inj h
    exact go_iret (pc := 98) .int dX7_notNow_98 rfl rfl ⟨rfl, rfl⟩
  rw [if_neg c18] at h
  by_cases c21 : (m 23 16) = (6 : Int32)
  · rw [if_pos c21] at h
    refine go_tswHit (pc := 18) (tgt := 99) dX7_notNow_18 c21 (by decide) (by decide) rfl (by decide) ?_
    refine go_iload_n (pc := 99) dX7_notNow_99 rfl rfl ?_
    refine go_iconst (pc := 100) (v := (1 : Int32)) dX7_notNow_100 (by decide) ?_
    refine go_sipush (pc := 101) (v := (500 : Int32)) dX7_notNow_101 (by decide) ?_
    obtain ⟨v22, hv23, h⟩ := fm_bind h
    refine go_callSi (pc := 104) (As := [.int (m 30 (0 : Int32).toNatClampNeg), .int (1 : Int32), .int (500 : Int32)]) (st := []) dX7_notNow_104 (c_X7_isBetween   _ _ _ _ hv23) (by decide) ce_X7_isBetween ml_X7_60 st_X7_isBetween rfl (Nat.le_of_ble_eq_true rfl) rfl ?_
    refine go_ifb_eq (pc := 107) (tgt := 114) dX7_notNow_107 (by decide) (fun c24 => ?_) (fun c24 => ?_)
    · rw [if_neg (by rw [c24]; decide)] at h
      refine go_bipush (pc := 114) (v := (-12 : Int32)) dX7_notNow_114 (by decide) ?_
      obtain rfl := Option.some.inj h
      exact go_iret (pc := 116) .int dX7_notNow_116 rfl rfl ⟨rfl, rfl⟩
    · rw [if_pos c24] at h
      refine go_iconst (pc := 110) (v := (0 : Int32)) dX7_notNow_110 (by decide) ?_
      refine go_goto (pc := 111) (tgt := 116) dX7_notNow_111 (by decide) ?_
      obtain rfl := Option.some.inj h
      exact go_iret (pc := 116) .int dX7_notNow_116 rfl rfl ⟨rfl, rfl⟩
  rw [if_neg c21] at h
  refine go_tswMiss (pc := 18) (tgt := 117) dX7_notNow_18 7 (by decide) (lt_s (lt_s (lt_s (lt_s (lt_s (lt_s (lt_s lt_0 (Or.inl (lv_neT c3 rfl))) (Or.inl (lv_neT c6 rfl))) (Or.inl (lv_neT c9 rfl))) (Or.inl (lv_neT c12 rfl))) (Or.inl (lv_neT c15 rfl))) (Or.inl (lv_neT c18 rfl))) (Or.inl (lv_neT c21 rfl))) (by decide) ?_
  refine go_iload_n (pc := 117) dX7_notNow_117 rfl rfl ?_
  refine go_iconst (pc := 118) (v := (1 : Int32)) dX7_notNow_118 (by decide) ?_
  refine go_bipush (pc := 119) (v := (60 : Int32)) dX7_notNow_119 (by decide) ?_
  obtain ⟨v25, hv26, h⟩ := fm_bind h
  refine go_callSi (pc := 121) (As := [.int (m 30 (0 : Int32).toNatClampNeg), .int (1 : Int32), .int (60 : Int32)]) (st := []) dX7_notNow_121 (c_X7_isBetween   _ _ _ _ hv26) (by decide) ce_X7_isBetween ml_X7_60 st_X7_isBetween rfl (Nat.le_of_ble_eq_true rfl) rfl ?_
  refine go_ifb_eq (pc := 124) (tgt := 131) dX7_notNow_124 (by decide) (fun c27 => ?_) (fun c27 => ?_)
  · rw [if_neg (by rw [c27]; decide)] at h
    refine go_bipush (pc := 131) (v := (-12 : Int32)) dX7_notNow_131 (by decide) ?_
    obtain rfl := Option.some.inj h
    exact go_iret (pc := 133) .int dX7_notNow_133 rfl rfl ⟨rfl, rfl⟩
  · rw [if_pos c27] at h
    refine go_iconst (pc := 127) (v := (0 : Int32)) dX7_notNow_127 (by decide) ?_
    refine go_goto (pc := 128) (tgt := 133) dX7_notNow_128 (by decide) ?_
    obtain rfl := Option.some.inj h
    exact go_iret (pc := 133) .int dX7_notNow_133 rfl rfl ⟨rfl, rfl⟩
def f_X7_doesNow (m : fm_M) : Option (Int32 × fm_M) :=
  if fm_in (0 : Int32) 2 = true then (if fm_in (1 : Int32) 2 = true then (if (m 23 16) = (0 : Int32) then ((f_X7_gives (m 30 (0 : Int32).toNatClampNeg) (m 30 (1 : Int32).toNatClampNeg) m).bind fun v4 => some (v4.1, v4.2)) else (if (m 23 16) = (1 : Int32) then ((f_X7_chooses (m 30 (0 : Int32).toNatClampNeg) m).bind fun v7 => some (v7.1, v7.2)) else (if (m 23 16) = (2 : Int32) then ((f_X7_leaves (m 30 (0 : Int32).toNatClampNeg) m).bind fun v10 => some (v10.1, v10.2)) else (if (m 23 16) = (3 : Int32) then ((f_X7_breaks (m 30 (0 : Int32).toNatClampNeg) (m 30 (1 : Int32).toNatClampNeg) m).bind fun v13 => some (v13.1, v13.2)) else (if (m 23 16) = (4 : Int32) then ((f_X7_pardons (m 30 (0 : Int32).toNatClampNeg) m).bind fun v16 => some (v16.1, v16.2)) else (if (m 23 16) = (5 : Int32) then ((f_X7_tells (m 30 (0 : Int32).toNatClampNeg) (m 30 (1 : Int32).toNatClampNeg) m).bind fun v19 => some (v19.1, v19.2)) else (if (m 23 16) = (6 : Int32) then ((f_X7_puts (m 30 (0 : Int32).toNatClampNeg) m).bind fun v22 => some (v22.1, v22.2)) else ((f_X7_weeksGo (m 30 (0 : Int32).toNatClampNeg) m).bind fun v24 => some (v24.1, v24.2))))))))) else none) else none
set_option maxRecDepth 100000 in
set_option maxHeartbeats 4000000 in
theorem c_X7_doesNow (m : fm_M) {res : Int32 × fm_M} (h : f_X7_doesNow  m = some res) : fm_Met fm_layW 7 m_X7_doesNow [.ref 23] m (fm_pi res.1 res.2) := by
  refine fm_Met_of (ls := [some (.ref 23), none, none]) (by decide) rfl (fm_cc_r _ fm_cc_0) (Nat.le_of_ble_eq_true rfl) rfl ?_
  unfold f_X7_doesNow at h
  refine go_aload_n (pc := 0) dX7_doesNow_0 rfl rfl ?_
  refine go_getR (pc := 1) (k := 15) (q2 := 30) dX7_doesNow_1 cl_X7 rfl rfl (by decide) lk_X7_29 ?_
  refine go_iconst (pc := 4) (v := (0 : Int32)) dX7_doesNow_4 (by decide) ?_
  obtain ⟨hi1, h⟩ := fm_chk h
  refine go_iald (pc := 5) dX7_doesNow_5 rfl (fm_in_vp hi1) ?_
  refine go_istore_n (pc := 6) (ls1 := [some (.ref 23), some (.int (m 30 (0 : Int32).toNatClampNeg)), none]) dX7_doesNow_6 rfl (by decide) rfl ?_
  refine go_aload_n (pc := 7) dX7_doesNow_7 rfl rfl ?_
  refine go_getR (pc := 8) (k := 15) (q2 := 30) dX7_doesNow_8 cl_X7 rfl rfl (by decide) lk_X7_29 ?_
  refine go_iconst (pc := 11) (v := (1 : Int32)) dX7_doesNow_11 (by decide) ?_
  obtain ⟨hi2, h⟩ := fm_chk h
  refine go_iald (pc := 12) dX7_doesNow_12 rfl (fm_in_vp hi2) ?_
  refine go_istore_n (pc := 13) (ls1 := [some (.ref 23), some (.int (m 30 (0 : Int32).toNatClampNeg)), some (.int (m 30 (1 : Int32).toNatClampNeg))]) dX7_doesNow_13 rfl (by decide) rfl ?_
  refine go_aload_n (pc := 14) dX7_doesNow_14 rfl rfl ?_
  refine go_getI (pc := 15) (k := 16) dX7_doesNow_15 cl_X7 rfl rfl (by decide) lk_X7_216 ?_
  by_cases c3 : (m 23 16) = (0 : Int32)
  · rw [if_pos c3] at h
    refine go_tswHit (pc := 18) (tgt := 60) dX7_doesNow_18 c3 (by decide) (by decide) rfl (by decide) ?_
    refine go_aload_n (pc := 60) dX7_doesNow_60 rfl rfl ?_
    refine go_iload_n (pc := 61) dX7_doesNow_61 rfl rfl ?_
    refine go_iload_n (pc := 62) dX7_doesNow_62 rfl rfl ?_
    obtain ⟨v4, hv5, h⟩ := fm_bind h
    refine go_callVi (pc := 63) (As := [.int (m 30 (0 : Int32).toNatClampNeg), .int (m 30 (1 : Int32).toNatClampNeg)]) (st := []) dX7_doesNow_63 (c_X7_gives   _ _ _ hv5) (by decide) ce_X7_gives ml_X7_113 in_X7_gives se_X7_gives cl_X7 rfl rfl (Nat.le_of_ble_eq_true rfl) rfl ?_
    obtain rfl := Option.some.inj h
    exact go_iret (pc := 66) .int dX7_doesNow_66 rfl rfl ⟨rfl, rfl⟩
  rw [if_neg c3] at h
  by_cases c6 : (m 23 16) = (1 : Int32)
  · rw [if_pos c6] at h
    refine go_tswHit (pc := 18) (tgt := 67) dX7_doesNow_18 c6 (by decide) (by decide) rfl (by decide) ?_
    refine go_aload_n (pc := 67) dX7_doesNow_67 rfl rfl ?_
    refine go_iload_n (pc := 68) dX7_doesNow_68 rfl rfl ?_
    obtain ⟨v7, hv8, h⟩ := fm_bind h
    refine go_callVi (pc := 69) (As := [.int (m 30 (0 : Int32).toNatClampNeg)]) (st := []) dX7_doesNow_69 (c_X7_chooses   _ _ hv8) (by decide) ce_X7_chooses ml_X7_131 in_X7_chooses se_X7_chooses cl_X7 rfl rfl (Nat.le_of_ble_eq_true rfl) rfl ?_
    obtain rfl := Option.some.inj h
    exact go_iret (pc := 72) .int dX7_doesNow_72 rfl rfl ⟨rfl, rfl⟩
  rw [if_neg c6] at h
  by_cases c9 : (m 23 16) = (2 : Int32)
  · rw [if_pos c9] at h
    refine go_tswHit (pc := 18) (tgt := 73) dX7_doesNow_18 c9 (by decide) (by decide) rfl (by decide) ?_
    refine go_aload_n (pc := 73) dX7_doesNow_73 rfl rfl ?_
    refine go_iload_n (pc := 74) dX7_doesNow_74 rfl rfl ?_
    obtain ⟨v10, hv11, h⟩ := fm_bind h
    refine go_callVi (pc := 75) (As := [.int (m 30 (0 : Int32).toNatClampNeg)]) (st := []) dX7_doesNow_75 (c_X7_leaves   _ _ hv11) (by decide) ce_X7_leaves ml_X7_137 in_X7_leaves se_X7_leaves cl_X7 rfl rfl (Nat.le_of_ble_eq_true rfl) rfl ?_
    obtain rfl := Option.some.inj h
    exact go_iret (pc := 78) .int dX7_doesNow_78 rfl rfl ⟨rfl, rfl⟩
  rw [if_neg c9] at h
  by_cases c12 : (m 23 16) = (3 : Int32)
  · rw [if_pos c12] at h
    refine go_tswHit (pc := 18) (tgt := 79) dX7_doesNow_18 c12 (by decide) (by decide) rfl (by decide) ?_
    refine go_aload_n (pc := 79) dX7_doesNow_79 rfl rfl ?_
    refine go_iload_n (pc := 80) dX7_doesNow_80 rfl rfl ?_
    refine go_iload_n (pc := 81) dX7_doesNow_81 rfl rfl ?_
    obtain ⟨v13, hv14, h⟩ := fm_bind h
    refine go_callVi (pc := 82) (As := [.int (m 30 (0 : Int32).toNatClampNeg), .int (m 30 (1 : Int32).toNatClampNeg)]) (st := []) dX7_doesNow_82 (c_X7_breaks   _ _ _ hv14) (by decide) ce_X7_breaks ml_X7_149 in_X7_breaks se_X7_breaks cl_X7 rfl rfl (Nat.le_of_ble_eq_true rfl) rfl ?_
    obtain rfl := Option.some.inj h
    exact go_iret (pc := 85) .int dX7_doesNow_85 rfl rfl ⟨rfl, rfl⟩
  rw [if_neg c12] at h
  by_cases c15 : (m 23 16) = (4 : Int32)
  · rw [if_pos c15] at h
    refine go_tswHit (pc := 18) (tgt := 86) dX7_doesNow_18 c15 (by decide) (by decide) rfl (by decide) ?_
    refine go_aload_n (pc := 86) dX7_doesNow_86 rfl rfl ?_
    refine go_iload_n (pc := 87) dX7_doesNow_87 rfl rfl ?_
    obtain ⟨v16, hv17, h⟩ := fm_bind h
    refine go_callVi (pc := 88) (As := [.int (m 30 (0 : Int32).toNatClampNeg)]) (st := []) dX7_doesNow_88 (c_X7_pardons   _ _ hv17) (by decide) ce_X7_pardons ml_X7_155 in_X7_pardons se_X7_pardons cl_X7 rfl rfl (Nat.le_of_ble_eq_true rfl) rfl ?_
    obtain rfl := Option.some.inj h
    exact go_iret (pc := 91) .int dX7_doesNow_91 rfl rfl ⟨rfl, rfl⟩
  rw [if_neg c15] at h
  by_cases c18 : (m 23 16) = (5 : Int32)
  · rw [if_pos c18] at h
    refine go_tswHit (pc := 18) (tgt := 92) dX7_doesNow_18 c18 (by decide) (by decide) rfl (by decide) ?_
    refine go_aload_n (pc := 92) dX7_doesNow_92 rfl rfl ?_
    refine go_iload_n (pc := 93) dX7_doesNow_93 rfl rfl ?_
    refine go_iload_n (pc := 94) dX7_doesNow_94 rfl rfl ?_
    obtain ⟨v19, hv20, h⟩ := fm_bind h
    refine go_callVi (pc := 95) (As := [.int (m 30 (0 : Int32).toNatClampNeg), .int (m 30 (1 : Int32).toNatClampNeg)]) (st := []) dX7_doesNow_95 (c_X7_tells   _ _ _ hv20) (by decide) ce_X7_tells ml_X7_143 in_X7_tells se_X7_tells cl_X7 rfl rfl (Nat.le_of_ble_eq_true rfl) rfl ?_
    obtain rfl := Option.some.inj h
    exact go_iret (pc := 98) .int dX7_doesNow_98 rfl rfl ⟨rfl, rfl⟩
  rw [if_neg c18] at h
  by_cases c21 : (m 23 16) = (6 : Int32)
  · rw [if_pos c21] at h
    refine go_tswHit (pc := 18) (tgt := 99) dX7_doesNow_18 c21 (by decide) (by decide) rfl (by decide) ?_
    refine go_aload_n (pc := 99) dX7_doesNow_99 rfl rfl ?_
    refine go_iload_n (pc := 100) dX7_doesNow_100 rfl rfl ?_
    obtain ⟨v22, hv23, h⟩ := fm_bind h
    refine go_callVi (pc := 101) (As := [.int (m 30 (0 : Int32).toNatClampNeg)]) (st := []) dX7_doesNow_101 (c_X7_puts   _ _ hv23) (by decide) ce_X7_puts ml_X7_164 in_X7_puts se_X7_puts cl_X7 rfl rfl (Nat.le_of_ble_eq_true rfl) rfl ?_
    obtain rfl := Option.some.inj h
    exact go_iret (pc := 104) .int dX7_doesNow_104 rfl rfl ⟨rfl, rfl⟩
  rw [if_neg c21] at h
  refine go_tswMiss (pc := 18) (tgt := 105) dX7_doesNow_18 7 (by decide) (lt_s (lt_s (lt_s (lt_s (lt_s (lt_s (lt_s lt_0 (Or.inl (lv_neT c3 rfl))) (Or.inl (lv_neT c6 rfl))) (Or.inl (lv_neT c9 rfl))) (Or.inl (lv_neT c12 rfl))) (Or.inl (lv_neT c15 rfl))) (Or.inl (lv_neT c18 rfl))) (Or.inl (lv_neT c21 rfl))) (by decide) ?_
  refine go_aload_n (pc := 105) dX7_doesNow_105 rfl rfl ?_
  refine go_iload_n (pc := 106) dX7_doesNow_106 rfl rfl ?_
  obtain ⟨v24, hv25, h⟩ := fm_bind h
  refine go_callVi (pc := 107) (As := [.int (m 30 (0 : Int32).toNatClampNeg)]) (st := []) dX7_doesNow_107 (c_X7_weeksGo   _ _ hv25) (by decide) ce_X7_weeksGo ml_X7_192 in_X7_weeksGo se_X7_weeksGo cl_X7 rfl rfl (Nat.le_of_ble_eq_true rfl) rfl ?_
  obtain rfl := Option.some.inj h
  exact go_iret (pc := 110) .int dX7_doesNow_110 rfl rfl ⟨rfl, rfl⟩
def f_X7_doesAll_L12 : Nat → Int32 → fm_M → Option (Bool × fm_M)
  | 0, _, _ => none
  | n + 1, y1, m => if y1 = 0 then (some (true, m)) else ((f_X7_readsOrder m).bind fun v2 => if v2.1 = true then ((f_X7_notNow v2.2).bind fun v5 => if v5.1 = 0 then ((f_X7_doesNow v5.2).bind fun v8 => (f_X7_reads (59 : Int32) (fm_put v8.2 23 17 ((v8.2 23 17) + (1 : Int32)))).bind fun v10 => f_X7_doesAll_L12 n (fm_b v10.1) v10.2) else (some (false, v5.2))) else (some (false, v2.2)))
def f_X7_doesAll (m : fm_M) : Option (Bool × fm_M) :=
  f_X7_doesAll_L12 fm_F (1 : Int32) (fm_put (fm_put m 23 17 (0 : Int32)) 23 14 (0 : Int32))
set_option maxRecDepth 100000 in
set_option maxHeartbeats 4000000 in
theorem c_X7_doesAll_L12 : ∀ (n : Nat) (y1 : Int32) (m : fm_M) (res : Bool × fm_M), f_X7_doesAll_L12 n y1 m = some res → fm_Go fm_layW 8 m_X7_doesAll (fm_pi (fm_b res.1) res.2) 12 [some (.ref 23), some (.int y1)] [] m := by
  intro n
  induction n with
  | zero => intro y1 m res h; cases h
  | succ n ih =>
    intro y1 m res h
    rw [f_X7_doesAll_L12] at h
    refine go_iload_n (pc := 12) dX7_doesAll_12 rfl rfl ?_
    refine go_if_eq (pc := 13) (tgt := 57) dX7_doesAll_13 (by decide) (fun c1 => ?_) (fun c1 => ?_)
    · rw [if_pos c1] at h
      refine go_iconst (pc := 57) (v := (1 : Int32)) dX7_doesAll_57 (by decide) ?_
      obtain rfl := Option.some.inj h
      exact go_iret (pc := 58) .boolean dX7_doesAll_58 rfl rfl ⟨rfl, rfl⟩
    · rw [if_neg c1] at h
      refine go_aload_n (pc := 16) dX7_doesAll_16 rfl rfl ?_
      obtain ⟨v2, hv3, h⟩ := fm_bind h
      refine go_callVi (pc := 17) (As := []) (st := []) dX7_doesAll_17 (c_X7_readsOrder   _ hv3) (by decide) ce_X7_readsOrder ml_X7_225 in_X7_readsOrder se_X7_readsOrder cl_X7 rfl rfl (Nat.le_of_ble_eq_true rfl) rfl ?_
      refine go_ifb_eq (pc := 20) (tgt := 30) dX7_doesAll_20 (by decide) (fun c4 => ?_) (fun c4 => ?_)
      · rw [if_neg (by rw [c4]; decide)] at h
        refine go_iconst (pc := 30) (v := (0 : Int32)) dX7_doesAll_30 (by decide) ?_
        obtain rfl := Option.some.inj h
        exact go_iret (pc := 31) .boolean dX7_doesAll_31 rfl rfl ⟨rfl, rfl⟩
      · rw [if_pos c4] at h
        refine go_aload_n (pc := 23) dX7_doesAll_23 rfl rfl ?_
        obtain ⟨v5, hv6, h⟩ := fm_bind h
        refine go_callVi (pc := 24) (As := []) (st := []) dX7_doesAll_24 (c_X7_notNow   _ hv6) (by decide) ce_X7_notNow ml_X7_232 in_X7_notNow se_X7_notNow cl_X7 rfl rfl (Nat.le_of_ble_eq_true rfl) rfl ?_
        refine go_if_eq (pc := 27) (tgt := 32) dX7_doesAll_27 (by decide) (fun c7 => ?_) (fun c7 => ?_)
        · rw [if_pos c7] at h
          refine go_aload_n (pc := 32) dX7_doesAll_32 rfl rfl ?_
          obtain ⟨v8, hv9, h⟩ := fm_bind h
          refine go_callVi (pc := 33) (As := []) (st := []) dX7_doesAll_33 (c_X7_doesNow   _ hv9) (by decide) ce_X7_doesNow ml_X7_235 in_X7_doesNow se_X7_doesNow cl_X7 rfl rfl (Nat.le_of_ble_eq_true rfl) rfl ?_
          refine go_pop (pc := 36) dX7_doesAll_36 rfl ?_
          refine go_aload_n (pc := 37) dX7_doesAll_37 rfl rfl ?_
          refine go_dup (pc := 38) dX7_doesAll_38 rfl ?_
          refine go_getI (pc := 39) (k := 17) dX7_doesAll_39 cl_X7 rfl rfl (by decide) lk_X7_229 ?_
          refine go_iconst (pc := 42) (v := (1 : Int32)) dX7_doesAll_42 (by decide) ?_
          refine go_iadd (pc := 43) dX7_doesAll_43 ?_
          refine go_put (pc := 44) (k := 17) .int dX7_doesAll_44 cl_X7 rfl rfl (by decide) lk_X7_229 rfl (by decide +kernel) rfl rfl ?_
          refine go_aload_n (pc := 47) dX7_doesAll_47 rfl rfl ?_
          refine go_bipush (pc := 48) (v := (59 : Int32)) dX7_doesAll_48 (by decide) ?_
          obtain ⟨v10, hv11, h⟩ := fm_bind h
          refine go_callVi (pc := 50) (As := [.int (59 : Int32)]) (st := []) dX7_doesAll_50 (c_X7_reads   _ _ hv11) (by decide) ce_X7_reads ml_X7_213 in_X7_reads se_X7_reads cl_X7 rfl rfl (Nat.le_of_ble_eq_true rfl) rfl ?_
          refine go_istore_n (pc := 53) (ls1 := [some (.ref 23), some (.int (fm_b v10.1))]) dX7_doesAll_53 rfl (by decide) rfl ?_
          refine go_goto (pc := 54) (tgt := 12) dX7_doesAll_54 (by decide) ?_
          exact ih _ _ _ h
        · rw [if_neg c7] at h
          refine go_iconst (pc := 30) (v := (0 : Int32)) dX7_doesAll_30 (by decide) ?_
          obtain rfl := Option.some.inj h
          exact go_iret (pc := 31) .boolean dX7_doesAll_31 rfl rfl ⟨rfl, rfl⟩
set_option maxRecDepth 100000 in
set_option maxHeartbeats 4000000 in
theorem c_X7_doesAll (m : fm_M) {res : Bool × fm_M} (h : f_X7_doesAll  m = some res) : fm_Met fm_layW 8 m_X7_doesAll [.ref 23] m (fm_pi (fm_b res.1) res.2) := by
  refine fm_Met_of (ls := [some (.ref 23), none]) (by decide) rfl (fm_cc_r _ fm_cc_0) (Nat.le_of_ble_eq_true rfl) rfl ?_
  unfold f_X7_doesAll at h
  refine go_aload_n (pc := 0) dX7_doesAll_0 rfl rfl ?_
  refine go_iconst (pc := 1) (v := (0 : Int32)) dX7_doesAll_1 (by decide) ?_
  refine go_put (pc := 2) (k := 17) .int dX7_doesAll_2 cl_X7 rfl rfl (by decide) lk_X7_229 rfl (by decide +kernel) rfl rfl ?_
  refine go_aload_n (pc := 5) dX7_doesAll_5 rfl rfl ?_
  refine go_iconst (pc := 6) (v := (0 : Int32)) dX7_doesAll_6 (by decide) ?_
  refine go_put (pc := 7) (k := 14) .int dX7_doesAll_7 cl_X7 rfl rfl (by decide) lk_X7_207 rfl (by decide +kernel) rfl rfl ?_
  refine go_iconst (pc := 10) (v := (1 : Int32)) dX7_doesAll_10 (by decide) ?_
  refine go_istore_n (pc := 11) (ls1 := [some (.ref 23), some (.int (1 : Int32))]) dX7_doesAll_11 rfl (by decide) rfl ?_
  exact c_X7_doesAll_L12  fm_F _ _ _ h
def f_X7_run (m : fm_M) : Option (Int32 × fm_M) :=
  (f_X7_readsAll m).bind fun v1 => if v1.1 = true then ((f_X7_thinks v1.2).bind fun v4 => (f_X7_doesAll v4).bind fun v6 => if v6.1 = true then ((f_X7_keepsMind (fm_put v6.2 23 13 (0 : Int32))).bind fun v15 => some ((v15 23 17), v15)) else ((f_X7_forgets (fm_put v6.2 23 13 (0 : Int32))).bind fun v9 => (f_X7_isNot (11 : Int32) (v9 23 17) v9).bind fun v11 => (f_X7_refuses v11.1 v11.2).bind fun v13 => some (v13.1, v13.2))) else (some (((-1000 : Int32) - ((fm_put v1.2 23 13 (0 : Int32)) 23 14)), (fm_put v1.2 23 13 (0 : Int32))))
set_option maxRecDepth 100000 in
set_option maxHeartbeats 4000000 in
theorem c_X7_run (m : fm_M) {res : Int32 × fm_M} (h : f_X7_run  m = some res) : fm_Met fm_layW 9 m_X7_run [.ref 23] m (fm_pi res.1 res.2) := by
  refine fm_Met_of (ls := [some (.ref 23), none]) (by decide) rfl (fm_cc_r _ fm_cc_0) (Nat.le_of_ble_eq_true rfl) rfl ?_
  unfold f_X7_run at h
  refine go_aload_n (pc := 0) dX7_run_0 rfl rfl ?_
  obtain ⟨v1, hv2, h⟩ := fm_bind h
  refine go_callVi (pc := 1) (As := []) (st := []) dX7_run_1 (c_X7_readsAll   _ hv2) (by decide) ce_X7_readsAll ml_X7_238 in_X7_readsAll se_X7_readsAll cl_X7 rfl rfl (Nat.le_of_ble_eq_true rfl) rfl ?_
  refine go_ifb_ne (pc := 4) (tgt := 21) dX7_run_4 (by decide) (fun c3 => ?_) (fun c3 => ?_)
  · rw [if_pos c3] at h
    refine go_aload_n (pc := 21) dX7_run_21 rfl rfl ?_
    obtain ⟨v4, hv5, h⟩ := fm_bind h
    refine go_callVv (pc := 22) (As := []) (st := []) dX7_run_22 (c_X7_thinks   _ hv5) (by decide) ce_X7_thinks ml_X7_54 in_X7_thinks se_X7_thinks cl_X7 rfl rfl (Nat.le_of_ble_eq_true rfl) rfl ?_
    refine go_aload_n (pc := 25) dX7_run_25 rfl rfl ?_
    obtain ⟨v6, hv7, h⟩ := fm_bind h
    refine go_callVi (pc := 26) (As := []) (st := []) dX7_run_26 (c_X7_doesAll   _ hv7) (by decide) ce_X7_doesAll ml_X7_241 in_X7_doesAll se_X7_doesAll cl_X7 rfl rfl (Nat.le_of_ble_eq_true rfl) rfl ?_
    refine go_istore_n (pc := 29) (ls1 := [some (.ref 23), some (.int (fm_b v6.1))]) dX7_run_29 rfl (by decide) rfl ?_
    refine go_aload_n (pc := 30) dX7_run_30 rfl rfl ?_
    refine go_iconst (pc := 31) (v := (0 : Int32)) dX7_run_31 (by decide) ?_
    refine go_put (pc := 32) (k := 13) .int dX7_run_32 cl_X7 rfl rfl (by decide) lk_X7_204 rfl (by decide +kernel) rfl rfl ?_
    refine go_iload_n (pc := 35) dX7_run_35 rfl rfl ?_
    refine go_ifb_eq (pc := 36) (tgt := 48) dX7_run_36 (by decide) (fun c8 => ?_) (fun c8 => ?_)
    · rw [if_neg (by rw [c8]; decide)] at h
      refine go_aload_n (pc := 48) dX7_run_48 rfl rfl ?_
      obtain ⟨v9, hv10, h⟩ := fm_bind h
      refine go_callVv (pc := 49) (As := []) (st := []) dX7_run_49 (c_X7_forgets   _ hv10) (by decide) ce_X7_forgets ml_X7_195 in_X7_forgets se_X7_forgets cl_X7 rfl rfl (Nat.le_of_ble_eq_true rfl) rfl ?_
      refine go_aload_n (pc := 52) dX7_run_52 rfl rfl ?_
      refine go_aload_n (pc := 53) dX7_run_53 rfl rfl ?_
      refine go_bipush (pc := 54) (v := (11 : Int32)) dX7_run_54 (by decide) ?_
      refine go_aload_n (pc := 56) dX7_run_56 rfl rfl ?_
      refine go_getI (pc := 57) (k := 17) dX7_run_57 cl_X7 rfl rfl (by decide) lk_X7_229 ?_
      obtain ⟨v11, hv12, h⟩ := fm_bind h
      refine go_callVi (pc := 60) (As := [.int (11 : Int32), .int (v9 23 17)]) (st := [.ref 23]) dX7_run_60 (c_X7_isNot   _ _ _ hv12) (by decide) ce_X7_isNot ml_X7_84 in_X7_isNot se_X7_isNot cl_X7 rfl rfl (Nat.le_of_ble_eq_true rfl) rfl ?_
      obtain ⟨v13, hv14, h⟩ := fm_bind h
      refine go_callVi (pc := 63) (As := [.int v11.1]) (st := []) dX7_run_63 (c_X7_refuses   _ _ hv14) (by decide) ce_X7_refuses ml_X7_87 in_X7_refuses se_X7_refuses cl_X7 rfl rfl (Nat.le_of_ble_eq_true rfl) rfl ?_
      obtain rfl := Option.some.inj h
      exact go_iret (pc := 66) .int dX7_run_66 rfl rfl ⟨rfl, rfl⟩
    · rw [if_pos c8] at h
      refine go_aload_n (pc := 39) dX7_run_39 rfl rfl ?_
      obtain ⟨v15, hv16, h⟩ := fm_bind h
      refine go_callVv (pc := 40) (As := []) (st := []) dX7_run_40 (c_X7_keepsMind   _ hv16) (by decide) ce_X7_keepsMind ml_X7_57 in_X7_keepsMind se_X7_keepsMind cl_X7 rfl rfl (Nat.le_of_ble_eq_true rfl) rfl ?_
      refine go_aload_n (pc := 43) dX7_run_43 rfl rfl ?_
      refine go_getI (pc := 44) (k := 17) dX7_run_44 cl_X7 rfl rfl (by decide) lk_X7_229 ?_
      obtain rfl := Option.some.inj h
      exact go_iret (pc := 47) .int dX7_run_47 rfl rfl ⟨rfl, rfl⟩
  · rw [if_neg (by rw [c3]; decide)] at h
    refine go_aload_n (pc := 7) dX7_run_7 rfl rfl ?_
    refine go_iconst (pc := 8) (v := (0 : Int32)) dX7_run_8 (by decide) ?_
    refine go_put (pc := 9) (k := 13) .int dX7_run_9 cl_X7 rfl rfl (by decide) lk_X7_204 rfl (by decide +kernel) rfl rfl ?_
    refine go_sipush (pc := 12) (v := (-1000 : Int32)) dX7_run_12 (by decide) ?_
    refine go_aload_n (pc := 15) dX7_run_15 rfl rfl ?_
    refine go_getI (pc := 16) (k := 14) dX7_run_16 cl_X7 rfl rfl (by decide) lk_X7_207 ?_
    refine go_isub (pc := 19) dX7_run_19 ?_
    obtain rfl := Option.some.inj h
    exact go_iret (pc := 20) .int dX7_run_20 rfl rfl ⟨rfl, rfl⟩
def f_X7_writes (x1 : Int32) (m : fm_M) : Option (fm_M) :=
  if fm_in (m 23 19) 160 = true then (some (fm_put (fm_put m 31 (m 23 19).toNatClampNeg (vp_nar .char (((x1).toUInt32 % 65536).toInt32))) 23 19 (((fm_put m 31 (m 23 19).toNatClampNeg (vp_nar .char (((x1).toUInt32 % 65536).toInt32))) 23 19) + (1 : Int32)))) else none
set_option maxRecDepth 100000 in
set_option maxHeartbeats 4000000 in
theorem c_X7_writes (x1 : Int32) (m : fm_M) {res : fm_M} (h : f_X7_writes x1 m = some res) : fm_Met fm_layW 0 m_X7_writes [.ref 23, .int x1] m (fm_pv res) := by
  refine fm_Met_of (ls := [some (.ref 23), some (.int x1)]) (by decide) rfl (fm_cc_r _ (fm_cc_i _ fm_cc_0)) (Nat.le_of_ble_eq_true rfl) rfl ?_
  unfold f_X7_writes at h
  refine go_aload_n (pc := 0) dX7_writes_0 rfl rfl ?_
  refine go_getR (pc := 1) (k := 18) (q2 := 31) dX7_writes_1 cl_X7 rfl rfl (by decide) lk_X7_32 ?_
  refine go_aload_n (pc := 4) dX7_writes_4 rfl rfl ?_
  refine go_getI (pc := 5) (k := 19) dX7_writes_5 cl_X7 rfl rfl (by decide) lk_X7_244 ?_
  refine go_iload_n (pc := 8) dX7_writes_8 rfl rfl ?_
  refine go_i2c (pc := 9) dX7_writes_9 ?_
  obtain ⟨hi1, h⟩ := fm_chk h
  refine go_cast (pc := 10) dX7_writes_10 rfl (fm_in_vp hi1) ?_
  refine go_aload_n (pc := 11) dX7_writes_11 rfl rfl ?_
  refine go_dup (pc := 12) dX7_writes_12 rfl ?_
  refine go_getI (pc := 13) (k := 19) dX7_writes_13 cl_X7 rfl rfl (by decide) lk_X7_244 ?_
  refine go_iconst (pc := 16) (v := (1 : Int32)) dX7_writes_16 (by decide) ?_
  refine go_iadd (pc := 17) dX7_writes_17 ?_
  refine go_put (pc := 18) (k := 19) .int dX7_writes_18 cl_X7 rfl rfl (by decide) lk_X7_244 rfl (by decide +kernel) rfl rfl ?_
  obtain rfl := Option.some.inj h
  exact go_vret (pc := 21) dX7_writes_21 rfl ⟨rfl, rfl⟩
def f_X7_writesNumber (x1 : Int32) (m : fm_M) : Option (fm_M) :=
  if x1 ≤ (9 : Int32) then ((f_X7_writes ((48 : Int32) + (x1 - x1 / (10 : Int32) * (10 : Int32))) m).bind fun v2 => some v2) else ((f_X7_writes ((48 : Int32) + (x1 / (10 : Int32))) m).bind fun v4 => (f_X7_writes ((48 : Int32) + (x1 - x1 / (10 : Int32) * (10 : Int32))) v4).bind fun v6 => some v6)
set_option maxRecDepth 100000 in
set_option maxHeartbeats 4000000 in
theorem c_X7_writesNumber (x1 : Int32) (m : fm_M) {res : fm_M} (h : f_X7_writesNumber x1 m = some res) : fm_Met fm_layW 1 m_X7_writesNumber [.ref 23, .int x1] m (fm_pv res) := by
  refine fm_Met_of (ls := [some (.ref 23), some (.int x1)]) (by decide) rfl (fm_cc_r _ (fm_cc_i _ fm_cc_0)) (Nat.le_of_ble_eq_true rfl) rfl ?_
  unfold f_X7_writesNumber at h
  refine go_iload_n (pc := 0) dX7_writesNumber_0 rfl rfl ?_
  refine go_bipush (pc := 1) (v := (9 : Int32)) dX7_writesNumber_1 (by decide) ?_
  refine go_icmp_le (pc := 3) (tgt := 17) dX7_writesNumber_3 (by decide) (fun c1 => ?_) (fun c1 => ?_)
  · rw [if_pos c1] at h
    refine go_aload_n (pc := 17) dX7_writesNumber_17 rfl rfl ?_
    refine go_bipush (pc := 18) (v := (48 : Int32)) dX7_writesNumber_18 (by decide) ?_
    refine go_iload_n (pc := 20) dX7_writesNumber_20 rfl rfl ?_
    refine go_bipush (pc := 21) (v := (10 : Int32)) dX7_writesNumber_21 (by decide) ?_
    refine go_irem (pc := 23) dX7_writesNumber_23 (by decide) ?_
    refine go_iadd (pc := 24) dX7_writesNumber_24 ?_
    obtain ⟨v2, hv3, h⟩ := fm_bind h
    refine go_callVv (pc := 25) (As := [.int ((48 : Int32) + (x1 - x1 / (10 : Int32) * (10 : Int32)))]) (st := []) dX7_writesNumber_25 (c_X7_writes   _ _ hv3) (by decide) ce_X7_writes ml_X7_247 in_X7_writes se_X7_writes cl_X7 rfl rfl (Nat.le_of_ble_eq_true rfl) rfl ?_
    obtain rfl := Option.some.inj h
    exact go_vret (pc := 28) dX7_writesNumber_28 rfl ⟨rfl, rfl⟩
  · rw [if_neg c1] at h
    refine go_aload_n (pc := 6) dX7_writesNumber_6 rfl rfl ?_
    refine go_bipush (pc := 7) (v := (48 : Int32)) dX7_writesNumber_7 (by decide) ?_
    refine go_iload_n (pc := 9) dX7_writesNumber_9 rfl rfl ?_
    refine go_bipush (pc := 10) (v := (10 : Int32)) dX7_writesNumber_10 (by decide) ?_
    refine go_idiv (pc := 12) dX7_writesNumber_12 (by decide) ?_
    refine go_iadd (pc := 13) dX7_writesNumber_13 ?_
    obtain ⟨v4, hv5, h⟩ := fm_bind h
    refine go_callVv (pc := 14) (As := [.int ((48 : Int32) + (x1 / (10 : Int32)))]) (st := []) dX7_writesNumber_14 (c_X7_writes   _ _ hv5) (by decide) ce_X7_writes ml_X7_247 in_X7_writes se_X7_writes cl_X7 rfl rfl (Nat.le_of_ble_eq_true rfl) rfl ?_
    refine go_aload_n (pc := 17) dX7_writesNumber_17 rfl rfl ?_
    refine go_bipush (pc := 18) (v := (48 : Int32)) dX7_writesNumber_18 (by decide) ?_
    refine go_iload_n (pc := 20) dX7_writesNumber_20 rfl rfl ?_
    refine go_bipush (pc := 21) (v := (10 : Int32)) dX7_writesNumber_21 (by decide) ?_
    refine go_irem (pc := 23) dX7_writesNumber_23 (by decide) ?_
    refine go_iadd (pc := 24) dX7_writesNumber_24 ?_
    obtain ⟨v6, hv7, h⟩ := fm_bind h
    refine go_callVv (pc := 25) (As := [.int ((48 : Int32) + (x1 - x1 / (10 : Int32) * (10 : Int32)))]) (st := []) dX7_writesNumber_25 (c_X7_writes   _ _ hv7) (by decide) ce_X7_writes ml_X7_247 in_X7_writes se_X7_writes cl_X7 rfl rfl (Nat.le_of_ble_eq_true rfl) rfl ?_
    obtain rfl := Option.some.inj h
    exact go_vret (pc := 28) dX7_writesNumber_28 rfl ⟨rfl, rfl⟩
def f_X7_writesCell (x1 : Int32) (m : fm_M) : Option (fm_M) :=
  (f_X7_brotherIn x1 m).bind fun v1 => if 0 ≤ v1 then ((f_X7_writesNumber v1 m).bind fun v4 => (f_X7_of v1 (5 : Int32) v4).bind fun v6 => if v6 ≤ 0 then ((f_X7_of v1 (4 : Int32) v4).bind fun v9 => if v9 < (2 : Int32) then (some v4) else ((f_X7_writes (42 : Int32) v4).bind fun v12 => some v12)) else ((f_X7_writes (33 : Int32) v4).bind fun v14 => (f_X7_of v1 (4 : Int32) v14).bind fun v16 => if v16 < (2 : Int32) then (some v14) else ((f_X7_writes (42 : Int32) v14).bind fun v19 => some v19))) else ((f_X7_writes (45 : Int32) m).bind fun v21 => some v21)
set_option maxRecDepth 100000 in
set_option maxHeartbeats 4000000 in
theorem c_X7_writesCell (x1 : Int32) (m : fm_M) {res : fm_M} (h : f_X7_writesCell x1 m = some res) : fm_Met fm_layW 3 m_X7_writesCell [.ref 23, .int x1] m (fm_pv res) := by
  refine fm_Met_of (ls := [some (.ref 23), some (.int x1), none]) (by decide) rfl (fm_cc_r _ (fm_cc_i _ fm_cc_0)) (Nat.le_of_ble_eq_true rfl) rfl ?_
  unfold f_X7_writesCell at h
  refine go_aload_n (pc := 0) dX7_writesCell_0 rfl rfl ?_
  refine go_iload_n (pc := 1) dX7_writesCell_1 rfl rfl ?_
  obtain ⟨v1, hv2, h⟩ := fm_bind h
  refine go_callVi (pc := 2) (As := [.int x1]) (st := []) dX7_writesCell_2 (c_X7_brotherIn   _ _ hv2) (by decide) ce_X7_brotherIn ml_X7_122 in_X7_brotherIn se_X7_brotherIn cl_X7 rfl rfl (Nat.le_of_ble_eq_true rfl) rfl ?_
  refine go_istore_n (pc := 5) (ls1 := [some (.ref 23), some (.int x1), some (.int v1)]) dX7_writesCell_5 rfl (by decide) rfl ?_
  refine go_iload_n (pc := 6) dX7_writesCell_6 rfl rfl ?_
  refine go_if_ge (pc := 7) (tgt := 17) dX7_writesCell_7 (by decide) (fun c3 => ?_) (fun c3 => ?_)
  · rw [if_pos c3] at h
    refine go_aload_n (pc := 17) dX7_writesCell_17 rfl rfl ?_
    refine go_iload_n (pc := 18) dX7_writesCell_18 rfl rfl ?_
    obtain ⟨v4, hv5, h⟩ := fm_bind h
    refine go_callVv (pc := 19) (As := [.int v1]) (st := []) dX7_writesCell_19 (c_X7_writesNumber   _ _ hv5) (by decide) ce_X7_writesNumber ml_X7_250 in_X7_writesNumber se_X7_writesNumber cl_X7 rfl rfl (Nat.le_of_ble_eq_true rfl) rfl ?_
    refine go_aload_n (pc := 22) dX7_writesCell_22 rfl rfl ?_
    refine go_iload_n (pc := 23) dX7_writesCell_23 rfl rfl ?_
    refine go_iconst (pc := 24) (v := (5 : Int32)) dX7_writesCell_24 (by decide) ?_
    obtain ⟨v6, hv7, h⟩ := fm_bind h
    refine go_callVi (pc := 25) (As := [.int v1, .int (5 : Int32)]) (st := []) dX7_writesCell_25 (c_X7_of   _ _ _ hv7) (by decide) ce_X7_of ml_X7_64 in_X7_of se_X7_of cl_X7 rfl rfl (Nat.le_of_ble_eq_true rfl) rfl ?_
    refine go_if_le (pc := 28) (tgt := 37) dX7_writesCell_28 (by decide) (fun c8 => ?_) (fun c8 => ?_)
    · rw [if_pos c8] at h
      refine go_aload_n (pc := 37) dX7_writesCell_37 rfl rfl ?_
      refine go_iload_n (pc := 38) dX7_writesCell_38 rfl rfl ?_
      refine go_iconst (pc := 39) (v := (4 : Int32)) dX7_writesCell_39 (by decide) ?_
      obtain ⟨v9, hv10, h⟩ := fm_bind h
      refine go_callVi (pc := 40) (As := [.int v1, .int (4 : Int32)]) (st := []) dX7_writesCell_40 (c_X7_of   _ _ _ hv10) (by decide) ce_X7_of ml_X7_64 in_X7_of se_X7_of cl_X7 rfl rfl (Nat.le_of_ble_eq_true rfl) rfl ?_
      refine go_iconst (pc := 43) (v := (2 : Int32)) dX7_writesCell_43 (by decide) ?_
      refine go_icmp_lt (pc := 44) (tgt := 53) dX7_writesCell_44 (by decide) (fun c11 => ?_) (fun c11 => ?_)
      · rw [if_pos c11] at h
        obtain rfl := Option.some.inj h
        exact go_vret (pc := 53) dX7_writesCell_53 rfl ⟨rfl, rfl⟩
      · rw [if_neg c11] at h
        refine go_aload_n (pc := 47) dX7_writesCell_47 rfl rfl ?_
        refine go_bipush (pc := 48) (v := (42 : Int32)) dX7_writesCell_48 (by decide) ?_
        obtain ⟨v12, hv13, h⟩ := fm_bind h
        refine go_callVv (pc := 50) (As := [.int (42 : Int32)]) (st := []) dX7_writesCell_50 (c_X7_writes   _ _ hv13) (by decide) ce_X7_writes ml_X7_247 in_X7_writes se_X7_writes cl_X7 rfl rfl (Nat.le_of_ble_eq_true rfl) rfl ?_
        obtain rfl := Option.some.inj h
        exact go_vret (pc := 53) dX7_writesCell_53 rfl ⟨rfl, rfl⟩
    · rw [if_neg c8] at h
      refine go_aload_n (pc := 31) dX7_writesCell_31 rfl rfl ?_
      refine go_bipush (pc := 32) (v := (33 : Int32)) dX7_writesCell_32 (by decide) ?_
      obtain ⟨v14, hv15, h⟩ := fm_bind h
      refine go_callVv (pc := 34) (As := [.int (33 : Int32)]) (st := []) dX7_writesCell_34 (c_X7_writes   _ _ hv15) (by decide) ce_X7_writes ml_X7_247 in_X7_writes se_X7_writes cl_X7 rfl rfl (Nat.le_of_ble_eq_true rfl) rfl ?_
      refine go_aload_n (pc := 37) dX7_writesCell_37 rfl rfl ?_
      refine go_iload_n (pc := 38) dX7_writesCell_38 rfl rfl ?_
      refine go_iconst (pc := 39) (v := (4 : Int32)) dX7_writesCell_39 (by decide) ?_
      obtain ⟨v16, hv17, h⟩ := fm_bind h
      refine go_callVi (pc := 40) (As := [.int v1, .int (4 : Int32)]) (st := []) dX7_writesCell_40 (c_X7_of   _ _ _ hv17) (by decide) ce_X7_of ml_X7_64 in_X7_of se_X7_of cl_X7 rfl rfl (Nat.le_of_ble_eq_true rfl) rfl ?_
      refine go_iconst (pc := 43) (v := (2 : Int32)) dX7_writesCell_43 (by decide) ?_
      refine go_icmp_lt (pc := 44) (tgt := 53) dX7_writesCell_44 (by decide) (fun c18 => ?_) (fun c18 => ?_)
      · rw [if_pos c18] at h
        obtain rfl := Option.some.inj h
        exact go_vret (pc := 53) dX7_writesCell_53 rfl ⟨rfl, rfl⟩
      · rw [if_neg c18] at h
        refine go_aload_n (pc := 47) dX7_writesCell_47 rfl rfl ?_
        refine go_bipush (pc := 48) (v := (42 : Int32)) dX7_writesCell_48 (by decide) ?_
        obtain ⟨v19, hv20, h⟩ := fm_bind h
        refine go_callVv (pc := 50) (As := [.int (42 : Int32)]) (st := []) dX7_writesCell_50 (c_X7_writes   _ _ hv20) (by decide) ce_X7_writes ml_X7_247 in_X7_writes se_X7_writes cl_X7 rfl rfl (Nat.le_of_ble_eq_true rfl) rfl ?_
        obtain rfl := Option.some.inj h
        exact go_vret (pc := 53) dX7_writesCell_53 rfl ⟨rfl, rfl⟩
  · rw [if_neg c3] at h
    refine go_aload_n (pc := 10) dX7_writesCell_10 rfl rfl ?_
    refine go_bipush (pc := 11) (v := (45 : Int32)) dX7_writesCell_11 (by decide) ?_
    obtain ⟨v21, hv22, h⟩ := fm_bind h
    refine go_callVv (pc := 13) (As := [.int (45 : Int32)]) (st := []) dX7_writesCell_13 (c_X7_writes   _ _ hv22) (by decide) ce_X7_writes ml_X7_247 in_X7_writes se_X7_writes cl_X7 rfl rfl (Nat.le_of_ble_eq_true rfl) rfl ?_
    obtain rfl := Option.some.inj h
    exact go_vret (pc := 16) dX7_writesCell_16 rfl ⟨rfl, rfl⟩
def f_X7_tell_L7 : Nat → Int32 → fm_M → Option (Int32 × fm_M)
  | 0, _, _ => none
  | n + 1, y1, m => if (8 : Int32) ≤ y1 then (some ((m 23 19), m)) else (if y1 ≤ 0 then ((f_X7_writesCell y1 m).bind fun v3 => f_X7_tell_L7 n (y1 + (1 : Int32)) v3) else ((f_X7_writes (32 : Int32) m).bind fun v5 => (f_X7_writesCell y1 v5).bind fun v7 => f_X7_tell_L7 n (y1 + (1 : Int32)) v7))
def f_X7_tell (m : fm_M) : Option (Int32 × fm_M) :=
  f_X7_tell_L7 fm_F (0 : Int32) (fm_put m 23 19 (0 : Int32))
set_option maxRecDepth 100000 in
set_option maxHeartbeats 4000000 in
theorem c_X7_tell_L7 : ∀ (n : Nat) (y1 : Int32) (m : fm_M) (res : Int32 × fm_M), f_X7_tell_L7 n y1 m = some res → fm_Go fm_layW 4 m_X7_tell (fm_pi res.1 res.2) 7 [some (.ref 23), some (.int y1)] [] m := by
  intro n
  induction n with
  | zero => intro y1 m res h; cases h
  | succ n ih =>
    intro y1 m res h
    rw [f_X7_tell_L7] at h
    refine go_iload_n (pc := 7) dX7_tell_7 rfl rfl ?_
    refine go_bipush (pc := 8) (v := (8 : Int32)) dX7_tell_8 (by decide) ?_
    refine go_icmp_ge (pc := 10) (tgt := 34) dX7_tell_10 (by decide) (fun c1 => ?_) (fun c1 => ?_)
    · rw [if_pos c1] at h
      refine go_aload_n (pc := 34) dX7_tell_34 rfl rfl ?_
      refine go_getI (pc := 35) (k := 19) dX7_tell_35 cl_X7 rfl rfl (by decide) lk_X7_244 ?_
      obtain rfl := Option.some.inj h
      exact go_iret (pc := 38) .int dX7_tell_38 rfl rfl ⟨rfl, rfl⟩
    · rw [if_neg c1] at h
      refine go_iload_n (pc := 13) dX7_tell_13 rfl rfl ?_
      refine go_if_le (pc := 14) (tgt := 23) dX7_tell_14 (by decide) (fun c2 => ?_) (fun c2 => ?_)
      · rw [if_pos c2] at h
        refine go_aload_n (pc := 23) dX7_tell_23 rfl rfl ?_
        refine go_iload_n (pc := 24) dX7_tell_24 rfl rfl ?_
        obtain ⟨v3, hv4, h⟩ := fm_bind h
        refine go_callVv (pc := 25) (As := [.int y1]) (st := []) dX7_tell_25 (c_X7_writesCell   _ _ hv4) (by decide) ce_X7_writesCell ml_X7_253 in_X7_writesCell se_X7_writesCell cl_X7 rfl rfl (Nat.le_of_ble_eq_true rfl) rfl ?_
        refine go_iinc (pc := 28) (v := (y1 + (1 : Int32))) (ls1 := [some (.ref 23), some (.int (y1 + (1 : Int32)))]) dX7_tell_28 rfl rfl (Nat.le_of_ble_eq_true rfl) rfl ?_
        refine go_goto (pc := 31) (tgt := 7) dX7_tell_31 (by decide) ?_
        exact ih _ _ _ h
      · rw [if_neg c2] at h
        refine go_aload_n (pc := 17) dX7_tell_17 rfl rfl ?_
        refine go_bipush (pc := 18) (v := (32 : Int32)) dX7_tell_18 (by decide) ?_
        obtain ⟨v5, hv6, h⟩ := fm_bind h
        refine go_callVv (pc := 20) (As := [.int (32 : Int32)]) (st := []) dX7_tell_20 (c_X7_writes   _ _ hv6) (by decide) ce_X7_writes ml_X7_247 in_X7_writes se_X7_writes cl_X7 rfl rfl (Nat.le_of_ble_eq_true rfl) rfl ?_
        refine go_aload_n (pc := 23) dX7_tell_23 rfl rfl ?_
        refine go_iload_n (pc := 24) dX7_tell_24 rfl rfl ?_
        obtain ⟨v7, hv8, h⟩ := fm_bind h
        refine go_callVv (pc := 25) (As := [.int y1]) (st := []) dX7_tell_25 (c_X7_writesCell   _ _ hv8) (by decide) ce_X7_writesCell ml_X7_253 in_X7_writesCell se_X7_writesCell cl_X7 rfl rfl (Nat.le_of_ble_eq_true rfl) rfl ?_
        refine go_iinc (pc := 28) (v := (y1 + (1 : Int32))) (ls1 := [some (.ref 23), some (.int (y1 + (1 : Int32)))]) dX7_tell_28 rfl rfl (Nat.le_of_ble_eq_true rfl) rfl ?_
        refine go_goto (pc := 31) (tgt := 7) dX7_tell_31 (by decide) ?_
        exact ih _ _ _ h
set_option maxRecDepth 100000 in
set_option maxHeartbeats 4000000 in
theorem c_X7_tell (m : fm_M) {res : Int32 × fm_M} (h : f_X7_tell  m = some res) : fm_Met fm_layW 4 m_X7_tell [.ref 23] m (fm_pi res.1 res.2) := by
  refine fm_Met_of (ls := [some (.ref 23), none]) (by decide) rfl (fm_cc_r _ fm_cc_0) (Nat.le_of_ble_eq_true rfl) rfl ?_
  unfold f_X7_tell at h
  refine go_aload_n (pc := 0) dX7_tell_0 rfl rfl ?_
  refine go_iconst (pc := 1) (v := (0 : Int32)) dX7_tell_1 (by decide) ?_
  refine go_put (pc := 2) (k := 19) .int dX7_tell_2 cl_X7 rfl rfl (by decide) lk_X7_244 rfl (by decide +kernel) rfl rfl ?_
  refine go_iconst (pc := 5) (v := (0 : Int32)) dX7_tell_5 (by decide) ?_
  refine go_istore_n (pc := 6) (ls1 := [some (.ref 23), some (.int (0 : Int32))]) dX7_tell_6 rfl (by decide) rfl ?_
  exact c_X7_tell_L7  fm_F _ _ _ h
def f_X7_inLine_L2 : Nat → Int32 → Int32 → fm_M → Option (Int32)
  | 0, _, _, _ => none
  | n + 1, y1, y2, m => if fm_in (2 : Int32) 320 = true then (if (m 24 (2 : Int32).toNatClampNeg) ≤ y2 then (some (-11 : Int32)) else ((f_X7_isSo y2 (0 : Int32) m).bind fun v3 => if v3 = true then ((f_X7_placeInLine y2 m).bind fun v6 => if v6 = y1 then (some y2) else (f_X7_inLine_L2 n y1 (y2 + (1 : Int32)) m)) else (f_X7_inLine_L2 n y1 (y2 + (1 : Int32)) m))) else none
def f_X7_inLine (x1 : Int32) (m : fm_M) : Option (Int32) :=
  f_X7_inLine_L2 fm_F x1 (0 : Int32) m
set_option maxRecDepth 100000 in
set_option maxHeartbeats 4000000 in
theorem c_X7_inLine_L2 : ∀ (n : Nat) (y1 : Int32) (y2 : Int32) (m : fm_M) (res : Int32), f_X7_inLine_L2 n y1 y2 m = some res → fm_Go fm_layW 3 m_X7_inLine (fm_pi res m) 2 [some (.ref 23), some (.int y1), some (.int y2)] [] m := by
  intro n
  induction n with
  | zero => intro y1 y2 m res h; cases h
  | succ n ih =>
    intro y1 y2 m res h
    rw [f_X7_inLine_L2] at h
    refine go_iload_n (pc := 2) dX7_inLine_2 rfl rfl ?_
    refine go_aload_n (pc := 3) dX7_inLine_3 rfl rfl ?_
    refine go_getR (pc := 4) (k := 4) (q2 := 24) dX7_inLine_4 cl_X7 rfl rfl (by decide) lk_X7_7 ?_
    refine go_iconst (pc := 7) (v := (2 : Int32)) dX7_inLine_7 (by decide) ?_
    obtain ⟨hi1, h⟩ := fm_chk h
    refine go_iald (pc := 8) dX7_inLine_8 rfl (fm_in_vp hi1) ?_
    refine go_icmp_ge (pc := 9) (tgt := 38) dX7_inLine_9 (by decide) (fun c2 => ?_) (fun c2 => ?_)
    · rw [if_pos c2] at h
      refine go_bipush (pc := 38) (v := (-11 : Int32)) dX7_inLine_38 (by decide) ?_
      obtain rfl := Option.some.inj h
      exact go_iret (pc := 40) .int dX7_inLine_40 rfl rfl ⟨rfl, rfl⟩
    · rw [if_neg c2] at h
      refine go_aload_n (pc := 12) dX7_inLine_12 rfl rfl ?_
      refine go_iload_n (pc := 13) dX7_inLine_13 rfl rfl ?_
      refine go_iconst (pc := 14) (v := (0 : Int32)) dX7_inLine_14 (by decide) ?_
      obtain ⟨v3, hv4, h⟩ := fm_bind h
      refine go_callVi (pc := 15) (As := [.int y2, .int (0 : Int32)]) (st := []) dX7_inLine_15 (c_X7_isSo   _ _ _ hv4) (by decide) ce_X7_isSo ml_X7_68 in_X7_isSo se_X7_isSo cl_X7 rfl rfl (Nat.le_of_ble_eq_true rfl) rfl ?_
      refine go_ifb_eq (pc := 18) (tgt := 32) dX7_inLine_18 (by decide) (fun c5 => ?_) (fun c5 => ?_)
      · rw [if_neg (by rw [c5]; decide)] at h
        refine go_iinc (pc := 32) (v := (y2 + (1 : Int32))) (ls1 := [some (.ref 23), some (.int y1), some (.int (y2 + (1 : Int32)))]) dX7_inLine_32 rfl rfl (Nat.le_of_ble_eq_true rfl) rfl ?_
        refine go_goto (pc := 35) (tgt := 2) dX7_inLine_35 (by decide) ?_
        exact ih _ _ _ _ h
      · rw [if_pos c5] at h
        refine go_aload_n (pc := 21) dX7_inLine_21 rfl rfl ?_
        refine go_iload_n (pc := 22) dX7_inLine_22 rfl rfl ?_
        obtain ⟨v6, hv7, h⟩ := fm_bind h
        refine go_callVi (pc := 23) (As := [.int y2]) (st := []) dX7_inLine_23 (c_X7_placeInLine   _ _ hv7) (by decide) ce_X7_placeInLine ml_X7_201 in_X7_placeInLine se_X7_placeInLine cl_X7 rfl rfl (Nat.le_of_ble_eq_true rfl) rfl ?_
        refine go_iload_n (pc := 26) dX7_inLine_26 rfl rfl ?_
        refine go_icmp_ne (pc := 27) (tgt := 32) dX7_inLine_27 (by decide) (fun c8 => ?_) (fun c8 => ?_)
        · rw [if_neg c8] at h
          refine go_iinc (pc := 32) (v := (y2 + (1 : Int32))) (ls1 := [some (.ref 23), some (.int y1), some (.int (y2 + (1 : Int32)))]) dX7_inLine_32 rfl rfl (Nat.le_of_ble_eq_true rfl) rfl ?_
          refine go_goto (pc := 35) (tgt := 2) dX7_inLine_35 (by decide) ?_
          exact ih _ _ _ _ h
        · rw [if_pos c8] at h
          refine go_iload_n (pc := 30) dX7_inLine_30 rfl rfl ?_
          obtain rfl := Option.some.inj h
          exact go_iret (pc := 31) .int dX7_inLine_31 rfl rfl ⟨rfl, rfl⟩
set_option maxRecDepth 100000 in
set_option maxHeartbeats 4000000 in
theorem c_X7_inLine (x1 : Int32) (m : fm_M) {res : Int32} (h : f_X7_inLine x1 m = some res) : fm_Met fm_layW 3 m_X7_inLine [.ref 23, .int x1] m (fm_pi res m) := by
  refine fm_Met_of (ls := [some (.ref 23), some (.int x1), none]) (by decide) rfl (fm_cc_r _ (fm_cc_i _ fm_cc_0)) (Nat.le_of_ble_eq_true rfl) rfl ?_
  unfold f_X7_inLine at h
  refine go_iconst (pc := 0) (v := (0 : Int32)) dX7_inLine_0 (by decide) ?_
  refine go_istore_n (pc := 1) (ls1 := [some (.ref 23), some (.int x1), some (.int (0 : Int32))]) dX7_inLine_1 rfl (by decide) rfl ?_
  exact c_X7_inLine_L2  fm_F _ _ _ _ h
def f_X7_tellWaiting_L7 : Nat → Int32 → fm_M → Option (Int32 × fm_M)
  | 0, _, _ => none
  | n + 1, y1, m => (f_X7_brethrenThat (0 : Int32) m).bind fun v1 => if v1 ≤ y1 then (some ((m 23 19), m)) else ((f_X7_inLine y1 m).bind fun v4 => if y1 ≤ 0 then ((f_X7_writesNumber v4 m).bind fun v7 => (f_X7_of v4 (1 : Int32) v7).bind fun v9 => if v9 = (1 : Int32) then ((f_X7_writes (107 : Int32) v7).bind fun v18 => (f_X7_writes (58 : Int32) v18).bind fun v20 => (f_X7_voicesFor v4 v20).bind fun v22 => (f_X7_writesNumber v22 v20).bind fun v24 => f_X7_tellWaiting_L7 n (y1 + (1 : Int32)) v24) else ((f_X7_writes (58 : Int32) v7).bind fun v12 => (f_X7_voicesFor v4 v12).bind fun v14 => (f_X7_writesNumber v14 v12).bind fun v16 => f_X7_tellWaiting_L7 n (y1 + (1 : Int32)) v16)) else ((f_X7_writes (44 : Int32) m).bind fun v26 => (f_X7_writesNumber v4 v26).bind fun v28 => (f_X7_of v4 (1 : Int32) v28).bind fun v30 => if v30 = (1 : Int32) then ((f_X7_writes (107 : Int32) v28).bind fun v39 => (f_X7_writes (58 : Int32) v39).bind fun v41 => (f_X7_voicesFor v4 v41).bind fun v43 => (f_X7_writesNumber v43 v41).bind fun v45 => f_X7_tellWaiting_L7 n (y1 + (1 : Int32)) v45) else ((f_X7_writes (58 : Int32) v28).bind fun v33 => (f_X7_voicesFor v4 v33).bind fun v35 => (f_X7_writesNumber v35 v33).bind fun v37 => f_X7_tellWaiting_L7 n (y1 + (1 : Int32)) v37)))
def f_X7_tellWaiting (m : fm_M) : Option (Int32 × fm_M) :=
  f_X7_tellWaiting_L7 fm_F (0 : Int32) (fm_put m 23 19 (0 : Int32))
set_option maxRecDepth 100000 in
set_option maxHeartbeats 4000000 in
theorem c_X7_tellWaiting_L7 : ∀ (n : Nat) (y1 : Int32) (m : fm_M) (res : Int32 × fm_M), f_X7_tellWaiting_L7 n y1 m = some res → fm_Go fm_layW 4 m_X7_tellWaiting (fm_pi res.1 res.2) 7 [some (.ref 23), some (.int y1), none] [] m := by
  intro n
  induction n with
  | zero => intro y1 m res h; cases h
  | succ n ih =>
    intro y1 m res h
    rw [f_X7_tellWaiting_L7] at h
    refine go_iload_n (pc := 7) dX7_tellWaiting_7 rfl rfl ?_
    refine go_aload_n (pc := 8) dX7_tellWaiting_8 rfl rfl ?_
    refine go_iconst (pc := 9) (v := (0 : Int32)) dX7_tellWaiting_9 (by decide) ?_
    obtain ⟨v1, hv2, h⟩ := fm_bind h
    refine go_callVi (pc := 10) (As := [.int (0 : Int32)]) (st := [.int y1]) dX7_tellWaiting_10 (c_X7_brethrenThat   _ _ hv2) (by decide) ce_X7_brethrenThat ml_X7_104 in_X7_brethrenThat se_X7_brethrenThat cl_X7 rfl rfl (Nat.le_of_ble_eq_true rfl) rfl ?_
    refine go_icmp_ge (pc := 13) (tgt := 74) dX7_tellWaiting_13 (by decide) (fun c3 => ?_) (fun c3 => ?_)
    · rw [if_pos c3] at h
      refine go_aload_n (pc := 74) dX7_tellWaiting_74 rfl rfl ?_
      refine go_getI (pc := 75) (k := 19) dX7_tellWaiting_75 cl_X7 rfl rfl (by decide) lk_X7_244 ?_
      obtain rfl := Option.some.inj h
      exact go_iret (pc := 78) .int dX7_tellWaiting_78 rfl rfl ⟨rfl, rfl⟩
    · rw [if_neg c3] at h
      refine go_aload_n (pc := 16) dX7_tellWaiting_16 rfl rfl ?_
      refine go_iload_n (pc := 17) dX7_tellWaiting_17 rfl rfl ?_
      obtain ⟨v4, hv5, h⟩ := fm_bind h
      refine go_callVi (pc := 18) (As := [.int y1]) (st := []) dX7_tellWaiting_18 (c_X7_inLine   _ _ hv5) (by decide) ce_X7_inLine ml_X7_256 in_X7_inLine se_X7_inLine cl_X7 rfl rfl (Nat.le_of_ble_eq_true rfl) rfl ?_
      refine go_istore_n (pc := 21) (ls1 := [some (.ref 23), some (.int y1), some (.int v4)]) dX7_tellWaiting_21 rfl (by decide) rfl ?_
      refine go_iload_n (pc := 22) dX7_tellWaiting_22 rfl rfl ?_
      refine go_if_le (pc := 23) (tgt := 32) dX7_tellWaiting_23 (by decide) (fun c6 => ?_) (fun c6 => ?_)
      · rw [if_pos c6] at h
        refine go_aload_n (pc := 32) dX7_tellWaiting_32 rfl rfl ?_
        refine go_iload_n (pc := 33) dX7_tellWaiting_33 rfl rfl ?_
        obtain ⟨v7, hv8, h⟩ := fm_bind h
        refine go_callVv (pc := 34) (As := [.int v4]) (st := []) dX7_tellWaiting_34 (c_X7_writesNumber   _ _ hv8) (by decide) ce_X7_writesNumber ml_X7_250 in_X7_writesNumber se_X7_writesNumber cl_X7 rfl rfl (Nat.le_of_ble_eq_true rfl) rfl ?_
        refine go_aload_n (pc := 37) dX7_tellWaiting_37 rfl rfl ?_
        refine go_iload_n (pc := 38) dX7_tellWaiting_38 rfl rfl ?_
        refine go_iconst (pc := 39) (v := (1 : Int32)) dX7_tellWaiting_39 (by decide) ?_
        obtain ⟨v9, hv10, h⟩ := fm_bind h
        refine go_callVi (pc := 40) (As := [.int v4, .int (1 : Int32)]) (st := []) dX7_tellWaiting_40 (c_X7_of   _ _ _ hv10) (by decide) ce_X7_of ml_X7_64 in_X7_of se_X7_of cl_X7 rfl rfl (Nat.le_of_ble_eq_true rfl) rfl ?_
        refine go_iconst (pc := 43) (v := (1 : Int32)) dX7_tellWaiting_43 (by decide) ?_
        refine go_icmp_ne (pc := 44) (tgt := 53) dX7_tellWaiting_44 (by decide) (fun c11 => ?_) (fun c11 => ?_)
        · rw [if_neg c11] at h
          refine go_aload_n (pc := 53) dX7_tellWaiting_53 rfl rfl ?_
          refine go_bipush (pc := 54) (v := (58 : Int32)) dX7_tellWaiting_54 (by decide) ?_
          obtain ⟨v12, hv13, h⟩ := fm_bind h
          refine go_callVv (pc := 56) (As := [.int (58 : Int32)]) (st := []) dX7_tellWaiting_56 (c_X7_writes   _ _ hv13) (by decide) ce_X7_writes ml_X7_247 in_X7_writes se_X7_writes cl_X7 rfl rfl (Nat.le_of_ble_eq_true rfl) rfl ?_
          refine go_aload_n (pc := 59) dX7_tellWaiting_59 rfl rfl ?_
          refine go_aload_n (pc := 60) dX7_tellWaiting_60 rfl rfl ?_
          refine go_iload_n (pc := 61) dX7_tellWaiting_61 rfl rfl ?_
          obtain ⟨v14, hv15, h⟩ := fm_bind h
          refine go_callVi (pc := 62) (As := [.int v4]) (st := [.ref 23]) dX7_tellWaiting_62 (c_X7_voicesFor   _ _ hv15) (by decide) ce_X7_voicesFor ml_X7_107 in_X7_voicesFor se_X7_voicesFor cl_X7 rfl rfl (Nat.le_of_ble_eq_true rfl) rfl ?_
          obtain ⟨v16, hv17, h⟩ := fm_bind h
          refine go_callVv (pc := 65) (As := [.int v14]) (st := []) dX7_tellWaiting_65 (c_X7_writesNumber   _ _ hv17) (by decide) ce_X7_writesNumber ml_X7_250 in_X7_writesNumber se_X7_writesNumber cl_X7 rfl rfl (Nat.le_of_ble_eq_true rfl) rfl ?_
          refine go_iinc (pc := 68) (v := (y1 + (1 : Int32))) (ls1 := [some (.ref 23), some (.int (y1 + (1 : Int32))), some (.int v4)]) dX7_tellWaiting_68 rfl rfl (Nat.le_of_ble_eq_true rfl) rfl ?_
          refine go_goto (pc := 71) (tgt := 7) dX7_tellWaiting_71 (by decide) ?_
          refine go_drop 2 (ls1 := [some (.ref 23), some (.int (y1 + (1 : Int32))), none]) rfl ?_
          exact ih _ _ _ h
        · rw [if_pos c11] at h
          refine go_aload_n (pc := 47) dX7_tellWaiting_47 rfl rfl ?_
          refine go_bipush (pc := 48) (v := (107 : Int32)) dX7_tellWaiting_48 (by decide) ?_
          obtain ⟨v18, hv19, h⟩ := fm_bind h
          refine go_callVv (pc := 50) (As := [.int (107 : Int32)]) (st := []) dX7_tellWaiting_50 (c_X7_writes   _ _ hv19) (by decide) ce_X7_writes ml_X7_247 in_X7_writes se_X7_writes cl_X7 rfl rfl (Nat.le_of_ble_eq_true rfl) rfl ?_
          refine go_aload_n (pc := 53) dX7_tellWaiting_53 rfl rfl ?_
          refine go_bipush (pc := 54) (v := (58 : Int32)) dX7_tellWaiting_54 (by decide) ?_
          obtain ⟨v20, hv21, h⟩ := fm_bind h
          refine go_callVv (pc := 56) (As := [.int (58 : Int32)]) (st := []) dX7_tellWaiting_56 (c_X7_writes   _ _ hv21) (by decide) ce_X7_writes ml_X7_247 in_X7_writes se_X7_writes cl_X7 rfl rfl (Nat.le_of_ble_eq_true rfl) rfl ?_
          refine go_aload_n (pc := 59) dX7_tellWaiting_59 rfl rfl ?_
          refine go_aload_n (pc := 60) dX7_tellWaiting_60 rfl rfl ?_
          refine go_iload_n (pc := 61) dX7_tellWaiting_61 rfl rfl ?_
          obtain ⟨v22, hv23, h⟩ := fm_bind h
          refine go_callVi (pc := 62) (As := [.int v4]) (st := [.ref 23]) dX7_tellWaiting_62 (c_X7_voicesFor   _ _ hv23) (by decide) ce_X7_voicesFor ml_X7_107 in_X7_voicesFor se_X7_voicesFor cl_X7 rfl rfl (Nat.le_of_ble_eq_true rfl) rfl ?_
          obtain ⟨v24, hv25, h⟩ := fm_bind h
          refine go_callVv (pc := 65) (As := [.int v22]) (st := []) dX7_tellWaiting_65 (c_X7_writesNumber   _ _ hv25) (by decide) ce_X7_writesNumber ml_X7_250 in_X7_writesNumber se_X7_writesNumber cl_X7 rfl rfl (Nat.le_of_ble_eq_true rfl) rfl ?_
          refine go_iinc (pc := 68) (v := (y1 + (1 : Int32))) (ls1 := [some (.ref 23), some (.int (y1 + (1 : Int32))), some (.int v4)]) dX7_tellWaiting_68 rfl rfl (Nat.le_of_ble_eq_true rfl) rfl ?_
          refine go_goto (pc := 71) (tgt := 7) dX7_tellWaiting_71 (by decide) ?_
          refine go_drop 2 (ls1 := [some (.ref 23), some (.int (y1 + (1 : Int32))), none]) rfl ?_
          exact ih _ _ _ h
      · rw [if_neg c6] at h
        refine go_aload_n (pc := 26) dX7_tellWaiting_26 rfl rfl ?_
        refine go_bipush (pc := 27) (v := (44 : Int32)) dX7_tellWaiting_27 (by decide) ?_
        obtain ⟨v26, hv27, h⟩ := fm_bind h
        refine go_callVv (pc := 29) (As := [.int (44 : Int32)]) (st := []) dX7_tellWaiting_29 (c_X7_writes   _ _ hv27) (by decide) ce_X7_writes ml_X7_247 in_X7_writes se_X7_writes cl_X7 rfl rfl (Nat.le_of_ble_eq_true rfl) rfl ?_
        refine go_aload_n (pc := 32) dX7_tellWaiting_32 rfl rfl ?_
        refine go_iload_n (pc := 33) dX7_tellWaiting_33 rfl rfl ?_
        obtain ⟨v28, hv29, h⟩ := fm_bind h
        refine go_callVv (pc := 34) (As := [.int v4]) (st := []) dX7_tellWaiting_34 (c_X7_writesNumber   _ _ hv29) (by decide) ce_X7_writesNumber ml_X7_250 in_X7_writesNumber se_X7_writesNumber cl_X7 rfl rfl (Nat.le_of_ble_eq_true rfl) rfl ?_
        refine go_aload_n (pc := 37) dX7_tellWaiting_37 rfl rfl ?_
        refine go_iload_n (pc := 38) dX7_tellWaiting_38 rfl rfl ?_
        refine go_iconst (pc := 39) (v := (1 : Int32)) dX7_tellWaiting_39 (by decide) ?_
        obtain ⟨v30, hv31, h⟩ := fm_bind h
        refine go_callVi (pc := 40) (As := [.int v4, .int (1 : Int32)]) (st := []) dX7_tellWaiting_40 (c_X7_of   _ _ _ hv31) (by decide) ce_X7_of ml_X7_64 in_X7_of se_X7_of cl_X7 rfl rfl (Nat.le_of_ble_eq_true rfl) rfl ?_
        refine go_iconst (pc := 43) (v := (1 : Int32)) dX7_tellWaiting_43 (by decide) ?_
        refine go_icmp_ne (pc := 44) (tgt := 53) dX7_tellWaiting_44 (by decide) (fun c32 => ?_) (fun c32 => ?_)
        · rw [if_neg c32] at h
          refine go_aload_n (pc := 53) dX7_tellWaiting_53 rfl rfl ?_
          refine go_bipush (pc := 54) (v := (58 : Int32)) dX7_tellWaiting_54 (by decide) ?_
          obtain ⟨v33, hv34, h⟩ := fm_bind h
          refine go_callVv (pc := 56) (As := [.int (58 : Int32)]) (st := []) dX7_tellWaiting_56 (c_X7_writes   _ _ hv34) (by decide) ce_X7_writes ml_X7_247 in_X7_writes se_X7_writes cl_X7 rfl rfl (Nat.le_of_ble_eq_true rfl) rfl ?_
          refine go_aload_n (pc := 59) dX7_tellWaiting_59 rfl rfl ?_
          refine go_aload_n (pc := 60) dX7_tellWaiting_60 rfl rfl ?_
          refine go_iload_n (pc := 61) dX7_tellWaiting_61 rfl rfl ?_
          obtain ⟨v35, hv36, h⟩ := fm_bind h
          refine go_callVi (pc := 62) (As := [.int v4]) (st := [.ref 23]) dX7_tellWaiting_62 (c_X7_voicesFor   _ _ hv36) (by decide) ce_X7_voicesFor ml_X7_107 in_X7_voicesFor se_X7_voicesFor cl_X7 rfl rfl (Nat.le_of_ble_eq_true rfl) rfl ?_
          obtain ⟨v37, hv38, h⟩ := fm_bind h
          refine go_callVv (pc := 65) (As := [.int v35]) (st := []) dX7_tellWaiting_65 (c_X7_writesNumber   _ _ hv38) (by decide) ce_X7_writesNumber ml_X7_250 in_X7_writesNumber se_X7_writesNumber cl_X7 rfl rfl (Nat.le_of_ble_eq_true rfl) rfl ?_
          refine go_iinc (pc := 68) (v := (y1 + (1 : Int32))) (ls1 := [some (.ref 23), some (.int (y1 + (1 : Int32))), some (.int v4)]) dX7_tellWaiting_68 rfl rfl (Nat.le_of_ble_eq_true rfl) rfl ?_
          refine go_goto (pc := 71) (tgt := 7) dX7_tellWaiting_71 (by decide) ?_
          refine go_drop 2 (ls1 := [some (.ref 23), some (.int (y1 + (1 : Int32))), none]) rfl ?_
          exact ih _ _ _ h
        · rw [if_pos c32] at h
          refine go_aload_n (pc := 47) dX7_tellWaiting_47 rfl rfl ?_
          refine go_bipush (pc := 48) (v := (107 : Int32)) dX7_tellWaiting_48 (by decide) ?_
          obtain ⟨v39, hv40, h⟩ := fm_bind h
          refine go_callVv (pc := 50) (As := [.int (107 : Int32)]) (st := []) dX7_tellWaiting_50 (c_X7_writes   _ _ hv40) (by decide) ce_X7_writes ml_X7_247 in_X7_writes se_X7_writes cl_X7 rfl rfl (Nat.le_of_ble_eq_true rfl) rfl ?_
          refine go_aload_n (pc := 53) dX7_tellWaiting_53 rfl rfl ?_
          refine go_bipush (pc := 54) (v := (58 : Int32)) dX7_tellWaiting_54 (by decide) ?_
          obtain ⟨v41, hv42, h⟩ := fm_bind h
          refine go_callVv (pc := 56) (As := [.int (58 : Int32)]) (st := []) dX7_tellWaiting_56 (c_X7_writes   _ _ hv42) (by decide) ce_X7_writes ml_X7_247 in_X7_writes se_X7_writes cl_X7 rfl rfl (Nat.le_of_ble_eq_true rfl) rfl ?_
          refine go_aload_n (pc := 59) dX7_tellWaiting_59 rfl rfl ?_
          refine go_aload_n (pc := 60) dX7_tellWaiting_60 rfl rfl ?_
          refine go_iload_n (pc := 61) dX7_tellWaiting_61 rfl rfl ?_
          obtain ⟨v43, hv44, h⟩ := fm_bind h
          refine go_callVi (pc := 62) (As := [.int v4]) (st := [.ref 23]) dX7_tellWaiting_62 (c_X7_voicesFor   _ _ hv44) (by decide) ce_X7_voicesFor ml_X7_107 in_X7_voicesFor se_X7_voicesFor cl_X7 rfl rfl (Nat.le_of_ble_eq_true rfl) rfl ?_
          obtain ⟨v45, hv46, h⟩ := fm_bind h
          refine go_callVv (pc := 65) (As := [.int v43]) (st := []) dX7_tellWaiting_65 (c_X7_writesNumber   _ _ hv46) (by decide) ce_X7_writesNumber ml_X7_250 in_X7_writesNumber se_X7_writesNumber cl_X7 rfl rfl (Nat.le_of_ble_eq_true rfl) rfl ?_
          refine go_iinc (pc := 68) (v := (y1 + (1 : Int32))) (ls1 := [some (.ref 23), some (.int (y1 + (1 : Int32))), some (.int v4)]) dX7_tellWaiting_68 rfl rfl (Nat.le_of_ble_eq_true rfl) rfl ?_
          refine go_goto (pc := 71) (tgt := 7) dX7_tellWaiting_71 (by decide) ?_
          refine go_drop 2 (ls1 := [some (.ref 23), some (.int (y1 + (1 : Int32))), none]) rfl ?_
          exact ih _ _ _ h
set_option maxRecDepth 100000 in
set_option maxHeartbeats 4000000 in
theorem c_X7_tellWaiting (m : fm_M) {res : Int32 × fm_M} (h : f_X7_tellWaiting  m = some res) : fm_Met fm_layW 4 m_X7_tellWaiting [.ref 23] m (fm_pi res.1 res.2) := by
  refine fm_Met_of (ls := [some (.ref 23), none, none]) (by decide) rfl (fm_cc_r _ fm_cc_0) (Nat.le_of_ble_eq_true rfl) rfl ?_
  unfold f_X7_tellWaiting at h
  refine go_aload_n (pc := 0) dX7_tellWaiting_0 rfl rfl ?_
  refine go_iconst (pc := 1) (v := (0 : Int32)) dX7_tellWaiting_1 (by decide) ?_
  refine go_put (pc := 2) (k := 19) .int dX7_tellWaiting_2 cl_X7 rfl rfl (by decide) lk_X7_244 rfl (by decide +kernel) rfl rfl ?_
  refine go_iconst (pc := 5) (v := (0 : Int32)) dX7_tellWaiting_5 (by decide) ?_
  refine go_istore_n (pc := 6) (ls1 := [some (.ref 23), some (.int (0 : Int32)), none]) dX7_tellWaiting_6 rfl (by decide) rfl ?_
  exact c_X7_tellWaiting_L7  fm_F _ _ _ h
def f_X7_character (x1 : Int32) (m : fm_M) : Option (Int32) :=
  (f_X7_isBetween x1 (0 : Int32) ((m 23 19) - (1 : Int32)) m).bind fun v1 => if v1 = true then (if fm_in x1 160 = true then (some (m 31 x1.toNatClampNeg)) else none) else (some (-11 : Int32))
set_option maxRecDepth 100000 in
set_option maxHeartbeats 4000000 in
theorem c_X7_character (x1 : Int32) (m : fm_M) {res : Int32} (h : f_X7_character x1 m = some res) : fm_Met fm_layW 1 m_X7_character [.ref 23, .int x1] m (fm_pi res m) := by
  refine fm_Met_of (ls := [some (.ref 23), some (.int x1)]) (by decide) rfl (fm_cc_r _ (fm_cc_i _ fm_cc_0)) (Nat.le_of_ble_eq_true rfl) rfl ?_
  unfold f_X7_character at h
  refine go_iload_n (pc := 0) dX7_character_0 rfl rfl ?_
  refine go_iconst (pc := 1) (v := (0 : Int32)) dX7_character_1 (by decide) ?_
  refine go_aload_n (pc := 2) dX7_character_2 rfl rfl ?_
  refine go_getI (pc := 3) (k := 19) dX7_character_3 cl_X7 rfl rfl (by decide) lk_X7_244 ?_
  refine go_iconst (pc := 6) (v := (1 : Int32)) dX7_character_6 (by decide) ?_
  refine go_isub (pc := 7) dX7_character_7 ?_
  obtain ⟨v1, hv2, h⟩ := fm_bind h
  refine go_callSi (pc := 8) (As := [.int x1, .int (0 : Int32), .int ((m 23 19) - (1 : Int32))]) (st := []) dX7_character_8 (c_X7_isBetween   _ _ _ _ hv2) (by decide) ce_X7_isBetween ml_X7_60 st_X7_isBetween rfl (Nat.le_of_ble_eq_true rfl) rfl ?_
  refine go_ifb_eq (pc := 11) (tgt := 23) dX7_character_11 (by decide) (fun c3 => ?_) (fun c3 => ?_)
  · rw [if_neg (by rw [c3]; decide)] at h
    refine go_bipush (pc := 23) (v := (-11 : Int32)) dX7_character_23 (by decide) ?_
    obtain rfl := Option.some.inj h
    exact go_iret (pc := 25) .int dX7_character_25 rfl rfl ⟨rfl, rfl⟩
  · rw [if_pos c3] at h
    refine go_aload_n (pc := 14) dX7_character_14 rfl rfl ?_
    refine go_getR (pc := 15) (k := 18) (q2 := 31) dX7_character_15 cl_X7 rfl rfl (by decide) lk_X7_32 ?_
    refine go_iload_n (pc := 18) dX7_character_18 rfl rfl ?_
    obtain ⟨hi4, h⟩ := fm_chk h
    refine go_cald (pc := 19) dX7_character_19 rfl (fm_in_vp hi4) ?_
    refine go_goto (pc := 20) (tgt := 25) dX7_character_20 (by decide) ?_
    obtain rfl := Option.some.inj h
    exact go_iret (pc := 25) .int dX7_character_25 rfl rfl ⟨rfl, rfl⟩
def f_X7_banned_L4 : Nat → Int32 → Int32 → fm_M → Option (Int32)
  | 0, _, _, _ => none
  | n + 1, y1, y2, m => if fm_in (2 : Int32) 320 = true then (if (m 24 (2 : Int32).toNatClampNeg) ≤ y2 then (some y1) else ((f_X7_of y2 (5 : Int32) m).bind fun v3 => if v3 ≤ 0 then (f_X7_banned_L4 n (y1 + (0 : Int32)) (y2 + (1 : Int32)) m) else (f_X7_banned_L4 n (y1 + (1 : Int32)) (y2 + (1 : Int32)) m))) else none
def f_X7_banned (m : fm_M) : Option (Int32) :=
  f_X7_banned_L4 fm_F (0 : Int32) (0 : Int32) m
set_option maxRecDepth 100000 in
set_option maxHeartbeats 4000000 in
theorem c_X7_banned_L4 : ∀ (n : Nat) (y1 : Int32) (y2 : Int32) (m : fm_M) (res : Int32), f_X7_banned_L4 n y1 y2 m = some res → fm_Go fm_layW 1 m_X7_banned (fm_pi res m) 4 [some (.ref 23), some (.int y1), some (.int y2)] [] m := by
  intro n
  induction n with
  | zero => intro y1 y2 m res h; cases h
  | succ n ih =>
    intro y1 y2 m res h
    rw [f_X7_banned_L4] at h
    refine go_iload_n (pc := 4) dX7_banned_4 rfl rfl ?_
    refine go_aload_n (pc := 5) dX7_banned_5 rfl rfl ?_
    refine go_getR (pc := 6) (k := 4) (q2 := 24) dX7_banned_6 cl_X7 rfl rfl (by decide) lk_X7_7 ?_
    refine go_iconst (pc := 9) (v := (2 : Int32)) dX7_banned_9 (by decide) ?_
    obtain ⟨hi1, h⟩ := fm_chk h
    refine go_iald (pc := 10) dX7_banned_10 rfl (fm_in_vp hi1) ?_
    refine go_icmp_ge (pc := 11) (tgt := 37) dX7_banned_11 (by decide) (fun c2 => ?_) (fun c2 => ?_)
    · rw [if_pos c2] at h
      refine go_iload_n (pc := 37) dX7_banned_37 rfl rfl ?_
      obtain rfl := Option.some.inj h
      exact go_iret (pc := 38) .int dX7_banned_38 rfl rfl ⟨rfl, rfl⟩
    · rw [if_neg c2] at h
      refine go_iload_n (pc := 14) dX7_banned_14 rfl rfl ?_
      refine go_aload_n (pc := 15) dX7_banned_15 rfl rfl ?_
      refine go_iload_n (pc := 16) dX7_banned_16 rfl rfl ?_
      refine go_iconst (pc := 17) (v := (5 : Int32)) dX7_banned_17 (by decide) ?_
      obtain ⟨v3, hv4, h⟩ := fm_bind h
      refine go_callVi (pc := 18) (As := [.int y2, .int (5 : Int32)]) (st := [.int y1]) dX7_banned_18 (c_X7_of   _ _ _ hv4) (by decide) ce_X7_of ml_X7_64 in_X7_of se_X7_of cl_X7 rfl rfl (Nat.le_of_ble_eq_true rfl) rfl ?_
      refine go_if_le (pc := 21) (tgt := 28) dX7_banned_21 (by decide) (fun c5 => ?_) (fun c5 => ?_)
      · rw [if_pos c5] at h
        refine go_iconst (pc := 28) (v := (0 : Int32)) dX7_banned_28 (by decide) ?_
        refine go_iadd (pc := 29) dX7_banned_29 ?_
        refine go_istore_n (pc := 30) (ls1 := [some (.ref 23), some (.int (y1 + (0 : Int32))), some (.int y2)]) dX7_banned_30 rfl (by decide) rfl ?_
        refine go_iinc (pc := 31) (v := (y2 + (1 : Int32))) (ls1 := [some (.ref 23), some (.int (y1 + (0 : Int32))), some (.int (y2 + (1 : Int32)))]) dX7_banned_31 rfl rfl (Nat.le_of_ble_eq_true rfl) rfl ?_
        refine go_goto (pc := 34) (tgt := 4) dX7_banned_34 (by decide) ?_
        exact ih _ _ _ _ h
      · rw [if_neg c5] at h
        refine go_iconst (pc := 24) (v := (1 : Int32)) dX7_banned_24 (by decide) ?_
        refine go_goto (pc := 25) (tgt := 29) dX7_banned_25 (by decide) ?_
        refine go_iadd (pc := 29) dX7_banned_29 ?_
        refine go_istore_n (pc := 30) (ls1 := [some (.ref 23), some (.int (y1 + (1 : Int32))), some (.int y2)]) dX7_banned_30 rfl (by decide) rfl ?_
        refine go_iinc (pc := 31) (v := (y2 + (1 : Int32))) (ls1 := [some (.ref 23), some (.int (y1 + (1 : Int32))), some (.int (y2 + (1 : Int32)))]) dX7_banned_31 rfl rfl (Nat.le_of_ble_eq_true rfl) rfl ?_
        refine go_goto (pc := 34) (tgt := 4) dX7_banned_34 (by decide) ?_
        exact ih _ _ _ _ h
set_option maxRecDepth 100000 in
set_option maxHeartbeats 4000000 in
theorem c_X7_banned (m : fm_M) {res : Int32} (h : f_X7_banned  m = some res) : fm_Met fm_layW 1 m_X7_banned [.ref 23] m (fm_pi res m) := by
  refine fm_Met_of (ls := [some (.ref 23), none, none]) (by decide) rfl (fm_cc_r _ fm_cc_0) (Nat.le_of_ble_eq_true rfl) rfl ?_
  unfold f_X7_banned at h
  refine go_iconst (pc := 0) (v := (0 : Int32)) dX7_banned_0 (by decide) ?_
  refine go_istore_n (pc := 1) (ls1 := [some (.ref 23), some (.int (0 : Int32)), none]) dX7_banned_1 rfl (by decide) rfl ?_
  refine go_iconst (pc := 2) (v := (0 : Int32)) dX7_banned_2 (by decide) ?_
  refine go_istore_n (pc := 3) (ls1 := [some (.ref 23), some (.int (0 : Int32)), some (.int (0 : Int32))]) dX7_banned_3 rfl (by decide) rfl ?_
  exact c_X7_banned_L4  fm_F _ _ _ _ h
def f_X7_gotAll_L4 : Nat → Int32 → Int32 → fm_M → Option (Int32)
  | 0, _, _, _ => none
  | n + 1, y1, y2, m => if fm_in (2 : Int32) 320 = true then (if (m 24 (2 : Int32).toNatClampNeg) ≤ y2 then (some y1) else ((f_X7_of y2 (6 : Int32) m).bind fun v3 => f_X7_gotAll_L4 n (y1 + v3) (y2 + (1 : Int32)) m)) else none
def f_X7_gotAll (m : fm_M) : Option (Int32) :=
  f_X7_gotAll_L4 fm_F (0 : Int32) (0 : Int32) m
set_option maxRecDepth 100000 in
set_option maxHeartbeats 4000000 in
theorem c_X7_gotAll_L4 : ∀ (n : Nat) (y1 : Int32) (y2 : Int32) (m : fm_M) (res : Int32), f_X7_gotAll_L4 n y1 y2 m = some res → fm_Go fm_layW 1 m_X7_gotAll (fm_pi res m) 4 [some (.ref 23), some (.int y1), some (.int y2)] [] m := by
  intro n
  induction n with
  | zero => intro y1 y2 m res h; cases h
  | succ n ih =>
    intro y1 y2 m res h
    rw [f_X7_gotAll_L4] at h
    refine go_iload_n (pc := 4) dX7_gotAll_4 rfl rfl ?_
    refine go_aload_n (pc := 5) dX7_gotAll_5 rfl rfl ?_
    refine go_getR (pc := 6) (k := 4) (q2 := 24) dX7_gotAll_6 cl_X7 rfl rfl (by decide) lk_X7_7 ?_
    refine go_iconst (pc := 9) (v := (2 : Int32)) dX7_gotAll_9 (by decide) ?_
    obtain ⟨hi1, h⟩ := fm_chk h
    refine go_iald (pc := 10) dX7_gotAll_10 rfl (fm_in_vp hi1) ?_
    refine go_icmp_ge (pc := 11) (tgt := 30) dX7_gotAll_11 (by decide) (fun c2 => ?_) (fun c2 => ?_)
    · rw [if_pos c2] at h
      refine go_iload_n (pc := 30) dX7_gotAll_30 rfl rfl ?_
      obtain rfl := Option.some.inj h
      exact go_iret (pc := 31) .int dX7_gotAll_31 rfl rfl ⟨rfl, rfl⟩
    · rw [if_neg c2] at h
      refine go_iload_n (pc := 14) dX7_gotAll_14 rfl rfl ?_
      refine go_aload_n (pc := 15) dX7_gotAll_15 rfl rfl ?_
      refine go_iload_n (pc := 16) dX7_gotAll_16 rfl rfl ?_
      refine go_bipush (pc := 17) (v := (6 : Int32)) dX7_gotAll_17 (by decide) ?_
      obtain ⟨v3, hv4, h⟩ := fm_bind h
      refine go_callVi (pc := 19) (As := [.int y2, .int (6 : Int32)]) (st := [.int y1]) dX7_gotAll_19 (c_X7_of   _ _ _ hv4) (by decide) ce_X7_of ml_X7_64 in_X7_of se_X7_of cl_X7 rfl rfl (Nat.le_of_ble_eq_true rfl) rfl ?_
      refine go_iadd (pc := 22) dX7_gotAll_22 ?_
      refine go_istore_n (pc := 23) (ls1 := [some (.ref 23), some (.int (y1 + v3)), some (.int y2)]) dX7_gotAll_23 rfl (by decide) rfl ?_
      refine go_iinc (pc := 24) (v := (y2 + (1 : Int32))) (ls1 := [some (.ref 23), some (.int (y1 + v3)), some (.int (y2 + (1 : Int32)))]) dX7_gotAll_24 rfl rfl (Nat.le_of_ble_eq_true rfl) rfl ?_
      refine go_goto (pc := 27) (tgt := 4) dX7_gotAll_27 (by decide) ?_
      exact ih _ _ _ _ h
set_option maxRecDepth 100000 in
set_option maxHeartbeats 4000000 in
theorem c_X7_gotAll (m : fm_M) {res : Int32} (h : f_X7_gotAll  m = some res) : fm_Met fm_layW 1 m_X7_gotAll [.ref 23] m (fm_pi res m) := by
  refine fm_Met_of (ls := [some (.ref 23), none, none]) (by decide) rfl (fm_cc_r _ fm_cc_0) (Nat.le_of_ble_eq_true rfl) rfl ?_
  unfold f_X7_gotAll at h
  refine go_iconst (pc := 0) (v := (0 : Int32)) dX7_gotAll_0 (by decide) ?_
  refine go_istore_n (pc := 1) (ls1 := [some (.ref 23), some (.int (0 : Int32)), none]) dX7_gotAll_1 rfl (by decide) rfl ?_
  refine go_iconst (pc := 2) (v := (0 : Int32)) dX7_gotAll_2 (by decide) ?_
  refine go_istore_n (pc := 3) (ls1 := [some (.ref 23), some (.int (0 : Int32)), some (.int (0 : Int32))]) dX7_gotAll_3 rfl (by decide) rfl ?_
  exact c_X7_gotAll_L4  fm_F _ _ _ _ h
def f_X7_account (x1 : Int32) (m : fm_M) : Option (Int32) :=
  if x1 = (0 : Int32) then (if fm_in x1 320 = true then (some (m 24 x1.toNatClampNeg)) else none) else (if x1 = (1 : Int32) then (if fm_in x1 320 = true then (some (m 24 x1.toNatClampNeg)) else none) else (if x1 = (2 : Int32) then (if fm_in x1 320 = true then (some (m 24 x1.toNatClampNeg)) else none) else (if x1 = (3 : Int32) then ((f_X7_brethrenThat (x1 - (3 : Int32)) m).bind fun v8 => some v8) else (if x1 = (4 : Int32) then ((f_X7_brethrenThat (x1 - (3 : Int32)) m).bind fun v11 => some v11) else (if x1 = (5 : Int32) then ((f_X7_brethrenThat (x1 - (3 : Int32)) m).bind fun v14 => some v14) else (if x1 = (6 : Int32) then ((f_X7_brethrenThat (x1 - (3 : Int32)) m).bind fun v17 => some v17) else (if x1 = (7 : Int32) then ((f_X7_banned m).bind fun v20 => some v20) else (if x1 = (8 : Int32) then (if fm_in (9 : Int32) 320 = true then (some (m 24 (9 : Int32).toNatClampNeg)) else none) else (if x1 = (9 : Int32) then (if fm_in (x1 - (6 : Int32)) 320 = true then (some (m 24 (x1 - (6 : Int32)).toNatClampNeg)) else none) else (if x1 = (10 : Int32) then (if fm_in (x1 - (6 : Int32)) 320 = true then (some (m 24 (x1 - (6 : Int32)).toNatClampNeg)) else none) else (if x1 = (11 : Int32) then (if fm_in (x1 - (6 : Int32)) 320 = true then (some (m 24 (x1 - (6 : Int32)).toNatClampNeg)) else none) else (if x1 = (12 : Int32) then (if fm_in (x1 - (6 : Int32)) 320 = true then (some (m 24 (x1 - (6 : Int32)).toNatClampNeg)) else none) else (if x1 = (13 : Int32) then (if fm_in (x1 - (6 : Int32)) 320 = true then (some (m 24 (x1 - (6 : Int32)).toNatClampNeg)) else none) else (if x1 = (14 : Int32) then (if fm_in (x1 - (6 : Int32)) 320 = true then (some (m 24 (x1 - (6 : Int32)).toNatClampNeg)) else none) else (if x1 = (15 : Int32) then (some (m 23 13)) else (if x1 = (16 : Int32) then (some (m 23 8)) else (some (-12 : Int32))))))))))))))))))
set_option maxRecDepth 100000 in
set_option maxHeartbeats 4000000 in
theorem c_X7_account (x1 : Int32) (m : fm_M) {res : Int32} (h : f_X7_account x1 m = some res) : fm_Met fm_layW 3 m_X7_account [.ref 23, .int x1] m (fm_pi res m) := by
  refine fm_Met_of (ls := [some (.ref 23), some (.int x1)]) (by decide) rfl (fm_cc_r _ (fm_cc_i _ fm_cc_0)) (Nat.le_of_ble_eq_true rfl) rfl ?_
  unfold f_X7_account at h
  refine go_iload_n (pc := 0) dX7_account_0 rfl rfl ?_
  by_cases c1 : x1 = (0 : Int32)
  · rw [if_pos c1] at h
    refine go_tswHit (pc := 1) (tgt := 84) dX7_account_1 c1 (by decide) (by decide) rfl (by decide) ?_
    refine go_aload_n (pc := 84) dX7_account_84 rfl rfl ?_
    refine go_getR (pc := 85) (k := 4) (q2 := 24) dX7_account_85 cl_X7 rfl rfl (by decide) lk_X7_7 ?_
    refine go_iload_n (pc := 88) dX7_account_88 rfl rfl ?_
    obtain ⟨hi2, h⟩ := fm_chk h
    refine go_iald (pc := 89) dX7_account_89 rfl (fm_in_vp hi2) ?_
    obtain rfl := Option.some.inj h
    exact go_iret (pc := 90) .int dX7_account_90 rfl rfl ⟨rfl, rfl⟩
  rw [if_neg c1] at h
  by_cases c3 : x1 = (1 : Int32)
  · rw [if_pos c3] at h
    refine go_tswHit (pc := 1) (tgt := 84) dX7_account_1 c3 (by decide) (by decide) rfl (by decide) ?_
    refine go_aload_n (pc := 84) dX7_account_84 rfl rfl ?_
    refine go_getR (pc := 85) (k := 4) (q2 := 24) dX7_account_85 cl_X7 rfl rfl (by decide) lk_X7_7 ?_
    refine go_iload_n (pc := 88) dX7_account_88 rfl rfl ?_
    obtain ⟨hi4, h⟩ := fm_chk h
    refine go_iald (pc := 89) dX7_account_89 rfl (fm_in_vp hi4) ?_
    obtain rfl := Option.some.inj h
    exact go_iret (pc := 90) .int dX7_account_90 rfl rfl ⟨rfl, rfl⟩
  rw [if_neg c3] at h
  by_cases c5 : x1 = (2 : Int32)
  · rw [if_pos c5] at h
    refine go_tswHit (pc := 1) (tgt := 84) dX7_account_1 c5 (by decide) (by decide) rfl (by decide) ?_
    refine go_aload_n (pc := 84) dX7_account_84 rfl rfl ?_
    refine go_getR (pc := 85) (k := 4) (q2 := 24) dX7_account_85 cl_X7 rfl rfl (by decide) lk_X7_7 ?_
    refine go_iload_n (pc := 88) dX7_account_88 rfl rfl ?_
    obtain ⟨hi6, h⟩ := fm_chk h
    refine go_iald (pc := 89) dX7_account_89 rfl (fm_in_vp hi6) ?_
    obtain rfl := Option.some.inj h
    exact go_iret (pc := 90) .int dX7_account_90 rfl rfl ⟨rfl, rfl⟩
  rw [if_neg c5] at h
  by_cases c7 : x1 = (3 : Int32)
  · rw [if_pos c7] at h
    refine go_tswHit (pc := 1) (tgt := 91) dX7_account_1 c7 (by decide) (by decide) rfl (by decide) ?_
    refine go_aload_n (pc := 91) dX7_account_91 rfl rfl ?_
    refine go_iload_n (pc := 92) dX7_account_92 rfl rfl ?_
    refine go_iconst (pc := 93) (v := (3 : Int32)) dX7_account_93 (by decide) ?_
    refine go_isub (pc := 94) dX7_account_94 ?_
    obtain ⟨v8, hv9, h⟩ := fm_bind h
    refine go_callVi (pc := 95) (As := [.int (x1 - (3 : Int32))]) (st := []) dX7_account_95 (c_X7_brethrenThat   _ _ hv9) (by decide) ce_X7_brethrenThat ml_X7_104 in_X7_brethrenThat se_X7_brethrenThat cl_X7 rfl rfl (Nat.le_of_ble_eq_true rfl) rfl ?_
    obtain rfl := Option.some.inj h
    exact go_iret (pc := 98) .int dX7_account_98 rfl rfl ⟨rfl, rfl⟩
  rw [if_neg c7] at h
  by_cases c10 : x1 = (4 : Int32)
  · rw [if_pos c10] at h
    refine go_tswHit (pc := 1) (tgt := 91) dX7_account_1 c10 (by decide) (by decide) rfl (by decide) ?_
    refine go_aload_n (pc := 91) dX7_account_91 rfl rfl ?_
    refine go_iload_n (pc := 92) dX7_account_92 rfl rfl ?_
    refine go_iconst (pc := 93) (v := (3 : Int32)) dX7_account_93 (by decide) ?_
    refine go_isub (pc := 94) dX7_account_94 ?_
    obtain ⟨v11, hv12, h⟩ := fm_bind h
    refine go_callVi (pc := 95) (As := [.int (x1 - (3 : Int32))]) (st := []) dX7_account_95 (c_X7_brethrenThat   _ _ hv12) (by decide) ce_X7_brethrenThat ml_X7_104 in_X7_brethrenThat se_X7_brethrenThat cl_X7 rfl rfl (Nat.le_of_ble_eq_true rfl) rfl ?_
    obtain rfl := Option.some.inj h
    exact go_iret (pc := 98) .int dX7_account_98 rfl rfl ⟨rfl, rfl⟩
  rw [if_neg c10] at h
  by_cases c13 : x1 = (5 : Int32)
  · rw [if_pos c13] at h
    refine go_tswHit (pc := 1) (tgt := 91) dX7_account_1 c13 (by decide) (by decide) rfl (by decide) ?_
    refine go_aload_n (pc := 91) dX7_account_91 rfl rfl ?_
    refine go_iload_n (pc := 92) dX7_account_92 rfl rfl ?_
    refine go_iconst (pc := 93) (v := (3 : Int32)) dX7_account_93 (by decide) ?_
    refine go_isub (pc := 94) dX7_account_94 ?_
    obtain ⟨v14, hv15, h⟩ := fm_bind h
    refine go_callVi (pc := 95) (As := [.int (x1 - (3 : Int32))]) (st := []) dX7_account_95 (c_X7_brethrenThat   _ _ hv15) (by decide) ce_X7_brethrenThat ml_X7_104 in_X7_brethrenThat se_X7_brethrenThat cl_X7 rfl rfl (Nat.le_of_ble_eq_true rfl) rfl ?_
    obtain rfl := Option.some.inj h
    exact go_iret (pc := 98) .int dX7_account_98 rfl rfl ⟨rfl, rfl⟩
  rw [if_neg c13] at h
  by_cases c16 : x1 = (6 : Int32)
  · rw [if_pos c16] at h
    refine go_tswHit (pc := 1) (tgt := 91) dX7_account_1 c16 (by decide) (by decide) rfl (by decide) ?_
    refine go_aload_n (pc := 91) dX7_account_91 rfl rfl ?_
    refine go_iload_n (pc := 92) dX7_account_92 rfl rfl ?_
    refine go_iconst (pc := 93) (v := (3 : Int32)) dX7_account_93 (by decide) ?_
    refine go_isub (pc := 94) dX7_account_94 ?_
    obtain ⟨v17, hv18, h⟩ := fm_bind h
    refine go_callVi (pc := 95) (As := [.int (x1 - (3 : Int32))]) (st := []) dX7_account_95 (c_X7_brethrenThat   _ _ hv18) (by decide) ce_X7_brethrenThat ml_X7_104 in_X7_brethrenThat se_X7_brethrenThat cl_X7 rfl rfl (Nat.le_of_ble_eq_true rfl) rfl ?_
    obtain rfl := Option.some.inj h
    exact go_iret (pc := 98) .int dX7_account_98 rfl rfl ⟨rfl, rfl⟩
  rw [if_neg c16] at h
  by_cases c19 : x1 = (7 : Int32)
  · rw [if_pos c19] at h
    refine go_tswHit (pc := 1) (tgt := 99) dX7_account_1 c19 (by decide) (by decide) rfl (by decide) ?_
    refine go_aload_n (pc := 99) dX7_account_99 rfl rfl ?_
    obtain ⟨v20, hv21, h⟩ := fm_bind h
    refine go_callVi (pc := 100) (As := []) (st := []) dX7_account_100 (c_X7_banned   _ hv21) (by decide) ce_X7_banned ml_X7_259 in_X7_banned se_X7_banned cl_X7 rfl rfl (Nat.le_of_ble_eq_true rfl) rfl ?_
    obtain rfl := Option.some.inj h
    exact go_iret (pc := 103) .int dX7_account_103 rfl rfl ⟨rfl, rfl⟩
  rw [if_neg c19] at h
  by_cases c22 : x1 = (8 : Int32)
  · rw [if_pos c22] at h
    refine go_tswHit (pc := 1) (tgt := 104) dX7_account_1 c22 (by decide) (by decide) rfl (by decide) ?_
    refine go_aload_n (pc := 104) dX7_account_104 rfl rfl ?_
    refine go_getR (pc := 105) (k := 4) (q2 := 24) dX7_account_105 cl_X7 rfl rfl (by decide) lk_X7_7 ?_
    refine go_bipush (pc := 108) (v := (9 : Int32)) dX7_account_108 (by decide) ?_
    obtain ⟨hi23, h⟩ := fm_chk h
    refine go_iald (pc := 110) dX7_account_110 rfl (fm_in_vp hi23) ?_
    obtain rfl := Option.some.inj h
    exact go_iret (pc := 111) .int dX7_account_111 rfl rfl ⟨rfl, rfl⟩
  rw [if_neg c22] at h
  by_cases c24 : x1 = (9 : Int32)
  · rw [if_pos c24] at h
    refine go_tswHit (pc := 1) (tgt := 112) dX7_account_1 c24 (by decide) (by decide) rfl (by decide) ?_
    refine go_aload_n (pc := 112) dX7_account_112 rfl rfl ?_
    refine go_getR (pc := 113) (k := 4) (q2 := 24) dX7_account_113 cl_X7 rfl rfl (by decide) lk_X7_7 ?_
    refine go_iload_n (pc := 116) dX7_account_116 rfl rfl ?_
    refine go_bipush (pc := 117) (v := (6 : Int32)) dX7_account_117 (by decide) ?_
    refine go_isub (pc := 119) dX7_account_119 ?_
    obtain ⟨hi25, h⟩ := fm_chk h
    refine go_iald (pc := 120) dX7_account_120 rfl (fm_in_vp hi25) ?_
    obtain rfl := Option.some.inj h
    exact go_iret (pc := 121) .int dX7_account_121 rfl rfl ⟨rfl, rfl⟩
  rw [if_neg c24] at h
  by_cases c26 : x1 = (10 : Int32)
  · rw [if_pos c26] at h
    refine go_tswHit (pc := 1) (tgt := 112) dX7_account_1 c26 (by decide) (by decide) rfl (by decide) ?_
    refine go_aload_n (pc := 112) dX7_account_112 rfl rfl ?_
    refine go_getR (pc := 113) (k := 4) (q2 := 24) dX7_account_113 cl_X7 rfl rfl (by decide) lk_X7_7 ?_
    refine go_iload_n (pc := 116) dX7_account_116 rfl rfl ?_
    refine go_bipush (pc := 117) (v := (6 : Int32)) dX7_account_117 (by decide) ?_
    refine go_isub (pc := 119) dX7_account_119 ?_
    obtain ⟨hi27, h⟩ := fm_chk h
    refine go_iald (pc := 120) dX7_account_120 rfl (fm_in_vp hi27) ?_
    obtain rfl := Option.some.inj h
    exact go_iret (pc := 121) .int dX7_account_121 rfl rfl ⟨rfl, rfl⟩
  rw [if_neg c26] at h
  by_cases c28 : x1 = (11 : Int32)
  · rw [if_pos c28] at h
    refine go_tswHit (pc := 1) (tgt := 112) dX7_account_1 c28 (by decide) (by decide) rfl (by decide) ?_
    refine go_aload_n (pc := 112) dX7_account_112 rfl rfl ?_
    refine go_getR (pc := 113) (k := 4) (q2 := 24) dX7_account_113 cl_X7 rfl rfl (by decide) lk_X7_7 ?_
    refine go_iload_n (pc := 116) dX7_account_116 rfl rfl ?_
    refine go_bipush (pc := 117) (v := (6 : Int32)) dX7_account_117 (by decide) ?_
    refine go_isub (pc := 119) dX7_account_119 ?_
    obtain ⟨hi29, h⟩ := fm_chk h
    refine go_iald (pc := 120) dX7_account_120 rfl (fm_in_vp hi29) ?_
    obtain rfl := Option.some.inj h
    exact go_iret (pc := 121) .int dX7_account_121 rfl rfl ⟨rfl, rfl⟩
  rw [if_neg c28] at h
  by_cases c30 : x1 = (12 : Int32)
  · rw [if_pos c30] at h
    refine go_tswHit (pc := 1) (tgt := 112) dX7_account_1 c30 (by decide) (by decide) rfl (by decide) ?_
    refine go_aload_n (pc := 112) dX7_account_112 rfl rfl ?_
    refine go_getR (pc := 113) (k := 4) (q2 := 24) dX7_account_113 cl_X7 rfl rfl (by decide) lk_X7_7 ?_
    refine go_iload_n (pc := 116) dX7_account_116 rfl rfl ?_
    refine go_bipush (pc := 117) (v := (6 : Int32)) dX7_account_117 (by decide) ?_
    refine go_isub (pc := 119) dX7_account_119 ?_
    obtain ⟨hi31, h⟩ := fm_chk h
    refine go_iald (pc := 120) dX7_account_120 rfl (fm_in_vp hi31) ?_
    obtain rfl := Option.some.inj h
    exact go_iret (pc := 121) .int dX7_account_121 rfl rfl ⟨rfl, rfl⟩
  rw [if_neg c30] at h
  by_cases c32 : x1 = (13 : Int32)
  · rw [if_pos c32] at h
    refine go_tswHit (pc := 1) (tgt := 112) dX7_account_1 c32 (by decide) (by decide) rfl (by decide) ?_
    refine go_aload_n (pc := 112) dX7_account_112 rfl rfl ?_
    refine go_getR (pc := 113) (k := 4) (q2 := 24) dX7_account_113 cl_X7 rfl rfl (by decide) lk_X7_7 ?_
    refine go_iload_n (pc := 116) dX7_account_116 rfl rfl ?_
    refine go_bipush (pc := 117) (v := (6 : Int32)) dX7_account_117 (by decide) ?_
    refine go_isub (pc := 119) dX7_account_119 ?_
    obtain ⟨hi33, h⟩ := fm_chk h
    refine go_iald (pc := 120) dX7_account_120 rfl (fm_in_vp hi33) ?_
    obtain rfl := Option.some.inj h
    exact go_iret (pc := 121) .int dX7_account_121 rfl rfl ⟨rfl, rfl⟩
  rw [if_neg c32] at h
  by_cases c34 : x1 = (14 : Int32)
  · rw [if_pos c34] at h
    refine go_tswHit (pc := 1) (tgt := 112) dX7_account_1 c34 (by decide) (by decide) rfl (by decide) ?_
    refine go_aload_n (pc := 112) dX7_account_112 rfl rfl ?_
    refine go_getR (pc := 113) (k := 4) (q2 := 24) dX7_account_113 cl_X7 rfl rfl (by decide) lk_X7_7 ?_
    refine go_iload_n (pc := 116) dX7_account_116 rfl rfl ?_
    refine go_bipush (pc := 117) (v := (6 : Int32)) dX7_account_117 (by decide) ?_
    refine go_isub (pc := 119) dX7_account_119 ?_
    obtain ⟨hi35, h⟩ := fm_chk h
    refine go_iald (pc := 120) dX7_account_120 rfl (fm_in_vp hi35) ?_
    obtain rfl := Option.some.inj h
    exact go_iret (pc := 121) .int dX7_account_121 rfl rfl ⟨rfl, rfl⟩
  rw [if_neg c34] at h
  by_cases c36 : x1 = (15 : Int32)
  · rw [if_pos c36] at h
    refine go_tswHit (pc := 1) (tgt := 122) dX7_account_1 c36 (by decide) (by decide) rfl (by decide) ?_
    refine go_aload_n (pc := 122) dX7_account_122 rfl rfl ?_
    refine go_getI (pc := 123) (k := 13) dX7_account_123 cl_X7 rfl rfl (by decide) lk_X7_204 ?_
    obtain rfl := Option.some.inj h
    exact go_iret (pc := 126) .int dX7_account_126 rfl rfl ⟨rfl, rfl⟩
  rw [if_neg c36] at h
  by_cases c37 : x1 = (16 : Int32)
  · rw [if_pos c37] at h
    refine go_tswHit (pc := 1) (tgt := 127) dX7_account_1 c37 (by decide) (by decide) rfl (by decide) ?_
    refine go_aload_n (pc := 127) dX7_account_127 rfl rfl ?_
    refine go_getI (pc := 128) (k := 8) dX7_account_128 cl_X7 rfl rfl (by decide) lk_X7_48 ?_
    obtain rfl := Option.some.inj h
    exact go_iret (pc := 131) .int dX7_account_131 rfl rfl ⟨rfl, rfl⟩
  rw [if_neg c37] at h
  refine go_tswMiss (pc := 1) (tgt := 132) dX7_account_1 17 (by decide) (lt_s (lt_s (lt_s (lt_s (lt_s (lt_s (lt_s (lt_s (lt_s (lt_s (lt_s (lt_s (lt_s (lt_s (lt_s (lt_s (lt_s lt_0 (Or.inl (lv_neT c1 rfl))) (Or.inl (lv_neT c3 rfl))) (Or.inl (lv_neT c5 rfl))) (Or.inl (lv_neT c7 rfl))) (Or.inl (lv_neT c10 rfl))) (Or.inl (lv_neT c13 rfl))) (Or.inl (lv_neT c16 rfl))) (Or.inl (lv_neT c19 rfl))) (Or.inl (lv_neT c22 rfl))) (Or.inl (lv_neT c24 rfl))) (Or.inl (lv_neT c26 rfl))) (Or.inl (lv_neT c28 rfl))) (Or.inl (lv_neT c30 rfl))) (Or.inl (lv_neT c32 rfl))) (Or.inl (lv_neT c34 rfl))) (Or.inl (lv_neT c36 rfl))) (Or.inl (lv_neT c37 rfl))) (by decide) ?_
  refine go_bipush (pc := 132) (v := (-12 : Int32)) dX7_account_132 (by decide) ?_
  obtain rfl := Option.some.inj h
  exact go_iret (pc := 134) .int dX7_account_134 rfl rfl ⟨rfl, rfl⟩
def f_X7_isBalanced_L56 : Nat → Int32 → Int32 → Int32 → fm_M → Option (Int32)
  | 0, _, _, _, _ => none
  | n + 1, y1, y2, y3, m => if (8 : Int32) ≤ y3 then (if y1 = 0 then (some (0 : Int32)) else ((f_X7_brethrenThat (1 : Int32) m).bind fun v8 => if y2 = v8 then (some (1 : Int32)) else (some (0 : Int32)))) else ((f_X7_brotherIn y3 m).bind fun v11 => if v11 < 0 then (f_X7_isBalanced_L56 n y1 (y2 + (0 : Int32)) (y3 + (1 : Int32)) m) else (f_X7_isBalanced_L56 n y1 (y2 + (1 : Int32)) (y3 + (1 : Int32)) m))
def f_X7_isBalanced (m : fm_M) : Option (Int32) :=
  if fm_in (3 : Int32) 320 = true then (if fm_in (4 : Int32) 320 = true then (if fm_in (5 : Int32) 320 = true then (if fm_in (6 : Int32) 320 = true then (if (m 24 (3 : Int32).toNatClampNeg) = ((((100 : Int32) + (m 24 (4 : Int32).toNatClampNeg)) - (m 24 (5 : Int32).toNatClampNeg)) - (m 24 (6 : Int32).toNatClampNeg)) then (if fm_in (5 : Int32) 320 = true then ((f_X7_gotAll m).bind fun v15 => if (m 24 (5 : Int32).toNatClampNeg) = v15 then (f_X7_isBalanced_L56 fm_F (1 : Int32) (0 : Int32) (0 : Int32) m) else (f_X7_isBalanced_L56 fm_F (0 : Int32) (0 : Int32) (0 : Int32) m)) else none) else (f_X7_isBalanced_L56 fm_F (0 : Int32) (0 : Int32) (0 : Int32) m)) else none) else none) else none) else none
set_option maxRecDepth 100000 in
set_option maxHeartbeats 4000000 in
theorem c_X7_isBalanced_L56 : ∀ (n : Nat) (y1 : Int32) (y2 : Int32) (y3 : Int32) (m : fm_M) (res : Int32), f_X7_isBalanced_L56 n y1 y2 y3 m = some res → fm_Go fm_layW 3 m_X7_isBalanced (fm_pi res m) 56 [some (.ref 23), some (.int y1), some (.int y2), some (.int y3)] [] m := by
  intro n
  induction n with
  | zero => intro y1 y2 y3 m res h; cases h
  | succ n ih =>
    intro y1 y2 y3 m res h
    rw [f_X7_isBalanced_L56] at h
    refine go_iload_n (pc := 56) dX7_isBalanced_56 rfl rfl ?_
    refine go_bipush (pc := 57) (v := (8 : Int32)) dX7_isBalanced_57 (by decide) ?_
    refine go_icmp_ge (pc := 59) (tgt := 84) dX7_isBalanced_59 (by decide) (fun c6 => ?_) (fun c6 => ?_)
    · rw [if_pos c6] at h
      refine go_iload_n (pc := 84) dX7_isBalanced_84 rfl rfl ?_
      refine go_if_eq (pc := 85) (tgt := 101) dX7_isBalanced_85 (by decide) (fun c7 => ?_) (fun c7 => ?_)
      · rw [if_pos c7] at h
        refine go_iconst (pc := 101) (v := (0 : Int32)) dX7_isBalanced_101 (by decide) ?_
        obtain rfl := Option.some.inj h
        exact go_iret (pc := 102) .int dX7_isBalanced_102 rfl rfl ⟨rfl, rfl⟩
      · rw [if_neg c7] at h
        refine go_iload_n (pc := 88) dX7_isBalanced_88 rfl rfl ?_
        refine go_aload_n (pc := 89) dX7_isBalanced_89 rfl rfl ?_
        refine go_iconst (pc := 90) (v := (1 : Int32)) dX7_isBalanced_90 (by decide) ?_
        obtain ⟨v8, hv9, h⟩ := fm_bind h
        refine go_callVi (pc := 91) (As := [.int (1 : Int32)]) (st := [.int y2]) dX7_isBalanced_91 (c_X7_brethrenThat   _ _ hv9) (by decide) ce_X7_brethrenThat ml_X7_104 in_X7_brethrenThat se_X7_brethrenThat cl_X7 rfl rfl (Nat.le_of_ble_eq_true rfl) rfl ?_
        refine go_icmp_ne (pc := 94) (tgt := 101) dX7_isBalanced_94 (by decide) (fun c10 => ?_) (fun c10 => ?_)
        · rw [if_neg c10] at h
          refine go_iconst (pc := 101) (v := (0 : Int32)) dX7_isBalanced_101 (by decide) ?_
          obtain rfl := Option.some.inj h
          exact go_iret (pc := 102) .int dX7_isBalanced_102 rfl rfl ⟨rfl, rfl⟩
        · rw [if_pos c10] at h
          refine go_iconst (pc := 97) (v := (1 : Int32)) dX7_isBalanced_97 (by decide) ?_
          refine go_goto (pc := 98) (tgt := 102) dX7_isBalanced_98 (by decide) ?_
          obtain rfl := Option.some.inj h
          exact go_iret (pc := 102) .int dX7_isBalanced_102 rfl rfl ⟨rfl, rfl⟩
    · rw [if_neg c6] at h
      refine go_iload_n (pc := 62) dX7_isBalanced_62 rfl rfl ?_
      refine go_aload_n (pc := 63) dX7_isBalanced_63 rfl rfl ?_
      refine go_iload_n (pc := 64) dX7_isBalanced_64 rfl rfl ?_
      obtain ⟨v11, hv12, h⟩ := fm_bind h
      refine go_callVi (pc := 65) (As := [.int y3]) (st := [.int y2]) dX7_isBalanced_65 (c_X7_brotherIn   _ _ hv12) (by decide) ce_X7_brotherIn ml_X7_122 in_X7_brotherIn se_X7_brotherIn cl_X7 rfl rfl (Nat.le_of_ble_eq_true rfl) rfl ?_
      refine go_if_lt (pc := 68) (tgt := 75) dX7_isBalanced_68 (by decide) (fun c13 => ?_) (fun c13 => ?_)
      · rw [if_pos c13] at h
        refine go_iconst (pc := 75) (v := (0 : Int32)) dX7_isBalanced_75 (by decide) ?_
        refine go_iadd (pc := 76) dX7_isBalanced_76 ?_
        refine go_istore_n (pc := 77) (ls1 := [some (.ref 23), some (.int y1), some (.int (y2 + (0 : Int32))), some (.int y3)]) dX7_isBalanced_77 rfl (by decide) rfl ?_
        refine go_iinc (pc := 78) (v := (y3 + (1 : Int32))) (ls1 := [some (.ref 23), some (.int y1), some (.int (y2 + (0 : Int32))), some (.int (y3 + (1 : Int32)))]) dX7_isBalanced_78 rfl rfl (Nat.le_of_ble_eq_true rfl) rfl ?_
        refine go_goto (pc := 81) (tgt := 56) dX7_isBalanced_81 (by decide) ?_
        exact ih _ _ _ _ _ h
      · rw [if_neg c13] at h
        refine go_iconst (pc := 71) (v := (1 : Int32)) dX7_isBalanced_71 (by decide) ?_
        refine go_goto (pc := 72) (tgt := 76) dX7_isBalanced_72 (by decide) ?_
        refine go_iadd (pc := 76) dX7_isBalanced_76 ?_
        refine go_istore_n (pc := 77) (ls1 := [some (.ref 23), some (.int y1), some (.int (y2 + (1 : Int32))), some (.int y3)]) dX7_isBalanced_77 rfl (by decide) rfl ?_
        refine go_iinc (pc := 78) (v := (y3 + (1 : Int32))) (ls1 := [some (.ref 23), some (.int y1), some (.int (y2 + (1 : Int32))), some (.int (y3 + (1 : Int32)))]) dX7_isBalanced_78 rfl rfl (Nat.le_of_ble_eq_true rfl) rfl ?_
        refine go_goto (pc := 81) (tgt := 56) dX7_isBalanced_81 (by decide) ?_
        exact ih _ _ _ _ _ h
set_option maxRecDepth 100000 in
set_option maxHeartbeats 4000000 in
theorem c_X7_isBalanced (m : fm_M) {res : Int32} (h : f_X7_isBalanced  m = some res) : fm_Met fm_layW 3 m_X7_isBalanced [.ref 23] m (fm_pi res m) := by
  refine fm_Met_of (ls := [some (.ref 23), none, none, none]) (by decide) rfl (fm_cc_r _ fm_cc_0) (Nat.le_of_ble_eq_true rfl) rfl ?_
  unfold f_X7_isBalanced at h
  refine go_aload_n (pc := 0) dX7_isBalanced_0 rfl rfl ?_
  refine go_getR (pc := 1) (k := 4) (q2 := 24) dX7_isBalanced_1 cl_X7 rfl rfl (by decide) lk_X7_7 ?_
  refine go_iconst (pc := 4) (v := (3 : Int32)) dX7_isBalanced_4 (by decide) ?_
  obtain ⟨hi1, h⟩ := fm_chk h
  refine go_iald (pc := 5) dX7_isBalanced_5 rfl (fm_in_vp hi1) ?_
  refine go_bipush (pc := 6) (v := (100 : Int32)) dX7_isBalanced_6 (by decide) ?_
  refine go_aload_n (pc := 8) dX7_isBalanced_8 rfl rfl ?_
  refine go_getR (pc := 9) (k := 4) (q2 := 24) dX7_isBalanced_9 cl_X7 rfl rfl (by decide) lk_X7_7 ?_
  refine go_iconst (pc := 12) (v := (4 : Int32)) dX7_isBalanced_12 (by decide) ?_
  obtain ⟨hi2, h⟩ := fm_chk h
  refine go_iald (pc := 13) dX7_isBalanced_13 rfl (fm_in_vp hi2) ?_
  refine go_iadd (pc := 14) dX7_isBalanced_14 ?_
  refine go_aload_n (pc := 15) dX7_isBalanced_15 rfl rfl ?_
  refine go_getR (pc := 16) (k := 4) (q2 := 24) dX7_isBalanced_16 cl_X7 rfl rfl (by decide) lk_X7_7 ?_
  refine go_iconst (pc := 19) (v := (5 : Int32)) dX7_isBalanced_19 (by decide) ?_
  obtain ⟨hi3, h⟩ := fm_chk h
  refine go_iald (pc := 20) dX7_isBalanced_20 rfl (fm_in_vp hi3) ?_
  refine go_isub (pc := 21) dX7_isBalanced_21 ?_
  refine go_aload_n (pc := 22) dX7_isBalanced_22 rfl rfl ?_
  refine go_getR (pc := 23) (k := 4) (q2 := 24) dX7_isBalanced_23 cl_X7 rfl rfl (by decide) lk_X7_7 ?_
  refine go_bipush (pc := 26) (v := (6 : Int32)) dX7_isBalanced_26 (by decide) ?_
  obtain ⟨hi4, h⟩ := fm_chk h
  refine go_iald (pc := 28) dX7_isBalanced_28 rfl (fm_in_vp hi4) ?_
  refine go_isub (pc := 29) dX7_isBalanced_29 ?_
  refine go_icmp_ne (pc := 30) (tgt := 50) dX7_isBalanced_30 (by decide) (fun c5 => ?_) (fun c5 => ?_)
  · rw [if_neg c5] at h
    refine go_iconst (pc := 50) (v := (0 : Int32)) dX7_isBalanced_50 (by decide) ?_
    refine go_istore_n (pc := 51) (ls1 := [some (.ref 23), some (.int (0 : Int32)), none, none]) dX7_isBalanced_51 rfl (by decide) rfl ?_
    refine go_iconst (pc := 52) (v := (0 : Int32)) dX7_isBalanced_52 (by decide) ?_
    refine go_istore_n (pc := 53) (ls1 := [some (.ref 23), some (.int (0 : Int32)), some (.int (0 : Int32)), none]) dX7_isBalanced_53 rfl (by decide) rfl ?_
    refine go_iconst (pc := 54) (v := (0 : Int32)) dX7_isBalanced_54 (by decide) ?_
    refine go_istore_n (pc := 55) (ls1 := [some (.ref 23), some (.int (0 : Int32)), some (.int (0 : Int32)), some (.int (0 : Int32))]) dX7_isBalanced_55 rfl (by decide) rfl ?_
    exact c_X7_isBalanced_L56  fm_F _ _ _ _ _ h
  · rw [if_pos c5] at h
    refine go_aload_n (pc := 33) dX7_isBalanced_33 rfl rfl ?_
    refine go_getR (pc := 34) (k := 4) (q2 := 24) dX7_isBalanced_34 cl_X7 rfl rfl (by decide) lk_X7_7 ?_
    refine go_iconst (pc := 37) (v := (5 : Int32)) dX7_isBalanced_37 (by decide) ?_
    obtain ⟨hi14, h⟩ := fm_chk h
    refine go_iald (pc := 38) dX7_isBalanced_38 rfl (fm_in_vp hi14) ?_
    refine go_aload_n (pc := 39) dX7_isBalanced_39 rfl rfl ?_
    obtain ⟨v15, hv16, h⟩ := fm_bind h
    refine go_callVi (pc := 40) (As := []) (st := [.int (m 24 (5 : Int32).toNatClampNeg)]) dX7_isBalanced_40 (c_X7_gotAll   _ hv16) (by decide) ce_X7_gotAll ml_X7_262 in_X7_gotAll se_X7_gotAll cl_X7 rfl rfl (Nat.le_of_ble_eq_true rfl) rfl ?_
    refine go_icmp_ne (pc := 43) (tgt := 50) dX7_isBalanced_43 (by decide) (fun c17 => ?_) (fun c17 => ?_)
    · rw [if_neg c17] at h
      refine go_iconst (pc := 50) (v := (0 : Int32)) dX7_isBalanced_50 (by decide) ?_
      refine go_istore_n (pc := 51) (ls1 := [some (.ref 23), some (.int (0 : Int32)), none, none]) dX7_isBalanced_51 rfl (by decide) rfl ?_
      refine go_iconst (pc := 52) (v := (0 : Int32)) dX7_isBalanced_52 (by decide) ?_
      refine go_istore_n (pc := 53) (ls1 := [some (.ref 23), some (.int (0 : Int32)), some (.int (0 : Int32)), none]) dX7_isBalanced_53 rfl (by decide) rfl ?_
      refine go_iconst (pc := 54) (v := (0 : Int32)) dX7_isBalanced_54 (by decide) ?_
      refine go_istore_n (pc := 55) (ls1 := [some (.ref 23), some (.int (0 : Int32)), some (.int (0 : Int32)), some (.int (0 : Int32))]) dX7_isBalanced_55 rfl (by decide) rfl ?_
      exact c_X7_isBalanced_L56  fm_F _ _ _ _ _ h
    · rw [if_pos c17] at h
      refine go_iconst (pc := 46) (v := (1 : Int32)) dX7_isBalanced_46 (by decide) ?_
      refine go_goto (pc := 47) (tgt := 51) dX7_isBalanced_47 (by decide) ?_
      refine go_istore_n (pc := 51) (ls1 := [some (.ref 23), some (.int (1 : Int32)), none, none]) dX7_isBalanced_51 rfl (by decide) rfl ?_
      refine go_iconst (pc := 52) (v := (0 : Int32)) dX7_isBalanced_52 (by decide) ?_
      refine go_istore_n (pc := 53) (ls1 := [some (.ref 23), some (.int (1 : Int32)), some (.int (0 : Int32)), none]) dX7_isBalanced_53 rfl (by decide) rfl ?_
      refine go_iconst (pc := 54) (v := (0 : Int32)) dX7_isBalanced_54 (by decide) ?_
      refine go_istore_n (pc := 55) (ls1 := [some (.ref 23), some (.int (1 : Int32)), some (.int (0 : Int32)), some (.int (0 : Int32))]) dX7_isBalanced_55 rfl (by decide) rfl ?_
      exact c_X7_isBalanced_L56  fm_F _ _ _ _ _ h
def f_X7_meanAge_L10 : Nat → Int32 → Int32 → Int32 → fm_M → Option (UInt64)
  | 0, _, _, _, _ => none
  | n + 1, y1, y2, y3, m => if fm_in (2 : Int32) 320 = true then (if (m 24 (2 : Int32).toNatClampNeg) ≤ y3 then (if y1 = 0 then (some FP.dconst0) else (some (FP.ddiv (FP.i2d y2) (FP.i2d y1)))) else ((f_X7_isSo y3 (1 : Int32) m).bind fun v8 => if v8 = true then ((f_X7_of y3 (0 : Int32) m).bind fun v11 => f_X7_meanAge_L10 n y1 (y2 + v11) (y3 + (1 : Int32)) m) else (f_X7_meanAge_L10 n y1 (y2 + (0 : Int32)) (y3 + (1 : Int32)) m))) else none
def f_X7_meanAge (m : fm_M) : Option (UInt64) :=
  (f_X7_brethrenThat (1 : Int32) m).bind fun v1 => f_X7_meanAge_L10 fm_F v1 (0 : Int32) (0 : Int32) m
set_option maxRecDepth 100000 in
set_option maxHeartbeats 4000000 in
theorem c_X7_meanAge_L10 : ∀ (n : Nat) (y1 : Int32) (y2 : Int32) (y3 : Int32) (m : fm_M) (res : UInt64), f_X7_meanAge_L10 n y1 y2 y3 m = some res → fm_Go fm_layW 3 m_X7_meanAge (fm_pd res m) 10 [some (.ref 23), some (.int y1), some (.int y2), some (.int y3)] [] m := by
  intro n
  induction n with
  | zero => intro y1 y2 y3 m res h; cases h
  | succ n ih =>
    intro y1 y2 y3 m res h
    rw [f_X7_meanAge_L10] at h
    refine go_iload_n (pc := 10) dX7_meanAge_10 rfl rfl ?_
    refine go_aload_n (pc := 11) dX7_meanAge_11 rfl rfl ?_
    refine go_getR (pc := 12) (k := 4) (q2 := 24) dX7_meanAge_12 cl_X7 rfl rfl (by decide) lk_X7_7 ?_
    refine go_iconst (pc := 15) (v := (2 : Int32)) dX7_meanAge_15 (by decide) ?_
    obtain ⟨hi3, h⟩ := fm_chk h
    refine go_iald (pc := 16) dX7_meanAge_16 rfl (fm_in_vp hi3) ?_
    refine go_icmp_ge (pc := 17) (tgt := 48) dX7_meanAge_17 (by decide) (fun c4 => ?_) (fun c4 => ?_)
    · rw [if_pos c4] at h
      refine go_iload_n (pc := 48) dX7_meanAge_48 rfl rfl ?_
      refine go_if_ne (pc := 49) (tgt := 56) dX7_meanAge_49 (by decide) (fun c5 => ?_) (fun c5 => ?_)
      · rw [if_neg c5] at h
        refine go_iload_n (pc := 56) dX7_meanAge_56 rfl rfl ?_
        refine go_i2d (pc := 57) dX7_meanAge_57 ?_
        refine go_iload_n (pc := 58) dX7_meanAge_58 rfl rfl ?_
        refine go_i2d (pc := 59) dX7_meanAge_59 ?_
        refine go_ddiv (pc := 60) dX7_meanAge_60 (fun r6 hal7 => ?_)
        obtain rfl := Option.some.inj h
        exact go_dret (pc := 61) dX7_meanAge_61 rfl ⟨_, rfl, hal7, rfl⟩
      · rw [if_pos c5] at h
        refine go_dconst0 (pc := 52) dX7_meanAge_52 ?_
        refine go_goto (pc := 53) (tgt := 61) dX7_meanAge_53 (by decide) ?_
        obtain rfl := Option.some.inj h
        exact go_dret (pc := 61) dX7_meanAge_61 rfl ⟨_, rfl, fm_al64 _, rfl⟩
    · rw [if_neg c4] at h
      refine go_iload_n (pc := 20) dX7_meanAge_20 rfl rfl ?_
      refine go_aload_n (pc := 21) dX7_meanAge_21 rfl rfl ?_
      refine go_iload_n (pc := 22) dX7_meanAge_22 rfl rfl ?_
      refine go_iconst (pc := 23) (v := (1 : Int32)) dX7_meanAge_23 (by decide) ?_
      obtain ⟨v8, hv9, h⟩ := fm_bind h
      refine go_callVi (pc := 24) (As := [.int y3, .int (1 : Int32)]) (st := [.int y2]) dX7_meanAge_24 (c_X7_isSo   _ _ _ hv9) (by decide) ce_X7_isSo ml_X7_68 in_X7_isSo se_X7_isSo cl_X7 rfl rfl (Nat.le_of_ble_eq_true rfl) rfl ?_
      refine go_ifb_eq (pc := 27) (tgt := 39) dX7_meanAge_27 (by decide) (fun c10 => ?_) (fun c10 => ?_)
      · rw [if_neg (by rw [c10]; decide)] at h
        refine go_iconst (pc := 39) (v := (0 : Int32)) dX7_meanAge_39 (by decide) ?_
        refine go_iadd (pc := 40) dX7_meanAge_40 ?_
        refine go_istore_n (pc := 41) (ls1 := [some (.ref 23), some (.int y1), some (.int (y2 + (0 : Int32))), some (.int y3)]) dX7_meanAge_41 rfl (by decide) rfl ?_
        refine go_iinc (pc := 42) (v := (y3 + (1 : Int32))) (ls1 := [some (.ref 23), some (.int y1), some (.int (y2 + (0 : Int32))), some (.int (y3 + (1 : Int32)))]) dX7_meanAge_42 rfl rfl (Nat.le_of_ble_eq_true rfl) rfl ?_
        refine go_goto (pc := 45) (tgt := 10) dX7_meanAge_45 (by decide) ?_
        exact ih _ _ _ _ _ h
      · rw [if_pos c10] at h
        refine go_aload_n (pc := 30) dX7_meanAge_30 rfl rfl ?_
        refine go_iload_n (pc := 31) dX7_meanAge_31 rfl rfl ?_
        refine go_iconst (pc := 32) (v := (0 : Int32)) dX7_meanAge_32 (by decide) ?_
        obtain ⟨v11, hv12, h⟩ := fm_bind h
        refine go_callVi (pc := 33) (As := [.int y3, .int (0 : Int32)]) (st := [.int y2]) dX7_meanAge_33 (c_X7_of   _ _ _ hv12) (by decide) ce_X7_of ml_X7_64 in_X7_of se_X7_of cl_X7 rfl rfl (Nat.le_of_ble_eq_true rfl) rfl ?_
        refine go_goto (pc := 36) (tgt := 40) dX7_meanAge_36 (by decide) ?_
        refine go_iadd (pc := 40) dX7_meanAge_40 ?_
        refine go_istore_n (pc := 41) (ls1 := [some (.ref 23), some (.int y1), some (.int (y2 + v11)), some (.int y3)]) dX7_meanAge_41 rfl (by decide) rfl ?_
        refine go_iinc (pc := 42) (v := (y3 + (1 : Int32))) (ls1 := [some (.ref 23), some (.int y1), some (.int (y2 + v11)), some (.int (y3 + (1 : Int32)))]) dX7_meanAge_42 rfl rfl (Nat.le_of_ble_eq_true rfl) rfl ?_
        refine go_goto (pc := 45) (tgt := 10) dX7_meanAge_45 (by decide) ?_
        exact ih _ _ _ _ _ h
set_option maxRecDepth 100000 in
set_option maxHeartbeats 4000000 in
theorem c_X7_meanAge (m : fm_M) {res : UInt64} (h : f_X7_meanAge  m = some res) : fm_Met fm_layW 3 m_X7_meanAge [.ref 23] m (fm_pd res m) := by
  refine fm_Met_of (ls := [some (.ref 23), none, none, none]) (by decide) rfl (fm_cc_r _ fm_cc_0) (Nat.le_of_ble_eq_true rfl) rfl ?_
  unfold f_X7_meanAge at h
  refine go_aload_n (pc := 0) dX7_meanAge_0 rfl rfl ?_
  refine go_iconst (pc := 1) (v := (1 : Int32)) dX7_meanAge_1 (by decide) ?_
  obtain ⟨v1, hv2, h⟩ := fm_bind h
  refine go_callVi (pc := 2) (As := [.int (1 : Int32)]) (st := []) dX7_meanAge_2 (c_X7_brethrenThat   _ _ hv2) (by decide) ce_X7_brethrenThat ml_X7_104 in_X7_brethrenThat se_X7_brethrenThat cl_X7 rfl rfl (Nat.le_of_ble_eq_true rfl) rfl ?_
  refine go_istore_n (pc := 5) (ls1 := [some (.ref 23), some (.int v1), none, none]) dX7_meanAge_5 rfl (by decide) rfl ?_
  refine go_iconst (pc := 6) (v := (0 : Int32)) dX7_meanAge_6 (by decide) ?_
  refine go_istore_n (pc := 7) (ls1 := [some (.ref 23), some (.int v1), some (.int (0 : Int32)), none]) dX7_meanAge_7 rfl (by decide) rfl ?_
  refine go_iconst (pc := 8) (v := (0 : Int32)) dX7_meanAge_8 (by decide) ?_
  refine go_istore_n (pc := 9) (ls1 := [some (.ref 23), some (.int v1), some (.int (0 : Int32)), some (.int (0 : Int32))]) dX7_meanAge_9 rfl (by decide) rfl ?_
  exact c_X7_meanAge_L10  fm_F _ _ _ _ _ h
def f_X7_entitledShare (m : fm_M) : Option (UInt32) :=
  (f_X7_brethrenThat (1 : Int32) m).bind fun v1 => if v1 = 0 then (some FP.fconst0) else ((f_X7_entitledMany m).bind fun v4 => some (FP.fdiv (FP.i2f v4) (FP.i2f v1)))
set_option maxRecDepth 100000 in
set_option maxHeartbeats 4000000 in
theorem c_X7_entitledShare (m : fm_M) {res : UInt32} (h : f_X7_entitledShare  m = some res) : fm_Met fm_layW 4 m_X7_entitledShare [.ref 23] m (fm_pf res m) := by
  refine fm_Met_of (ls := [some (.ref 23), none]) (by decide) rfl (fm_cc_r _ fm_cc_0) (Nat.le_of_ble_eq_true rfl) rfl ?_
  unfold f_X7_entitledShare at h
  refine go_aload_n (pc := 0) dX7_entitledShare_0 rfl rfl ?_
  refine go_iconst (pc := 1) (v := (1 : Int32)) dX7_entitledShare_1 (by decide) ?_
  obtain ⟨v1, hv2, h⟩ := fm_bind h
  refine go_callVi (pc := 2) (As := [.int (1 : Int32)]) (st := []) dX7_entitledShare_2 (c_X7_brethrenThat   _ _ hv2) (by decide) ce_X7_brethrenThat ml_X7_104 in_X7_brethrenThat se_X7_brethrenThat cl_X7 rfl rfl (Nat.le_of_ble_eq_true rfl) rfl ?_
  refine go_istore_n (pc := 5) (ls1 := [some (.ref 23), some (.int v1)]) dX7_entitledShare_5 rfl (by decide) rfl ?_
  refine go_iload_n (pc := 6) dX7_entitledShare_6 rfl rfl ?_
  refine go_if_ne (pc := 7) (tgt := 14) dX7_entitledShare_7 (by decide) (fun c3 => ?_) (fun c3 => ?_)
  · rw [if_neg c3] at h
    refine go_aload_n (pc := 14) dX7_entitledShare_14 rfl rfl ?_
    obtain ⟨v4, hv5, h⟩ := fm_bind h
    refine go_callVi (pc := 15) (As := []) (st := []) dX7_entitledShare_15 (c_X7_entitledMany   _ hv5) (by decide) ce_X7_entitledMany ml_X7_170 in_X7_entitledMany se_X7_entitledMany cl_X7 rfl rfl (Nat.le_of_ble_eq_true rfl) rfl ?_
    refine go_i2f (pc := 18) dX7_entitledShare_18 ?_
    refine go_iload_n (pc := 19) dX7_entitledShare_19 rfl rfl ?_
    refine go_i2f (pc := 20) dX7_entitledShare_20 ?_
    refine go_fdiv (pc := 21) dX7_entitledShare_21 (fun r6 hal7 => ?_)
    obtain rfl := Option.some.inj h
    exact go_fret (pc := 22) dX7_entitledShare_22 rfl ⟨_, rfl, hal7, rfl⟩
  · rw [if_pos c3] at h
    refine go_fconst0 (pc := 10) dX7_entitledShare_10 ?_
    refine go_goto (pc := 11) (tgt := 22) dX7_entitledShare_11 (by decide) ?_
    obtain rfl := Option.some.inj h
    exact go_fret (pc := 22) dX7_entitledShare_22 rfl ⟨_, rfl, fm_al32 _, rfl⟩
def f_X7_undo_L35 : Nat → Int32 → Int32 → fm_M → Option (Int32 × fm_M)
  | 0, _, _, _ => none
  | n + 1, y1, y2, m => if (320 : Int32) ≤ y2 then (some ((m 23 8), m)) else (if fm_in (((320 : Int32) * y1) + y2) 2560 = true then (if fm_in y2 320 = true then (f_X7_undo_L35 n y1 (y2 + (1 : Int32)) (fm_put m 24 y2.toNatClampNeg (m 25 (((320 : Int32) * y1) + y2).toNatClampNeg))) else none) else none)
def f_X7_undo (m : fm_M) : Option (Int32 × fm_M) :=
  if (m 23 8) = 0 then (some ((-15 : Int32), m)) else (f_X7_undo_L35 fm_F ((((fm_put m 23 8 ((m 23 8) - (1 : Int32))) 23 9) + ((fm_put m 23 8 ((m 23 8) - (1 : Int32))) 23 8)) - (((fm_put m 23 8 ((m 23 8) - (1 : Int32))) 23 9) + ((fm_put m 23 8 ((m 23 8) - (1 : Int32))) 23 8)) / (8 : Int32) * (8 : Int32)) (0 : Int32) (fm_put m 23 8 ((m 23 8) - (1 : Int32))))
set_option maxRecDepth 100000 in
set_option maxHeartbeats 4000000 in
theorem c_X7_undo_L35 : ∀ (n : Nat) (y1 : Int32) (y2 : Int32) (m : fm_M) (res : Int32 × fm_M), f_X7_undo_L35 n y1 y2 m = some res → fm_Go fm_layW 0 m_X7_undo (fm_pi res.1 res.2) 35 [some (.ref 23), some (.int y1), some (.int y2)] [] m := by
  intro n
  induction n with
  | zero => intro y1 y2 m res h; cases h
  | succ n ih =>
    intro y1 y2 m res h
    rw [f_X7_undo_L35] at h
    refine go_iload_n (pc := 35) dX7_undo_35 rfl rfl ?_
    refine go_sipush (pc := 36) (v := (320 : Int32)) dX7_undo_36 (by decide) ?_
    refine go_icmp_ge (pc := 39) (tgt := 66) dX7_undo_39 (by decide) (fun c2 => ?_) (fun c2 => ?_)
    · rw [if_pos c2] at h
      refine go_aload_n (pc := 66) dX7_undo_66 rfl rfl ?_
      refine go_getI (pc := 67) (k := 8) dX7_undo_67 cl_X7 rfl rfl (by decide) lk_X7_48 ?_
      obtain rfl := Option.some.inj h
      exact go_iret (pc := 70) .int dX7_undo_70 rfl rfl ⟨rfl, rfl⟩
    · rw [if_neg c2] at h
      refine go_aload_n (pc := 42) dX7_undo_42 rfl rfl ?_
      refine go_getR (pc := 43) (k := 4) (q2 := 24) dX7_undo_43 cl_X7 rfl rfl (by decide) lk_X7_7 ?_
      refine go_iload_n (pc := 46) dX7_undo_46 rfl rfl ?_
      refine go_aload_n (pc := 47) dX7_undo_47 rfl rfl ?_
      refine go_getR (pc := 48) (k := 5) (q2 := 25) dX7_undo_48 cl_X7 rfl rfl (by decide) lk_X7_13 ?_
      refine go_sipush (pc := 51) (v := (320 : Int32)) dX7_undo_51 (by decide) ?_
      refine go_iload_n (pc := 54) dX7_undo_54 rfl rfl ?_
      refine go_imul (pc := 55) dX7_undo_55 ?_
      refine go_iload_n (pc := 56) dX7_undo_56 rfl rfl ?_
      refine go_iadd (pc := 57) dX7_undo_57 ?_
      obtain ⟨hi3, h⟩ := fm_chk h
      refine go_iald (pc := 58) dX7_undo_58 rfl (fm_in_vp hi3) ?_
      obtain ⟨hi4, h⟩ := fm_chk h
      refine go_iast (pc := 59) dX7_undo_59 rfl (fm_in_vp hi4) ?_
      refine go_iinc (pc := 60) (v := (y2 + (1 : Int32))) (ls1 := [some (.ref 23), some (.int y1), some (.int (y2 + (1 : Int32)))]) dX7_undo_60 rfl rfl (Nat.le_of_ble_eq_true rfl) rfl ?_
      refine go_goto (pc := 63) (tgt := 35) dX7_undo_63 (by decide) ?_
      exact ih _ _ _ _ h
set_option maxRecDepth 100000 in
set_option maxHeartbeats 4000000 in
theorem c_X7_undo (m : fm_M) {res : Int32 × fm_M} (h : f_X7_undo  m = some res) : fm_Met fm_layW 0 m_X7_undo [.ref 23] m (fm_pi res.1 res.2) := by
  refine fm_Met_of (ls := [some (.ref 23), none, none]) (by decide) rfl (fm_cc_r _ fm_cc_0) (Nat.le_of_ble_eq_true rfl) rfl ?_
  unfold f_X7_undo at h
  refine go_aload_n (pc := 0) dX7_undo_0 rfl rfl ?_
  refine go_getI (pc := 1) (k := 8) dX7_undo_1 cl_X7 rfl rfl (by decide) lk_X7_48 ?_
  refine go_if_ne (pc := 4) (tgt := 10) dX7_undo_4 (by decide) (fun c1 => ?_) (fun c1 => ?_)
  · rw [if_neg c1] at h
    refine go_aload_n (pc := 10) dX7_undo_10 rfl rfl ?_
    refine go_dup (pc := 11) dX7_undo_11 rfl ?_
    refine go_getI (pc := 12) (k := 8) dX7_undo_12 cl_X7 rfl rfl (by decide) lk_X7_48 ?_
    refine go_iconst (pc := 15) (v := (1 : Int32)) dX7_undo_15 (by decide) ?_
    refine go_isub (pc := 16) dX7_undo_16 ?_
    refine go_put (pc := 17) (k := 8) .int dX7_undo_17 cl_X7 rfl rfl (by decide) lk_X7_48 rfl (by decide +kernel) rfl rfl ?_
    refine go_aload_n (pc := 20) dX7_undo_20 rfl rfl ?_
    refine go_getI (pc := 21) (k := 9) dX7_undo_21 cl_X7 rfl rfl (by decide) lk_X7_51 ?_
    refine go_aload_n (pc := 24) dX7_undo_24 rfl rfl ?_
    refine go_getI (pc := 25) (k := 8) dX7_undo_25 cl_X7 rfl rfl (by decide) lk_X7_48 ?_
    refine go_iadd (pc := 28) dX7_undo_28 ?_
    refine go_bipush (pc := 29) (v := (8 : Int32)) dX7_undo_29 (by decide) ?_
    refine go_irem (pc := 31) dX7_undo_31 (by decide) ?_
    refine go_istore_n (pc := 32) (ls1 := [some (.ref 23), some (.int ((((fm_put m 23 8 ((m 23 8) - (1 : Int32))) 23 9) + ((fm_put m 23 8 ((m 23 8) - (1 : Int32))) 23 8)) - (((fm_put m 23 8 ((m 23 8) - (1 : Int32))) 23 9) + ((fm_put m 23 8 ((m 23 8) - (1 : Int32))) 23 8)) / (8 : Int32) * (8 : Int32))), none]) dX7_undo_32 rfl (by decide) rfl ?_
    refine go_iconst (pc := 33) (v := (0 : Int32)) dX7_undo_33 (by decide) ?_
    refine go_istore_n (pc := 34) (ls1 := [some (.ref 23), some (.int ((((fm_put m 23 8 ((m 23 8) - (1 : Int32))) 23 9) + ((fm_put m 23 8 ((m 23 8) - (1 : Int32))) 23 8)) - (((fm_put m 23 8 ((m 23 8) - (1 : Int32))) 23 9) + ((fm_put m 23 8 ((m 23 8) - (1 : Int32))) 23 8)) / (8 : Int32) * (8 : Int32))), some (.int (0 : Int32))]) dX7_undo_34 rfl (by decide) rfl ?_
    exact c_X7_undo_L35  fm_F _ _ _ _ h
  · rw [if_pos c1] at h
    refine go_bipush (pc := 7) (v := (-15 : Int32)) dX7_undo_7 (by decide) ?_
    obtain rfl := Option.some.inj h
    exact go_iret (pc := 9) .int dX7_undo_9 rfl rfl ⟨rfl, rfl⟩
def f_X7_save_L2 : Nat → Int32 → fm_M → Option (Int32 × fm_M)
  | 0, _, _ => none
  | n + 1, y1, m => if (320 : Int32) ≤ y1 then (if fm_in (2 : Int32) 320 = true then (some (((fm_put m 23 10 (1 : Int32)) 24 (2 : Int32).toNatClampNeg), (fm_put m 23 10 (1 : Int32)))) else none) else (if fm_in y1 320 = true then (if fm_in y1 320 = true then (f_X7_save_L2 n (y1 + (1 : Int32)) (fm_put m 26 y1.toNatClampNeg (m 24 y1.toNatClampNeg))) else none) else none)
def f_X7_save (m : fm_M) : Option (Int32 × fm_M) :=
  f_X7_save_L2 fm_F (0 : Int32) m
set_option maxRecDepth 100000 in
set_option maxHeartbeats 4000000 in
theorem c_X7_save_L2 : ∀ (n : Nat) (y1 : Int32) (m : fm_M) (res : Int32 × fm_M), f_X7_save_L2 n y1 m = some res → fm_Go fm_layW 0 m_X7_save (fm_pi res.1 res.2) 2 [some (.ref 23), some (.int y1)] [] m := by
  intro n
  induction n with
  | zero => intro y1 m res h; cases h
  | succ n ih =>
    intro y1 m res h
    rw [f_X7_save_L2] at h
    refine go_iload_n (pc := 2) dX7_save_2 rfl rfl ?_
    refine go_sipush (pc := 3) (v := (320 : Int32)) dX7_save_3 (by decide) ?_
    refine go_icmp_ge (pc := 6) (tgt := 27) dX7_save_6 (by decide) (fun c1 => ?_) (fun c1 => ?_)
    · rw [if_pos c1] at h
      refine go_aload_n (pc := 27) dX7_save_27 rfl rfl ?_
      refine go_iconst (pc := 28) (v := (1 : Int32)) dX7_save_28 (by decide) ?_
      refine go_put (pc := 29) (k := 10) .boolean dX7_save_29 cl_X7 rfl rfl (by decide) lk_X7_265 rfl (by decide +kernel) rfl rfl ?_
      refine go_aload_n (pc := 32) dX7_save_32 rfl rfl ?_
      refine go_getR (pc := 33) (k := 4) (q2 := 24) dX7_save_33 cl_X7 rfl rfl (by decide) lk_X7_7 ?_
      refine go_iconst (pc := 36) (v := (2 : Int32)) dX7_save_36 (by decide) ?_
      obtain ⟨hi2, h⟩ := fm_chk h
      refine go_iald (pc := 37) dX7_save_37 rfl (fm_in_vp hi2) ?_
      obtain rfl := Option.some.inj h
      exact go_iret (pc := 38) .int dX7_save_38 rfl rfl ⟨rfl, rfl⟩
    · rw [if_neg c1] at h
      refine go_aload_n (pc := 9) dX7_save_9 rfl rfl ?_
      refine go_getR (pc := 10) (k := 6) (q2 := 26) dX7_save_10 cl_X7 rfl rfl (by decide) lk_X7_16 ?_
      refine go_iload_n (pc := 13) dX7_save_13 rfl rfl ?_
      refine go_aload_n (pc := 14) dX7_save_14 rfl rfl ?_
      refine go_getR (pc := 15) (k := 4) (q2 := 24) dX7_save_15 cl_X7 rfl rfl (by decide) lk_X7_7 ?_
      refine go_iload_n (pc := 18) dX7_save_18 rfl rfl ?_
      obtain ⟨hi3, h⟩ := fm_chk h
      refine go_iald (pc := 19) dX7_save_19 rfl (fm_in_vp hi3) ?_
      obtain ⟨hi4, h⟩ := fm_chk h
      refine go_iast (pc := 20) dX7_save_20 rfl (fm_in_vp hi4) ?_
      refine go_iinc (pc := 21) (v := (y1 + (1 : Int32))) (ls1 := [some (.ref 23), some (.int (y1 + (1 : Int32)))]) dX7_save_21 rfl rfl (Nat.le_of_ble_eq_true rfl) rfl ?_
      refine go_goto (pc := 24) (tgt := 2) dX7_save_24 (by decide) ?_
      exact ih _ _ _ h
set_option maxRecDepth 100000 in
set_option maxHeartbeats 4000000 in
theorem c_X7_save (m : fm_M) {res : Int32 × fm_M} (h : f_X7_save  m = some res) : fm_Met fm_layW 0 m_X7_save [.ref 23] m (fm_pi res.1 res.2) := by
  refine fm_Met_of (ls := [some (.ref 23), none]) (by decide) rfl (fm_cc_r _ fm_cc_0) (Nat.le_of_ble_eq_true rfl) rfl ?_
  unfold f_X7_save at h
  refine go_iconst (pc := 0) (v := (0 : Int32)) dX7_save_0 (by decide) ?_
  refine go_istore_n (pc := 1) (ls1 := [some (.ref 23), some (.int (0 : Int32))]) dX7_save_1 rfl (by decide) rfl ?_
  exact c_X7_save_L2  fm_F _ _ _ h
def f_X7_restore_L12 : Nat → Int32 → fm_M → Option (Int32 × fm_M)
  | 0, _, _ => none
  | n + 1, y1, m => if (320 : Int32) ≤ y1 then (if fm_in (2 : Int32) 320 = true then (some (((fm_put (fm_put m 23 8 (0 : Int32)) 23 9 (0 : Int32)) 24 (2 : Int32).toNatClampNeg), (fm_put (fm_put m 23 8 (0 : Int32)) 23 9 (0 : Int32)))) else none) else (if fm_in y1 320 = true then (if fm_in y1 320 = true then (f_X7_restore_L12 n (y1 + (1 : Int32)) (fm_put m 24 y1.toNatClampNeg (m 26 y1.toNatClampNeg))) else none) else none)
def f_X7_restore (m : fm_M) : Option (Int32 × fm_M) :=
  if (m 23 10) = 0 then (some ((-15 : Int32), m)) else (f_X7_restore_L12 fm_F (0 : Int32) m)
set_option maxRecDepth 100000 in
set_option maxHeartbeats 4000000 in
theorem c_X7_restore_L12 : ∀ (n : Nat) (y1 : Int32) (m : fm_M) (res : Int32 × fm_M), f_X7_restore_L12 n y1 m = some res → fm_Go fm_layW 0 m_X7_restore (fm_pi res.1 res.2) 12 [some (.ref 23), some (.int y1)] [] m := by
  intro n
  induction n with
  | zero => intro y1 m res h; cases h
  | succ n ih =>
    intro y1 m res h
    rw [f_X7_restore_L12] at h
    refine go_iload_n (pc := 12) dX7_restore_12 rfl rfl ?_
    refine go_sipush (pc := 13) (v := (320 : Int32)) dX7_restore_13 (by decide) ?_
    refine go_icmp_ge (pc := 16) (tgt := 37) dX7_restore_16 (by decide) (fun c2 => ?_) (fun c2 => ?_)
    · rw [if_pos c2] at h
      refine go_aload_n (pc := 37) dX7_restore_37 rfl rfl ?_
      refine go_iconst (pc := 38) (v := (0 : Int32)) dX7_restore_38 (by decide) ?_
      refine go_put (pc := 39) (k := 8) .int dX7_restore_39 cl_X7 rfl rfl (by decide) lk_X7_48 rfl (by decide +kernel) rfl rfl ?_
      refine go_aload_n (pc := 42) dX7_restore_42 rfl rfl ?_
      refine go_iconst (pc := 43) (v := (0 : Int32)) dX7_restore_43 (by decide) ?_
      refine go_put (pc := 44) (k := 9) .int dX7_restore_44 cl_X7 rfl rfl (by decide) lk_X7_51 rfl (by decide +kernel) rfl rfl ?_
      refine go_aload_n (pc := 47) dX7_restore_47 rfl rfl ?_
      refine go_getR (pc := 48) (k := 4) (q2 := 24) dX7_restore_48 cl_X7 rfl rfl (by decide) lk_X7_7 ?_
      refine go_iconst (pc := 51) (v := (2 : Int32)) dX7_restore_51 (by decide) ?_
      obtain ⟨hi3, h⟩ := fm_chk h
      refine go_iald (pc := 52) dX7_restore_52 rfl (fm_in_vp hi3) ?_
      obtain rfl := Option.some.inj h
      exact go_iret (pc := 53) .int dX7_restore_53 rfl rfl ⟨rfl, rfl⟩
    · rw [if_neg c2] at h
      refine go_aload_n (pc := 19) dX7_restore_19 rfl rfl ?_
      refine go_getR (pc := 20) (k := 4) (q2 := 24) dX7_restore_20 cl_X7 rfl rfl (by decide) lk_X7_7 ?_
      refine go_iload_n (pc := 23) dX7_restore_23 rfl rfl ?_
      refine go_aload_n (pc := 24) dX7_restore_24 rfl rfl ?_
      refine go_getR (pc := 25) (k := 6) (q2 := 26) dX7_restore_25 cl_X7 rfl rfl (by decide) lk_X7_16 ?_
      refine go_iload_n (pc := 28) dX7_restore_28 rfl rfl ?_
      obtain ⟨hi4, h⟩ := fm_chk h
      refine go_iald (pc := 29) dX7_restore_29 rfl (fm_in_vp hi4) ?_
      obtain ⟨hi5, h⟩ := fm_chk h
      refine go_iast (pc := 30) dX7_restore_30 rfl (fm_in_vp hi5) ?_
      refine go_iinc (pc := 31) (v := (y1 + (1 : Int32))) (ls1 := [some (.ref 23), some (.int (y1 + (1 : Int32)))]) dX7_restore_31 rfl rfl (Nat.le_of_ble_eq_true rfl) rfl ?_
      refine go_goto (pc := 34) (tgt := 12) dX7_restore_34 (by decide) ?_
      exact ih _ _ _ h
set_option maxRecDepth 100000 in
set_option maxHeartbeats 4000000 in
theorem c_X7_restore (m : fm_M) {res : Int32 × fm_M} (h : f_X7_restore  m = some res) : fm_Met fm_layW 0 m_X7_restore [.ref 23] m (fm_pi res.1 res.2) := by
  refine fm_Met_of (ls := [some (.ref 23), none]) (by decide) rfl (fm_cc_r _ fm_cc_0) (Nat.le_of_ble_eq_true rfl) rfl ?_
  unfold f_X7_restore at h
  refine go_aload_n (pc := 0) dX7_restore_0 rfl rfl ?_
  refine go_getI (pc := 1) (k := 10) dX7_restore_1 cl_X7 rfl rfl (by decide) lk_X7_265 ?_
  refine go_if_ne (pc := 4) (tgt := 10) dX7_restore_4 (by decide) (fun c1 => ?_) (fun c1 => ?_)
  · rw [if_neg c1] at h
    refine go_iconst (pc := 10) (v := (0 : Int32)) dX7_restore_10 (by decide) ?_
    refine go_istore_n (pc := 11) (ls1 := [some (.ref 23), some (.int (0 : Int32))]) dX7_restore_11 rfl (by decide) rfl ?_
    exact c_X7_restore_L12  fm_F _ _ _ h
  · rw [if_pos c1] at h
    refine go_bipush (pc := 7) (v := (-15 : Int32)) dX7_restore_7 (by decide) ?_
    obtain rfl := Option.some.inj h
    exact go_iret (pc := 9) .int dX7_restore_9 rfl rfl ⟨rfl, rfl⟩

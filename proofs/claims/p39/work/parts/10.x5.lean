def f_X5_set (p : Nat) (r : Nat) (x1 : Int32) (x2 : Int32) (m : fm_M) : Option (fm_M) :=
  if x1 < 0 then (some m) else (if (294 : Int32) ≤ x1 then (some m) else (if fm_in x1 294 = true then (some (fm_put m r x1.toNatClampNeg x2)) else none))
set_option maxRecDepth 100000 in
set_option maxHeartbeats 4000000 in
theorem c_X5_set {lay : List fm_L} {p r : Nat} (hp : lay[p]? = some (.inr (5, [some (some r)]))) (hr : lay[r]? = some (.inl (0, 294))) (x1 : Int32) (x2 : Int32) (m : fm_M) {res : fm_M} (h : f_X5_set p r x1 x2 m = some res) : fm_Met lay 0 m_X5_set [.ref p, .int x1, .int x2] m (fm_pv res) := by
  refine fm_Met_of (ls := [some (.ref p), some (.int x1), some (.int x2)]) (by decide) rfl (fm_cc_r _ (fm_cc_i _ (fm_cc_i _ fm_cc_0))) (Nat.le_of_ble_eq_true rfl) rfl ?_
  unfold f_X5_set at h
  refine go_iload_n (pc := 0) dX5_set_0 rfl rfl ?_
  refine go_if_lt (pc := 1) (tgt := 20) dX5_set_1 (by decide) (fun c1 => ?_) (fun c1 => ?_)
  · rw [if_pos c1] at h
    obtain rfl := Option.some.inj h
    exact go_vret (pc := 20) dX5_set_20 rfl ⟨rfl, rfl⟩
  · rw [if_neg c1] at h
    refine go_iload_n (pc := 4) dX5_set_4 rfl rfl ?_
    refine go_aload_n (pc := 5) dX5_set_5 rfl rfl ?_
    refine go_getR (pc := 6) (k := 0) (q2 := r) dX5_set_6 cl_X5 hp rfl (by decide) lk_X5_9 ?_
    refine go_alen (pc := 9) (v := (294 : Int32)) dX5_set_9 hr (by decide) ?_
    refine go_icmp_ge (pc := 10) (tgt := 20) dX5_set_10 (by decide) (fun c2 => ?_) (fun c2 => ?_)
    · rw [if_pos c2] at h
      obtain rfl := Option.some.inj h
      exact go_vret (pc := 20) dX5_set_20 rfl ⟨rfl, rfl⟩
    · rw [if_neg c2] at h
      refine go_aload_n (pc := 13) dX5_set_13 rfl rfl ?_
      refine go_getR (pc := 14) (k := 0) (q2 := r) dX5_set_14 cl_X5 hp rfl (by decide) lk_X5_9 ?_
      refine go_iload_n (pc := 17) dX5_set_17 rfl rfl ?_
      refine go_iload_n (pc := 18) dX5_set_18 rfl rfl ?_
      obtain ⟨hi3, h⟩ := fm_chk h
      refine go_iast (pc := 19) dX5_set_19 hr (fm_in_vp hi3) ?_
      obtain rfl := Option.some.inj h
      exact go_vret (pc := 20) dX5_set_20 rfl ⟨rfl, rfl⟩
def f_X5_setOf (p : Nat) (r : Nat) (x1 : Int32) (x2 : Int32) (x3 : Int32) (m : fm_M) : Option (fm_M) :=
  (f_X5_set p r ((x1 * (16 : Int32)) + x2) x3 m).bind fun v1 => some v1
set_option maxRecDepth 100000 in
set_option maxHeartbeats 4000000 in
theorem c_X5_setOf {lay : List fm_L} {p r : Nat} (hp : lay[p]? = some (.inr (5, [some (some r)]))) (hr : lay[r]? = some (.inl (0, 294))) (x1 : Int32) (x2 : Int32) (x3 : Int32) (m : fm_M) {res : fm_M} (h : f_X5_setOf p r x1 x2 x3 m = some res) : fm_Met lay 1 m_X5_setOf [.ref p, .int x1, .int x2, .int x3] m (fm_pv res) := by
  refine fm_Met_of (ls := [some (.ref p), some (.int x1), some (.int x2), some (.int x3)]) (by decide) rfl (fm_cc_r _ (fm_cc_i _ (fm_cc_i _ (fm_cc_i _ fm_cc_0)))) (Nat.le_of_ble_eq_true rfl) rfl ?_
  unfold f_X5_setOf at h
  refine go_aload_n (pc := 0) dX5_setOf_0 rfl rfl ?_
  refine go_iload_n (pc := 1) dX5_setOf_1 rfl rfl ?_
  refine go_bipush (pc := 2) (v := (16 : Int32)) dX5_setOf_2 (by decide) ?_
  refine go_imul (pc := 4) dX5_setOf_4 ?_
  refine go_iload_n (pc := 5) dX5_setOf_5 rfl rfl ?_
  refine go_iadd (pc := 6) dX5_setOf_6 ?_
  refine go_iload_n (pc := 7) dX5_setOf_7 rfl rfl ?_
  obtain ⟨v1, hv2, h⟩ := fm_bind h
  refine go_callVv (pc := 8) (As := [.int ((x1 * (16 : Int32)) + x2), .int x3]) (st := []) dX5_setOf_8 (c_X5_set (p := p) (r := r) hp hr _ _ _ hv2) (by decide) ce_X5_set ml_X5_19 in_X5_set se_X5_set cl_X5 hp rfl (Nat.le_of_ble_eq_true rfl) rfl ?_
  obtain rfl := Option.some.inj h
  exact go_vret (pc := 11) dX5_setOf_11 rfl ⟨rfl, rfl⟩
def f_X5_copyFrom (p : Nat) (r : Nat) (p2 : Nat) (r2 : Nat) (m : fm_M) : Option (fm_M) :=
  if fm_cpok (0 : Int32) (0 : Int32) (if (294 : Int32) < (294 : Int32) then (294 : Int32) else (294 : Int32)) 294 294 = true then (some (fm_up m r (va_cpy (m r2) (m r) (0 : Int32).toNatClampNeg (0 : Int32).toNatClampNeg (if (294 : Int32) < (294 : Int32) then (294 : Int32) else (294 : Int32)).toNatClampNeg))) else none
set_option maxRecDepth 100000 in
set_option maxHeartbeats 4000000 in
theorem c_X5_copyFrom {lay : List fm_L} {p r p2 r2 : Nat} (hp : lay[p]? = some (.inr (5, [some (some r)]))) (hr : lay[r]? = some (.inl (0, 294))) (hp2 : lay[p2]? = some (.inr (5, [some (some r2)]))) (hr2 : lay[r2]? = some (.inl (0, 294))) (m : fm_M) {res : fm_M} (h : f_X5_copyFrom p r p2 r2 m = some res) : fm_Met lay 2 m_X5_copyFrom [.ref p, .ref p2] m (fm_pv res) := by
  refine fm_Met_of (ls := [some (.ref p), some (.ref p2)]) (by decide) rfl (fm_cc_r _ (fm_cc_r _ fm_cc_0)) (Nat.le_of_ble_eq_true rfl) rfl ?_
  unfold f_X5_copyFrom at h
  refine go_aload_n (pc := 0) dX5_copyFrom_0 rfl rfl ?_
  refine go_getR (pc := 1) (k := 0) (q2 := r2) dX5_copyFrom_1 cl_X5 hp2 rfl (by decide) lk_X5_9 ?_
  refine go_iconst (pc := 4) (v := (0 : Int32)) dX5_copyFrom_4 (by decide) ?_
  refine go_aload_n (pc := 5) dX5_copyFrom_5 rfl rfl ?_
  refine go_getR (pc := 6) (k := 0) (q2 := r) dX5_copyFrom_6 cl_X5 hp rfl (by decide) lk_X5_9 ?_
  refine go_iconst (pc := 9) (v := (0 : Int32)) dX5_copyFrom_9 (by decide) ?_
  refine go_aload_n (pc := 10) dX5_copyFrom_10 rfl rfl ?_
  refine go_getR (pc := 11) (k := 0) (q2 := r) dX5_copyFrom_11 cl_X5 hp rfl (by decide) lk_X5_9 ?_
  refine go_alen (pc := 14) (v := (294 : Int32)) dX5_copyFrom_14 hr (by decide) ?_
  refine go_aload_n (pc := 15) dX5_copyFrom_15 rfl rfl ?_
  refine go_getR (pc := 16) (k := 0) (q2 := r2) dX5_copyFrom_16 cl_X5 hp2 rfl (by decide) lk_X5_9 ?_
  refine go_alen (pc := 19) (v := (294 : Int32)) dX5_copyFrom_19 hr2 (by decide) ?_
  refine go_min (pc := 20) dX5_copyFrom_20 ml_X5_23 (by decide) (Nat.le_of_ble_eq_true rfl) ?_
  obtain ⟨hi1, h⟩ := fm_chk h
  obtain ⟨hi1a, hi1b, hi1c, hi1d, hi1e⟩ := fm_cpok_of hi1
  refine go_copy (pc := 23) dX5_copyFrom_23 ml_X5_29 (by decide) (Nat.le_of_ble_eq_true rfl) hr2 hr hi1a hi1b hi1c hi1d hi1e ?_
  obtain rfl := Option.some.inj h
  exact go_vret (pc := 26) dX5_copyFrom_26 rfl ⟨rfl, rfl⟩
def f_X5_get (p : Nat) (r : Nat) (x1 : Int32) (m : fm_M) : Option (Int32) :=
  if x1 < 0 then (some (0 : Int32)) else (if (294 : Int32) ≤ x1 then (some (0 : Int32)) else (if fm_in x1 294 = true then (some (m r x1.toNatClampNeg)) else none))
set_option maxRecDepth 100000 in
set_option maxHeartbeats 4000000 in
theorem c_X5_get {lay : List fm_L} {p r : Nat} (hp : lay[p]? = some (.inr (5, [some (some r)]))) (hr : lay[r]? = some (.inl (0, 294))) (x1 : Int32) (m : fm_M) {res : Int32} (h : f_X5_get p r x1 m = some res) : fm_Met lay 0 m_X5_get [.ref p, .int x1] m (fm_pi res m) := by
  refine fm_Met_of (ls := [some (.ref p), some (.int x1)]) (by decide) rfl (fm_cc_r _ (fm_cc_i _ fm_cc_0)) (Nat.le_of_ble_eq_true rfl) rfl ?_
  unfold f_X5_get at h
  refine go_iload_n (pc := 0) dX5_get_0 rfl rfl ?_
  refine go_if_lt (pc := 1) (tgt := 22) dX5_get_1 (by decide) (fun c1 => ?_) (fun c1 => ?_)
  · rw [if_pos c1] at h
    refine go_iconst (pc := 22) (v := (0 : Int32)) dX5_get_22 (by decide) ?_
    obtain rfl := Option.some.inj h
    exact go_iret (pc := 23) .int dX5_get_23 rfl rfl ⟨rfl, rfl⟩
  · rw [if_neg c1] at h
    refine go_iload_n (pc := 4) dX5_get_4 rfl rfl ?_
    refine go_aload_n (pc := 5) dX5_get_5 rfl rfl ?_
    refine go_getR (pc := 6) (k := 0) (q2 := r) dX5_get_6 cl_X5 hp rfl (by decide) lk_X5_9 ?_
    refine go_alen (pc := 9) (v := (294 : Int32)) dX5_get_9 hr (by decide) ?_
    refine go_icmp_ge (pc := 10) (tgt := 22) dX5_get_10 (by decide) (fun c2 => ?_) (fun c2 => ?_)
    · rw [if_pos c2] at h
      refine go_iconst (pc := 22) (v := (0 : Int32)) dX5_get_22 (by decide) ?_
      obtain rfl := Option.some.inj h
      exact go_iret (pc := 23) .int dX5_get_23 rfl rfl ⟨rfl, rfl⟩
    · rw [if_neg c2] at h
      refine go_aload_n (pc := 13) dX5_get_13 rfl rfl ?_
      refine go_getR (pc := 14) (k := 0) (q2 := r) dX5_get_14 cl_X5 hp rfl (by decide) lk_X5_9 ?_
      refine go_iload_n (pc := 17) dX5_get_17 rfl rfl ?_
      obtain ⟨hi3, h⟩ := fm_chk h
      refine go_iald (pc := 18) dX5_get_18 hr (fm_in_vp hi3) ?_
      refine go_goto (pc := 19) (tgt := 23) dX5_get_19 (by decide) ?_
      obtain rfl := Option.some.inj h
      exact go_iret (pc := 23) .int dX5_get_23 rfl rfl ⟨rfl, rfl⟩
def f_X5_isBrother (p : Nat) (r : Nat) (x1 : Int32) (m : fm_M) : Option (Bool) :=
  if x1 < 0 then (some false) else ((f_X5_get p r (284 : Int32) m).bind fun v2 => if v2 ≤ x1 then (some false) else (some true))
set_option maxRecDepth 100000 in
set_option maxHeartbeats 4000000 in
theorem c_X5_isBrother {lay : List fm_L} {p r : Nat} (hp : lay[p]? = some (.inr (5, [some (some r)]))) (hr : lay[r]? = some (.inl (0, 294))) (x1 : Int32) (m : fm_M) {res : Bool} (h : f_X5_isBrother p r x1 m = some res) : fm_Met lay 1 m_X5_isBrother [.ref p, .int x1] m (fm_pi (fm_b res) m) := by
  refine fm_Met_of (ls := [some (.ref p), some (.int x1)]) (by decide) rfl (fm_cc_r _ (fm_cc_i _ fm_cc_0)) (Nat.le_of_ble_eq_true rfl) rfl ?_
  unfold f_X5_isBrother at h
  refine go_iload_n (pc := 0) dX5_isBrother_0 rfl rfl ?_
  refine go_if_lt (pc := 1) (tgt := 19) dX5_isBrother_1 (by decide) (fun c1 => ?_) (fun c1 => ?_)
  · rw [if_pos c1] at h
    refine go_iconst (pc := 19) (v := (0 : Int32)) dX5_isBrother_19 (by decide) ?_
    obtain rfl := Option.some.inj h
    exact go_iret (pc := 20) .boolean dX5_isBrother_20 rfl rfl ⟨rfl, rfl⟩
  · rw [if_neg c1] at h
    refine go_iload_n (pc := 4) dX5_isBrother_4 rfl rfl ?_
    refine go_aload_n (pc := 5) dX5_isBrother_5 rfl rfl ?_
    refine go_sipush (pc := 6) (v := (284 : Int32)) dX5_isBrother_6 (by decide) ?_
    obtain ⟨v2, hv3, h⟩ := fm_bind h
    refine go_callVi (pc := 9) (As := [.int (284 : Int32)]) (st := [.int x1]) dX5_isBrother_9 (c_X5_get (p := p) (r := r) hp hr _ _ hv3) (by decide) ce_X5_get ml_X5_35 in_X5_get se_X5_get cl_X5 hp rfl (Nat.le_of_ble_eq_true rfl) rfl ?_
    refine go_icmp_ge (pc := 12) (tgt := 19) dX5_isBrother_12 (by decide) (fun c4 => ?_) (fun c4 => ?_)
    · rw [if_pos c4] at h
      refine go_iconst (pc := 19) (v := (0 : Int32)) dX5_isBrother_19 (by decide) ?_
      obtain rfl := Option.some.inj h
      exact go_iret (pc := 20) .boolean dX5_isBrother_20 rfl rfl ⟨rfl, rfl⟩
    · rw [if_neg c4] at h
      refine go_iconst (pc := 15) (v := (1 : Int32)) dX5_isBrother_15 (by decide) ?_
      refine go_goto (pc := 16) (tgt := 20) dX5_isBrother_16 (by decide) ?_
      obtain rfl := Option.some.inj h
      exact go_iret (pc := 20) .boolean dX5_isBrother_20 rfl rfl ⟨rfl, rfl⟩
def f_X5_of (p : Nat) (r : Nat) (x1 : Int32) (x2 : Int32) (m : fm_M) : Option (Int32) :=
  if ((x1 * (16 : Int32)) + x2) < 0 then (some (0 : Int32)) else (if (294 : Int32) ≤ ((x1 * (16 : Int32)) + x2) then (some (0 : Int32)) else (if fm_in ((x1 * (16 : Int32)) + x2) 294 = true then (some (m r ((x1 * (16 : Int32)) + x2).toNatClampNeg)) else none))
set_option maxRecDepth 100000 in
set_option maxHeartbeats 4000000 in
theorem c_X5_of {lay : List fm_L} {p r : Nat} (hp : lay[p]? = some (.inr (5, [some (some r)]))) (hr : lay[r]? = some (.inl (0, 294))) (x1 : Int32) (x2 : Int32) (m : fm_M) {res : Int32} (h : f_X5_of p r x1 x2 m = some res) : fm_Met lay 0 m_X5_of [.ref p, .int x1, .int x2] m (fm_pi res m) := by
  refine fm_Met_of (ls := [some (.ref p), some (.int x1), some (.int x2), none]) (by decide) rfl (fm_cc_r _ (fm_cc_i _ (fm_cc_i _ fm_cc_0))) (Nat.le_of_ble_eq_true rfl) rfl ?_
  unfold f_X5_of at h
  refine go_iload_n (pc := 0) dX5_of_0 rfl rfl ?_
  refine go_bipush (pc := 1) (v := (16 : Int32)) dX5_of_1 (by decide) ?_
  refine go_imul (pc := 3) dX5_of_3 ?_
  refine go_iload_n (pc := 4) dX5_of_4 rfl rfl ?_
  refine go_iadd (pc := 5) dX5_of_5 ?_
  refine go_istore_n (pc := 6) (ls1 := [some (.ref p), some (.int x1), some (.int x2), some (.int ((x1 * (16 : Int32)) + x2))]) dX5_of_6 rfl (by decide) rfl ?_
  refine go_iload_n (pc := 7) dX5_of_7 rfl rfl ?_
  refine go_if_lt (pc := 8) (tgt := 29) dX5_of_8 (by decide) (fun c1 => ?_) (fun c1 => ?_)
  · rw [if_pos c1] at h
    refine go_iconst (pc := 29) (v := (0 : Int32)) dX5_of_29 (by decide) ?_
    obtain rfl := Option.some.inj h
    exact go_iret (pc := 30) .int dX5_of_30 rfl rfl ⟨rfl, rfl⟩
  · rw [if_neg c1] at h
    refine go_iload_n (pc := 11) dX5_of_11 rfl rfl ?_
    refine go_aload_n (pc := 12) dX5_of_12 rfl rfl ?_
    refine go_getR (pc := 13) (k := 0) (q2 := r) dX5_of_13 cl_X5 hp rfl (by decide) lk_X5_9 ?_
    refine go_alen (pc := 16) (v := (294 : Int32)) dX5_of_16 hr (by decide) ?_
    refine go_icmp_ge (pc := 17) (tgt := 29) dX5_of_17 (by decide) (fun c2 => ?_) (fun c2 => ?_)
    · rw [if_pos c2] at h
      refine go_iconst (pc := 29) (v := (0 : Int32)) dX5_of_29 (by decide) ?_
      obtain rfl := Option.some.inj h
      exact go_iret (pc := 30) .int dX5_of_30 rfl rfl ⟨rfl, rfl⟩
    · rw [if_neg c2] at h
      refine go_aload_n (pc := 20) dX5_of_20 rfl rfl ?_
      refine go_getR (pc := 21) (k := 0) (q2 := r) dX5_of_21 cl_X5 hp rfl (by decide) lk_X5_9 ?_
      refine go_iload_n (pc := 24) dX5_of_24 rfl rfl ?_
      obtain ⟨hi3, h⟩ := fm_chk h
      refine go_iald (pc := 25) dX5_of_25 hr (fm_in_vp hi3) ?_
      refine go_goto (pc := 26) (tgt := 30) dX5_of_26 (by decide) ?_
      obtain rfl := Option.some.inj h
      exact go_iret (pc := 30) .int dX5_of_30 rfl rfl ⟨rfl, rfl⟩
def f_X5_is (p : Nat) (r : Nat) (x1 : Int32) (x2 : Int32) (m : fm_M) : Option (Bool) :=
  (f_X5_of p r (2 : Int32) x2 m).bind fun v1 => if v1 = x1 then (some true) else (some false)
set_option maxRecDepth 100000 in
set_option maxHeartbeats 4000000 in
theorem c_X5_is {lay : List fm_L} {p r : Nat} (hp : lay[p]? = some (.inr (5, [some (some r)]))) (hr : lay[r]? = some (.inl (0, 294))) (x1 : Int32) (x2 : Int32) (m : fm_M) {res : Bool} (h : f_X5_is p r x1 x2 m = some res) : fm_Met lay 1 m_X5_is [.ref p, .int x1, .int x2] m (fm_pi (fm_b res) m) := by
  refine fm_Met_of (ls := [some (.ref p), some (.int x1), some (.int x2)]) (by decide) rfl (fm_cc_r _ (fm_cc_i _ (fm_cc_i _ fm_cc_0))) (Nat.le_of_ble_eq_true rfl) rfl ?_
  unfold f_X5_is at h
  refine go_aload_n (pc := 0) dX5_is_0 rfl rfl ?_
  refine go_iconst (pc := 1) (v := (2 : Int32)) dX5_is_1 (by decide) ?_
  refine go_iload_n (pc := 2) dX5_is_2 rfl rfl ?_
  obtain ⟨v1, hv2, h⟩ := fm_bind h
  refine go_callVi (pc := 3) (As := [.int (2 : Int32), .int x2]) (st := []) dX5_is_3 (c_X5_of (p := p) (r := r) hp hr _ _ _ hv2) (by decide) ce_X5_of ml_X5_39 in_X5_of se_X5_of cl_X5 hp rfl (Nat.le_of_ble_eq_true rfl) rfl ?_
  refine go_iload_n (pc := 6) dX5_is_6 rfl rfl ?_
  refine go_icmp_ne (pc := 7) (tgt := 14) dX5_is_7 (by decide) (fun c3 => ?_) (fun c3 => ?_)
  · rw [if_neg c3] at h
    refine go_iconst (pc := 14) (v := (0 : Int32)) dX5_is_14 (by decide) ?_
    obtain rfl := Option.some.inj h
    exact go_iret (pc := 15) .boolean dX5_is_15 rfl rfl ⟨rfl, rfl⟩
  · rw [if_pos c3] at h
    refine go_iconst (pc := 10) (v := (1 : Int32)) dX5_is_10 (by decide) ?_
    refine go_goto (pc := 11) (tgt := 15) dX5_is_11 (by decide) ?_
    obtain rfl := Option.some.inj h
    exact go_iret (pc := 15) .boolean dX5_is_15 rfl rfl ⟨rfl, rfl⟩
def f_X5_howMany_L4 (p : Nat) (r : Nat) : Nat → Int32 → Int32 → Int32 → fm_M → Option (Int32)
  | 0, _, _, _, _ => none
  | n + 1, y1, y2, y3, m => if (16 : Int32) ≤ y3 then (some y2) else ((f_X5_is p r y1 y3 m).bind fun v2 => if v2 = true then (f_X5_howMany_L4 p r n y1 (y2 + (1 : Int32)) (y3 + (1 : Int32)) m) else (f_X5_howMany_L4 p r n y1 y2 (y3 + (1 : Int32)) m))
def f_X5_howMany (p : Nat) (r : Nat) (x1 : Int32) (m : fm_M) : Option (Int32) :=
  f_X5_howMany_L4 p r fm_F x1 (0 : Int32) (0 : Int32) m
set_option maxRecDepth 100000 in
set_option maxHeartbeats 4000000 in
theorem c_X5_howMany_L4 {lay : List fm_L} {p r : Nat} (hp : lay[p]? = some (.inr (5, [some (some r)]))) (hr : lay[r]? = some (.inl (0, 294))) : ∀ (n : Nat) (y1 : Int32) (y2 : Int32) (y3 : Int32) (m : fm_M) (res : Int32), f_X5_howMany_L4 p r n y1 y2 y3 m = some res → fm_Go lay 2 m_X5_howMany (fm_pi res m) 4 [some (.ref p), some (.int y1), some (.int y2), some (.int y3)] [] m := by
  intro n
  induction n with
  | zero => intro y1 y2 y3 m res h; cases h
  | succ n ih =>
    intro y1 y2 y3 m res h
    rw [f_X5_howMany_L4] at h
    refine go_iload_n (pc := 4) dX5_howMany_4 rfl rfl ?_
    refine go_bipush (pc := 5) (v := (16 : Int32)) dX5_howMany_5 (by decide) ?_
    refine go_icmp_ge (pc := 7) (tgt := 28) dX5_howMany_7 (by decide) (fun c1 => ?_) (fun c1 => ?_)
    · rw [if_pos c1] at h
      refine go_iload_n (pc := 28) dX5_howMany_28 rfl rfl ?_
      obtain rfl := Option.some.inj h
      exact go_iret (pc := 29) .int dX5_howMany_29 rfl rfl ⟨rfl, rfl⟩
    · rw [if_neg c1] at h
      refine go_aload_n (pc := 10) dX5_howMany_10 rfl rfl ?_
      refine go_iload_n (pc := 11) dX5_howMany_11 rfl rfl ?_
      refine go_iload_n (pc := 12) dX5_howMany_12 rfl rfl ?_
      obtain ⟨v2, hv3, h⟩ := fm_bind h
      refine go_callVi (pc := 13) (As := [.int y1, .int y3]) (st := []) dX5_howMany_13 (c_X5_is (p := p) (r := r) hp hr _ _ _ hv3) (by decide) ce_X5_is ml_X5_42 in_X5_is se_X5_is cl_X5 hp rfl (Nat.le_of_ble_eq_true rfl) rfl ?_
      refine go_ifb_eq (pc := 16) (tgt := 22) dX5_howMany_16 (by decide) (fun c4 => ?_) (fun c4 => ?_)
      · rw [if_neg (by rw [c4]; decide)] at h
        refine go_iinc (pc := 22) (v := (y3 + (1 : Int32))) (ls1 := [some (.ref p), some (.int y1), some (.int y2), some (.int (y3 + (1 : Int32)))]) dX5_howMany_22 rfl rfl (Nat.le_of_ble_eq_true rfl) rfl ?_
        refine go_goto (pc := 25) (tgt := 4) dX5_howMany_25 (by decide) ?_
        exact ih _ _ _ _ _ h
      · rw [if_pos c4] at h
        refine go_iinc (pc := 19) (v := (y2 + (1 : Int32))) (ls1 := [some (.ref p), some (.int y1), some (.int (y2 + (1 : Int32))), some (.int y3)]) dX5_howMany_19 rfl rfl (Nat.le_of_ble_eq_true rfl) rfl ?_
        refine go_iinc (pc := 22) (v := (y3 + (1 : Int32))) (ls1 := [some (.ref p), some (.int y1), some (.int (y2 + (1 : Int32))), some (.int (y3 + (1 : Int32)))]) dX5_howMany_22 rfl rfl (Nat.le_of_ble_eq_true rfl) rfl ?_
        refine go_goto (pc := 25) (tgt := 4) dX5_howMany_25 (by decide) ?_
        exact ih _ _ _ _ _ h
set_option maxRecDepth 100000 in
set_option maxHeartbeats 4000000 in
theorem c_X5_howMany {lay : List fm_L} {p r : Nat} (hp : lay[p]? = some (.inr (5, [some (some r)]))) (hr : lay[r]? = some (.inl (0, 294))) (x1 : Int32) (m : fm_M) {res : Int32} (h : f_X5_howMany p r x1 m = some res) : fm_Met lay 2 m_X5_howMany [.ref p, .int x1] m (fm_pi res m) := by
  refine fm_Met_of (ls := [some (.ref p), some (.int x1), none, none]) (by decide) rfl (fm_cc_r _ (fm_cc_i _ fm_cc_0)) (Nat.le_of_ble_eq_true rfl) rfl ?_
  unfold f_X5_howMany at h
  refine go_iconst (pc := 0) (v := (0 : Int32)) dX5_howMany_0 (by decide) ?_
  refine go_istore_n (pc := 1) (ls1 := [some (.ref p), some (.int x1), some (.int (0 : Int32)), none]) dX5_howMany_1 rfl (by decide) rfl ?_
  refine go_iconst (pc := 2) (v := (0 : Int32)) dX5_howMany_2 (by decide) ?_
  refine go_istore_n (pc := 3) (ls1 := [some (.ref p), some (.int x1), some (.int (0 : Int32)), some (.int (0 : Int32))]) dX5_howMany_3 rfl (by decide) rfl ?_
  exact c_X5_howMany_L4 hp hr fm_F _ _ _ _ _ h
def f_X5_voicesFor_L4 (p : Nat) (r : Nat) : Nat → Int32 → Int32 → Int32 → fm_M → Option (Int32)
  | 0, _, _, _, _ => none
  | n + 1, y1, y2, y3, m => if (16 : Int32) ≤ y3 then ((f_X5_of p r (1 : Int32) y1 m).bind fun v2 => if v2 = (1 : Int32) then (some ((2 : Int32) * y2)) else (some y2)) else ((f_X5_of p r (7 : Int32) y3 m).bind fun v5 => if v5 = y1 then (f_X5_voicesFor_L4 p r n y1 (y2 + (1 : Int32)) (y3 + (1 : Int32)) m) else (f_X5_voicesFor_L4 p r n y1 y2 (y3 + (1 : Int32)) m))
def f_X5_voicesFor (p : Nat) (r : Nat) (x1 : Int32) (m : fm_M) : Option (Int32) :=
  f_X5_voicesFor_L4 p r fm_F x1 (0 : Int32) (0 : Int32) m
set_option maxRecDepth 100000 in
set_option maxHeartbeats 4000000 in
theorem c_X5_voicesFor_L4 {lay : List fm_L} {p r : Nat} (hp : lay[p]? = some (.inr (5, [some (some r)]))) (hr : lay[r]? = some (.inl (0, 294))) : ∀ (n : Nat) (y1 : Int32) (y2 : Int32) (y3 : Int32) (m : fm_M) (res : Int32), f_X5_voicesFor_L4 p r n y1 y2 y3 m = some res → fm_Go lay 1 m_X5_voicesFor (fm_pi res m) 4 [some (.ref p), some (.int y1), some (.int y2), some (.int y3)] [] m := by
  intro n
  induction n with
  | zero => intro y1 y2 y3 m res h; cases h
  | succ n ih =>
    intro y1 y2 y3 m res h
    rw [f_X5_voicesFor_L4] at h
    refine go_iload_n (pc := 4) dX5_voicesFor_4 rfl rfl ?_
    refine go_bipush (pc := 5) (v := (16 : Int32)) dX5_voicesFor_5 (by decide) ?_
    refine go_icmp_ge (pc := 7) (tgt := 30) dX5_voicesFor_7 (by decide) (fun c1 => ?_) (fun c1 => ?_)
    · rw [if_pos c1] at h
      refine go_aload_n (pc := 30) dX5_voicesFor_30 rfl rfl ?_
      refine go_iconst (pc := 31) (v := (1 : Int32)) dX5_voicesFor_31 (by decide) ?_
      refine go_iload_n (pc := 32) dX5_voicesFor_32 rfl rfl ?_
      obtain ⟨v2, hv3, h⟩ := fm_bind h
      refine go_callVi (pc := 33) (As := [.int (1 : Int32), .int y1]) (st := []) dX5_voicesFor_33 (c_X5_of (p := p) (r := r) hp hr _ _ _ hv3) (by decide) ce_X5_of ml_X5_39 in_X5_of se_X5_of cl_X5 hp rfl (Nat.le_of_ble_eq_true rfl) rfl ?_
      refine go_iconst (pc := 36) (v := (1 : Int32)) dX5_voicesFor_36 (by decide) ?_
      refine go_icmp_ne (pc := 37) (tgt := 46) dX5_voicesFor_37 (by decide) (fun c4 => ?_) (fun c4 => ?_)
      · rw [if_neg c4] at h
        refine go_iload_n (pc := 46) dX5_voicesFor_46 rfl rfl ?_
        obtain rfl := Option.some.inj h
        exact go_iret (pc := 47) .int dX5_voicesFor_47 rfl rfl ⟨rfl, rfl⟩
      · rw [if_pos c4] at h
        refine go_iconst (pc := 40) (v := (2 : Int32)) dX5_voicesFor_40 (by decide) ?_
        refine go_iload_n (pc := 41) dX5_voicesFor_41 rfl rfl ?_
        refine go_imul (pc := 42) dX5_voicesFor_42 ?_
        refine go_goto (pc := 43) (tgt := 47) dX5_voicesFor_43 (by decide) ?_
        obtain rfl := Option.some.inj h
        exact go_iret (pc := 47) .int dX5_voicesFor_47 rfl rfl ⟨rfl, rfl⟩
    · rw [if_neg c1] at h
      refine go_aload_n (pc := 10) dX5_voicesFor_10 rfl rfl ?_
      refine go_bipush (pc := 11) (v := (7 : Int32)) dX5_voicesFor_11 (by decide) ?_
      refine go_iload_n (pc := 13) dX5_voicesFor_13 rfl rfl ?_
      obtain ⟨v5, hv6, h⟩ := fm_bind h
      refine go_callVi (pc := 14) (As := [.int (7 : Int32), .int y3]) (st := []) dX5_voicesFor_14 (c_X5_of (p := p) (r := r) hp hr _ _ _ hv6) (by decide) ce_X5_of ml_X5_39 in_X5_of se_X5_of cl_X5 hp rfl (Nat.le_of_ble_eq_true rfl) rfl ?_
      refine go_iload_n (pc := 17) dX5_voicesFor_17 rfl rfl ?_
      refine go_icmp_ne (pc := 18) (tgt := 24) dX5_voicesFor_18 (by decide) (fun c7 => ?_) (fun c7 => ?_)
      · rw [if_neg c7] at h
        refine go_iinc (pc := 24) (v := (y3 + (1 : Int32))) (ls1 := [some (.ref p), some (.int y1), some (.int y2), some (.int (y3 + (1 : Int32)))]) dX5_voicesFor_24 rfl rfl (Nat.le_of_ble_eq_true rfl) rfl ?_
        refine go_goto (pc := 27) (tgt := 4) dX5_voicesFor_27 (by decide) ?_
        exact ih _ _ _ _ _ h
      · rw [if_pos c7] at h
        refine go_iinc (pc := 21) (v := (y2 + (1 : Int32))) (ls1 := [some (.ref p), some (.int y1), some (.int (y2 + (1 : Int32))), some (.int y3)]) dX5_voicesFor_21 rfl rfl (Nat.le_of_ble_eq_true rfl) rfl ?_
        refine go_iinc (pc := 24) (v := (y3 + (1 : Int32))) (ls1 := [some (.ref p), some (.int y1), some (.int (y2 + (1 : Int32))), some (.int (y3 + (1 : Int32)))]) dX5_voicesFor_24 rfl rfl (Nat.le_of_ble_eq_true rfl) rfl ?_
        refine go_goto (pc := 27) (tgt := 4) dX5_voicesFor_27 (by decide) ?_
        exact ih _ _ _ _ _ h
set_option maxRecDepth 100000 in
set_option maxHeartbeats 4000000 in
theorem c_X5_voicesFor {lay : List fm_L} {p r : Nat} (hp : lay[p]? = some (.inr (5, [some (some r)]))) (hr : lay[r]? = some (.inl (0, 294))) (x1 : Int32) (m : fm_M) {res : Int32} (h : f_X5_voicesFor p r x1 m = some res) : fm_Met lay 1 m_X5_voicesFor [.ref p, .int x1] m (fm_pi res m) := by
  refine fm_Met_of (ls := [some (.ref p), some (.int x1), none, none]) (by decide) rfl (fm_cc_r _ (fm_cc_i _ fm_cc_0)) (Nat.le_of_ble_eq_true rfl) rfl ?_
  unfold f_X5_voicesFor at h
  refine go_iconst (pc := 0) (v := (0 : Int32)) dX5_voicesFor_0 (by decide) ?_
  refine go_istore_n (pc := 1) (ls1 := [some (.ref p), some (.int x1), some (.int (0 : Int32)), none]) dX5_voicesFor_1 rfl (by decide) rfl ?_
  refine go_iconst (pc := 2) (v := (0 : Int32)) dX5_voicesFor_2 (by decide) ?_
  refine go_istore_n (pc := 3) (ls1 := [some (.ref p), some (.int x1), some (.int (0 : Int32)), some (.int (0 : Int32))]) dX5_voicesFor_3 rfl (by decide) rfl ?_
  exact c_X5_voicesFor_L4 hp hr fm_F _ _ _ _ _ h
def f_X5_pittanceIn (p : Nat) (r : Nat) (x1 : Int32) (m : fm_M) : Option (Int32) :=
  if x1 < 0 then (some (0 : Int32)) else (if (52 : Int32) ≤ x1 then (some (0 : Int32)) else ((f_X5_get p r ((232 : Int32) + x1) m).bind fun v3 => some v3))
set_option maxRecDepth 100000 in
set_option maxHeartbeats 4000000 in
theorem c_X5_pittanceIn {lay : List fm_L} {p r : Nat} (hp : lay[p]? = some (.inr (5, [some (some r)]))) (hr : lay[r]? = some (.inl (0, 294))) (x1 : Int32) (m : fm_M) {res : Int32} (h : f_X5_pittanceIn p r x1 m = some res) : fm_Met lay 1 m_X5_pittanceIn [.ref p, .int x1] m (fm_pi res m) := by
  refine fm_Met_of (ls := [some (.ref p), some (.int x1)]) (by decide) rfl (fm_cc_r _ (fm_cc_i _ fm_cc_0)) (Nat.le_of_ble_eq_true rfl) rfl ?_
  unfold f_X5_pittanceIn at h
  refine go_iload_n (pc := 0) dX5_pittanceIn_0 rfl rfl ?_
  refine go_if_lt (pc := 1) (tgt := 22) dX5_pittanceIn_1 (by decide) (fun c1 => ?_) (fun c1 => ?_)
  · rw [if_pos c1] at h
    refine go_iconst (pc := 22) (v := (0 : Int32)) dX5_pittanceIn_22 (by decide) ?_
    obtain rfl := Option.some.inj h
    exact go_iret (pc := 23) .int dX5_pittanceIn_23 rfl rfl ⟨rfl, rfl⟩
  · rw [if_neg c1] at h
    refine go_iload_n (pc := 4) dX5_pittanceIn_4 rfl rfl ?_
    refine go_bipush (pc := 5) (v := (52 : Int32)) dX5_pittanceIn_5 (by decide) ?_
    refine go_icmp_ge (pc := 7) (tgt := 22) dX5_pittanceIn_7 (by decide) (fun c2 => ?_) (fun c2 => ?_)
    · rw [if_pos c2] at h
      refine go_iconst (pc := 22) (v := (0 : Int32)) dX5_pittanceIn_22 (by decide) ?_
      obtain rfl := Option.some.inj h
      exact go_iret (pc := 23) .int dX5_pittanceIn_23 rfl rfl ⟨rfl, rfl⟩
    · rw [if_neg c2] at h
      refine go_aload_n (pc := 10) dX5_pittanceIn_10 rfl rfl ?_
      refine go_sipush (pc := 11) (v := (232 : Int32)) dX5_pittanceIn_11 (by decide) ?_
      refine go_iload_n (pc := 14) dX5_pittanceIn_14 rfl rfl ?_
      refine go_iadd (pc := 15) dX5_pittanceIn_15 ?_
      obtain ⟨v3, hv4, h⟩ := fm_bind h
      refine go_callVi (pc := 16) (As := [.int ((232 : Int32) + x1)]) (st := []) dX5_pittanceIn_16 (c_X5_get (p := p) (r := r) hp hr _ _ hv4) (by decide) ce_X5_get ml_X5_35 in_X5_get se_X5_get cl_X5 hp rfl (Nat.le_of_ble_eq_true rfl) rfl ?_
      refine go_goto (pc := 19) (tgt := 23) dX5_pittanceIn_19 (by decide) ?_
      obtain rfl := Option.some.inj h
      exact go_iret (pc := 23) .int dX5_pittanceIn_23 rfl rfl ⟨rfl, rfl⟩
def f_X5_feastsTold_L4 (p : Nat) (r : Nat) : Nat → Int32 → Int32 → fm_M → Option (Int32)
  | 0, _, _, _ => none
  | n + 1, y1, y2, m => if (52 : Int32) ≤ y2 then (some y1) else ((f_X5_pittanceIn p r y2 m).bind fun v2 => if v2 ≤ 0 then (f_X5_feastsTold_L4 p r n y1 (y2 + (1 : Int32)) m) else (f_X5_feastsTold_L4 p r n (y1 + (1 : Int32)) (y2 + (1 : Int32)) m))
def f_X5_feastsTold (p : Nat) (r : Nat) (m : fm_M) : Option (Int32) :=
  f_X5_feastsTold_L4 p r fm_F (0 : Int32) (0 : Int32) m
set_option maxRecDepth 100000 in
set_option maxHeartbeats 4000000 in
theorem c_X5_feastsTold_L4 {lay : List fm_L} {p r : Nat} (hp : lay[p]? = some (.inr (5, [some (some r)]))) (hr : lay[r]? = some (.inl (0, 294))) : ∀ (n : Nat) (y1 : Int32) (y2 : Int32) (m : fm_M) (res : Int32), f_X5_feastsTold_L4 p r n y1 y2 m = some res → fm_Go lay 2 m_X5_feastsTold (fm_pi res m) 4 [some (.ref p), some (.int y1), some (.int y2)] [] m := by
  intro n
  induction n with
  | zero => intro y1 y2 m res h; cases h
  | succ n ih =>
    intro y1 y2 m res h
    rw [f_X5_feastsTold_L4] at h
    refine go_iload_n (pc := 4) dX5_feastsTold_4 rfl rfl ?_
    refine go_bipush (pc := 5) (v := (52 : Int32)) dX5_feastsTold_5 (by decide) ?_
    refine go_icmp_ge (pc := 7) (tgt := 27) dX5_feastsTold_7 (by decide) (fun c1 => ?_) (fun c1 => ?_)
    · rw [if_pos c1] at h
      refine go_iload_n (pc := 27) dX5_feastsTold_27 rfl rfl ?_
      obtain rfl := Option.some.inj h
      exact go_iret (pc := 28) .int dX5_feastsTold_28 rfl rfl ⟨rfl, rfl⟩
    · rw [if_neg c1] at h
      refine go_aload_n (pc := 10) dX5_feastsTold_10 rfl rfl ?_
      refine go_iload_n (pc := 11) dX5_feastsTold_11 rfl rfl ?_
      obtain ⟨v2, hv3, h⟩ := fm_bind h
      refine go_callVi (pc := 12) (As := [.int y2]) (st := []) dX5_feastsTold_12 (c_X5_pittanceIn (p := p) (r := r) hp hr _ _ hv3) (by decide) ce_X5_pittanceIn ml_X5_50 in_X5_pittanceIn se_X5_pittanceIn cl_X5 hp rfl (Nat.le_of_ble_eq_true rfl) rfl ?_
      refine go_if_le (pc := 15) (tgt := 21) dX5_feastsTold_15 (by decide) (fun c4 => ?_) (fun c4 => ?_)
      · rw [if_pos c4] at h
        refine go_iinc (pc := 21) (v := (y2 + (1 : Int32))) (ls1 := [some (.ref p), some (.int y1), some (.int (y2 + (1 : Int32)))]) dX5_feastsTold_21 rfl rfl (Nat.le_of_ble_eq_true rfl) rfl ?_
        refine go_goto (pc := 24) (tgt := 4) dX5_feastsTold_24 (by decide) ?_
        exact ih _ _ _ _ h
      · rw [if_neg c4] at h
        refine go_iinc (pc := 18) (v := (y1 + (1 : Int32))) (ls1 := [some (.ref p), some (.int (y1 + (1 : Int32))), some (.int y2)]) dX5_feastsTold_18 rfl rfl (Nat.le_of_ble_eq_true rfl) rfl ?_
        refine go_iinc (pc := 21) (v := (y2 + (1 : Int32))) (ls1 := [some (.ref p), some (.int (y1 + (1 : Int32))), some (.int (y2 + (1 : Int32)))]) dX5_feastsTold_21 rfl rfl (Nat.le_of_ble_eq_true rfl) rfl ?_
        refine go_goto (pc := 24) (tgt := 4) dX5_feastsTold_24 (by decide) ?_
        exact ih _ _ _ _ h
set_option maxRecDepth 100000 in
set_option maxHeartbeats 4000000 in
theorem c_X5_feastsTold {lay : List fm_L} {p r : Nat} (hp : lay[p]? = some (.inr (5, [some (some r)]))) (hr : lay[r]? = some (.inl (0, 294))) (m : fm_M) {res : Int32} (h : f_X5_feastsTold p r m = some res) : fm_Met lay 2 m_X5_feastsTold [.ref p] m (fm_pi res m) := by
  refine fm_Met_of (ls := [some (.ref p), none, none]) (by decide) rfl (fm_cc_r _ fm_cc_0) (Nat.le_of_ble_eq_true rfl) rfl ?_
  unfold f_X5_feastsTold at h
  refine go_iconst (pc := 0) (v := (0 : Int32)) dX5_feastsTold_0 (by decide) ?_
  refine go_istore_n (pc := 1) (ls1 := [some (.ref p), some (.int (0 : Int32)), none]) dX5_feastsTold_1 rfl (by decide) rfl ?_
  refine go_iconst (pc := 2) (v := (0 : Int32)) dX5_feastsTold_2 (by decide) ?_
  refine go_istore_n (pc := 3) (ls1 := [some (.ref p), some (.int (0 : Int32)), some (.int (0 : Int32))]) dX5_feastsTold_3 rfl (by decide) rfl ?_
  exact c_X5_feastsTold_L4 hp hr fm_F _ _ _ _ h
def f_X5_takeIn (p : Nat) (r : Nat) (x1 : Int32) (m : fm_M) : Option (fm_M) :=
  (f_X5_get p r (288 : Int32) m).bind fun v1 => (f_X5_get p r (288 : Int32) m).bind fun v3 => (f_X5_set p r (288 : Int32) (v3 + (if ((9999 : Int32) - v1) < x1 then ((9999 : Int32) - v1) else x1)) m).bind fun v5 => (f_X5_get p r (289 : Int32) v5).bind fun v7 => (f_X5_set p r (289 : Int32) (v7 + (if ((9999 : Int32) - v1) < x1 then ((9999 : Int32) - v1) else x1)) v5).bind fun v9 => some v9
set_option maxRecDepth 100000 in
set_option maxHeartbeats 4000000 in
theorem c_X5_takeIn {lay : List fm_L} {p r : Nat} (hp : lay[p]? = some (.inr (5, [some (some r)]))) (hr : lay[r]? = some (.inl (0, 294))) (x1 : Int32) (m : fm_M) {res : fm_M} (h : f_X5_takeIn p r x1 m = some res) : fm_Met lay 1 m_X5_takeIn [.ref p, .int x1] m (fm_pv res) := by
  refine fm_Met_of (ls := [some (.ref p), some (.int x1), none]) (by decide) rfl (fm_cc_r _ (fm_cc_i _ fm_cc_0)) (Nat.le_of_ble_eq_true rfl) rfl ?_
  unfold f_X5_takeIn at h
  refine go_iload_n (pc := 0) dX5_takeIn_0 rfl rfl ?_
  refine go_sipush (pc := 1) (v := (9999 : Int32)) dX5_takeIn_1 (by decide) ?_
  refine go_aload_n (pc := 4) dX5_takeIn_4 rfl rfl ?_
  refine go_sipush (pc := 5) (v := (288 : Int32)) dX5_takeIn_5 (by decide) ?_
  obtain ⟨v1, hv2, h⟩ := fm_bind h
  refine go_callVi (pc := 8) (As := [.int (288 : Int32)]) (st := [.int (9999 : Int32), .int x1]) dX5_takeIn_8 (c_X5_get (p := p) (r := r) hp hr _ _ hv2) (by decide) ce_X5_get ml_X5_35 in_X5_get se_X5_get cl_X5 hp rfl (Nat.le_of_ble_eq_true rfl) rfl ?_
  refine go_isub (pc := 11) dX5_takeIn_11 ?_
  refine go_min (pc := 12) dX5_takeIn_12 ml_X5_23 (by decide) (Nat.le_of_ble_eq_true rfl) ?_
  refine go_istore_n (pc := 15) (ls1 := [some (.ref p), some (.int x1), some (.int (if ((9999 : Int32) - v1) < x1 then ((9999 : Int32) - v1) else x1))]) dX5_takeIn_15 rfl (by decide) rfl ?_
  refine go_aload_n (pc := 16) dX5_takeIn_16 rfl rfl ?_
  refine go_sipush (pc := 17) (v := (288 : Int32)) dX5_takeIn_17 (by decide) ?_
  refine go_aload_n (pc := 20) dX5_takeIn_20 rfl rfl ?_
  refine go_sipush (pc := 21) (v := (288 : Int32)) dX5_takeIn_21 (by decide) ?_
  obtain ⟨v3, hv4, h⟩ := fm_bind h
  refine go_callVi (pc := 24) (As := [.int (288 : Int32)]) (st := [.int (288 : Int32), .ref p]) dX5_takeIn_24 (c_X5_get (p := p) (r := r) hp hr _ _ hv4) (by decide) ce_X5_get ml_X5_35 in_X5_get se_X5_get cl_X5 hp rfl (Nat.le_of_ble_eq_true rfl) rfl ?_
  refine go_iload_n (pc := 27) dX5_takeIn_27 rfl rfl ?_
  refine go_iadd (pc := 28) dX5_takeIn_28 ?_
  obtain ⟨v5, hv6, h⟩ := fm_bind h
  refine go_callVv (pc := 29) (As := [.int (288 : Int32), .int (v3 + (if ((9999 : Int32) - v1) < x1 then ((9999 : Int32) - v1) else x1))]) (st := []) dX5_takeIn_29 (c_X5_set (p := p) (r := r) hp hr _ _ _ hv6) (by decide) ce_X5_set ml_X5_19 in_X5_set se_X5_set cl_X5 hp rfl (Nat.le_of_ble_eq_true rfl) rfl ?_
  refine go_aload_n (pc := 32) dX5_takeIn_32 rfl rfl ?_
  refine go_sipush (pc := 33) (v := (289 : Int32)) dX5_takeIn_33 (by decide) ?_
  refine go_aload_n (pc := 36) dX5_takeIn_36 rfl rfl ?_
  refine go_sipush (pc := 37) (v := (289 : Int32)) dX5_takeIn_37 (by decide) ?_
  obtain ⟨v7, hv8, h⟩ := fm_bind h
  refine go_callVi (pc := 40) (As := [.int (289 : Int32)]) (st := [.int (289 : Int32), .ref p]) dX5_takeIn_40 (c_X5_get (p := p) (r := r) hp hr _ _ hv8) (by decide) ce_X5_get ml_X5_35 in_X5_get se_X5_get cl_X5 hp rfl (Nat.le_of_ble_eq_true rfl) rfl ?_
  refine go_iload_n (pc := 43) dX5_takeIn_43 rfl rfl ?_
  refine go_iadd (pc := 44) dX5_takeIn_44 ?_
  obtain ⟨v9, hv10, h⟩ := fm_bind h
  refine go_callVv (pc := 45) (As := [.int (289 : Int32), .int (v7 + (if ((9999 : Int32) - v1) < x1 then ((9999 : Int32) - v1) else x1))]) (st := []) dX5_takeIn_45 (c_X5_set (p := p) (r := r) hp hr _ _ _ hv10) (by decide) ce_X5_set ml_X5_19 in_X5_set se_X5_set cl_X5 hp rfl (Nat.le_of_ble_eq_true rfl) rfl ?_
  obtain rfl := Option.some.inj h
  exact go_vret (pc := 48) dX5_takeIn_48 rfl ⟨rfl, rfl⟩
def f_X5_isEntitled (p : Nat) (r : Nat) (x1 : Int32) (m : fm_M) : Option (Bool) :=
  (f_X5_of p r (2 : Int32) x1 m).bind fun v1 => if v1 = (1 : Int32) then ((f_X5_of p r (5 : Int32) x1 m).bind fun v4 => if v4 = 0 then (some true) else (some false)) else (some false)
set_option maxRecDepth 100000 in
set_option maxHeartbeats 4000000 in
theorem c_X5_isEntitled {lay : List fm_L} {p r : Nat} (hp : lay[p]? = some (.inr (5, [some (some r)]))) (hr : lay[r]? = some (.inl (0, 294))) (x1 : Int32) (m : fm_M) {res : Bool} (h : f_X5_isEntitled p r x1 m = some res) : fm_Met lay 1 m_X5_isEntitled [.ref p, .int x1] m (fm_pi (fm_b res) m) := by
  refine fm_Met_of (ls := [some (.ref p), some (.int x1)]) (by decide) rfl (fm_cc_r _ (fm_cc_i _ fm_cc_0)) (Nat.le_of_ble_eq_true rfl) rfl ?_
  unfold f_X5_isEntitled at h
  refine go_aload_n (pc := 0) dX5_isEntitled_0 rfl rfl ?_
  refine go_iconst (pc := 1) (v := (2 : Int32)) dX5_isEntitled_1 (by decide) ?_
  refine go_iload_n (pc := 2) dX5_isEntitled_2 rfl rfl ?_
  obtain ⟨v1, hv2, h⟩ := fm_bind h
  refine go_callVi (pc := 3) (As := [.int (2 : Int32), .int x1]) (st := []) dX5_isEntitled_3 (c_X5_of (p := p) (r := r) hp hr _ _ _ hv2) (by decide) ce_X5_of ml_X5_39 in_X5_of se_X5_of cl_X5 hp rfl (Nat.le_of_ble_eq_true rfl) rfl ?_
  refine go_iconst (pc := 6) (v := (1 : Int32)) dX5_isEntitled_6 (by decide) ?_
  refine go_icmp_ne (pc := 7) (tgt := 23) dX5_isEntitled_7 (by decide) (fun c3 => ?_) (fun c3 => ?_)
  · rw [if_neg c3] at h
    refine go_iconst (pc := 23) (v := (0 : Int32)) dX5_isEntitled_23 (by decide) ?_
    obtain rfl := Option.some.inj h
    exact go_iret (pc := 24) .boolean dX5_isEntitled_24 rfl rfl ⟨rfl, rfl⟩
  · rw [if_pos c3] at h
    refine go_aload_n (pc := 10) dX5_isEntitled_10 rfl rfl ?_
    refine go_iconst (pc := 11) (v := (5 : Int32)) dX5_isEntitled_11 (by decide) ?_
    refine go_iload_n (pc := 12) dX5_isEntitled_12 rfl rfl ?_
    obtain ⟨v4, hv5, h⟩ := fm_bind h
    refine go_callVi (pc := 13) (As := [.int (5 : Int32), .int x1]) (st := []) dX5_isEntitled_13 (c_X5_of (p := p) (r := r) hp hr _ _ _ hv5) (by decide) ce_X5_of ml_X5_39 in_X5_of se_X5_of cl_X5 hp rfl (Nat.le_of_ble_eq_true rfl) rfl ?_
    refine go_if_ne (pc := 16) (tgt := 23) dX5_isEntitled_16 (by decide) (fun c6 => ?_) (fun c6 => ?_)
    · rw [if_neg c6] at h
      refine go_iconst (pc := 23) (v := (0 : Int32)) dX5_isEntitled_23 (by decide) ?_
      obtain rfl := Option.some.inj h
      exact go_iret (pc := 24) .boolean dX5_isEntitled_24 rfl rfl ⟨rfl, rfl⟩
    · rw [if_pos c6] at h
      refine go_iconst (pc := 19) (v := (1 : Int32)) dX5_isEntitled_19 (by decide) ?_
      refine go_goto (pc := 20) (tgt := 24) dX5_isEntitled_20 (by decide) ?_
      obtain rfl := Option.some.inj h
      exact go_iret (pc := 24) .boolean dX5_isEntitled_24 rfl rfl ⟨rfl, rfl⟩
def f_X5_entitledMany_L4 (p : Nat) (r : Nat) : Nat → Int32 → Int32 → fm_M → Option (Int32)
  | 0, _, _, _ => none
  | n + 1, y1, y2, m => if (16 : Int32) ≤ y2 then (some y1) else ((f_X5_isEntitled p r y2 m).bind fun v2 => if v2 = true then (f_X5_entitledMany_L4 p r n (y1 + (1 : Int32)) (y2 + (1 : Int32)) m) else (f_X5_entitledMany_L4 p r n y1 (y2 + (1 : Int32)) m))
def f_X5_entitledMany (p : Nat) (r : Nat) (m : fm_M) : Option (Int32) :=
  f_X5_entitledMany_L4 p r fm_F (0 : Int32) (0 : Int32) m
set_option maxRecDepth 100000 in
set_option maxHeartbeats 4000000 in
theorem c_X5_entitledMany_L4 {lay : List fm_L} {p r : Nat} (hp : lay[p]? = some (.inr (5, [some (some r)]))) (hr : lay[r]? = some (.inl (0, 294))) : ∀ (n : Nat) (y1 : Int32) (y2 : Int32) (m : fm_M) (res : Int32), f_X5_entitledMany_L4 p r n y1 y2 m = some res → fm_Go lay 2 m_X5_entitledMany (fm_pi res m) 4 [some (.ref p), some (.int y1), some (.int y2)] [] m := by
  intro n
  induction n with
  | zero => intro y1 y2 m res h; cases h
  | succ n ih =>
    intro y1 y2 m res h
    rw [f_X5_entitledMany_L4] at h
    refine go_iload_n (pc := 4) dX5_entitledMany_4 rfl rfl ?_
    refine go_bipush (pc := 5) (v := (16 : Int32)) dX5_entitledMany_5 (by decide) ?_
    refine go_icmp_ge (pc := 7) (tgt := 27) dX5_entitledMany_7 (by decide) (fun c1 => ?_) (fun c1 => ?_)
    · rw [if_pos c1] at h
      refine go_iload_n (pc := 27) dX5_entitledMany_27 rfl rfl ?_
      obtain rfl := Option.some.inj h
      exact go_iret (pc := 28) .int dX5_entitledMany_28 rfl rfl ⟨rfl, rfl⟩
    · rw [if_neg c1] at h
      refine go_aload_n (pc := 10) dX5_entitledMany_10 rfl rfl ?_
      refine go_iload_n (pc := 11) dX5_entitledMany_11 rfl rfl ?_
      obtain ⟨v2, hv3, h⟩ := fm_bind h
      refine go_callVi (pc := 12) (As := [.int y2]) (st := []) dX5_entitledMany_12 (c_X5_isEntitled (p := p) (r := r) hp hr _ _ hv3) (by decide) ce_X5_isEntitled ml_X5_46 in_X5_isEntitled se_X5_isEntitled cl_X5 hp rfl (Nat.le_of_ble_eq_true rfl) rfl ?_
      refine go_ifb_eq (pc := 15) (tgt := 21) dX5_entitledMany_15 (by decide) (fun c4 => ?_) (fun c4 => ?_)
      · rw [if_neg (by rw [c4]; decide)] at h
        refine go_iinc (pc := 21) (v := (y2 + (1 : Int32))) (ls1 := [some (.ref p), some (.int y1), some (.int (y2 + (1 : Int32)))]) dX5_entitledMany_21 rfl rfl (Nat.le_of_ble_eq_true rfl) rfl ?_
        refine go_goto (pc := 24) (tgt := 4) dX5_entitledMany_24 (by decide) ?_
        exact ih _ _ _ _ h
      · rw [if_pos c4] at h
        refine go_iinc (pc := 18) (v := (y1 + (1 : Int32))) (ls1 := [some (.ref p), some (.int (y1 + (1 : Int32))), some (.int y2)]) dX5_entitledMany_18 rfl rfl (Nat.le_of_ble_eq_true rfl) rfl ?_
        refine go_iinc (pc := 21) (v := (y2 + (1 : Int32))) (ls1 := [some (.ref p), some (.int (y1 + (1 : Int32))), some (.int (y2 + (1 : Int32)))]) dX5_entitledMany_21 rfl rfl (Nat.le_of_ble_eq_true rfl) rfl ?_
        refine go_goto (pc := 24) (tgt := 4) dX5_entitledMany_24 (by decide) ?_
        exact ih _ _ _ _ h
set_option maxRecDepth 100000 in
set_option maxHeartbeats 4000000 in
theorem c_X5_entitledMany {lay : List fm_L} {p r : Nat} (hp : lay[p]? = some (.inr (5, [some (some r)]))) (hr : lay[r]? = some (.inl (0, 294))) (m : fm_M) {res : Int32} (h : f_X5_entitledMany p r m = some res) : fm_Met lay 2 m_X5_entitledMany [.ref p] m (fm_pi res m) := by
  refine fm_Met_of (ls := [some (.ref p), none, none]) (by decide) rfl (fm_cc_r _ fm_cc_0) (Nat.le_of_ble_eq_true rfl) rfl ?_
  unfold f_X5_entitledMany at h
  refine go_iconst (pc := 0) (v := (0 : Int32)) dX5_entitledMany_0 (by decide) ?_
  refine go_istore_n (pc := 1) (ls1 := [some (.ref p), some (.int (0 : Int32)), none]) dX5_entitledMany_1 rfl (by decide) rfl ?_
  refine go_iconst (pc := 2) (v := (0 : Int32)) dX5_entitledMany_2 (by decide) ?_
  refine go_istore_n (pc := 3) (ls1 := [some (.ref p), some (.int (0 : Int32)), some (.int (0 : Int32))]) dX5_entitledMany_3 rfl (by decide) rfl ?_
  exact c_X5_entitledMany_L4 hp hr fm_F _ _ _ _ h
def f_X5_copyTo (p : Nat) (r : Nat) (r2 : Nat) (n2 : Nat) (x2 : Int32) (m : fm_M) : Option (fm_M) :=
  if x2 < 0 then (some m) else (if ((Int32.ofNat n2) - (294 : Int32)) < x2 then (some m) else (if fm_cpok (0 : Int32) x2 (294 : Int32) 294 n2 = true then (some (fm_up m r2 (va_cpy (m r) (m r2) (0 : Int32).toNatClampNeg x2.toNatClampNeg (294 : Int32).toNatClampNeg))) else none))
set_option maxRecDepth 100000 in
set_option maxHeartbeats 4000000 in
theorem c_X5_copyTo {lay : List fm_L} {p r r2 n2 : Nat} (hp : lay[p]? = some (.inr (5, [some (some r)]))) (hr : lay[r]? = some (.inl (0, 294))) (hr2 : lay[r2]? = some (.inl (0, n2))) (x2 : Int32) (m : fm_M) {res : fm_M} (h : f_X5_copyTo p r r2 n2 x2 m = some res) : fm_Met lay 2 m_X5_copyTo [.ref p, .ref r2, .int x2] m (fm_pv res) := by
  refine fm_Met_of (ls := [some (.ref p), some (.ref r2), some (.int x2)]) (by decide) rfl (fm_cc_r _ (fm_cc_r _ (fm_cc_i _ fm_cc_0))) (Nat.le_of_ble_eq_true rfl) rfl ?_
  unfold f_X5_copyTo at h
  refine go_iload_n (pc := 0) dX5_copyTo_0 rfl rfl ?_
  refine go_if_lt (pc := 1) (tgt := 31) dX5_copyTo_1 (by decide) (fun c1 => ?_) (fun c1 => ?_)
  · rw [if_pos c1] at h
    obtain rfl := Option.some.inj h
    exact go_vret (pc := 31) dX5_copyTo_31 rfl ⟨rfl, rfl⟩
  · rw [if_neg c1] at h
    refine go_iload_n (pc := 4) dX5_copyTo_4 rfl rfl ?_
    refine go_aload_n (pc := 5) dX5_copyTo_5 rfl rfl ?_
    refine go_alen (pc := 6) (v := (Int32.ofNat n2)) dX5_copyTo_6 hr2 rfl ?_
    refine go_aload_n (pc := 7) dX5_copyTo_7 rfl rfl ?_
    refine go_getR (pc := 8) (k := 0) (q2 := r) dX5_copyTo_8 cl_X5 hp rfl (by decide) lk_X5_9 ?_
    refine go_alen (pc := 11) (v := (294 : Int32)) dX5_copyTo_11 hr (by decide) ?_
    refine go_isub (pc := 12) dX5_copyTo_12 ?_
    refine go_icmp_gt (pc := 13) (tgt := 31) dX5_copyTo_13 (by decide) (fun c2 => ?_) (fun c2 => ?_)
    · rw [if_pos c2] at h
      obtain rfl := Option.some.inj h
      exact go_vret (pc := 31) dX5_copyTo_31 rfl ⟨rfl, rfl⟩
    · rw [if_neg c2] at h
      refine go_aload_n (pc := 16) dX5_copyTo_16 rfl rfl ?_
      refine go_getR (pc := 17) (k := 0) (q2 := r) dX5_copyTo_17 cl_X5 hp rfl (by decide) lk_X5_9 ?_
      refine go_iconst (pc := 20) (v := (0 : Int32)) dX5_copyTo_20 (by decide) ?_
      refine go_aload_n (pc := 21) dX5_copyTo_21 rfl rfl ?_
      refine go_iload_n (pc := 22) dX5_copyTo_22 rfl rfl ?_
      refine go_aload_n (pc := 23) dX5_copyTo_23 rfl rfl ?_
      refine go_getR (pc := 24) (k := 0) (q2 := r) dX5_copyTo_24 cl_X5 hp rfl (by decide) lk_X5_9 ?_
      refine go_alen (pc := 27) (v := (294 : Int32)) dX5_copyTo_27 hr (by decide) ?_
      obtain ⟨hi3, h⟩ := fm_chk h
      obtain ⟨hi3a, hi3b, hi3c, hi3d, hi3e⟩ := fm_cpok_of hi3
      refine go_copy (pc := 28) dX5_copyTo_28 ml_X5_29 (by decide) (Nat.le_of_ble_eq_true rfl) hr hr2 hi3a hi3b hi3c hi3d hi3e ?_
      obtain rfl := Option.some.inj h
      exact go_vret (pc := 31) dX5_copyTo_31 rfl ⟨rfl, rfl⟩
def f_X5_copyBack (p : Nat) (r : Nat) (r2 : Nat) (n2 : Nat) (x2 : Int32) (m : fm_M) : Option (fm_M) :=
  if x2 < 0 then (some m) else (if ((Int32.ofNat n2) - (294 : Int32)) < x2 then (some m) else (if fm_cpok x2 (0 : Int32) (294 : Int32) n2 294 = true then (some (fm_up m r (va_cpy (m r2) (m r) x2.toNatClampNeg (0 : Int32).toNatClampNeg (294 : Int32).toNatClampNeg))) else none))
set_option maxRecDepth 100000 in
set_option maxHeartbeats 4000000 in
theorem c_X5_copyBack {lay : List fm_L} {p r r2 n2 : Nat} (hp : lay[p]? = some (.inr (5, [some (some r)]))) (hr : lay[r]? = some (.inl (0, 294))) (hr2 : lay[r2]? = some (.inl (0, n2))) (x2 : Int32) (m : fm_M) {res : fm_M} (h : f_X5_copyBack p r r2 n2 x2 m = some res) : fm_Met lay 2 m_X5_copyBack [.ref p, .ref r2, .int x2] m (fm_pv res) := by
  refine fm_Met_of (ls := [some (.ref p), some (.ref r2), some (.int x2)]) (by decide) rfl (fm_cc_r _ (fm_cc_r _ (fm_cc_i _ fm_cc_0))) (Nat.le_of_ble_eq_true rfl) rfl ?_
  unfold f_X5_copyBack at h
  refine go_iload_n (pc := 0) dX5_copyBack_0 rfl rfl ?_
  refine go_if_lt (pc := 1) (tgt := 31) dX5_copyBack_1 (by decide) (fun c1 => ?_) (fun c1 => ?_)
  · rw [if_pos c1] at h
    obtain rfl := Option.some.inj h
    exact go_vret (pc := 31) dX5_copyBack_31 rfl ⟨rfl, rfl⟩
  · rw [if_neg c1] at h
    refine go_iload_n (pc := 4) dX5_copyBack_4 rfl rfl ?_
    refine go_aload_n (pc := 5) dX5_copyBack_5 rfl rfl ?_
    refine go_alen (pc := 6) (v := (Int32.ofNat n2)) dX5_copyBack_6 hr2 rfl ?_
    refine go_aload_n (pc := 7) dX5_copyBack_7 rfl rfl ?_
    refine go_getR (pc := 8) (k := 0) (q2 := r) dX5_copyBack_8 cl_X5 hp rfl (by decide) lk_X5_9 ?_
    refine go_alen (pc := 11) (v := (294 : Int32)) dX5_copyBack_11 hr (by decide) ?_
    refine go_isub (pc := 12) dX5_copyBack_12 ?_
    refine go_icmp_gt (pc := 13) (tgt := 31) dX5_copyBack_13 (by decide) (fun c2 => ?_) (fun c2 => ?_)
    · rw [if_pos c2] at h
      obtain rfl := Option.some.inj h
      exact go_vret (pc := 31) dX5_copyBack_31 rfl ⟨rfl, rfl⟩
    · rw [if_neg c2] at h
      refine go_aload_n (pc := 16) dX5_copyBack_16 rfl rfl ?_
      refine go_iload_n (pc := 17) dX5_copyBack_17 rfl rfl ?_
      refine go_aload_n (pc := 18) dX5_copyBack_18 rfl rfl ?_
      refine go_getR (pc := 19) (k := 0) (q2 := r) dX5_copyBack_19 cl_X5 hp rfl (by decide) lk_X5_9 ?_
      refine go_iconst (pc := 22) (v := (0 : Int32)) dX5_copyBack_22 (by decide) ?_
      refine go_aload_n (pc := 23) dX5_copyBack_23 rfl rfl ?_
      refine go_getR (pc := 24) (k := 0) (q2 := r) dX5_copyBack_24 cl_X5 hp rfl (by decide) lk_X5_9 ?_
      refine go_alen (pc := 27) (v := (294 : Int32)) dX5_copyBack_27 hr (by decide) ?_
      obtain ⟨hi3, h⟩ := fm_chk h
      obtain ⟨hi3a, hi3b, hi3c, hi3d, hi3e⟩ := fm_cpok_of hi3
      refine go_copy (pc := 28) dX5_copyBack_28 ml_X5_29 (by decide) (Nat.le_of_ble_eq_true rfl) hr2 hr hi3a hi3b hi3c hi3d hi3e ?_
      obtain rfl := Option.some.inj h
      exact go_vret (pc := 31) dX5_copyBack_31 rfl ⟨rfl, rfl⟩

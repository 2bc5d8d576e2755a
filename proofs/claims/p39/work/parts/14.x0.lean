def f_X0_beginFrom (p2 : Nat) (r2 : Nat) (m : fm_M) : Option (fm_M) :=
  (f_X5_copyFrom 6 7 p2 r2 m).bind fun v1 => some v1
set_option maxRecDepth 100000 in
set_option maxHeartbeats 4000000 in
theorem c_X0_beginFrom {X : List fm_L} {p2 r2 : Nat} (hp2 : (fm_layH ++ X)[p2]? = some (.inr (5, [some (some r2)]))) (hr2 : (fm_layH ++ X)[r2]? = some (.inl (0, 294))) (m : fm_M) {res : fm_M} (h : f_X0_beginFrom p2 r2 m = some res) : fm_Met (fm_layH ++ X) 3 m_X0_beginFrom [.ref 5, .ref p2] m (fm_pv res) := by
  refine fm_Met_of (ls := [some (.ref 5), some (.ref p2)]) (by decide) rfl (fm_cc_r _ (fm_cc_r _ fm_cc_0)) (Nat.le_of_ble_eq_true rfl) rfl ?_
  unfold f_X0_beginFrom at h
  refine go_aload_n (pc := 0) dX0_beginFrom_0 rfl rfl ?_
  refine go_getR (pc := 1) (k := 0) (q2 := 6) dX0_beginFrom_1 cl_X0 rfl rfl (by decide) lk_X0_12 ?_
  refine go_aload_n (pc := 4) dX0_beginFrom_4 rfl rfl ?_
  obtain ⟨v1, hv2, h⟩ := fm_bind h
  refine go_callVv (pc := 5) (As := [.ref p2]) (st := []) dX0_beginFrom_5 (c_X5_copyFrom (p := 6) (r := 7) (p2 := p2) (r2 := r2) rfl rfl hp2 hr2 _ hv2) (by decide) ce_X5_copyFrom ml_X0_32 in_X5_copyFrom se_X5_copyFrom cl_X5 rfl rfl (Nat.le_of_ble_eq_true rfl) rfl ?_
  obtain rfl := Option.some.inj h
  exact go_vret (pc := 8) dX0_beginFrom_8 rfl ⟨rfl, rfl⟩
def f_X0_result (m : fm_M) : Option (Unit) :=
  some ()
set_option maxRecDepth 100000 in
set_option maxHeartbeats 4000000 in
theorem c_X0_result {X : List fm_L} (m : fm_M) {res : Unit} (h : f_X0_result  m = some res) : fm_Met (fm_layH ++ X) 0 m_X0_result [.ref 5] m (fm_pr 6 m) := by
  refine fm_Met_of (ls := [some (.ref 5)]) (by decide) rfl (fm_cc_r _ fm_cc_0) (Nat.le_of_ble_eq_true rfl) rfl ?_
  unfold f_X0_result at h
  refine go_aload_n (pc := 0) dX0_result_0 rfl rfl ?_
  refine go_getR (pc := 1) (k := 0) (q2 := 6) dX0_result_1 cl_X0 rfl rfl (by decide) lk_X0_12 ?_
  obtain rfl := Option.some.inj h
  exact go_aret (pc := 4) "PittanceHouse$State" dX0_result_4 rfl ⟨rfl, rfl⟩
def f_X0_refusedFor (m : fm_M) : Option (Int32) :=
  some (m 5 2)
set_option maxRecDepth 100000 in
set_option maxHeartbeats 4000000 in
theorem c_X0_refusedFor {X : List fm_L} (m : fm_M) {res : Int32} (h : f_X0_refusedFor  m = some res) : fm_Met (fm_layH ++ X) 0 m_X0_refusedFor [.ref 5] m (fm_pi res m) := by
  refine fm_Met_of (ls := [some (.ref 5)]) (by decide) rfl (fm_cc_r _ fm_cc_0) (Nat.le_of_ble_eq_true rfl) rfl ?_
  unfold f_X0_refusedFor at h
  refine go_aload_n (pc := 0) dX0_refusedFor_0 rfl rfl ?_
  refine go_getI (pc := 1) (k := 2) dX0_refusedFor_1 cl_X0 rfl rfl (by decide) lk_X0_25 ?_
  obtain rfl := Option.some.inj h
  exact go_iret (pc := 4) .int dX0_refusedFor_4 rfl rfl ⟨rfl, rfl⟩
def f_X0_refusedDetail (m : fm_M) : Option (Int32) :=
  some (m 5 3)
set_option maxRecDepth 100000 in
set_option maxHeartbeats 4000000 in
theorem c_X0_refusedDetail {X : List fm_L} (m : fm_M) {res : Int32} (h : f_X0_refusedDetail  m = some res) : fm_Met (fm_layH ++ X) 0 m_X0_refusedDetail [.ref 5] m (fm_pi res m) := by
  refine fm_Met_of (ls := [some (.ref 5)]) (by decide) rfl (fm_cc_r _ fm_cc_0) (Nat.le_of_ble_eq_true rfl) rfl ?_
  unfold f_X0_refusedDetail at h
  refine go_aload_n (pc := 0) dX0_refusedDetail_0 rfl rfl ?_
  refine go_getI (pc := 1) (k := 3) dX0_refusedDetail_1 cl_X0 rfl rfl (by decide) lk_X0_29 ?_
  obtain rfl := Option.some.inj h
  exact go_iret (pc := 4) .int dX0_refusedDetail_4 rfl rfl ⟨rfl, rfl⟩
def f_X0_refuse (x1 : Int32) (x2 : Int32) (m : fm_M) : Option (Int32 × fm_M) :=
  some ((-14 : Int32), (fm_put (fm_put m 5 2 x1) 5 3 x2))
set_option maxRecDepth 100000 in
set_option maxHeartbeats 4000000 in
theorem c_X0_refuse {X : List fm_L} (x1 : Int32) (x2 : Int32) (m : fm_M) {res : Int32 × fm_M} (h : f_X0_refuse x1 x2 m = some res) : fm_Met (fm_layH ++ X) 0 m_X0_refuse [.ref 5, .int x1, .int x2] m (fm_pi res.1 res.2) := by
  refine fm_Met_of (ls := [some (.ref 5), some (.int x1), some (.int x2)]) (by decide) rfl (fm_cc_r _ (fm_cc_i _ (fm_cc_i _ fm_cc_0))) (Nat.le_of_ble_eq_true rfl) rfl ?_
  unfold f_X0_refuse at h
  refine go_aload_n (pc := 0) dX0_refuse_0 rfl rfl ?_
  refine go_iload_n (pc := 1) dX0_refuse_1 rfl rfl ?_
  refine go_put (pc := 2) (k := 2) .int dX0_refuse_2 cl_X0 rfl rfl (by decide) lk_X0_25 rfl (by decide +kernel) rfl rfl ?_
  refine go_aload_n (pc := 5) dX0_refuse_5 rfl rfl ?_
  refine go_iload_n (pc := 6) dX0_refuse_6 rfl rfl ?_
  refine go_put (pc := 7) (k := 3) .int dX0_refuse_7 cl_X0 rfl rfl (by decide) lk_X0_29 rfl (by decide +kernel) rfl rfl ?_
  refine go_bipush (pc := 10) (v := (-14 : Int32)) dX0_refuse_10 (by decide) ?_
  obtain rfl := Option.some.inj h
  exact go_iret (pc := 12) .int dX0_refuse_12 rfl rfl ⟨rfl, rfl⟩
def f_X0_admit (x1 : Int32) (x2 : Int32) (m : fm_M) : Option (Int32 × fm_M) :=
  if x1 < (50 : Int32) then (some ((-12 : Int32), m)) else (if x1 ≤ (90 : Int32) then ((f_X5_get 6 7 (284 : Int32) m).bind fun v3 => if v3 < (16 : Int32) then ((f_X5_set 6 7 (284 : Int32) (v3 + (1 : Int32)) m).bind fun v6 => (f_X5_setOf 6 7 (0 : Int32) v3 x1 v6).bind fun v8 => if x2 = 0 then ((f_X5_setOf 6 7 (1 : Int32) v3 (0 : Int32) v8).bind fun v11 => (f_X5_setOf 6 7 (2 : Int32) v3 (0 : Int32) v11).bind fun v13 => some (v3, v13)) else ((f_X5_setOf 6 7 (1 : Int32) v3 (1 : Int32) v8).bind fun v15 => (f_X5_setOf 6 7 (2 : Int32) v3 (0 : Int32) v15).bind fun v17 => some (v3, v17))) else ((f_X0_refuse (1 : Int32) (16 : Int32) m).bind fun v19 => some (v19.1, v19.2))) else (some ((-12 : Int32), m)))
set_option maxRecDepth 100000 in
set_option maxHeartbeats 4000000 in
theorem c_X0_admit {X : List fm_L} (x1 : Int32) (x2 : Int32) (m : fm_M) {res : Int32 × fm_M} (h : f_X0_admit x1 x2 m = some res) : fm_Met (fm_layH ++ X) 2 m_X0_admit [.ref 5, .int x1, .int x2] m (fm_pi res.1 res.2) := by
  refine fm_Met_of (ls := [some (.ref 5), some (.int x1), some (.int x2), none]) (by decide) rfl (fm_cc_r _ (fm_cc_i _ (fm_cc_i _ fm_cc_0))) (Nat.le_of_ble_eq_true rfl) rfl ?_
  unfold f_X0_admit at h
  refine go_iload_n (pc := 0) dX0_admit_0 rfl rfl ?_
  refine go_bipush (pc := 1) (v := (50 : Int32)) dX0_admit_1 (by decide) ?_
  refine go_icmp_lt (pc := 3) (tgt := 12) dX0_admit_3 (by decide) (fun c1 => ?_) (fun c1 => ?_)
  · rw [if_pos c1] at h
    refine go_bipush (pc := 12) (v := (-12 : Int32)) dX0_admit_12 (by decide) ?_
    obtain rfl := Option.some.inj h
    exact go_iret (pc := 14) .int dX0_admit_14 rfl rfl ⟨rfl, rfl⟩
  · rw [if_neg c1] at h
    refine go_iload_n (pc := 6) dX0_admit_6 rfl rfl ?_
    refine go_bipush (pc := 7) (v := (90 : Int32)) dX0_admit_7 (by decide) ?_
    refine go_icmp_le (pc := 9) (tgt := 15) dX0_admit_9 (by decide) (fun c2 => ?_) (fun c2 => ?_)
    · rw [if_pos c2] at h
      refine go_aload_n (pc := 15) dX0_admit_15 rfl rfl ?_
      refine go_getR (pc := 16) (k := 0) (q2 := 6) dX0_admit_16 cl_X0 rfl rfl (by decide) lk_X0_12 ?_
      refine go_sipush (pc := 19) (v := (284 : Int32)) dX0_admit_19 (by decide) ?_
      obtain ⟨v3, hv4, h⟩ := fm_bind h
      refine go_callVi (pc := 22) (As := [.int (284 : Int32)]) (st := []) dX0_admit_22 (c_X5_get (p := 6) (r := 7) rfl rfl _ _ hv4) (by decide) ce_X5_get ml_X0_36 in_X5_get se_X5_get cl_X5 rfl rfl (Nat.le_of_ble_eq_true rfl) rfl ?_
      refine go_istore_n (pc := 25) (ls1 := [some (.ref 5), some (.int x1), some (.int x2), some (.int v3)]) dX0_admit_25 rfl (by decide) rfl ?_
      refine go_iload_n (pc := 26) dX0_admit_26 rfl rfl ?_
      refine go_bipush (pc := 27) (v := (16 : Int32)) dX0_admit_27 (by decide) ?_
      refine go_icmp_lt (pc := 29) (tgt := 40) dX0_admit_29 (by decide) (fun c5 => ?_) (fun c5 => ?_)
      · rw [if_pos c5] at h
        refine go_aload_n (pc := 40) dX0_admit_40 rfl rfl ?_
        refine go_getR (pc := 41) (k := 0) (q2 := 6) dX0_admit_41 cl_X0 rfl rfl (by decide) lk_X0_12 ?_
        refine go_sipush (pc := 44) (v := (284 : Int32)) dX0_admit_44 (by decide) ?_
        refine go_iload_n (pc := 47) dX0_admit_47 rfl rfl ?_
        refine go_iconst (pc := 48) (v := (1 : Int32)) dX0_admit_48 (by decide) ?_
        refine go_iadd (pc := 49) dX0_admit_49 ?_
        obtain ⟨v6, hv7, h⟩ := fm_bind h
        refine go_callVv (pc := 50) (As := [.int (284 : Int32), .int (v3 + (1 : Int32))]) (st := []) dX0_admit_50 (c_X5_set (p := 6) (r := 7) rfl rfl _ _ _ hv7) (by decide) ce_X5_set ml_X0_44 in_X5_set se_X5_set cl_X5 rfl rfl (Nat.le_of_ble_eq_true rfl) rfl ?_
        refine go_aload_n (pc := 53) dX0_admit_53 rfl rfl ?_
        refine go_getR (pc := 54) (k := 0) (q2 := 6) dX0_admit_54 cl_X0 rfl rfl (by decide) lk_X0_12 ?_
        refine go_iconst (pc := 57) (v := (0 : Int32)) dX0_admit_57 (by decide) ?_
        refine go_iload_n (pc := 58) dX0_admit_58 rfl rfl ?_
        refine go_iload_n (pc := 59) dX0_admit_59 rfl rfl ?_
        obtain ⟨v8, hv9, h⟩ := fm_bind h
        refine go_callVv (pc := 60) (As := [.int (0 : Int32), .int v3, .int x1]) (st := []) dX0_admit_60 (c_X5_setOf (p := 6) (r := 7) rfl rfl _ _ _ _ hv9) (by decide) ce_X5_setOf ml_X0_48 in_X5_setOf se_X5_setOf cl_X5 rfl rfl (Nat.le_of_ble_eq_true rfl) rfl ?_
        refine go_aload_n (pc := 63) dX0_admit_63 rfl rfl ?_
        refine go_getR (pc := 64) (k := 0) (q2 := 6) dX0_admit_64 cl_X0 rfl rfl (by decide) lk_X0_12 ?_
        refine go_iconst (pc := 67) (v := (1 : Int32)) dX0_admit_67 (by decide) ?_
        refine go_iload_n (pc := 68) dX0_admit_68 rfl rfl ?_
        refine go_iload_n (pc := 69) dX0_admit_69 rfl rfl ?_
        refine go_if_eq (pc := 70) (tgt := 77) dX0_admit_70 (by decide) (fun c10 => ?_) (fun c10 => ?_)
        · rw [if_pos c10] at h
          refine go_iconst (pc := 77) (v := (0 : Int32)) dX0_admit_77 (by decide) ?_
          obtain ⟨v11, hv12, h⟩ := fm_bind h
          refine go_callVv (pc := 78) (As := [.int (1 : Int32), .int v3, .int (0 : Int32)]) (st := []) dX0_admit_78 (c_X5_setOf (p := 6) (r := 7) rfl rfl _ _ _ _ hv12) (by decide) ce_X5_setOf ml_X0_48 in_X5_setOf se_X5_setOf cl_X5 rfl rfl (Nat.le_of_ble_eq_true rfl) rfl ?_
          refine go_aload_n (pc := 81) dX0_admit_81 rfl rfl ?_
          refine go_getR (pc := 82) (k := 0) (q2 := 6) dX0_admit_82 cl_X0 rfl rfl (by decide) lk_X0_12 ?_
          refine go_iconst (pc := 85) (v := (2 : Int32)) dX0_admit_85 (by decide) ?_
          refine go_iload_n (pc := 86) dX0_admit_86 rfl rfl ?_
          refine go_iconst (pc := 87) (v := (0 : Int32)) dX0_admit_87 (by decide) ?_
          obtain ⟨v13, hv14, h⟩ := fm_bind h
          refine go_callVv (pc := 88) (As := [.int (2 : Int32), .int v3, .int (0 : Int32)]) (st := []) dX0_admit_88 (c_X5_setOf (p := 6) (r := 7) rfl rfl _ _ _ _ hv14) (by decide) ce_X5_setOf ml_X0_48 in_X5_setOf se_X5_setOf cl_X5 rfl rfl (Nat.le_of_ble_eq_true rfl) rfl ?_
          refine go_iload_n (pc := 91) dX0_admit_91 rfl rfl ?_
          obtain rfl := Option.some.inj h
          exact go_iret (pc := 92) .int dX0_admit_92 rfl rfl ⟨rfl, rfl⟩
        · rw [if_neg c10] at h
          refine go_iconst (pc := 73) (v := (1 : Int32)) dX0_admit_73 (by decide) ?_
          refine go_goto (pc := 74) (tgt := 78) dX0_admit_74 (by decide) ?_
          obtain ⟨v15, hv16, h⟩ := fm_bind h
          refine go_callVv (pc := 78) (As := [.int (1 : Int32), .int v3, .int (1 : Int32)]) (st := []) dX0_admit_78 (c_X5_setOf (p := 6) (r := 7) rfl rfl _ _ _ _ hv16) (by decide) ce_X5_setOf ml_X0_48 in_X5_setOf se_X5_setOf cl_X5 rfl rfl (Nat.le_of_ble_eq_true rfl) rfl ?_
          refine go_aload_n (pc := 81) dX0_admit_81 rfl rfl ?_
          refine go_getR (pc := 82) (k := 0) (q2 := 6) dX0_admit_82 cl_X0 rfl rfl (by decide) lk_X0_12 ?_
          refine go_iconst (pc := 85) (v := (2 : Int32)) dX0_admit_85 (by decide) ?_
          refine go_iload_n (pc := 86) dX0_admit_86 rfl rfl ?_
          refine go_iconst (pc := 87) (v := (0 : Int32)) dX0_admit_87 (by decide) ?_
          obtain ⟨v17, hv18, h⟩ := fm_bind h
          refine go_callVv (pc := 88) (As := [.int (2 : Int32), .int v3, .int (0 : Int32)]) (st := []) dX0_admit_88 (c_X5_setOf (p := 6) (r := 7) rfl rfl _ _ _ _ hv18) (by decide) ce_X5_setOf ml_X0_48 in_X5_setOf se_X5_setOf cl_X5 rfl rfl (Nat.le_of_ble_eq_true rfl) rfl ?_
          refine go_iload_n (pc := 91) dX0_admit_91 rfl rfl ?_
          obtain rfl := Option.some.inj h
          exact go_iret (pc := 92) .int dX0_admit_92 rfl rfl ⟨rfl, rfl⟩
      · rw [if_neg c5] at h
        refine go_aload_n (pc := 32) dX0_admit_32 rfl rfl ?_
        refine go_iconst (pc := 33) (v := (1 : Int32)) dX0_admit_33 (by decide) ?_
        refine go_bipush (pc := 34) (v := (16 : Int32)) dX0_admit_34 (by decide) ?_
        obtain ⟨v19, hv20, h⟩ := fm_bind h
        refine go_callVi (pc := 36) (As := [.int (1 : Int32), .int (16 : Int32)]) (st := []) dX0_admit_36 (c_X0_refuse   _ _ _ hv20) (by decide) ce_X0_refuse ml_X0_40 in_X0_refuse se_X0_refuse cl_X0 rfl rfl (Nat.le_of_ble_eq_true rfl) rfl ?_
        obtain rfl := Option.some.inj h
        exact go_iret (pc := 39) .int dX0_admit_39 rfl rfl ⟨rfl, rfl⟩
    · rw [if_neg c2] at h
      refine go_bipush (pc := 12) (v := (-12 : Int32)) dX0_admit_12 (by decide) ?_
      obtain rfl := Option.some.inj h
      exact go_iret (pc := 14) .int dX0_admit_14 rfl rfl ⟨rfl, rfl⟩
def f_X0_dropVoicesFor_L2 : Nat → Int32 → Int32 → fm_M → Option (fm_M)
  | 0, _, _, _ => none
  | n + 1, y1, y2, m => if (16 : Int32) ≤ y2 then (some m) else ((f_X5_of 6 7 (7 : Int32) y2 m).bind fun v2 => if v2 = y1 then ((f_X5_setOf 6 7 (7 : Int32) y2 (-15 : Int32) m).bind fun v5 => f_X0_dropVoicesFor_L2 n y1 (y2 + (1 : Int32)) v5) else (f_X0_dropVoicesFor_L2 n y1 (y2 + (1 : Int32)) m))
def f_X0_dropVoicesFor (x1 : Int32) (m : fm_M) : Option (fm_M) :=
  f_X0_dropVoicesFor_L2 fm_F x1 (0 : Int32) m
set_option maxRecDepth 100000 in
set_option maxHeartbeats 4000000 in
theorem c_X0_dropVoicesFor_L2 {X : List fm_L} : ∀ (n : Nat) (y1 : Int32) (y2 : Int32) (m : fm_M) (res : fm_M), f_X0_dropVoicesFor_L2 n y1 y2 m = some res → fm_Go (fm_layH ++ X) 2 m_X0_dropVoicesFor (fm_pv res) 2 [some (.ref 5), some (.int y1), some (.int y2)] [] m := by
  intro n
  induction n with
  | zero => intro y1 y2 m res h; cases h
  | succ n ih =>
    intro y1 y2 m res h
    rw [f_X0_dropVoicesFor_L2] at h
    refine go_iload_n (pc := 2) dX0_dropVoicesFor_2 rfl rfl ?_
    refine go_bipush (pc := 3) (v := (16 : Int32)) dX0_dropVoicesFor_3 (by decide) ?_
    refine go_icmp_ge (pc := 5) (tgt := 40) dX0_dropVoicesFor_5 (by decide) (fun c1 => ?_) (fun c1 => ?_)
    · rw [if_pos c1] at h
      obtain rfl := Option.some.inj h
      exact go_vret (pc := 40) dX0_dropVoicesFor_40 rfl ⟨rfl, rfl⟩
    · rw [if_neg c1] at h
      refine go_aload_n (pc := 8) dX0_dropVoicesFor_8 rfl rfl ?_
      refine go_getR (pc := 9) (k := 0) (q2 := 6) dX0_dropVoicesFor_9 cl_X0 rfl rfl (by decide) lk_X0_12 ?_
      refine go_bipush (pc := 12) (v := (7 : Int32)) dX0_dropVoicesFor_12 (by decide) ?_
      refine go_iload_n (pc := 14) dX0_dropVoicesFor_14 rfl rfl ?_
      obtain ⟨v2, hv3, h⟩ := fm_bind h
      refine go_callVi (pc := 15) (As := [.int (7 : Int32), .int y2]) (st := []) dX0_dropVoicesFor_15 (c_X5_of (p := 6) (r := 7) rfl rfl _ _ _ hv3) (by decide) ce_X5_of ml_X0_60 in_X5_of se_X5_of cl_X5 rfl rfl (Nat.le_of_ble_eq_true rfl) rfl ?_
      refine go_iload_n (pc := 18) dX0_dropVoicesFor_18 rfl rfl ?_
      refine go_icmp_ne (pc := 19) (tgt := 34) dX0_dropVoicesFor_19 (by decide) (fun c4 => ?_) (fun c4 => ?_)
      · rw [if_neg c4] at h
        refine go_iinc (pc := 34) (v := (y2 + (1 : Int32))) (ls1 := [some (.ref 5), some (.int y1), some (.int (y2 + (1 : Int32)))]) dX0_dropVoicesFor_34 rfl rfl (Nat.le_of_ble_eq_true rfl) rfl ?_
        refine go_goto (pc := 37) (tgt := 2) dX0_dropVoicesFor_37 (by decide) ?_
        exact ih _ _ _ _ h
      · rw [if_pos c4] at h
        refine go_aload_n (pc := 22) dX0_dropVoicesFor_22 rfl rfl ?_
        refine go_getR (pc := 23) (k := 0) (q2 := 6) dX0_dropVoicesFor_23 cl_X0 rfl rfl (by decide) lk_X0_12 ?_
        refine go_bipush (pc := 26) (v := (7 : Int32)) dX0_dropVoicesFor_26 (by decide) ?_
        refine go_iload_n (pc := 28) dX0_dropVoicesFor_28 rfl rfl ?_
        refine go_bipush (pc := 29) (v := (-15 : Int32)) dX0_dropVoicesFor_29 (by decide) ?_
        obtain ⟨v5, hv6, h⟩ := fm_bind h
        refine go_callVv (pc := 31) (As := [.int (7 : Int32), .int y2, .int (-15 : Int32)]) (st := []) dX0_dropVoicesFor_31 (c_X5_setOf (p := 6) (r := 7) rfl rfl _ _ _ _ hv6) (by decide) ce_X5_setOf ml_X0_48 in_X5_setOf se_X5_setOf cl_X5 rfl rfl (Nat.le_of_ble_eq_true rfl) rfl ?_
        refine go_iinc (pc := 34) (v := (y2 + (1 : Int32))) (ls1 := [some (.ref 5), some (.int y1), some (.int (y2 + (1 : Int32)))]) dX0_dropVoicesFor_34 rfl rfl (Nat.le_of_ble_eq_true rfl) rfl ?_
        refine go_goto (pc := 37) (tgt := 2) dX0_dropVoicesFor_37 (by decide) ?_
        exact ih _ _ _ _ h
set_option maxRecDepth 100000 in
set_option maxHeartbeats 4000000 in
theorem c_X0_dropVoicesFor {X : List fm_L} (x1 : Int32) (m : fm_M) {res : fm_M} (h : f_X0_dropVoicesFor x1 m = some res) : fm_Met (fm_layH ++ X) 2 m_X0_dropVoicesFor [.ref 5, .int x1] m (fm_pv res) := by
  refine fm_Met_of (ls := [some (.ref 5), some (.int x1), none]) (by decide) rfl (fm_cc_r _ (fm_cc_i _ fm_cc_0)) (Nat.le_of_ble_eq_true rfl) rfl ?_
  unfold f_X0_dropVoicesFor at h
  refine go_iconst (pc := 0) (v := (0 : Int32)) dX0_dropVoicesFor_0 (by decide) ?_
  refine go_istore_n (pc := 1) (ls1 := [some (.ref 5), some (.int x1), some (.int (0 : Int32))]) dX0_dropVoicesFor_1 rfl (by decide) rfl ?_
  exact c_X0_dropVoicesFor_L2  fm_F _ _ _ _ h
def f_X0_dropFromLine (x1 : Int32) (m : fm_M) : Option (Int32 × fm_M) :=
  (f_X5_isBrother 6 7 x1 m).bind fun v1 => if v1 = true then ((f_X5_is 6 7 (0 : Int32) x1 m).bind fun v4 => if v4 = true then ((f_X5_setOf 6 7 (2 : Int32) x1 (3 : Int32) m).bind fun v7 => (f_X0_dropVoicesFor x1 v7).bind fun v9 => (f_X5_howMany 6 7 (0 : Int32) v9).bind fun v11 => some (v11, v9)) else ((f_X5_of 6 7 (2 : Int32) x1 m).bind fun v13 => (f_X0_refuse (2 : Int32) v13 m).bind fun v15 => some (v15.1, v15.2))) else (some ((-11 : Int32), m))
set_option maxRecDepth 100000 in
set_option maxHeartbeats 4000000 in
theorem c_X0_dropFromLine {X : List fm_L} (x1 : Int32) (m : fm_M) {res : Int32 × fm_M} (h : f_X0_dropFromLine x1 m = some res) : fm_Met (fm_layH ++ X) 3 m_X0_dropFromLine [.ref 5, .int x1] m (fm_pi res.1 res.2) := by
  refine fm_Met_of (ls := [some (.ref 5), some (.int x1)]) (by decide) rfl (fm_cc_r _ (fm_cc_i _ fm_cc_0)) (Nat.le_of_ble_eq_true rfl) rfl ?_
  unfold f_X0_dropFromLine at h
  refine go_aload_n (pc := 0) dX0_dropFromLine_0 rfl rfl ?_
  refine go_getR (pc := 1) (k := 0) (q2 := 6) dX0_dropFromLine_1 cl_X0 rfl rfl (by decide) lk_X0_12 ?_
  refine go_iload_n (pc := 4) dX0_dropFromLine_4 rfl rfl ?_
  obtain ⟨v1, hv2, h⟩ := fm_bind h
  refine go_callVi (pc := 5) (As := [.int x1]) (st := []) dX0_dropFromLine_5 (c_X5_isBrother (p := 6) (r := 7) rfl rfl _ _ hv2) (by decide) ce_X5_isBrother ml_X0_52 in_X5_isBrother se_X5_isBrother cl_X5 rfl rfl (Nat.le_of_ble_eq_true rfl) rfl ?_
  refine go_ifb_ne (pc := 8) (tgt := 14) dX0_dropFromLine_8 (by decide) (fun c3 => ?_) (fun c3 => ?_)
  · rw [if_pos c3] at h
    refine go_aload_n (pc := 14) dX0_dropFromLine_14 rfl rfl ?_
    refine go_getR (pc := 15) (k := 0) (q2 := 6) dX0_dropFromLine_15 cl_X0 rfl rfl (by decide) lk_X0_12 ?_
    refine go_iconst (pc := 18) (v := (0 : Int32)) dX0_dropFromLine_18 (by decide) ?_
    refine go_iload_n (pc := 19) dX0_dropFromLine_19 rfl rfl ?_
    obtain ⟨v4, hv5, h⟩ := fm_bind h
    refine go_callVi (pc := 20) (As := [.int (0 : Int32), .int x1]) (st := []) dX0_dropFromLine_20 (c_X5_is (p := 6) (r := 7) rfl rfl _ _ _ hv5) (by decide) ce_X5_is ml_X0_56 in_X5_is se_X5_is cl_X5 rfl rfl (Nat.le_of_ble_eq_true rfl) rfl ?_
    refine go_ifb_ne (pc := 23) (tgt := 41) dX0_dropFromLine_23 (by decide) (fun c6 => ?_) (fun c6 => ?_)
    · rw [if_pos c6] at h
      refine go_aload_n (pc := 41) dX0_dropFromLine_41 rfl rfl ?_
      refine go_getR (pc := 42) (k := 0) (q2 := 6) dX0_dropFromLine_42 cl_X0 rfl rfl (by decide) lk_X0_12 ?_
      refine go_iconst (pc := 45) (v := (2 : Int32)) dX0_dropFromLine_45 (by decide) ?_
      refine go_iload_n (pc := 46) dX0_dropFromLine_46 rfl rfl ?_
      refine go_iconst (pc := 47) (v := (3 : Int32)) dX0_dropFromLine_47 (by decide) ?_
      obtain ⟨v7, hv8, h⟩ := fm_bind h
      refine go_callVv (pc := 48) (As := [.int (2 : Int32), .int x1, .int (3 : Int32)]) (st := []) dX0_dropFromLine_48 (c_X5_setOf (p := 6) (r := 7) rfl rfl _ _ _ _ hv8) (by decide) ce_X5_setOf ml_X0_48 in_X5_setOf se_X5_setOf cl_X5 rfl rfl (Nat.le_of_ble_eq_true rfl) rfl ?_
      refine go_aload_n (pc := 51) dX0_dropFromLine_51 rfl rfl ?_
      refine go_iload_n (pc := 52) dX0_dropFromLine_52 rfl rfl ?_
      obtain ⟨v9, hv10, h⟩ := fm_bind h
      refine go_callVv (pc := 53) (As := [.int x1]) (st := []) dX0_dropFromLine_53 (c_X0_dropVoicesFor   _ _ hv10) (by decide) ce_X0_dropVoicesFor ml_X0_63 in_X0_dropVoicesFor se_X0_dropVoicesFor cl_X0 rfl rfl (Nat.le_of_ble_eq_true rfl) rfl ?_
      refine go_aload_n (pc := 56) dX0_dropFromLine_56 rfl rfl ?_
      refine go_getR (pc := 57) (k := 0) (q2 := 6) dX0_dropFromLine_57 cl_X0 rfl rfl (by decide) lk_X0_12 ?_
      refine go_iconst (pc := 60) (v := (0 : Int32)) dX0_dropFromLine_60 (by decide) ?_
      obtain ⟨v11, hv12, h⟩ := fm_bind h
      refine go_callVi (pc := 61) (As := [.int (0 : Int32)]) (st := []) dX0_dropFromLine_61 (c_X5_howMany (p := 6) (r := 7) rfl rfl _ _ hv12) (by decide) ce_X5_howMany ml_X0_67 in_X5_howMany se_X5_howMany cl_X5 rfl rfl (Nat.le_of_ble_eq_true rfl) rfl ?_
      obtain rfl := Option.some.inj h
      exact go_iret (pc := 64) .int dX0_dropFromLine_64 rfl rfl ⟨rfl, rfl⟩
    · rw [if_neg (by rw [c6]; decide)] at h
      refine go_aload_n (pc := 26) dX0_dropFromLine_26 rfl rfl ?_
      refine go_iconst (pc := 27) (v := (2 : Int32)) dX0_dropFromLine_27 (by decide) ?_
      refine go_aload_n (pc := 28) dX0_dropFromLine_28 rfl rfl ?_
      refine go_getR (pc := 29) (k := 0) (q2 := 6) dX0_dropFromLine_29 cl_X0 rfl rfl (by decide) lk_X0_12 ?_
      refine go_iconst (pc := 32) (v := (2 : Int32)) dX0_dropFromLine_32 (by decide) ?_
      refine go_iload_n (pc := 33) dX0_dropFromLine_33 rfl rfl ?_
      obtain ⟨v13, hv14, h⟩ := fm_bind h
      refine go_callVi (pc := 34) (As := [.int (2 : Int32), .int x1]) (st := [.int (2 : Int32), .ref 5]) dX0_dropFromLine_34 (c_X5_of (p := 6) (r := 7) rfl rfl _ _ _ hv14) (by decide) ce_X5_of ml_X0_60 in_X5_of se_X5_of cl_X5 rfl rfl (Nat.le_of_ble_eq_true rfl) rfl ?_
      obtain ⟨v15, hv16, h⟩ := fm_bind h
      refine go_callVi (pc := 37) (As := [.int (2 : Int32), .int v13]) (st := []) dX0_dropFromLine_37 (c_X0_refuse   _ _ _ hv16) (by decide) ce_X0_refuse ml_X0_40 in_X0_refuse se_X0_refuse cl_X0 rfl rfl (Nat.le_of_ble_eq_true rfl) rfl ?_
      obtain rfl := Option.some.inj h
      exact go_iret (pc := 40) .int dX0_dropFromLine_40 rfl rfl ⟨rfl, rfl⟩
  · rw [if_neg (by rw [c3]; decide)] at h
    refine go_bipush (pc := 11) (v := (-11 : Int32)) dX0_dropFromLine_11 (by decide) ?_
    obtain rfl := Option.some.inj h
    exact go_iret (pc := 13) .int dX0_dropFromLine_13 rfl rfl ⟨rfl, rfl⟩
def f_X0_giveVoice (x1 : Int32) (x2 : Int32) (m : fm_M) : Option (Int32 × fm_M) :=
  (f_X5_isBrother 6 7 x1 m).bind fun v1 => if v1 = true then ((f_X5_isBrother 6 7 x2 m).bind fun v4 => if v4 = true then ((f_X5_is 6 7 (1 : Int32) x1 m).bind fun v7 => if v7 = true then ((f_X5_of 6 7 (5 : Int32) x1 m).bind fun v10 => if v10 ≤ 0 then ((f_X5_is 6 7 (0 : Int32) x2 m).bind fun v13 => if v13 = true then ((f_X5_setOf 6 7 (7 : Int32) x1 x2 m).bind fun v16 => (f_X5_voicesFor 6 7 x2 v16).bind fun v18 => some (v18, v16)) else ((f_X5_of 6 7 (2 : Int32) x2 m).bind fun v20 => (f_X0_refuse (2 : Int32) v20 m).bind fun v22 => some (v22.1, v22.2))) else ((f_X5_of 6 7 (5 : Int32) x1 m).bind fun v24 => (f_X0_refuse (4 : Int32) v24 m).bind fun v26 => some (v26.1, v26.2))) else ((f_X5_of 6 7 (2 : Int32) x1 m).bind fun v28 => (f_X0_refuse (3 : Int32) v28 m).bind fun v30 => some (v30.1, v30.2))) else (some ((-11 : Int32), m))) else (some ((-11 : Int32), m))
set_option maxRecDepth 100000 in
set_option maxHeartbeats 4000000 in
theorem c_X0_giveVoice {X : List fm_L} (x1 : Int32) (x2 : Int32) (m : fm_M) {res : Int32 × fm_M} (h : f_X0_giveVoice x1 x2 m = some res) : fm_Met (fm_layH ++ X) 2 m_X0_giveVoice [.ref 5, .int x1, .int x2] m (fm_pi res.1 res.2) := by
  refine fm_Met_of (ls := [some (.ref 5), some (.int x1), some (.int x2)]) (by decide) rfl (fm_cc_r _ (fm_cc_i _ (fm_cc_i _ fm_cc_0))) (Nat.le_of_ble_eq_true rfl) rfl ?_
  unfold f_X0_giveVoice at h
  refine go_aload_n (pc := 0) dX0_giveVoice_0 rfl rfl ?_
  refine go_getR (pc := 1) (k := 0) (q2 := 6) dX0_giveVoice_1 cl_X0 rfl rfl (by decide) lk_X0_12 ?_
  refine go_iload_n (pc := 4) dX0_giveVoice_4 rfl rfl ?_
  obtain ⟨v1, hv2, h⟩ := fm_bind h
  refine go_callVi (pc := 5) (As := [.int x1]) (st := []) dX0_giveVoice_5 (c_X5_isBrother (p := 6) (r := 7) rfl rfl _ _ hv2) (by decide) ce_X5_isBrother ml_X0_52 in_X5_isBrother se_X5_isBrother cl_X5 rfl rfl (Nat.le_of_ble_eq_true rfl) rfl ?_
  refine go_ifb_eq (pc := 8) (tgt := 22) dX0_giveVoice_8 (by decide) (fun c3 => ?_) (fun c3 => ?_)
  · rw [if_neg (by rw [c3]; decide)] at h
    refine go_bipush (pc := 22) (v := (-11 : Int32)) dX0_giveVoice_22 (by decide) ?_
    obtain rfl := Option.some.inj h
    exact go_iret (pc := 24) .int dX0_giveVoice_24 rfl rfl ⟨rfl, rfl⟩
  · rw [if_pos c3] at h
    refine go_aload_n (pc := 11) dX0_giveVoice_11 rfl rfl ?_
    refine go_getR (pc := 12) (k := 0) (q2 := 6) dX0_giveVoice_12 cl_X0 rfl rfl (by decide) lk_X0_12 ?_
    refine go_iload_n (pc := 15) dX0_giveVoice_15 rfl rfl ?_
    obtain ⟨v4, hv5, h⟩ := fm_bind h
    refine go_callVi (pc := 16) (As := [.int x2]) (st := []) dX0_giveVoice_16 (c_X5_isBrother (p := 6) (r := 7) rfl rfl _ _ hv5) (by decide) ce_X5_isBrother ml_X0_52 in_X5_isBrother se_X5_isBrother cl_X5 rfl rfl (Nat.le_of_ble_eq_true rfl) rfl ?_
    refine go_ifb_ne (pc := 19) (tgt := 25) dX0_giveVoice_19 (by decide) (fun c6 => ?_) (fun c6 => ?_)
    · rw [if_pos c6] at h
      refine go_aload_n (pc := 25) dX0_giveVoice_25 rfl rfl ?_
      refine go_getR (pc := 26) (k := 0) (q2 := 6) dX0_giveVoice_26 cl_X0 rfl rfl (by decide) lk_X0_12 ?_
      refine go_iconst (pc := 29) (v := (1 : Int32)) dX0_giveVoice_29 (by decide) ?_
      refine go_iload_n (pc := 30) dX0_giveVoice_30 rfl rfl ?_
      obtain ⟨v7, hv8, h⟩ := fm_bind h
      refine go_callVi (pc := 31) (As := [.int (1 : Int32), .int x1]) (st := []) dX0_giveVoice_31 (c_X5_is (p := 6) (r := 7) rfl rfl _ _ _ hv8) (by decide) ce_X5_is ml_X0_56 in_X5_is se_X5_is cl_X5 rfl rfl (Nat.le_of_ble_eq_true rfl) rfl ?_
      refine go_ifb_ne (pc := 34) (tgt := 52) dX0_giveVoice_34 (by decide) (fun c9 => ?_) (fun c9 => ?_)
      · rw [if_pos c9] at h
        refine go_aload_n (pc := 52) dX0_giveVoice_52 rfl rfl ?_
        refine go_getR (pc := 53) (k := 0) (q2 := 6) dX0_giveVoice_53 cl_X0 rfl rfl (by decide) lk_X0_12 ?_
        refine go_iconst (pc := 56) (v := (5 : Int32)) dX0_giveVoice_56 (by decide) ?_
        refine go_iload_n (pc := 57) dX0_giveVoice_57 rfl rfl ?_
        obtain ⟨v10, hv11, h⟩ := fm_bind h
        refine go_callVi (pc := 58) (As := [.int (5 : Int32), .int x1]) (st := []) dX0_giveVoice_58 (c_X5_of (p := 6) (r := 7) rfl rfl _ _ _ hv11) (by decide) ce_X5_of ml_X0_60 in_X5_of se_X5_of cl_X5 rfl rfl (Nat.le_of_ble_eq_true rfl) rfl ?_
        refine go_if_le (pc := 61) (tgt := 79) dX0_giveVoice_61 (by decide) (fun c12 => ?_) (fun c12 => ?_)
        · rw [if_pos c12] at h
          refine go_aload_n (pc := 79) dX0_giveVoice_79 rfl rfl ?_
          refine go_getR (pc := 80) (k := 0) (q2 := 6) dX0_giveVoice_80 cl_X0 rfl rfl (by decide) lk_X0_12 ?_
          refine go_iconst (pc := 83) (v := (0 : Int32)) dX0_giveVoice_83 (by decide) ?_
          refine go_iload_n (pc := 84) dX0_giveVoice_84 rfl rfl ?_
          obtain ⟨v13, hv14, h⟩ := fm_bind h
          refine go_callVi (pc := 85) (As := [.int (0 : Int32), .int x2]) (st := []) dX0_giveVoice_85 (c_X5_is (p := 6) (r := 7) rfl rfl _ _ _ hv14) (by decide) ce_X5_is ml_X0_56 in_X5_is se_X5_is cl_X5 rfl rfl (Nat.le_of_ble_eq_true rfl) rfl ?_
          refine go_ifb_ne (pc := 88) (tgt := 106) dX0_giveVoice_88 (by decide) (fun c15 => ?_) (fun c15 => ?_)
          · rw [if_pos c15] at h
            refine go_aload_n (pc := 106) dX0_giveVoice_106 rfl rfl ?_
            refine go_getR (pc := 107) (k := 0) (q2 := 6) dX0_giveVoice_107 cl_X0 rfl rfl (by decide) lk_X0_12 ?_
            refine go_bipush (pc := 110) (v := (7 : Int32)) dX0_giveVoice_110 (by decide) ?_
            refine go_iload_n (pc := 112) dX0_giveVoice_112 rfl rfl ?_
            refine go_iload_n (pc := 113) dX0_giveVoice_113 rfl rfl ?_
            obtain ⟨v16, hv17, h⟩ := fm_bind h
            refine go_callVv (pc := 114) (As := [.int (7 : Int32), .int x1, .int x2]) (st := []) dX0_giveVoice_114 (c_X5_setOf (p := 6) (r := 7) rfl rfl _ _ _ _ hv17) (by decide) ce_X5_setOf ml_X0_48 in_X5_setOf se_X5_setOf cl_X5 rfl rfl (Nat.le_of_ble_eq_true rfl) rfl ?_
            refine go_aload_n (pc := 117) dX0_giveVoice_117 rfl rfl ?_
            refine go_getR (pc := 118) (k := 0) (q2 := 6) dX0_giveVoice_118 cl_X0 rfl rfl (by decide) lk_X0_12 ?_
            refine go_iload_n (pc := 121) dX0_giveVoice_121 rfl rfl ?_
            obtain ⟨v18, hv19, h⟩ := fm_bind h
            refine go_callVi (pc := 122) (As := [.int x2]) (st := []) dX0_giveVoice_122 (c_X5_voicesFor (p := 6) (r := 7) rfl rfl _ _ hv19) (by decide) ce_X5_voicesFor ml_X0_70 in_X5_voicesFor se_X5_voicesFor cl_X5 rfl rfl (Nat.le_of_ble_eq_true rfl) rfl ?_
            obtain rfl := Option.some.inj h
            exact go_iret (pc := 125) .int dX0_giveVoice_125 rfl rfl ⟨rfl, rfl⟩
          · rw [if_neg (by rw [c15]; decide)] at h
            refine go_aload_n (pc := 91) dX0_giveVoice_91 rfl rfl ?_
            refine go_iconst (pc := 92) (v := (2 : Int32)) dX0_giveVoice_92 (by decide) ?_
            refine go_aload_n (pc := 93) dX0_giveVoice_93 rfl rfl ?_
            refine go_getR (pc := 94) (k := 0) (q2 := 6) dX0_giveVoice_94 cl_X0 rfl rfl (by decide) lk_X0_12 ?_
            refine go_iconst (pc := 97) (v := (2 : Int32)) dX0_giveVoice_97 (by decide) ?_
            refine go_iload_n (pc := 98) dX0_giveVoice_98 rfl rfl ?_
            obtain ⟨v20, hv21, h⟩ := fm_bind h
            refine go_callVi (pc := 99) (As := [.int (2 : Int32), .int x2]) (st := [.int (2 : Int32), .ref 5]) dX0_giveVoice_99 (c_X5_of (p := 6) (r := 7) rfl rfl _ _ _ hv21) (by decide) ce_X5_of ml_X0_60 in_X5_of se_X5_of cl_X5 rfl rfl (Nat.le_of_ble_eq_true rfl) rfl ?_
            obtain ⟨v22, hv23, h⟩ := fm_bind h
            refine go_callVi (pc := 102) (As := [.int (2 : Int32), .int v20]) (st := []) dX0_giveVoice_102 (c_X0_refuse   _ _ _ hv23) (by decide) ce_X0_refuse ml_X0_40 in_X0_refuse se_X0_refuse cl_X0 rfl rfl (Nat.le_of_ble_eq_true rfl) rfl ?_
            obtain rfl := Option.some.inj h
            exact go_iret (pc := 105) .int dX0_giveVoice_105 rfl rfl ⟨rfl, rfl⟩
        · rw [if_neg c12] at h
          refine go_aload_n (pc := 64) dX0_giveVoice_64 rfl rfl ?_
          refine go_iconst (pc := 65) (v := (4 : Int32)) dX0_giveVoice_65 (by decide) ?_
          refine go_aload_n (pc := 66) dX0_giveVoice_66 rfl rfl ?_
          refine go_getR (pc := 67) (k := 0) (q2 := 6) dX0_giveVoice_67 cl_X0 rfl rfl (by decide) lk_X0_12 ?_
          refine go_iconst (pc := 70) (v := (5 : Int32)) dX0_giveVoice_70 (by decide) ?_
          refine go_iload_n (pc := 71) dX0_giveVoice_71 rfl rfl ?_
          obtain ⟨v24, hv25, h⟩ := fm_bind h
          refine go_callVi (pc := 72) (As := [.int (5 : Int32), .int x1]) (st := [.int (4 : Int32), .ref 5]) dX0_giveVoice_72 (c_X5_of (p := 6) (r := 7) rfl rfl _ _ _ hv25) (by decide) ce_X5_of ml_X0_60 in_X5_of se_X5_of cl_X5 rfl rfl (Nat.le_of_ble_eq_true rfl) rfl ?_
          obtain ⟨v26, hv27, h⟩ := fm_bind h
          refine go_callVi (pc := 75) (As := [.int (4 : Int32), .int v24]) (st := []) dX0_giveVoice_75 (c_X0_refuse   _ _ _ hv27) (by decide) ce_X0_refuse ml_X0_40 in_X0_refuse se_X0_refuse cl_X0 rfl rfl (Nat.le_of_ble_eq_true rfl) rfl ?_
          obtain rfl := Option.some.inj h
          exact go_iret (pc := 78) .int dX0_giveVoice_78 rfl rfl ⟨rfl, rfl⟩
      · rw [if_neg (by rw [c9]; decide)] at h
        refine go_aload_n (pc := 37) dX0_giveVoice_37 rfl rfl ?_
        refine go_iconst (pc := 38) (v := (3 : Int32)) dX0_giveVoice_38 (by decide) ?_
        refine go_aload_n (pc := 39) dX0_giveVoice_39 rfl rfl ?_
        refine go_getR (pc := 40) (k := 0) (q2 := 6) dX0_giveVoice_40 cl_X0 rfl rfl (by decide) lk_X0_12 ?_
        refine go_iconst (pc := 43) (v := (2 : Int32)) dX0_giveVoice_43 (by decide) ?_
        refine go_iload_n (pc := 44) dX0_giveVoice_44 rfl rfl ?_
        obtain ⟨v28, hv29, h⟩ := fm_bind h
        refine go_callVi (pc := 45) (As := [.int (2 : Int32), .int x1]) (st := [.int (3 : Int32), .ref 5]) dX0_giveVoice_45 (c_X5_of (p := 6) (r := 7) rfl rfl _ _ _ hv29) (by decide) ce_X5_of ml_X0_60 in_X5_of se_X5_of cl_X5 rfl rfl (Nat.le_of_ble_eq_true rfl) rfl ?_
        obtain ⟨v30, hv31, h⟩ := fm_bind h
        refine go_callVi (pc := 48) (As := [.int (3 : Int32), .int v28]) (st := []) dX0_giveVoice_48 (c_X0_refuse   _ _ _ hv31) (by decide) ce_X0_refuse ml_X0_40 in_X0_refuse se_X0_refuse cl_X0 rfl rfl (Nat.le_of_ble_eq_true rfl) rfl ?_
        obtain rfl := Option.some.inj h
        exact go_iret (pc := 51) .int dX0_giveVoice_51 rfl rfl ⟨rfl, rfl⟩
    · rw [if_neg (by rw [c6]; decide)] at h
      refine go_bipush (pc := 22) (v := (-11 : Int32)) dX0_giveVoice_22 (by decide) ?_
      obtain rfl := Option.some.inj h
      exact go_iret (pc := 24) .int dX0_giveVoice_24 rfl rfl ⟨rfl, rfl⟩
def f_X6_isCell (x1 : Int32) (m : fm_M) : Option (Bool) :=
  if x1 < 0 then (some false) else (if (8 : Int32) ≤ x1 then (some false) else (some true))
set_option maxRecDepth 100000 in
set_option maxHeartbeats 4000000 in
theorem c_X6_isCell {lay : List fm_L} (x1 : Int32) (m : fm_M) {res : Bool} (h : f_X6_isCell x1 m = some res) : fm_Met lay 0 m_X6_isCell [.int x1] m (fm_pi (fm_b res) m) := by
  refine fm_Met_of (ls := [some (.int x1)]) (by decide) rfl (fm_cc_i _ fm_cc_0) (Nat.le_of_ble_eq_true rfl) rfl ?_
  unfold f_X6_isCell at h
  refine go_iload_n (pc := 0) dX6_isCell_0 rfl rfl ?_
  refine go_if_lt (pc := 1) (tgt := 14) dX6_isCell_1 (by decide) (fun c1 => ?_) (fun c1 => ?_)
  · rw [if_pos c1] at h
    refine go_iconst (pc := 14) (v := (0 : Int32)) dX6_isCell_14 (by decide) ?_
    obtain rfl := Option.some.inj h
    exact go_iret (pc := 15) .boolean dX6_isCell_15 rfl rfl ⟨rfl, rfl⟩
  · rw [if_neg c1] at h
    refine go_iload_n (pc := 4) dX6_isCell_4 rfl rfl ?_
    refine go_bipush (pc := 5) (v := (8 : Int32)) dX6_isCell_5 (by decide) ?_
    refine go_icmp_ge (pc := 7) (tgt := 14) dX6_isCell_7 (by decide) (fun c2 => ?_) (fun c2 => ?_)
    · rw [if_pos c2] at h
      refine go_iconst (pc := 14) (v := (0 : Int32)) dX6_isCell_14 (by decide) ?_
      obtain rfl := Option.some.inj h
      exact go_iret (pc := 15) .boolean dX6_isCell_15 rfl rfl ⟨rfl, rfl⟩
    · rw [if_neg c2] at h
      refine go_iconst (pc := 10) (v := (1 : Int32)) dX6_isCell_10 (by decide) ?_
      refine go_goto (pc := 11) (tgt := 15) dX6_isCell_11 (by decide) ?_
      obtain rfl := Option.some.inj h
      exact go_iret (pc := 15) .boolean dX6_isCell_15 rfl rfl ⟨rfl, rfl⟩
def f_X0_fillCell (x1 : Int32) (m : fm_M) : Option (Int32 × fm_M) :=
  (f_X6_isCell x1 m).bind fun v1 => if v1 = true then ((f_X5_get 6 7 ((224 : Int32) + x1) m).bind fun v4 => (f_X5_isBrother 6 7 v4 m).bind fun v6 => if v6 = true then ((f_X5_get 6 7 ((224 : Int32) + x1) m).bind fun v34 => (f_X0_refuse (5 : Int32) v34 m).bind fun v36 => some (v36.1, v36.2)) else ((f_X3_byVoices 8 9 6 7 (0 : Int32) m).bind fun v9 => (f_X5_isBrother 6 7 v9.1 v9.2).bind fun v11 => if v11 = true then ((f_X5_setOf 6 7 (2 : Int32) v9.1 (1 : Int32) v9.2).bind fun v14 => (f_X5_setOf 6 7 (3 : Int32) v9.1 x1 v14).bind fun v16 => (f_X5_setOf 6 7 (4 : Int32) v9.1 (0 : Int32) v16).bind fun v18 => (f_X5_get 6 7 (285 : Int32) v18).bind fun v20 => (f_X5_setOf 6 7 (8 : Int32) v9.1 v20 v18).bind fun v22 => (f_X5_get 6 7 (285 : Int32) v22).bind fun v24 => (f_X5_set 6 7 (285 : Int32) (v24 + (1 : Int32)) v22).bind fun v26 => (f_X5_set 6 7 ((224 : Int32) + x1) v9.1 v26).bind fun v28 => (f_X0_dropVoicesFor v9.1 v28).bind fun v30 => some (v9.1, v30)) else ((f_X0_refuse (6 : Int32) x1 v9.2).bind fun v32 => some (v32.1, v32.2)))) else (some ((-11 : Int32), m))
set_option maxRecDepth 100000 in
set_option maxHeartbeats 4000000 in
theorem c_X0_fillCell {X : List fm_L} (x1 : Int32) (m : fm_M) {res : Int32 × fm_M} (h : f_X0_fillCell x1 m = some res) : fm_Met (fm_layH ++ X) 3 m_X0_fillCell [.ref 5, .int x1] m (fm_pi res.1 res.2) := by
  refine fm_Met_of (ls := [some (.ref 5), some (.int x1), none]) (by decide) rfl (fm_cc_r _ (fm_cc_i _ fm_cc_0)) (Nat.le_of_ble_eq_true rfl) rfl ?_
  unfold f_X0_fillCell at h
  refine go_iload_n (pc := 0) dX0_fillCell_0 rfl rfl ?_
  obtain ⟨v1, hv2, h⟩ := fm_bind h
  refine go_callSNi (pc := 1) (As := [.int x1]) (st := []) "PittanceHouse" dX0_fillCell_1 (c_X6_isCell   _ _ hv2) (by decide) ce_X6_isCell nl_X0_73 st_X6_isCell rfl (Nat.le_of_ble_eq_true rfl) rfl ?_
  refine go_ifb_ne (pc := 4) (tgt := 10) dX0_fillCell_4 (by decide) (fun c3 => ?_) (fun c3 => ?_)
  · rw [if_pos c3] at h
    refine go_aload_n (pc := 10) dX0_fillCell_10 rfl rfl ?_
    refine go_getR (pc := 11) (k := 0) (q2 := 6) dX0_fillCell_11 cl_X0 rfl rfl (by decide) lk_X0_12 ?_
    refine go_aload_n (pc := 14) dX0_fillCell_14 rfl rfl ?_
    refine go_getR (pc := 15) (k := 0) (q2 := 6) dX0_fillCell_15 cl_X0 rfl rfl (by decide) lk_X0_12 ?_
    refine go_sipush (pc := 18) (v := (224 : Int32)) dX0_fillCell_18 (by decide) ?_
    refine go_iload_n (pc := 21) dX0_fillCell_21 rfl rfl ?_
    refine go_iadd (pc := 22) dX0_fillCell_22 ?_
    obtain ⟨v4, hv5, h⟩ := fm_bind h
    refine go_callVi (pc := 23) (As := [.int ((224 : Int32) + x1)]) (st := [.ref 6]) dX0_fillCell_23 (c_X5_get (p := 6) (r := 7) rfl rfl _ _ hv5) (by decide) ce_X5_get ml_X0_36 in_X5_get se_X5_get cl_X5 rfl rfl (Nat.le_of_ble_eq_true rfl) rfl ?_
    obtain ⟨v6, hv7, h⟩ := fm_bind h
    refine go_callVi (pc := 26) (As := [.int v4]) (st := []) dX0_fillCell_26 (c_X5_isBrother (p := 6) (r := 7) rfl rfl _ _ hv7) (by decide) ce_X5_isBrother ml_X0_52 in_X5_isBrother se_X5_isBrother cl_X5 rfl rfl (Nat.le_of_ble_eq_true rfl) rfl ?_
    refine go_ifb_eq (pc := 29) (tgt := 50) dX0_fillCell_29 (by decide) (fun c8 => ?_) (fun c8 => ?_)
    · rw [if_neg (by rw [c8]; decide)] at h
      refine go_aload_n (pc := 50) dX0_fillCell_50 rfl rfl ?_
      refine go_getR (pc := 51) (k := 1) (q2 := 8) dX0_fillCell_51 cl_X0 rfl rfl (by decide) lk_X0_21 ?_
      refine go_aload_n (pc := 54) dX0_fillCell_54 rfl rfl ?_
      refine go_getR (pc := 55) (k := 0) (q2 := 6) dX0_fillCell_55 cl_X0 rfl rfl (by decide) lk_X0_12 ?_
      refine go_iconst (pc := 58) (v := (0 : Int32)) dX0_fillCell_58 (by decide) ?_
      obtain ⟨v9, hv10, h⟩ := fm_bind h
      refine go_callVi (pc := 59) (As := [.ref 6, .int (0 : Int32)]) (st := []) dX0_fillCell_59 (c_X3_byVoices (p := 8) (r := 9) (p2 := 6) (r2 := 7) rfl rfl rfl rfl _ _ hv10) (by decide) ce_X3_byVoices ml_X0_76 in_X3_byVoices se_X3_byVoices cl_X3 rfl rfl (Nat.le_of_ble_eq_true rfl) rfl ?_
      refine go_istore_n (pc := 62) (ls1 := [some (.ref 5), some (.int x1), some (.int v9.1)]) dX0_fillCell_62 rfl (by decide) rfl ?_
      refine go_aload_n (pc := 63) dX0_fillCell_63 rfl rfl ?_
      refine go_getR (pc := 64) (k := 0) (q2 := 6) dX0_fillCell_64 cl_X0 rfl rfl (by decide) lk_X0_12 ?_
      refine go_iload_n (pc := 67) dX0_fillCell_67 rfl rfl ?_
      obtain ⟨v11, hv12, h⟩ := fm_bind h
      refine go_callVi (pc := 68) (As := [.int v9.1]) (st := []) dX0_fillCell_68 (c_X5_isBrother (p := 6) (r := 7) rfl rfl _ _ hv12) (by decide) ce_X5_isBrother ml_X0_52 in_X5_isBrother se_X5_isBrother cl_X5 rfl rfl (Nat.le_of_ble_eq_true rfl) rfl ?_
      refine go_ifb_ne (pc := 71) (tgt := 82) dX0_fillCell_71 (by decide) (fun c13 => ?_) (fun c13 => ?_)
      · rw [if_pos c13] at h
        refine go_aload_n (pc := 82) dX0_fillCell_82 rfl rfl ?_
        refine go_getR (pc := 83) (k := 0) (q2 := 6) dX0_fillCell_83 cl_X0 rfl rfl (by decide) lk_X0_12 ?_
        refine go_iconst (pc := 86) (v := (2 : Int32)) dX0_fillCell_86 (by decide) ?_
        refine go_iload_n (pc := 87) dX0_fillCell_87 rfl rfl ?_
        refine go_iconst (pc := 88) (v := (1 : Int32)) dX0_fillCell_88 (by decide) ?_
        obtain ⟨v14, hv15, h⟩ := fm_bind h
        refine go_callVv (pc := 89) (As := [.int (2 : Int32), .int v9.1, .int (1 : Int32)]) (st := []) dX0_fillCell_89 (c_X5_setOf (p := 6) (r := 7) rfl rfl _ _ _ _ hv15) (by decide) ce_X5_setOf ml_X0_48 in_X5_setOf se_X5_setOf cl_X5 rfl rfl (Nat.le_of_ble_eq_true rfl) rfl ?_
        refine go_aload_n (pc := 92) dX0_fillCell_92 rfl rfl ?_
        refine go_getR (pc := 93) (k := 0) (q2 := 6) dX0_fillCell_93 cl_X0 rfl rfl (by decide) lk_X0_12 ?_
        refine go_iconst (pc := 96) (v := (3 : Int32)) dX0_fillCell_96 (by decide) ?_
        refine go_iload_n (pc := 97) dX0_fillCell_97 rfl rfl ?_
        refine go_iload_n (pc := 98) dX0_fillCell_98 rfl rfl ?_
        obtain ⟨v16, hv17, h⟩ := fm_bind h
        refine go_callVv (pc := 99) (As := [.int (3 : Int32), .int v9.1, .int x1]) (st := []) dX0_fillCell_99 (c_X5_setOf (p := 6) (r := 7) rfl rfl _ _ _ _ hv17) (by decide) ce_X5_setOf ml_X0_48 in_X5_setOf se_X5_setOf cl_X5 rfl rfl (Nat.le_of_ble_eq_true rfl) rfl ?_
        refine go_aload_n (pc := 102) dX0_fillCell_102 rfl rfl ?_
        refine go_getR (pc := 103) (k := 0) (q2 := 6) dX0_fillCell_103 cl_X0 rfl rfl (by decide) lk_X0_12 ?_
        refine go_iconst (pc := 106) (v := (4 : Int32)) dX0_fillCell_106 (by decide) ?_
        refine go_iload_n (pc := 107) dX0_fillCell_107 rfl rfl ?_
        refine go_iconst (pc := 108) (v := (0 : Int32)) dX0_fillCell_108 (by decide) ?_
        obtain ⟨v18, hv19, h⟩ := fm_bind h
        refine go_callVv (pc := 109) (As := [.int (4 : Int32), .int v9.1, .int (0 : Int32)]) (st := []) dX0_fillCell_109 (c_X5_setOf (p := 6) (r := 7) rfl rfl _ _ _ _ hv19) (by decide) ce_X5_setOf ml_X0_48 in_X5_setOf se_X5_setOf cl_X5 rfl rfl (Nat.le_of_ble_eq_true rfl) rfl ?_
        refine go_aload_n (pc := 112) dX0_fillCell_112 rfl rfl ?_
        refine go_getR (pc := 113) (k := 0) (q2 := 6) dX0_fillCell_113 cl_X0 rfl rfl (by decide) lk_X0_12 ?_
        refine go_bipush (pc := 116) (v := (8 : Int32)) dX0_fillCell_116 (by decide) ?_
        refine go_iload_n (pc := 118) dX0_fillCell_118 rfl rfl ?_
        refine go_aload_n (pc := 119) dX0_fillCell_119 rfl rfl ?_
        refine go_getR (pc := 120) (k := 0) (q2 := 6) dX0_fillCell_120 cl_X0 rfl rfl (by decide) lk_X0_12 ?_
        refine go_sipush (pc := 123) (v := (285 : Int32)) dX0_fillCell_123 (by decide) ?_
        obtain ⟨v20, hv21, h⟩ := fm_bind h
        refine go_callVi (pc := 126) (As := [.int (285 : Int32)]) (st := [.int v9.1, .int (8 : Int32), .ref 6]) dX0_fillCell_126 (c_X5_get (p := 6) (r := 7) rfl rfl _ _ hv21) (by decide) ce_X5_get ml_X0_36 in_X5_get se_X5_get cl_X5 rfl rfl (Nat.le_of_ble_eq_true rfl) rfl ?_
        obtain ⟨v22, hv23, h⟩ := fm_bind h
        refine go_callVv (pc := 129) (As := [.int (8 : Int32), .int v9.1, .int v20]) (st := []) dX0_fillCell_129 (c_X5_setOf (p := 6) (r := 7) rfl rfl _ _ _ _ hv23) (by decide) ce_X5_setOf ml_X0_48 in_X5_setOf se_X5_setOf cl_X5 rfl rfl (Nat.le_of_ble_eq_true rfl) rfl ?_
        refine go_aload_n (pc := 132) dX0_fillCell_132 rfl rfl ?_
        refine go_getR (pc := 133) (k := 0) (q2 := 6) dX0_fillCell_133 cl_X0 rfl rfl (by decide) lk_X0_12 ?_
        refine go_sipush (pc := 136) (v := (285 : Int32)) dX0_fillCell_136 (by decide) ?_
        refine go_aload_n (pc := 139) dX0_fillCell_139 rfl rfl ?_
        refine go_getR (pc := 140) (k := 0) (q2 := 6) dX0_fillCell_140 cl_X0 rfl rfl (by decide) lk_X0_12 ?_
        refine go_sipush (pc := 143) (v := (285 : Int32)) dX0_fillCell_143 (by decide) ?_
        obtain ⟨v24, hv25, h⟩ := fm_bind h
        refine go_callVi (pc := 146) (As := [.int (285 : Int32)]) (st := [.int (285 : Int32), .ref 6]) dX0_fillCell_146 (c_X5_get (p := 6) (r := 7) rfl rfl _ _ hv25) (by decide) ce_X5_get ml_X0_36 in_X5_get se_X5_get cl_X5 rfl rfl (Nat.le_of_ble_eq_true rfl) rfl ?_
        refine go_iconst (pc := 149) (v := (1 : Int32)) dX0_fillCell_149 (by decide) ?_
        refine go_iadd (pc := 150) dX0_fillCell_150 ?_
        obtain ⟨v26, hv27, h⟩ := fm_bind h
        refine go_callVv (pc := 151) (As := [.int (285 : Int32), .int (v24 + (1 : Int32))]) (st := []) dX0_fillCell_151 (c_X5_set (p := 6) (r := 7) rfl rfl _ _ _ hv27) (by decide) ce_X5_set ml_X0_44 in_X5_set se_X5_set cl_X5 rfl rfl (Nat.le_of_ble_eq_true rfl) rfl ?_
        refine go_aload_n (pc := 154) dX0_fillCell_154 rfl rfl ?_
        refine go_getR (pc := 155) (k := 0) (q2 := 6) dX0_fillCell_155 cl_X0 rfl rfl (by decide) lk_X0_12 ?_
        refine go_sipush (pc := 158) (v := (224 : Int32)) dX0_fillCell_158 (by decide) ?_
        refine go_iload_n (pc := 161) dX0_fillCell_161 rfl rfl ?_
        refine go_iadd (pc := 162) dX0_fillCell_162 ?_
        refine go_iload_n (pc := 163) dX0_fillCell_163 rfl rfl ?_
        obtain ⟨v28, hv29, h⟩ := fm_bind h
        refine go_callVv (pc := 164) (As := [.int ((224 : Int32) + x1), .int v9.1]) (st := []) dX0_fillCell_164 (c_X5_set (p := 6) (r := 7) rfl rfl _ _ _ hv29) (by decide) ce_X5_set ml_X0_44 in_X5_set se_X5_set cl_X5 rfl rfl (Nat.le_of_ble_eq_true rfl) rfl ?_
        refine go_aload_n (pc := 167) dX0_fillCell_167 rfl rfl ?_
        refine go_iload_n (pc := 168) dX0_fillCell_168 rfl rfl ?_
        obtain ⟨v30, hv31, h⟩ := fm_bind h
        refine go_callVv (pc := 169) (As := [.int v9.1]) (st := []) dX0_fillCell_169 (c_X0_dropVoicesFor   _ _ hv31) (by decide) ce_X0_dropVoicesFor ml_X0_63 in_X0_dropVoicesFor se_X0_dropVoicesFor cl_X0 rfl rfl (Nat.le_of_ble_eq_true rfl) rfl ?_
        refine go_iload_n (pc := 172) dX0_fillCell_172 rfl rfl ?_
        obtain rfl := Option.some.inj h
        exact go_iret (pc := 173) .int dX0_fillCell_173 rfl rfl ⟨rfl, rfl⟩
      · rw [if_neg (by rw [c13]; decide)] at h
        refine go_aload_n (pc := 74) dX0_fillCell_74 rfl rfl ?_
        refine go_bipush (pc := 75) (v := (6 : Int32)) dX0_fillCell_75 (by decide) ?_
        refine go_iload_n (pc := 77) dX0_fillCell_77 rfl rfl ?_
        obtain ⟨v32, hv33, h⟩ := fm_bind h
        refine go_callVi (pc := 78) (As := [.int (6 : Int32), .int x1]) (st := []) dX0_fillCell_78 (c_X0_refuse   _ _ _ hv33) (by decide) ce_X0_refuse ml_X0_40 in_X0_refuse se_X0_refuse cl_X0 rfl rfl (Nat.le_of_ble_eq_true rfl) rfl ?_
        obtain rfl := Option.some.inj h
        exact go_iret (pc := 81) .int dX0_fillCell_81 rfl rfl ⟨rfl, rfl⟩
    · rw [if_pos c8] at h
      refine go_aload_n (pc := 32) dX0_fillCell_32 rfl rfl ?_
      refine go_iconst (pc := 33) (v := (5 : Int32)) dX0_fillCell_33 (by decide) ?_
      refine go_aload_n (pc := 34) dX0_fillCell_34 rfl rfl ?_
      refine go_getR (pc := 35) (k := 0) (q2 := 6) dX0_fillCell_35 cl_X0 rfl rfl (by decide) lk_X0_12 ?_
      refine go_sipush (pc := 38) (v := (224 : Int32)) dX0_fillCell_38 (by decide) ?_
      refine go_iload_n (pc := 41) dX0_fillCell_41 rfl rfl ?_
      refine go_iadd (pc := 42) dX0_fillCell_42 ?_
      obtain ⟨v34, hv35, h⟩ := fm_bind h
      refine go_callVi (pc := 43) (As := [.int ((224 : Int32) + x1)]) (st := [.int (5 : Int32), .ref 5]) dX0_fillCell_43 (c_X5_get (p := 6) (r := 7) rfl rfl _ _ hv35) (by decide) ce_X5_get ml_X0_36 in_X5_get se_X5_get cl_X5 rfl rfl (Nat.le_of_ble_eq_true rfl) rfl ?_
      obtain ⟨v36, hv37, h⟩ := fm_bind h
      refine go_callVi (pc := 46) (As := [.int (5 : Int32), .int v34]) (st := []) dX0_fillCell_46 (c_X0_refuse   _ _ _ hv37) (by decide) ce_X0_refuse ml_X0_40 in_X0_refuse se_X0_refuse cl_X0 rfl rfl (Nat.le_of_ble_eq_true rfl) rfl ?_
      obtain rfl := Option.some.inj h
      exact go_iret (pc := 49) .int dX0_fillCell_49 rfl rfl ⟨rfl, rfl⟩
  · rw [if_neg (by rw [c3]; decide)] at h
    refine go_bipush (pc := 7) (v := (-11 : Int32)) dX0_fillCell_7 (by decide) ?_
    obtain rfl := Option.some.inj h
    exact go_iret (pc := 9) .int dX0_fillCell_9 rfl rfl ⟨rfl, rfl⟩
def f_X0_moveOut (x1 : Int32) (x2 : Int32) (m : fm_M) : Option (fm_M) :=
  (f_X5_of 6 7 (3 : Int32) x1 m).bind fun v1 => (f_X5_set 6 7 ((224 : Int32) + v1) (-15 : Int32) m).bind fun v3 => (f_X5_setOf 6 7 (2 : Int32) x1 x2 v3).bind fun v5 => (f_X5_setOf 6 7 (3 : Int32) x1 (-15 : Int32) v5).bind fun v7 => (f_X5_setOf 6 7 (5 : Int32) x1 (0 : Int32) v7).bind fun v9 => (f_X5_setOf 6 7 (7 : Int32) x1 (-15 : Int32) v9).bind fun v11 => some v11
set_option maxRecDepth 100000 in
set_option maxHeartbeats 4000000 in
theorem c_X0_moveOut {X : List fm_L} (x1 : Int32) (x2 : Int32) (m : fm_M) {res : fm_M} (h : f_X0_moveOut x1 x2 m = some res) : fm_Met (fm_layH ++ X) 2 m_X0_moveOut [.ref 5, .int x1, .int x2] m (fm_pv res) := by
  refine fm_Met_of (ls := [some (.ref 5), some (.int x1), some (.int x2)]) (by decide) rfl (fm_cc_r _ (fm_cc_i _ (fm_cc_i _ fm_cc_0))) (Nat.le_of_ble_eq_true rfl) rfl ?_
  unfold f_X0_moveOut at h
  refine go_aload_n (pc := 0) dX0_moveOut_0 rfl rfl ?_
  refine go_getR (pc := 1) (k := 0) (q2 := 6) dX0_moveOut_1 cl_X0 rfl rfl (by decide) lk_X0_12 ?_
  refine go_sipush (pc := 4) (v := (224 : Int32)) dX0_moveOut_4 (by decide) ?_
  refine go_aload_n (pc := 7) dX0_moveOut_7 rfl rfl ?_
  refine go_getR (pc := 8) (k := 0) (q2 := 6) dX0_moveOut_8 cl_X0 rfl rfl (by decide) lk_X0_12 ?_
  refine go_iconst (pc := 11) (v := (3 : Int32)) dX0_moveOut_11 (by decide) ?_
  refine go_iload_n (pc := 12) dX0_moveOut_12 rfl rfl ?_
  obtain ⟨v1, hv2, h⟩ := fm_bind h
  refine go_callVi (pc := 13) (As := [.int (3 : Int32), .int x1]) (st := [.int (224 : Int32), .ref 6]) dX0_moveOut_13 (c_X5_of (p := 6) (r := 7) rfl rfl _ _ _ hv2) (by decide) ce_X5_of ml_X0_60 in_X5_of se_X5_of cl_X5 rfl rfl (Nat.le_of_ble_eq_true rfl) rfl ?_
  refine go_iadd (pc := 16) dX0_moveOut_16 ?_
  refine go_bipush (pc := 17) (v := (-15 : Int32)) dX0_moveOut_17 (by decide) ?_
  obtain ⟨v3, hv4, h⟩ := fm_bind h
  refine go_callVv (pc := 19) (As := [.int ((224 : Int32) + v1), .int (-15 : Int32)]) (st := []) dX0_moveOut_19 (c_X5_set (p := 6) (r := 7) rfl rfl _ _ _ hv4) (by decide) ce_X5_set ml_X0_44 in_X5_set se_X5_set cl_X5 rfl rfl (Nat.le_of_ble_eq_true rfl) rfl ?_
  refine go_aload_n (pc := 22) dX0_moveOut_22 rfl rfl ?_
  refine go_getR (pc := 23) (k := 0) (q2 := 6) dX0_moveOut_23 cl_X0 rfl rfl (by decide) lk_X0_12 ?_
  refine go_iconst (pc := 26) (v := (2 : Int32)) dX0_moveOut_26 (by decide) ?_
  refine go_iload_n (pc := 27) dX0_moveOut_27 rfl rfl ?_
  refine go_iload_n (pc := 28) dX0_moveOut_28 rfl rfl ?_
  obtain ⟨v5, hv6, h⟩ := fm_bind h
  refine go_callVv (pc := 29) (As := [.int (2 : Int32), .int x1, .int x2]) (st := []) dX0_moveOut_29 (c_X5_setOf (p := 6) (r := 7) rfl rfl _ _ _ _ hv6) (by decide) ce_X5_setOf ml_X0_48 in_X5_setOf se_X5_setOf cl_X5 rfl rfl (Nat.le_of_ble_eq_true rfl) rfl ?_
  refine go_aload_n (pc := 32) dX0_moveOut_32 rfl rfl ?_
  refine go_getR (pc := 33) (k := 0) (q2 := 6) dX0_moveOut_33 cl_X0 rfl rfl (by decide) lk_X0_12 ?_
  refine go_iconst (pc := 36) (v := (3 : Int32)) dX0_moveOut_36 (by decide) ?_
  refine go_iload_n (pc := 37) dX0_moveOut_37 rfl rfl ?_
  refine go_bipush (pc := 38) (v := (-15 : Int32)) dX0_moveOut_38 (by decide) ?_
  obtain ⟨v7, hv8, h⟩ := fm_bind h
  refine go_callVv (pc := 40) (As := [.int (3 : Int32), .int x1, .int (-15 : Int32)]) (st := []) dX0_moveOut_40 (c_X5_setOf (p := 6) (r := 7) rfl rfl _ _ _ _ hv8) (by decide) ce_X5_setOf ml_X0_48 in_X5_setOf se_X5_setOf cl_X5 rfl rfl (Nat.le_of_ble_eq_true rfl) rfl ?_
  refine go_aload_n (pc := 43) dX0_moveOut_43 rfl rfl ?_
  refine go_getR (pc := 44) (k := 0) (q2 := 6) dX0_moveOut_44 cl_X0 rfl rfl (by decide) lk_X0_12 ?_
  refine go_iconst (pc := 47) (v := (5 : Int32)) dX0_moveOut_47 (by decide) ?_
  refine go_iload_n (pc := 48) dX0_moveOut_48 rfl rfl ?_
  refine go_iconst (pc := 49) (v := (0 : Int32)) dX0_moveOut_49 (by decide) ?_
  obtain ⟨v9, hv10, h⟩ := fm_bind h
  refine go_callVv (pc := 50) (As := [.int (5 : Int32), .int x1, .int (0 : Int32)]) (st := []) dX0_moveOut_50 (c_X5_setOf (p := 6) (r := 7) rfl rfl _ _ _ _ hv10) (by decide) ce_X5_setOf ml_X0_48 in_X5_setOf se_X5_setOf cl_X5 rfl rfl (Nat.le_of_ble_eq_true rfl) rfl ?_
  refine go_aload_n (pc := 53) dX0_moveOut_53 rfl rfl ?_
  refine go_getR (pc := 54) (k := 0) (q2 := 6) dX0_moveOut_54 cl_X0 rfl rfl (by decide) lk_X0_12 ?_
  refine go_bipush (pc := 57) (v := (7 : Int32)) dX0_moveOut_57 (by decide) ?_
  refine go_iload_n (pc := 59) dX0_moveOut_59 rfl rfl ?_
  refine go_bipush (pc := 60) (v := (-15 : Int32)) dX0_moveOut_60 (by decide) ?_
  obtain ⟨v11, hv12, h⟩ := fm_bind h
  refine go_callVv (pc := 62) (As := [.int (7 : Int32), .int x1, .int (-15 : Int32)]) (st := []) dX0_moveOut_62 (c_X5_setOf (p := 6) (r := 7) rfl rfl _ _ _ _ hv12) (by decide) ce_X5_setOf ml_X0_48 in_X5_setOf se_X5_setOf cl_X5 rfl rfl (Nat.le_of_ble_eq_true rfl) rfl ?_
  obtain rfl := Option.some.inj h
  exact go_vret (pc := 65) dX0_moveOut_65 rfl ⟨rfl, rfl⟩
def f_X0_emptyCell (x1 : Int32) (m : fm_M) : Option (Int32 × fm_M) :=
  (f_X6_isCell x1 m).bind fun v1 => if v1 = true then ((f_X5_get 6 7 ((224 : Int32) + x1) m).bind fun v4 => (f_X5_isBrother 6 7 v4 m).bind fun v6 => if v6 = true then ((f_X0_moveOut v4 (3 : Int32) m).bind fun v9 => some (v4, v9)) else ((f_X0_refuse (7 : Int32) x1 m).bind fun v11 => some (v11.1, v11.2))) else (some ((-11 : Int32), m))
set_option maxRecDepth 100000 in
set_option maxHeartbeats 4000000 in
theorem c_X0_emptyCell {X : List fm_L} (x1 : Int32) (m : fm_M) {res : Int32 × fm_M} (h : f_X0_emptyCell x1 m = some res) : fm_Met (fm_layH ++ X) 3 m_X0_emptyCell [.ref 5, .int x1] m (fm_pi res.1 res.2) := by
  refine fm_Met_of (ls := [some (.ref 5), some (.int x1), none]) (by decide) rfl (fm_cc_r _ (fm_cc_i _ fm_cc_0)) (Nat.le_of_ble_eq_true rfl) rfl ?_
  unfold f_X0_emptyCell at h
  refine go_iload_n (pc := 0) dX0_emptyCell_0 rfl rfl ?_
  obtain ⟨v1, hv2, h⟩ := fm_bind h
  refine go_callSNi (pc := 1) (As := [.int x1]) (st := []) "PittanceHouse" dX0_emptyCell_1 (c_X6_isCell   _ _ hv2) (by decide) ce_X6_isCell nl_X0_73 st_X6_isCell rfl (Nat.le_of_ble_eq_true rfl) rfl ?_
  refine go_ifb_ne (pc := 4) (tgt := 10) dX0_emptyCell_4 (by decide) (fun c3 => ?_) (fun c3 => ?_)
  · rw [if_pos c3] at h
    refine go_aload_n (pc := 10) dX0_emptyCell_10 rfl rfl ?_
    refine go_getR (pc := 11) (k := 0) (q2 := 6) dX0_emptyCell_11 cl_X0 rfl rfl (by decide) lk_X0_12 ?_
    refine go_sipush (pc := 14) (v := (224 : Int32)) dX0_emptyCell_14 (by decide) ?_
    refine go_iload_n (pc := 17) dX0_emptyCell_17 rfl rfl ?_
    refine go_iadd (pc := 18) dX0_emptyCell_18 ?_
    obtain ⟨v4, hv5, h⟩ := fm_bind h
    refine go_callVi (pc := 19) (As := [.int ((224 : Int32) + x1)]) (st := []) dX0_emptyCell_19 (c_X5_get (p := 6) (r := 7) rfl rfl _ _ hv5) (by decide) ce_X5_get ml_X0_36 in_X5_get se_X5_get cl_X5 rfl rfl (Nat.le_of_ble_eq_true rfl) rfl ?_
    refine go_istore_n (pc := 22) (ls1 := [some (.ref 5), some (.int x1), some (.int v4)]) dX0_emptyCell_22 rfl (by decide) rfl ?_
    refine go_aload_n (pc := 23) dX0_emptyCell_23 rfl rfl ?_
    refine go_getR (pc := 24) (k := 0) (q2 := 6) dX0_emptyCell_24 cl_X0 rfl rfl (by decide) lk_X0_12 ?_
    refine go_iload_n (pc := 27) dX0_emptyCell_27 rfl rfl ?_
    obtain ⟨v6, hv7, h⟩ := fm_bind h
    refine go_callVi (pc := 28) (As := [.int v4]) (st := []) dX0_emptyCell_28 (c_X5_isBrother (p := 6) (r := 7) rfl rfl _ _ hv7) (by decide) ce_X5_isBrother ml_X0_52 in_X5_isBrother se_X5_isBrother cl_X5 rfl rfl (Nat.le_of_ble_eq_true rfl) rfl ?_
    refine go_ifb_ne (pc := 31) (tgt := 42) dX0_emptyCell_31 (by decide) (fun c8 => ?_) (fun c8 => ?_)
    · rw [if_pos c8] at h
      refine go_aload_n (pc := 42) dX0_emptyCell_42 rfl rfl ?_
      refine go_iload_n (pc := 43) dX0_emptyCell_43 rfl rfl ?_
      refine go_iconst (pc := 44) (v := (3 : Int32)) dX0_emptyCell_44 (by decide) ?_
      obtain ⟨v9, hv10, h⟩ := fm_bind h
      refine go_callVv (pc := 45) (As := [.int v4, .int (3 : Int32)]) (st := []) dX0_emptyCell_45 (c_X0_moveOut   _ _ _ hv10) (by decide) ce_X0_moveOut ml_X0_80 in_X0_moveOut se_X0_moveOut cl_X0 rfl rfl (Nat.le_of_ble_eq_true rfl) rfl ?_
      refine go_iload_n (pc := 48) dX0_emptyCell_48 rfl rfl ?_
      obtain rfl := Option.some.inj h
      exact go_iret (pc := 49) .int dX0_emptyCell_49 rfl rfl ⟨rfl, rfl⟩
    · rw [if_neg (by rw [c8]; decide)] at h
      refine go_aload_n (pc := 34) dX0_emptyCell_34 rfl rfl ?_
      refine go_bipush (pc := 35) (v := (7 : Int32)) dX0_emptyCell_35 (by decide) ?_
      refine go_iload_n (pc := 37) dX0_emptyCell_37 rfl rfl ?_
      obtain ⟨v11, hv12, h⟩ := fm_bind h
      refine go_callVi (pc := 38) (As := [.int (7 : Int32), .int x1]) (st := []) dX0_emptyCell_38 (c_X0_refuse   _ _ _ hv12) (by decide) ce_X0_refuse ml_X0_40 in_X0_refuse se_X0_refuse cl_X0 rfl rfl (Nat.le_of_ble_eq_true rfl) rfl ?_
      obtain rfl := Option.some.inj h
      exact go_iret (pc := 41) .int dX0_emptyCell_41 rfl rfl ⟨rfl, rfl⟩
  · rw [if_neg (by rw [c3]; decide)] at h
    refine go_bipush (pc := 7) (v := (-11 : Int32)) dX0_emptyCell_7 (by decide) ?_
    obtain rfl := Option.some.inj h
    exact go_iret (pc := 9) .int dX0_emptyCell_9 rfl rfl ⟨rfl, rfl⟩
def f_X0_setFeast (x1 : Int32) (x2 : Int32) (m : fm_M) : Option (Int32 × fm_M) :=
  if x1 < 0 then (some ((-12 : Int32), m)) else (if (52 : Int32) ≤ x1 then (some ((-12 : Int32), m)) else (if x2 < (1 : Int32) then (some ((-12 : Int32), m)) else (if x2 ≤ (9 : Int32) then ((f_X5_pittanceIn 6 7 x1 m).bind fun v5 => if v5 = 0 then ((f_X5_feastsTold 6 7 m).bind fun v12 => if v12 < (6 : Int32) then ((f_X5_set 6 7 ((232 : Int32) + x1) x2 m).bind fun v15 => (f_X5_feastsTold 6 7 v15).bind fun v17 => some (v17, v15)) else ((f_X0_refuse (8 : Int32) (6 : Int32) m).bind fun v19 => some (v19.1, v19.2))) else ((f_X5_set 6 7 ((232 : Int32) + x1) x2 m).bind fun v8 => (f_X5_feastsTold 6 7 v8).bind fun v10 => some (v10, v8))) else (some ((-12 : Int32), m)))))
set_option maxRecDepth 100000 in
set_option maxHeartbeats 4000000 in
theorem c_X0_setFeast {X : List fm_L} (x1 : Int32) (x2 : Int32) (m : fm_M) {res : Int32 × fm_M} (h : f_X0_setFeast x1 x2 m = some res) : fm_Met (fm_layH ++ X) 3 m_X0_setFeast [.ref 5, .int x1, .int x2] m (fm_pi res.1 res.2) := by
  refine fm_Met_of (ls := [some (.ref 5), some (.int x1), some (.int x2)]) (by decide) rfl (fm_cc_r _ (fm_cc_i _ (fm_cc_i _ fm_cc_0))) (Nat.le_of_ble_eq_true rfl) rfl ?_
  unfold f_X0_setFeast at h
  refine go_iload_n (pc := 0) dX0_setFeast_0 rfl rfl ?_
  refine go_if_lt (pc := 1) (tgt := 21) dX0_setFeast_1 (by decide) (fun c1 => ?_) (fun c1 => ?_)
  · rw [if_pos c1] at h
    refine go_bipush (pc := 21) (v := (-12 : Int32)) dX0_setFeast_21 (by decide) ?_
    obtain rfl := Option.some.inj h
    exact go_iret (pc := 23) .int dX0_setFeast_23 rfl rfl ⟨rfl, rfl⟩
  · rw [if_neg c1] at h
    refine go_iload_n (pc := 4) dX0_setFeast_4 rfl rfl ?_
    refine go_bipush (pc := 5) (v := (52 : Int32)) dX0_setFeast_5 (by decide) ?_
    refine go_icmp_ge (pc := 7) (tgt := 21) dX0_setFeast_7 (by decide) (fun c2 => ?_) (fun c2 => ?_)
    · rw [if_pos c2] at h
      refine go_bipush (pc := 21) (v := (-12 : Int32)) dX0_setFeast_21 (by decide) ?_
      obtain rfl := Option.some.inj h
      exact go_iret (pc := 23) .int dX0_setFeast_23 rfl rfl ⟨rfl, rfl⟩
    · rw [if_neg c2] at h
      refine go_iload_n (pc := 10) dX0_setFeast_10 rfl rfl ?_
      refine go_iconst (pc := 11) (v := (1 : Int32)) dX0_setFeast_11 (by decide) ?_
      refine go_icmp_lt (pc := 12) (tgt := 21) dX0_setFeast_12 (by decide) (fun c3 => ?_) (fun c3 => ?_)
      · rw [if_pos c3] at h
        refine go_bipush (pc := 21) (v := (-12 : Int32)) dX0_setFeast_21 (by decide) ?_
        obtain rfl := Option.some.inj h
        exact go_iret (pc := 23) .int dX0_setFeast_23 rfl rfl ⟨rfl, rfl⟩
      · rw [if_neg c3] at h
        refine go_iload_n (pc := 15) dX0_setFeast_15 rfl rfl ?_
        refine go_bipush (pc := 16) (v := (9 : Int32)) dX0_setFeast_16 (by decide) ?_
        refine go_icmp_le (pc := 18) (tgt := 24) dX0_setFeast_18 (by decide) (fun c4 => ?_) (fun c4 => ?_)
        · rw [if_pos c4] at h
          refine go_aload_n (pc := 24) dX0_setFeast_24 rfl rfl ?_
          refine go_getR (pc := 25) (k := 0) (q2 := 6) dX0_setFeast_25 cl_X0 rfl rfl (by decide) lk_X0_12 ?_
          refine go_iload_n (pc := 28) dX0_setFeast_28 rfl rfl ?_
          obtain ⟨v5, hv6, h⟩ := fm_bind h
          refine go_callVi (pc := 29) (As := [.int x1]) (st := []) dX0_setFeast_29 (c_X5_pittanceIn (p := 6) (r := 7) rfl rfl _ _ hv6) (by decide) ce_X5_pittanceIn ml_X0_83 in_X5_pittanceIn se_X5_pittanceIn cl_X5 rfl rfl (Nat.le_of_ble_eq_true rfl) rfl ?_
          refine go_if_ne (pc := 32) (tgt := 56) dX0_setFeast_32 (by decide) (fun c7 => ?_) (fun c7 => ?_)
          · rw [if_neg c7] at h
            refine go_aload_n (pc := 56) dX0_setFeast_56 rfl rfl ?_
            refine go_getR (pc := 57) (k := 0) (q2 := 6) dX0_setFeast_57 cl_X0 rfl rfl (by decide) lk_X0_12 ?_
            refine go_sipush (pc := 60) (v := (232 : Int32)) dX0_setFeast_60 (by decide) ?_
            refine go_iload_n (pc := 63) dX0_setFeast_63 rfl rfl ?_
            refine go_iadd (pc := 64) dX0_setFeast_64 ?_
            refine go_iload_n (pc := 65) dX0_setFeast_65 rfl rfl ?_
            obtain ⟨v8, hv9, h⟩ := fm_bind h
            refine go_callVv (pc := 66) (As := [.int ((232 : Int32) + x1), .int x2]) (st := []) dX0_setFeast_66 (c_X5_set (p := 6) (r := 7) rfl rfl _ _ _ hv9) (by decide) ce_X5_set ml_X0_44 in_X5_set se_X5_set cl_X5 rfl rfl (Nat.le_of_ble_eq_true rfl) rfl ?_
            refine go_aload_n (pc := 69) dX0_setFeast_69 rfl rfl ?_
            refine go_getR (pc := 70) (k := 0) (q2 := 6) dX0_setFeast_70 cl_X0 rfl rfl (by decide) lk_X0_12 ?_
            obtain ⟨v10, hv11, h⟩ := fm_bind h
            refine go_callVi (pc := 73) (As := []) (st := []) dX0_setFeast_73 (c_X5_feastsTold (p := 6) (r := 7) rfl rfl _ hv11) (by decide) ce_X5_feastsTold ml_X0_86 in_X5_feastsTold se_X5_feastsTold cl_X5 rfl rfl (Nat.le_of_ble_eq_true rfl) rfl ?_
            obtain rfl := Option.some.inj h
            exact go_iret (pc := 76) .int dX0_setFeast_76 rfl rfl ⟨rfl, rfl⟩
          · rw [if_pos c7] at h
            refine go_aload_n (pc := 35) dX0_setFeast_35 rfl rfl ?_
            refine go_getR (pc := 36) (k := 0) (q2 := 6) dX0_setFeast_36 cl_X0 rfl rfl (by decide) lk_X0_12 ?_
            obtain ⟨v12, hv13, h⟩ := fm_bind h
            refine go_callVi (pc := 39) (As := []) (st := []) dX0_setFeast_39 (c_X5_feastsTold (p := 6) (r := 7) rfl rfl _ hv13) (by decide) ce_X5_feastsTold ml_X0_86 in_X5_feastsTold se_X5_feastsTold cl_X5 rfl rfl (Nat.le_of_ble_eq_true rfl) rfl ?_
            refine go_bipush (pc := 42) (v := (6 : Int32)) dX0_setFeast_42 (by decide) ?_
            refine go_icmp_lt (pc := 44) (tgt := 56) dX0_setFeast_44 (by decide) (fun c14 => ?_) (fun c14 => ?_)
            · rw [if_pos c14] at h
              refine go_aload_n (pc := 56) dX0_setFeast_56 rfl rfl ?_
              refine go_getR (pc := 57) (k := 0) (q2 := 6) dX0_setFeast_57 cl_X0 rfl rfl (by decide) lk_X0_12 ?_
              refine go_sipush (pc := 60) (v := (232 : Int32)) dX0_setFeast_60 (by decide) ?_
              refine go_iload_n (pc := 63) dX0_setFeast_63 rfl rfl ?_
              refine go_iadd (pc := 64) dX0_setFeast_64 ?_
              refine go_iload_n (pc := 65) dX0_setFeast_65 rfl rfl ?_
              obtain ⟨v15, hv16, h⟩ := fm_bind h
              refine go_callVv (pc := 66) (As := [.int ((232 : Int32) + x1), .int x2]) (st := []) dX0_setFeast_66 (c_X5_set (p := 6) (r := 7) rfl rfl _ _ _ hv16) (by decide) ce_X5_set ml_X0_44 in_X5_set se_X5_set cl_X5 rfl rfl (Nat.le_of_ble_eq_true rfl) rfl ?_
              refine go_aload_n (pc := 69) dX0_setFeast_69 rfl rfl ?_
              refine go_getR (pc := 70) (k := 0) (q2 := 6) dX0_setFeast_70 cl_X0 rfl rfl (by decide) lk_X0_12 ?_
              obtain ⟨v17, hv18, h⟩ := fm_bind h
              refine go_callVi (pc := 73) (As := []) (st := []) dX0_setFeast_73 (c_X5_feastsTold (p := 6) (r := 7) rfl rfl _ hv18) (by decide) ce_X5_feastsTold ml_X0_86 in_X5_feastsTold se_X5_feastsTold cl_X5 rfl rfl (Nat.le_of_ble_eq_true rfl) rfl ?_
              obtain rfl := Option.some.inj h
              exact go_iret (pc := 76) .int dX0_setFeast_76 rfl rfl ⟨rfl, rfl⟩
            · rw [if_neg c14] at h
              refine go_aload_n (pc := 47) dX0_setFeast_47 rfl rfl ?_
              refine go_bipush (pc := 48) (v := (8 : Int32)) dX0_setFeast_48 (by decide) ?_
              refine go_bipush (pc := 50) (v := (6 : Int32)) dX0_setFeast_50 (by decide) ?_
              obtain ⟨v19, hv20, h⟩ := fm_bind h
              refine go_callVi (pc := 52) (As := [.int (8 : Int32), .int (6 : Int32)]) (st := []) dX0_setFeast_52 (c_X0_refuse   _ _ _ hv20) (by decide) ce_X0_refuse ml_X0_40 in_X0_refuse se_X0_refuse cl_X0 rfl rfl (Nat.le_of_ble_eq_true rfl) rfl ?_
              obtain rfl := Option.some.inj h
              exact go_iret (pc := 55) .int dX0_setFeast_55 rfl rfl ⟨rfl, rfl⟩
        · rw [if_neg c4] at h
          refine go_bipush (pc := 21) (v := (-12 : Int32)) dX0_setFeast_21 (by decide) ?_
          obtain rfl := Option.some.inj h
          exact go_iret (pc := 23) .int dX0_setFeast_23 rfl rfl ⟨rfl, rfl⟩
def f_X6_isRule (x1 : Int32) (m : fm_M) : Option (Bool) :=
  if x1 < 0 then (some false) else (if (5 : Int32) ≤ x1 then (some false) else (some true))
set_option maxRecDepth 100000 in
set_option maxHeartbeats 4000000 in
theorem c_X6_isRule {lay : List fm_L} (x1 : Int32) (m : fm_M) {res : Bool} (h : f_X6_isRule x1 m = some res) : fm_Met lay 0 m_X6_isRule [.int x1] m (fm_pi (fm_b res) m) := by
  refine fm_Met_of (ls := [some (.int x1)]) (by decide) rfl (fm_cc_i _ fm_cc_0) (Nat.le_of_ble_eq_true rfl) rfl ?_
  unfold f_X6_isRule at h
  refine go_iload_n (pc := 0) dX6_isRule_0 rfl rfl ?_
  refine go_if_lt (pc := 1) (tgt := 13) dX6_isRule_1 (by decide) (fun c1 => ?_) (fun c1 => ?_)
  · rw [if_pos c1] at h
    refine go_iconst (pc := 13) (v := (0 : Int32)) dX6_isRule_13 (by decide) ?_
    obtain rfl := Option.some.inj h
    exact go_iret (pc := 14) .boolean dX6_isRule_14 rfl rfl ⟨rfl, rfl⟩
  · rw [if_neg c1] at h
    refine go_iload_n (pc := 4) dX6_isRule_4 rfl rfl ?_
    refine go_iconst (pc := 5) (v := (5 : Int32)) dX6_isRule_5 (by decide) ?_
    refine go_icmp_ge (pc := 6) (tgt := 13) dX6_isRule_6 (by decide) (fun c2 => ?_) (fun c2 => ?_)
    · rw [if_pos c2] at h
      refine go_iconst (pc := 13) (v := (0 : Int32)) dX6_isRule_13 (by decide) ?_
      obtain rfl := Option.some.inj h
      exact go_iret (pc := 14) .boolean dX6_isRule_14 rfl rfl ⟨rfl, rfl⟩
    · rw [if_neg c2] at h
      refine go_iconst (pc := 9) (v := (1 : Int32)) dX6_isRule_9 (by decide) ?_
      refine go_goto (pc := 10) (tgt := 14) dX6_isRule_10 (by decide) ?_
      obtain rfl := Option.some.inj h
      exact go_iret (pc := 14) .boolean dX6_isRule_14 rfl rfl ⟨rfl, rfl⟩
def f_X0_breakRule (x1 : Int32) (x2 : Int32) (m : fm_M) : Option (Int32 × fm_M) :=
  (f_X5_isBrother 6 7 x1 m).bind fun v1 => if v1 = true then ((f_X6_isRule x2 m).bind fun v4 => if v4 = true then ((f_X5_is 6 7 (1 : Int32) x1 m).bind fun v7 => if v7 = true then ((f_X5_of 6 7 ((9 : Int32) + x2) x1 m).bind fun v10 => (f_X5_setOf 6 7 ((9 : Int32) + x2) x1 (v10 + (1 : Int32)) m).bind fun v12 => if (v10 + (1 : Int32)) < (3 : Int32) then ((f_X5_of 6 7 (5 : Int32) x1 v12).bind fun v15 => (f_X5_setOf 6 7 (5 : Int32) x1 (v15 + (v10 + (1 : Int32))) v12).bind fun v17 => (f_X5_of 6 7 (5 : Int32) x1 v17).bind fun v19 => some (v19, v17)) else ((f_X0_moveOut x1 (2 : Int32) v12).bind fun v21 => (f_X5_of 6 7 (5 : Int32) x1 v21).bind fun v23 => some (v23, v21))) else ((f_X5_of 6 7 (2 : Int32) x1 m).bind fun v25 => (f_X0_refuse (3 : Int32) v25 m).bind fun v27 => some (v27.1, v27.2))) else (some ((-11 : Int32), m))) else (some ((-11 : Int32), m))
set_option maxRecDepth 100000 in
set_option maxHeartbeats 4000000 in
theorem c_X0_breakRule {X : List fm_L} (x1 : Int32) (x2 : Int32) (m : fm_M) {res : Int32 × fm_M} (h : f_X0_breakRule x1 x2 m = some res) : fm_Met (fm_layH ++ X) 3 m_X0_breakRule [.ref 5, .int x1, .int x2] m (fm_pi res.1 res.2) := by
  refine fm_Met_of (ls := [some (.ref 5), some (.int x1), some (.int x2), none]) (by decide) rfl (fm_cc_r _ (fm_cc_i _ (fm_cc_i _ fm_cc_0))) (Nat.le_of_ble_eq_true rfl) rfl ?_
  unfold f_X0_breakRule at h
  refine go_aload_n (pc := 0) dX0_breakRule_0 rfl rfl ?_
  refine go_getR (pc := 1) (k := 0) (q2 := 6) dX0_breakRule_1 cl_X0 rfl rfl (by decide) lk_X0_12 ?_
  refine go_iload_n (pc := 4) dX0_breakRule_4 rfl rfl ?_
  obtain ⟨v1, hv2, h⟩ := fm_bind h
  refine go_callVi (pc := 5) (As := [.int x1]) (st := []) dX0_breakRule_5 (c_X5_isBrother (p := 6) (r := 7) rfl rfl _ _ hv2) (by decide) ce_X5_isBrother ml_X0_52 in_X5_isBrother se_X5_isBrother cl_X5 rfl rfl (Nat.le_of_ble_eq_true rfl) rfl ?_
  refine go_ifb_eq (pc := 8) (tgt := 18) dX0_breakRule_8 (by decide) (fun c3 => ?_) (fun c3 => ?_)
  · rw [if_neg (by rw [c3]; decide)] at h
    refine go_bipush (pc := 18) (v := (-11 : Int32)) dX0_breakRule_18 (by decide) ?_
    obtain rfl := Option.some.inj h
    exact go_iret (pc := 20) .int dX0_breakRule_20 rfl rfl ⟨rfl, rfl⟩
  · rw [if_pos c3] at h
    refine go_iload_n (pc := 11) dX0_breakRule_11 rfl rfl ?_
    obtain ⟨v4, hv5, h⟩ := fm_bind h
    refine go_callSNi (pc := 12) (As := [.int x2]) (st := []) "PittanceHouse" dX0_breakRule_12 (c_X6_isRule   _ _ hv5) (by decide) ce_X6_isRule nl_X0_90 st_X6_isRule rfl (Nat.le_of_ble_eq_true rfl) rfl ?_
    refine go_ifb_ne (pc := 15) (tgt := 21) dX0_breakRule_15 (by decide) (fun c6 => ?_) (fun c6 => ?_)
    · rw [if_pos c6] at h
      refine go_aload_n (pc := 21) dX0_breakRule_21 rfl rfl ?_
      refine go_getR (pc := 22) (k := 0) (q2 := 6) dX0_breakRule_22 cl_X0 rfl rfl (by decide) lk_X0_12 ?_
      refine go_iconst (pc := 25) (v := (1 : Int32)) dX0_breakRule_25 (by decide) ?_
      refine go_iload_n (pc := 26) dX0_breakRule_26 rfl rfl ?_
      obtain ⟨v7, hv8, h⟩ := fm_bind h
      refine go_callVi (pc := 27) (As := [.int (1 : Int32), .int x1]) (st := []) dX0_breakRule_27 (c_X5_is (p := 6) (r := 7) rfl rfl _ _ _ hv8) (by decide) ce_X5_is ml_X0_56 in_X5_is se_X5_is cl_X5 rfl rfl (Nat.le_of_ble_eq_true rfl) rfl ?_
      refine go_ifb_ne (pc := 30) (tgt := 48) dX0_breakRule_30 (by decide) (fun c9 => ?_) (fun c9 => ?_)
      · rw [if_pos c9] at h
        refine go_aload_n (pc := 48) dX0_breakRule_48 rfl rfl ?_
        refine go_getR (pc := 49) (k := 0) (q2 := 6) dX0_breakRule_49 cl_X0 rfl rfl (by decide) lk_X0_12 ?_
        refine go_bipush (pc := 52) (v := (9 : Int32)) dX0_breakRule_52 (by decide) ?_
        refine go_iload_n (pc := 54) dX0_breakRule_54 rfl rfl ?_
        refine go_iadd (pc := 55) dX0_breakRule_55 ?_
        refine go_iload_n (pc := 56) dX0_breakRule_56 rfl rfl ?_
        obtain ⟨v10, hv11, h⟩ := fm_bind h
        refine go_callVi (pc := 57) (As := [.int ((9 : Int32) + x2), .int x1]) (st := []) dX0_breakRule_57 (c_X5_of (p := 6) (r := 7) rfl rfl _ _ _ hv11) (by decide) ce_X5_of ml_X0_60 in_X5_of se_X5_of cl_X5 rfl rfl (Nat.le_of_ble_eq_true rfl) rfl ?_
        refine go_iconst (pc := 60) (v := (1 : Int32)) dX0_breakRule_60 (by decide) ?_
        refine go_iadd (pc := 61) dX0_breakRule_61 ?_
        refine go_istore_n (pc := 62) (ls1 := [some (.ref 5), some (.int x1), some (.int x2), some (.int (v10 + (1 : Int32)))]) dX0_breakRule_62 rfl (by decide) rfl ?_
        refine go_aload_n (pc := 63) dX0_breakRule_63 rfl rfl ?_
        refine go_getR (pc := 64) (k := 0) (q2 := 6) dX0_breakRule_64 cl_X0 rfl rfl (by decide) lk_X0_12 ?_
        refine go_bipush (pc := 67) (v := (9 : Int32)) dX0_breakRule_67 (by decide) ?_
        refine go_iload_n (pc := 69) dX0_breakRule_69 rfl rfl ?_
        refine go_iadd (pc := 70) dX0_breakRule_70 ?_
        refine go_iload_n (pc := 71) dX0_breakRule_71 rfl rfl ?_
        refine go_iload_n (pc := 72) dX0_breakRule_72 rfl rfl ?_
        obtain ⟨v12, hv13, h⟩ := fm_bind h
        refine go_callVv (pc := 73) (As := [.int ((9 : Int32) + x2), .int x1, .int (v10 + (1 : Int32))]) (st := []) dX0_breakRule_73 (c_X5_setOf (p := 6) (r := 7) rfl rfl _ _ _ _ hv13) (by decide) ce_X5_setOf ml_X0_48 in_X5_setOf se_X5_setOf cl_X5 rfl rfl (Nat.le_of_ble_eq_true rfl) rfl ?_
        refine go_iload_n (pc := 76) dX0_breakRule_76 rfl rfl ?_
        refine go_iconst (pc := 77) (v := (3 : Int32)) dX0_breakRule_77 (by decide) ?_
        refine go_icmp_lt (pc := 78) (tgt := 90) dX0_breakRule_78 (by decide) (fun c14 => ?_) (fun c14 => ?_)
        · rw [if_pos c14] at h
          refine go_aload_n (pc := 90) dX0_breakRule_90 rfl rfl ?_
          refine go_getR (pc := 91) (k := 0) (q2 := 6) dX0_breakRule_91 cl_X0 rfl rfl (by decide) lk_X0_12 ?_
          refine go_iconst (pc := 94) (v := (5 : Int32)) dX0_breakRule_94 (by decide) ?_
          refine go_iload_n (pc := 95) dX0_breakRule_95 rfl rfl ?_
          refine go_aload_n (pc := 96) dX0_breakRule_96 rfl rfl ?_
          refine go_getR (pc := 97) (k := 0) (q2 := 6) dX0_breakRule_97 cl_X0 rfl rfl (by decide) lk_X0_12 ?_
          refine go_iconst (pc := 100) (v := (5 : Int32)) dX0_breakRule_100 (by decide) ?_
          refine go_iload_n (pc := 101) dX0_breakRule_101 rfl rfl ?_
          obtain ⟨v15, hv16, h⟩ := fm_bind h
          refine go_callVi (pc := 102) (As := [.int (5 : Int32), .int x1]) (st := [.int x1, .int (5 : Int32), .ref 6]) dX0_breakRule_102 (c_X5_of (p := 6) (r := 7) rfl rfl _ _ _ hv16) (by decide) ce_X5_of ml_X0_60 in_X5_of se_X5_of cl_X5 rfl rfl (Nat.le_of_ble_eq_true rfl) rfl ?_
          refine go_iload_n (pc := 105) dX0_breakRule_105 rfl rfl ?_
          refine go_iadd (pc := 106) dX0_breakRule_106 ?_
          obtain ⟨v17, hv18, h⟩ := fm_bind h
          refine go_callVv (pc := 107) (As := [.int (5 : Int32), .int x1, .int (v15 + (v10 + (1 : Int32)))]) (st := []) dX0_breakRule_107 (c_X5_setOf (p := 6) (r := 7) rfl rfl _ _ _ _ hv18) (by decide) ce_X5_setOf ml_X0_48 in_X5_setOf se_X5_setOf cl_X5 rfl rfl (Nat.le_of_ble_eq_true rfl) rfl ?_
          refine go_aload_n (pc := 110) dX0_breakRule_110 rfl rfl ?_
          refine go_getR (pc := 111) (k := 0) (q2 := 6) dX0_breakRule_111 cl_X0 rfl rfl (by decide) lk_X0_12 ?_
          refine go_iconst (pc := 114) (v := (5 : Int32)) dX0_breakRule_114 (by decide) ?_
          refine go_iload_n (pc := 115) dX0_breakRule_115 rfl rfl ?_
          obtain ⟨v19, hv20, h⟩ := fm_bind h
          refine go_callVi (pc := 116) (As := [.int (5 : Int32), .int x1]) (st := []) dX0_breakRule_116 (c_X5_of (p := 6) (r := 7) rfl rfl _ _ _ hv20) (by decide) ce_X5_of ml_X0_60 in_X5_of se_X5_of cl_X5 rfl rfl (Nat.le_of_ble_eq_true rfl) rfl ?_
          obtain rfl := Option.some.inj h
          exact go_iret (pc := 119) .int dX0_breakRule_119 rfl rfl ⟨rfl, rfl⟩
        · rw [if_neg c14] at h
          refine go_aload_n (pc := 81) dX0_breakRule_81 rfl rfl ?_
          refine go_iload_n (pc := 82) dX0_breakRule_82 rfl rfl ?_
          refine go_iconst (pc := 83) (v := (2 : Int32)) dX0_breakRule_83 (by decide) ?_
          obtain ⟨v21, hv22, h⟩ := fm_bind h
          refine go_callVv (pc := 84) (As := [.int x1, .int (2 : Int32)]) (st := []) dX0_breakRule_84 (c_X0_moveOut   _ _ _ hv22) (by decide) ce_X0_moveOut ml_X0_80 in_X0_moveOut se_X0_moveOut cl_X0 rfl rfl (Nat.le_of_ble_eq_true rfl) rfl ?_
          refine go_goto (pc := 87) (tgt := 110) dX0_breakRule_87 (by decide) ?_
          refine go_aload_n (pc := 110) dX0_breakRule_110 rfl rfl ?_
          refine go_getR (pc := 111) (k := 0) (q2 := 6) dX0_breakRule_111 cl_X0 rfl rfl (by decide) lk_X0_12 ?_
          refine go_iconst (pc := 114) (v := (5 : Int32)) dX0_breakRule_114 (by decide) ?_
          refine go_iload_n (pc := 115) dX0_breakRule_115 rfl rfl ?_
          obtain ⟨v23, hv24, h⟩ := fm_bind h
          refine go_callVi (pc := 116) (As := [.int (5 : Int32), .int x1]) (st := []) dX0_breakRule_116 (c_X5_of (p := 6) (r := 7) rfl rfl _ _ _ hv24) (by decide) ce_X5_of ml_X0_60 in_X5_of se_X5_of cl_X5 rfl rfl (Nat.le_of_ble_eq_true rfl) rfl ?_
          obtain rfl := Option.some.inj h
          exact go_iret (pc := 119) .int dX0_breakRule_119 rfl rfl ⟨rfl, rfl⟩
      · rw [if_neg (by rw [c9]; decide)] at h
        refine go_aload_n (pc := 33) dX0_breakRule_33 rfl rfl ?_
        refine go_iconst (pc := 34) (v := (3 : Int32)) dX0_breakRule_34 (by decide) ?_
        refine go_aload_n (pc := 35) dX0_breakRule_35 rfl rfl ?_
        refine go_getR (pc := 36) (k := 0) (q2 := 6) dX0_breakRule_36 cl_X0 rfl rfl (by decide) lk_X0_12 ?_
        refine go_iconst (pc := 39) (v := (2 : Int32)) dX0_breakRule_39 (by decide) ?_
        refine go_iload_n (pc := 40) dX0_breakRule_40 rfl rfl ?_
        obtain ⟨v25, hv26, h⟩ := fm_bind h
        refine go_callVi (pc := 41) (As := [.int (2 : Int32), .int x1]) (st := [.int (3 : Int32), .ref 5]) dX0_breakRule_41 (c_X5_of (p := 6) (r := 7) rfl rfl _ _ _ hv26) (by decide) ce_X5_of ml_X0_60 in_X5_of se_X5_of cl_X5 rfl rfl (Nat.le_of_ble_eq_true rfl) rfl ?_
        obtain ⟨v27, hv28, h⟩ := fm_bind h
        refine go_callVi (pc := 44) (As := [.int (3 : Int32), .int v25]) (st := []) dX0_breakRule_44 (c_X0_refuse   _ _ _ hv28) (by decide) ce_X0_refuse ml_X0_40 in_X0_refuse se_X0_refuse cl_X0 rfl rfl (Nat.le_of_ble_eq_true rfl) rfl ?_
        obtain rfl := Option.some.inj h
        exact go_iret (pc := 47) .int dX0_breakRule_47 rfl rfl ⟨rfl, rfl⟩
    · rw [if_neg (by rw [c6]; decide)] at h
      refine go_bipush (pc := 18) (v := (-11 : Int32)) dX0_breakRule_18 (by decide) ?_
      obtain rfl := Option.some.inj h
      exact go_iret (pc := 20) .int dX0_breakRule_20 rfl rfl ⟨rfl, rfl⟩
def f_X0_endBan (x1 : Int32) (m : fm_M) : Option (Int32 × fm_M) :=
  (f_X5_isBrother 6 7 x1 m).bind fun v1 => if v1 = true then ((f_X5_is 6 7 (1 : Int32) x1 m).bind fun v4 => if v4 = true then ((f_X5_of 6 7 (5 : Int32) x1 m).bind fun v7 => if v7 = 0 then ((f_X0_refuse (10 : Int32) x1 m).bind fun v21 => some (v21.1, v21.2)) else ((f_X5_get 6 7 (293 : Int32) m).bind fun v10 => if v10 < (2 : Int32) then ((f_X5_setOf 6 7 (5 : Int32) x1 (0 : Int32) m).bind fun v13 => (f_X5_get 6 7 (293 : Int32) v13).bind fun v15 => (f_X5_set 6 7 (293 : Int32) (v15 + (1 : Int32)) v13).bind fun v17 => some (v7, v17)) else ((f_X0_refuse (9 : Int32) (2 : Int32) m).bind fun v19 => some (v19.1, v19.2)))) else ((f_X5_of 6 7 (2 : Int32) x1 m).bind fun v23 => (f_X0_refuse (3 : Int32) v23 m).bind fun v25 => some (v25.1, v25.2))) else (some ((-11 : Int32), m))
set_option maxRecDepth 100000 in
set_option maxHeartbeats 4000000 in
theorem c_X0_endBan {X : List fm_L} (x1 : Int32) (m : fm_M) {res : Int32 × fm_M} (h : f_X0_endBan x1 m = some res) : fm_Met (fm_layH ++ X) 2 m_X0_endBan [.ref 5, .int x1] m (fm_pi res.1 res.2) := by
  refine fm_Met_of (ls := [some (.ref 5), some (.int x1), none]) (by decide) rfl (fm_cc_r _ (fm_cc_i _ fm_cc_0)) (Nat.le_of_ble_eq_true rfl) rfl ?_
  unfold f_X0_endBan at h
  refine go_aload_n (pc := 0) dX0_endBan_0 rfl rfl ?_
  refine go_getR (pc := 1) (k := 0) (q2 := 6) dX0_endBan_1 cl_X0 rfl rfl (by decide) lk_X0_12 ?_
  refine go_iload_n (pc := 4) dX0_endBan_4 rfl rfl ?_
  obtain ⟨v1, hv2, h⟩ := fm_bind h
  refine go_callVi (pc := 5) (As := [.int x1]) (st := []) dX0_endBan_5 (c_X5_isBrother (p := 6) (r := 7) rfl rfl _ _ hv2) (by decide) ce_X5_isBrother ml_X0_52 in_X5_isBrother se_X5_isBrother cl_X5 rfl rfl (Nat.le_of_ble_eq_true rfl) rfl ?_
  refine go_ifb_ne (pc := 8) (tgt := 14) dX0_endBan_8 (by decide) (fun c3 => ?_) (fun c3 => ?_)
  · rw [if_pos c3] at h
    refine go_aload_n (pc := 14) dX0_endBan_14 rfl rfl ?_
    refine go_getR (pc := 15) (k := 0) (q2 := 6) dX0_endBan_15 cl_X0 rfl rfl (by decide) lk_X0_12 ?_
    refine go_iconst (pc := 18) (v := (1 : Int32)) dX0_endBan_18 (by decide) ?_
    refine go_iload_n (pc := 19) dX0_endBan_19 rfl rfl ?_
    obtain ⟨v4, hv5, h⟩ := fm_bind h
    refine go_callVi (pc := 20) (As := [.int (1 : Int32), .int x1]) (st := []) dX0_endBan_20 (c_X5_is (p := 6) (r := 7) rfl rfl _ _ _ hv5) (by decide) ce_X5_is ml_X0_56 in_X5_is se_X5_is cl_X5 rfl rfl (Nat.le_of_ble_eq_true rfl) rfl ?_
    refine go_ifb_ne (pc := 23) (tgt := 41) dX0_endBan_23 (by decide) (fun c6 => ?_) (fun c6 => ?_)
    · rw [if_pos c6] at h
      refine go_aload_n (pc := 41) dX0_endBan_41 rfl rfl ?_
      refine go_getR (pc := 42) (k := 0) (q2 := 6) dX0_endBan_42 cl_X0 rfl rfl (by decide) lk_X0_12 ?_
      refine go_iconst (pc := 45) (v := (5 : Int32)) dX0_endBan_45 (by decide) ?_
      refine go_iload_n (pc := 46) dX0_endBan_46 rfl rfl ?_
      obtain ⟨v7, hv8, h⟩ := fm_bind h
      refine go_callVi (pc := 47) (As := [.int (5 : Int32), .int x1]) (st := []) dX0_endBan_47 (c_X5_of (p := 6) (r := 7) rfl rfl _ _ _ hv8) (by decide) ce_X5_of ml_X0_60 in_X5_of se_X5_of cl_X5 rfl rfl (Nat.le_of_ble_eq_true rfl) rfl ?_
      refine go_istore_n (pc := 50) (ls1 := [some (.ref 5), some (.int x1), some (.int v7)]) dX0_endBan_50 rfl (by decide) rfl ?_
      refine go_iload_n (pc := 51) dX0_endBan_51 rfl rfl ?_
      refine go_if_ne (pc := 52) (tgt := 63) dX0_endBan_52 (by decide) (fun c9 => ?_) (fun c9 => ?_)
      · rw [if_neg c9] at h
        refine go_aload_n (pc := 63) dX0_endBan_63 rfl rfl ?_
        refine go_getR (pc := 64) (k := 0) (q2 := 6) dX0_endBan_64 cl_X0 rfl rfl (by decide) lk_X0_12 ?_
        refine go_sipush (pc := 67) (v := (293 : Int32)) dX0_endBan_67 (by decide) ?_
        obtain ⟨v10, hv11, h⟩ := fm_bind h
        refine go_callVi (pc := 70) (As := [.int (293 : Int32)]) (st := []) dX0_endBan_70 (c_X5_get (p := 6) (r := 7) rfl rfl _ _ hv11) (by decide) ce_X5_get ml_X0_36 in_X5_get se_X5_get cl_X5 rfl rfl (Nat.le_of_ble_eq_true rfl) rfl ?_
        refine go_iconst (pc := 73) (v := (2 : Int32)) dX0_endBan_73 (by decide) ?_
        refine go_icmp_lt (pc := 74) (tgt := 85) dX0_endBan_74 (by decide) (fun c12 => ?_) (fun c12 => ?_)
        · rw [if_pos c12] at h
          refine go_aload_n (pc := 85) dX0_endBan_85 rfl rfl ?_
          refine go_getR (pc := 86) (k := 0) (q2 := 6) dX0_endBan_86 cl_X0 rfl rfl (by decide) lk_X0_12 ?_
          refine go_iconst (pc := 89) (v := (5 : Int32)) dX0_endBan_89 (by decide) ?_
          refine go_iload_n (pc := 90) dX0_endBan_90 rfl rfl ?_
          refine go_iconst (pc := 91) (v := (0 : Int32)) dX0_endBan_91 (by decide) ?_
          obtain ⟨v13, hv14, h⟩ := fm_bind h
          refine go_callVv (pc := 92) (As := [.int (5 : Int32), .int x1, .int (0 : Int32)]) (st := []) dX0_endBan_92 (c_X5_setOf (p := 6) (r := 7) rfl rfl _ _ _ _ hv14) (by decide) ce_X5_setOf ml_X0_48 in_X5_setOf se_X5_setOf cl_X5 rfl rfl (Nat.le_of_ble_eq_true rfl) rfl ?_
          refine go_aload_n (pc := 95) dX0_endBan_95 rfl rfl ?_
          refine go_getR (pc := 96) (k := 0) (q2 := 6) dX0_endBan_96 cl_X0 rfl rfl (by decide) lk_X0_12 ?_
          refine go_sipush (pc := 99) (v := (293 : Int32)) dX0_endBan_99 (by decide) ?_
          refine go_aload_n (pc := 102) dX0_endBan_102 rfl rfl ?_
          refine go_getR (pc := 103) (k := 0) (q2 := 6) dX0_endBan_103 cl_X0 rfl rfl (by decide) lk_X0_12 ?_
          refine go_sipush (pc := 106) (v := (293 : Int32)) dX0_endBan_106 (by decide) ?_
          obtain ⟨v15, hv16, h⟩ := fm_bind h
          refine go_callVi (pc := 109) (As := [.int (293 : Int32)]) (st := [.int (293 : Int32), .ref 6]) dX0_endBan_109 (c_X5_get (p := 6) (r := 7) rfl rfl _ _ hv16) (by decide) ce_X5_get ml_X0_36 in_X5_get se_X5_get cl_X5 rfl rfl (Nat.le_of_ble_eq_true rfl) rfl ?_
          refine go_iconst (pc := 112) (v := (1 : Int32)) dX0_endBan_112 (by decide) ?_
          refine go_iadd (pc := 113) dX0_endBan_113 ?_
          obtain ⟨v17, hv18, h⟩ := fm_bind h
          refine go_callVv (pc := 114) (As := [.int (293 : Int32), .int (v15 + (1 : Int32))]) (st := []) dX0_endBan_114 (c_X5_set (p := 6) (r := 7) rfl rfl _ _ _ hv18) (by decide) ce_X5_set ml_X0_44 in_X5_set se_X5_set cl_X5 rfl rfl (Nat.le_of_ble_eq_true rfl) rfl ?_
          refine go_iload_n (pc := 117) dX0_endBan_117 rfl rfl ?_
          obtain rfl := Option.some.inj h
          exact go_iret (pc := 118) .int dX0_endBan_118 rfl rfl ⟨rfl, rfl⟩
        · rw [if_neg c12] at h
          refine go_aload_n (pc := 77) dX0_endBan_77 rfl rfl ?_
          refine go_bipush (pc := 78) (v := (9 : Int32)) dX0_endBan_78 (by decide) ?_
          refine go_iconst (pc := 80) (v := (2 : Int32)) dX0_endBan_80 (by decide) ?_
          obtain ⟨v19, hv20, h⟩ := fm_bind h
          refine go_callVi (pc := 81) (As := [.int (9 : Int32), .int (2 : Int32)]) (st := []) dX0_endBan_81 (c_X0_refuse   _ _ _ hv20) (by decide) ce_X0_refuse ml_X0_40 in_X0_refuse se_X0_refuse cl_X0 rfl rfl (Nat.le_of_ble_eq_true rfl) rfl ?_
          obtain rfl := Option.some.inj h
          exact go_iret (pc := 84) .int dX0_endBan_84 rfl rfl ⟨rfl, rfl⟩
      · rw [if_pos c9] at h
        refine go_aload_n (pc := 55) dX0_endBan_55 rfl rfl ?_
        refine go_bipush (pc := 56) (v := (10 : Int32)) dX0_endBan_56 (by decide) ?_
        refine go_iload_n (pc := 58) dX0_endBan_58 rfl rfl ?_
        obtain ⟨v21, hv22, h⟩ := fm_bind h
        refine go_callVi (pc := 59) (As := [.int (10 : Int32), .int x1]) (st := []) dX0_endBan_59 (c_X0_refuse   _ _ _ hv22) (by decide) ce_X0_refuse ml_X0_40 in_X0_refuse se_X0_refuse cl_X0 rfl rfl (Nat.le_of_ble_eq_true rfl) rfl ?_
        obtain rfl := Option.some.inj h
        exact go_iret (pc := 62) .int dX0_endBan_62 rfl rfl ⟨rfl, rfl⟩
    · rw [if_neg (by rw [c6]; decide)] at h
      refine go_aload_n (pc := 26) dX0_endBan_26 rfl rfl ?_
      refine go_iconst (pc := 27) (v := (3 : Int32)) dX0_endBan_27 (by decide) ?_
      refine go_aload_n (pc := 28) dX0_endBan_28 rfl rfl ?_
      refine go_getR (pc := 29) (k := 0) (q2 := 6) dX0_endBan_29 cl_X0 rfl rfl (by decide) lk_X0_12 ?_
      refine go_iconst (pc := 32) (v := (2 : Int32)) dX0_endBan_32 (by decide) ?_
      refine go_iload_n (pc := 33) dX0_endBan_33 rfl rfl ?_
      obtain ⟨v23, hv24, h⟩ := fm_bind h
      refine go_callVi (pc := 34) (As := [.int (2 : Int32), .int x1]) (st := [.int (3 : Int32), .ref 5]) dX0_endBan_34 (c_X5_of (p := 6) (r := 7) rfl rfl _ _ _ hv24) (by decide) ce_X5_of ml_X0_60 in_X5_of se_X5_of cl_X5 rfl rfl (Nat.le_of_ble_eq_true rfl) rfl ?_
      obtain ⟨v25, hv26, h⟩ := fm_bind h
      refine go_callVi (pc := 37) (As := [.int (3 : Int32), .int v23]) (st := []) dX0_endBan_37 (c_X0_refuse   _ _ _ hv26) (by decide) ce_X0_refuse ml_X0_40 in_X0_refuse se_X0_refuse cl_X0 rfl rfl (Nat.le_of_ble_eq_true rfl) rfl ?_
      obtain rfl := Option.some.inj h
      exact go_iret (pc := 40) .int dX0_endBan_40 rfl rfl ⟨rfl, rfl⟩
  · rw [if_neg (by rw [c3]; decide)] at h
    refine go_bipush (pc := 11) (v := (-11 : Int32)) dX0_endBan_11 (by decide) ?_
    obtain rfl := Option.some.inj h
    exact go_iret (pc := 13) .int dX0_endBan_13 rfl rfl ⟨rfl, rfl⟩
def f_X0_takeGift (x1 : Int32) (m : fm_M) : Option (Int32 × fm_M) :=
  if x1 < (1 : Int32) then (some ((-12 : Int32), m)) else (if x1 ≤ (500 : Int32) then ((f_X5_takeIn 6 7 x1 m).bind fun v3 => (f_X5_get 6 7 (288 : Int32) v3).bind fun v5 => some (v5, v3)) else (some ((-12 : Int32), m)))
set_option maxRecDepth 100000 in
set_option maxHeartbeats 4000000 in
theorem c_X0_takeGift {X : List fm_L} (x1 : Int32) (m : fm_M) {res : Int32 × fm_M} (h : f_X0_takeGift x1 m = some res) : fm_Met (fm_layH ++ X) 2 m_X0_takeGift [.ref 5, .int x1] m (fm_pi res.1 res.2) := by
  refine fm_Met_of (ls := [some (.ref 5), some (.int x1)]) (by decide) rfl (fm_cc_r _ (fm_cc_i _ fm_cc_0)) (Nat.le_of_ble_eq_true rfl) rfl ?_
  unfold f_X0_takeGift at h
  refine go_iload_n (pc := 0) dX0_takeGift_0 rfl rfl ?_
  refine go_iconst (pc := 1) (v := (1 : Int32)) dX0_takeGift_1 (by decide) ?_
  refine go_icmp_lt (pc := 2) (tgt := 12) dX0_takeGift_2 (by decide) (fun c1 => ?_) (fun c1 => ?_)
  · rw [if_pos c1] at h
    refine go_bipush (pc := 12) (v := (-12 : Int32)) dX0_takeGift_12 (by decide) ?_
    obtain rfl := Option.some.inj h
    exact go_iret (pc := 14) .int dX0_takeGift_14 rfl rfl ⟨rfl, rfl⟩
  · rw [if_neg c1] at h
    refine go_iload_n (pc := 5) dX0_takeGift_5 rfl rfl ?_
    refine go_sipush (pc := 6) (v := (500 : Int32)) dX0_takeGift_6 (by decide) ?_
    refine go_icmp_le (pc := 9) (tgt := 15) dX0_takeGift_9 (by decide) (fun c2 => ?_) (fun c2 => ?_)
    · rw [if_pos c2] at h
      refine go_aload_n (pc := 15) dX0_takeGift_15 rfl rfl ?_
      refine go_getR (pc := 16) (k := 0) (q2 := 6) dX0_takeGift_16 cl_X0 rfl rfl (by decide) lk_X0_12 ?_
      refine go_iload_n (pc := 19) dX0_takeGift_19 rfl rfl ?_
      obtain ⟨v3, hv4, h⟩ := fm_bind h
      refine go_callVv (pc := 20) (As := [.int x1]) (st := []) dX0_takeGift_20 (c_X5_takeIn (p := 6) (r := 7) rfl rfl _ _ hv4) (by decide) ce_X5_takeIn ml_X0_93 in_X5_takeIn se_X5_takeIn cl_X5 rfl rfl (Nat.le_of_ble_eq_true rfl) rfl ?_
      refine go_aload_n (pc := 23) dX0_takeGift_23 rfl rfl ?_
      refine go_getR (pc := 24) (k := 0) (q2 := 6) dX0_takeGift_24 cl_X0 rfl rfl (by decide) lk_X0_12 ?_
      refine go_sipush (pc := 27) (v := (288 : Int32)) dX0_takeGift_27 (by decide) ?_
      obtain ⟨v5, hv6, h⟩ := fm_bind h
      refine go_callVi (pc := 30) (As := [.int (288 : Int32)]) (st := []) dX0_takeGift_30 (c_X5_get (p := 6) (r := 7) rfl rfl _ _ hv6) (by decide) ce_X5_get ml_X0_36 in_X5_get se_X5_get cl_X5 rfl rfl (Nat.le_of_ble_eq_true rfl) rfl ?_
      obtain rfl := Option.some.inj h
      exact go_iret (pc := 33) .int dX0_takeGift_33 rfl rfl ⟨rfl, rfl⟩
    · rw [if_neg c2] at h
      refine go_bipush (pc := 12) (v := (-12 : Int32)) dX0_takeGift_12 (by decide) ?_
      obtain rfl := Option.some.inj h
      exact go_iret (pc := 14) .int dX0_takeGift_14 rfl rfl ⟨rfl, rfl⟩
def f_X0_payFeast_L29 : Nat → Int32 → Int32 → Int32 → fm_M → Option (fm_M)
  | 0, _, _, _, _ => none
  | n + 1, y2, y3, y4, m => if (16 : Int32) ≤ y4 then ((f_X5_get 6 7 (288 : Int32) m).bind fun v7 => (f_X5_set 6 7 (288 : Int32) (v7 - (y3 * y2)) m).bind fun v9 => (f_X5_get 6 7 (290 : Int32) v9).bind fun v11 => (f_X5_set 6 7 (290 : Int32) (v11 + (y3 * y2)) v9).bind fun v13 => some v13) else ((f_X5_isEntitled 6 7 y4 m).bind fun v15 => if v15 = true then ((f_X5_of 6 7 (6 : Int32) y4 m).bind fun v18 => (f_X5_setOf 6 7 (6 : Int32) y4 (v18 + y3) m).bind fun v20 => f_X0_payFeast_L29 n y2 y3 (y4 + (1 : Int32)) v20) else (f_X0_payFeast_L29 n y2 y3 (y4 + (1 : Int32)) m))
def f_X0_payFeast (x1 : Int32) (x2 : Int32) (m : fm_M) : Option (fm_M) :=
  if x1 = 0 then (some m) else (if x2 = 0 then (some m) else ((f_X5_get 6 7 (288 : Int32) m).bind fun v3 => if x2 = 0 then none else f_X0_payFeast_L29 fm_F x2 (if (v3 / x2) < x1 then (v3 / x2) else x1) (0 : Int32) m))
set_option maxRecDepth 100000 in
set_option maxHeartbeats 4000000 in
theorem c_X0_payFeast_L29 {X : List fm_L} : ∀ (n : Nat) (y2 : Int32) (y3 : Int32) (y4 : Int32) (m : fm_M) (res : fm_M), f_X0_payFeast_L29 n y2 y3 y4 m = some res → fm_Go (fm_layH ++ X) 2 m_X0_payFeast (fm_pv res) 29 [some (.ref 5), none, some (.int y2), some (.int y3), some (.int y4)] [] m := by
  intro n
  induction n with
  | zero => intro y2 y3 y4 m res h; cases h
  | succ n ih =>
    intro y2 y3 y4 m res h
    rw [f_X0_payFeast_L29] at h
    refine go_iload (pc := 29) dX0_payFeast_29 rfl ?_
    refine go_bipush (pc := 31) (v := (16 : Int32)) dX0_payFeast_31 (by decide) ?_
    refine go_icmp_ge (pc := 33) (tgt := 78) dX0_payFeast_33 (by decide) (fun c6 => ?_) (fun c6 => ?_)
    · rw [if_pos c6] at h
      refine go_aload_n (pc := 78) dX0_payFeast_78 rfl rfl ?_
      refine go_getR (pc := 79) (k := 0) (q2 := 6) dX0_payFeast_79 cl_X0 rfl rfl (by decide) lk_X0_12 ?_
      refine go_sipush (pc := 82) (v := (288 : Int32)) dX0_payFeast_82 (by decide) ?_
      refine go_aload_n (pc := 85) dX0_payFeast_85 rfl rfl ?_
      refine go_getR (pc := 86) (k := 0) (q2 := 6) dX0_payFeast_86 cl_X0 rfl rfl (by decide) lk_X0_12 ?_
      refine go_sipush (pc := 89) (v := (288 : Int32)) dX0_payFeast_89 (by decide) ?_
      obtain ⟨v7, hv8, h⟩ := fm_bind h
      refine go_callVi (pc := 92) (As := [.int (288 : Int32)]) (st := [.int (288 : Int32), .ref 6]) dX0_payFeast_92 (c_X5_get (p := 6) (r := 7) rfl rfl _ _ hv8) (by decide) ce_X5_get ml_X0_36 in_X5_get se_X5_get cl_X5 rfl rfl (Nat.le_of_ble_eq_true rfl) rfl ?_
      refine go_iload_n (pc := 95) dX0_payFeast_95 rfl rfl ?_
      refine go_iload_n (pc := 96) dX0_payFeast_96 rfl rfl ?_
      refine go_imul (pc := 97) dX0_payFeast_97 ?_
      refine go_isub (pc := 98) dX0_payFeast_98 ?_
      obtain ⟨v9, hv10, h⟩ := fm_bind h
      refine go_callVv (pc := 99) (As := [.int (288 : Int32), .int (v7 - (y3 * y2))]) (st := []) dX0_payFeast_99 (c_X5_set (p := 6) (r := 7) rfl rfl _ _ _ hv10) (by decide) ce_X5_set ml_X0_44 in_X5_set se_X5_set cl_X5 rfl rfl (Nat.le_of_ble_eq_true rfl) rfl ?_
      refine go_aload_n (pc := 102) dX0_payFeast_102 rfl rfl ?_
      refine go_getR (pc := 103) (k := 0) (q2 := 6) dX0_payFeast_103 cl_X0 rfl rfl (by decide) lk_X0_12 ?_
      refine go_sipush (pc := 106) (v := (290 : Int32)) dX0_payFeast_106 (by decide) ?_
      refine go_aload_n (pc := 109) dX0_payFeast_109 rfl rfl ?_
      refine go_getR (pc := 110) (k := 0) (q2 := 6) dX0_payFeast_110 cl_X0 rfl rfl (by decide) lk_X0_12 ?_
      refine go_sipush (pc := 113) (v := (290 : Int32)) dX0_payFeast_113 (by decide) ?_
      obtain ⟨v11, hv12, h⟩ := fm_bind h
      refine go_callVi (pc := 116) (As := [.int (290 : Int32)]) (st := [.int (290 : Int32), .ref 6]) dX0_payFeast_116 (c_X5_get (p := 6) (r := 7) rfl rfl _ _ hv12) (by decide) ce_X5_get ml_X0_36 in_X5_get se_X5_get cl_X5 rfl rfl (Nat.le_of_ble_eq_true rfl) rfl ?_
      refine go_iload_n (pc := 119) dX0_payFeast_119 rfl rfl ?_
      refine go_iload_n (pc := 120) dX0_payFeast_120 rfl rfl ?_
      refine go_imul (pc := 121) dX0_payFeast_121 ?_
      refine go_iadd (pc := 122) dX0_payFeast_122 ?_
      obtain ⟨v13, hv14, h⟩ := fm_bind h
      refine go_callVv (pc := 123) (As := [.int (290 : Int32), .int (v11 + (y3 * y2))]) (st := []) dX0_payFeast_123 (c_X5_set (p := 6) (r := 7) rfl rfl _ _ _ hv14) (by decide) ce_X5_set ml_X0_44 in_X5_set se_X5_set cl_X5 rfl rfl (Nat.le_of_ble_eq_true rfl) rfl ?_
      obtain rfl := Option.some.inj h
      exact go_vret (pc := 126) dX0_payFeast_126 rfl ⟨rfl, rfl⟩
    · rw [if_neg c6] at h
      refine go_aload_n (pc := 36) dX0_payFeast_36 rfl rfl ?_
      refine go_getR (pc := 37) (k := 0) (q2 := 6) dX0_payFeast_37 cl_X0 rfl rfl (by decide) lk_X0_12 ?_
      refine go_iload (pc := 40) dX0_payFeast_40 rfl ?_
      obtain ⟨v15, hv16, h⟩ := fm_bind h
      refine go_callVi (pc := 42) (As := [.int y4]) (st := []) dX0_payFeast_42 (c_X5_isEntitled (p := 6) (r := 7) rfl rfl _ _ hv16) (by decide) ce_X5_isEntitled ml_X0_144 in_X5_isEntitled se_X5_isEntitled cl_X5 rfl rfl (Nat.le_of_ble_eq_true rfl) rfl ?_
      refine go_ifb_eq (pc := 45) (tgt := 72) dX0_payFeast_45 (by decide) (fun c17 => ?_) (fun c17 => ?_)
      · rw [if_neg (by rw [c17]; decide)] at h
        refine go_iinc (pc := 72) (v := (y4 + (1 : Int32))) (ls1 := [some (.ref 5), none, some (.int y2), some (.int y3), some (.int (y4 + (1 : Int32)))]) dX0_payFeast_72 rfl rfl (Nat.le_of_ble_eq_true rfl) rfl ?_
        refine go_goto (pc := 75) (tgt := 29) dX0_payFeast_75 (by decide) ?_
        exact ih _ _ _ _ _ h
      · rw [if_pos c17] at h
        refine go_aload_n (pc := 48) dX0_payFeast_48 rfl rfl ?_
        refine go_getR (pc := 49) (k := 0) (q2 := 6) dX0_payFeast_49 cl_X0 rfl rfl (by decide) lk_X0_12 ?_
        refine go_bipush (pc := 52) (v := (6 : Int32)) dX0_payFeast_52 (by decide) ?_
        refine go_iload (pc := 54) dX0_payFeast_54 rfl ?_
        refine go_aload_n (pc := 56) dX0_payFeast_56 rfl rfl ?_
        refine go_getR (pc := 57) (k := 0) (q2 := 6) dX0_payFeast_57 cl_X0 rfl rfl (by decide) lk_X0_12 ?_
        refine go_bipush (pc := 60) (v := (6 : Int32)) dX0_payFeast_60 (by decide) ?_
        refine go_iload (pc := 62) dX0_payFeast_62 rfl ?_
        obtain ⟨v18, hv19, h⟩ := fm_bind h
        refine go_callVi (pc := 64) (As := [.int (6 : Int32), .int y4]) (st := [.int y4, .int (6 : Int32), .ref 6]) dX0_payFeast_64 (c_X5_of (p := 6) (r := 7) rfl rfl _ _ _ hv19) (by decide) ce_X5_of ml_X0_60 in_X5_of se_X5_of cl_X5 rfl rfl (Nat.le_of_ble_eq_true rfl) rfl ?_
        refine go_iload_n (pc := 67) dX0_payFeast_67 rfl rfl ?_
        refine go_iadd (pc := 68) dX0_payFeast_68 ?_
        obtain ⟨v20, hv21, h⟩ := fm_bind h
        refine go_callVv (pc := 69) (As := [.int (6 : Int32), .int y4, .int (v18 + y3)]) (st := []) dX0_payFeast_69 (c_X5_setOf (p := 6) (r := 7) rfl rfl _ _ _ _ hv21) (by decide) ce_X5_setOf ml_X0_48 in_X5_setOf se_X5_setOf cl_X5 rfl rfl (Nat.le_of_ble_eq_true rfl) rfl ?_
        refine go_iinc (pc := 72) (v := (y4 + (1 : Int32))) (ls1 := [some (.ref 5), none, some (.int y2), some (.int y3), some (.int (y4 + (1 : Int32)))]) dX0_payFeast_72 rfl rfl (Nat.le_of_ble_eq_true rfl) rfl ?_
        refine go_goto (pc := 75) (tgt := 29) dX0_payFeast_75 (by decide) ?_
        exact ih _ _ _ _ _ h
set_option maxRecDepth 100000 in
set_option maxHeartbeats 4000000 in
theorem c_X0_payFeast {X : List fm_L} (x1 : Int32) (x2 : Int32) (m : fm_M) {res : fm_M} (h : f_X0_payFeast x1 x2 m = some res) : fm_Met (fm_layH ++ X) 2 m_X0_payFeast [.ref 5, .int x1, .int x2] m (fm_pv res) := by
  refine fm_Met_of (ls := [some (.ref 5), some (.int x1), some (.int x2), none, none]) (by decide) rfl (fm_cc_r _ (fm_cc_i _ (fm_cc_i _ fm_cc_0))) (Nat.le_of_ble_eq_true rfl) rfl ?_
  unfold f_X0_payFeast at h
  refine go_iload_n (pc := 0) dX0_payFeast_0 rfl rfl ?_
  refine go_if_eq (pc := 1) (tgt := 8) dX0_payFeast_1 (by decide) (fun c1 => ?_) (fun c1 => ?_)
  · rw [if_pos c1] at h
    obtain rfl := Option.some.inj h
    exact go_vret (pc := 8) dX0_payFeast_8 rfl ⟨rfl, rfl⟩
  · rw [if_neg c1] at h
    refine go_iload_n (pc := 4) dX0_payFeast_4 rfl rfl ?_
    refine go_if_ne (pc := 5) (tgt := 9) dX0_payFeast_5 (by decide) (fun c2 => ?_) (fun c2 => ?_)
    · rw [if_neg c2] at h
      refine go_iload_n (pc := 9) dX0_payFeast_9 rfl rfl ?_
      refine go_aload_n (pc := 10) dX0_payFeast_10 rfl rfl ?_
      refine go_getR (pc := 11) (k := 0) (q2 := 6) dX0_payFeast_11 cl_X0 rfl rfl (by decide) lk_X0_12 ?_
      refine go_sipush (pc := 14) (v := (288 : Int32)) dX0_payFeast_14 (by decide) ?_
      obtain ⟨v3, hv4, h⟩ := fm_bind h
      refine go_callVi (pc := 17) (As := [.int (288 : Int32)]) (st := [.int x1]) dX0_payFeast_17 (c_X5_get (p := 6) (r := 7) rfl rfl _ _ hv4) (by decide) ce_X5_get ml_X0_36 in_X5_get se_X5_get cl_X5 rfl rfl (Nat.le_of_ble_eq_true rfl) rfl ?_
      refine go_iload_n (pc := 20) dX0_payFeast_20 rfl rfl ?_
      obtain ⟨hz5, h⟩ := fm_chk2 h
      refine go_idiv (pc := 21) dX0_payFeast_21 hz5 ?_
      refine go_min (pc := 22) dX0_payFeast_22 ml_X0_139 (by decide) (Nat.le_of_ble_eq_true rfl) ?_
      refine go_istore_n (pc := 25) (ls1 := [some (.ref 5), some (.int x1), some (.int x2), some (.int (if (v3 / x2) < x1 then (v3 / x2) else x1)), none]) dX0_payFeast_25 rfl (by decide) rfl ?_
      refine go_iconst (pc := 26) (v := (0 : Int32)) dX0_payFeast_26 (by decide) ?_
      refine go_istore (pc := 27) (ls1 := [some (.ref 5), some (.int x1), some (.int x2), some (.int (if (v3 / x2) < x1 then (v3 / x2) else x1)), some (.int (0 : Int32))]) dX0_payFeast_27 (by decide) rfl ?_
      refine go_drop 1 (ls1 := [some (.ref 5), none, some (.int x2), some (.int (if (v3 / x2) < x1 then (v3 / x2) else x1)), some (.int (0 : Int32))]) rfl ?_
      exact c_X0_payFeast_L29  fm_F _ _ _ _ _ h
    · rw [if_pos c2] at h
      obtain rfl := Option.some.inj h
      exact go_vret (pc := 8) dX0_payFeast_8 rfl ⟨rfl, rfl⟩
def f_X0_shortenBans_L2 : Nat → Int32 → fm_M → Option (fm_M)
  | 0, _, _ => none
  | n + 1, y1, m => if (16 : Int32) ≤ y1 then (some m) else ((f_X5_of 6 7 (5 : Int32) y1 m).bind fun v2 => if v2 ≤ 0 then (f_X0_shortenBans_L2 n (y1 + (1 : Int32)) m) else ((f_X5_of 6 7 (5 : Int32) y1 m).bind fun v5 => (f_X5_setOf 6 7 (5 : Int32) y1 (v5 - (1 : Int32)) m).bind fun v7 => f_X0_shortenBans_L2 n (y1 + (1 : Int32)) v7))
def f_X0_shortenBans (m : fm_M) : Option (fm_M) :=
  f_X0_shortenBans_L2 fm_F (0 : Int32) m
set_option maxRecDepth 100000 in
set_option maxHeartbeats 4000000 in
theorem c_X0_shortenBans_L2 {X : List fm_L} : ∀ (n : Nat) (y1 : Int32) (m : fm_M) (res : fm_M), f_X0_shortenBans_L2 n y1 m = some res → fm_Go (fm_layH ++ X) 2 m_X0_shortenBans (fm_pv res) 2 [some (.ref 5), some (.int y1)] [] m := by
  intro n
  induction n with
  | zero => intro y1 m res h; cases h
  | succ n ih =>
    intro y1 m res h
    rw [f_X0_shortenBans_L2] at h
    refine go_iload_n (pc := 2) dX0_shortenBans_2 rfl rfl ?_
    refine go_bipush (pc := 3) (v := (16 : Int32)) dX0_shortenBans_3 (by decide) ?_
    refine go_icmp_ge (pc := 5) (tgt := 46) dX0_shortenBans_5 (by decide) (fun c1 => ?_) (fun c1 => ?_)
    · rw [if_pos c1] at h
      obtain rfl := Option.some.inj h
      exact go_vret (pc := 46) dX0_shortenBans_46 rfl ⟨rfl, rfl⟩
    · rw [if_neg c1] at h
      refine go_aload_n (pc := 8) dX0_shortenBans_8 rfl rfl ?_
      refine go_getR (pc := 9) (k := 0) (q2 := 6) dX0_shortenBans_9 cl_X0 rfl rfl (by decide) lk_X0_12 ?_
      refine go_iconst (pc := 12) (v := (5 : Int32)) dX0_shortenBans_12 (by decide) ?_
      refine go_iload_n (pc := 13) dX0_shortenBans_13 rfl rfl ?_
      obtain ⟨v2, hv3, h⟩ := fm_bind h
      refine go_callVi (pc := 14) (As := [.int (5 : Int32), .int y1]) (st := []) dX0_shortenBans_14 (c_X5_of (p := 6) (r := 7) rfl rfl _ _ _ hv3) (by decide) ce_X5_of ml_X0_60 in_X5_of se_X5_of cl_X5 rfl rfl (Nat.le_of_ble_eq_true rfl) rfl ?_
      refine go_if_le (pc := 17) (tgt := 40) dX0_shortenBans_17 (by decide) (fun c4 => ?_) (fun c4 => ?_)
      · rw [if_pos c4] at h
        refine go_iinc (pc := 40) (v := (y1 + (1 : Int32))) (ls1 := [some (.ref 5), some (.int (y1 + (1 : Int32)))]) dX0_shortenBans_40 rfl rfl (Nat.le_of_ble_eq_true rfl) rfl ?_
        refine go_goto (pc := 43) (tgt := 2) dX0_shortenBans_43 (by decide) ?_
        exact ih _ _ _ h
      · rw [if_neg c4] at h
        refine go_aload_n (pc := 20) dX0_shortenBans_20 rfl rfl ?_
        refine go_getR (pc := 21) (k := 0) (q2 := 6) dX0_shortenBans_21 cl_X0 rfl rfl (by decide) lk_X0_12 ?_
        refine go_iconst (pc := 24) (v := (5 : Int32)) dX0_shortenBans_24 (by decide) ?_
        refine go_iload_n (pc := 25) dX0_shortenBans_25 rfl rfl ?_
        refine go_aload_n (pc := 26) dX0_shortenBans_26 rfl rfl ?_
        refine go_getR (pc := 27) (k := 0) (q2 := 6) dX0_shortenBans_27 cl_X0 rfl rfl (by decide) lk_X0_12 ?_
        refine go_iconst (pc := 30) (v := (5 : Int32)) dX0_shortenBans_30 (by decide) ?_
        refine go_iload_n (pc := 31) dX0_shortenBans_31 rfl rfl ?_
        obtain ⟨v5, hv6, h⟩ := fm_bind h
        refine go_callVi (pc := 32) (As := [.int (5 : Int32), .int y1]) (st := [.int y1, .int (5 : Int32), .ref 6]) dX0_shortenBans_32 (c_X5_of (p := 6) (r := 7) rfl rfl _ _ _ hv6) (by decide) ce_X5_of ml_X0_60 in_X5_of se_X5_of cl_X5 rfl rfl (Nat.le_of_ble_eq_true rfl) rfl ?_
        refine go_iconst (pc := 35) (v := (1 : Int32)) dX0_shortenBans_35 (by decide) ?_
        refine go_isub (pc := 36) dX0_shortenBans_36 ?_
        obtain ⟨v7, hv8, h⟩ := fm_bind h
        refine go_callVv (pc := 37) (As := [.int (5 : Int32), .int y1, .int (v5 - (1 : Int32))]) (st := []) dX0_shortenBans_37 (c_X5_setOf (p := 6) (r := 7) rfl rfl _ _ _ _ hv8) (by decide) ce_X5_setOf ml_X0_48 in_X5_setOf se_X5_setOf cl_X5 rfl rfl (Nat.le_of_ble_eq_true rfl) rfl ?_
        refine go_iinc (pc := 40) (v := (y1 + (1 : Int32))) (ls1 := [some (.ref 5), some (.int (y1 + (1 : Int32)))]) dX0_shortenBans_40 rfl rfl (Nat.le_of_ble_eq_true rfl) rfl ?_
        refine go_goto (pc := 43) (tgt := 2) dX0_shortenBans_43 (by decide) ?_
        exact ih _ _ _ h
set_option maxRecDepth 100000 in
set_option maxHeartbeats 4000000 in
theorem c_X0_shortenBans {X : List fm_L} (m : fm_M) {res : fm_M} (h : f_X0_shortenBans  m = some res) : fm_Met (fm_layH ++ X) 2 m_X0_shortenBans [.ref 5] m (fm_pv res) := by
  refine fm_Met_of (ls := [some (.ref 5), none]) (by decide) rfl (fm_cc_r _ fm_cc_0) (Nat.le_of_ble_eq_true rfl) rfl ?_
  unfold f_X0_shortenBans at h
  refine go_iconst (pc := 0) (v := (0 : Int32)) dX0_shortenBans_0 (by decide) ?_
  refine go_istore_n (pc := 1) (ls1 := [some (.ref 5), some (.int (0 : Int32))]) dX0_shortenBans_1 rfl (by decide) rfl ?_
  exact c_X0_shortenBans_L2  fm_F _ _ _ h
def f_X0_beginYear_L35 : Nat → Int32 → fm_M → Option (fm_M)
  | 0, _, _ => none
  | n + 1, y1, m => if (16 : Int32) ≤ y1 then (some m) else ((f_X5_is 6 7 (1 : Int32) y1 m).bind fun v8 => if v8 = true then ((f_X5_of 6 7 (0 : Int32) y1 m).bind fun v11 => (f_X5_setOf 6 7 (0 : Int32) y1 (v11 + (1 : Int32)) m).bind fun v13 => if v8 = true then ((f_X5_of 6 7 (4 : Int32) y1 v13).bind fun v16 => (f_X5_setOf 6 7 (4 : Int32) y1 (v16 + (1 : Int32)) v13).bind fun v18 => f_X0_beginYear_L35 n (y1 + (1 : Int32)) v18) else (f_X0_beginYear_L35 n (y1 + (1 : Int32)) v13)) else ((f_X5_is 6 7 (0 : Int32) y1 m).bind fun v20 => if v20 = true then ((f_X5_of 6 7 (0 : Int32) y1 m).bind fun v28 => (f_X5_setOf 6 7 (0 : Int32) y1 (v28 + (1 : Int32)) m).bind fun v30 => if v8 = true then ((f_X5_of 6 7 (4 : Int32) y1 v30).bind fun v33 => (f_X5_setOf 6 7 (4 : Int32) y1 (v33 + (1 : Int32)) v30).bind fun v35 => f_X0_beginYear_L35 n (y1 + (1 : Int32)) v35) else (f_X0_beginYear_L35 n (y1 + (1 : Int32)) v30)) else (if v8 = true then ((f_X5_of 6 7 (4 : Int32) y1 m).bind fun v24 => (f_X5_setOf 6 7 (4 : Int32) y1 (v24 + (1 : Int32)) m).bind fun v26 => f_X0_beginYear_L35 n (y1 + (1 : Int32)) v26) else (f_X0_beginYear_L35 n (y1 + (1 : Int32)) m))))
def f_X0_beginYear (m : fm_M) : Option (fm_M) :=
  (f_X5_get 6 7 (286 : Int32) m).bind fun v1 => (f_X5_set 6 7 (286 : Int32) (v1 + (1 : Int32)) m).bind fun v3 => (f_X5_set 6 7 (293 : Int32) (0 : Int32) v3).bind fun v5 => f_X0_beginYear_L35 fm_F (0 : Int32) v5
set_option maxRecDepth 100000 in
set_option maxHeartbeats 4000000 in
theorem c_X0_beginYear_L35 {X : List fm_L} : ∀ (n : Nat) (y1 : Int32) (m : fm_M) (res : fm_M), f_X0_beginYear_L35 n y1 m = some res → fm_Go (fm_layH ++ X) 2 m_X0_beginYear (fm_pv res) 35 [some (.ref 5), some (.int y1), none] [] m := by
  intro n
  induction n with
  | zero => intro y1 m res h; cases h
  | succ n ih =>
    intro y1 m res h
    rw [f_X0_beginYear_L35] at h
    refine go_iload_n (pc := 35) dX0_beginYear_35 rfl rfl ?_
    refine go_bipush (pc := 36) (v := (16 : Int32)) dX0_beginYear_36 (by decide) ?_
    refine go_icmp_ge (pc := 38) (tgt := 117) dX0_beginYear_38 (by decide) (fun c7 => ?_) (fun c7 => ?_)
    · rw [if_pos c7] at h
      obtain rfl := Option.some.inj h
      exact go_vret (pc := 117) dX0_beginYear_117 rfl ⟨rfl, rfl⟩
    · rw [if_neg c7] at h
      refine go_aload_n (pc := 41) dX0_beginYear_41 rfl rfl ?_
      refine go_getR (pc := 42) (k := 0) (q2 := 6) dX0_beginYear_42 cl_X0 rfl rfl (by decide) lk_X0_12 ?_
      refine go_iconst (pc := 45) (v := (1 : Int32)) dX0_beginYear_45 (by decide) ?_
      refine go_iload_n (pc := 46) dX0_beginYear_46 rfl rfl ?_
      obtain ⟨v8, hv9, h⟩ := fm_bind h
      refine go_callVi (pc := 47) (As := [.int (1 : Int32), .int y1]) (st := []) dX0_beginYear_47 (c_X5_is (p := 6) (r := 7) rfl rfl _ _ _ hv9) (by decide) ce_X5_is ml_X0_56 in_X5_is se_X5_is cl_X5 rfl rfl (Nat.le_of_ble_eq_true rfl) rfl ?_
      refine go_istore_n (pc := 50) (ls1 := [some (.ref 5), some (.int y1), some (.int (fm_b v8))]) dX0_beginYear_50 rfl (by decide) rfl ?_
      refine go_iload_n (pc := 51) dX0_beginYear_51 rfl rfl ?_
      refine go_ifb_ne (pc := 52) (tgt := 67) dX0_beginYear_52 (by decide) (fun c10 => ?_) (fun c10 => ?_)
      · rw [if_pos c10] at h
        refine go_aload_n (pc := 67) dX0_beginYear_67 rfl rfl ?_
        refine go_getR (pc := 68) (k := 0) (q2 := 6) dX0_beginYear_68 cl_X0 rfl rfl (by decide) lk_X0_12 ?_
        refine go_iconst (pc := 71) (v := (0 : Int32)) dX0_beginYear_71 (by decide) ?_
        refine go_iload_n (pc := 72) dX0_beginYear_72 rfl rfl ?_
        refine go_aload_n (pc := 73) dX0_beginYear_73 rfl rfl ?_
        refine go_getR (pc := 74) (k := 0) (q2 := 6) dX0_beginYear_74 cl_X0 rfl rfl (by decide) lk_X0_12 ?_
        refine go_iconst (pc := 77) (v := (0 : Int32)) dX0_beginYear_77 (by decide) ?_
        refine go_iload_n (pc := 78) dX0_beginYear_78 rfl rfl ?_
        obtain ⟨v11, hv12, h⟩ := fm_bind h
        refine go_callVi (pc := 79) (As := [.int (0 : Int32), .int y1]) (st := [.int y1, .int (0 : Int32), .ref 6]) dX0_beginYear_79 (c_X5_of (p := 6) (r := 7) rfl rfl _ _ _ hv12) (by decide) ce_X5_of ml_X0_60 in_X5_of se_X5_of cl_X5 rfl rfl (Nat.le_of_ble_eq_true rfl) rfl ?_
        refine go_iconst (pc := 82) (v := (1 : Int32)) dX0_beginYear_82 (by decide) ?_
        refine go_iadd (pc := 83) dX0_beginYear_83 ?_
        obtain ⟨v13, hv14, h⟩ := fm_bind h
        refine go_callVv (pc := 84) (As := [.int (0 : Int32), .int y1, .int (v11 + (1 : Int32))]) (st := []) dX0_beginYear_84 (c_X5_setOf (p := 6) (r := 7) rfl rfl _ _ _ _ hv14) (by decide) ce_X5_setOf ml_X0_48 in_X5_setOf se_X5_setOf cl_X5 rfl rfl (Nat.le_of_ble_eq_true rfl) rfl ?_
        refine go_iload_n (pc := 87) dX0_beginYear_87 rfl rfl ?_
        refine go_ifb_eq (pc := 88) (tgt := 111) dX0_beginYear_88 (by decide) (fun c15 => ?_) (fun c15 => ?_)
        · rw [if_neg (by rw [c15]; decide)] at h
          refine go_iinc (pc := 111) (v := (y1 + (1 : Int32))) (ls1 := [some (.ref 5), some (.int (y1 + (1 : Int32))), some (.int (fm_b v8))]) dX0_beginYear_111 rfl rfl (Nat.le_of_ble_eq_true rfl) rfl ?_
          refine go_goto (pc := 114) (tgt := 35) dX0_beginYear_114 (by decide) ?_
          refine go_drop 2 (ls1 := [some (.ref 5), some (.int (y1 + (1 : Int32))), none]) rfl ?_
          exact ih _ _ _ h
        · rw [if_pos c15] at h
          refine go_aload_n (pc := 91) dX0_beginYear_91 rfl rfl ?_
          refine go_getR (pc := 92) (k := 0) (q2 := 6) dX0_beginYear_92 cl_X0 rfl rfl (by decide) lk_X0_12 ?_
          refine go_iconst (pc := 95) (v := (4 : Int32)) dX0_beginYear_95 (by decide) ?_
          refine go_iload_n (pc := 96) dX0_beginYear_96 rfl rfl ?_
          refine go_aload_n (pc := 97) dX0_beginYear_97 rfl rfl ?_
          refine go_getR (pc := 98) (k := 0) (q2 := 6) dX0_beginYear_98 cl_X0 rfl rfl (by decide) lk_X0_12 ?_
          refine go_iconst (pc := 101) (v := (4 : Int32)) dX0_beginYear_101 (by decide) ?_
          refine go_iload_n (pc := 102) dX0_beginYear_102 rfl rfl ?_
          obtain ⟨v16, hv17, h⟩ := fm_bind h
          refine go_callVi (pc := 103) (As := [.int (4 : Int32), .int y1]) (st := [.int y1, .int (4 : Int32), .ref 6]) dX0_beginYear_103 (c_X5_of (p := 6) (r := 7) rfl rfl _ _ _ hv17) (by decide) ce_X5_of ml_X0_60 in_X5_of se_X5_of cl_X5 rfl rfl (Nat.le_of_ble_eq_true rfl) rfl ?_
          refine go_iconst (pc := 106) (v := (1 : Int32)) dX0_beginYear_106 (by decide) ?_
          refine go_iadd (pc := 107) dX0_beginYear_107 ?_
          obtain ⟨v18, hv19, h⟩ := fm_bind h
          refine go_callVv (pc := 108) (As := [.int (4 : Int32), .int y1, .int (v16 + (1 : Int32))]) (st := []) dX0_beginYear_108 (c_X5_setOf (p := 6) (r := 7) rfl rfl _ _ _ _ hv19) (by decide) ce_X5_setOf ml_X0_48 in_X5_setOf se_X5_setOf cl_X5 rfl rfl (Nat.le_of_ble_eq_true rfl) rfl ?_
          refine go_iinc (pc := 111) (v := (y1 + (1 : Int32))) (ls1 := [some (.ref 5), some (.int (y1 + (1 : Int32))), some (.int (fm_b v8))]) dX0_beginYear_111 rfl rfl (Nat.le_of_ble_eq_true rfl) rfl ?_
          refine go_goto (pc := 114) (tgt := 35) dX0_beginYear_114 (by decide) ?_
          refine go_drop 2 (ls1 := [some (.ref 5), some (.int (y1 + (1 : Int32))), none]) rfl ?_
          exact ih _ _ _ h
      · rw [if_neg (by rw [c10]; decide)] at h
        refine go_aload_n (pc := 55) dX0_beginYear_55 rfl rfl ?_
        refine go_getR (pc := 56) (k := 0) (q2 := 6) dX0_beginYear_56 cl_X0 rfl rfl (by decide) lk_X0_12 ?_
        refine go_iconst (pc := 59) (v := (0 : Int32)) dX0_beginYear_59 (by decide) ?_
        refine go_iload_n (pc := 60) dX0_beginYear_60 rfl rfl ?_
        obtain ⟨v20, hv21, h⟩ := fm_bind h
        refine go_callVi (pc := 61) (As := [.int (0 : Int32), .int y1]) (st := []) dX0_beginYear_61 (c_X5_is (p := 6) (r := 7) rfl rfl _ _ _ hv21) (by decide) ce_X5_is ml_X0_56 in_X5_is se_X5_is cl_X5 rfl rfl (Nat.le_of_ble_eq_true rfl) rfl ?_
        refine go_ifb_eq (pc := 64) (tgt := 87) dX0_beginYear_64 (by decide) (fun c22 => ?_) (fun c22 => ?_)
        · rw [if_neg (by rw [c22]; decide)] at h
          refine go_iload_n (pc := 87) dX0_beginYear_87 rfl rfl ?_
          refine go_ifb_eq (pc := 88) (tgt := 111) dX0_beginYear_88 (by decide) (fun c23 => ?_) (fun c23 => ?_)
          · rw [if_neg (by rw [c23]; decide)] at h
            refine go_iinc (pc := 111) (v := (y1 + (1 : Int32))) (ls1 := [some (.ref 5), some (.int (y1 + (1 : Int32))), some (.int (fm_b v8))]) dX0_beginYear_111 rfl rfl (Nat.le_of_ble_eq_true rfl) rfl ?_
            refine go_goto (pc := 114) (tgt := 35) dX0_beginYear_114 (by decide) ?_
            refine go_drop 2 (ls1 := [some (.ref 5), some (.int (y1 + (1 : Int32))), none]) rfl ?_
            exact ih _ _ _ h
          · rw [if_pos c23] at h
            refine go_aload_n (pc := 91) dX0_beginYear_91 rfl rfl ?_
            refine go_getR (pc := 92) (k := 0) (q2 := 6) dX0_beginYear_92 cl_X0 rfl rfl (by decide) lk_X0_12 ?_
            refine go_iconst (pc := 95) (v := (4 : Int32)) dX0_beginYear_95 (by decide) ?_
            refine go_iload_n (pc := 96) dX0_beginYear_96 rfl rfl ?_
            refine go_aload_n (pc := 97) dX0_beginYear_97 rfl rfl ?_
            refine go_getR (pc := 98) (k := 0) (q2 := 6) dX0_beginYear_98 cl_X0 rfl rfl (by decide) lk_X0_12 ?_
            refine go_iconst (pc := 101) (v := (4 : Int32)) dX0_beginYear_101 (by decide) ?_
            refine go_iload_n (pc := 102) dX0_beginYear_102 rfl rfl ?_
            obtain ⟨v24, hv25, h⟩ := fm_bind h
            refine go_callVi (pc := 103) (As := [.int (4 : Int32), .int y1]) (st := [.int y1, .int (4 : Int32), .ref 6]) dX0_beginYear_103 (c_X5_of (p := 6) (r := 7) rfl rfl _ _ _ hv25) (by decide) ce_X5_of ml_X0_60 in_X5_of se_X5_of cl_X5 rfl rfl (Nat.le_of_ble_eq_true rfl) rfl ?_
            refine go_iconst (pc := 106) (v := (1 : Int32)) dX0_beginYear_106 (by decide) ?_
            refine go_iadd (pc := 107) dX0_beginYear_107 ?_
            obtain ⟨v26, hv27, h⟩ := fm_bind h
            refine go_callVv (pc := 108) (As := [.int (4 : Int32), .int y1, .int (v24 + (1 : Int32))]) (st := []) dX0_beginYear_108 (c_X5_setOf (p := 6) (r := 7) rfl rfl _ _ _ _ hv27) (by decide) ce_X5_setOf ml_X0_48 in_X5_setOf se_X5_setOf cl_X5 rfl rfl (Nat.le_of_ble_eq_true rfl) rfl ?_
            refine go_iinc (pc := 111) (v := (y1 + (1 : Int32))) (ls1 := [some (.ref 5), some (.int (y1 + (1 : Int32))), some (.int (fm_b v8))]) dX0_beginYear_111 rfl rfl (Nat.le_of_ble_eq_true rfl) rfl ?_
            refine go_goto (pc := 114) (tgt := 35) dX0_beginYear_114 (by decide) ?_
            refine go_drop 2 (ls1 := [some (.ref 5), some (.int (y1 + (1 : Int32))), none]) rfl ?_
            exact ih _ _ _ h
        · rw [if_pos c22] at h
          refine go_aload_n (pc := 67) dX0_beginYear_67 rfl rfl ?_
          refine go_getR (pc := 68) (k := 0) (q2 := 6) dX0_beginYear_68 cl_X0 rfl rfl (by decide) lk_X0_12 ?_
          refine go_iconst (pc := 71) (v := (0 : Int32)) dX0_beginYear_71 (by decide) ?_
          refine go_iload_n (pc := 72) dX0_beginYear_72 rfl rfl ?_
          refine go_aload_n (pc := 73) dX0_beginYear_73 rfl rfl ?_
          refine go_getR (pc := 74) (k := 0) (q2 := 6) dX0_beginYear_74 cl_X0 rfl rfl (by decide) lk_X0_12 ?_
          refine go_iconst (pc := 77) (v := (0 : Int32)) dX0_beginYear_77 (by decide) ?_
          refine go_iload_n (pc := 78) dX0_beginYear_78 rfl rfl ?_
          obtain ⟨v28, hv29, h⟩ := fm_bind h
          refine go_callVi (pc := 79) (As := [.int (0 : Int32), .int y1]) (st := [.int y1, .int (0 : Int32), .ref 6]) dX0_beginYear_79 (c_X5_of (p := 6) (r := 7) rfl rfl _ _ _ hv29) (by decide) ce_X5_of ml_X0_60 in_X5_of se_X5_of cl_X5 rfl rfl (Nat.le_of_ble_eq_true rfl) rfl ?_
          refine go_iconst (pc := 82) (v := (1 : Int32)) dX0_beginYear_82 (by decide) ?_
          refine go_iadd (pc := 83) dX0_beginYear_83 ?_
          obtain ⟨v30, hv31, h⟩ := fm_bind h
          refine go_callVv (pc := 84) (As := [.int (0 : Int32), .int y1, .int (v28 + (1 : Int32))]) (st := []) dX0_beginYear_84 (c_X5_setOf (p := 6) (r := 7) rfl rfl _ _ _ _ hv31) (by decide) ce_X5_setOf ml_X0_48 in_X5_setOf se_X5_setOf cl_X5 rfl rfl (Nat.le_of_ble_eq_true rfl) rfl ?_
          refine go_iload_n (pc := 87) dX0_beginYear_87 rfl rfl ?_
          refine go_ifb_eq (pc := 88) (tgt := 111) dX0_beginYear_88 (by decide) (fun c32 => ?_) (fun c32 => ?_)
          · rw [if_neg (by rw [c32]; decide)] at h
            refine go_iinc (pc := 111) (v := (y1 + (1 : Int32))) (ls1 := [some (.ref 5), some (.int (y1 + (1 : Int32))), some (.int (fm_b v8))]) dX0_beginYear_111 rfl rfl (Nat.le_of_ble_eq_true rfl) rfl ?_
            refine go_goto (pc := 114) (tgt := 35) dX0_beginYear_114 (by decide) ?_
            refine go_drop 2 (ls1 := [some (.ref 5), some (.int (y1 + (1 : Int32))), none]) rfl ?_
            exact ih _ _ _ h
          · rw [if_pos c32] at h
            refine go_aload_n (pc := 91) dX0_beginYear_91 rfl rfl ?_
            refine go_getR (pc := 92) (k := 0) (q2 := 6) dX0_beginYear_92 cl_X0 rfl rfl (by decide) lk_X0_12 ?_
            refine go_iconst (pc := 95) (v := (4 : Int32)) dX0_beginYear_95 (by decide) ?_
            refine go_iload_n (pc := 96) dX0_beginYear_96 rfl rfl ?_
            refine go_aload_n (pc := 97) dX0_beginYear_97 rfl rfl ?_
            refine go_getR (pc := 98) (k := 0) (q2 := 6) dX0_beginYear_98 cl_X0 rfl rfl (by decide) lk_X0_12 ?_
            refine go_iconst (pc := 101) (v := (4 : Int32)) dX0_beginYear_101 (by decide) ?_
            refine go_iload_n (pc := 102) dX0_beginYear_102 rfl rfl ?_
            obtain ⟨v33, hv34, h⟩ := fm_bind h
            refine go_callVi (pc := 103) (As := [.int (4 : Int32), .int y1]) (st := [.int y1, .int (4 : Int32), .ref 6]) dX0_beginYear_103 (c_X5_of (p := 6) (r := 7) rfl rfl _ _ _ hv34) (by decide) ce_X5_of ml_X0_60 in_X5_of se_X5_of cl_X5 rfl rfl (Nat.le_of_ble_eq_true rfl) rfl ?_
            refine go_iconst (pc := 106) (v := (1 : Int32)) dX0_beginYear_106 (by decide) ?_
            refine go_iadd (pc := 107) dX0_beginYear_107 ?_
            obtain ⟨v35, hv36, h⟩ := fm_bind h
            refine go_callVv (pc := 108) (As := [.int (4 : Int32), .int y1, .int (v33 + (1 : Int32))]) (st := []) dX0_beginYear_108 (c_X5_setOf (p := 6) (r := 7) rfl rfl _ _ _ _ hv36) (by decide) ce_X5_setOf ml_X0_48 in_X5_setOf se_X5_setOf cl_X5 rfl rfl (Nat.le_of_ble_eq_true rfl) rfl ?_
            refine go_iinc (pc := 111) (v := (y1 + (1 : Int32))) (ls1 := [some (.ref 5), some (.int (y1 + (1 : Int32))), some (.int (fm_b v8))]) dX0_beginYear_111 rfl rfl (Nat.le_of_ble_eq_true rfl) rfl ?_
            refine go_goto (pc := 114) (tgt := 35) dX0_beginYear_114 (by decide) ?_
            refine go_drop 2 (ls1 := [some (.ref 5), some (.int (y1 + (1 : Int32))), none]) rfl ?_
            exact ih _ _ _ h
set_option maxRecDepth 100000 in
set_option maxHeartbeats 4000000 in
theorem c_X0_beginYear {X : List fm_L} (m : fm_M) {res : fm_M} (h : f_X0_beginYear  m = some res) : fm_Met (fm_layH ++ X) 2 m_X0_beginYear [.ref 5] m (fm_pv res) := by
  refine fm_Met_of (ls := [some (.ref 5), none, none]) (by decide) rfl (fm_cc_r _ fm_cc_0) (Nat.le_of_ble_eq_true rfl) rfl ?_
  unfold f_X0_beginYear at h
  refine go_aload_n (pc := 0) dX0_beginYear_0 rfl rfl ?_
  refine go_getR (pc := 1) (k := 0) (q2 := 6) dX0_beginYear_1 cl_X0 rfl rfl (by decide) lk_X0_12 ?_
  refine go_sipush (pc := 4) (v := (286 : Int32)) dX0_beginYear_4 (by decide) ?_
  refine go_aload_n (pc := 7) dX0_beginYear_7 rfl rfl ?_
  refine go_getR (pc := 8) (k := 0) (q2 := 6) dX0_beginYear_8 cl_X0 rfl rfl (by decide) lk_X0_12 ?_
  refine go_sipush (pc := 11) (v := (286 : Int32)) dX0_beginYear_11 (by decide) ?_
  obtain ⟨v1, hv2, h⟩ := fm_bind h
  refine go_callVi (pc := 14) (As := [.int (286 : Int32)]) (st := [.int (286 : Int32), .ref 6]) dX0_beginYear_14 (c_X5_get (p := 6) (r := 7) rfl rfl _ _ hv2) (by decide) ce_X5_get ml_X0_36 in_X5_get se_X5_get cl_X5 rfl rfl (Nat.le_of_ble_eq_true rfl) rfl ?_
  refine go_iconst (pc := 17) (v := (1 : Int32)) dX0_beginYear_17 (by decide) ?_
  refine go_iadd (pc := 18) dX0_beginYear_18 ?_
  obtain ⟨v3, hv4, h⟩ := fm_bind h
  refine go_callVv (pc := 19) (As := [.int (286 : Int32), .int (v1 + (1 : Int32))]) (st := []) dX0_beginYear_19 (c_X5_set (p := 6) (r := 7) rfl rfl _ _ _ hv4) (by decide) ce_X5_set ml_X0_44 in_X5_set se_X5_set cl_X5 rfl rfl (Nat.le_of_ble_eq_true rfl) rfl ?_
  refine go_aload_n (pc := 22) dX0_beginYear_22 rfl rfl ?_
  refine go_getR (pc := 23) (k := 0) (q2 := 6) dX0_beginYear_23 cl_X0 rfl rfl (by decide) lk_X0_12 ?_
  refine go_sipush (pc := 26) (v := (293 : Int32)) dX0_beginYear_26 (by decide) ?_
  refine go_iconst (pc := 29) (v := (0 : Int32)) dX0_beginYear_29 (by decide) ?_
  obtain ⟨v5, hv6, h⟩ := fm_bind h
  refine go_callVv (pc := 30) (As := [.int (293 : Int32), .int (0 : Int32)]) (st := []) dX0_beginYear_30 (c_X5_set (p := 6) (r := 7) rfl rfl _ _ _ hv6) (by decide) ce_X5_set ml_X0_44 in_X5_set se_X5_set cl_X5 rfl rfl (Nat.le_of_ble_eq_true rfl) rfl ?_
  refine go_iconst (pc := 33) (v := (0 : Int32)) dX0_beginYear_33 (by decide) ?_
  refine go_istore_n (pc := 34) (ls1 := [some (.ref 5), some (.int (0 : Int32)), none]) dX0_beginYear_34 rfl (by decide) rfl ?_
  exact c_X0_beginYear_L35  fm_F _ _ _ h
def f_X0_buyGowns_L2 : Nat → Int32 → fm_M → Option (fm_M)
  | 0, _, _ => none
  | n + 1, y1, m => if (8 : Int32) ≤ y1 then (some m) else ((f_X3_byGown 8 9 6 7 (0 : Int32) m).bind fun v2 => (f_X5_isBrother 6 7 v2.1 v2.2).bind fun v4 => if v4 = true then ((f_X5_of 6 7 (4 : Int32) v2.1 v2.2).bind fun v8 => if v8 < (2 : Int32) then (some v2.2) else ((f_X5_get 6 7 (288 : Int32) v2.2).bind fun v13 => if (8 : Int32) ≤ v13 then ((f_X5_setOf 6 7 (4 : Int32) v2.1 (0 : Int32) v2.2).bind fun v16 => (f_X5_get 6 7 (288 : Int32) v16).bind fun v18 => (f_X5_set 6 7 (288 : Int32) (v18 - (8 : Int32)) v16).bind fun v20 => (f_X5_get 6 7 (291 : Int32) v20).bind fun v22 => (f_X5_set 6 7 (291 : Int32) (v22 + (8 : Int32)) v20).bind fun v24 => (f_X5_get 6 7 (292 : Int32) v24).bind fun v26 => (f_X5_set 6 7 (292 : Int32) (v26 + (1 : Int32)) v24).bind fun v28 => f_X0_buyGowns_L2 n (y1 + (1 : Int32)) v28) else (some v2.2))) else (some v2.2))
def f_X0_buyGowns (m : fm_M) : Option (fm_M) :=
  f_X0_buyGowns_L2 fm_F (0 : Int32) m
set_option maxRecDepth 100000 in
set_option maxHeartbeats 4000000 in
theorem c_X0_buyGowns_L2 {X : List fm_L} : ∀ (n : Nat) (y1 : Int32) (m : fm_M) (res : fm_M), f_X0_buyGowns_L2 n y1 m = some res → fm_Go (fm_layH ++ X) 2 m_X0_buyGowns (fm_pv res) 2 [some (.ref 5), some (.int y1), none, none] [] m := by
  intro n
  induction n with
  | zero => intro y1 m res h; cases h
  | succ n ih =>
    intro y1 m res h
    rw [f_X0_buyGowns_L2] at h
    refine go_iload_n (pc := 2) dX0_buyGowns_2 rfl rfl ?_
    refine go_bipush (pc := 3) (v := (8 : Int32)) dX0_buyGowns_3 (by decide) ?_
    refine go_icmp_ge (pc := 5) (tgt := 155) dX0_buyGowns_5 (by decide) (fun c1 => ?_) (fun c1 => ?_)
    · rw [if_pos c1] at h
      obtain rfl := Option.some.inj h
      exact go_vret (pc := 155) dX0_buyGowns_155 rfl ⟨rfl, rfl⟩
    · rw [if_neg c1] at h
      refine go_aload_n (pc := 8) dX0_buyGowns_8 rfl rfl ?_
      refine go_getR (pc := 9) (k := 1) (q2 := 8) dX0_buyGowns_9 cl_X0 rfl rfl (by decide) lk_X0_21 ?_
      refine go_aload_n (pc := 12) dX0_buyGowns_12 rfl rfl ?_
      refine go_getR (pc := 13) (k := 0) (q2 := 6) dX0_buyGowns_13 cl_X0 rfl rfl (by decide) lk_X0_12 ?_
      refine go_iconst (pc := 16) (v := (0 : Int32)) dX0_buyGowns_16 (by decide) ?_
      obtain ⟨v2, hv3, h⟩ := fm_bind h
      refine go_callVi (pc := 17) (As := [.ref 6, .int (0 : Int32)]) (st := []) dX0_buyGowns_17 (c_X3_byGown (p := 8) (r := 9) (p2 := 6) (r2 := 7) rfl rfl rfl rfl _ _ hv3) (by decide) ce_X3_byGown ml_X0_147 in_X3_byGown se_X3_byGown cl_X3 rfl rfl (Nat.le_of_ble_eq_true rfl) rfl ?_
      refine go_istore_n (pc := 20) (ls1 := [some (.ref 5), some (.int y1), some (.int v2.1), none]) dX0_buyGowns_20 rfl (by decide) rfl ?_
      refine go_aload_n (pc := 21) dX0_buyGowns_21 rfl rfl ?_
      refine go_getR (pc := 22) (k := 0) (q2 := 6) dX0_buyGowns_22 cl_X0 rfl rfl (by decide) lk_X0_12 ?_
      refine go_iload_n (pc := 25) dX0_buyGowns_25 rfl rfl ?_
      obtain ⟨v4, hv5, h⟩ := fm_bind h
      refine go_callVi (pc := 26) (As := [.int v2.1]) (st := []) dX0_buyGowns_26 (c_X5_isBrother (p := 6) (r := 7) rfl rfl _ _ hv5) (by decide) ce_X5_isBrother ml_X0_52 in_X5_isBrother se_X5_isBrother cl_X5 rfl rfl (Nat.le_of_ble_eq_true rfl) rfl ?_
      refine go_ifb_eq (pc := 29) (tgt := 49) dX0_buyGowns_29 (by decide) (fun c6 => ?_) (fun c6 => ?_)
      · rw [if_neg (by rw [c6]; decide)] at h
        refine go_iconst (pc := 49) (v := (0 : Int32)) dX0_buyGowns_49 (by decide) ?_
        refine go_istore_n (pc := 50) (ls1 := [some (.ref 5), some (.int y1), some (.int v2.1), some (.int (0 : Int32))]) dX0_buyGowns_50 rfl (by decide) rfl ?_
        refine go_iload_n (pc := 51) dX0_buyGowns_51 rfl rfl ?_
        refine go_if_eq (pc := 52) (tgt := 70) dX0_buyGowns_52 (by decide) (fun _ => ?_) (fun c7 => absurd (by decide) c7)
        obtain rfl := Option.some.inj h
        exact go_vret (pc := 70) dX0_buyGowns_70 rfl ⟨rfl, rfl⟩
      · rw [if_pos c6] at h
        refine go_aload_n (pc := 32) dX0_buyGowns_32 rfl rfl ?_
        refine go_getR (pc := 33) (k := 0) (q2 := 6) dX0_buyGowns_33 cl_X0 rfl rfl (by decide) lk_X0_12 ?_
        refine go_iconst (pc := 36) (v := (4 : Int32)) dX0_buyGowns_36 (by decide) ?_
        refine go_iload_n (pc := 37) dX0_buyGowns_37 rfl rfl ?_
        obtain ⟨v8, hv9, h⟩ := fm_bind h
        refine go_callVi (pc := 38) (As := [.int (4 : Int32), .int v2.1]) (st := []) dX0_buyGowns_38 (c_X5_of (p := 6) (r := 7) rfl rfl _ _ _ hv9) (by decide) ce_X5_of ml_X0_60 in_X5_of se_X5_of cl_X5 rfl rfl (Nat.le_of_ble_eq_true rfl) rfl ?_
        refine go_iconst (pc := 41) (v := (2 : Int32)) dX0_buyGowns_41 (by decide) ?_
        refine go_icmp_lt (pc := 42) (tgt := 49) dX0_buyGowns_42 (by decide) (fun c10 => ?_) (fun c10 => ?_)
        · rw [if_pos c10] at h
          refine go_iconst (pc := 49) (v := (0 : Int32)) dX0_buyGowns_49 (by decide) ?_
          refine go_istore_n (pc := 50) (ls1 := [some (.ref 5), some (.int y1), some (.int v2.1), some (.int (0 : Int32))]) dX0_buyGowns_50 rfl (by decide) rfl ?_
          refine go_iload_n (pc := 51) dX0_buyGowns_51 rfl rfl ?_
          refine go_if_eq (pc := 52) (tgt := 70) dX0_buyGowns_52 (by decide) (fun _ => ?_) (fun c11 => absurd (by decide) c11)
          obtain rfl := Option.some.inj h
          exact go_vret (pc := 70) dX0_buyGowns_70 rfl ⟨rfl, rfl⟩
        · rw [if_neg c10] at h
          refine go_iconst (pc := 45) (v := (1 : Int32)) dX0_buyGowns_45 (by decide) ?_
          refine go_goto (pc := 46) (tgt := 50) dX0_buyGowns_46 (by decide) ?_
          refine go_istore_n (pc := 50) (ls1 := [some (.ref 5), some (.int y1), some (.int v2.1), some (.int (1 : Int32))]) dX0_buyGowns_50 rfl (by decide) rfl ?_
          refine go_iload_n (pc := 51) dX0_buyGowns_51 rfl rfl ?_
          refine go_if_eq (pc := 52) (tgt := 70) dX0_buyGowns_52 (by decide) (fun c12 => absurd c12 (by decide)) (fun _ => ?_)
          refine go_aload_n (pc := 55) dX0_buyGowns_55 rfl rfl ?_
          refine go_getR (pc := 56) (k := 0) (q2 := 6) dX0_buyGowns_56 cl_X0 rfl rfl (by decide) lk_X0_12 ?_
          refine go_sipush (pc := 59) (v := (288 : Int32)) dX0_buyGowns_59 (by decide) ?_
          obtain ⟨v13, hv14, h⟩ := fm_bind h
          refine go_callVi (pc := 62) (As := [.int (288 : Int32)]) (st := []) dX0_buyGowns_62 (c_X5_get (p := 6) (r := 7) rfl rfl _ _ hv14) (by decide) ce_X5_get ml_X0_36 in_X5_get se_X5_get cl_X5 rfl rfl (Nat.le_of_ble_eq_true rfl) rfl ?_
          refine go_bipush (pc := 65) (v := (8 : Int32)) dX0_buyGowns_65 (by decide) ?_
          refine go_icmp_ge (pc := 67) (tgt := 71) dX0_buyGowns_67 (by decide) (fun c15 => ?_) (fun c15 => ?_)
          · rw [if_pos c15] at h
            refine go_aload_n (pc := 71) dX0_buyGowns_71 rfl rfl ?_
            refine go_getR (pc := 72) (k := 0) (q2 := 6) dX0_buyGowns_72 cl_X0 rfl rfl (by decide) lk_X0_12 ?_
            refine go_iconst (pc := 75) (v := (4 : Int32)) dX0_buyGowns_75 (by decide) ?_
            refine go_iload_n (pc := 76) dX0_buyGowns_76 rfl rfl ?_
            refine go_iconst (pc := 77) (v := (0 : Int32)) dX0_buyGowns_77 (by decide) ?_
            obtain ⟨v16, hv17, h⟩ := fm_bind h
            refine go_callVv (pc := 78) (As := [.int (4 : Int32), .int v2.1, .int (0 : Int32)]) (st := []) dX0_buyGowns_78 (c_X5_setOf (p := 6) (r := 7) rfl rfl _ _ _ _ hv17) (by decide) ce_X5_setOf ml_X0_48 in_X5_setOf se_X5_setOf cl_X5 rfl rfl (Nat.le_of_ble_eq_true rfl) rfl ?_
            refine go_aload_n (pc := 81) dX0_buyGowns_81 rfl rfl ?_
            refine go_getR (pc := 82) (k := 0) (q2 := 6) dX0_buyGowns_82 cl_X0 rfl rfl (by decide) lk_X0_12 ?_
            refine go_sipush (pc := 85) (v := (288 : Int32)) dX0_buyGowns_85 (by decide) ?_
            refine go_aload_n (pc := 88) dX0_buyGowns_88 rfl rfl ?_
            refine go_getR (pc := 89) (k := 0) (q2 := 6) dX0_buyGowns_89 cl_X0 rfl rfl (by decide) lk_X0_12 ?_
            refine go_sipush (pc := 92) (v := (288 : Int32)) dX0_buyGowns_92 (by decide) ?_
            obtain ⟨v18, hv19, h⟩ := fm_bind h
            refine go_callVi (pc := 95) (As := [.int (288 : Int32)]) (st := [.int (288 : Int32), .ref 6]) dX0_buyGowns_95 (c_X5_get (p := 6) (r := 7) rfl rfl _ _ hv19) (by decide) ce_X5_get ml_X0_36 in_X5_get se_X5_get cl_X5 rfl rfl (Nat.le_of_ble_eq_true rfl) rfl ?_
            refine go_bipush (pc := 98) (v := (8 : Int32)) dX0_buyGowns_98 (by decide) ?_
            refine go_isub (pc := 100) dX0_buyGowns_100 ?_
            obtain ⟨v20, hv21, h⟩ := fm_bind h
            refine go_callVv (pc := 101) (As := [.int (288 : Int32), .int (v18 - (8 : Int32))]) (st := []) dX0_buyGowns_101 (c_X5_set (p := 6) (r := 7) rfl rfl _ _ _ hv21) (by decide) ce_X5_set ml_X0_44 in_X5_set se_X5_set cl_X5 rfl rfl (Nat.le_of_ble_eq_true rfl) rfl ?_
            refine go_aload_n (pc := 104) dX0_buyGowns_104 rfl rfl ?_
            refine go_getR (pc := 105) (k := 0) (q2 := 6) dX0_buyGowns_105 cl_X0 rfl rfl (by decide) lk_X0_12 ?_
            refine go_sipush (pc := 108) (v := (291 : Int32)) dX0_buyGowns_108 (by decide) ?_
            refine go_aload_n (pc := 111) dX0_buyGowns_111 rfl rfl ?_
            refine go_getR (pc := 112) (k := 0) (q2 := 6) dX0_buyGowns_112 cl_X0 rfl rfl (by decide) lk_X0_12 ?_
            refine go_sipush (pc := 115) (v := (291 : Int32)) dX0_buyGowns_115 (by decide) ?_
            obtain ⟨v22, hv23, h⟩ := fm_bind h
            refine go_callVi (pc := 118) (As := [.int (291 : Int32)]) (st := [.int (291 : Int32), .ref 6]) dX0_buyGowns_118 (c_X5_get (p := 6) (r := 7) rfl rfl _ _ hv23) (by decide) ce_X5_get ml_X0_36 in_X5_get se_X5_get cl_X5 rfl rfl (Nat.le_of_ble_eq_true rfl) rfl ?_
            refine go_bipush (pc := 121) (v := (8 : Int32)) dX0_buyGowns_121 (by decide) ?_
            refine go_iadd (pc := 123) dX0_buyGowns_123 ?_
            obtain ⟨v24, hv25, h⟩ := fm_bind h
            refine go_callVv (pc := 124) (As := [.int (291 : Int32), .int (v22 + (8 : Int32))]) (st := []) dX0_buyGowns_124 (c_X5_set (p := 6) (r := 7) rfl rfl _ _ _ hv25) (by decide) ce_X5_set ml_X0_44 in_X5_set se_X5_set cl_X5 rfl rfl (Nat.le_of_ble_eq_true rfl) rfl ?_
            refine go_aload_n (pc := 127) dX0_buyGowns_127 rfl rfl ?_
            refine go_getR (pc := 128) (k := 0) (q2 := 6) dX0_buyGowns_128 cl_X0 rfl rfl (by decide) lk_X0_12 ?_
            refine go_sipush (pc := 131) (v := (292 : Int32)) dX0_buyGowns_131 (by decide) ?_
            refine go_aload_n (pc := 134) dX0_buyGowns_134 rfl rfl ?_
            refine go_getR (pc := 135) (k := 0) (q2 := 6) dX0_buyGowns_135 cl_X0 rfl rfl (by decide) lk_X0_12 ?_
            refine go_sipush (pc := 138) (v := (292 : Int32)) dX0_buyGowns_138 (by decide) ?_
            obtain ⟨v26, hv27, h⟩ := fm_bind h
            refine go_callVi (pc := 141) (As := [.int (292 : Int32)]) (st := [.int (292 : Int32), .ref 6]) dX0_buyGowns_141 (c_X5_get (p := 6) (r := 7) rfl rfl _ _ hv27) (by decide) ce_X5_get ml_X0_36 in_X5_get se_X5_get cl_X5 rfl rfl (Nat.le_of_ble_eq_true rfl) rfl ?_
            refine go_iconst (pc := 144) (v := (1 : Int32)) dX0_buyGowns_144 (by decide) ?_
            refine go_iadd (pc := 145) dX0_buyGowns_145 ?_
            obtain ⟨v28, hv29, h⟩ := fm_bind h
            refine go_callVv (pc := 146) (As := [.int (292 : Int32), .int (v26 + (1 : Int32))]) (st := []) dX0_buyGowns_146 (c_X5_set (p := 6) (r := 7) rfl rfl _ _ _ hv29) (by decide) ce_X5_set ml_X0_44 in_X5_set se_X5_set cl_X5 rfl rfl (Nat.le_of_ble_eq_true rfl) rfl ?_
            refine go_iinc (pc := 149) (v := (y1 + (1 : Int32))) (ls1 := [some (.ref 5), some (.int (y1 + (1 : Int32))), some (.int v2.1), some (.int (1 : Int32))]) dX0_buyGowns_149 rfl rfl (Nat.le_of_ble_eq_true rfl) rfl ?_
            refine go_goto (pc := 152) (tgt := 2) dX0_buyGowns_152 (by decide) ?_
            refine go_drop 2 (ls1 := [some (.ref 5), some (.int (y1 + (1 : Int32))), none, some (.int (1 : Int32))]) rfl ?_
            refine go_drop 3 (ls1 := [some (.ref 5), some (.int (y1 + (1 : Int32))), none, none]) rfl ?_
            exact ih _ _ _ h
          · rw [if_neg c15] at h
            obtain rfl := Option.some.inj h
            exact go_vret (pc := 70) dX0_buyGowns_70 rfl ⟨rfl, rfl⟩
set_option maxRecDepth 100000 in
set_option maxHeartbeats 4000000 in
theorem c_X0_buyGowns {X : List fm_L} (m : fm_M) {res : fm_M} (h : f_X0_buyGowns  m = some res) : fm_Met (fm_layH ++ X) 2 m_X0_buyGowns [.ref 5] m (fm_pv res) := by
  refine fm_Met_of (ls := [some (.ref 5), none, none, none]) (by decide) rfl (fm_cc_r _ fm_cc_0) (Nat.le_of_ble_eq_true rfl) rfl ?_
  unfold f_X0_buyGowns at h
  refine go_iconst (pc := 0) (v := (0 : Int32)) dX0_buyGowns_0 (by decide) ?_
  refine go_istore_n (pc := 1) (ls1 := [some (.ref 5), some (.int (0 : Int32)), none, none]) dX0_buyGowns_1 rfl (by decide) rfl ?_
  exact c_X0_buyGowns_L2  fm_F _ _ _ h
def f_X0_after_L2 : Nat → Int32 → Int32 → fm_M → Option (fm_M)
  | 0, _, _, _ => none
  | n + 1, y1, y2, m => if y1 ≤ y2 then (some m) else ((f_X5_get 6 7 (287 : Int32) m).bind fun v2 => (f_X5_pittanceIn 6 7 v2 m).bind fun v4 => (f_X5_entitledMany 6 7 m).bind fun v6 => (f_X0_payFeast v4 v6 m).bind fun v8 => (f_X0_shortenBans v8).bind fun v10 => (f_X5_howMany 6 7 (1 : Int32) v10).bind fun v12 => (f_X5_takeIn 6 7 ((2 : Int32) * ((8 : Int32) - v12)) v10).bind fun v14 => (f_X5_get 6 7 (287 : Int32) v14).bind fun v16 => (f_X5_set 6 7 (287 : Int32) ((v16 + (1 : Int32)) - (v16 + (1 : Int32)) / (52 : Int32) * (52 : Int32)) v14).bind fun v18 => (f_X5_get 6 7 (287 : Int32) v18).bind fun v20 => if v20 = 0 then ((f_X0_beginYear v18).bind fun v23 => (f_X0_buyGowns v23).bind fun v25 => f_X0_after_L2 n y1 (y2 + (1 : Int32)) v25) else (f_X0_after_L2 n y1 (y2 + (1 : Int32)) v18))
def f_X0_after (x1 : Int32) (m : fm_M) : Option (fm_M) :=
  f_X0_after_L2 fm_F x1 (0 : Int32) m
set_option maxRecDepth 100000 in
set_option maxHeartbeats 4000000 in
theorem c_X0_after_L2 {X : List fm_L} : ∀ (n : Nat) (y1 : Int32) (y2 : Int32) (m : fm_M) (res : fm_M), f_X0_after_L2 n y1 y2 m = some res → fm_Go (fm_layH ++ X) 3 m_X0_after (fm_pr 6 res) 2 [some (.ref 5), some (.int y1), some (.int y2)] [] m := by
  intro n
  induction n with
  | zero => intro y1 y2 m res h; cases h
  | succ n ih =>
    intro y1 y2 m res h
    rw [f_X0_after_L2] at h
    refine go_iload_n (pc := 2) dX0_after_2 rfl rfl ?_
    refine go_iload_n (pc := 3) dX0_after_3 rfl rfl ?_
    refine go_icmp_ge (pc := 4) (tgt := 111) dX0_after_4 (by decide) (fun c1 => ?_) (fun c1 => ?_)
    · rw [if_pos c1] at h
      refine go_aload_n (pc := 111) dX0_after_111 rfl rfl ?_
      refine go_getR (pc := 112) (k := 0) (q2 := 6) dX0_after_112 cl_X0 rfl rfl (by decide) lk_X0_12 ?_
      obtain rfl := Option.some.inj h
      exact go_aret (pc := 115) "PittanceHouse$State" dX0_after_115 rfl ⟨rfl, rfl⟩
    · rw [if_neg c1] at h
      refine go_aload_n (pc := 7) dX0_after_7 rfl rfl ?_
      refine go_aload_n (pc := 8) dX0_after_8 rfl rfl ?_
      refine go_getR (pc := 9) (k := 0) (q2 := 6) dX0_after_9 cl_X0 rfl rfl (by decide) lk_X0_12 ?_
      refine go_aload_n (pc := 12) dX0_after_12 rfl rfl ?_
      refine go_getR (pc := 13) (k := 0) (q2 := 6) dX0_after_13 cl_X0 rfl rfl (by decide) lk_X0_12 ?_
      refine go_sipush (pc := 16) (v := (287 : Int32)) dX0_after_16 (by decide) ?_
      obtain ⟨v2, hv3, h⟩ := fm_bind h
      refine go_callVi (pc := 19) (As := [.int (287 : Int32)]) (st := [.ref 6, .ref 5]) dX0_after_19 (c_X5_get (p := 6) (r := 7) rfl rfl _ _ hv3) (by decide) ce_X5_get ml_X0_36 in_X5_get se_X5_get cl_X5 rfl rfl (Nat.le_of_ble_eq_true rfl) rfl ?_
      obtain ⟨v4, hv5, h⟩ := fm_bind h
      refine go_callVi (pc := 22) (As := [.int v2]) (st := [.ref 5]) dX0_after_22 (c_X5_pittanceIn (p := 6) (r := 7) rfl rfl _ _ hv5) (by decide) ce_X5_pittanceIn ml_X0_83 in_X5_pittanceIn se_X5_pittanceIn cl_X5 rfl rfl (Nat.le_of_ble_eq_true rfl) rfl ?_
      refine go_aload_n (pc := 25) dX0_after_25 rfl rfl ?_
      refine go_getR (pc := 26) (k := 0) (q2 := 6) dX0_after_26 cl_X0 rfl rfl (by decide) lk_X0_12 ?_
      obtain ⟨v6, hv7, h⟩ := fm_bind h
      refine go_callVi (pc := 29) (As := []) (st := [.int v4, .ref 5]) dX0_after_29 (c_X5_entitledMany (p := 6) (r := 7) rfl rfl _ hv7) (by decide) ce_X5_entitledMany ml_X0_100 in_X5_entitledMany se_X5_entitledMany cl_X5 rfl rfl (Nat.le_of_ble_eq_true rfl) rfl ?_
      obtain ⟨v8, hv9, h⟩ := fm_bind h
      refine go_callVv (pc := 32) (As := [.int v4, .int v6]) (st := []) dX0_after_32 (c_X0_payFeast   _ _ _ hv9) (by decide) ce_X0_payFeast ml_X0_103 in_X0_payFeast se_X0_payFeast cl_X0 rfl rfl (Nat.le_of_ble_eq_true rfl) rfl ?_
      refine go_aload_n (pc := 35) dX0_after_35 rfl rfl ?_
      obtain ⟨v10, hv11, h⟩ := fm_bind h
      refine go_callVv (pc := 36) (As := []) (st := []) dX0_after_36 (c_X0_shortenBans   _ hv11) (by decide) ce_X0_shortenBans ml_X0_106 in_X0_shortenBans se_X0_shortenBans cl_X0 rfl rfl (Nat.le_of_ble_eq_true rfl) rfl ?_
      refine go_aload_n (pc := 39) dX0_after_39 rfl rfl ?_
      refine go_getR (pc := 40) (k := 0) (q2 := 6) dX0_after_40 cl_X0 rfl rfl (by decide) lk_X0_12 ?_
      refine go_iconst (pc := 43) (v := (2 : Int32)) dX0_after_43 (by decide) ?_
      refine go_bipush (pc := 44) (v := (8 : Int32)) dX0_after_44 (by decide) ?_
      refine go_aload_n (pc := 46) dX0_after_46 rfl rfl ?_
      refine go_getR (pc := 47) (k := 0) (q2 := 6) dX0_after_47 cl_X0 rfl rfl (by decide) lk_X0_12 ?_
      refine go_iconst (pc := 50) (v := (1 : Int32)) dX0_after_50 (by decide) ?_
      obtain ⟨v12, hv13, h⟩ := fm_bind h
      refine go_callVi (pc := 51) (As := [.int (1 : Int32)]) (st := [.int (8 : Int32), .int (2 : Int32), .ref 6]) dX0_after_51 (c_X5_howMany (p := 6) (r := 7) rfl rfl _ _ hv13) (by decide) ce_X5_howMany ml_X0_67 in_X5_howMany se_X5_howMany cl_X5 rfl rfl (Nat.le_of_ble_eq_true rfl) rfl ?_
      refine go_isub (pc := 54) dX0_after_54 ?_
      refine go_imul (pc := 55) dX0_after_55 ?_
      obtain ⟨v14, hv15, h⟩ := fm_bind h
      refine go_callVv (pc := 56) (As := [.int ((2 : Int32) * ((8 : Int32) - v12))]) (st := []) dX0_after_56 (c_X5_takeIn (p := 6) (r := 7) rfl rfl _ _ hv15) (by decide) ce_X5_takeIn ml_X0_93 in_X5_takeIn se_X5_takeIn cl_X5 rfl rfl (Nat.le_of_ble_eq_true rfl) rfl ?_
      refine go_aload_n (pc := 59) dX0_after_59 rfl rfl ?_
      refine go_getR (pc := 60) (k := 0) (q2 := 6) dX0_after_60 cl_X0 rfl rfl (by decide) lk_X0_12 ?_
      refine go_sipush (pc := 63) (v := (287 : Int32)) dX0_after_63 (by decide) ?_
      refine go_aload_n (pc := 66) dX0_after_66 rfl rfl ?_
      refine go_getR (pc := 67) (k := 0) (q2 := 6) dX0_after_67 cl_X0 rfl rfl (by decide) lk_X0_12 ?_
      refine go_sipush (pc := 70) (v := (287 : Int32)) dX0_after_70 (by decide) ?_
      obtain ⟨v16, hv17, h⟩ := fm_bind h
      refine go_callVi (pc := 73) (As := [.int (287 : Int32)]) (st := [.int (287 : Int32), .ref 6]) dX0_after_73 (c_X5_get (p := 6) (r := 7) rfl rfl _ _ hv17) (by decide) ce_X5_get ml_X0_36 in_X5_get se_X5_get cl_X5 rfl rfl (Nat.le_of_ble_eq_true rfl) rfl ?_
      refine go_iconst (pc := 76) (v := (1 : Int32)) dX0_after_76 (by decide) ?_
      refine go_iadd (pc := 77) dX0_after_77 ?_
      refine go_bipush (pc := 78) (v := (52 : Int32)) dX0_after_78 (by decide) ?_
      refine go_irem (pc := 80) dX0_after_80 (by decide) ?_
      obtain ⟨v18, hv19, h⟩ := fm_bind h
      refine go_callVv (pc := 81) (As := [.int (287 : Int32), .int ((v16 + (1 : Int32)) - (v16 + (1 : Int32)) / (52 : Int32) * (52 : Int32))]) (st := []) dX0_after_81 (c_X5_set (p := 6) (r := 7) rfl rfl _ _ _ hv19) (by decide) ce_X5_set ml_X0_44 in_X5_set se_X5_set cl_X5 rfl rfl (Nat.le_of_ble_eq_true rfl) rfl ?_
      refine go_aload_n (pc := 84) dX0_after_84 rfl rfl ?_
      refine go_getR (pc := 85) (k := 0) (q2 := 6) dX0_after_85 cl_X0 rfl rfl (by decide) lk_X0_12 ?_
      refine go_sipush (pc := 88) (v := (287 : Int32)) dX0_after_88 (by decide) ?_
      obtain ⟨v20, hv21, h⟩ := fm_bind h
      refine go_callVi (pc := 91) (As := [.int (287 : Int32)]) (st := []) dX0_after_91 (c_X5_get (p := 6) (r := 7) rfl rfl _ _ hv21) (by decide) ce_X5_get ml_X0_36 in_X5_get se_X5_get cl_X5 rfl rfl (Nat.le_of_ble_eq_true rfl) rfl ?_
      refine go_if_ne (pc := 94) (tgt := 105) dX0_after_94 (by decide) (fun c22 => ?_) (fun c22 => ?_)
      · rw [if_neg c22] at h
        refine go_iinc (pc := 105) (v := (y2 + (1 : Int32))) (ls1 := [some (.ref 5), some (.int y1), some (.int (y2 + (1 : Int32)))]) dX0_after_105 rfl rfl (Nat.le_of_ble_eq_true rfl) rfl ?_
        refine go_goto (pc := 108) (tgt := 2) dX0_after_108 (by decide) ?_
        exact ih _ _ _ _ h
      · rw [if_pos c22] at h
        refine go_aload_n (pc := 97) dX0_after_97 rfl rfl ?_
        obtain ⟨v23, hv24, h⟩ := fm_bind h
        refine go_callVv (pc := 98) (As := []) (st := []) dX0_after_98 (c_X0_beginYear   _ hv24) (by decide) ce_X0_beginYear ml_X0_109 in_X0_beginYear se_X0_beginYear cl_X0 rfl rfl (Nat.le_of_ble_eq_true rfl) rfl ?_
        refine go_aload_n (pc := 101) dX0_after_101 rfl rfl ?_
        obtain ⟨v25, hv26, h⟩ := fm_bind h
        refine go_callVv (pc := 102) (As := []) (st := []) dX0_after_102 (c_X0_buyGowns   _ hv26) (by decide) ce_X0_buyGowns ml_X0_112 in_X0_buyGowns se_X0_buyGowns cl_X0 rfl rfl (Nat.le_of_ble_eq_true rfl) rfl ?_
        refine go_iinc (pc := 105) (v := (y2 + (1 : Int32))) (ls1 := [some (.ref 5), some (.int y1), some (.int (y2 + (1 : Int32)))]) dX0_after_105 rfl rfl (Nat.le_of_ble_eq_true rfl) rfl ?_
        refine go_goto (pc := 108) (tgt := 2) dX0_after_108 (by decide) ?_
        exact ih _ _ _ _ h
set_option maxRecDepth 100000 in
set_option maxHeartbeats 4000000 in
theorem c_X0_after {X : List fm_L} (x1 : Int32) (m : fm_M) {res : fm_M} (h : f_X0_after x1 m = some res) : fm_Met (fm_layH ++ X) 3 m_X0_after [.ref 5, .int x1] m (fm_pr 6 res) := by
  refine fm_Met_of (ls := [some (.ref 5), some (.int x1), none]) (by decide) rfl (fm_cc_r _ (fm_cc_i _ fm_cc_0)) (Nat.le_of_ble_eq_true rfl) rfl ?_
  unfold f_X0_after at h
  refine go_iconst (pc := 0) (v := (0 : Int32)) dX0_after_0 (by decide) ?_
  refine go_istore_n (pc := 1) (ls1 := [some (.ref 5), some (.int x1), some (.int (0 : Int32))]) dX0_after_1 rfl (by decide) rfl ?_
  exact c_X0_after_L2  fm_F _ _ _ _ h
def f_X0_spendWeeks (x1 : Int32) (m : fm_M) : Option (Int32 × fm_M) :=
  if x1 < (1 : Int32) then (some ((-12 : Int32), m)) else (if x1 ≤ (60 : Int32) then ((f_X5_get 6 7 (290 : Int32) m).bind fun v3 => (f_X0_after x1 m).bind fun v5 => (f_X5_get 6 7 (290 : Int32) v5).bind fun v7 => some ((v7 - v3), v5)) else (some ((-12 : Int32), m)))
set_option maxRecDepth 100000 in
set_option maxHeartbeats 4000000 in
theorem c_X0_spendWeeks {X : List fm_L} (x1 : Int32) (m : fm_M) {res : Int32 × fm_M} (h : f_X0_spendWeeks x1 m = some res) : fm_Met (fm_layH ++ X) 4 m_X0_spendWeeks [.ref 5, .int x1] m (fm_pi res.1 res.2) := by
  refine fm_Met_of (ls := [some (.ref 5), some (.int x1), none]) (by decide) rfl (fm_cc_r _ (fm_cc_i _ fm_cc_0)) (Nat.le_of_ble_eq_true rfl) rfl ?_
  unfold f_X0_spendWeeks at h
  refine go_iload_n (pc := 0) dX0_spendWeeks_0 rfl rfl ?_
  refine go_iconst (pc := 1) (v := (1 : Int32)) dX0_spendWeeks_1 (by decide) ?_
  refine go_icmp_lt (pc := 2) (tgt := 11) dX0_spendWeeks_2 (by decide) (fun c1 => ?_) (fun c1 => ?_)
  · rw [if_pos c1] at h
    refine go_bipush (pc := 11) (v := (-12 : Int32)) dX0_spendWeeks_11 (by decide) ?_
    obtain rfl := Option.some.inj h
    exact go_iret (pc := 13) .int dX0_spendWeeks_13 rfl rfl ⟨rfl, rfl⟩
  · rw [if_neg c1] at h
    refine go_iload_n (pc := 5) dX0_spendWeeks_5 rfl rfl ?_
    refine go_bipush (pc := 6) (v := (60 : Int32)) dX0_spendWeeks_6 (by decide) ?_
    refine go_icmp_le (pc := 8) (tgt := 14) dX0_spendWeeks_8 (by decide) (fun c2 => ?_) (fun c2 => ?_)
    · rw [if_pos c2] at h
      refine go_aload_n (pc := 14) dX0_spendWeeks_14 rfl rfl ?_
      refine go_getR (pc := 15) (k := 0) (q2 := 6) dX0_spendWeeks_15 cl_X0 rfl rfl (by decide) lk_X0_12 ?_
      refine go_sipush (pc := 18) (v := (290 : Int32)) dX0_spendWeeks_18 (by decide) ?_
      obtain ⟨v3, hv4, h⟩ := fm_bind h
      refine go_callVi (pc := 21) (As := [.int (290 : Int32)]) (st := []) dX0_spendWeeks_21 (c_X5_get (p := 6) (r := 7) rfl rfl _ _ hv4) (by decide) ce_X5_get ml_X0_36 in_X5_get se_X5_get cl_X5 rfl rfl (Nat.le_of_ble_eq_true rfl) rfl ?_
      refine go_istore_n (pc := 24) (ls1 := [some (.ref 5), some (.int x1), some (.int v3)]) dX0_spendWeeks_24 rfl (by decide) rfl ?_
      refine go_aload_n (pc := 25) dX0_spendWeeks_25 rfl rfl ?_
      refine go_iload_n (pc := 26) dX0_spendWeeks_26 rfl rfl ?_
      obtain ⟨v5, hv6, h⟩ := fm_bind h
      refine go_callVr (pc := 27) (As := [.int x1]) (st := []) dX0_spendWeeks_27 (c_X0_after   _ _ hv6) (by decide) ce_X0_after ml_X0_96 in_X0_after se_X0_after cl_X0 rfl rfl (Nat.le_of_ble_eq_true rfl) rfl ?_
      refine go_sipush (pc := 30) (v := (290 : Int32)) dX0_spendWeeks_30 (by decide) ?_
      obtain ⟨v7, hv8, h⟩ := fm_bind h
      refine go_callVi (pc := 33) (As := [.int (290 : Int32)]) (st := []) dX0_spendWeeks_33 (c_X5_get (p := 6) (r := 7) rfl rfl _ _ hv8) (by decide) ce_X5_get ml_X0_36 in_X5_get se_X5_get cl_X5 rfl rfl (Nat.le_of_ble_eq_true rfl) rfl ?_
      refine go_iload_n (pc := 36) dX0_spendWeeks_36 rfl rfl ?_
      refine go_isub (pc := 37) dX0_spendWeeks_37 ?_
      obtain rfl := Option.some.inj h
      exact go_iret (pc := 38) .int dX0_spendWeeks_38 rfl rfl ⟨rfl, rfl⟩
    · rw [if_neg c2] at h
      refine go_bipush (pc := 11) (v := (-12 : Int32)) dX0_spendWeeks_11 (by decide) ?_
      obtain rfl := Option.some.inj h
      exact go_iret (pc := 13) .int dX0_spendWeeks_13 rfl rfl ⟨rfl, rfl⟩
def f_X0_perform (x1 : Int32) (x2 : Int32) (x3 : Int32) (m : fm_M) : Option (Int32 × fm_M) :=
  if x1 = (0 : Int32) then ((f_X0_giveVoice x2 x3 m).bind fun v2 => some (v2.1, v2.2)) else (if x1 = (1 : Int32) then ((f_X0_fillCell x2 m).bind fun v5 => some (v5.1, v5.2)) else (if x1 = (2 : Int32) then ((f_X0_emptyCell x2 m).bind fun v8 => some (v8.1, v8.2)) else (if x1 = (3 : Int32) then ((f_X0_breakRule x2 x3 m).bind fun v11 => some (v11.1, v11.2)) else (if x1 = (4 : Int32) then ((f_X0_endBan x2 m).bind fun v14 => some (v14.1, v14.2)) else (if x1 = (5 : Int32) then ((f_X0_setFeast x2 x3 m).bind fun v17 => some (v17.1, v17.2)) else (if x1 = (6 : Int32) then ((f_X0_takeGift x2 m).bind fun v20 => some (v20.1, v20.2)) else (if x1 = (7 : Int32) then ((f_X0_spendWeeks x2 m).bind fun v23 => some (v23.1, v23.2)) else (some ((-12 : Int32), m)))))))))
set_option maxRecDepth 100000 in
set_option maxHeartbeats 4000000 in
theorem c_X0_perform {X : List fm_L} (x1 : Int32) (x2 : Int32) (x3 : Int32) (m : fm_M) {res : Int32 × fm_M} (h : f_X0_perform x1 x2 x3 m = some res) : fm_Met (fm_layH ++ X) 5 m_X0_perform [.ref 5, .int x1, .int x2, .int x3] m (fm_pi res.1 res.2) := by
  refine fm_Met_of (ls := [some (.ref 5), some (.int x1), some (.int x2), some (.int x3)]) (by decide) rfl (fm_cc_r _ (fm_cc_i _ (fm_cc_i _ (fm_cc_i _ fm_cc_0)))) (Nat.le_of_ble_eq_true rfl) rfl ?_
  unfold f_X0_perform at h
  refine go_iload_n (pc := 0) dX0_perform_0 rfl rfl ?_
  by_cases c1 : x1 = (0 : Int32)
  · rw [if_pos c1] at h
    refine go_tswHit (pc := 1) (tgt := 48) dX0_perform_1 c1 (by decide) (by decide) rfl (by decide) ?_
    refine go_aload_n (pc := 48) dX0_perform_48 rfl rfl ?_
    refine go_iload_n (pc := 49) dX0_perform_49 rfl rfl ?_
    refine go_iload_n (pc := 50) dX0_perform_50 rfl rfl ?_
    obtain ⟨v2, hv3, h⟩ := fm_bind h
    refine go_callVi (pc := 51) (As := [.int x2, .int x3]) (st := []) dX0_perform_51 (c_X0_giveVoice   _ _ _ hv3) (by decide) ce_X0_giveVoice ml_X0_115 in_X0_giveVoice se_X0_giveVoice cl_X0 rfl rfl (Nat.le_of_ble_eq_true rfl) rfl ?_
    obtain rfl := Option.some.inj h
    exact go_iret (pc := 54) .int dX0_perform_54 rfl rfl ⟨rfl, rfl⟩
  rw [if_neg c1] at h
  by_cases c4 : x1 = (1 : Int32)
  · rw [if_pos c4] at h
    refine go_tswHit (pc := 1) (tgt := 55) dX0_perform_1 c4 (by decide) (by decide) rfl (by decide) ?_
    refine go_aload_n (pc := 55) dX0_perform_55 rfl rfl ?_
    refine go_iload_n (pc := 56) dX0_perform_56 rfl rfl ?_
    obtain ⟨v5, hv6, h⟩ := fm_bind h
    refine go_callVi (pc := 57) (As := [.int x2]) (st := []) dX0_perform_57 (c_X0_fillCell   _ _ hv6) (by decide) ce_X0_fillCell ml_X0_118 in_X0_fillCell se_X0_fillCell cl_X0 rfl rfl (Nat.le_of_ble_eq_true rfl) rfl ?_
    obtain rfl := Option.some.inj h
    exact go_iret (pc := 60) .int dX0_perform_60 rfl rfl ⟨rfl, rfl⟩
  rw [if_neg c4] at h
  by_cases c7 : x1 = (2 : Int32)
  · rw [if_pos c7] at h
    refine go_tswHit (pc := 1) (tgt := 61) dX0_perform_1 c7 (by decide) (by decide) rfl (by decide) ?_
    refine go_aload_n (pc := 61) dX0_perform_61 rfl rfl ?_
    refine go_iload_n (pc := 62) dX0_perform_62 rfl rfl ?_
    obtain ⟨v8, hv9, h⟩ := fm_bind h
    refine go_callVi (pc := 63) (As := [.int x2]) (st := []) dX0_perform_63 (c_X0_emptyCell   _ _ hv9) (by decide) ce_X0_emptyCell ml_X0_121 in_X0_emptyCell se_X0_emptyCell cl_X0 rfl rfl (Nat.le_of_ble_eq_true rfl) rfl ?_
    obtain rfl := Option.some.inj h
    exact go_iret (pc := 66) .int dX0_perform_66 rfl rfl ⟨rfl, rfl⟩
  rw [if_neg c7] at h
  by_cases c10 : x1 = (3 : Int32)
  · rw [if_pos c10] at h
    refine go_tswHit (pc := 1) (tgt := 67) dX0_perform_1 c10 (by decide) (by decide) rfl (by decide) ?_
    refine go_aload_n (pc := 67) dX0_perform_67 rfl rfl ?_
    refine go_iload_n (pc := 68) dX0_perform_68 rfl rfl ?_
    refine go_iload_n (pc := 69) dX0_perform_69 rfl rfl ?_
    obtain ⟨v11, hv12, h⟩ := fm_bind h
    refine go_callVi (pc := 70) (As := [.int x2, .int x3]) (st := []) dX0_perform_70 (c_X0_breakRule   _ _ _ hv12) (by decide) ce_X0_breakRule ml_X0_124 in_X0_breakRule se_X0_breakRule cl_X0 rfl rfl (Nat.le_of_ble_eq_true rfl) rfl ?_
    obtain rfl := Option.some.inj h
    exact go_iret (pc := 73) .int dX0_perform_73 rfl rfl ⟨rfl, rfl⟩
  rw [if_neg c10] at h
  by_cases c13 : x1 = (4 : Int32)
  · rw [if_pos c13] at h
    refine go_tswHit (pc := 1) (tgt := 74) dX0_perform_1 c13 (by decide) (by decide) rfl (by decide) ?_
    refine go_aload_n (pc := 74) dX0_perform_74 rfl rfl ?_
    refine go_iload_n (pc := 75) dX0_perform_75 rfl rfl ?_
    obtain ⟨v14, hv15, h⟩ := fm_bind h
    refine go_callVi (pc := 76) (As := [.int x2]) (st := []) dX0_perform_76 (c_X0_endBan   _ _ hv15) (by decide) ce_X0_endBan ml_X0_127 in_X0_endBan se_X0_endBan cl_X0 rfl rfl (Nat.le_of_ble_eq_true rfl) rfl ?_
    obtain rfl := Option.some.inj h
    exact go_iret (pc := 79) .int dX0_perform_79 rfl rfl ⟨rfl, rfl⟩
  rw [if_neg c13] at h
  by_cases c16 : x1 = (5 : Int32)
  · rw [if_pos c16] at h
    refine go_tswHit (pc := 1) (tgt := 80) dX0_perform_1 c16 (by decide) (by decide) rfl (by decide) ?_
    refine go_aload_n (pc := 80) dX0_perform_80 rfl rfl ?_
    refine go_iload_n (pc := 81) dX0_perform_81 rfl rfl ?_
    refine go_iload_n (pc := 82) dX0_perform_82 rfl rfl ?_
    obtain ⟨v17, hv18, h⟩ := fm_bind h
    refine go_callVi (pc := 83) (As := [.int x2, .int x3]) (st := []) dX0_perform_83 (c_X0_setFeast   _ _ _ hv18) (by decide) ce_X0_setFeast ml_X0_130 in_X0_setFeast se_X0_setFeast cl_X0 rfl rfl (Nat.le_of_ble_eq_true rfl) rfl ?_
    obtain rfl := Option.some.inj h
    exact go_iret (pc := 86) .int dX0_perform_86 rfl rfl ⟨rfl, rfl⟩
  rw [if_neg c16] at h
  by_cases c19 : x1 = (6 : Int32)
  · rw [if_pos c19] at h
    refine go_tswHit (pc := 1) (tgt := 87) dX0_perform_1 c19 (by decide) (by decide) rfl (by decide) ?_
    refine go_aload_n (pc := 87) dX0_perform_87 rfl rfl ?_
    refine go_iload_n (pc := 88) dX0_perform_88 rfl rfl ?_
    obtain ⟨v20, hv21, h⟩ := fm_bind h
    refine go_callVi (pc := 89) (As := [.int x2]) (st := []) dX0_perform_89 (c_X0_takeGift   _ _ hv21) (by decide) ce_X0_takeGift ml_X0_133 in_X0_takeGift se_X0_takeGift cl_X0 rfl rfl (Nat.le_of_ble_eq_true rfl) rfl ?_
    obtain rfl := Option.some.inj h
    exact go_iret (pc := 92) .int dX0_perform_92 rfl rfl ⟨rfl, rfl⟩
  rw [if_neg c19] at h
  by_cases c22 : x1 = (7 : Int32)
  · rw [if_pos c22] at h
    refine go_tswHit (pc := 1) (tgt := 93) dX0_perform_1 c22 (by decide) (by decide) rfl (by decide) ?_
    refine go_aload_n (pc := 93) dX0_perform_93 rfl rfl ?_
    refine go_iload_n (pc := 94) dX0_perform_94 rfl rfl ?_
    obtain ⟨v23, hv24, h⟩ := fm_bind h
    refine go_callVi (pc := 95) (As := [.int x2]) (st := []) dX0_perform_95 (c_X0_spendWeeks   _ _ hv24) (by decide) ce_X0_spendWeeks ml_X0_136 in_X0_spendWeeks se_X0_spendWeeks cl_X0 rfl rfl (Nat.le_of_ble_eq_true rfl) rfl ?_
    obtain rfl := Option.some.inj h
    exact go_iret (pc := 98) .int dX0_perform_98 rfl rfl ⟨rfl, rfl⟩
  rw [if_neg c22] at h
  refine go_tswMiss (pc := 1) (tgt := 99) dX0_perform_1 8 (by decide) (lt_s (lt_s (lt_s (lt_s (lt_s (lt_s (lt_s (lt_s lt_0 (Or.inl (lv_neT c1 rfl))) (Or.inl (lv_neT c4 rfl))) (Or.inl (lv_neT c7 rfl))) (Or.inl (lv_neT c10 rfl))) (Or.inl (lv_neT c13 rfl))) (Or.inl (lv_neT c16 rfl))) (Or.inl (lv_neT c19 rfl))) (Or.inl (lv_neT c22 rfl))) (by decide) ?_
  refine go_bipush (pc := 99) (v := (-12 : Int32)) dX0_perform_99 (by decide) ?_
  obtain rfl := Option.some.inj h
  exact go_iret (pc := 101) .int dX0_perform_101 rfl rfl ⟨rfl, rfl⟩

def f_X1_size (m : fm_M) : Option (Int32) :=
  some (m 12 2)
set_option maxRecDepth 100000 in
set_option maxHeartbeats 4000000 in
theorem c_X1_size {X : List fm_L} (m : fm_M) {res : Int32} (h : f_X1_size  m = some res) : fm_Met (fm_layH ++ X) 0 m_X1_size [.ref 12] m (fm_pi res m) := by
  refine fm_Met_of (ls := [some (.ref 12)]) (by decide) rfl (fm_cc_r _ fm_cc_0) (Nat.le_of_ble_eq_true rfl) rfl ?_
  unfold f_X1_size at h
  refine go_aload_n (pc := 0) dX1_size_0 rfl rfl ?_
  refine go_getI (pc := 1) (k := 2) dX1_size_1 cl_X1 rfl rfl (by decide) lk_X1_19 ?_
  obtain rfl := Option.some.inj h
  exact go_iret (pc := 4) .int dX1_size_4 rfl rfl ⟨rfl, rfl⟩
def f_X1_keep (p2 : Nat) (r2 : Nat) (m : fm_M) : Option (fm_M) :=
  (f_X5_copyTo p2 r2 13 2352 ((m 12 1) * (294 : Int32)) m).bind fun v1 => some (fm_put (fm_put v1 12 1 (((v1 12 1) + (1 : Int32)) - ((v1 12 1) + (1 : Int32)) / (8 : Int32) * (8 : Int32))) 12 2 (if (8 : Int32) < (((fm_put v1 12 1 (((v1 12 1) + (1 : Int32)) - ((v1 12 1) + (1 : Int32)) / (8 : Int32) * (8 : Int32))) 12 2) + (1 : Int32)) then (8 : Int32) else (((fm_put v1 12 1 (((v1 12 1) + (1 : Int32)) - ((v1 12 1) + (1 : Int32)) / (8 : Int32) * (8 : Int32))) 12 2) + (1 : Int32))))
set_option maxRecDepth 100000 in
set_option maxHeartbeats 4000000 in
theorem c_X1_keep {X : List fm_L} {p2 r2 : Nat} (hp2 : (fm_layH ++ X)[p2]? = some (.inr (5, [some (some r2)]))) (hr2 : (fm_layH ++ X)[r2]? = some (.inl (0, 294))) (m : fm_M) {res : fm_M} (h : f_X1_keep p2 r2 m = some res) : fm_Met (fm_layH ++ X) 3 m_X1_keep [.ref 12, .ref p2] m (fm_pv res) := by
  refine fm_Met_of (ls := [some (.ref 12), some (.ref p2)]) (by decide) rfl (fm_cc_r _ (fm_cc_r _ fm_cc_0)) (Nat.le_of_ble_eq_true rfl) rfl ?_
  unfold f_X1_keep at h
  refine go_aload_n (pc := 0) dX1_keep_0 rfl rfl ?_
  refine go_aload_n (pc := 1) dX1_keep_1 rfl rfl ?_
  refine go_getR (pc := 2) (k := 0) (q2 := 13) dX1_keep_2 cl_X1 rfl rfl (by decide) lk_X1_9 ?_
  refine go_aload_n (pc := 5) dX1_keep_5 rfl rfl ?_
  refine go_getI (pc := 6) (k := 1) dX1_keep_6 cl_X1 rfl rfl (by decide) lk_X1_15 ?_
  refine go_sipush (pc := 9) (v := (294 : Int32)) dX1_keep_9 (by decide) ?_
  refine go_imul (pc := 12) dX1_keep_12 ?_
  obtain ⟨v1, hv2, h⟩ := fm_bind h
  refine go_callVv (pc := 13) (As := [.ref 13, .int ((m 12 1) * (294 : Int32))]) (st := []) dX1_keep_13 (c_X5_copyTo (p := p2) (r := r2) (r2 := 13) (n2 := 2352) hp2 hr2 rfl _ _ hv2) (by decide) ce_X5_copyTo ml_X1_22 in_X5_copyTo se_X5_copyTo cl_X5 hp2 rfl (Nat.le_of_ble_eq_true rfl) rfl ?_
  refine go_aload_n (pc := 16) dX1_keep_16 rfl rfl ?_
  refine go_aload_n (pc := 17) dX1_keep_17 rfl rfl ?_
  refine go_getI (pc := 18) (k := 1) dX1_keep_18 cl_X1 rfl rfl (by decide) lk_X1_15 ?_
  refine go_iconst (pc := 21) (v := (1 : Int32)) dX1_keep_21 (by decide) ?_
  refine go_iadd (pc := 22) dX1_keep_22 ?_
  refine go_bipush (pc := 23) (v := (8 : Int32)) dX1_keep_23 (by decide) ?_
  refine go_irem (pc := 25) dX1_keep_25 (by decide) ?_
  refine go_put (pc := 26) (k := 1) .int dX1_keep_26 cl_X1 rfl rfl (by decide) lk_X1_15 rfl (by decide +kernel) rfl rfl ?_
  refine go_aload_n (pc := 29) dX1_keep_29 rfl rfl ?_
  refine go_aload_n (pc := 30) dX1_keep_30 rfl rfl ?_
  refine go_getI (pc := 31) (k := 2) dX1_keep_31 cl_X1 rfl rfl (by decide) lk_X1_19 ?_
  refine go_iconst (pc := 34) (v := (1 : Int32)) dX1_keep_34 (by decide) ?_
  refine go_iadd (pc := 35) dX1_keep_35 ?_
  refine go_bipush (pc := 36) (v := (8 : Int32)) dX1_keep_36 (by decide) ?_
  refine go_min (pc := 38) dX1_keep_38 ml_X1_28 (by decide) (Nat.le_of_ble_eq_true rfl) ?_
  refine go_put (pc := 41) (k := 2) .int dX1_keep_41 cl_X1 rfl rfl (by decide) lk_X1_19 rfl (by decide +kernel) rfl rfl ?_
  obtain rfl := Option.some.inj h
  exact go_vret (pc := 44) dX1_keep_44 rfl ⟨rfl, rfl⟩
def f_X1_giveBack (p2 : Nat) (r2 : Nat) (m : fm_M) : Option (Bool × fm_M) :=
  if (m 12 2) = 0 then (some (false, m)) else ((f_X5_copyBack p2 r2 13 2352 (((fm_put (fm_put m 12 2 ((m 12 2) - (1 : Int32))) 12 1 (((((fm_put m 12 2 ((m 12 2) - (1 : Int32))) 12 1) + (8 : Int32)) - (1 : Int32)) - ((((fm_put m 12 2 ((m 12 2) - (1 : Int32))) 12 1) + (8 : Int32)) - (1 : Int32)) / (8 : Int32) * (8 : Int32))) 12 1) * (294 : Int32)) (fm_put (fm_put m 12 2 ((m 12 2) - (1 : Int32))) 12 1 (((((fm_put m 12 2 ((m 12 2) - (1 : Int32))) 12 1) + (8 : Int32)) - (1 : Int32)) - ((((fm_put m 12 2 ((m 12 2) - (1 : Int32))) 12 1) + (8 : Int32)) - (1 : Int32)) / (8 : Int32) * (8 : Int32)))).bind fun v2 => some (true, v2))
set_option maxRecDepth 100000 in
set_option maxHeartbeats 4000000 in
theorem c_X1_giveBack {X : List fm_L} {p2 r2 : Nat} (hp2 : (fm_layH ++ X)[p2]? = some (.inr (5, [some (some r2)]))) (hr2 : (fm_layH ++ X)[r2]? = some (.inl (0, 294))) (m : fm_M) {res : Bool × fm_M} (h : f_X1_giveBack p2 r2 m = some res) : fm_Met (fm_layH ++ X) 3 m_X1_giveBack [.ref 12, .ref p2] m (fm_pi (fm_b res.1) res.2) := by
  refine fm_Met_of (ls := [some (.ref 12), some (.ref p2)]) (by decide) rfl (fm_cc_r _ (fm_cc_r _ fm_cc_0)) (Nat.le_of_ble_eq_true rfl) rfl ?_
  unfold f_X1_giveBack at h
  refine go_aload_n (pc := 0) dX1_giveBack_0 rfl rfl ?_
  refine go_getI (pc := 1) (k := 2) dX1_giveBack_1 cl_X1 rfl rfl (by decide) lk_X1_19 ?_
  refine go_if_ne (pc := 4) (tgt := 9) dX1_giveBack_4 (by decide) (fun c1 => ?_) (fun c1 => ?_)
  · rw [if_neg c1] at h
    refine go_aload_n (pc := 9) dX1_giveBack_9 rfl rfl ?_
    refine go_dup (pc := 10) dX1_giveBack_10 rfl ?_
    refine go_getI (pc := 11) (k := 2) dX1_giveBack_11 cl_X1 rfl rfl (by decide) lk_X1_19 ?_
    refine go_iconst (pc := 14) (v := (1 : Int32)) dX1_giveBack_14 (by decide) ?_
    refine go_isub (pc := 15) dX1_giveBack_15 ?_
    refine go_put (pc := 16) (k := 2) .int dX1_giveBack_16 cl_X1 rfl rfl (by decide) lk_X1_19 rfl (by decide +kernel) rfl rfl ?_
    refine go_aload_n (pc := 19) dX1_giveBack_19 rfl rfl ?_
    refine go_aload_n (pc := 20) dX1_giveBack_20 rfl rfl ?_
    refine go_getI (pc := 21) (k := 1) dX1_giveBack_21 cl_X1 rfl rfl (by decide) lk_X1_15 ?_
    refine go_bipush (pc := 24) (v := (8 : Int32)) dX1_giveBack_24 (by decide) ?_
    refine go_iadd (pc := 26) dX1_giveBack_26 ?_
    refine go_iconst (pc := 27) (v := (1 : Int32)) dX1_giveBack_27 (by decide) ?_
    refine go_isub (pc := 28) dX1_giveBack_28 ?_
    refine go_bipush (pc := 29) (v := (8 : Int32)) dX1_giveBack_29 (by decide) ?_
    refine go_irem (pc := 31) dX1_giveBack_31 (by decide) ?_
    refine go_put (pc := 32) (k := 1) .int dX1_giveBack_32 cl_X1 rfl rfl (by decide) lk_X1_15 rfl (by decide +kernel) rfl rfl ?_
    refine go_aload_n (pc := 35) dX1_giveBack_35 rfl rfl ?_
    refine go_aload_n (pc := 36) dX1_giveBack_36 rfl rfl ?_
    refine go_getR (pc := 37) (k := 0) (q2 := 13) dX1_giveBack_37 cl_X1 rfl rfl (by decide) lk_X1_9 ?_
    refine go_aload_n (pc := 40) dX1_giveBack_40 rfl rfl ?_
    refine go_getI (pc := 41) (k := 1) dX1_giveBack_41 cl_X1 rfl rfl (by decide) lk_X1_15 ?_
    refine go_sipush (pc := 44) (v := (294 : Int32)) dX1_giveBack_44 (by decide) ?_
    refine go_imul (pc := 47) dX1_giveBack_47 ?_
    obtain ⟨v2, hv3, h⟩ := fm_bind h
    refine go_callVv (pc := 48) (As := [.ref 13, .int (((fm_put (fm_put m 12 2 ((m 12 2) - (1 : Int32))) 12 1 (((((fm_put m 12 2 ((m 12 2) - (1 : Int32))) 12 1) + (8 : Int32)) - (1 : Int32)) - ((((fm_put m 12 2 ((m 12 2) - (1 : Int32))) 12 1) + (8 : Int32)) - (1 : Int32)) / (8 : Int32) * (8 : Int32))) 12 1) * (294 : Int32))]) (st := []) dX1_giveBack_48 (c_X5_copyBack (p := p2) (r := r2) (r2 := 13) (n2 := 2352) hp2 hr2 rfl _ _ hv3) (by decide) ce_X5_copyBack ml_X1_34 in_X5_copyBack se_X5_copyBack cl_X5 hp2 rfl (Nat.le_of_ble_eq_true rfl) rfl ?_
    refine go_iconst (pc := 51) (v := (1 : Int32)) dX1_giveBack_51 (by decide) ?_
    obtain rfl := Option.some.inj h
    exact go_iret (pc := 52) .boolean dX1_giveBack_52 rfl rfl ⟨rfl, rfl⟩
  · rw [if_pos c1] at h
    refine go_iconst (pc := 7) (v := (0 : Int32)) dX1_giveBack_7 (by decide) ?_
    obtain rfl := Option.some.inj h
    exact go_iret (pc := 8) .boolean dX1_giveBack_8 rfl rfl ⟨rfl, rfl⟩
def f_X1_forget (m : fm_M) : Option (fm_M) :=
  some (fm_put m 12 2 (0 : Int32))
set_option maxRecDepth 100000 in
set_option maxHeartbeats 4000000 in
theorem c_X1_forget {X : List fm_L} (m : fm_M) {res : fm_M} (h : f_X1_forget  m = some res) : fm_Met (fm_layH ++ X) 0 m_X1_forget [.ref 12] m (fm_pv res) := by
  refine fm_Met_of (ls := [some (.ref 12)]) (by decide) rfl (fm_cc_r _ fm_cc_0) (Nat.le_of_ble_eq_true rfl) rfl ?_
  unfold f_X1_forget at h
  refine go_aload_n (pc := 0) dX1_forget_0 rfl rfl ?_
  refine go_iconst (pc := 1) (v := (0 : Int32)) dX1_forget_1 (by decide) ?_
  refine go_put (pc := 2) (k := 2) .int dX1_forget_2 cl_X1 rfl rfl (by decide) lk_X1_19 rfl (by decide +kernel) rfl rfl ?_
  obtain rfl := Option.some.inj h
  exact go_vret (pc := 5) dX1_forget_5 rfl ⟨rfl, rfl⟩

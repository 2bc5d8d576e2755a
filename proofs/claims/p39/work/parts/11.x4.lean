def f_X4_at (p : Nat) (r : Nat) (n0 : Nat) (x1 : Int32) (m : fm_M) : Option (Int32) :=
  if x1 < 0 then (some (-1 : Int32)) else (if (m p 1) ≤ x1 then (some (-1 : Int32)) else (if (Int32.ofNat n0) ≤ x1 then (some (-1 : Int32)) else (if fm_in x1 n0 = true then (some (m r x1.toNatClampNeg)) else none)))
set_option maxRecDepth 100000 in
set_option maxHeartbeats 4000000 in
theorem c_X4_at {lay : List fm_L} {p r n0 : Nat} (hp : lay[p]? = some (.inr (4, [some (some r), none]))) (hr : lay[r]? = some (.inl (0, n0))) (x1 : Int32) (m : fm_M) {res : Int32} (h : f_X4_at p r n0 x1 m = some res) : fm_Met lay 0 m_X4_at [.ref p, .int x1] m (fm_pi res m) := by
  refine fm_Met_of (ls := [some (.ref p), some (.int x1)]) (by decide) rfl (fm_cc_r _ (fm_cc_i _ fm_cc_0)) (Nat.le_of_ble_eq_true rfl) rfl ?_
  unfold f_X4_at at h
  refine go_iload_n (pc := 0) dX4_at_0 rfl rfl ?_
  refine go_if_lt (pc := 1) (tgt := 30) dX4_at_1 (by decide) (fun c1 => ?_) (fun c1 => ?_)
  · rw [if_pos c1] at h
    refine go_iconst (pc := 30) (v := (-1 : Int32)) dX4_at_30 (by decide) ?_
    obtain rfl := Option.some.inj h
    exact go_iret (pc := 31) .int dX4_at_31 rfl rfl ⟨rfl, rfl⟩
  · rw [if_neg c1] at h
    refine go_iload_n (pc := 4) dX4_at_4 rfl rfl ?_
    refine go_aload_n (pc := 5) dX4_at_5 rfl rfl ?_
    refine go_getI (pc := 6) (k := 1) dX4_at_6 cl_X4 hp rfl (by decide) lk_X4_7 ?_
    refine go_icmp_ge (pc := 9) (tgt := 30) dX4_at_9 (by decide) (fun c2 => ?_) (fun c2 => ?_)
    · rw [if_pos c2] at h
      refine go_iconst (pc := 30) (v := (-1 : Int32)) dX4_at_30 (by decide) ?_
      obtain rfl := Option.some.inj h
      exact go_iret (pc := 31) .int dX4_at_31 rfl rfl ⟨rfl, rfl⟩
    · rw [if_neg c2] at h
      refine go_iload_n (pc := 12) dX4_at_12 rfl rfl ?_
      refine go_aload_n (pc := 13) dX4_at_13 rfl rfl ?_
      refine go_getR (pc := 14) (k := 0) (q2 := r) dX4_at_14 cl_X4 hp rfl (by decide) lk_X4_19 ?_
      refine go_alen (pc := 17) (v := (Int32.ofNat n0)) dX4_at_17 hr rfl ?_
      refine go_icmp_ge (pc := 18) (tgt := 30) dX4_at_18 (by decide) (fun c3 => ?_) (fun c3 => ?_)
      · rw [if_pos c3] at h
        refine go_iconst (pc := 30) (v := (-1 : Int32)) dX4_at_30 (by decide) ?_
        obtain rfl := Option.some.inj h
        exact go_iret (pc := 31) .int dX4_at_31 rfl rfl ⟨rfl, rfl⟩
      · rw [if_neg c3] at h
        refine go_aload_n (pc := 21) dX4_at_21 rfl rfl ?_
        refine go_getR (pc := 22) (k := 0) (q2 := r) dX4_at_22 cl_X4 hp rfl (by decide) lk_X4_19 ?_
        refine go_iload_n (pc := 25) dX4_at_25 rfl rfl ?_
        obtain ⟨hi4, h⟩ := fm_chk h
        refine go_iald (pc := 26) dX4_at_26 hr (fm_in_vp hi4) ?_
        refine go_goto (pc := 27) (tgt := 31) dX4_at_27 (by decide) ?_
        obtain rfl := Option.some.inj h
        exact go_iret (pc := 31) .int dX4_at_31 rfl rfl ⟨rfl, rfl⟩
def f_X4_size (p : Nat) (r : Nat) (n0 : Nat) (m : fm_M) : Option (Int32) :=
  some (m p 1)
set_option maxRecDepth 100000 in
set_option maxHeartbeats 4000000 in
theorem c_X4_size {lay : List fm_L} {p r n0 : Nat} (hp : lay[p]? = some (.inr (4, [some (some r), none]))) (hr : lay[r]? = some (.inl (0, n0))) (m : fm_M) {res : Int32} (h : f_X4_size p r n0 m = some res) : fm_Met lay 0 m_X4_size [.ref p] m (fm_pi res m) := by
  refine fm_Met_of (ls := [some (.ref p)]) (by decide) rfl (fm_cc_r _ fm_cc_0) (Nat.le_of_ble_eq_true rfl) rfl ?_
  unfold f_X4_size at h
  refine go_aload_n (pc := 0) dX4_size_0 rfl rfl ?_
  refine go_getI (pc := 1) (k := 1) dX4_size_1 cl_X4 hp rfl (by decide) lk_X4_7 ?_
  obtain rfl := Option.some.inj h
  exact go_iret (pc := 4) .int dX4_size_4 rfl rfl ⟨rfl, rfl⟩
def f_X4_clear (p : Nat) (r : Nat) (n0 : Nat) (m : fm_M) : Option (fm_M) :=
  some (fm_put m p 1 (0 : Int32))
set_option maxRecDepth 100000 in
set_option maxHeartbeats 4000000 in
theorem c_X4_clear {lay : List fm_L} {p r n0 : Nat} (hp : lay[p]? = some (.inr (4, [some (some r), none]))) (hr : lay[r]? = some (.inl (0, n0))) (m : fm_M) {res : fm_M} (h : f_X4_clear p r n0 m = some res) : fm_Met lay 0 m_X4_clear [.ref p] m (fm_pv res) := by
  refine fm_Met_of (ls := [some (.ref p)]) (by decide) rfl (fm_cc_r _ fm_cc_0) (Nat.le_of_ble_eq_true rfl) rfl ?_
  unfold f_X4_clear at h
  refine go_aload_n (pc := 0) dX4_clear_0 rfl rfl ?_
  refine go_iconst (pc := 1) (v := (0 : Int32)) dX4_clear_1 (by decide) ?_
  refine go_put (pc := 2) (k := 1) .int dX4_clear_2 cl_X4 hp rfl (by decide) lk_X4_7 rfl (by decide +kernel) rfl rfl ?_
  obtain rfl := Option.some.inj h
  exact go_vret (pc := 5) dX4_clear_5 rfl ⟨rfl, rfl⟩
def f_X4_add (p : Nat) (r : Nat) (n0 : Nat) (x1 : Int32) (m : fm_M) : Option (fm_M) :=
  if (m p 1) < 0 then (some m) else (if (Int32.ofNat n0) ≤ (m p 1) then (some m) else (if fm_in (m p 1) n0 = true then (some (fm_put (fm_put m r (m p 1).toNatClampNeg x1) p 1 (((fm_put m r (m p 1).toNatClampNeg x1) p 1) + (1 : Int32)))) else none))
set_option maxRecDepth 100000 in
set_option maxHeartbeats 4000000 in
theorem c_X4_add {lay : List fm_L} {p r n0 : Nat} (hp : lay[p]? = some (.inr (4, [some (some r), none]))) (hr : lay[r]? = some (.inl (0, n0))) (x1 : Int32) (m : fm_M) {res : fm_M} (h : f_X4_add p r n0 x1 m = some res) : fm_Met lay 0 m_X4_add [.ref p, .int x1] m (fm_pv res) := by
  refine fm_Met_of (ls := [some (.ref p), some (.int x1)]) (by decide) rfl (fm_cc_r _ (fm_cc_i _ fm_cc_0)) (Nat.le_of_ble_eq_true rfl) rfl ?_
  unfold f_X4_add at h
  refine go_aload_n (pc := 0) dX4_add_0 rfl rfl ?_
  refine go_getI (pc := 1) (k := 1) dX4_add_1 cl_X4 hp rfl (by decide) lk_X4_7 ?_
  refine go_if_lt (pc := 4) (tgt := 39) dX4_add_4 (by decide) (fun c1 => ?_) (fun c1 => ?_)
  · rw [if_pos c1] at h
    obtain rfl := Option.some.inj h
    exact go_vret (pc := 39) dX4_add_39 rfl ⟨rfl, rfl⟩
  · rw [if_neg c1] at h
    refine go_aload_n (pc := 7) dX4_add_7 rfl rfl ?_
    refine go_getI (pc := 8) (k := 1) dX4_add_8 cl_X4 hp rfl (by decide) lk_X4_7 ?_
    refine go_aload_n (pc := 11) dX4_add_11 rfl rfl ?_
    refine go_getR (pc := 12) (k := 0) (q2 := r) dX4_add_12 cl_X4 hp rfl (by decide) lk_X4_19 ?_
    refine go_alen (pc := 15) (v := (Int32.ofNat n0)) dX4_add_15 hr rfl ?_
    refine go_icmp_ge (pc := 16) (tgt := 39) dX4_add_16 (by decide) (fun c2 => ?_) (fun c2 => ?_)
    · rw [if_pos c2] at h
      obtain rfl := Option.some.inj h
      exact go_vret (pc := 39) dX4_add_39 rfl ⟨rfl, rfl⟩
    · rw [if_neg c2] at h
      refine go_aload_n (pc := 19) dX4_add_19 rfl rfl ?_
      refine go_getR (pc := 20) (k := 0) (q2 := r) dX4_add_20 cl_X4 hp rfl (by decide) lk_X4_19 ?_
      refine go_aload_n (pc := 23) dX4_add_23 rfl rfl ?_
      refine go_getI (pc := 24) (k := 1) dX4_add_24 cl_X4 hp rfl (by decide) lk_X4_7 ?_
      refine go_iload_n (pc := 27) dX4_add_27 rfl rfl ?_
      obtain ⟨hi3, h⟩ := fm_chk h
      refine go_iast (pc := 28) dX4_add_28 hr (fm_in_vp hi3) ?_
      refine go_aload_n (pc := 29) dX4_add_29 rfl rfl ?_
      refine go_dup (pc := 30) dX4_add_30 rfl ?_
      refine go_getI (pc := 31) (k := 1) dX4_add_31 cl_X4 hp rfl (by decide) lk_X4_7 ?_
      refine go_iconst (pc := 34) (v := (1 : Int32)) dX4_add_34 (by decide) ?_
      refine go_iadd (pc := 35) dX4_add_35 ?_
      refine go_put (pc := 36) (k := 1) .int dX4_add_36 cl_X4 hp rfl (by decide) lk_X4_7 rfl (by decide +kernel) rfl rfl ?_
      obtain rfl := Option.some.inj h
      exact go_vret (pc := 39) dX4_add_39 rfl ⟨rfl, rfl⟩

def f_X3_withPlace_L27 (p : Nat) (r : Nat) : Nat → Int32 → Int32 → Int32 → Int32 → Int32 → fm_M → Option (Int32)
  | 0, _, _, _, _, _, _ => none
  | n + 1, y1, y2, y3, y5, y6, m => if y5 ≤ y6 then (some y3) else (if fm_in y6 16 = true then (if fm_in y2 16 = true then (if (m r y6.toNatClampNeg) ≤ (m r y2.toNatClampNeg) then (f_X3_withPlace_L27 p r n y1 y2 y3 y5 (y6 + (1 : Int32)) m) else (f_X3_withPlace_L27 p r n y1 y2 (y3 + (1 : Int32)) y5 (y6 + (1 : Int32)) m)) else none) else none)
def f_X3_withPlace_L2 (p : Nat) (r : Nat) : Nat → Int32 → Int32 → fm_M → Option (Int32)
  | 0, _, _, _ => none
  | n + 1, y1, y2, m => if (16 : Int32) ≤ y2 then (some (-11 : Int32)) else ((f_X3_withPlace_L27 p r fm_F y1 y2 (0 : Int32) (16 : Int32) (0 : Int32) m).bind fun e6 => if fm_in y2 16 = true then (if (m r y2.toNatClampNeg) < 0 then (f_X3_withPlace_L2 p r n y1 (y2 + (1 : Int32)) m) else (if e6 = y1 then (some y2) else (f_X3_withPlace_L2 p r n y1 (y2 + (1 : Int32)) m))) else none)
def f_X3_withPlace (p : Nat) (r : Nat) (x1 : Int32) (m : fm_M) : Option (Int32) :=
  f_X3_withPlace_L2 p r fm_F x1 (0 : Int32) m
set_option maxRecDepth 100000 in
set_option maxHeartbeats 4000000 in
theorem c_X3_withPlace_L27 {lay : List fm_L} {p r : Nat} (hp : lay[p]? = some (.inr (3, [some (some r)]))) (hr : lay[r]? = some (.inl (0, 16))) {Post : Option Value → fm_M → Prop} : ∀ (n : Nat) (y1 : Int32) (y2 : Int32) (y3 : Int32) (y5 : Int32) (y6 : Int32) (m : fm_M) (e : Int32), f_X3_withPlace_L27 p r n y1 y2 y3 y5 y6 m = some e → fm_Go lay 0 m_X3_withPlace Post 61 [some (.ref p), some (.int y1), some (.int y2), some (.int e), none, none, none, none] [] m → fm_Go lay 0 m_X3_withPlace Post 27 [some (.ref p), some (.int y1), some (.int y2), some (.int y3), some (.ref r), some (.int y5), some (.int y6), none] [] m := by
  intro n
  induction n with
  | zero => intro y1 y2 y3 y5 y6 m e h hk; cases h
  | succ n ih =>
    intro y1 y2 y3 y5 y6 m e h hk
    rw [f_X3_withPlace_L27] at h
    refine go_iload (pc := 27) dX3_withPlace_27 rfl ?_
    refine go_iload (pc := 29) dX3_withPlace_29 rfl ?_
    refine go_icmp_ge (pc := 31) (tgt := 61) dX3_withPlace_31 (by decide) (fun c2 => ?_) (fun c2 => ?_)
    · rw [if_pos c2] at h
      refine go_drop 4 (ls1 := [some (.ref p), some (.int y1), some (.int y2), some (.int y3), none, some (.int y5), some (.int y6), none]) rfl ?_
      refine go_drop 5 (ls1 := [some (.ref p), some (.int y1), some (.int y2), some (.int y3), none, none, some (.int y6), none]) rfl ?_
      refine go_drop 6 (ls1 := [some (.ref p), some (.int y1), some (.int y2), some (.int y3), none, none, none, none]) rfl ?_
      obtain rfl := Option.some.inj h
      exact hk
    · rw [if_neg c2] at h
      refine go_aload (pc := 34) dX3_withPlace_34 rfl ?_
      refine go_iload (pc := 36) dX3_withPlace_36 rfl ?_
      obtain ⟨hi3, h⟩ := fm_chk h
      refine go_iald (pc := 38) dX3_withPlace_38 hr (fm_in_vp hi3) ?_
      refine go_istore (pc := 39) (ls1 := [some (.ref p), some (.int y1), some (.int y2), some (.int y3), some (.ref r), some (.int y5), some (.int y6), some (.int (m r y6.toNatClampNeg))]) dX3_withPlace_39 (by decide) rfl ?_
      refine go_iload (pc := 41) dX3_withPlace_41 rfl ?_
      refine go_aload_n (pc := 43) dX3_withPlace_43 rfl rfl ?_
      refine go_getR (pc := 44) (k := 0) (q2 := r) dX3_withPlace_44 cl_X3 hp rfl (by decide) lk_X3_9 ?_
      refine go_iload_n (pc := 47) dX3_withPlace_47 rfl rfl ?_
      obtain ⟨hi4, h⟩ := fm_chk h
      refine go_iald (pc := 48) dX3_withPlace_48 hr (fm_in_vp hi4) ?_
      refine go_icmp_le (pc := 49) (tgt := 55) dX3_withPlace_49 (by decide) (fun c5 => ?_) (fun c5 => ?_)
      · rw [if_pos c5] at h
        refine go_iinc (pc := 55) (v := (y6 + (1 : Int32))) (ls1 := [some (.ref p), some (.int y1), some (.int y2), some (.int y3), some (.ref r), some (.int y5), some (.int (y6 + (1 : Int32))), some (.int (m r y6.toNatClampNeg))]) dX3_withPlace_55 rfl rfl (Nat.le_of_ble_eq_true rfl) rfl ?_
        refine go_goto (pc := 58) (tgt := 27) dX3_withPlace_58 (by decide) ?_
        refine go_drop 7 (ls1 := [some (.ref p), some (.int y1), some (.int y2), some (.int y3), some (.ref r), some (.int y5), some (.int (y6 + (1 : Int32))), none]) rfl ?_
        exact ih _ _ _ _ _ _ _ h hk
      · rw [if_neg c5] at h
        refine go_iinc (pc := 52) (v := (y3 + (1 : Int32))) (ls1 := [some (.ref p), some (.int y1), some (.int y2), some (.int (y3 + (1 : Int32))), some (.ref r), some (.int y5), some (.int y6), some (.int (m r y6.toNatClampNeg))]) dX3_withPlace_52 rfl rfl (Nat.le_of_ble_eq_true rfl) rfl ?_
        refine go_iinc (pc := 55) (v := (y6 + (1 : Int32))) (ls1 := [some (.ref p), some (.int y1), some (.int y2), some (.int (y3 + (1 : Int32))), some (.ref r), some (.int y5), some (.int (y6 + (1 : Int32))), some (.int (m r y6.toNatClampNeg))]) dX3_withPlace_55 rfl rfl (Nat.le_of_ble_eq_true rfl) rfl ?_
        refine go_goto (pc := 58) (tgt := 27) dX3_withPlace_58 (by decide) ?_
        refine go_drop 7 (ls1 := [some (.ref p), some (.int y1), some (.int y2), some (.int (y3 + (1 : Int32))), some (.ref r), some (.int y5), some (.int (y6 + (1 : Int32))), none]) rfl ?_
        exact ih _ _ _ _ _ _ _ h hk
set_option maxRecDepth 100000 in
set_option maxHeartbeats 4000000 in
theorem c_X3_withPlace_L2 {lay : List fm_L} {p r : Nat} (hp : lay[p]? = some (.inr (3, [some (some r)]))) (hr : lay[r]? = some (.inl (0, 16))) : ∀ (n : Nat) (y1 : Int32) (y2 : Int32) (m : fm_M) (res : Int32), f_X3_withPlace_L2 p r n y1 y2 m = some res → fm_Go lay 0 m_X3_withPlace (fm_pi res m) 2 [some (.ref p), some (.int y1), some (.int y2), none, none, none, none, none] [] m := by
  intro n
  induction n with
  | zero => intro y1 y2 m res h; cases h
  | succ n ih =>
    intro y1 y2 m res h
    rw [f_X3_withPlace_L2] at h
    refine go_iload_n (pc := 2) dX3_withPlace_2 rfl rfl ?_
    refine go_aload_n (pc := 3) dX3_withPlace_3 rfl rfl ?_
    refine go_getR (pc := 4) (k := 0) (q2 := r) dX3_withPlace_4 cl_X3 hp rfl (by decide) lk_X3_9 ?_
    refine go_alen (pc := 7) (v := (16 : Int32)) dX3_withPlace_7 hr (by decide) ?_
    refine go_icmp_ge (pc := 8) (tgt := 83) dX3_withPlace_8 (by decide) (fun c1 => ?_) (fun c1 => ?_)
    · rw [if_pos c1] at h
      refine go_bipush (pc := 83) (v := (-11 : Int32)) dX3_withPlace_83 (by decide) ?_
      obtain rfl := Option.some.inj h
      exact go_iret (pc := 85) .int dX3_withPlace_85 rfl rfl ⟨rfl, rfl⟩
    · rw [if_neg c1] at h
      refine go_iconst (pc := 11) (v := (0 : Int32)) dX3_withPlace_11 (by decide) ?_
      refine go_istore_n (pc := 12) (ls1 := [some (.ref p), some (.int y1), some (.int y2), some (.int (0 : Int32)), none, none, none, none]) dX3_withPlace_12 rfl (by decide) rfl ?_
      refine go_aload_n (pc := 13) dX3_withPlace_13 rfl rfl ?_
      refine go_getR (pc := 14) (k := 0) (q2 := r) dX3_withPlace_14 cl_X3 hp rfl (by decide) lk_X3_9 ?_
      refine go_astore (pc := 17) (ls1 := [some (.ref p), some (.int y1), some (.int y2), some (.int (0 : Int32)), some (.ref r), none, none, none]) dX3_withPlace_17 (by decide) rfl ?_
      refine go_aload (pc := 19) dX3_withPlace_19 rfl ?_
      refine go_alen (pc := 21) (v := (16 : Int32)) dX3_withPlace_21 hr (by decide) ?_
      refine go_istore (pc := 22) (ls1 := [some (.ref p), some (.int y1), some (.int y2), some (.int (0 : Int32)), some (.ref r), some (.int (16 : Int32)), none, none]) dX3_withPlace_22 (by decide) rfl ?_
      refine go_iconst (pc := 24) (v := (0 : Int32)) dX3_withPlace_24 (by decide) ?_
      refine go_istore (pc := 25) (ls1 := [some (.ref p), some (.int y1), some (.int y2), some (.int (0 : Int32)), some (.ref r), some (.int (16 : Int32)), some (.int (0 : Int32)), none]) dX3_withPlace_25 (by decide) rfl ?_
      obtain ⟨e6, he7, h⟩ := fm_bind h
      refine c_X3_withPlace_L27 hp hr fm_F _ _ _ _ _ _ e6 he7 ?_
      refine go_aload_n (pc := 61) dX3_withPlace_61 rfl rfl ?_
      refine go_getR (pc := 62) (k := 0) (q2 := r) dX3_withPlace_62 cl_X3 hp rfl (by decide) lk_X3_9 ?_
      refine go_iload_n (pc := 65) dX3_withPlace_65 rfl rfl ?_
      obtain ⟨hi8, h⟩ := fm_chk h
      refine go_iald (pc := 66) dX3_withPlace_66 hr (fm_in_vp hi8) ?_
      refine go_if_lt (pc := 67) (tgt := 77) dX3_withPlace_67 (by decide) (fun c9 => ?_) (fun c9 => ?_)
      · rw [if_pos c9] at h
        refine go_iinc (pc := 77) (v := (y2 + (1 : Int32))) (ls1 := [some (.ref p), some (.int y1), some (.int (y2 + (1 : Int32))), some (.int e6), none, none, none, none]) dX3_withPlace_77 rfl rfl (Nat.le_of_ble_eq_true rfl) rfl ?_
        refine go_goto (pc := 80) (tgt := 2) dX3_withPlace_80 (by decide) ?_
        refine go_drop 3 (ls1 := [some (.ref p), some (.int y1), some (.int (y2 + (1 : Int32))), none, none, none, none, none]) rfl ?_
        exact ih _ _ _ _ h
      · rw [if_neg c9] at h
        refine go_iload_n (pc := 70) dX3_withPlace_70 rfl rfl ?_
        refine go_iload_n (pc := 71) dX3_withPlace_71 rfl rfl ?_
        refine go_icmp_ne (pc := 72) (tgt := 77) dX3_withPlace_72 (by decide) (fun c10 => ?_) (fun c10 => ?_)
        · rw [if_neg c10] at h
          refine go_iinc (pc := 77) (v := (y2 + (1 : Int32))) (ls1 := [some (.ref p), some (.int y1), some (.int (y2 + (1 : Int32))), some (.int e6), none, none, none, none]) dX3_withPlace_77 rfl rfl (Nat.le_of_ble_eq_true rfl) rfl ?_
          refine go_goto (pc := 80) (tgt := 2) dX3_withPlace_80 (by decide) ?_
          refine go_drop 3 (ls1 := [some (.ref p), some (.int y1), some (.int (y2 + (1 : Int32))), none, none, none, none, none]) rfl ?_
          exact ih _ _ _ _ h
        · rw [if_pos c10] at h
          refine go_iload_n (pc := 75) dX3_withPlace_75 rfl rfl ?_
          obtain rfl := Option.some.inj h
          exact go_iret (pc := 76) .int dX3_withPlace_76 rfl rfl ⟨rfl, rfl⟩
set_option maxRecDepth 100000 in
set_option maxHeartbeats 4000000 in
theorem c_X3_withPlace {lay : List fm_L} {p r : Nat} (hp : lay[p]? = some (.inr (3, [some (some r)]))) (hr : lay[r]? = some (.inl (0, 16))) (x1 : Int32) (m : fm_M) {res : Int32} (h : f_X3_withPlace p r x1 m = some res) : fm_Met lay 0 m_X3_withPlace [.ref p, .int x1] m (fm_pi res m) := by
  refine fm_Met_of (ls := [some (.ref p), some (.int x1), none, none, none, none, none, none]) (by decide) rfl (fm_cc_r _ (fm_cc_i _ fm_cc_0)) (Nat.le_of_ble_eq_true rfl) rfl ?_
  unfold f_X3_withPlace at h
  refine go_iconst (pc := 0) (v := (0 : Int32)) dX3_withPlace_0 (by decide) ?_
  refine go_istore_n (pc := 1) (ls1 := [some (.ref p), some (.int x1), some (.int (0 : Int32)), none, none, none, none, none]) dX3_withPlace_1 rfl (by decide) rfl ?_
  exact c_X3_withPlace_L2 hp hr fm_F _ _ _ _ h
def f_X3_byVoices_L2 (p : Nat) (r : Nat) (p2 : Nat) (r2 : Nat) : Nat → Int32 → Int32 → fm_M → Option (Int32 × fm_M)
  | 0, _, _, _ => none
  | n + 1, y2, y3, m => if (16 : Int32) ≤ y3 then ((f_X3_withPlace p r y2 m).bind fun v2 => some (v2, m)) else ((f_X5_of p2 r2 (2 : Int32) y3 m).bind fun v4 => if v4 = 0 then ((f_X5_voicesFor p2 r2 y3 m).bind fun v10 => if fm_in y3 16 = true then (f_X3_byVoices_L2 p r p2 r2 n y2 (y3 + (1 : Int32)) (fm_put m r y3.toNatClampNeg ((((v10 * (16 : Int32)) + (16 : Int32)) - (1 : Int32)) - y3))) else none) else (if fm_in y3 16 = true then (f_X3_byVoices_L2 p r p2 r2 n y2 (y3 + (1 : Int32)) (fm_put m r y3.toNatClampNeg (-1 : Int32))) else none))
def f_X3_byVoices (p : Nat) (r : Nat) (p2 : Nat) (r2 : Nat) (x2 : Int32) (m : fm_M) : Option (Int32 × fm_M) :=
  f_X3_byVoices_L2 p r p2 r2 fm_F x2 (0 : Int32) m
set_option maxRecDepth 100000 in
set_option maxHeartbeats 4000000 in
theorem c_X3_byVoices_L2 {lay : List fm_L} {p r p2 r2 : Nat} (hp : lay[p]? = some (.inr (3, [some (some r)]))) (hr : lay[r]? = some (.inl (0, 16))) (hp2 : lay[p2]? = some (.inr (5, [some (some r2)]))) (hr2 : lay[r2]? = some (.inl (0, 294))) : ∀ (n : Nat) (y2 : Int32) (y3 : Int32) (m : fm_M) (res : Int32 × fm_M), f_X3_byVoices_L2 p r p2 r2 n y2 y3 m = some res → fm_Go lay 2 m_X3_byVoices (fm_pi res.1 res.2) 2 [some (.ref p), some (.ref p2), some (.int y2), some (.int y3), none] [] m := by
  intro n
  induction n with
  | zero => intro y2 y3 m res h; cases h
  | succ n ih =>
    intro y2 y3 m res h
    rw [f_X3_byVoices_L2] at h
    refine go_iload_n (pc := 2) dX3_byVoices_2 rfl rfl ?_
    refine go_aload_n (pc := 3) dX3_byVoices_3 rfl rfl ?_
    refine go_getR (pc := 4) (k := 0) (q2 := r) dX3_byVoices_4 cl_X3 hp rfl (by decide) lk_X3_9 ?_
    refine go_alen (pc := 7) (v := (16 : Int32)) dX3_byVoices_7 hr (by decide) ?_
    refine go_icmp_ge (pc := 8) (tgt := 63) dX3_byVoices_8 (by decide) (fun c1 => ?_) (fun c1 => ?_)
    · rw [if_pos c1] at h
      refine go_aload_n (pc := 63) dX3_byVoices_63 rfl rfl ?_
      refine go_iload_n (pc := 64) dX3_byVoices_64 rfl rfl ?_
      obtain ⟨v2, hv3, h⟩ := fm_bind h
      refine go_callVi (pc := 65) (As := [.int y2]) (st := []) dX3_byVoices_65 (c_X3_withPlace (p := p) (r := r) hp hr _ _ hv3) (by decide) ce_X3_withPlace ml_X3_25 in_X3_withPlace se_X3_withPlace cl_X3 hp rfl (Nat.le_of_ble_eq_true rfl) rfl ?_
      obtain rfl := Option.some.inj h
      exact go_iret (pc := 68) .int dX3_byVoices_68 rfl rfl ⟨rfl, rfl⟩
    · rw [if_neg c1] at h
      refine go_aload_n (pc := 11) dX3_byVoices_11 rfl rfl ?_
      refine go_iconst (pc := 12) (v := (2 : Int32)) dX3_byVoices_12 (by decide) ?_
      refine go_iload_n (pc := 13) dX3_byVoices_13 rfl rfl ?_
      obtain ⟨v4, hv5, h⟩ := fm_bind h
      refine go_callVi (pc := 14) (As := [.int (2 : Int32), .int y3]) (st := []) dX3_byVoices_14 (c_X5_of (p := p2) (r := r2) hp2 hr2 _ _ _ hv5) (by decide) ce_X5_of ml_X3_15 in_X5_of se_X5_of cl_X5 hp2 rfl (Nat.le_of_ble_eq_true rfl) rfl ?_
      refine go_if_ne (pc := 17) (tgt := 24) dX3_byVoices_17 (by decide) (fun c6 => ?_) (fun c6 => ?_)
      · rw [if_neg c6] at h
        refine go_iconst (pc := 24) (v := (0 : Int32)) dX3_byVoices_24 (by decide) ?_
        refine go_istore (pc := 25) (ls1 := [some (.ref p), some (.ref p2), some (.int y2), some (.int y3), some (.int (0 : Int32))]) dX3_byVoices_25 (by decide) rfl ?_
        refine go_aload_n (pc := 27) dX3_byVoices_27 rfl rfl ?_
        refine go_getR (pc := 28) (k := 0) (q2 := r) dX3_byVoices_28 cl_X3 hp rfl (by decide) lk_X3_9 ?_
        refine go_iload_n (pc := 31) dX3_byVoices_31 rfl rfl ?_
        refine go_iload (pc := 32) dX3_byVoices_32 rfl ?_
        refine go_if_eq (pc := 34) (tgt := 55) dX3_byVoices_34 (by decide) (fun _ => ?_) (fun c7 => absurd (by decide) c7)
        refine go_iconst (pc := 55) (v := (-1 : Int32)) dX3_byVoices_55 (by decide) ?_
        obtain ⟨hi8, h⟩ := fm_chk h
        refine go_iast (pc := 56) dX3_byVoices_56 hr (fm_in_vp hi8) ?_
        refine go_iinc (pc := 57) (v := (y3 + (1 : Int32))) (ls1 := [some (.ref p), some (.ref p2), some (.int y2), some (.int (y3 + (1 : Int32))), some (.int (0 : Int32))]) dX3_byVoices_57 rfl rfl (Nat.le_of_ble_eq_true rfl) rfl ?_
        refine go_goto (pc := 60) (tgt := 2) dX3_byVoices_60 (by decide) ?_
        refine go_drop 4 (ls1 := [some (.ref p), some (.ref p2), some (.int y2), some (.int (y3 + (1 : Int32))), none]) rfl ?_
        exact ih _ _ _ _ h
      · rw [if_pos c6] at h
        refine go_iconst (pc := 20) (v := (1 : Int32)) dX3_byVoices_20 (by decide) ?_
        refine go_goto (pc := 21) (tgt := 25) dX3_byVoices_21 (by decide) ?_
        refine go_istore (pc := 25) (ls1 := [some (.ref p), some (.ref p2), some (.int y2), some (.int y3), some (.int (1 : Int32))]) dX3_byVoices_25 (by decide) rfl ?_
        refine go_aload_n (pc := 27) dX3_byVoices_27 rfl rfl ?_
        refine go_getR (pc := 28) (k := 0) (q2 := r) dX3_byVoices_28 cl_X3 hp rfl (by decide) lk_X3_9 ?_
        refine go_iload_n (pc := 31) dX3_byVoices_31 rfl rfl ?_
        refine go_iload (pc := 32) dX3_byVoices_32 rfl ?_
        refine go_if_eq (pc := 34) (tgt := 55) dX3_byVoices_34 (by decide) (fun c9 => absurd c9 (by decide)) (fun _ => ?_)
        refine go_aload_n (pc := 37) dX3_byVoices_37 rfl rfl ?_
        refine go_iload_n (pc := 38) dX3_byVoices_38 rfl rfl ?_
        obtain ⟨v10, hv11, h⟩ := fm_bind h
        refine go_callVi (pc := 39) (As := [.int y3]) (st := [.int y3, .ref r]) dX3_byVoices_39 (c_X5_voicesFor (p := p2) (r := r2) hp2 hr2 _ _ hv11) (by decide) ce_X5_voicesFor ml_X3_21 in_X5_voicesFor se_X5_voicesFor cl_X5 hp2 rfl (Nat.le_of_ble_eq_true rfl) rfl ?_
        refine go_bipush (pc := 42) (v := (16 : Int32)) dX3_byVoices_42 (by decide) ?_
        refine go_imul (pc := 44) dX3_byVoices_44 ?_
        refine go_bipush (pc := 45) (v := (16 : Int32)) dX3_byVoices_45 (by decide) ?_
        refine go_iadd (pc := 47) dX3_byVoices_47 ?_
        refine go_iconst (pc := 48) (v := (1 : Int32)) dX3_byVoices_48 (by decide) ?_
        refine go_isub (pc := 49) dX3_byVoices_49 ?_
        refine go_iload_n (pc := 50) dX3_byVoices_50 rfl rfl ?_
        refine go_isub (pc := 51) dX3_byVoices_51 ?_
        refine go_goto (pc := 52) (tgt := 56) dX3_byVoices_52 (by decide) ?_
        obtain ⟨hi12, h⟩ := fm_chk h
        refine go_iast (pc := 56) dX3_byVoices_56 hr (fm_in_vp hi12) ?_
        refine go_iinc (pc := 57) (v := (y3 + (1 : Int32))) (ls1 := [some (.ref p), some (.ref p2), some (.int y2), some (.int (y3 + (1 : Int32))), some (.int (1 : Int32))]) dX3_byVoices_57 rfl rfl (Nat.le_of_ble_eq_true rfl) rfl ?_
        refine go_goto (pc := 60) (tgt := 2) dX3_byVoices_60 (by decide) ?_
        refine go_drop 4 (ls1 := [some (.ref p), some (.ref p2), some (.int y2), some (.int (y3 + (1 : Int32))), none]) rfl ?_
        exact ih _ _ _ _ h
set_option maxRecDepth 100000 in
set_option maxHeartbeats 4000000 in
theorem c_X3_byVoices {lay : List fm_L} {p r p2 r2 : Nat} (hp : lay[p]? = some (.inr (3, [some (some r)]))) (hr : lay[r]? = some (.inl (0, 16))) (hp2 : lay[p2]? = some (.inr (5, [some (some r2)]))) (hr2 : lay[r2]? = some (.inl (0, 294))) (x2 : Int32) (m : fm_M) {res : Int32 × fm_M} (h : f_X3_byVoices p r p2 r2 x2 m = some res) : fm_Met lay 2 m_X3_byVoices [.ref p, .ref p2, .int x2] m (fm_pi res.1 res.2) := by
  refine fm_Met_of (ls := [some (.ref p), some (.ref p2), some (.int x2), none, none]) (by decide) rfl (fm_cc_r _ (fm_cc_r _ (fm_cc_i _ fm_cc_0))) (Nat.le_of_ble_eq_true rfl) rfl ?_
  unfold f_X3_byVoices at h
  refine go_iconst (pc := 0) (v := (0 : Int32)) dX3_byVoices_0 (by decide) ?_
  refine go_istore_n (pc := 1) (ls1 := [some (.ref p), some (.ref p2), some (.int x2), some (.int (0 : Int32)), none]) dX3_byVoices_1 rfl (by decide) rfl ?_
  exact c_X3_byVoices_L2 hp hr hp2 hr2 fm_F _ _ _ _ h
def f_X3_byGown_L2 (p : Nat) (r : Nat) (p2 : Nat) (r2 : Nat) : Nat → Int32 → Int32 → fm_M → Option (Int32 × fm_M)
  | 0, _, _, _ => none
  | n + 1, y2, y3, m => if (16 : Int32) ≤ y3 then ((f_X3_withPlace p r y2 m).bind fun v2 => some (v2, m)) else ((f_X5_of p2 r2 (2 : Int32) y3 m).bind fun v4 => if v4 = (1 : Int32) then ((f_X5_of p2 r2 (4 : Int32) y3 m).bind fun v10 => (f_X5_of p2 r2 (8 : Int32) y3 m).bind fun v12 => if fm_in y3 16 = true then (f_X3_byGown_L2 p r p2 r2 n y2 (y3 + (1 : Int32)) (fm_put m r y3.toNatClampNeg ((((v10 + (1 : Int32)) * (16 : Int32)) - (1 : Int32)) - v12))) else none) else (if fm_in y3 16 = true then (f_X3_byGown_L2 p r p2 r2 n y2 (y3 + (1 : Int32)) (fm_put m r y3.toNatClampNeg (-1 : Int32))) else none))
def f_X3_byGown (p : Nat) (r : Nat) (p2 : Nat) (r2 : Nat) (x2 : Int32) (m : fm_M) : Option (Int32 × fm_M) :=
  f_X3_byGown_L2 p r p2 r2 fm_F x2 (0 : Int32) m
set_option maxRecDepth 100000 in
set_option maxHeartbeats 4000000 in
theorem c_X3_byGown_L2 {lay : List fm_L} {p r p2 r2 : Nat} (hp : lay[p]? = some (.inr (3, [some (some r)]))) (hr : lay[r]? = some (.inl (0, 16))) (hp2 : lay[p2]? = some (.inr (5, [some (some r2)]))) (hr2 : lay[r2]? = some (.inl (0, 294))) : ∀ (n : Nat) (y2 : Int32) (y3 : Int32) (m : fm_M) (res : Int32 × fm_M), f_X3_byGown_L2 p r p2 r2 n y2 y3 m = some res → fm_Go lay 1 m_X3_byGown (fm_pi res.1 res.2) 2 [some (.ref p), some (.ref p2), some (.int y2), some (.int y3), none] [] m := by
  intro n
  induction n with
  | zero => intro y2 y3 m res h; cases h
  | succ n ih =>
    intro y2 y3 m res h
    rw [f_X3_byGown_L2] at h
    refine go_iload_n (pc := 2) dX3_byGown_2 rfl rfl ?_
    refine go_aload_n (pc := 3) dX3_byGown_3 rfl rfl ?_
    refine go_getR (pc := 4) (k := 0) (q2 := r) dX3_byGown_4 cl_X3 hp rfl (by decide) lk_X3_9 ?_
    refine go_alen (pc := 7) (v := (16 : Int32)) dX3_byGown_7 hr (by decide) ?_
    refine go_icmp_ge (pc := 8) (tgt := 70) dX3_byGown_8 (by decide) (fun c1 => ?_) (fun c1 => ?_)
    · rw [if_pos c1] at h
      refine go_aload_n (pc := 70) dX3_byGown_70 rfl rfl ?_
      refine go_iload_n (pc := 71) dX3_byGown_71 rfl rfl ?_
      obtain ⟨v2, hv3, h⟩ := fm_bind h
      refine go_callVi (pc := 72) (As := [.int y2]) (st := []) dX3_byGown_72 (c_X3_withPlace (p := p) (r := r) hp hr _ _ hv3) (by decide) ce_X3_withPlace ml_X3_25 in_X3_withPlace se_X3_withPlace cl_X3 hp rfl (Nat.le_of_ble_eq_true rfl) rfl ?_
      obtain rfl := Option.some.inj h
      exact go_iret (pc := 75) .int dX3_byGown_75 rfl rfl ⟨rfl, rfl⟩
    · rw [if_neg c1] at h
      refine go_aload_n (pc := 11) dX3_byGown_11 rfl rfl ?_
      refine go_iconst (pc := 12) (v := (2 : Int32)) dX3_byGown_12 (by decide) ?_
      refine go_iload_n (pc := 13) dX3_byGown_13 rfl rfl ?_
      obtain ⟨v4, hv5, h⟩ := fm_bind h
      refine go_callVi (pc := 14) (As := [.int (2 : Int32), .int y3]) (st := []) dX3_byGown_14 (c_X5_of (p := p2) (r := r2) hp2 hr2 _ _ _ hv5) (by decide) ce_X5_of ml_X3_15 in_X5_of se_X5_of cl_X5 hp2 rfl (Nat.le_of_ble_eq_true rfl) rfl ?_
      refine go_iconst (pc := 17) (v := (1 : Int32)) dX3_byGown_17 (by decide) ?_
      refine go_icmp_ne (pc := 18) (tgt := 25) dX3_byGown_18 (by decide) (fun c6 => ?_) (fun c6 => ?_)
      · rw [if_neg c6] at h
        refine go_iconst (pc := 25) (v := (0 : Int32)) dX3_byGown_25 (by decide) ?_
        refine go_istore (pc := 26) (ls1 := [some (.ref p), some (.ref p2), some (.int y2), some (.int y3), some (.int (0 : Int32))]) dX3_byGown_26 (by decide) rfl ?_
        refine go_aload_n (pc := 28) dX3_byGown_28 rfl rfl ?_
        refine go_getR (pc := 29) (k := 0) (q2 := r) dX3_byGown_29 cl_X3 hp rfl (by decide) lk_X3_9 ?_
        refine go_iload_n (pc := 32) dX3_byGown_32 rfl rfl ?_
        refine go_iload (pc := 33) dX3_byGown_33 rfl ?_
        refine go_if_eq (pc := 35) (tgt := 62) dX3_byGown_35 (by decide) (fun _ => ?_) (fun c7 => absurd (by decide) c7)
        refine go_iconst (pc := 62) (v := (-1 : Int32)) dX3_byGown_62 (by decide) ?_
        obtain ⟨hi8, h⟩ := fm_chk h
        refine go_iast (pc := 63) dX3_byGown_63 hr (fm_in_vp hi8) ?_
        refine go_iinc (pc := 64) (v := (y3 + (1 : Int32))) (ls1 := [some (.ref p), some (.ref p2), some (.int y2), some (.int (y3 + (1 : Int32))), some (.int (0 : Int32))]) dX3_byGown_64 rfl rfl (Nat.le_of_ble_eq_true rfl) rfl ?_
        refine go_goto (pc := 67) (tgt := 2) dX3_byGown_67 (by decide) ?_
        refine go_drop 4 (ls1 := [some (.ref p), some (.ref p2), some (.int y2), some (.int (y3 + (1 : Int32))), none]) rfl ?_
        exact ih _ _ _ _ h
      · rw [if_pos c6] at h
        refine go_iconst (pc := 21) (v := (1 : Int32)) dX3_byGown_21 (by decide) ?_
        refine go_goto (pc := 22) (tgt := 26) dX3_byGown_22 (by decide) ?_
        refine go_istore (pc := 26) (ls1 := [some (.ref p), some (.ref p2), some (.int y2), some (.int y3), some (.int (1 : Int32))]) dX3_byGown_26 (by decide) rfl ?_
        refine go_aload_n (pc := 28) dX3_byGown_28 rfl rfl ?_
        refine go_getR (pc := 29) (k := 0) (q2 := r) dX3_byGown_29 cl_X3 hp rfl (by decide) lk_X3_9 ?_
        refine go_iload_n (pc := 32) dX3_byGown_32 rfl rfl ?_
        refine go_iload (pc := 33) dX3_byGown_33 rfl ?_
        refine go_if_eq (pc := 35) (tgt := 62) dX3_byGown_35 (by decide) (fun c9 => absurd c9 (by decide)) (fun _ => ?_)
        refine go_aload_n (pc := 38) dX3_byGown_38 rfl rfl ?_
        refine go_iconst (pc := 39) (v := (4 : Int32)) dX3_byGown_39 (by decide) ?_
        refine go_iload_n (pc := 40) dX3_byGown_40 rfl rfl ?_
        obtain ⟨v10, hv11, h⟩ := fm_bind h
        refine go_callVi (pc := 41) (As := [.int (4 : Int32), .int y3]) (st := [.int y3, .ref r]) dX3_byGown_41 (c_X5_of (p := p2) (r := r2) hp2 hr2 _ _ _ hv11) (by decide) ce_X5_of ml_X3_15 in_X5_of se_X5_of cl_X5 hp2 rfl (Nat.le_of_ble_eq_true rfl) rfl ?_
        refine go_iconst (pc := 44) (v := (1 : Int32)) dX3_byGown_44 (by decide) ?_
        refine go_iadd (pc := 45) dX3_byGown_45 ?_
        refine go_bipush (pc := 46) (v := (16 : Int32)) dX3_byGown_46 (by decide) ?_
        refine go_imul (pc := 48) dX3_byGown_48 ?_
        refine go_iconst (pc := 49) (v := (1 : Int32)) dX3_byGown_49 (by decide) ?_
        refine go_isub (pc := 50) dX3_byGown_50 ?_
        refine go_aload_n (pc := 51) dX3_byGown_51 rfl rfl ?_
        refine go_bipush (pc := 52) (v := (8 : Int32)) dX3_byGown_52 (by decide) ?_
        refine go_iload_n (pc := 54) dX3_byGown_54 rfl rfl ?_
        obtain ⟨v12, hv13, h⟩ := fm_bind h
        refine go_callVi (pc := 55) (As := [.int (8 : Int32), .int y3]) (st := [.int (((v10 + (1 : Int32)) * (16 : Int32)) - (1 : Int32)), .int y3, .ref r]) dX3_byGown_55 (c_X5_of (p := p2) (r := r2) hp2 hr2 _ _ _ hv13) (by decide) ce_X5_of ml_X3_15 in_X5_of se_X5_of cl_X5 hp2 rfl (Nat.le_of_ble_eq_true rfl) rfl ?_
        refine go_isub (pc := 58) dX3_byGown_58 ?_
        refine go_goto (pc := 59) (tgt := 63) dX3_byGown_59 (by decide) ?_
        obtain ⟨hi14, h⟩ := fm_chk h
        refine go_iast (pc := 63) dX3_byGown_63 hr (fm_in_vp hi14) ?_
        refine go_iinc (pc := 64) (v := (y3 + (1 : Int32))) (ls1 := [some (.ref p), some (.ref p2), some (.int y2), some (.int (y3 + (1 : Int32))), some (.int (1 : Int32))]) dX3_byGown_64 rfl rfl (Nat.le_of_ble_eq_true rfl) rfl ?_
        refine go_goto (pc := 67) (tgt := 2) dX3_byGown_67 (by decide) ?_
        refine go_drop 4 (ls1 := [some (.ref p), some (.ref p2), some (.int y2), some (.int (y3 + (1 : Int32))), none]) rfl ?_
        exact ih _ _ _ _ h
set_option maxRecDepth 100000 in
set_option maxHeartbeats 4000000 in
theorem c_X3_byGown {lay : List fm_L} {p r p2 r2 : Nat} (hp : lay[p]? = some (.inr (3, [some (some r)]))) (hr : lay[r]? = some (.inl (0, 16))) (hp2 : lay[p2]? = some (.inr (5, [some (some r2)]))) (hr2 : lay[r2]? = some (.inl (0, 294))) (x2 : Int32) (m : fm_M) {res : Int32 × fm_M} (h : f_X3_byGown p r p2 r2 x2 m = some res) : fm_Met lay 1 m_X3_byGown [.ref p, .ref p2, .int x2] m (fm_pi res.1 res.2) := by
  refine fm_Met_of (ls := [some (.ref p), some (.ref p2), some (.int x2), none, none]) (by decide) rfl (fm_cc_r _ (fm_cc_r _ (fm_cc_i _ fm_cc_0))) (Nat.le_of_ble_eq_true rfl) rfl ?_
  unfold f_X3_byGown at h
  refine go_iconst (pc := 0) (v := (0 : Int32)) dX3_byGown_0 (by decide) ?_
  refine go_istore_n (pc := 1) (ls1 := [some (.ref p), some (.ref p2), some (.int x2), some (.int (0 : Int32)), none]) dX3_byGown_1 rfl (by decide) rfl ?_
  exact c_X3_byGown_L2 hp hr hp2 hr2 fm_F _ _ _ _ h
def f_X3_byTime_L2 (p : Nat) (r : Nat) (p2 : Nat) (r2 : Nat) : Nat → Int32 → Int32 → fm_M → Option (Int32 × fm_M)
  | 0, _, _, _ => none
  | n + 1, y2, y3, m => if (16 : Int32) ≤ y3 then ((f_X3_withPlace p r y2 m).bind fun v2 => some (v2, m)) else ((f_X5_of p2 r2 (2 : Int32) y3 m).bind fun v4 => if v4 = (1 : Int32) then ((f_X5_of p2 r2 (8 : Int32) y3 m).bind fun v10 => if fm_in y3 16 = true then (f_X3_byTime_L2 p r p2 r2 n y2 (y3 + (1 : Int32)) (fm_put m r y3.toNatClampNeg ((15 : Int32) - v10))) else none) else (if fm_in y3 16 = true then (f_X3_byTime_L2 p r p2 r2 n y2 (y3 + (1 : Int32)) (fm_put m r y3.toNatClampNeg (-1 : Int32))) else none))
def f_X3_byTime (p : Nat) (r : Nat) (p2 : Nat) (r2 : Nat) (x2 : Int32) (m : fm_M) : Option (Int32 × fm_M) :=
  f_X3_byTime_L2 p r p2 r2 fm_F x2 (0 : Int32) m
set_option maxRecDepth 100000 in
set_option maxHeartbeats 4000000 in
theorem c_X3_byTime_L2 {lay : List fm_L} {p r p2 r2 : Nat} (hp : lay[p]? = some (.inr (3, [some (some r)]))) (hr : lay[r]? = some (.inl (0, 16))) (hp2 : lay[p2]? = some (.inr (5, [some (some r2)]))) (hr2 : lay[r2]? = some (.inl (0, 294))) : ∀ (n : Nat) (y2 : Int32) (y3 : Int32) (m : fm_M) (res : Int32 × fm_M), f_X3_byTime_L2 p r p2 r2 n y2 y3 m = some res → fm_Go lay 1 m_X3_byTime (fm_pi res.1 res.2) 2 [some (.ref p), some (.ref p2), some (.int y2), some (.int y3), none] [] m := by
  intro n
  induction n with
  | zero => intro y2 y3 m res h; cases h
  | succ n ih =>
    intro y2 y3 m res h
    rw [f_X3_byTime_L2] at h
    refine go_iload_n (pc := 2) dX3_byTime_2 rfl rfl ?_
    refine go_aload_n (pc := 3) dX3_byTime_3 rfl rfl ?_
    refine go_getR (pc := 4) (k := 0) (q2 := r) dX3_byTime_4 cl_X3 hp rfl (by decide) lk_X3_9 ?_
    refine go_alen (pc := 7) (v := (16 : Int32)) dX3_byTime_7 hr (by decide) ?_
    refine go_icmp_ge (pc := 8) (tgt := 59) dX3_byTime_8 (by decide) (fun c1 => ?_) (fun c1 => ?_)
    · rw [if_pos c1] at h
      refine go_aload_n (pc := 59) dX3_byTime_59 rfl rfl ?_
      refine go_iload_n (pc := 60) dX3_byTime_60 rfl rfl ?_
      obtain ⟨v2, hv3, h⟩ := fm_bind h
      refine go_callVi (pc := 61) (As := [.int y2]) (st := []) dX3_byTime_61 (c_X3_withPlace (p := p) (r := r) hp hr _ _ hv3) (by decide) ce_X3_withPlace ml_X3_25 in_X3_withPlace se_X3_withPlace cl_X3 hp rfl (Nat.le_of_ble_eq_true rfl) rfl ?_
      obtain rfl := Option.some.inj h
      exact go_iret (pc := 64) .int dX3_byTime_64 rfl rfl ⟨rfl, rfl⟩
    · rw [if_neg c1] at h
      refine go_aload_n (pc := 11) dX3_byTime_11 rfl rfl ?_
      refine go_iconst (pc := 12) (v := (2 : Int32)) dX3_byTime_12 (by decide) ?_
      refine go_iload_n (pc := 13) dX3_byTime_13 rfl rfl ?_
      obtain ⟨v4, hv5, h⟩ := fm_bind h
      refine go_callVi (pc := 14) (As := [.int (2 : Int32), .int y3]) (st := []) dX3_byTime_14 (c_X5_of (p := p2) (r := r2) hp2 hr2 _ _ _ hv5) (by decide) ce_X5_of ml_X3_15 in_X5_of se_X5_of cl_X5 hp2 rfl (Nat.le_of_ble_eq_true rfl) rfl ?_
      refine go_iconst (pc := 17) (v := (1 : Int32)) dX3_byTime_17 (by decide) ?_
      refine go_icmp_ne (pc := 18) (tgt := 25) dX3_byTime_18 (by decide) (fun c6 => ?_) (fun c6 => ?_)
      · rw [if_neg c6] at h
        refine go_iconst (pc := 25) (v := (0 : Int32)) dX3_byTime_25 (by decide) ?_
        refine go_istore (pc := 26) (ls1 := [some (.ref p), some (.ref p2), some (.int y2), some (.int y3), some (.int (0 : Int32))]) dX3_byTime_26 (by decide) rfl ?_
        refine go_aload_n (pc := 28) dX3_byTime_28 rfl rfl ?_
        refine go_getR (pc := 29) (k := 0) (q2 := r) dX3_byTime_29 cl_X3 hp rfl (by decide) lk_X3_9 ?_
        refine go_iload_n (pc := 32) dX3_byTime_32 rfl rfl ?_
        refine go_iload (pc := 33) dX3_byTime_33 rfl ?_
        refine go_if_eq (pc := 35) (tgt := 51) dX3_byTime_35 (by decide) (fun _ => ?_) (fun c7 => absurd (by decide) c7)
        refine go_iconst (pc := 51) (v := (-1 : Int32)) dX3_byTime_51 (by decide) ?_
        obtain ⟨hi8, h⟩ := fm_chk h
        refine go_iast (pc := 52) dX3_byTime_52 hr (fm_in_vp hi8) ?_
        refine go_iinc (pc := 53) (v := (y3 + (1 : Int32))) (ls1 := [some (.ref p), some (.ref p2), some (.int y2), some (.int (y3 + (1 : Int32))), some (.int (0 : Int32))]) dX3_byTime_53 rfl rfl (Nat.le_of_ble_eq_true rfl) rfl ?_
        refine go_goto (pc := 56) (tgt := 2) dX3_byTime_56 (by decide) ?_
        refine go_drop 4 (ls1 := [some (.ref p), some (.ref p2), some (.int y2), some (.int (y3 + (1 : Int32))), none]) rfl ?_
        exact ih _ _ _ _ h
      · rw [if_pos c6] at h
        refine go_iconst (pc := 21) (v := (1 : Int32)) dX3_byTime_21 (by decide) ?_
        refine go_goto (pc := 22) (tgt := 26) dX3_byTime_22 (by decide) ?_
        refine go_istore (pc := 26) (ls1 := [some (.ref p), some (.ref p2), some (.int y2), some (.int y3), some (.int (1 : Int32))]) dX3_byTime_26 (by decide) rfl ?_
        refine go_aload_n (pc := 28) dX3_byTime_28 rfl rfl ?_
        refine go_getR (pc := 29) (k := 0) (q2 := r) dX3_byTime_29 cl_X3 hp rfl (by decide) lk_X3_9 ?_
        refine go_iload_n (pc := 32) dX3_byTime_32 rfl rfl ?_
        refine go_iload (pc := 33) dX3_byTime_33 rfl ?_
        refine go_if_eq (pc := 35) (tgt := 51) dX3_byTime_35 (by decide) (fun c9 => absurd c9 (by decide)) (fun _ => ?_)
        refine go_bipush (pc := 38) (v := (15 : Int32)) dX3_byTime_38 (by decide) ?_
        refine go_aload_n (pc := 40) dX3_byTime_40 rfl rfl ?_
        refine go_bipush (pc := 41) (v := (8 : Int32)) dX3_byTime_41 (by decide) ?_
        refine go_iload_n (pc := 43) dX3_byTime_43 rfl rfl ?_
        obtain ⟨v10, hv11, h⟩ := fm_bind h
        refine go_callVi (pc := 44) (As := [.int (8 : Int32), .int y3]) (st := [.int (15 : Int32), .int y3, .ref r]) dX3_byTime_44 (c_X5_of (p := p2) (r := r2) hp2 hr2 _ _ _ hv11) (by decide) ce_X5_of ml_X3_15 in_X5_of se_X5_of cl_X5 hp2 rfl (Nat.le_of_ble_eq_true rfl) rfl ?_
        refine go_isub (pc := 47) dX3_byTime_47 ?_
        refine go_goto (pc := 48) (tgt := 52) dX3_byTime_48 (by decide) ?_
        obtain ⟨hi12, h⟩ := fm_chk h
        refine go_iast (pc := 52) dX3_byTime_52 hr (fm_in_vp hi12) ?_
        refine go_iinc (pc := 53) (v := (y3 + (1 : Int32))) (ls1 := [some (.ref p), some (.ref p2), some (.int y2), some (.int (y3 + (1 : Int32))), some (.int (1 : Int32))]) dX3_byTime_53 rfl rfl (Nat.le_of_ble_eq_true rfl) rfl ?_
        refine go_goto (pc := 56) (tgt := 2) dX3_byTime_56 (by decide) ?_
        refine go_drop 4 (ls1 := [some (.ref p), some (.ref p2), some (.int y2), some (.int (y3 + (1 : Int32))), none]) rfl ?_
        exact ih _ _ _ _ h
set_option maxRecDepth 100000 in
set_option maxHeartbeats 4000000 in
theorem c_X3_byTime {lay : List fm_L} {p r p2 r2 : Nat} (hp : lay[p]? = some (.inr (3, [some (some r)]))) (hr : lay[r]? = some (.inl (0, 16))) (hp2 : lay[p2]? = some (.inr (5, [some (some r2)]))) (hr2 : lay[r2]? = some (.inl (0, 294))) (x2 : Int32) (m : fm_M) {res : Int32 × fm_M} (h : f_X3_byTime p r p2 r2 x2 m = some res) : fm_Met lay 1 m_X3_byTime [.ref p, .ref p2, .int x2] m (fm_pi res.1 res.2) := by
  refine fm_Met_of (ls := [some (.ref p), some (.ref p2), some (.int x2), none, none]) (by decide) rfl (fm_cc_r _ (fm_cc_r _ (fm_cc_i _ fm_cc_0))) (Nat.le_of_ble_eq_true rfl) rfl ?_
  unfold f_X3_byTime at h
  refine go_iconst (pc := 0) (v := (0 : Int32)) dX3_byTime_0 (by decide) ?_
  refine go_istore_n (pc := 1) (ls1 := [some (.ref p), some (.ref p2), some (.int x2), some (.int (0 : Int32)), none]) dX3_byTime_1 rfl (by decide) rfl ?_
  exact c_X3_byTime_L2 hp hr hp2 hr2 fm_F _ _ _ _ h

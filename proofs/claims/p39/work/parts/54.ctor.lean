/-! THE CONSTRUCTORS -/
theorem kw_oi : Cond.instanceMethod objectInit ∈ fm_G := fm_mem 39 (by decide +kernel) (by decide +kernel)
theorem kw_oc : Cond.code objectInit ⟨#[0xb1]⟩ 1 none ∈ fm_G := fm_mem 40 (by decide +kernel) (by decide +kernel)
theorem kw_aI : Cond.arrayClass .int ∈ fm_G := fm_mem 59 (by decide +kernel) (by decide +kernel)
theorem kw_mX6_3 : Cond.methodLink RX6 3 objectInit ∈ fm_G := fm_mem 38 (by decide +kernel) (by decide +kernel)
theorem kw_mX6_11 : Cond.methodLink RX6 11 yX5_init ∈ fm_G := fm_mem 43 (by decide +kernel) (by decide +kernel)
theorem kw_mX5_3 : Cond.methodLink RX5 3 objectInit ∈ fm_G := fm_mem 46 (by decide +kernel) (by decide +kernel)
theorem kw_mX0_3 : Cond.methodLink RX0 3 objectInit ∈ fm_G := fm_mem 65 (by decide +kernel) (by decide +kernel)
theorem kw_mX0_11 : Cond.methodLink RX0 11 yX5_init ∈ fm_G := fm_mem 67 (by decide +kernel) (by decide +kernel)
theorem kw_mX3_3 : Cond.methodLink RX3 3 objectInit ∈ fm_G := fm_mem 73 (by decide +kernel) (by decide +kernel)
theorem kw_mX1_3 : Cond.methodLink RX1 3 objectInit ∈ fm_G := fm_mem 98 (by decide +kernel) (by decide +kernel)
theorem kw_mX2_3 : Cond.methodLink RX2 3 objectInit ∈ fm_G := fm_mem 114 (by decide +kernel) (by decide +kernel)
theorem kw_mX6_49 : Cond.methodLink RX6 49 yX4_init ∈ fm_G := fm_mem 136 (by decide +kernel) (by decide +kernel)
theorem kw_mX4_1 : Cond.methodLink RX4 1 objectInit ∈ fm_G := fm_mem 139 (by decide +kernel) (by decide +kernel)
theorem kw_mX4_13 : Cond.methodLink RX4 13 Lib.Math.max.name ∈ fm_G := fm_mem 140 (by decide +kernel) (by decide +kernel)
theorem kw_iX6 : Cond.initialized RX6 ∈ fm_G := fm_mem 20 (by decide +kernel) (by decide +kernel)
theorem kw_iX5 : Cond.initialized RX5 ∈ fm_G := fm_mem 21 (by decide +kernel) (by decide +kernel)
theorem kw_iX0 : Cond.initialized RX0 ∈ fm_G := fm_mem 22 (by decide +kernel) (by decide +kernel)
theorem kw_iX3 : Cond.initialized RX3 ∈ fm_G := fm_mem 23 (by decide +kernel) (by decide +kernel)
theorem kw_iX1 : Cond.initialized RX1 ∈ fm_G := fm_mem 24 (by decide +kernel) (by decide +kernel)
theorem kw_iX2 : Cond.initialized RX2 ∈ fm_G := fm_mem 25 (by decide +kernel) (by decide +kernel)
theorem kw_iX4 : Cond.initialized RX4 ∈ fm_G := fm_mem 26 (by decide +kernel) (by decide +kernel)
theorem kw_nX6 : Cond.instantiable RX6 12 ∈ fm_G := fm_mem 34 (by decide +kernel) (by decide +kernel)
theorem kw_vX6 : Cond.instanceMethod yX6_init ∈ fm_G := fm_mem 36 (by decide +kernel) (by decide +kernel)
theorem kw_cX6_9 : Cond.classLink RX6 9 RX5 ∈ fm_G := fm_mem 41 (by decide +kernel) (by decide +kernel)
theorem kw_nX5 : Cond.instantiable RX5 1 ∈ fm_G := fm_mem 42 (by decide +kernel) (by decide +kernel)
theorem kw_vX5 : Cond.instanceMethod yX5_init ∈ fm_G := fm_mem 44 (by decide +kernel) (by decide +kernel)
theorem kw_cX6_19 : Cond.classLink RX6 19 RX0 ∈ fm_G := fm_mem 60 (by decide +kernel) (by decide +kernel)
theorem kw_nX0 : Cond.instantiable RX0 4 ∈ fm_G := fm_mem 61 (by decide +kernel) (by decide +kernel)
theorem kw_vX0 : Cond.instanceMethod yX0_init ∈ fm_G := fm_mem 63 (by decide +kernel) (by decide +kernel)
theorem kw_cX0_9 : Cond.classLink RX0 9 RX5 ∈ fm_G := fm_mem 66 (by decide +kernel) (by decide +kernel)
theorem kw_cX0_18 : Cond.classLink RX0 18 RX3 ∈ fm_G := fm_mem 68 (by decide +kernel) (by decide +kernel)
theorem kw_nX3 : Cond.instantiable RX3 1 ∈ fm_G := fm_mem 69 (by decide +kernel) (by decide +kernel)
theorem kw_vX3 : Cond.instanceMethod yX3_init ∈ fm_G := fm_mem 71 (by decide +kernel) (by decide +kernel)
theorem kw_cX6_26 : Cond.classLink RX6 26 RX3 ∈ fm_G := fm_mem 91 (by decide +kernel) (by decide +kernel)
theorem kw_cX6_33 : Cond.classLink RX6 33 RX1 ∈ fm_G := fm_mem 93 (by decide +kernel) (by decide +kernel)
theorem kw_nX1 : Cond.instantiable RX1 3 ∈ fm_G := fm_mem 94 (by decide +kernel) (by decide +kernel)
theorem kw_vX1 : Cond.instanceMethod yX1_init ∈ fm_G := fm_mem 96 (by decide +kernel) (by decide +kernel)
theorem kw_cX6_40 : Cond.classLink RX6 40 RX2 ∈ fm_G := fm_mem 109 (by decide +kernel) (by decide +kernel)
theorem kw_nX2 : Cond.instantiable RX2 6 ∈ fm_G := fm_mem 110 (by decide +kernel) (by decide +kernel)
theorem kw_vX2 : Cond.instanceMethod yX2_init ∈ fm_G := fm_mem 112 (by decide +kernel) (by decide +kernel)
theorem kw_cX6_47 : Cond.classLink RX6 47 RX4 ∈ fm_G := fm_mem 134 (by decide +kernel) (by decide +kernel)
theorem kw_nX4 : Cond.instantiable RX4 2 ∈ fm_G := fm_mem 135 (by decide +kernel) (by decide +kernel)
theorem kw_vX4 : Cond.instanceMethod yX4_init ∈ fm_G := fm_mem 137 (by decide +kernel) (by decide +kernel)
theorem kw_cL_8 : Cond.classLink RL 8 RX6 ∈ fm_G := fm_mem 33 (by decide +kernel) (by decide +kernel)
theorem kw_mL_234 : Cond.methodLink RL 234 yX6_init ∈ fm_G := fm_mem 35 (by decide +kernel) (by decide +kernel)
theorem gw_max {n0 : Nat} {lay : List fm_L} {d : Nat} {M : fm_Me} {Post : List fm_L → fm_M → Prop} {mc ms kc ks : Nat} {pc : Nat} {ls : List (Option Value)} {st : List Value} {mem : fm_M} {idx : Nat} {x y : Int32} (hd : decode M.2.1 pc = .ok (.invokestatic idx, 3)) (hlink : Cond.methodLink M.2.2.2.2 idx Lib.Math.max.name ∈ fm_G) (hd1 : 1 ≤ d) (h1 : kc ≤ mc) (h2 : ks ≤ ms) (hst : (st.map fun v => v.category).sum ≤ 8) (kk : fm_Gw n0 lay d M Post mc ms kc ks (pc + 3) ls (.int (if x < y then y else x) :: st) mem) : fm_Gw n0 lay d M Post mc ms kc ks pc ls (.int y :: .int x :: st) mem := by
  intro p l e R s0 s m args below meth c D cI cC ad0 ad A H locs sl Q C hN hG hl hP hD hS hR
  have hst2 : ((st.map (fm_cv ad)).map fun v => v.category).sum ≤ 8 := by rw [List.map_map, show ((fun v : Value => v.category) ∘ fm_cv ad) = (fun v => v.category) from funext (fun v => fm_cv_cat ad v)]; exact hst
  have hr := C.2.2.2.2.2.2.2.2.2.1
  exact va_mmax C.1 C.2.1 (C.2.2.1.trans hl.1.symm) C.2.2.2.2.1 (C.2.2.2.2.2.2.1 _ hlink) (C.2.2.2.2.2.2.1 _ fm_maxS) (C.2.2.2.2.2.2.1 _ fm_minI) (C.2.2.2.2.2.2.1 _ fm_maxC) (by omega) (by omega) (Nat.le_trans h1 hr.2.2.1) (Nat.le_trans h2 hr.2.2.2) hd (kk p l e R s0 s m args below meth c D cI cC ad0 ad A H locs sl Q C hN hG hl hP hD hS hR)
theorem fm_clo_le {n n1 : Nat} {lay : List fm_L} (h : fm_clo n lay) (hn : n ≤ n1) : fm_clo n1 lay := fun i ci l j q a b => Nat.lt_of_lt_of_le (h i ci l j q a b) hn
theorem fm_clo_app {n : Nat} {lay l2 : List fm_L} (h : fm_clo n lay) (h2 : fm_clo n l2) : fm_clo n (lay ++ l2) := by
  intro i ci l j q a b
  by_cases hi : i < lay.length
  · rw [List.getElem?_append_left hi] at a; exact h i ci l j q a b
  · rw [List.getElem?_append_right (by omega)] at a; exact h2 _ ci l j q a b
set_option maxRecDepth 100000 in
set_option maxHeartbeats 4000000 in
theorem k_X3 {pre lay lay1 : List fm_L} {n : Nat} {mem : fm_M} (hn : pre.length = n) (h0 : pre ++ [.inr (3, [some none])] = lay) (h1 : pre ++ [.inr (3, [some (some (n + 1))]), .inl (0, 16)] = lay1) (hc : fm_clo (n + 1) lay) (hb : n + 1 < 1000) (hm : mem (n + 1) = fun _ => 0) : fm_Nw lay 1 m_X3_init [.ref n] mem (fun l m => l = lay1 ∧ m = mem) 1 16 := by
  subst hn; subst h0; subst h1
  have hl : (pre ++ [(.inr (3, [some none]) : fm_L)]).length = pre.length + 1 := by simp
  have hp : pre.length < (pre ++ [(.inr (3, [some none]) : fm_L)]).length := by omega
  refine fm_Nw_of (ls := [some (.ref pre.length)]) (by decide) rfl rfl (fm_cc_r _ fm_cc_0) (Nat.le_of_ble_eq_true rfl) rfl ?_
  refine gw_aload_n (pc := 0) dX3_init_0 rfl rfl ?_
  refine gw_objInit (pc := 1) dX3_init_1 kw_mX3_3 kw_oi kw_oc (by decide) (Nat.le_of_ble_eq_true rfl) ?_
  refine gw_aload_n (pc := 4) dX3_init_4 rfl rfl ?_
  refine gw_bipush (pc := 5) (v := (16 : Int32)) dX3_init_5 (by decide) ?_
  refine gw_newI (pc := 7) (n := 16) dX3_init_7 kw_aI (by decide) (by decide) (by decide) (by rw [hl]; exact hm) (by rw [hl]; exact hc) (by omega) (Nat.le_refl _) ⟨Or.inl hp, trivial⟩ ⟨Or.inl hp, trivial⟩ (by decide) (by decide) ?_
  refine gw_putF (pc := 9) (k := 0) (q := pre.length) (l2 := [some none]) (.array .int) (lay1 := pre ++ [.inr (3, [some (some (pre.length + 1))]), .inl (0, 16)]) dX3_init_9 cl_X3 (by simp) (by decide) (by decide) lk_X3_9 rfl rfl (by decide +kernel) (fun _ => rfl) (fun _ => rfl) (by simp) ?_
  refine gw_go (by decide) (by decide) ?_
  exact go_vret (pc := 12) dX3_init_12 rfl ⟨rfl, rfl, rfl⟩
set_option maxRecDepth 100000 in
set_option maxHeartbeats 4000000 in
theorem k_X4 {pre lay lay1 : List fm_L} {n N : Nat} {x : Int32} {mem : fm_M} (hn : pre.length = n) (h0 : pre ++ [.inr (4, [some none, none])] = lay) (h1 : pre ++ [.inr (4, [some (some (n + 1)), none]), .inl (0, N)] = lay1) (hc : fm_clo (n + 1) lay) (hb : n + 1 < 1000) (hm0 : mem n 1 = 0) (hm : mem (n + 1) = fun _ => 0) (hx : ¬ x < 0) (hxN : x.toNatClampNeg = N) (hN : N * 4 ≤ 536870912) : fm_Nw lay 1 m_X4_init [.ref n, .int x] mem (fun l m => l = lay1 ∧ m = mem) 1 N := by
  subst hn; subst h0; subst h1
  have hl : (pre ++ [(.inr (4, [some none, none]) : fm_L)]).length = pre.length + 1 := by simp
  have hp : pre.length < (pre ++ [(.inr (4, [some none, none]) : fm_L)]).length := by omega
  refine fm_Nw_of (ls := [some (.ref pre.length), some (.int x)]) (by decide) rfl rfl (fm_cc_r _ (fm_cc_i _ fm_cc_0)) (Nat.le_of_ble_eq_true rfl) rfl ?_
  refine gw_aload_n (pc := 0) dX4_init_0 rfl rfl ?_
  refine gw_objInit (pc := 1) dX4_init_1 kw_mX4_1 kw_oi kw_oc (by decide) (Nat.le_of_ble_eq_true rfl) ?_
  refine gw_aload_n (pc := 4) dX4_init_4 rfl rfl ?_
  refine gw_iconst (pc := 5) (v := (0 : Int32)) dX4_init_5 (by decide) ?_
  refine gw_putI (pc := 6) (k := 1) (l2 := [some none, none]) .int dX4_init_6 cl_X4 (by simp) rfl (by decide) lk_X4_7 rfl (by decide +kernel) rfl rfl hm0 ?_
  refine gw_aload_n (pc := 9) dX4_init_9 rfl rfl ?_
  refine gw_iload_n (pc := 10) dX4_init_10 rfl rfl ?_
  refine gw_iconst (pc := 11) (v := (0 : Int32)) dX4_init_11 (by decide) ?_
  refine gw_max (pc := 12) dX4_init_12 kw_mX4_13 (by decide) (by decide) (Nat.zero_le _) (Nat.le_of_ble_eq_true rfl) ?_
  rw [if_neg hx]
  refine gw_newI (pc := 15) (n := N) dX4_init_15 kw_aI hx hxN hN (by rw [hl]; exact hm) (by rw [hl]; exact hc) (by omega) (Nat.le_refl _) ⟨Or.inl hp, trivial, trivial⟩ ⟨Or.inl hp, trivial⟩ (by decide) (by omega) ?_
  refine gw_putF (pc := 17) (k := 0) (q := pre.length) (l2 := [some none, none]) (.array .int) (lay1 := pre ++ [.inr (4, [some (some (pre.length + 1)), none]), .inl (0, N)]) dX4_init_17 cl_X4 (by simp) (by decide) (by decide) lk_X4_19 rfl rfl (by decide +kernel) (fun _ => rfl) (fun _ => rfl) (by simp) ?_
  refine gw_go (by decide) (by omega) ?_
  exact go_vret (pc := 20) dX4_init_20 rfl ⟨rfl, rfl, rfl⟩
def fs_1 : Nat → Nat → Int32
  | 0 => fun _ => 0
  | b + 1 => ma_s (ma_s (ma_s (fs_1 b) 2 b (-1)) 3 b (-15)) 7 b (-15)
def fs_2 : Nat → Nat → Int32
  | 0 => fs_1 16
  | c + 1 => ma_s (fs_2 c) 14 c (-15)
def fs_g : Nat → Int32 := ma_s (fs_2 8) 16 4 100
theorem fs_uu (m : fm_M) (k : Nat) (f g : Nat → Int32) : fm_up (fm_up m k f) k g = fm_up m k g := ma_pp m k f g
theorem kw_mX5_15 : Cond.methodLink RX5 15 yX5_setOf ∈ fm_G := fm_mem 47 (by decide +kernel) (by decide +kernel)
set_option maxRecDepth 100000 in
set_option maxHeartbeats 4000000 in
theorem k_X5_l1 {lay : List fm_L} {p r : Nat} {Post : Option Value → fm_M → Prop} {m0 : fm_M} (hp : lay[p]? = some (.inr (5, [some (some r)]))) (hr : lay[r]? = some (.inl (0, 294))) (hk : fm_Go lay 2 m_X5_init Post 51 [some (.ref p), some (.int (ma_i 16))] [] (fm_up m0 r (fs_1 16))) : ∀ (f b : Nat), b + f = 16 → fm_Go lay 2 m_X5_init Post 15 [some (.ref p), some (.int (ma_i b))] [] (fm_up m0 r (fs_1 b)) := by
  intro f
  induction f with
  | zero =>
    intro b hb
    obtain rfl : b = 16 := by omega
    refine go_iload_n (pc := 15) dX5_init_15 rfl rfl ?_
    refine go_bipush (pc := 16) (v := (16 : Int32)) dX5_init_16 (by decide) ?_
    exact go_icmp_ge (pc := 18) (tgt := 51) dX5_init_18 (by decide) (fun _ => hk) (fun c => absurd ma_g1 c)
  | succ f ih =>
    intro b hb
    have hb16 : b < 16 := by omega
    refine go_iload_n (pc := 15) dX5_init_15 rfl rfl ?_
    refine go_bipush (pc := 16) (v := (16 : Int32)) dX5_init_16 (by decide) ?_
    refine go_icmp_ge (pc := 18) (tgt := 51) dX5_init_18 (by decide) (fun c => absurd c (ma_g0 (a := 16) hb16 (by decide))) (fun _ => ?_)
    have s1 : f_X5_setOf p r (2 : Int32) (ma_i b) (-1 : Int32) (fm_up m0 r (fs_1 b)) = some (fm_up m0 r (ma_s (fs_1 b) 2 b (-1))) := by
      rw [ka_so2 hb16, fm_up_s, fs_uu]
    have s2 : f_X5_setOf p r (3 : Int32) (ma_i b) (-15 : Int32) (fm_up m0 r (ma_s (fs_1 b) 2 b (-1))) = some (fm_up m0 r (ma_s (ma_s (fs_1 b) 2 b (-1)) 3 b (-15))) := by
      rw [ka_so3 hb16, fm_up_s, fs_uu]
    have s3 : f_X5_setOf p r (7 : Int32) (ma_i b) (-15 : Int32) (fm_up m0 r (ma_s (ma_s (fs_1 b) 2 b (-1)) 3 b (-15))) = some (fm_up m0 r (fs_1 (b + 1))) := by
      rw [ka_so7 hb16, fm_up_s, fs_uu]; rfl
    refine go_aload_n (pc := 21) dX5_init_21 rfl rfl ?_
    refine go_iconst (pc := 22) (v := (2 : Int32)) dX5_init_22 (by decide) ?_
    refine go_iload_n (pc := 23) dX5_init_23 rfl rfl ?_
    refine go_iconst (pc := 24) (v := (-1 : Int32)) dX5_init_24 (by decide) ?_
    refine go_callVv (pc := 25) (As := [.int (2 : Int32), .int (ma_i b), .int (-1 : Int32)]) (st := []) dX5_init_25 (c_X5_setOf hp hr _ _ _ _ s1) (by decide) ce_X5_setOf kw_mX5_15 in_X5_setOf se_X5_setOf cl_X5 hp rfl (Nat.le_of_ble_eq_true rfl) rfl ?_
    refine go_aload_n (pc := 28) dX5_init_28 rfl rfl ?_
    refine go_iconst (pc := 29) (v := (3 : Int32)) dX5_init_29 (by decide) ?_
    refine go_iload_n (pc := 30) dX5_init_30 rfl rfl ?_
    refine go_bipush (pc := 31) (v := (-15 : Int32)) dX5_init_31 (by decide) ?_
    refine go_callVv (pc := 33) (As := [.int (3 : Int32), .int (ma_i b), .int (-15 : Int32)]) (st := []) dX5_init_33 (c_X5_setOf hp hr _ _ _ _ s2) (by decide) ce_X5_setOf kw_mX5_15 in_X5_setOf se_X5_setOf cl_X5 hp rfl (Nat.le_of_ble_eq_true rfl) rfl ?_
    refine go_aload_n (pc := 36) dX5_init_36 rfl rfl ?_
    refine go_bipush (pc := 37) (v := (7 : Int32)) dX5_init_37 (by decide) ?_
    refine go_iload_n (pc := 39) dX5_init_39 rfl rfl ?_
    refine go_bipush (pc := 40) (v := (-15 : Int32)) dX5_init_40 (by decide) ?_
    refine go_callVv (pc := 42) (As := [.int (7 : Int32), .int (ma_i b), .int (-15 : Int32)]) (st := []) dX5_init_42 (c_X5_setOf hp hr _ _ _ _ s3) (by decide) ce_X5_setOf kw_mX5_15 in_X5_setOf se_X5_setOf cl_X5 hp rfl (Nat.le_of_ble_eq_true rfl) rfl ?_
    refine go_iinc (pc := 45) (v := ma_i (b + 1)) (ls1 := [some (.ref p), some (.int (ma_i (b + 1)))]) dX5_init_45 rfl (ma_s1 b) (Nat.le_of_ble_eq_true rfl) rfl ?_
    refine go_goto (pc := 48) (tgt := 15) dX5_init_48 (by decide) ?_
    exact ih (b + 1) (by omega)
set_option maxRecDepth 100000 in
set_option maxHeartbeats 4000000 in
theorem k_X5_l2 {lay : List fm_L} {p r : Nat} {Post : Option Value → fm_M → Prop} {m0 : fm_M} (hp : lay[p]? = some (.inr (5, [some (some r)]))) (hr : lay[r]? = some (.inl (0, 294))) (hk : fm_Go lay 2 m_X5_init Post 76 [some (.ref p), some (.int (ma_i 8))] [] (fm_up m0 r (fs_2 8))) : ∀ (f b : Nat), b + f = 8 → fm_Go lay 2 m_X5_init Post 53 [some (.ref p), some (.int (ma_i b))] [] (fm_up m0 r (fs_2 b)) := by
  intro f
  induction f with
  | zero =>
    intro b hb
    obtain rfl : b = 8 := by omega
    refine go_iload_n (pc := 53) dX5_init_53 rfl rfl ?_
    refine go_bipush (pc := 54) (v := (8 : Int32)) dX5_init_54 (by decide) ?_
    exact go_icmp_ge (pc := 56) (tgt := 76) dX5_init_56 (by decide) (fun _ => hk) (fun c => absurd ma_g1 c)
  | succ f ih =>
    intro b hb
    have hb8 : b < 8 := by omega
    refine go_iload_n (pc := 53) dX5_init_53 rfl rfl ?_
    refine go_bipush (pc := 54) (v := (8 : Int32)) dX5_init_54 (by decide) ?_
    refine go_icmp_ge (pc := 56) (tgt := 76) dX5_init_56 (by decide) (fun c => absurd c (ma_g0 (a := 8) hb8 (by decide))) (fun _ => ?_)
    have s1 : f_X5_set p r ((224 : Int32) + ma_i b) (-15 : Int32) (fm_up m0 r (fs_2 b)) = some (fm_up m0 r (fs_2 (b + 1))) := by
      rw [ka_tc hb8, fm_up_s, fs_uu]; rfl
    refine go_aload_n (pc := 59) dX5_init_59 rfl rfl ?_
    refine go_sipush (pc := 60) (v := (224 : Int32)) dX5_init_60 (by decide) ?_
    refine go_iload_n (pc := 63) dX5_init_63 rfl rfl ?_
    refine go_iadd (pc := 64) dX5_init_64 ?_
    refine go_bipush (pc := 65) (v := (-15 : Int32)) dX5_init_65 (by decide) ?_
    refine go_callVv (pc := 67) (As := [.int ((224 : Int32) + ma_i b), .int (-15 : Int32)]) (st := []) dX5_init_67 (c_X5_set hp hr _ _ _ s1) (by decide) ce_X5_set ml_X5_19 in_X5_set se_X5_set cl_X5 hp rfl (Nat.le_of_ble_eq_true rfl) rfl ?_
    refine go_iinc (pc := 70) (v := ma_i (b + 1)) (ls1 := [some (.ref p), some (.int (ma_i (b + 1)))]) dX5_init_70 rfl (ma_s1 b) (Nat.le_of_ble_eq_true rfl) rfl ?_
    refine go_goto (pc := 73) (tgt := 53) dX5_init_73 (by decide) ?_
    exact ih (b + 1) (by omega)
set_option maxRecDepth 100000 in
set_option maxHeartbeats 4000000 in
theorem k_X5 {pre lay lay1 : List fm_L} {n : Nat} {mem : fm_M} (hn : pre.length = n) (h0 : pre ++ [.inr (5, [some none])] = lay) (h1 : pre ++ [.inr (5, [some (some (n + 1))]), .inl (0, 294)] = lay1) (hc : fm_clo (n + 1) lay) (hb : n + 1 < 1000) (hm : mem (n + 1) = fun _ => 0) : fm_Nw lay 2 m_X5_init [.ref n] mem (fun l m => l = lay1 ∧ m = fm_up mem (n + 1) fs_g) 1 294 := by
  subst hn; subst h0; subst h1
  have hl : (pre ++ [(.inr (5, [some none]) : fm_L)]).length = pre.length + 1 := by simp
  have hp : pre.length < (pre ++ [(.inr (5, [some none]) : fm_L)]).length := by omega
  refine fm_Nw_of (ls := [some (.ref pre.length), none]) (by decide) rfl rfl (fm_cc_r _ fm_cc_0) (Nat.le_of_ble_eq_true rfl) rfl ?_
  refine gw_aload_n (pc := 0) dX5_init_0 rfl rfl ?_
  refine gw_objInit (pc := 1) dX5_init_1 kw_mX5_3 kw_oi kw_oc (by decide) (Nat.le_of_ble_eq_true rfl) ?_
  refine gw_aload_n (pc := 4) dX5_init_4 rfl rfl ?_
  refine gw_sipush (pc := 5) (v := (294 : Int32)) dX5_init_5 (by decide) ?_
  refine gw_newI (pc := 8) (n := 294) dX5_init_8 kw_aI (by decide) (by decide) (by decide) (by rw [hl]; exact hm) (by rw [hl]; exact hc) (by omega) (Nat.le_refl _) ⟨Or.inl hp, trivial, trivial⟩ ⟨Or.inl hp, trivial⟩ (by decide) (by decide) ?_
  refine gw_putF (pc := 10) (k := 0) (q := pre.length) (l2 := [some none]) (.array .int) (lay1 := pre ++ [.inr (5, [some (some (pre.length + 1))]), .inl (0, 294)]) dX5_init_10 cl_X5 (by simp) (by decide) (by decide) lk_X5_9 rfl rfl (by decide +kernel) (fun _ => rfl) (fun _ => rfl) (by simp) ?_
  refine gw_go (by decide) (by decide) ?_
  have e0 : mem = fm_up mem (pre.length + 1) (fs_1 0) := by
    have := ma_pk mem (pre.length + 1)
    rw [hm] at this
    exact this.symm
  have hp1 : (pre ++ [(.inr (5, [some (some (pre.length + 1))]) : fm_L), .inl (0, 294)])[pre.length]? = some (.inr (5, [some (some (pre.length + 1))])) := by simp
  have hr1 : (pre ++ [(.inr (5, [some (some (pre.length + 1))]) : fm_L), .inl (0, 294)])[pre.length + 1]? = some (.inl (0, 294)) := by simp
  refine go_iconst (pc := 13) (v := (0 : Int32)) dX5_init_13 (by decide) ?_
  refine go_istore_n (pc := 14) (ls1 := [some (.ref pre.length), some (.int (ma_i 0))]) dX5_init_14 rfl (by decide) rfl ?_
  suffices hh : fm_Go (pre ++ [(.inr (5, [some (some (pre.length + 1))]) : fm_L), .inl (0, 294)]) 2 m_X5_init (fun v m2 => v = none ∧ (pre ++ [(.inr (5, [some (some (pre.length + 1))]) : fm_L), .inl (0, 294)]) = (pre ++ [(.inr (5, [some (some (pre.length + 1))]) : fm_L), .inl (0, 294)]) ∧ m2 = fm_up mem (pre.length + 1) fs_g) 15 [some (.ref pre.length), some (.int (ma_i 0))] [] (fm_up mem (pre.length + 1) (fs_1 0)) by
    rw [← e0] at hh
    exact hh
  refine k_X5_l1 hp1 hr1 ?_ 16 0 rfl
  refine go_iconst (pc := 51) (v := (0 : Int32)) dX5_init_51 (by decide) ?_
  refine go_istore_n (pc := 52) (ls1 := [some (.ref pre.length), some (.int (ma_i 0))]) dX5_init_52 rfl (by decide) rfl ?_
  refine k_X5_l2 hp1 hr1 ?_ 8 0 rfl
  have s1 : f_X5_set pre.length (pre.length + 1) (288 : Int32) (100 : Int32) (fm_up mem (pre.length + 1) (fs_2 8)) = some (fm_up mem (pre.length + 1) fs_g) := by
    rw [ka_t4, fm_up_s, fs_uu]; rfl
  refine go_aload_n (pc := 76) dX5_init_76 rfl rfl ?_
  refine go_sipush (pc := 77) (v := (288 : Int32)) dX5_init_77 (by decide) ?_
  refine go_bipush (pc := 80) (v := (100 : Int32)) dX5_init_80 (by decide) ?_
  refine go_callVv (pc := 82) (As := [.int (288 : Int32), .int (100 : Int32)]) (st := []) dX5_init_82 (c_X5_set hp1 hr1 _ _ _ s1) (by decide) ce_X5_set ml_X5_19 in_X5_set se_X5_set cl_X5 hp1 rfl (Nat.le_of_ble_eq_true rfl) rfl ?_
  exact go_vret (pc := 85) dX5_init_85 rfl ⟨rfl, rfl, rfl⟩

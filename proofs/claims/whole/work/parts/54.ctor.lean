/-! THE CONSTRUCTORS -/
theorem kw_oi : Cond.instanceMethod objectInit ∈ fm_G := fm_mem 101 (by decide +kernel) (by decide +kernel)
theorem kw_oc : Cond.code objectInit ⟨#[0xb1]⟩ 1 none ∈ fm_G := fm_mem 102 (by decide +kernel) (by decide +kernel)
theorem kw_aI : Cond.arrayClass .int ∈ fm_G := fm_mem 121 (by decide +kernel) (by decide +kernel)
theorem kw_aC : Cond.arrayClass .char ∈ fm_G := fm_mem 856 (by decide +kernel) (by decide +kernel)
theorem kw_mL_9 : Cond.methodLink RL 9 yX6_init ∈ fm_G := fm_mem 97 (by decide +kernel) (by decide +kernel)
theorem kw_mX6_3 : Cond.methodLink RX6 3 objectInit ∈ fm_G := fm_mem 100 (by decide +kernel) (by decide +kernel)
theorem kw_mX6_11 : Cond.methodLink RX6 11 yX5_init ∈ fm_G := fm_mem 105 (by decide +kernel) (by decide +kernel)
theorem kw_mX5_3 : Cond.methodLink RX5 3 objectInit ∈ fm_G := fm_mem 108 (by decide +kernel) (by decide +kernel)
theorem kw_mX0_3 : Cond.methodLink RX0 3 objectInit ∈ fm_G := fm_mem 127 (by decide +kernel) (by decide +kernel)
theorem kw_mX0_11 : Cond.methodLink RX0 11 yX5_init ∈ fm_G := fm_mem 129 (by decide +kernel) (by decide +kernel)
theorem kw_mX3_3 : Cond.methodLink RX3 3 objectInit ∈ fm_G := fm_mem 135 (by decide +kernel) (by decide +kernel)
theorem kw_mX1_3 : Cond.methodLink RX1 3 objectInit ∈ fm_G := fm_mem 160 (by decide +kernel) (by decide +kernel)
theorem kw_mX2_3 : Cond.methodLink RX2 3 objectInit ∈ fm_G := fm_mem 176 (by decide +kernel) (by decide +kernel)
theorem kw_mX6_49 : Cond.methodLink RX6 49 yX4_init ∈ fm_G := fm_mem 198 (by decide +kernel) (by decide +kernel)
theorem kw_mX4_1 : Cond.methodLink RX4 1 objectInit ∈ fm_G := fm_mem 201 (by decide +kernel) (by decide +kernel)
theorem kw_mL_12 : Cond.methodLink RL 12 yX7_init ∈ fm_G := fm_mem 791 (by decide +kernel) (by decide +kernel)
theorem kw_mX7_1 : Cond.methodLink RX7 1 objectInit ∈ fm_G := fm_mem 794 (by decide +kernel) (by decide +kernel)
theorem kw_mX4_13 : Cond.methodLink RX4 13 Lib.Math.max.name ∈ fm_G := fm_mem 202 (by decide +kernel) (by decide +kernel)
theorem kw_iX6 : Cond.initialized RX6 ∈ fm_G := fm_mem 81 (by decide +kernel) (by decide +kernel)
theorem kw_iX5 : Cond.initialized RX5 ∈ fm_G := fm_mem 82 (by decide +kernel) (by decide +kernel)
theorem kw_iX0 : Cond.initialized RX0 ∈ fm_G := fm_mem 83 (by decide +kernel) (by decide +kernel)
theorem kw_iX3 : Cond.initialized RX3 ∈ fm_G := fm_mem 84 (by decide +kernel) (by decide +kernel)
theorem kw_iX1 : Cond.initialized RX1 ∈ fm_G := fm_mem 85 (by decide +kernel) (by decide +kernel)
theorem kw_iX2 : Cond.initialized RX2 ∈ fm_G := fm_mem 86 (by decide +kernel) (by decide +kernel)
theorem kw_iX4 : Cond.initialized RX4 ∈ fm_G := fm_mem 87 (by decide +kernel) (by decide +kernel)
theorem kw_iX7 : Cond.initialized RX7 ∈ fm_G := fm_mem 89 (by decide +kernel) (by decide +kernel)
theorem kw_cL_7 : Cond.classLink RL 7 RX6 ∈ fm_G := fm_mem 95 (by decide +kernel) (by decide +kernel)
theorem kw_nX6 : Cond.instantiable RX6 12 ∈ fm_G := fm_mem 96 (by decide +kernel) (by decide +kernel)
theorem kw_vX6 : Cond.instanceMethod yX6_init ∈ fm_G := fm_mem 98 (by decide +kernel) (by decide +kernel)
theorem kw_cX6_9 : Cond.classLink RX6 9 RX5 ∈ fm_G := fm_mem 103 (by decide +kernel) (by decide +kernel)
theorem kw_nX5 : Cond.instantiable RX5 1 ∈ fm_G := fm_mem 104 (by decide +kernel) (by decide +kernel)
theorem kw_vX5 : Cond.instanceMethod yX5_init ∈ fm_G := fm_mem 106 (by decide +kernel) (by decide +kernel)
theorem kw_cX6_19 : Cond.classLink RX6 19 RX0 ∈ fm_G := fm_mem 122 (by decide +kernel) (by decide +kernel)
theorem kw_nX0 : Cond.instantiable RX0 4 ∈ fm_G := fm_mem 123 (by decide +kernel) (by decide +kernel)
theorem kw_vX0 : Cond.instanceMethod yX0_init ∈ fm_G := fm_mem 125 (by decide +kernel) (by decide +kernel)
theorem kw_cX0_9 : Cond.classLink RX0 9 RX5 ∈ fm_G := fm_mem 128 (by decide +kernel) (by decide +kernel)
theorem kw_cX0_18 : Cond.classLink RX0 18 RX3 ∈ fm_G := fm_mem 130 (by decide +kernel) (by decide +kernel)
theorem kw_nX3 : Cond.instantiable RX3 1 ∈ fm_G := fm_mem 131 (by decide +kernel) (by decide +kernel)
theorem kw_vX3 : Cond.instanceMethod yX3_init ∈ fm_G := fm_mem 133 (by decide +kernel) (by decide +kernel)
theorem kw_cX6_26 : Cond.classLink RX6 26 RX3 ∈ fm_G := fm_mem 153 (by decide +kernel) (by decide +kernel)
theorem kw_cX6_33 : Cond.classLink RX6 33 RX1 ∈ fm_G := fm_mem 155 (by decide +kernel) (by decide +kernel)
theorem kw_nX1 : Cond.instantiable RX1 3 ∈ fm_G := fm_mem 156 (by decide +kernel) (by decide +kernel)
theorem kw_vX1 : Cond.instanceMethod yX1_init ∈ fm_G := fm_mem 158 (by decide +kernel) (by decide +kernel)
theorem kw_cX6_40 : Cond.classLink RX6 40 RX2 ∈ fm_G := fm_mem 171 (by decide +kernel) (by decide +kernel)
theorem kw_nX2 : Cond.instantiable RX2 6 ∈ fm_G := fm_mem 172 (by decide +kernel) (by decide +kernel)
theorem kw_vX2 : Cond.instanceMethod yX2_init ∈ fm_G := fm_mem 174 (by decide +kernel) (by decide +kernel)
theorem kw_cX6_47 : Cond.classLink RX6 47 RX4 ∈ fm_G := fm_mem 196 (by decide +kernel) (by decide +kernel)
theorem kw_nX4 : Cond.instantiable RX4 2 ∈ fm_G := fm_mem 197 (by decide +kernel) (by decide +kernel)
theorem kw_vX4 : Cond.instanceMethod yX4_init ∈ fm_G := fm_mem 199 (by decide +kernel) (by decide +kernel)
theorem kw_cL_10 : Cond.classLink RL 10 RX7 ∈ fm_G := fm_mem 789 (by decide +kernel) (by decide +kernel)
theorem kw_nX7 : Cond.instantiable RX7 20 ∈ fm_G := fm_mem 790 (by decide +kernel) (by decide +kernel)
theorem kw_vX7 : Cond.instanceMethod yX7_init ∈ fm_G := fm_mem 792 (by decide +kernel) (by decide +kernel)
theorem gw_max {n0 : Nat} {lay : List fm_L} {d : Nat} {M : fm_Me} {Post : List fm_L → fm_M → Prop} {mc ms kc ks : Nat} {pc : Nat} {ls : List (Option Value)} {st : List Value} {mem : fm_M} {idx : Nat} {x y : Int32} (hd : decode M.2.1 pc = .ok (.invokestatic idx, 3)) (hlink : Cond.methodLink M.2.2.2.2 idx Lib.Math.max.name ∈ fm_G) (hd1 : 1 ≤ d) (h1 : kc ≤ mc) (h2 : ks ≤ ms) (hst : (st.map fun v => v.category).sum ≤ 8) (kk : fm_Gw n0 lay d M Post mc ms kc ks (pc + 3) ls (.int (if x < y then y else x) :: st) mem) : fm_Gw n0 lay d M Post mc ms kc ks pc ls (.int y :: .int x :: st) mem := by
  intro p l e R s0 s m args below meth c D cI cC ad0 ad A H locs sl Q C hN hG hl hP hD hS hR
  have hst2 : ((st.map (fm_cv ad)).map fun v => v.category).sum ≤ 8 := by rw [List.map_map, show ((fun v : Value => v.category) ∘ fm_cv ad) = (fun v => v.category) from funext (fun v => fm_cv_cat ad v)]; exact hst
  have hr := C.2.2.2.2.2.2.2.2.2.1
  exact va_mmax C.1 C.2.1 (C.2.2.1.trans hl.1.symm) C.2.2.2.2.1 (C.2.2.2.2.2.2.1 _ hlink) (C.2.2.2.2.2.2.1 _ fm_maxS) (C.2.2.2.2.2.2.1 _ fm_minI) (C.2.2.2.2.2.2.1 _ fm_maxC) (by omega) (by omega) (Nat.le_trans h1 hr.2.2.1) (Nat.le_trans h2 hr.2.2.2) hd (kk p l e R s0 s m args below meth c D cI cC ad0 ad A H locs sl Q C hN hG hl hP hD hS hR)
theorem fm_clo_le {n n1 : Nat} {lay : List fm_L} (h : fm_clo n lay) (hn : n ≤ n1) : fm_clo n1 lay := fun i ci l j q a b => Nat.lt_of_lt_of_le (h i ci l j q a b) hn
theorem fm_clo_app {n : Nat} {lay l2 : List fm_L} (h : fm_clo n lay) (h2 : fm_clo n l2) : fm_clo n (lay ++ l2) := by
  intro i ci l j q a b
  by_cases hi : i < lay.length
  · rw [List.getElem?_append_left hi] at a; exact h i ci l j q a b
  · rw [List.getElem?_append_right (by omega)] at a; exact h2 _ ci l j q a b
set_option maxRecDepth 100000 in
set_option maxHeartbeats 4000000 in
theorem k_X3 {pre lay lay1 : List fm_L} {n : Nat} {mem : fm_M} (hn : pre.length = n) (h0 : pre ++ [.inr (3, [some none])] = lay) (h1 : pre ++ [.inr (3, [some (some (n + 1))]), .inl (0, 16)] = lay1) (hc : fm_clo (n + 1) lay) (hb : n + 1 < 1000) (hm : mem (n + 1) = fun _ => 0) : fm_Nw lay 1 m_X3_init [.ref n] mem (fun l m => l = lay1 ∧ m = mem) 1 16 := by
  subst hn; subst h0; subst h1
  have hl : (pre ++ [(.inr (3, [some none]) : fm_L)]).length = pre.length + 1 := by simp
  have hp : pre.length < (pre ++ [(.inr (3, [some none]) : fm_L)]).length := by omega
  refine fm_Nw_of (ls := [some (.ref pre.length)]) (by decide) rfl rfl (fm_cc_r _ fm_cc_0) (Nat.le_of_ble_eq_true rfl) rfl ?_
  refine gw_aload_n (pc := 0) dX3_init_0 rfl rfl ?_
  refine gw_objInit (pc := 1) dX3_init_1 kw_mX3_3 kw_oi kw_oc (by decide) (Nat.le_of_ble_eq_true rfl) ?_
  refine gw_aload_n (pc := 4) dX3_init_4 rfl rfl ?_
  refine gw_bipush (pc := 5) (v := (16 : Int32)) dX3_init_5 (by decide) ?_
  refine gw_newI (pc := 7) (n := 16) dX3_init_7 kw_aI (by decide) (by decide) (by decide) (by rw [hl]; exact hm) (by rw [hl]; exact hc) (by omega) (Nat.le_refl _) ⟨Or.inl hp, trivial⟩ ⟨Or.inl hp, trivial⟩ (by decide) (by decide) ?_
  refine gw_putF (pc := 9) (k := 0) (q := pre.length) (l2 := [some none]) (.array .int) (lay1 := pre ++ [.inr (3, [some (some (pre.length + 1))]), .inl (0, 16)]) dX3_init_9 cl_X3 (by simp) (by decide) (by decide) lk_X3_9 rfl rfl (by decide +kernel) (fun _ => rfl) (fun _ => rfl) (by simp) ?_
  refine gw_go (by decide) (by decide) ?_
  exact go_vret (pc := 12) dX3_init_12 rfl ⟨rfl, rfl, rfl⟩
set_option maxRecDepth 100000 in
set_option maxHeartbeats 4000000 in
theorem k_X4 {pre lay lay1 : List fm_L} {n N : Nat} {x : Int32} {mem : fm_M} (hn : pre.length = n) (h0 : pre ++ [.inr (4, [some none, none])] = lay) (h1 : pre ++ [.inr (4, [some (some (n + 1)), none]), .inl (0, N)] = lay1) (hc : fm_clo (n + 1) lay) (hb : n + 1 < 1000) (hm0 : mem n 1 = 0) (hm : mem (n + 1) = fun _ => 0) (hx : ¬ x < 0) (hxN : x.toNatClampNeg = N) (hN : N * 4 ≤ 536870912) : fm_Nw lay 1 m_X4_init [.ref n, .int x] mem (fun l m => l = lay1 ∧ m = mem) 1 N := by
  subst hn; subst h0; subst h1
  have hl : (pre ++ [(.inr (4, [some none, none]) : fm_L)]).length = pre.length + 1 := by simp
  have hp : pre.length < (pre ++ [(.inr (4, [some none, none]) : fm_L)]).length := by omega
  refine fm_Nw_of (ls := [some (.ref pre.length), some (.int x)]) (by decide) rfl rfl (fm_cc_r _ (fm_cc_i _ fm_cc_0)) (Nat.le_of_ble_eq_true rfl) rfl ?_
  refine gw_aload_n (pc := 0) dX4_init_0 rfl rfl ?_
  refine gw_objInit (pc := 1) dX4_init_1 kw_mX4_1 kw_oi kw_oc (by decide) (Nat.le_of_ble_eq_true rfl) ?_
  refine gw_aload_n (pc := 4) dX4_init_4 rfl rfl ?_
  refine gw_iconst (pc := 5) (v := (0 : Int32)) dX4_init_5 (by decide) ?_
  refine gw_putI (pc := 6) (k := 1) (l2 := [some none, none]) .int dX4_init_6 cl_X4 (by simp) rfl (by decide) lk_X4_7 rfl (by decide +kernel) rfl rfl hm0 ?_
  refine gw_aload_n (pc := 9) dX4_init_9 rfl rfl ?_
  refine gw_iload_n (pc := 10) dX4_init_10 rfl rfl ?_
  refine gw_iconst (pc := 11) (v := (0 : Int32)) dX4_init_11 (by decide) ?_
  refine gw_max (pc := 12) dX4_init_12 kw_mX4_13 (by decide) (by decide) (Nat.zero_le _) (Nat.le_of_ble_eq_true rfl) ?_
  rw [if_neg hx]
  refine gw_newI (pc := 15) (n := N) dX4_init_15 kw_aI hx hxN hN (by rw [hl]; exact hm) (by rw [hl]; exact hc) (by omega) (Nat.le_refl _) ⟨Or.inl hp, trivial, trivial⟩ ⟨Or.inl hp, trivial⟩ (by decide) (by omega) ?_
  refine gw_putF (pc := 17) (k := 0) (q := pre.length) (l2 := [some none, none]) (.array .int) (lay1 := pre ++ [.inr (4, [some (some (pre.length + 1)), none]), .inl (0, N)]) dX4_init_17 cl_X4 (by simp) (by decide) (by decide) lk_X4_19 rfl rfl (by decide +kernel) (fun _ => rfl) (fun _ => rfl) (by simp) ?_
  refine gw_go (by decide) (by omega) ?_
  exact go_vret (pc := 20) dX4_init_20 rfl ⟨rfl, rfl, rfl⟩

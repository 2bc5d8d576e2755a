abbrev m_J0_coder_7d493 : fm_Me := (yJ0_coder_7d493, cJ0_coder_7d493, 1, some .byte, RJ0)
theorem ce_J0_coder_7d493 : fm_callee m_J0_coder_7d493 0 := fm_callee_of 0 (fm_mem 526 (by decide +kernel) (by decide +kernel)) (fm_mem 29 (by decide +kernel) (by decide +kernel)) (by decide +kernel) (by decide +kernel) (by decide)
theorem in_J0_coder_7d493 : Cond.instanceMethod yJ0_coder_7d493 ∈ fm_G := fm_mem 524 (by decide +kernel) (by decide +kernel)
theorem se_J0_coder_7d493 : Cond.selects RJ0 yJ0_coder_7d493 yJ0_coder_7d493 ∈ fm_G := fm_mem 525 (by decide +kernel) (by decide +kernel)
abbrev m_J0_isLatin1_aae02 : fm_Me := (yJ0_isLatin1_aae02, cJ0_isLatin1_aae02, 1, some .boolean, RJ0)
theorem ce_J0_isLatin1_aae02 : fm_callee m_J0_isLatin1_aae02 0 := fm_callee_of 0 (fm_mem 536 (by decide +kernel) (by decide +kernel)) (fm_mem 29 (by decide +kernel) (by decide +kernel)) (by decide +kernel) (by decide +kernel) (by decide)
theorem in_J0_isLatin1_aae02 : Cond.instanceMethod yJ0_isLatin1_aae02 ∈ fm_G := fm_mem 534 (by decide +kernel) (by decide +kernel)
theorem se_J0_isLatin1_aae02 : Cond.selects RJ0 yJ0_isLatin1_aae02 yJ0_isLatin1_aae02 ∈ fm_G := fm_mem 535 (by decide +kernel) (by decide +kernel)
abbrev m_J0_length_8abf5 : fm_Me := (yJ0_length_8abf5, cJ0_length_8abf5, 1, some .int, RJ0)
theorem ce_J0_length_8abf5 : fm_callee m_J0_length_8abf5 0 := fm_callee_of 0 (fm_mem 522 (by decide +kernel) (by decide +kernel)) (fm_mem 29 (by decide +kernel) (by decide +kernel)) (by decide +kernel) (by decide +kernel) (by decide)
theorem in_J0_length_8abf5 : Cond.instanceMethod yJ0_length_8abf5 ∈ fm_G := fm_mem 520 (by decide +kernel) (by decide +kernel)
theorem se_J0_length_8abf5 : Cond.selects RJ0 yJ0_length_8abf5 yJ0_length_8abf5 ∈ fm_G := fm_mem 521 (by decide +kernel) (by decide +kernel)
abbrev m_J3_checkIndex_8e157 : fm_Me := (yJ3_checkIndex_8e157, cJ3_checkIndex_8e157, 3, some .int, RJ3)
theorem ce_J3_checkIndex_8e157 : fm_callee m_J3_checkIndex_8e157 3 := fm_callee_of 3 (fm_mem 547 (by decide +kernel) (by decide +kernel)) (fm_mem 31 (by decide +kernel) (by decide +kernel)) (by decide +kernel) (by decide +kernel) (by decide)
theorem st_J3_checkIndex_8e157 : Cond.static yJ3_checkIndex_8e157 ∈ fm_G := fm_mem 546 (by decide +kernel) (by decide +kernel)
abbrev m_J0_checkIndex_df160 : fm_Me := (yJ0_checkIndex_df160, cJ0_checkIndex_df160, 2, none, RJ0)
theorem ce_J0_checkIndex_df160 : fm_callee m_J0_checkIndex_df160 2 := fm_callee_of 2 (fm_mem 542 (by decide +kernel) (by decide +kernel)) (fm_mem 29 (by decide +kernel) (by decide +kernel)) (by decide +kernel) (by decide +kernel) (by decide)
theorem st_J0_checkIndex_df160 : Cond.static yJ0_checkIndex_df160 ∈ fm_G := fm_mem 541 (by decide +kernel) (by decide +kernel)
abbrev m_J1_charAt_3b067 : fm_Me := (yJ1_charAt_3b067, cJ1_charAt_3b067, 2, some .char, RJ1)
theorem ce_J1_charAt_3b067 : fm_callee m_J1_charAt_3b067 2 := fm_callee_of 2 (fm_mem 539 (by decide +kernel) (by decide +kernel)) (fm_mem 30 (by decide +kernel) (by decide +kernel)) (by decide +kernel) (by decide +kernel) (by decide)
theorem st_J1_charAt_3b067 : Cond.static yJ1_charAt_3b067 ∈ fm_G := fm_mem 538 (by decide +kernel) (by decide +kernel)
abbrev m_J0_charAt_5068e : fm_Me := (yJ0_charAt_5068e, cJ0_charAt_5068e, 2, some .char, RJ0)
theorem ce_J0_charAt_5068e : fm_callee m_J0_charAt_5068e 1 := fm_callee_of 1 (fm_mem 532 (by decide +kernel) (by decide +kernel)) (fm_mem 29 (by decide +kernel) (by decide +kernel)) (by decide +kernel) (by decide +kernel) (by decide)
theorem in_J0_charAt_5068e : Cond.instanceMethod yJ0_charAt_5068e ∈ fm_G := fm_mem 530 (by decide +kernel) (by decide +kernel)
theorem se_J0_charAt_5068e : Cond.selects RJ0 yJ0_charAt_5068e yJ0_charAt_5068e ∈ fm_G := fm_mem 531 (by decide +kernel) (by decide +kernel)
theorem ml_J0_335 : Cond.methodLink RJ0 335 yJ0_coder_7d493 ∈ fm_G := fm_mem 523 (by decide +kernel) (by decide +kernel)
theorem ml_J0_492 : Cond.methodLink RJ0 492 yJ0_isLatin1_aae02 ∈ fm_G := fm_mem 533 (by decide +kernel) (by decide +kernel)
theorem ml_J0_495 : Cond.methodLink RJ0 495 yJ1_charAt_3b067 ∈ fm_G := fm_mem 537 (by decide +kernel) (by decide +kernel)
theorem ml_J0_1059 : Cond.methodLink RJ0 1059 yJ3_checkIndex_8e157 ∈ fm_G := fm_mem 545 (by decide +kernel) (by decide +kernel)
theorem ml_J1_9 : Cond.methodLink RJ1 9 yJ0_checkIndex_df160 ∈ fm_G := fm_mem 540 (by decide +kernel) (by decide +kernel)
theorem lk_J0_9 : Cond.fieldLink RJ0 9 "java/lang/String" "value" "[B" ∈ fm_G := fm_mem 811 (by decide +kernel) (by decide +kernel)
theorem lk_J0_15 : Cond.fieldLink RJ0 15 "java/lang/String" "coder" "B" ∈ fm_G := fm_mem 812 (by decide +kernel) (by decide +kernel)
theorem lk_J0_38 : Cond.fieldLink RJ0 38 "java/lang/String" "COMPACT_STRINGS" "Z" ∈ fm_G := fm_mem 527 (by decide +kernel) (by decide +kernel)
theorem lk_J0_1053 : Cond.fieldLink RJ0 1053 "jdk/internal/util/Preconditions" "SIOOBE_FORMATTER" "Ljava/util/function/BiFunction;" ∈ fm_G := fm_mem 543 (by decide +kernel) (by decide +kernel)
theorem ml_X2_73 : Cond.methodLink RX2 73 yJ0_length_8abf5 ∈ fm_G := fm_mem 612 (by decide +kernel) (by decide +kernel)
theorem ml_X2_78 : Cond.methodLink RX2 78 yJ0_charAt_5068e ∈ fm_G := fm_mem 613 (by decide +kernel) (by decide +kernel)
/-! the texts: length and charAt -/
theorem sx_shr : ∀ i, i < 16 → (Int32.ofNat (fm_len.getD i 0)) >>> ((0 : Int32) &&& 31) = Int32.ofNat (fm_len.getD i 0) := by decide +kernel
theorem sx_len : ∀ i, i < 16 → fm_len.getD i 0 ≤ 19 ∧ (fm_byt.getD i []).length = fm_len.getD i 0 := by decide +kernel
theorem sx_chr : ∀ i, i < 16 → ∀ j, j < 19 → ((((fm_byt.getD i []).getD j 0) &&& 255).toUInt32 % 65536).toInt32 = (fm_byt.getD i []).getD j 0 ∧ narrow .char (.int ((fm_byt.getD i []).getD j 0)) = .int ((fm_byt.getD i []).getD j 0) := by decide +kernel
theorem c_J0_coder {lay : List fm_L} {i : Nat} (hi : i < 16) (m : fm_M) : fm_Met lay 0 m_J0_coder_7d493 [.ref (1000 + i)] m (fm_pi 0 m) := by
  refine fm_Met_of (ls := [some (.ref (1000 + i))]) (by decide) rfl (fm_cc_r _ fm_cc_0) (Nat.le_of_ble_eq_true rfl) rfl ?_
  refine go_getsC (pc := 0) dJ0_coder_7d493_0 lk_J0_38 ?_
  refine go_if_eq (pc := 3) (tgt := 13) dJ0_coder_7d493_3 (by decide) (fun c => absurd c (by decide)) (fun _ => ?_)
  refine go_aload_n (pc := 6) dJ0_coder_7d493_6 rfl rfl ?_
  refine go_strcod (pc := 7) dJ0_coder_7d493_7 hi lk_J0_15 ?_
  refine go_goto (pc := 10) (tgt := 14) dJ0_coder_7d493_10 (by decide) ?_
  exact go_iret (pc := 14) .byte dJ0_coder_7d493_14 rfl rfl ⟨rfl, rfl⟩
theorem c_J0_isLatin1 {lay : List fm_L} {i : Nat} (hi : i < 16) (m : fm_M) : fm_Met lay 0 m_J0_isLatin1_aae02 [.ref (1000 + i)] m (fm_pi 1 m) := by
  refine fm_Met_of (ls := [some (.ref (1000 + i))]) (by decide) rfl (fm_cc_r _ fm_cc_0) (Nat.le_of_ble_eq_true rfl) rfl ?_
  refine go_getsC (pc := 0) dJ0_isLatin1_aae02_0 lk_J0_38 ?_
  refine go_if_eq (pc := 3) (tgt := 17) dJ0_isLatin1_aae02_3 (by decide) (fun c => absurd c (by decide)) (fun _ => ?_)
  refine go_aload_n (pc := 6) dJ0_isLatin1_aae02_6 rfl rfl ?_
  refine go_strcod (pc := 7) dJ0_isLatin1_aae02_7 hi lk_J0_15 ?_
  refine go_if_ne (pc := 10) (tgt := 17) dJ0_isLatin1_aae02_10 (by decide) (fun c => absurd rfl c) (fun _ => ?_)
  refine go_iconst (pc := 13) (v := 1) dJ0_isLatin1_aae02_13 (by decide) ?_
  refine go_goto (pc := 14) (tgt := 18) dJ0_isLatin1_aae02_14 (by decide) ?_
  exact go_iret (pc := 18) .boolean dJ0_isLatin1_aae02_18 rfl rfl ⟨rfl, rfl⟩
theorem c_J0_length {lay : List fm_L} {i : Nat} (hi : i < 16) (m : fm_M) : fm_Met lay 1 m_J0_length_8abf5 [.ref (1000 + i)] m (fm_pi (Int32.ofNat (fm_len.getD i 0)) m) := by
  refine fm_Met_of (ls := [some (.ref (1000 + i))]) (by decide) rfl (fm_cc_r _ fm_cc_0) (Nat.le_of_ble_eq_true rfl) rfl ?_
  refine go_aload_n (pc := 0) dJ0_length_8abf5_0 rfl rfl ?_
  refine go_strval (pc := 1) dJ0_length_8abf5_1 hi lk_J0_9 ?_
  refine go_stralen (pc := 4) dJ0_length_8abf5_4 hi ?_
  refine go_aload_n (pc := 5) dJ0_length_8abf5_5 rfl rfl ?_
  refine go_callTi (pc := 6) (As := []) (st := [.int (Int32.ofNat (fm_len.getD i 0))]) dJ0_length_8abf5_6 hi (c_J0_coder hi m) (by decide) ce_J0_coder_7d493 ml_J0_335 in_J0_coder_7d493 se_J0_coder_7d493 rfl (Nat.le_of_ble_eq_true rfl) rfl ?_
  refine go_ishr (pc := 9) dJ0_length_8abf5_9 ?_
  exact go_iret (pc := 10) .int dJ0_length_8abf5_10 rfl rfl ⟨by rw [sx_shr i hi], rfl⟩
theorem c_J3_checkIndex {lay : List fm_L} {x n : Int32} {w : Value} (hw : w = .null ∨ w = .ref 3000) (h0 : ¬ x < 0) (h1 : x < n) (m : fm_M) : fm_Met lay 0 m_J3_checkIndex_8e157 [.int x, .int n, w] m (fm_pi x m) := by
  have hcat : w.category = 1 := by rcases hw with rfl | rfl <;> rfl
  refine fm_Met_of (ls := [some (.int x), some (.int n), some w]) (by decide) rfl (fm_cc_i _ (fm_cc_i _ (List.forall_mem_cons.mpr ⟨hcat, fm_cc_0⟩))) (Nat.le_of_ble_eq_true rfl) rfl ?_
  refine go_iload_n (pc := 0) dJ3_checkIndex_8e157_0 rfl rfl ?_
  refine go_if_lt (pc := 1) (tgt := 9) dJ3_checkIndex_8e157_1 (by decide) (fun c => absurd c h0) (fun _ => ?_)
  refine go_iload_n (pc := 4) dJ3_checkIndex_8e157_4 rfl rfl ?_
  refine go_iload_n (pc := 5) dJ3_checkIndex_8e157_5 rfl rfl ?_
  refine go_icmp_lt (pc := 6) (tgt := 16) dJ3_checkIndex_8e157_6 (by decide) (fun _ => ?_) (fun c => absurd h1 c)
  refine go_iload_n (pc := 16) dJ3_checkIndex_8e157_16 rfl rfl ?_
  exact go_iret (pc := 17) .int dJ3_checkIndex_8e157_17 rfl rfl ⟨rfl, rfl⟩
theorem c_J0_checkIndex {lay : List fm_L} {x n : Int32} (h0 : ¬ x < 0) (h1 : x < n) (m : fm_M) : fm_Met lay 1 m_J0_checkIndex_df160 [.int x, .int n] m (fm_pv m) := by
  refine fm_Met_of (ls := [some (.int x), some (.int n)]) (by decide) rfl (fm_cc_i _ (fm_cc_i _ fm_cc_0)) (Nat.le_of_ble_eq_true rfl) rfl ?_
  refine go_iload_n (pc := 0) dJ0_checkIndex_df160_0 rfl rfl ?_
  refine go_iload_n (pc := 1) dJ0_checkIndex_df160_1 rfl rfl ?_
  refine go_getsF (pc := 2) dJ0_checkIndex_df160_2 lk_J0_1053 (fun w hw => ?_)
  refine go_callSi (pc := 5) (As := [.int x, .int n, w]) (st := []) dJ0_checkIndex_df160_5 (c_J3_checkIndex hw h0 h1 m) (by decide) ce_J3_checkIndex_8e157 ml_J0_1059 st_J3_checkIndex_8e157 rfl (Nat.le_of_ble_eq_true rfl) rfl ?_
  refine go_pop (pc := 8) dJ0_checkIndex_df160_8 rfl ?_
  exact go_vret (pc := 9) dJ0_checkIndex_df160_9 rfl ⟨rfl, rfl⟩
theorem sx_in {x : Int32} {n : Nat} (h : vp_in x n) (hn : n < 2 ^ 31) : ¬ x < 0 ∧ x < Int32.ofNat n := by
  obtain ⟨j, hj, rfl⟩ := vp_in_of h hn
  exact ⟨nI_pos (by omega), nI_lt hj (by omega)⟩
theorem sx_cl {x : Int32} {n : Nat} (h : vp_in x n) : x.toNatClampNeg < n := Nat.not_le.mp fun q => h (Or.inr q)
theorem c_J1_charAt {lay : List fm_L} {i : Nat} {x : Int32} (hi : i < 16) (hx : vp_in x (fm_len.getD i 0)) (m : fm_M) : fm_Met lay 2 m_J1_charAt_3b067 [.ref (2000 + i), .int x] m (fm_pi ((fm_byt.getD i []).getD x.toNatClampNeg 0) m) := by
  have hl := sx_len i hi
  have hb := sx_in hx (by omega)
  have hc := sx_chr i hi x.toNatClampNeg (by have := sx_cl hx; omega)
  refine fm_Met_of (ls := [some (.ref (2000 + i)), some (.int x)]) (by decide) rfl (fm_cc_r _ (fm_cc_i _ fm_cc_0)) (Nat.le_of_ble_eq_true rfl) rfl ?_
  refine go_iload_n (pc := 0) dJ1_charAt_3b067_0 rfl rfl ?_
  refine go_aload_n (pc := 1) dJ1_charAt_3b067_1 rfl rfl ?_
  refine go_stralen (pc := 2) dJ1_charAt_3b067_2 hi ?_
  refine go_callSv (pc := 3) (As := [.int x, .int (Int32.ofNat (fm_len.getD i 0))]) (st := []) dJ1_charAt_3b067_3 (c_J0_checkIndex hb.1 hb.2 m) (by decide) ce_J0_checkIndex_df160 ml_J1_9 st_J0_checkIndex_df160 rfl (Nat.le_of_ble_eq_true rfl) rfl ?_
  refine go_aload_n (pc := 6) dJ1_charAt_3b067_6 rfl rfl ?_
  refine go_iload_n (pc := 7) dJ1_charAt_3b067_7 rfl rfl ?_
  refine go_strbald (pc := 8) dJ1_charAt_3b067_8 hi hx ?_
  refine go_sipush (pc := 9) (v := 255) dJ1_charAt_3b067_9 (by decide) ?_
  refine go_iand (pc := 12) dJ1_charAt_3b067_12 ?_
  refine go_i2c (pc := 13) dJ1_charAt_3b067_13 ?_
  rw [hc.1]
  exact go_iret (pc := 14) .char dJ1_charAt_3b067_14 rfl hc.2 ⟨rfl, rfl⟩
theorem c_J0_charAt {lay : List fm_L} {i : Nat} {x : Int32} (hi : i < 16) (hx : vp_in x (fm_len.getD i 0)) (m : fm_M) : fm_Met lay 3 m_J0_charAt_5068e [.ref (1000 + i), .int x] m (fm_pi ((fm_byt.getD i []).getD x.toNatClampNeg 0) m) := by
  have hl := sx_len i hi
  have hc := sx_chr i hi x.toNatClampNeg (by have := sx_cl hx; omega)
  refine fm_Met_of (ls := [some (.ref (1000 + i)), some (.int x)]) (by decide) rfl (fm_cc_r _ (fm_cc_i _ fm_cc_0)) (Nat.le_of_ble_eq_true rfl) rfl ?_
  refine go_aload_n (pc := 0) dJ0_charAt_5068e_0 rfl rfl ?_
  refine go_callTi (pc := 1) (As := []) (st := []) dJ0_charAt_5068e_1 hi (c_J0_isLatin1 hi m) (by decide) ce_J0_isLatin1_aae02 ml_J0_492 in_J0_isLatin1_aae02 se_J0_isLatin1_aae02 rfl (Nat.le_of_ble_eq_true rfl) rfl ?_
  refine go_if_eq (pc := 4) (tgt := 16) dJ0_charAt_5068e_4 (by decide) (fun c => absurd c (by decide)) (fun _ => ?_)
  refine go_aload_n (pc := 7) dJ0_charAt_5068e_7 rfl rfl ?_
  refine go_strval (pc := 8) dJ0_charAt_5068e_8 hi lk_J0_9 ?_
  refine go_iload_n (pc := 11) dJ0_charAt_5068e_11 rfl rfl ?_
  refine go_callSi (pc := 12) (As := [.ref (2000 + i), .int x]) (st := []) dJ0_charAt_5068e_12 (c_J1_charAt hi hx m) (by decide) ce_J1_charAt_3b067 ml_J0_495 st_J1_charAt_3b067 rfl (Nat.le_of_ble_eq_true rfl) rfl ?_
  exact go_iret (pc := 15) .char dJ0_charAt_5068e_15 rfl hc.2 ⟨rfl, rfl⟩

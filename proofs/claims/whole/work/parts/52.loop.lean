/-! the law's switch and its loop -/
set_option maxRecDepth 100000 in
set_option maxHeartbeats 4000000 in
theorem ll_sw {L : Nat} {xs : Nat → Int32} {Post : Option Value → fm_M → Prop} {t : Nat} {m : fm_M} {x3 x : Int32} (ht : t < 512) (hi : mi_Inv t m) (hv1 : vp_in (x3 + 1) L) (hv2 : vp_in (x3 + 2) L) (hk : ∀ m', mi_Inv (t + 1) m' → fm_GL L xs fm_layW 11 m_L_law Post 1060 [some (.ref 4000), some (.ref 0), some (.ref 23), some (.int x3), none, none, none, none] [] m') (hi1 : mi_Inv (t + 1) m) : fm_GL L xs fm_layW 11 m_L_law Post 32 [some (.ref 4000), some (.ref 0), some (.ref 23), some (.int x3), none, none, none, none] [.int x] m := by
  by_cases c0 : x = (0 : Int32)
  · exact gl_tswHit (pc := 32) (tgt := 192) dL_law_32 c0 (by decide) (by decide) rfl (by decide) (lc_0 mg_come ht hi hv1 hv2 hk)
  by_cases c1 : x = (1 : Int32)
  · exact gl_tswHit (pc := 32) (tgt := 241) dL_law_32 c1 (by decide) (by decide) rfl (by decide) (lc_1 mg_withdraw ht hi hv1 hv2 hk)
  by_cases c2 : x = (2 : Int32)
  · exact gl_tswHit (pc := 32) (tgt := 264) dL_law_32 c2 (by decide) (by decide) rfl (by decide) (lc_2 mg_voice ht hi hv1 hv2 hk)
  by_cases c3 : x = (3 : Int32)
  · exact gl_tswHit (pc := 32) (tgt := 297) dL_law_32 c3 (by decide) (by decide) rfl (by decide) (lc_3 mg_choose ht hi hv1 hv2 hk)
  by_cases c4 : x = (4 : Int32)
  · exact gl_tswHit (pc := 32) (tgt := 320) dL_law_32 c4 (by decide) (by decide) rfl (by decide) (lc_4 mg_leave ht hi hv1 hv2 hk)
  by_cases c5 : x = (5 : Int32)
  · exact gl_tswHit (pc := 32) (tgt := 343) dL_law_32 c5 (by decide) (by decide) rfl (by decide) (lc_5 mg_feast ht hi hv1 hv2 hk)
  by_cases c6 : x = (6 : Int32)
  · exact gl_tswHit (pc := 32) (tgt := 376) dL_law_32 c6 (by decide) (by decide) rfl (by decide) (lc_6 mg_breach ht hi hv1 hv2 hk)
  by_cases c7 : x = (7 : Int32)
  · exact gl_tswHit (pc := 32) (tgt := 409) dL_law_32 c7 (by decide) (by decide) rfl (by decide) (lc_7 mg_pardon ht hi hv1 hv2 hk)
  by_cases c8 : x = (8 : Int32)
  · exact gl_tswHit (pc := 32) (tgt := 432) dL_law_32 c8 (by decide) (by decide) rfl (by decide) (lc_8 mg_gift ht hi hv1 hv2 hk)
  by_cases c9 : x = (9 : Int32)
  · exact gl_tswHit (pc := 32) (tgt := 455) dL_law_32 c9 (by decide) (by decide) rfl (by decide) (lc_9 mg_weeks ht hi hv1 hv2 hk)
  by_cases c10 : x = (10 : Int32)
  · exact gl_tswHit (pc := 32) (tgt := 478) dL_law_32 c10 (by decide) (by decide) rfl (by decide) (lc_10 mg_brotherOf ht hi hv1 hv2 hk)
  by_cases c11 : x = (11 : Int32)
  · exact gl_tswHit (pc := 32) (tgt := 511) dL_law_32 c11 (by decide) (by decide) rfl (by decide) (lc_11 mg_broke ht hi hv1 hv2 hk)
  by_cases c12 : x = (12 : Int32)
  · exact gl_tswHit (pc := 32) (tgt := 544) dL_law_32 c12 (by decide) (by decide) rfl (by decide) (lc_12 mg_inCell ht hi hv1 hv2 hk)
  by_cases c13 : x = (13 : Int32)
  · exact gl_tswHit (pc := 32) (tgt := 567) dL_law_32 c13 (by decide) (by decide) rfl (by decide) (lc_13 mg_entitled ht hi hv1 hv2 hk)
  by_cases c14 : x = (14 : Int32)
  · exact gl_tswHit (pc := 32) (tgt := 580) dL_law_32 c14 (by decide) (by decide) rfl (by decide) (lc_14 mg_entitledAgain ht hi hv1 hv2 hk)
  by_cases c15 : x = (15 : Int32)
  · exact gl_tswHit (pc := 32) (tgt := 593) dL_law_32 c15 (by decide) (by decide) rfl (by decide) (lc_15 mg_voices ht hi hv1 hv2 hk)
  by_cases c16 : x = (16 : Int32)
  · exact gl_tswHit (pc := 32) (tgt := 616) dL_law_32 c16 (by decide) (by decide) rfl (by decide) (lc_16 mg_voicesAgain ht hi hv1 hv2 hk)
  by_cases c17 : x = (17 : Int32)
  · exact gl_tswHit (pc := 32) (tgt := 639) dL_law_32 c17 (by decide) (by decide) rfl (by decide) (lc_17 mg_ranked ht hi hv1 hv2 hk)
  by_cases c18 : x = (18 : Int32)
  · exact gl_tswHit (pc := 32) (tgt := 662) dL_law_32 c18 (by decide) (by decide) rfl (by decide) (lc_18 mg_senior ht hi hv1 hv2 hk)
  by_cases c19 : x = (19 : Int32)
  · exact gl_tswHit (pc := 32) (tgt := 685) dL_law_32 c19 (by decide) (by decide) rfl (by decide) (lc_19 mg_shabby ht hi hv1 hv2 hk)
  by_cases c20 : x = (20 : Int32)
  · exact gl_tswHit (pc := 32) (tgt := 708) dL_law_32 c20 (by decide) (by decide) rfl (by decide) (lc_20 mg_nextFeast ht hi hv1 hv2 hk)
  by_cases c21 : x = (21 : Int32)
  · exact gl_tswHit (pc := 32) (tgt := 721) dL_law_32 c21 (by decide) (by decide) rfl (by decide) (lc_21 mg_wouldGet ht hi hv1 hv2 hk)
  by_cases c22 : x = (22 : Int32)
  · exact gl_tswHit (pc := 32) (tgt := 754) dL_law_32 c22 (by decide) (by decide) rfl (by decide) (lc_22 mg_chestIn ht hi hv1 hv2 hk)
  by_cases c23 : x = (23 : Int32)
  · exact gl_tswHit (pc := 32) (tgt := 777) dL_law_32 c23 (by decide) (by decide) rfl (by decide) (lc_23 mg_append ht hi hv1 hv2 hk)
  by_cases c24 : x = (24 : Int32)
  · exact gl_tswHit (pc := 32) (tgt := 800) dL_law_32 c24 (by decide) (by decide) rfl (by decide) (lc_24 mg_run ht hi hv1 hv2 hk)
  by_cases c25 : x = (25 : Int32)
  · exact gl_tswHit (pc := 32) (tgt := 813) dL_law_32 c25 (by decide) (by decide) rfl (by decide) (lc_25 mg_tell ht hi hv1 hv2 hk)
  by_cases c26 : x = (26 : Int32)
  · exact gl_tswHit (pc := 32) (tgt := 826) dL_law_32 c26 (by decide) (by decide) rfl (by decide) (lc_26 mg_tellWaiting ht hi hv1 hv2 hk)
  by_cases c27 : x = (27 : Int32)
  · exact gl_tswHit (pc := 32) (tgt := 839) dL_law_32 c27 (by decide) (by decide) rfl (by decide) (lc_27 mg_character ht hi hv1 hv2 hk)
  by_cases c28 : x = (28 : Int32)
  · exact gl_tswHit (pc := 32) (tgt := 862) dL_law_32 c28 (by decide) (by decide) rfl (by decide) (lc_28 mg_reason ht hi hv1 hv2 hk)
  by_cases c29 : x = (29 : Int32)
  · exact gl_tswHit (pc := 32) (tgt := 901) dL_law_32 c29 (by decide) (by decide) rfl (by decide) (lc_29 mg_account ht hi hv1 hv2 hk)
  by_cases c30 : x = (30 : Int32)
  · exact gl_tswHit (pc := 32) (tgt := 924) dL_law_32 c30 (by decide) (by decide) rfl (by decide) (lc_30 mg_isBalanced ht hi hv1 hv2 hk)
  by_cases c31 : x = (31 : Int32)
  · exact gl_tswHit (pc := 32) (tgt := 937) dL_law_32 c31 (by decide) (by decide) rfl (by decide) (lc_31 mg_meanAge ht hi hk)
  by_cases c32 : x = (32 : Int32)
  · exact gl_tswHit (pc := 32) (tgt := 978) dL_law_32 c32 (by decide) (by decide) rfl (by decide) (lc_32 mg_entitledShare ht hi hk)
  by_cases c33 : x = (33 : Int32)
  · exact gl_tswHit (pc := 32) (tgt := 1021) dL_law_32 c33 (by decide) (by decide) rfl (by decide) (lc_33 mg_undo ht hi hv1 hv2 hk)
  by_cases c34 : x = (34 : Int32)
  · exact gl_tswHit (pc := 32) (tgt := 1034) dL_law_32 c34 (by decide) (by decide) rfl (by decide) (lc_34 mg_save ht hi hv1 hv2 hk)
  by_cases c35 : x = (35 : Int32)
  · exact gl_tswHit (pc := 32) (tgt := 1047) dL_law_32 c35 (by decide) (by decide) rfl (by decide) (lc_35 mg_restore ht hi hv1 hv2 hk)
  refine gl_tswMiss (pc := 32) (tgt := 1060) dL_law_32 36 (by decide) (fun j hj => Or.inl (fun z => ?_)) (by decide) (hk m hi1)
  rw [show (0 : Int) + (j : Int) = (j : Int) by omega] at z
  have e : x = ma_i j := Int32.toInt_inj.mp (by rw [z, ma_int (by omega)])
  subst e
  match j, hj with
  | 0, _ => exact c0 rfl
  | 1, _ => exact c1 rfl
  | 2, _ => exact c2 rfl
  | 3, _ => exact c3 rfl
  | 4, _ => exact c4 rfl
  | 5, _ => exact c5 rfl
  | 6, _ => exact c6 rfl
  | 7, _ => exact c7 rfl
  | 8, _ => exact c8 rfl
  | 9, _ => exact c9 rfl
  | 10, _ => exact c10 rfl
  | 11, _ => exact c11 rfl
  | 12, _ => exact c12 rfl
  | 13, _ => exact c13 rfl
  | 14, _ => exact c14 rfl
  | 15, _ => exact c15 rfl
  | 16, _ => exact c16 rfl
  | 17, _ => exact c17 rfl
  | 18, _ => exact c18 rfl
  | 19, _ => exact c19 rfl
  | 20, _ => exact c20 rfl
  | 21, _ => exact c21 rfl
  | 22, _ => exact c22 rfl
  | 23, _ => exact c23 rfl
  | 24, _ => exact c24 rfl
  | 25, _ => exact c25 rfl
  | 26, _ => exact c26 rfl
  | 27, _ => exact c27 rfl
  | 28, _ => exact c28 rfl
  | 29, _ => exact c29 rfl
  | 30, _ => exact c30 rfl
  | 31, _ => exact c31 rfl
  | 32, _ => exact c32 rfl
  | 33, _ => exact c33 rfl
  | 34, _ => exact c34 rfl
  | 35, _ => exact c35 rfl
  | j + 36, hj => exact absurd hj (by omega)
set_option maxRecDepth 100000 in
theorem ll_gt {L t : Nat} (hL : L ≤ 1536) (ht : t ≤ 512) : (Int32.ofNat L - 3 < ma_i (3 * t)) ↔ ¬ 3 * t + 3 ≤ L := by
  by_cases h : 3 ≤ L
  · have e : Int32.ofNat L - 3 = ma_i (L - 3) := ma_sub h
    rw [e, ma_lt (by omega) (by omega)]
    omega
  · have hn : Int32.ofNat L - 3 < 0 := by
      match L, h with
      | 0, _ => decide
      | 1, _ => decide
      | 2, _ => decide
      | L + 3, h => exact absurd (Nat.le_add_left 3 L) h
    have hp : (0 : Int32) ≤ ma_i (3 * t) := ma_z0 (by omega)
    exact ⟨fun _ => by omega, fun _ => Int32.lt_of_lt_of_le hn hp⟩
set_option maxRecDepth 100000 in
set_option maxHeartbeats 4000000 in
theorem ll_loop {L : Nat} {xs : Nat → Int32} {Post : Option Value → fm_M → Prop} (hL : L ≤ 1536) (hPost : ∀ m, Post (some (.int 1)) m) : ∀ (n t : Nat) (m : fm_M), t + n = 512 → mi_Inv t m → fm_GL L xs fm_layW 11 m_L_law Post 18 [some (.ref 4000), some (.ref 0), some (.ref 23), some (.int (ma_i (3 * t))), none, none, none, none] [] m := by
  intro n
  induction n with
  | zero =>
    intro t m hn hi
    refine gl_iload_n (pc := 18) dL_law_18 rfl rfl ?_
    refine gl_aload_n (pc := 19) dL_law_19 rfl rfl ?_
    refine gl_slen (pc := 20) dL_law_20 ?_
    refine gl_iconst (pc := 21) (v := (3 : Int32)) dL_law_21 (by decide) ?_
    refine gl_isub (pc := 22) dL_law_22 ?_
    refine gl_icmp_gt (pc := 23) (tgt := 1066) dL_law_23 (by decide) (fun _ => ?_) (fun z => absurd ((ll_gt hL (by omega)).mpr (by omega)) z)
    refine gl_iconst (pc := 1066) (v := (1 : Int32)) dL_law_1066 (by decide) ?_
    exact gl_iret (pc := 1067) .boolean dL_law_1067 rfl rfl (hPost m)
  | succ n ih =>
    intro t m hn hi
    refine gl_iload_n (pc := 18) dL_law_18 rfl rfl ?_
    refine gl_aload_n (pc := 19) dL_law_19 rfl rfl ?_
    refine gl_slen (pc := 20) dL_law_20 ?_
    refine gl_iconst (pc := 21) (v := (3 : Int32)) dL_law_21 (by decide) ?_
    refine gl_isub (pc := 22) dL_law_22 ?_
    refine gl_icmp_gt (pc := 23) (tgt := 1066) dL_law_23 (by decide) (fun _ => ?_) (fun z => ?_)
    · refine gl_iconst (pc := 1066) (v := (1 : Int32)) dL_law_1066 (by decide) ?_
      exact gl_iret (pc := 1067) .boolean dL_law_1067 rfl rfl (hPost m)
    · have hb : 3 * t + 3 ≤ L := Decidable.not_not.mp (fun q => z ((ll_gt hL (by omega)).mpr q))
      have hv0 : vp_in (ma_i (3 * t)) L := fm_in_vp (ma_in (by omega) (by omega))
      have hv1 : vp_in (ma_i (3 * t) + 1) L := by
        rw [show ma_i (3 * t) + 1 = ma_i (3 * t + 1) from ma_add _ 1]
        exact fm_in_vp (ma_in (by omega) (by omega))
      have hv2 : vp_in (ma_i (3 * t) + 2) L := by
        rw [show ma_i (3 * t) + 2 = ma_i (3 * t + 2) from ma_add _ 2]
        exact fm_in_vp (ma_in (by omega) (by omega))
      refine gl_aload_n (pc := 26) dL_law_26 rfl rfl ?_
      refine gl_iload_n (pc := 27) dL_law_27 rfl rfl ?_
      refine gl_sld (pc := 28) dL_law_28 hv0 ?_
      refine gl_bipush (pc := 29) (v := (63 : Int32)) dL_law_29 (by decide) ?_
      refine gl_iand (pc := 31) dL_law_31 ?_
      refine ll_sw (t := t) (by omega) hi hv1 hv2 (fun m2 hm2 => ?_) ?_
      · refine gl_iinc (pc := 1060) (v := ma_i (3 * (t + 1))) dL_law_1060 rfl (ma_add _ 3) (by decide) rfl ?_
        refine gl_goto (pc := 1063) (tgt := 18) dL_law_1063 (by decide) ?_
        exact ih (t + 1) m2 (by omega) hm2
      · exact mi_mono (show 700 * t ≤ 700 * (t + 1) by omega) hi

/-! reads and the rest of the calls -/
theorem mi_cong {B : Nat} {m m2 : fm_M} (h : mi_i B m) (e : ∀ k, (k = 0 ∨ k = 2 ∨ k = 4 ∨ k = 12 ∨ k = 13 ∨ k = 18 ∨ k = 19 ∨ k = 20 ∨ k = 21 ∨ k = 25 ∨ k = 26 ∨ k = 29 ∨ k = 31) → m2 k = m k) (e24 : ma_w (m2 24) = ma_w (m 24)) (e23 : ∀ j, (j = 0 ∨ j = 1 ∨ j = 8 ∨ j = 9 ∨ j = 10 ∨ j = 13 ∨ j = 19) → m2 23 j = m 23 j) : mi_i B m2 := by
  obtain ⟨⟨n, h1⟩, h2, h3, ⟨nx, hh, fi, a1, a2, a3, a4, a5⟩, ⟨L, l1, l2, l3, l4⟩, ⟨K, k1, k2, k3, k4⟩⟩ := h
  refine ⟨⟨n, ?_⟩, ?_, ?_, ⟨nx, hh, fi, ?_, ?_, ?_, ?_, ?_⟩, ⟨L, l1, ?_, ?_, ?_⟩, ⟨K, k1, ?_, ?_, ?_⟩⟩
  · rw [e 2 (by omega), e24]; exact h1
  · unfold mi_save at h2 ⊢
    rw [e 0 (by omega), e23 10 (by omega), e 4 (by omega), e 26 (by omega)]; exact h2
  · rw [e 0 (by omega), e23 0 (by omega), e23 1 (by omega)]; exact h3
  · rw [e 12 (by omega)]; exact a1
  · rw [e 12 (by omega)]; exact a2
  · rw [e23 8 (by omega)]; exact a3
  · rw [e23 9 (by omega)]; exact a4
  · rw [e 13 (by omega), e 25 (by omega)]; exact a5
  · rw [e 18 (by omega)]; exact l2
  · rw [e23 13 (by omega)]; exact l3
  · rw [e 19 (by omega), e 29 (by omega)]; exact l4
  · rw [e 20 (by omega)]; exact k2
  · rw [e23 19 (by omega)]; exact k3
  · rw [e 21 (by omega), e 31 (by omega)]; exact k4
theorem mi_cong1 {B q : Nat} {m : fm_M} {g : Nat → Int32} (h : mi_i B m) (hq : q ≠ 0 ∧ q ≠ 2 ∧ q ≠ 4 ∧ q ≠ 12 ∧ q ≠ 13 ∧ q ≠ 18 ∧ q ≠ 19 ∧ q ≠ 20 ∧ q ≠ 21 ∧ q ≠ 23 ∧ q ≠ 24 ∧ q ≠ 25 ∧ q ≠ 26 ∧ q ≠ 29 ∧ q ≠ 31) : mi_i B (fm_up m q g) :=
  mi_cong h (fun k hk => ka_un m (by omega) g) (by rw [ka_un m (by omega)]) (fun j _ => by rw [ka_un m (by omega)])
theorem mg_ranked : ag_ranked mi_Inv := by
  intro t m x1 ht h
  obtain ⟨n, hr⟩ := h.1
  have hn := mr_n hr
  unfold f_X6_ranked f_X7_ranked
  rw [kc_byVoices (by decide), Option.bind_some]
  refine ⟨mc_rank (mc_kv (ma_c (m 2))) x1, fm_up m 11 (mc_row (m 11) (mc_kv (ma_c (m 2))) 16), rfl, ?_, mi_nx (mi_cong1 h (by decide))⟩
  rw [kb_rankedAt hn (by rw [ka_un m (by decide)]; exact hr.2.2.1), Option.bind_some, ka_un m (by decide), mr_ranked hr x1]
theorem mg_senior : ag_senior mi_Inv := by
  intro t m x1 ht h
  obtain ⟨n, hr⟩ := h.1
  have hn := mr_n hr
  unfold f_X6_senior
  rw [kc_byTime (by decide), Option.bind_some]
  refine ⟨mc_rank (mc_kt (ma_c (m 2))) x1, fm_up m 11 (mc_row (m 11) (mc_kt (ma_c (m 2))) 16), rfl, ?_, mi_nx (mi_cong1 h (by decide))⟩
  rw [kb_senior hn (by rw [ka_un m (by decide)]; exact hr.2.2.1), ka_un m (by decide), mr_senior hr x1]
theorem mg_shabby : ag_shabby mi_Inv := by
  intro t m x1 ht h
  obtain ⟨n, hr⟩ := h.1
  have hn := mr_n hr
  unfold f_X6_shabby f_X7_shabby
  rw [kc_byGown (by decide), Option.bind_some]
  refine ⟨mc_rank (mc_kg (ma_c (m 2))) x1, fm_up m 11 (mc_row (m 11) (mc_kg (ma_c (m 2))) 16), rfl, ?_, mi_nx (mi_cong1 h (by decide))⟩
  rw [kb_shabbyAt hn (by rw [ka_un m (by decide)]; exact hr.2.2.1), Option.bind_some, ka_un m (by decide), mr_shabby hr (by omega) x1]
/-! one brother's numbers -/
theorem mr_pl {B n : Nat} {s t : ma_S} (h : mr_rel B n s t) {b : Nat} (hb : b < n) (hw : s 2 b = 0) : ma_ct (fun k => decide (s 2 k = 0)) b = ma_ct (fun k => decide (t 2 k = 0) && decide (¬ t 8 b ≤ t 8 k)) n := by
  have hwt := fun k (hk : k < n) => mr_how h hk
  obtain ⟨hn, hs0, ht0, hsc, hwk, hch, hpd, hfe, hfn, hcol, hgo, hba, hbr, hvo, hce, hcb, hst, hsi, hsl, hwl, hnew⟩ := h
  rw [ma_ct_cut n (show b ≤ n by omega) (fun j h1 h2 => ?_)]
  · refine ma_ct_congr b (fun j hj => ?_)
    rw [← hwt j (by omega)]
    by_cases e : s 2 j = 0
    · have := hwl j b hj hb e hw
      rw [decide_eq_true e, Bool.true_and, decide_eq_true (Int32.not_le.mpr this)]
    · rw [decide_eq_false e, Bool.false_and]
  · rw [← hwt j h2]
    by_cases e : s 2 j = 0
    · have : t 8 b ≤ t 8 j := by
        by_cases e2 : j = b
        · rw [e2]; exact Int32.le_refl _
        · exact Int32.le_of_lt (hwl b j (by omega) h2 hw e)
      rw [decide_eq_true e, Bool.true_and]
      simp [this]
    · rw [decide_eq_false e, Bool.false_and]
theorem kq_place {m : fm_M} {n b : Nat} (hn16 : n ≤ 16) (hn : ma_w (m 24) 16 0 = ma_i n) (hb : b < 16) : f_X7_placeInLine (ma_i b) m = some (ma_i (ma_ct (fun k => decide (ma_w (m 24) 2 k = 0) && decide (¬ ma_w (m 24) 8 b ≤ ma_w (m 24) 8 k)) n)) := by
  unfold f_X7_placeInLine
  refine ma_loop (fun f k => f_X7_placeInLine_L4 f (ma_i b) (ma_i (ma_ct (fun k => decide (ma_w (m 24) 2 k = 0) && decide (¬ ma_w (m 24) 8 b ≤ ma_w (m 24) 8 k)) k)) (ma_i k) m) n (fun f k hk => ?_) (fun f => ?_) fm_F 0 (Nat.zero_le _) (by unfold fm_F; omega)
  · show f_X7_placeInLine_L4 (f + 1) _ _ _ m = _
    rw [f_X7_placeInLine_L4, if_pos (by decide), kb_r0 m, hn, if_neg (kb_g0 hn16 hk), kb_isSo (by omega), Option.bind_some, kb_of8 (by omega), Option.bind_some, kb_of8 hb, Option.bind_some, ma_ct_s, ma_s1, ma_s1, kb_s0]
    by_cases h0 : ma_w (m 24) 2 k = 0
    · by_cases h1 : ma_w (m 24) 8 b ≤ ma_w (m 24) 8 k <;> simp [h0, h1]
    · simp [h0]
  · show f_X7_placeInLine_L4 (f + 1) _ _ _ m = _
    rw [f_X7_placeInLine_L4, if_pos (by decide), kb_r0 m, hn, if_pos (Int32.le_refl _)]
theorem kq_place6 {m : fm_M} {b : Nat} (hb : b < 16) : f_X6_placeInLine_L19 fm_F (ma_i b) (0 : Int32) (0 : Int32) m = some (ma_i (ma_ct (fun k => decide (ma_c (m 2) 2 k = 0)) b)) := by
  refine ma_loop (fun f k => f_X6_placeInLine_L19 f (ma_i b) (ma_i (ma_ct (fun k => decide (ma_c (m 2) 2 k = 0)) k)) (ma_i k) m) b (fun f k hk => ?_) (fun f => ?_) fm_F 0 (Nat.zero_le _) (by unfold fm_F; omega)
  · show f_X6_placeInLine_L19 (f + 1) _ _ _ m = _
    rw [f_X6_placeInLine_L19, if_neg (kb_g0 (by omega) hk), if_neg (ma_g0 (a := 16) (by omega) (by decide)), ka_is (by omega), Option.bind_some, ma_ct_s, ma_s1]
    by_cases h0 : ma_c (m 2) 2 k = 0 <;> simp [h0, ma_s1]
  · show f_X6_placeInLine_L19 (f + 1) _ _ _ m = _
    rw [f_X6_placeInLine_L19, if_pos (Int32.le_refl _)]
theorem kq_broke6 {m : fm_M} {b : Nat} (hb : b < 16) : f_X6_breachesOf (ma_i b) m = some (ma_sm (fun j => ma_c (m 2) (9 + j) b) 5) := by
  unfold f_X6_breachesOf
  refine ma_loop (fun f k => f_X6_breachesOf_L4 f (ma_i b) (ma_sm (fun j => ma_c (m 2) (9 + j) b) k) (ma_i k) m) 5 (fun f k hk => ?_) (fun f => ?_) fm_F 0 (by decide) (by decide)
  · show f_X6_breachesOf_L4 (f + 1) _ _ _ m = _
    rw [f_X6_breachesOf_L4, if_neg (ma_g0 hk (by decide)), ka_of9 hb hk, Option.bind_some, ma_sm_s, ma_s1]
  · show f_X6_breachesOf_L4 (f + 1) _ _ _ m = _
    rw [f_X6_breachesOf_L4, if_pos ma_g1]
theorem kq_broke7 {m : fm_M} {b : Nat} (hb : b < 16) : f_X7_brokeAll (ma_i b) m = some (ma_sm (fun j => ma_w (m 24) (9 + j) b) 5) := by
  unfold f_X7_brokeAll
  refine ma_loop (fun f k => f_X7_brokeAll_L4 f (ma_i b) (ma_sm (fun j => ma_w (m 24) (9 + j) b) k) (ma_i k) m) 5 (fun f k hk => ?_) (fun f => ?_) fm_F 0 (by decide) (by decide)
  · show f_X7_brokeAll_L4 (f + 1) _ _ _ m = _
    rw [f_X7_brokeAll_L4, if_neg (ma_g0 hk (by decide)), kb_of9 hb hk, Option.bind_some, ma_sm_s, ma_s1]
  · show f_X7_brokeAll_L4 (f + 1) _ _ _ m = _
    rw [f_X7_brokeAll_L4, if_pos ma_g1]
theorem mg_brotherOf : ag_brotherOf mi_Inv := by
  intro t m x1 x2 ht h
  obtain ⟨n, hr⟩ := h.1
  have hn := mr_n hr
  have hn0 := hr.2.2.1
  unfold f_X6_brotherOf f_X7_brotherOf
  rw [ka_isBrother hr.2.1, kb_isBrother hn hn0, Option.bind_some, Option.bind_some]
  cases hb : ma_br n x1 with
  | false => exact ⟨_, rfl, rfl, mi_nx h⟩
  | true =>
    obtain ⟨b, hb2, rfl⟩ := ma_br_of hn hb
    have hb16 : b < 16 := by omega
    have hc := fun k (a : k < 14) (a3 : k ≠ 3) (a7 : k ≠ 7) (a8 : k ≠ 8) => mr_col hr a a3 a7 a8 hb2
    have hvo := hr.2.2.2.2.2.2.2.2.2.2.2.2.2.1 b hb2
    have hce := hr.2.2.2.2.2.2.2.2.2.2.2.2.2.2.1 b hb2
    rw [if_pos rfl, if_pos rfl]
    by_cases h0 : x2 = (0 : Int32)
    · subst h0
      rw [if_pos rfl, if_pos rfl, ka_of0 hb16, kb_of0 hb16, hc 0 (by decide) (by decide) (by decide) (by decide)]
      exact ⟨_, rfl, rfl, mi_nx h⟩
    rw [if_neg h0, if_neg h0]
    by_cases h1 : x2 = (1 : Int32)
    · subst h1
      rw [if_pos rfl, if_pos rfl, ka_of1 hb16, kb_of1 hb16, hc 1 (by decide) (by decide) (by decide) (by decide)]
      exact ⟨_, rfl, rfl, mi_nx h⟩
    rw [if_neg h1, if_neg h1]
    by_cases h2 : x2 = (2 : Int32)
    · subst h2
      rw [if_pos rfl, if_pos rfl, ka_of2 hb16, kb_of2 hb16, hc 2 (by decide) (by decide) (by decide) (by decide)]
      exact ⟨_, rfl, rfl, mi_nx h⟩
    rw [if_neg h2, if_neg h2]
    by_cases h3 : x2 = (3 : Int32)
    · subst h3
      rw [if_pos rfl, if_pos rfl, ka_of3 hb16, kb_isSo hb16, kb_of3 hb16, ← mr_how hr hb2]
      simp only [Option.bind_some]
      by_cases hw : ma_c (m 2) 2 b = 1
      · obtain ⟨c, c1, c2, c3, c4⟩ := hce.1 hw
        rw [if_pos (decide_eq_true hw), c2, c3]
        exact ⟨_, rfl, rfl, mi_nx h⟩
      · rw [if_neg (by simpa using hw), hce.2 hw]
        exact ⟨_, rfl, rfl, mi_nx h⟩
    rw [if_neg h3, if_neg h3]
    by_cases h4 : x2 = (4 : Int32)
    · subst h4
      rw [if_pos rfl, if_pos rfl, ka_is hb16, kb_isSo hb16, Option.bind_some, Option.bind_some, ka_of4 hb16, kb_of4 hb16, ← mr_how hr hb2, hc 4 (by decide) (by decide) (by decide) (by decide)]
      by_cases hw : ma_c (m 2) 2 b = 1
      · rw [if_pos (decide_eq_true hw)]
        exact ⟨_, rfl, rfl, mi_nx h⟩
      · rw [if_neg (by simpa using hw)]
        exact ⟨_, rfl, rfl, mi_nx h⟩
    rw [if_neg h4, if_neg h4]
    by_cases h5 : x2 = (5 : Int32)
    · subst h5
      rw [if_pos rfl, if_pos rfl, ka_of5 hb16, kb_of5 hb16, hc 5 (by decide) (by decide) (by decide) (by decide)]
      exact ⟨_, rfl, rfl, mi_nx h⟩
    rw [if_neg h5, if_neg h5]
    by_cases h6 : x2 = (6 : Int32)
    · subst h6
      rw [if_pos rfl, if_pos rfl, ka_of6 hb16, kb_of6 hb16, hc 6 (by decide) (by decide) (by decide) (by decide)]
      exact ⟨_, rfl, rfl, mi_nx h⟩
    rw [if_neg h6, if_neg h6]
    by_cases h7 : x2 = (7 : Int32)
    · subst h7
      rw [if_pos rfl, if_pos rfl, kq_broke6 hb16, kq_broke7 hb16, ma_sm_congr 5 (fun j hj => hc (9 + j) (by omega) (by omega) (by omega) (by omega))]
      exact ⟨_, rfl, rfl, mi_nx h⟩
    rw [if_neg h7, if_neg h7]
    by_cases h8 : x2 = (8 : Int32)
    · subst h8
      rw [if_pos rfl, if_pos rfl, ka_of7 hb16, kb_of7 hb16, Option.bind_some, Option.bind_some]
      rcases hvo with ⟨a1, a2⟩ | ⟨x, a1, a2, a3, a4, a5⟩
      · rw [a1, a2, if_pos rfl]
        exact ⟨_, rfl, rfl, mi_nx h⟩
      · rw [a2, a3, if_neg (fun hh => by have := (ma_inj (b := 0) (by omega) (by decide)).mp hh; omega), Option.bind_some]
        refine ⟨_, rfl, ?_, mi_nx h⟩
        congr 1
        exact ma_sub (a := x + 1) (b := 1) (by omega)
    rw [if_neg h8, if_neg h8]
    by_cases h9 : x2 = (9 : Int32)
    · subst h9
      rw [if_pos rfl, if_pos rfl]
      unfold f_X6_placeInLine
      rw [ka_is hb16, kb_isSo hb16, Option.bind_some, Option.bind_some, kq_place6 hb16, kq_place hn hn0 hb16, ← mr_how hr hb2]
      by_cases hw : ma_c (m 2) 2 b = 0
      · rw [if_pos (decide_eq_true hw), if_pos (decide_eq_true hw), mr_pl hr hb2 hw]
        exact ⟨_, rfl, rfl, mi_nx h⟩
      · rw [if_neg (by simpa using hw), if_neg (by simpa using hw)]
        exact ⟨_, rfl, rfl, mi_nx h⟩
    rw [if_neg h9, if_neg h9]
    exact ⟨_, rfl, rfl, mi_nx h⟩
/-! accounts -/
theorem kq_ban6 {m : fm_M} : f_X6_brethrenUnderBan m = some (ma_i (ma_ct (fun b => decide (¬ ma_c (m 2) 5 b ≤ 0)) 16)) := by
  unfold f_X6_brethrenUnderBan
  refine ma_loop (fun f k => f_X6_brethrenUnderBan_L4 f (ma_i (ma_ct (fun b => decide (¬ ma_c (m 2) 5 b ≤ 0)) k)) (ma_i k) m) 16 (fun f k hk => ?_) (fun f => ?_) fm_F 0 (by decide) (by decide)
  · show f_X6_brethrenUnderBan_L4 (f + 1) _ _ m = _
    rw [f_X6_brethrenUnderBan_L4, if_neg (ma_g0 hk (by decide)), ka_of5 hk, Option.bind_some, ma_ct_s, ma_s1]
    by_cases h : ma_c (m 2) 5 k ≤ 0
    · rw [if_pos h, if_neg (by simpa using h)]; rfl
    · rw [if_neg h, if_pos (by simpa using h), ma_s1]
  · show f_X6_brethrenUnderBan_L4 (f + 1) _ _ m = _
    rw [f_X6_brethrenUnderBan_L4, if_pos ma_g1]
theorem kq_ban7 {m : fm_M} {n : Nat} (hn16 : n ≤ 16) (hn : ma_w (m 24) 16 0 = ma_i n) : f_X7_banned m = some (ma_i (ma_ct (fun b => decide (¬ ma_w (m 24) 5 b ≤ 0)) n)) := by
  unfold f_X7_banned
  refine ma_loop (fun f k => f_X7_banned_L4 f (ma_i (ma_ct (fun b => decide (¬ ma_w (m 24) 5 b ≤ 0)) k)) (ma_i k) m) n (fun f k hk => ?_) (fun f => ?_) fm_F 0 (Nat.zero_le _) (by unfold fm_F; omega)
  · show f_X7_banned_L4 (f + 1) _ _ m = _
    rw [f_X7_banned_L4, if_pos (by decide), kb_r0 m, hn, if_neg (kb_g0 hn16 hk), kb_of5 (by omega), Option.bind_some, ma_ct_s, ma_s1, ma_s1, kb_s0]
    by_cases h : ma_w (m 24) 5 k ≤ 0
    · rw [if_pos h, if_neg (by simpa using h)]; rfl
    · rw [if_neg h, if_pos (by simpa using h)]
  · show f_X7_banned_L4 (f + 1) _ _ m = _
    rw [f_X7_banned_L4, if_pos (by decide), kb_r0 m, hn, if_pos (Int32.le_refl _)]
theorem mr_bans {B n : Nat} {s t : ma_S} (h : mr_rel B n s t) : ma_ct (fun b => decide (¬ s 5 b ≤ 0)) 16 = ma_ct (fun b => decide (¬ t 5 b ≤ 0)) n := by
  rw [ma_ct_cut 16 (mr_n h) (fun j h1 h2 => ?_)]
  · exact ma_ct_congr n (fun j hj => by rw [mr_col h (k := 5) (by decide) (by decide) (by decide) (by decide) hj])
  · have hnew := h.2.2.2.2.2.2.2.2.2.2.2.2.2.2.2.2.2.2.2.2 j h1 h2
    rw [(hnew.2.2.2.1 5 (by decide) (by decide) (by decide) (by decide)).1]
    decide
theorem mg_account : ag_account mi_Inv := by
  intro t m x1 ht h
  obtain ⟨n, hr⟩ := h.1
  have hn := mr_n hr
  have hn0 := hr.2.2.1
  have hsc := hr.2.2.2.1
  have hs0 := hr.2.1
  have hfn := hr.2.2.2.2.2.2.2.2.1.2
  obtain ⟨L, l1, l2, l3, l4⟩ := h.2.2.2.2.1
  obtain ⟨nx, hh, fi, a1, a2, a3, a4, a5⟩ := h.2.2.2.1
  unfold f_X6_account f_X7_account
  by_cases h0 : x1 = (0 : Int32)
  · subst h0
    rw [if_pos rfl, if_pos rfl]
    have e : m 24 0 = ma_c (m 2) 16 2 := (hsc 2 (by decide) (by decide)).symm
    rw [ka_g2]
    exact ⟨_, rfl, by rw [← e]; rfl, mi_nx h⟩
  rw [if_neg h0, if_neg h0]
  by_cases h1 : x1 = (1 : Int32)
  · subst h1
    rw [if_pos rfl, if_pos rfl]
    have e : m 24 1 = ma_c (m 2) 16 3 := (hsc 3 (by decide) (by decide)).symm
    rw [ka_g3]
    exact ⟨_, rfl, by rw [← e]; rfl, mi_nx h⟩
  rw [if_neg h1, if_neg h1]
  by_cases h2 : x1 = (2 : Int32)
  · subst h2
    rw [if_pos rfl, if_pos rfl]
    have e : m 24 2 = ma_c (m 2) 16 0 := hn0.trans hs0.symm
    rw [ka_g0]
    exact ⟨_, rfl, by rw [← e]; rfl, mi_nx h⟩
  rw [if_neg h2, if_neg h2]
  by_cases h3 : x1 = (3 : Int32)
  · subst h3
    rw [if_pos rfl, if_pos rfl]
    have e : (3 : Int32) - (3 : Int32) = (0 : Int32) := by decide
    rw [e, ka_howMany, kb_that hn hn0, mr_that hr (by decide)]
    exact ⟨_, rfl, rfl, mi_nx h⟩
  rw [if_neg h3, if_neg h3]
  by_cases h4 : x1 = (4 : Int32)
  · subst h4
    rw [if_pos rfl, if_pos rfl]
    have e : (4 : Int32) - (3 : Int32) = (1 : Int32) := by decide
    rw [e, ka_howMany, kb_that hn hn0, mr_that hr (by decide)]
    exact ⟨_, rfl, rfl, mi_nx h⟩
  rw [if_neg h4, if_neg h4]
  by_cases h5 : x1 = (5 : Int32)
  · subst h5
    rw [if_pos rfl, if_pos rfl]
    have e : (5 : Int32) - (3 : Int32) = (2 : Int32) := by decide
    rw [e, ka_howMany, kb_that hn hn0, mr_that hr (by decide)]
    exact ⟨_, rfl, rfl, mi_nx h⟩
  rw [if_neg h5, if_neg h5]
  by_cases h6 : x1 = (6 : Int32)
  · subst h6
    rw [if_pos rfl, if_pos rfl]
    have e : (6 : Int32) - (3 : Int32) = (3 : Int32) := by decide
    rw [e, ka_howMany, kb_that hn hn0, mr_that hr (by decide)]
    exact ⟨_, rfl, rfl, mi_nx h⟩
  rw [if_neg h6, if_neg h6]
  by_cases h7 : x1 = (7 : Int32)
  · subst h7
    rw [if_pos rfl, if_pos rfl]
    rw [kq_ban6, kq_ban7 hn hn0, mr_bans hr]
    exact ⟨_, rfl, rfl, mi_nx h⟩
  rw [if_neg h7, if_neg h7]
  by_cases h8 : x1 = (8 : Int32)
  · subst h8
    rw [if_pos rfl, if_pos rfl]
    rw [ka_feastsTold, Option.bind_some]
    exact ⟨_, rfl, by rw [← hfn]; rfl, mi_nx h⟩
  rw [if_neg h8, if_neg h8]
  by_cases h9 : x1 = (9 : Int32)
  · subst h9
    rw [if_pos rfl, if_pos rfl]
    have e : m 24 3 = ma_c (m 2) 16 4 := (hsc 4 (by decide) (by decide)).symm
    rw [ka_g4]
    exact ⟨_, rfl, by rw [← e]; rfl, mi_nx h⟩
  rw [if_neg h9, if_neg h9]
  by_cases h10 : x1 = (10 : Int32)
  · subst h10
    rw [if_pos rfl, if_pos rfl]
    have e : m 24 4 = ma_c (m 2) 16 5 := (hsc 5 (by decide) (by decide)).symm
    rw [ka_g5]
    exact ⟨_, rfl, by rw [← e]; rfl, mi_nx h⟩
  rw [if_neg h10, if_neg h10]
  by_cases h11 : x1 = (11 : Int32)
  · subst h11
    rw [if_pos rfl, if_pos rfl]
    have e : m 24 5 = ma_c (m 2) 16 6 := (hsc 6 (by decide) (by decide)).symm
    rw [ka_g6]
    exact ⟨_, rfl, by rw [← e]; rfl, mi_nx h⟩
  rw [if_neg h11, if_neg h11]
  by_cases h12 : x1 = (12 : Int32)
  · subst h12
    rw [if_pos rfl, if_pos rfl]
    have e : m 24 6 = ma_c (m 2) 16 7 := (hsc 7 (by decide) (by decide)).symm
    rw [ka_g7]
    exact ⟨_, rfl, by rw [← e]; rfl, mi_nx h⟩
  rw [if_neg h12, if_neg h12]
  by_cases h13 : x1 = (13 : Int32)
  · subst h13
    rw [if_pos rfl, if_pos rfl]
    have e : m 24 7 = ma_c (m 2) 16 8 := (hsc 8 (by decide) (by decide)).symm
    rw [ka_g8]
    exact ⟨_, rfl, by rw [← e]; rfl, mi_nx h⟩
  rw [if_neg h13, if_neg h13]
  by_cases h14 : x1 = (14 : Int32)
  · subst h14
    rw [if_pos rfl, if_pos rfl]
    have e : m 24 8 = ma_c (m 2) 16 9 := (hsc 9 (by decide) (by decide)).symm
    rw [ka_g9]
    exact ⟨_, rfl, by rw [← e]; rfl, mi_nx h⟩
  rw [if_neg h14, if_neg h14]
  by_cases h15 : x1 = (15 : Int32)
  · subst h15
    rw [if_pos rfl, if_pos rfl]
    exact ⟨_, rfl, by rw [l3, ← l2], mi_nx h⟩
  rw [if_neg h15, if_neg h15]
  by_cases h16 : x1 = (16 : Int32)
  · subst h16
    rw [if_pos rfl, if_pos rfl]
    exact ⟨_, rfl, by rw [a3, ← a2], mi_nx h⟩
  rw [if_neg h16, if_neg h16]
  exact ⟨_, rfl, rfl, mi_nx h⟩

/-! gowns and the year -/
def mw_old (s : ma_S) (n : Nat) : Nat := ma_ct (fun b => decide (s 2 b = 1) && decide (¬ s 4 b < 2)) n
theorem mw_rank {B n : Nat} {s t : ma_S} (h : mr_rel B n s t) (hB : B < 1000000) : (mc_rank (mc_kg s) 0 = -11 ∧ ∀ b, b < n → s 2 b ≠ 1) ∨ ∃ b, b < n ∧ s 2 b = 1 ∧ mc_rank (mc_kg s) 0 = ma_i b := by
  have hn := mr_n h
  by_cases hex : ∃ b, b < n ∧ decide (t 2 b = 1) = true
  · right
    obtain ⟨b, hb, hw, hr, _⟩ := mr_rank0 (key := mc_kg s) hn (fun b hb hw => by
      obtain ⟨g, z, h1, h2, h3, h4, h5⟩ := mr_kg h hb (by rw [mr_how h hb]; exact of_decide_eq_true hw)
      rw [h5]
      exact ma_nn (by omega)) (fun b hb hw => by
      unfold mc_kg
      rw [if_neg (mr_k1_neg h hb hw)]) hex
    exact ⟨b, hb, by rw [mr_how h hb]; exact of_decide_eq_true hw, hr⟩
  · left
    have hall : ∀ b, b < n → s 2 b ≠ 1 := fun b hb hw => hex ⟨b, hb, decide_eq_true (by rw [← mr_how h hb]; exact hw)⟩
    refine ⟨mr_rankN (n := n) (fun b hb => ?_) 0, hall⟩
    unfold mc_kg
    rw [if_neg]
    intro hw
    by_cases e : b < n
    · exact hall b e hw
    · rw [mr_new2 h (by omega) hb] at hw
      exact absurd hw (by decide)
def mc_buy (g : Nat → Int32) (b : Nat) : Nat → Int32 := ma_s (ma_s (ma_s (ma_s g 4 b 0) 16 4 (ma_c (ma_s g 4 b 0) 16 4 - 8)) 16 7 (ma_c (ma_s (ma_s g 4 b 0) 16 4 (ma_c (ma_s g 4 b 0) 16 4 - 8)) 16 7 + 8)) 16 8 (ma_c (ma_s (ma_s (ma_s g 4 b 0) 16 4 (ma_c (ma_s g 4 b 0) 16 4 - 8)) 16 7 (ma_c (ma_s (ma_s g 4 b 0) 16 4 (ma_c (ma_s g 4 b 0) 16 4 - 8)) 16 7 + 8)) 16 8 + 1)
def mb_buy (g : Nat → Int32) (b : Nat) : Nat → Int32 := ma_t (ma_t (ma_t (ma_t g 4 b 0) 16 4 (ma_w (ma_t g 4 b 0) 16 4 - 8)) 16 7 (ma_w (ma_t (ma_t g 4 b 0) 16 4 (ma_w (ma_t g 4 b 0) 16 4 - 8)) 16 7 + 8)) 16 8 (ma_w (ma_t (ma_t (ma_t g 4 b 0) 16 4 (ma_w (ma_t g 4 b 0) 16 4 - 8)) 16 7 (ma_w (ma_t (ma_t g 4 b 0) 16 4 (ma_w (ma_t g 4 b 0) 16 4 - 8)) 16 7 + 8)) 16 8 + 1)
def me_buy (s : ma_S) (b : Nat) : ma_S := ma_up (ma_up (ma_up (ma_up s 4 b 0) 16 4 (s 16 4 - 8)) 16 7 (s 16 7 + 8)) 16 8 (s 16 8 + 1)
theorem mc_buy_c {g : Nat → Int32} {b : Nat} (hb : b < 16) : ma_c (mc_buy g b) = me_buy (ma_c g) b := by
  unfold mc_buy me_buy
  have e1 : ma_c (ma_s g 4 b 0) = ma_up (ma_c g) 4 b 0 := ma_c_s (ma_okk (by decide) hb)
  have e2 : ∀ v, ma_c (ma_s (ma_s g 4 b 0) 16 4 v) = ma_up (ma_up (ma_c g) 4 b 0) 16 4 v := fun v => by rw [ma_c_s (by unfold ma_ok; omega), e1]
  have e3 : ∀ v u, ma_c (ma_s (ma_s (ma_s g 4 b 0) 16 4 v) 16 7 u) = ma_up (ma_up (ma_up (ma_c g) 4 b 0) 16 4 v) 16 7 u := fun v u => by rw [ma_c_s (by unfold ma_ok; omega), e2]
  rw [ma_c_s (by unfold ma_ok; omega), e3, e2, e1]
  simp only [ma_up_n (s := ma_c g) (k0 := 4) (b0 := b) (v := 0) (k := 16) (Or.inl (by decide))]
  rw [ma_up_n (Or.inr (by decide)), ma_up_n (Or.inl (by decide)), ma_up_n (Or.inr (by decide)), ma_up_n (Or.inr (by decide)), ma_up_n (Or.inl (by decide))]
theorem mb_buy_w {g : Nat → Int32} {b : Nat} (hb : b < 16) : ma_w (mb_buy g b) = me_buy (ma_w g) b := by
  unfold mb_buy me_buy
  have e1 : ma_w (ma_t g 4 b 0) = ma_up (ma_w g) 4 b 0 := ma_w_t (ma_okk2 (by decide) hb)
  have e2 : ∀ v, ma_w (ma_t (ma_t g 4 b 0) 16 4 v) = ma_up (ma_up (ma_w g) 4 b 0) 16 4 v := fun v => by rw [ma_w_t (by decide), e1]
  have e3 : ∀ v u, ma_w (ma_t (ma_t (ma_t g 4 b 0) 16 4 v) 16 7 u) = ma_up (ma_up (ma_up (ma_w g) 4 b 0) 16 4 v) 16 7 u := fun v u => by rw [ma_w_t (by decide), e2]
  rw [ma_w_t (by decide), e3, e2, e1]
  simp only [ma_up_n (s := ma_w g) (k0 := 4) (b0 := b) (v := 0) (k := 16) (Or.inl (by decide))]
  rw [ma_up_n (Or.inr (by decide)), ma_up_n (Or.inl (by decide)), ma_up_n (Or.inr (by decide)), ma_up_n (Or.inr (by decide)), ma_up_n (Or.inl (by decide))]
theorem mr_buy {B n : Nat} {s t : ma_S} (h : mr_rel B n s t) {b c : Nat} (hb : b < n) (hc : c ≤ 9999) (h8 : 8 ≤ c) (ec : s 16 4 = ma_i c) : mr_rel B n (me_buy s b) (me_buy t b) := by
  have e4 : t 16 4 = s 16 4 := (h.2.2.2.1 4 (by decide) (by decide)).symm
  have e7 : t 16 7 = s 16 7 := (h.2.2.2.1 7 (by decide) (by decide)).symm
  have e8 : t 16 8 = s 16 8 := (h.2.2.2.1 8 (by decide) (by decide)).symm
  unfold me_buy
  rw [e4, e7, e8]
  have r1 := mr_cu h (k0 := 4) (b0 := b) (v := 0) hb (by decide) (by decide) (by decide) (by decide) (by decide) (fun _ => ⟨0, by omega, rfl⟩) (fun hh => absurd hh (by decide)) (fun hh => absurd hh (by decide))
  have r2 := mr_sc r1 (j := 4) (v := s 16 4 - 8) (by decide) (by decide) (fun hh => absurd hh (by decide)) (fun _ => ⟨c - 8, by omega, by rw [ec]; exact ma_sub (b := 8) h8⟩) (fun hh => absurd hh (by decide))
  have r3 := mr_sc r2 (j := 7) (v := s 16 7 + 8) (by decide) (by decide) (fun hh => absurd hh (by decide)) (fun hh => absurd hh (by decide)) (fun hh => absurd hh (by decide))
  exact mr_sc r3 (j := 8) (v := s 16 8 + 1) (by decide) (by decide) (fun hh => absurd hh (by decide)) (fun hh => absurd hh (by decide)) (fun hh => absurd hh (by decide))
set_option maxHeartbeats 4000000 in
theorem mw_gowns {B n : Nat} (hB : B < 1000000) : ∀ (d i f f2 : Nat) (m mm : fm_M), i + d = 8 → d < f → d < f2 → mr_rel B n (ma_c (m 7)) (ma_w (mm 24)) → mw_old (ma_c (m 7)) n ≤ d → ∃ m1 w, f_X0_buyGowns_L2 f (ma_i i) m = some m1 ∧ mj_c m m1 ∧ f_X7_yearBegins_L112 f2 (mc_rank (mc_kg (ma_c (m 7))) 0) mm = some (fm_up mm 24 w) ∧ mr_rel B n (ma_c (m1 7)) (ma_w w) ∧ ma_c (m1 7) 16 6 = ma_c (m 7) 16 6 ∧ my_k 0 (ma_c (m 7)) (ma_c (m1 7)) := by
  intro d
  induction d with
  | zero =>
    intro i f f2 m mm hi hf hf2 h ho
    have hi8 : i = 8 := by omega
    subst hi8
    obtain ⟨f, rfl⟩ : ∃ k, f = k + 1 := ⟨f - 1, by omega⟩
    obtain ⟨f2, rfl⟩ : ∃ k, f2 = k + 1 := ⟨f2 - 1, by omega⟩
    refine ⟨m, mm 24, by rw [f_X0_buyGowns_L2, if_pos ma_g1], mj_rf m, ?_, h, rfl, my_q_k (my_q_rf _)⟩
    rw [f_X7_yearBegins_L112, ma_pk]
    rcases mw_rank h hB with ⟨e, _⟩ | ⟨b, hb, hw, e⟩
    · rw [e, if_pos (by decide)]
    · have hn := mr_n h
      rw [e, if_neg (ma_nn (by omega)), kb_of4 (by omega), Option.bind_some, ← mr_col h (k := 4) (by decide) (by decide) (by decide) (by decide) hb, if_pos]
      have hz : mw_old (ma_c (m 7)) n = 0 := by omega
      have := (ma_ct_0 n).mp hz b hb
      rw [hw] at this
      simpa using this
  | succ d ih =>
    intro i f f2 m mm hi hf hf2 h ho
    obtain ⟨f, rfl⟩ : ∃ k, f = k + 1 := ⟨f - 1, by omega⟩
    obtain ⟨f2, rfl⟩ : ∃ k, f2 = k + 1 := ⟨f2 - 1, by omega⟩
    have hn := mr_n h
    have hs0 : ma_c (m 7) 16 0 = ma_i n := h.2.1
    have ht0 : ma_w (mm 24) 16 0 = ma_i n := h.2.2.1
    rw [f_X0_buyGowns_L2, if_neg (ma_g0 (a := 8) (by omega) (by decide)), kc_byGown (by decide), Option.bind_some, f_X7_yearBegins_L112]
    have e7 : (fm_up m 9 (mc_row (m 9) (mc_kg (ma_c (m 7))) 16)) 7 = m 7 := ka_un m (by decide) _
    have hf9 := mj_9 m (mc_row (m 9) (mc_kg (ma_c (m 7))) 16)
    generalize fm_up m 9 (mc_row (m 9) (mc_kg (ma_c (m 7))) 16) = m9 at e7 hf9 ⊢
    have hs9 : ma_c (m9 7) 16 0 = ma_i n := by rw [e7]; exact hs0
    simp only [ka_isBrother hs9, Option.bind_some]
    rcases mw_rank h hB with ⟨e, _⟩ | ⟨b, hb, hw, e⟩
    · rw [e, ma_br_neg (by decide), if_neg (by decide), if_pos (by decide)]
      exact ⟨m9, mm 24, rfl, hf9, by rw [ma_pk], by rw [e7]; exact h, by rw [e7], by rw [e7]; exact my_q_k (my_q_rf _)⟩
    · have hb16 : b < 16 := by omega
      rw [e, ma_br_i hn (by omega), if_pos (decide_eq_true hb), if_neg (ma_nn (by omega))]
      have c4 := mr_col h (k := 4) (by decide) (by decide) (by decide) (by decide) hb
      simp only [ka_of4 hb16, kb_of4 hb16, Option.bind_some, e7, ← c4]
      by_cases hg : ma_c (m 7) 4 b < 2
      · rw [if_pos hg, if_pos hg]
        exact ⟨m9, mm 24, rfl, hf9, by rw [ma_pk], by rw [e7]; exact h, by rw [e7], by rw [e7]; exact my_q_k (my_q_rf _)⟩
      · rw [if_neg hg, if_neg hg]
        obtain ⟨c, hc, ec⟩ := h.2.2.2.2.2.1
        have a3 : mm 24 (3 : Int32).toNatClampNeg = ma_i c := by
          have : mm 24 (3 : Int32).toNatClampNeg = ma_w (mm 24) 16 4 := rfl
          rw [this, ← h.2.2.2.1 4 (by decide) (by decide)]; exact ec
        simp only [ka_g4, Option.bind_some, e7, a3, ec, if_pos (show fm_in (3 : Int32) 320 = true by decide), if_pos (show fm_in (6 : Int32) 320 = true by decide), if_pos (show fm_in (7 : Int32) 320 = true by decide)]
        by_cases h8 : 8 ≤ c
        · rw [if_pos (show (8 : Int32) ≤ ma_i c from (ma_le (a := 8) (by decide) (by omega)).mpr h8), if_neg (show ¬ ma_i c < (8 : Int32) from fun hh => by have := (ma_lt (b := 8) (by omega) (by decide)).mp hh; omega)]
          simp only [ka_so4 hb16, ka_g4, ka_t4, ka_g7, ka_t7, ka_g8, ka_t8, kb_se4 hb16, Option.bind_some, ka_up, ma_pp, e7, ma_put]
          have ec1 : fm_up m9 7 (ma_s (ma_s (ma_s (ma_s (m 7) 4 b 0) 16 4 (ma_c (ma_s (m 7) 4 b 0) 16 4 - 8)) 16 7 (ma_c (ma_s (ma_s (m 7) 4 b 0) 16 4 (ma_c (ma_s (m 7) 4 b 0) 16 4 - 8)) 16 7 + 8)) 16 8 (ma_c (ma_s (ma_s (ma_s (m 7) 4 b 0) 16 4 (ma_c (ma_s (m 7) 4 b 0) 16 4 - 8)) 16 7 (ma_c (ma_s (ma_s (m 7) 4 b 0) 16 4 (ma_c (ma_s (m 7) 4 b 0) 16 4 - 8)) 16 7 + 8)) 16 8 + 1)) = fm_up m9 7 (mc_buy (m 7) b) := rfl
          have ew1 : fm_up mm 24 (upd (upd (upd (ma_t (mm 24) 4 b 0) (3 : Int32).toNatClampNeg ((ma_t (mm 24) 4 b 0) (3 : Int32).toNatClampNeg - 8)) (6 : Int32).toNatClampNeg ((upd (ma_t (mm 24) 4 b 0) (3 : Int32).toNatClampNeg ((ma_t (mm 24) 4 b 0) (3 : Int32).toNatClampNeg - 8)) (6 : Int32).toNatClampNeg + 8)) (7 : Int32).toNatClampNeg ((upd (upd (ma_t (mm 24) 4 b 0) (3 : Int32).toNatClampNeg ((ma_t (mm 24) 4 b 0) (3 : Int32).toNatClampNeg - 8)) (6 : Int32).toNatClampNeg ((upd (ma_t (mm 24) 4 b 0) (3 : Int32).toNatClampNeg ((ma_t (mm 24) 4 b 0) (3 : Int32).toNatClampNeg - 8)) (6 : Int32).toNatClampNeg + 8)) (7 : Int32).toNatClampNeg + 1)) = fm_up mm 24 (mb_buy (mm 24) b) := rfl
          rw [ec1, ew1]
          have hr : mr_rel B n (ma_c (mc_buy (m 7) b)) (ma_w (mb_buy (mm 24) b)) := by
            rw [mc_buy_c hb16, mb_buy_w hb16]
            exact mr_buy h hb hc h8 ec
          have ht2 : ma_w ((fm_up mm 24 (mb_buy (mm 24) b)) 24) 16 0 = ma_i n := by rw [ka_up]; exact hr.2.2.1
          rw [kb_shabbyAt hn ht2, Option.bind_some, ka_up, ← mr_shabby hr hB 0]
          have hold : mw_old (ma_c (mc_buy (m 7) b)) n + 1 = mw_old (ma_c (m 7)) n := by
            have e2 : ∀ j, ma_c (mc_buy (m 7) b) 2 j = ma_c (m 7) 2 j := fun j => by rw [mc_buy_c hb16]; unfold me_buy ma_up; simp
            have e4 : ∀ j, j ≠ b → ma_c (mc_buy (m 7) b) 4 j = ma_c (m 7) 4 j := fun j hj => by rw [mc_buy_c hb16]; unfold me_buy ma_up; simp [hj]
            have e4b : ma_c (mc_buy (m 7) b) 4 b = 0 := by rw [mc_buy_c hb16]; unfold me_buy ma_up; simp
            have key := ma_ct_one (p := fun b => decide (ma_c (m 7) 2 b = 1) && decide (¬ ma_c (m 7) 4 b < 2)) (q := fun j => decide (ma_c (mc_buy (m 7) b) 2 j = 1) && decide (¬ ma_c (mc_buy (m 7) b) 4 j < 2)) (i := b) n (fun j _ hne => by rw [e2 j, e4 j hne])
            have z2 : (0 : Int32) < 2 := by decide
            rw [if_neg (by simp [e4b, z2]), if_pos (by simp [hw, hg, hb])] at key
            unfold mw_old
            omega
          obtain ⟨m1, w, g1, g2, g3, g4, g5, g6⟩ := ih (i + 1) f f2 (fm_up m9 7 (mc_buy (m 7) b)) (fm_up mm 24 (mb_buy (mm 24) b)) (by omega) (by omega) (by omega) (by rw [ka_up, ka_up]; exact hr) (by rw [ka_up]; omega)
          rw [ka_up] at g3 g5 g6
          refine ⟨m1, w, ?_, mj_tr (mj_tr hf9 (mj_7 m9 _)) g2, ?_, g4, ?_, ?_⟩
          · rw [ma_s1]; exact g1
          · rw [ma_pp] at g3; exact g3
          · rw [g5, mc_buy_c hb16]; unfold me_buy ma_up; simp
          · refine my_kt (d := 0) (e := 0) (my_buy (s2 := ma_c (mc_buy (m 7) b)) ?_ ?_ (fun k0 b0 h0 => ?_)) g6
            · rw [mc_buy_c hb16]; unfold me_buy ma_up; simp
            · rw [mc_buy_c hb16]; unfold me_buy ma_up; simp
            · rw [mc_buy_c hb16]
              unfold me_buy ma_up
              rw [if_neg (by omega), if_neg (by omega), if_neg (by omega), if_neg (by omega)]
        · rw [if_neg (show ¬ (8 : Int32) ≤ ma_i c from fun hh => h8 ((ma_le (a := 8) (by decide) (by omega)).mp hh)), if_pos (show ma_i c < (8 : Int32) from (ma_lt (b := 8) (by omega) (by decide)).mpr (by omega))]
          exact ⟨m9, mm 24, rfl, hf9, by rw [ma_pk], by rw [e7]; exact h, by rw [e7], by rw [e7]; exact my_q_k (my_q_rf _)⟩

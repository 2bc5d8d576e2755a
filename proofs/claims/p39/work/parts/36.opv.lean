/-! weeks, come and withdraw on both sides -/
def mj_op2 (B B2 : Nat) (f no dd : fm_M → Option (Int32 × fm_M)) : Prop := ∀ n m mm, mr_rel B n (ma_c (m 7)) (ma_w (mm 24)) → ∃ n2, n ≤ n2 ∧ mj_out B2 n2 m mm (f m) (no mm) (dd mm)
theorem mj_op2_of {B B2 : Nat} {f no dd : fm_M → Option (Int32 × fm_M)} (h : ∀ n, mj_op B B2 n f no dd) : mj_op2 B B2 f no dd := fun n m mm hr => ⟨n, Nat.le_refl n, h n m mm hr⟩
theorem mj_out_mono {B2 B3 n : Nat} {m mm : fm_M} {fr nr dr : Option (Int32 × fm_M)} (hB : B2 ≤ B3) (h : mj_out B2 n m mm fr nr dr) : mj_out B3 n m mm fr nr dr := by
  obtain ⟨a, m1, h1, h2, h3⟩ := h
  refine ⟨a, m1, h1, h2, ?_⟩
  rcases h3 with h3 | ⟨h3, h4, g, h5, h6, h7⟩
  · exact Or.inl h3
  · exact Or.inr ⟨h3, h4, g, h5, mr_mono h6 hB, h7⟩
theorem mj_op2_mono {B B2 B3 : Nat} {f no dd : fm_M → Option (Int32 × fm_M)} (hB : B2 ≤ B3) (h : mj_op2 B B2 f no dd) : mj_op2 B B3 f no dd := fun n m mm hr => by
  obtain ⟨n2, hle, h2⟩ := h n m mm hr
  exact ⟨n2, hle, mj_out_mono hB h2⟩
theorem mj_weeks {B n : Nat} {x : Int32} (hB : B + 60 < 1000000) : mj_op B (B + 60) n (f_X0_spendWeeks x) (mj_noW x) (f_X7_weeksGo x) := by
  intro m mm h
  unfold f_X0_spendWeeks mj_noW
  rw [kb_between, Option.bind_some]
  by_cases h1 : x < (1 : Int32)
  · rw [if_pos h1, decide_eq_false (fun hh => hh h1), Bool.false_and, if_neg (by decide)]
    exact mj_o_code (by decide) (by decide)
  · rw [if_neg h1, decide_eq_true h1, Bool.true_and]
    by_cases h2 : x ≤ (60 : Int32)
    · rw [if_pos h2, decide_eq_true (Int32.not_lt.mpr h2), if_pos rfl]
      obtain ⟨y, hy, rfl⟩ := ma_of (show ¬ x < 0 from fun hh => h1 (Int32.lt_trans hh (by decide)))
      have hy6 : y ≤ 60 := (ma_le (b := 60) hy (by decide)).mp h2
      obtain ⟨m1, w1, p, hp, c1, c2, c3, c4, c5, c6⟩ := mw_weeks hy6 y 0 B 0 fm_F fm_F m mm (by omega) (by unfold fm_F; omega) (by unfold fm_F; omega) (by omega) (by omega) h
      have e : f_X0_after (ma_i y) m = some m1 := c1
      rw [ka_g6, Option.bind_some, e, Option.bind_some, ka_g6, Option.bind_some]
      have e6 : ma_c (m1 7) 16 6 - ma_c (m 7) 16 6 = ma_i p := by
        have z : ma_c (m1 7) 16 6 + ma_i 0 = ma_c (m1 7) 16 6 := Int32.add_zero _
        rw [z] at c5
        rw [c5, Int32.add_comm]
        simp
      rw [e6]
      exact mj_o_ok (g := w1) (ma_nn (by omega)) c2 c3 (mr_mono c4 (by omega)) (my_kk (by omega) c6)
    · rw [if_neg h2, decide_eq_false (fun hh => h2 (Int32.not_lt.mp hh)), if_neg (by decide)]
      exact mj_o_code (by decide) (by decide)
def mj_noC (x1 : Int32) (mm : fm_M) : Option (Int32 × fm_M) := (f_X7_isBetween x1 (50 : Int32) (90 : Int32) mm).bind fun v1 => if v1 = true then (if fm_in (2 : Int32) 320 = true then (if (mm 24 (2 : Int32).toNatClampNeg) = (16 : Int32) then f_X7_isNot (1 : Int32) (16 : Int32) mm else some ((0 : Int32), mm)) else none) else some ((-12 : Int32), mm)
def mj_ddC (x1 x2 : Int32) (v6 : fm_M) : Option (Int32 × fm_M) := if fm_in (2 : Int32) 320 = true then (if fm_in (2 : Int32) 320 = true then (if fm_in (2 : Int32) 320 = true then ((f_X7_sets (v6 24 (2 : Int32).toNatClampNeg) (0 : Int32) x1 (fm_put v6 24 (2 : Int32).toNatClampNeg ((v6 24 (2 : Int32).toNatClampNeg) + (1 : Int32)))).bind fun v11 => if x2 = 0 then ((f_X7_sets (v6 24 (2 : Int32).toNatClampNeg) (1 : Int32) (0 : Int32) v11).bind fun v14 => (f_X7_stamps (v6 24 (2 : Int32).toNatClampNeg) v14).bind fun v16 => some ((v6 24 (2 : Int32).toNatClampNeg), v16)) else ((f_X7_sets (v6 24 (2 : Int32).toNatClampNeg) (1 : Int32) (1 : Int32) v11).bind fun v18 => (f_X7_stamps (v6 24 (2 : Int32).toNatClampNeg) v18).bind fun v20 => some ((v6 24 (2 : Int32).toNatClampNeg), v20))) else none) else none) else none
def mo_cms (g : Nat → Int32) (n : Nat) (x kin : Int32) : Nat → Int32 := ma_s (ma_s (ma_s (ma_s g 16 0 (ma_i (n + 1))) 0 n x) 1 n kin) 2 n 0
def mo_cmw (g : Nat → Int32) (n : Nat) (x kin : Int32) : Nat → Int32 := ma_t (ma_t (ma_t (ma_t (ma_t g 16 0 (ma_i (n + 1))) 0 n x) 1 n kin) 16 1 (ma_w g 16 1 + 1)) 8 n (ma_w g 16 1 + 1)
theorem mo_cm {B n : Nat} {g w : Nat → Int32} {x kin : Int32} (h : mr_rel B n (ma_c g) (ma_w w)) (hB : B < 1000000) (hn : n < 16) : mr_rel (B + 1) (n + 1) (ma_c (mo_cms g n x kin)) (ma_w (mo_cmw w n x kin)) := by
  have ec : ma_c (mo_cms g n x kin) = ma_up (ma_up (ma_up (ma_up (ma_c g) 16 0 (ma_i (n + 1))) 0 n x) 1 n kin) 2 n 0 := by
    unfold mo_cms
    rw [ma_c_s (ma_okk (by decide) hn), ma_c_s (ma_okk (by decide) hn), ma_c_s (ma_okk (by decide) hn), ma_c_s (by unfold ma_ok; omega)]
  have ew : ma_w (mo_cmw w n x kin) = ma_up (ma_up (ma_up (ma_up (ma_up (ma_w w) 16 0 (ma_i (n + 1))) 0 n x) 1 n kin) 16 1 (ma_w w 16 1 + 1)) 8 n (ma_w w 16 1 + 1) := by
    unfold mo_cmw
    rw [ma_w_t (ma_okk2 (by decide) hn), ma_w_t (by decide), ma_w_t (ma_okk2 (by decide) hn), ma_w_t (ma_okk2 (by decide) hn), ma_w_t (by decide)]
  rw [ec, ew]
  refine mr_come h hB hn ?_ ?_ ?_ ?_ ?_ ?_ ?_ ?_ ?_ ?_
  · intro k b hk hb
    unfold ma_up
    rcases hb with hb | ⟨h0, h1, h2⟩
    · simp [hk, hb]
    · simp [hk, h0, h1, h2]
  · constructor
    · unfold ma_up; simp
    · unfold ma_up; simp
  · unfold ma_up; simp
  · unfold ma_up; simp
  · intro b hb
    unfold ma_up; simp [hb]
  · intro k b hk hb
    unfold ma_up
    rcases hb with hb | ⟨h0, h1, h2⟩
    · simp [hk, hb]
    · simp [hk, h0, h1, h2]
  · unfold ma_up; simp
  · unfold ma_up; simp
  · unfold ma_up; simp
  · intro b hb0 hb1
    unfold ma_up; simp [hb0, hb1]
theorem my_cm {B n : Nat} {g w : Nat → Int32} {x kin : Int32} (h : mr_rel B n (ma_c g) (ma_w w)) (hn : n < 16) : my_k 600 (ma_c g) (ma_c (mo_cms g n x kin)) := by
  have ec : ma_c (mo_cms g n x kin) = ma_up (ma_up (ma_up (ma_up (ma_c g) 16 0 (ma_i (n + 1))) 0 n x) 1 n kin) 2 n 0 := by
    unfold mo_cms
    rw [ma_c_s (ma_okk (by decide) hn), ma_c_s (ma_okk (by decide) hn), ma_c_s (ma_okk (by decide) hn), ma_c_s (by unfold ma_ok; omega)]
  have e : ∀ k b, (k ≠ 16 ∨ b ≠ 0) → (k ≠ 0 ∧ k ≠ 1) → (k ≠ 2 ∨ b ≠ n) → ma_c (mo_cms g n x kin) k b = ma_c g k b := fun k b h1 h2 h3 => by
    rw [ec]
    unfold ma_up
    rw [if_neg (by omega), if_neg (by omega), if_neg (by omega), if_neg (by omega)]
  have e2 : ma_c (mo_cms g n x kin) 2 n = 0 := by rw [ec]; unfold ma_up; simp
  have e0 : ma_c (mo_cms g n x kin) 16 0 = ma_i (n + 1) := by rw [ec]; unfold ma_up; simp
  intro K hm
  obtain ⟨h1, h2, h3, h4, h5⟩ := hm
  refine ⟨?_, ?_, fun b hb => ?_, fun b hb => ?_, my_d_same h5 (fun b hb => ?_) (fun b => e 8 b (by omega) (by omega) (by omega))⟩
  · rw [e 16 4 (by omega) (by omega) (by omega), e 16 5 (by omega) (by omega) (by omega), e 16 6 (by omega) (by omega) (by omega), e 16 7 (by omega) (by omega) (by omega)]
    exact h1
  · rw [e 16 6 (by omega) (by omega) (by omega), h2]
    exact ma_sm_congr 16 (fun j _ => (e 6 j (by omega) (by omega) (by omega)).symm)
  · obtain ⟨q, q1, q2⟩ := h3 b hb
    exact ⟨q, by omega, (e 6 b (by omega) (by omega) (by omega)).trans q2⟩
  · by_cases hbn : b = n
    · rw [hbn]; exact Or.inl e2
    · rw [e 2 b (by omega) (by omega) (Or.inr hbn), e0]
      rcases h4 b hb with a | a | a | a | ⟨a, a2⟩
      · exact Or.inl a
      · exact Or.inr (Or.inl a)
      · exact Or.inr (Or.inr (Or.inl a))
      · exact Or.inr (Or.inr (Or.inr (Or.inl a)))
      · refine Or.inr (Or.inr (Or.inr (Or.inr ⟨a, ?_⟩)))
        rw [h.2.1, ma_lt (by omega) (by omega)] at a2
        rw [ma_lt (by omega) (by omega)]
        omega
  · by_cases hbn : b = n
    · rw [hbn, e2] at hb; exact absurd hb (by decide)
    · rw [← e 2 b (by omega) (by omega) (Or.inr hbn)]; exact hb
theorem mj_come {B : Nat} {x1 x2 : Int32} (hB : B < 1000000) : mj_op2 B (B + 1) (f_X0_admit x1 x2) (mj_noC x1) (mj_ddC x1 x2) := by
  intro n m mm h
  refine ⟨n + 1, Nat.le_succ n, ?_⟩
  have hn := mr_n h
  have hs0 : ma_c (m 7) 16 0 = ma_i n := h.2.1
  have ht0 : mm 24 (2 : Int32).toNatClampNeg = ma_i n := h.2.2.1
  have i2 : fm_in (2 : Int32) 320 = true := by decide
  unfold f_X0_admit mj_noC
  rw [kb_between, Option.bind_some]
  by_cases h1 : x1 < (50 : Int32)
  · rw [if_pos h1, decide_eq_false (fun hh => hh h1), Bool.false_and, if_neg (by decide)]
    exact mj_o_code (by decide) (by decide)
  · rw [if_neg h1, decide_eq_true h1, Bool.true_and]
    by_cases h2 : x1 ≤ (90 : Int32)
    · rw [if_pos h2, decide_eq_true (Int32.not_lt.mpr h2), if_pos rfl, if_pos i2, ka_g0, Option.bind_some, hs0, ht0]
      by_cases h16 : n < 16
      · rw [if_pos (show ma_i n < (16 : Int32) from (ma_lt (b := 16) (by omega) (by decide)).mpr h16), if_neg (show ¬ ma_i n = (16 : Int32) from fun hh => by have := (ma_inj (b := 16) (by omega) (by decide)).mp hh; omega)]
        have hex : ∀ kin : Int32, (if x2 = 0 then (0 : Int32) else 1) = kin → mj_out (B + 1) (n + 1) m mm (some (ma_i n, fm_up m 7 (mo_cms (m 7) n x1 kin))) (some ((0 : Int32), mm)) (mj_ddC x1 x2 mm) := by
          intro kin hkin
          refine mj_o_ok (g := mo_cmw (mm 24) n x1 kin) (ma_nn (by omega)) (mj_7 m _) ?_ (by rw [ka_up]; exact mo_cm h hB h16) (by rw [ka_up]; exact my_cm h h16)
          unfold mj_ddC
          rw [if_pos i2, if_pos i2, if_pos i2, ht0]
          have e0 : ma_w (ma_t (ma_t (ma_t (mm 24) 16 0 (ma_i (n + 1))) 0 n x1) 1 n kin) 16 1 = ma_w (mm 24) 16 1 := by
            rw [ma_w_t (ma_okk2 (by decide) h16), ma_w_t (ma_okk2 (by decide) h16), ma_w_t (by decide)]
            unfold ma_up; simp
          have eu : upd (mm 24) (2 : Int32).toNatClampNeg (ma_i (n + 1)) = ma_t (mm 24) 16 0 (ma_i (n + 1)) := rfl
          simp only [kb_se0 h16, kb_se1 h16, kb_stamps h16, Option.bind_some, ma_put, ka_up, ma_pp, ma_s1, eu]
          by_cases hx : x2 = 0
          · rw [if_pos hx] at hkin ⊢
            subst hkin
            rw [e0]
            rfl
          · rw [if_neg hx] at hkin ⊢
            subst hkin
            rw [e0]
            rfl
        simp only [ka_t0, ka_so0 h16, ka_so1 h16, ka_so2 h16, Option.bind_some, ka_up, ma_pp, ma_s1]
        by_cases hx : x2 = 0
        · rw [if_pos hx]
          exact hex 0 (by rw [if_pos hx])
        · rw [if_neg hx]
          exact hex 1 (by rw [if_neg hx])
      · rw [if_neg (show ¬ ma_i n < (16 : Int32) from fun hh => h16 ((ma_lt (b := 16) (by omega) (by decide)).mp hh)), if_pos (show ma_i n = (16 : Int32) from (ma_inj (b := 16) (by omega) (by decide)).mpr (by omega))]
        exact mj_o_ref (mj_rf m) rfl
    · rw [if_neg h2, decide_eq_false (fun hh => h2 (Int32.not_lt.mp hh)), if_neg (by decide)]
      exact mj_o_code (by decide) (by decide)
def mj_noD (x : Int32) (mm : fm_M) : Option (Int32 × fm_M) := (f_X7_isBrother x mm).bind fun v1 => if v1 = true then ((f_X7_isSo x (0 : Int32) mm).bind fun v4 => if v4 = true then some ((0 : Int32), mm) else ((f_X7_of x (2 : Int32) mm).bind fun v13 => f_X7_isNot (2 : Int32) v13 mm)) else some ((-11 : Int32), mm)
def mj_ddD (x : Int32) (v7 : fm_M) : Option (Int32 × fm_M) := (f_X7_becomes x (3 : Int32) v7).bind fun v9 => (f_X7_brethrenThat (0 : Int32) v9).bind fun v11 => some (v11, v9)
theorem mj_withdraw {B n : Nat} {x : Int32} : mj_op B B n (f_X0_dropFromLine x) (mj_noD x) (mj_ddD x) := by
  intro m mm h
  have hn := mr_n h
  have hs0 : ma_c (m 7) 16 0 = ma_i n := h.2.1
  have ht0 : ma_w (mm 24) 16 0 = ma_i n := h.2.2.1
  unfold f_X0_dropFromLine mj_noD
  simp only [ka_isBrother hs0, kb_isBrother hn ht0, Option.bind_some]
  cases hb1 : ma_br n x with
  | false => exact mj_o_code (by decide) (by decide)
  | true =>
    obtain ⟨b, hb, rfl⟩ := ma_br_of hn hb1
    have hb16 : b < 16 := by omega
    have hwb := mr_how h hb
    simp only [if_true, ka_is hb16, kb_isSo hb16, Option.bind_some, ka_of2 hb16, kb_of2 hb16, f_X0_refuse, f_X7_isNot, ← hwb, decide_eq_true_eq]
    by_cases w0 : ma_c (m 7) 2 b = 0
    · simp only [w0, if_true, ka_so2 hb16, kc_drop, ka_howMany, Option.bind_some, ka_up, ma_pp]
      have ec : ma_c (ma_it (mc_dr (ma_i b)) (ma_s (m 7) 2 b 3) 16) = md_drop (ma_up (ma_c (m 7)) 2 b 3) (ma_i b) 16 := by
        rw [mc_dr_it, ma_c_s (ma_okk (by decide) hb16)]
      have hr : mr_rel B n (ma_c (ma_it (mc_dr (ma_i b)) (ma_s (m 7) 2 b 3) 16)) (ma_w (mo_rw (mm 24) n b 3)) := by
        rw [ec, mo_w hn hb16]
        refine mr_wd (b0 := b) h hb w0 ?_ ?_ ?_ ?_ ?_ ?_ ?_ ?_
        · intro k i k7 hk
          unfold md_drop ma_up
          rcases hk with hk | hk
          · simp [k7, hk]
          · simp [k7, hk]
        · unfold md_drop ma_up; simp
        · intro i hi
          unfold md_drop ma_up
          simp [hi]
        · intro k i k7 h2 h5
          unfold mo_dn me_drop ma_up
          rw [if_neg (by simp [k7]), if_neg (by simp [k7]), if_neg (by omega), if_neg (by omega)]
        · unfold mo_dn me_drop ma_up; simp
        · unfold mo_dn me_drop ma_up; simp
        · unfold mo_dn me_drop ma_up; simp
        · intro i hi
          unfold mo_dn me_drop ma_up
          simp [hi]
      have ht := mr_that hr (x := 0) (by decide)
      have hle := ma_ct_le (fun b_1 => decide (ma_c (ma_it (mc_dr (ma_i b)) (ma_s (m 7) 2 b 3) 16) 2 b_1 = 0)) 16
      refine mj_o_ok (g := mo_rw (mm 24) n b 3) (ma_nn (by omega)) (mj_7 m _) ?_ (by rw [ka_up]; exact hr) (by rw [ka_up, ec]; exact my_q_k (my_q_tr (my_q_h (Or.inr (Or.inr rfl))) my_q_drop))
      unfold mj_ddD
      rw [kb_becomes2 hn ht0 hb (by decide) (by decide), Option.bind_some]
      have e0 : ma_w ((fm_up mm 24 (mo_rw (mm 24) n b 3)) 24) 16 0 = ma_i n := by rw [ka_up]; exact hr.2.2.1
      have ee : fm_up mm 24 (ma_it (mb_dr (ma_i (b + 1))) (ma_t (ma_t (ma_t (mm 24) 2 b 3) 5 b 0) 7 b 0) n) = fm_up mm 24 (mo_rw (mm 24) n b 3) := rfl
      rw [ee, kb_that hn e0, Option.bind_some, ka_up, ht]
    · simp only [w0, if_false]
      exact mj_o_ref (mj_rf m) rfl

/-! feast and choose on both sides -/
theorem ma_pos {c : Nat} (hc : c < 2147483648) : (0 < ma_i c) ↔ 0 < c := ma_lt (a := 0) (by decide) hc
theorem mj_feast {B n : Nat} {x1 x2 : Int32} : mj_op B B n (f_X0_setFeast x1 x2) (f_X7_notFeast x1 x2) (f_X7_tells x1 x2) := by
  intro m mm h
  unfold f_X0_setFeast f_X7_notFeast
  rw [kb_between, Option.bind_some]
  by_cases h1 : x1 < 0
  · rw [if_pos h1, decide_eq_false (fun hh => hh h1), Bool.false_and, if_neg (by decide)]
    exact mj_o_code (by decide) (by decide)
  rw [if_neg h1, decide_eq_true h1, Bool.true_and]
  by_cases h2 : (52 : Int32) ≤ x1
  · rw [if_pos h2, decide_eq_false (fun hh => hh ((ma_ltle (k := 51) (by decide) x1).mpr h2)), if_neg (by decide)]
    exact mj_o_code (by decide) (by decide)
  have h2' : ¬ (51 : Int32) < x1 := fun hh => h2 ((ma_ltle (k := 51) (by decide) x1).mp hh)
  rw [if_neg h2, decide_eq_true h2', if_pos rfl, kb_between, Option.bind_some]
  by_cases h3 : x2 < (1 : Int32)
  · rw [if_pos h3, decide_eq_false (fun hh => hh h3), Bool.false_and, if_neg (by decide)]
    exact mj_o_code (by decide) (by decide)
  rw [if_neg h3, decide_eq_true h3, Bool.true_and]
  by_cases h4 : x2 ≤ (9 : Int32)
  · rw [if_pos h4, decide_eq_true (Int32.not_lt.mpr h4), if_pos rfl]
    obtain ⟨w, hw, rfl⟩ := ma_ofb (a := 52) (by decide) h1 h2
    obtain ⟨p, hp, rfl⟩ := ma_of (show ¬ x2 < 0 from fun hh => h3 (Int32.lt_trans hh (by decide)))
    have hp9 : p ≤ 9 := (ma_le (b := 9) hp (by decide)).mp h4
    have hp1 : 1 ≤ p := by
      have : ¬ ma_i p < ma_i 1 := h3
      rw [ma_lt hp (by decide)] at this
      omega
    obtain ⟨q, c, hc, ec⟩ := h.2.2.2.2.2.2.2.1 w hw
    obtain ⟨n6, n10⟩ := h.2.2.2.2.2.2.2.2.1
    have ix : (12 : Int32) + ma_i w = ma_i (12 + w) := ma_add 12 w
    have iw : mm 24 ((12 : Int32) + ma_i w).toNatClampNeg = ma_c (m 7) 15 w := by
      rw [ix, ma_cn (by omega), q]
      have : ma_okw 15 w = true := (ma_okw_iff 15 w).mpr (Or.inr (Or.inl ⟨rfl, hw⟩))
      unfold ma_w
      rw [if_pos this]
      rfl
    have ifm : fm_in ((12 : Int32) + ma_i w) 320 = true := by rw [ix]; exact ma_in (by omega) (by omega)
    have i9 : fm_in (9 : Int32) 320 = true := by decide
    have e9 : mm 24 (9 : Int32).toNatClampNeg = ma_i (ma_ct (fun k => decide (0 < ma_c (m 7) 15 k)) 52) := n10
    have k1 : ma_c (ma_s (m 7) 15 w (ma_i p)) = ma_up (ma_c (m 7)) 15 w (ma_i p) := ma_c_s (Or.inr (Or.inr (Or.inl ⟨rfl, hw⟩)))
    have okw : ma_okw 15 w = true := (ma_okw_iff 15 w).mpr (Or.inr (Or.inl ⟨rfl, hw⟩))
    have k2 : ∀ V, ma_w (ma_t (ma_t (mm 24) 15 w (ma_i p)) 16 10 V) = ma_up (ma_up (ma_w (mm 24)) 15 w (ma_i p)) 16 10 V := fun V => by rw [ma_w_t (by decide), ma_w_t okw]
    have key := ma_ct_one (p := fun k => decide (0 < ma_c (m 7) 15 k)) (q := fun k => decide (0 < ma_up (ma_c (m 7)) 15 w (ma_i p) 15 k)) (i := w) 52 (fun j _ hne => by rw [ma_up_n (Or.inr hne)])
    have pz : (0 : Int32) < ma_i p := (ma_pos hp).mpr hp1
    rw [if_pos (by simp [ma_up_e, pz, hw])] at key
    rw [ka_gw hw, Option.bind_some, if_pos ifm, iw, if_pos i9, e9]
    by_cases hz : ma_c (m 7) 15 w = 0
    · rw [if_pos hz, if_pos hz, ka_feastsTold, Option.bind_some]
      have cz : c = 0 := by rw [ec] at hz; exact (ma_inj (by omega) (by decide)).mp hz
      have nz : ¬ (0 : Int32) < ma_c (m 7) 15 w := by rw [hz]; exact Int32.lt_irrefl
      rw [if_neg (by simp [nz]), Nat.add_zero] at key
      generalize hN : ma_ct (fun k => decide (0 < ma_c (m 7) 15 k)) 52 = N at key n6 n10 e9 ⊢
      by_cases h6 : N < 6
      · rw [if_pos (show ma_i N < (6 : Int32) from (ma_lt (b := 6) (by omega) (by decide)).mpr h6), ka_tw hw, Option.bind_some, ka_feastsTold, Option.bind_some, ka_up, k1, if_neg (fun hh => by have := (ma_inj (b := 6) (by omega) (by decide)).mp hh; omega)]
        have hr := mr_feast h hw hp9 (by omega)
        have key2 : ma_ct (fun k => decide (0 < ma_up (ma_c (m 7)) 15 w (ma_i p) 15 k)) 52 = N + 1 := by omega
        rw [key2] at hr ⊢
        refine mj_o_ok (g := ma_t (ma_t (mm 24) 15 w (ma_i p)) 16 10 (ma_i (N + 1))) (ma_nn (by omega)) (mj_7 m _) ?_ ?_ (by rw [ka_up, k1]; exact my_q_k (my_q_up (by decide) (by decide) (by decide) (by first | decide | exact fun hh => absurd hh (by decide))))
        · unfold f_X7_tells
          rw [if_pos ifm, iw, if_pos hz, if_pos i9, if_pos i9, if_pos ifm, if_pos i9]
          simp only [ma_put, ka_up, ma_pp, e9, ma_s1]
          have ee : upd (upd (mm 24) (9 : Int32).toNatClampNeg (ma_i (N + 1))) ((12 : Int32) + ma_i w).toNatClampNeg (ma_i p) = ma_t (ma_t (mm 24) 15 w (ma_i p)) 16 10 (ma_i (N + 1)) := by
            rw [ix, ma_cn (by omega)]
            funext j
            have j1 : ma_jx 15 w = 12 + w := rfl
            have j2 : ma_jx 16 10 = 9 := rfl
            have j3 : (9 : Int32).toNatClampNeg = 9 := rfl
            unfold ma_t upd
            rw [j1, j2, j3]
            by_cases a : j = 12 + w
            · rw [if_pos a, if_neg (by omega), if_pos a]
            · rw [if_neg a, if_neg a]
          rw [ee]
          have e3 : ma_t (ma_t (mm 24) 15 w (ma_i p)) 16 10 (ma_i (N + 1)) (9 : Int32).toNatClampNeg = ma_w (ma_t (ma_t (mm 24) 15 w (ma_i p)) 16 10 (ma_i (N + 1))) 16 10 := rfl
          rw [e3, k2, ma_up_e]
        · rw [ka_up, k1, k2]
          exact hr
      · rw [if_neg (show ¬ ma_i N < (6 : Int32) from fun hh => h6 ((ma_lt (b := 6) (by omega) (by decide)).mp hh)), if_pos (show ma_i N = (6 : Int32) from (ma_inj (b := 6) (by omega) (by decide)).mpr (by omega))]
        exact mj_o_ref (mj_rf m) rfl
    · rw [if_neg hz, if_neg hz, ka_tw hw, Option.bind_some, ka_feastsTold, Option.bind_some, ka_up, k1]
      have cz : 0 < ma_c (m 7) 15 w := by
        rw [ec]
        refine (ma_pos (by omega)).mpr ?_
        have : c ≠ 0 := fun hh => hz (by rw [ec, hh]; rfl)
        omega
      rw [if_pos (by simp [cz, hw])] at key
      generalize hN : ma_ct (fun k => decide (0 < ma_c (m 7) 15 k)) 52 = N at key n6 n10 e9 ⊢
      have key2 : ma_ct (fun k => decide (0 < ma_up (ma_c (m 7)) 15 w (ma_i p) 15 k)) 52 = N := by omega
      have hr := mr_feast h hw hp9 (by omega)
      rw [key2] at hr ⊢
      refine mj_o_ok (g := ma_t (ma_t (mm 24) 15 w (ma_i p)) 16 10 (ma_i N)) (ma_nn (by omega)) (mj_7 m _) ?_ ?_ (by rw [ka_up, k1]; exact my_q_k (my_q_up (by decide) (by decide) (by decide) (by first | decide | exact fun hh => absurd hh (by decide))))
      · unfold f_X7_tells
        rw [if_pos ifm, iw, if_neg hz, if_pos ifm, if_pos i9]
        simp only [ma_put]
        have ee : upd (mm 24) ((12 : Int32) + ma_i w).toNatClampNeg (ma_i p) = ma_t (ma_t (mm 24) 15 w (ma_i p)) 16 10 (ma_i N) := by
          rw [ix, ma_cn (by omega)]
          funext j
          have j1 : ma_jx 15 w = 12 + w := rfl
          have j2 : ma_jx 16 10 = 9 := rfl
          unfold ma_t upd
          rw [j1, j2]
          by_cases a : j = 9
          · rw [if_pos a, if_neg (by omega), a]; exact e9
          · rw [if_neg a]
        rw [ee, ka_up]
        have e3 : ma_t (ma_t (mm 24) 15 w (ma_i p)) 16 10 (ma_i N) (9 : Int32).toNatClampNeg = ma_w (ma_t (ma_t (mm 24) 15 w (ma_i p)) 16 10 (ma_i N)) 16 10 := rfl
        rw [e3, k2, ma_up_e]
      · rw [ka_up, k1, k2]
        exact hr
  · rw [if_neg h4, decide_eq_false (fun hh => h4 (Int32.not_lt.mp hh)), if_neg (by decide)]
    exact mj_o_code (by decide) (by decide)
/-- the class's row and the reference's behind a choice -/
def mo_chs (g : Nat → Int32) (b c : Nat) : Nat → Int32 := ma_it (mc_dr (ma_i b)) (ma_s (ma_s (ma_s (ma_s (ma_s (ma_s g 2 b 1) 3 b (ma_i c)) 4 b 0) 8 b (ma_c g 16 1)) 16 1 (ma_c g 16 1 + 1)) 14 c (ma_i b)) 16
def mo_chw (g : Nat → Int32) (n b c : Nat) : Nat → Int32 := ma_t (ma_t (ma_t (ma_t (ma_it (mb_dr (ma_i (b + 1))) (ma_t (ma_t g 2 b 1) 5 b 0) n) 3 b (ma_i c)) 4 b 0) 16 1 (ma_w g 16 1 + 1)) 8 b (ma_w g 16 1 + 1)
theorem mo_chs_c {g : Nat → Int32} {b c : Nat} (hb16 : b < 16) (hc : c < 8) : ma_c (mo_chs g b c) = md_drop (ma_up (ma_up (ma_up (ma_up (ma_up (ma_up (ma_c g) 2 b 1) 3 b (ma_i c)) 4 b 0) 8 b (ma_c g 16 1)) 16 1 (ma_c g 16 1 + 1)) 14 c (ma_i b)) (ma_i b) 16 := by
  unfold mo_chs
  rw [mc_dr_it, ma_c_s (Or.inr (Or.inl ⟨rfl, hc⟩)), ma_c_s (by unfold ma_ok; omega), ma_c_s (ma_okk (by decide) hb16), ma_c_s (ma_okk (by decide) hb16), ma_c_s (ma_okk (by decide) hb16), ma_c_s (ma_okk (by decide) hb16)]
theorem my_q_drop {s : ma_S} {x : Int32} {n : Nat} : my_q s (md_drop s x n) := by
  unfold md_drop
  exact ⟨fun j _ _ => if_neg (fun h => absurd h.1 (by decide)), fun b => if_neg (fun h => absurd h.1 (by decide)), fun b => Or.inl (if_neg (fun h => absurd h.1 (by decide))), if_neg (fun h => absurd h.1 (by decide)), fun b => if_neg (fun h => absurd h.1 (by decide))⟩
theorem my_chs {B n : Nat} {g w : Nat → Int32} {b c : Nat} (h : mr_rel B n (ma_c g) (ma_w w)) (hb : b < n) (hc : c < 8) : my_k 600 (ma_c g) (ma_c (mo_chs g b c)) := by
  have hn := mr_n h
  have ec := mo_chs_c (g := g) (show b < 16 by omega) hc
  have e16 : ∀ j, j ≠ 1 → ma_c (mo_chs g b c) 16 j = ma_c g 16 j := fun j hj => by rw [ec]; unfold md_drop ma_up; simp [hj]
  have e6 : ∀ i, ma_c (mo_chs g b c) 6 i = ma_c g 6 i := fun i => by rw [ec]; unfold md_drop ma_up; simp
  have e2 : ma_c (mo_chs g b c) 2 b = 1 := by rw [ec]; unfold md_drop ma_up; simp
  have f2 : ∀ i, i ≠ b → ma_c (mo_chs g b c) 2 i = ma_c g 2 i := fun i hi => by rw [ec]; unfold md_drop ma_up; simp [hi]
  have e8 : ma_c (mo_chs g b c) 8 b = ma_c g 16 1 := by rw [ec]; unfold md_drop ma_up; simp
  have f8 : ∀ i, i ≠ b → ma_c (mo_chs g b c) 8 i = ma_c g 8 i := fun i hi => by rw [ec]; unfold md_drop ma_up; simp [hi]
  have hne : ∀ i, i < 16 → ma_c g 2 i = 1 → ma_c g 8 i ≠ ma_c g 16 1 := by
    intro i hi hw e
    have hin : i < n := by
      by_cases q : i < n
      · exact q
      · rw [mr_new2 h (by omega) hi] at hw; exact absurd hw (by decide)
    obtain ⟨ch, c1, c2, c3⟩ := h.2.2.2.2.2.2.2.2.2.2.2.2.2.2.2.2.2.1
    obtain ⟨z, z1, z2⟩ := c3 i hin hw
    rw [z2, c1] at e
    have := (ma_inj (by omega) (by omega)).mp e
    omega
  intro K hm
  obtain ⟨h1, h2, h3, h4, h5⟩ := hm
  refine ⟨?_, ?_, fun i hi => ?_, fun i hi => ?_, fun x y hx hy h1 h2 h3 => ?_⟩
  · rw [e16 4 (by decide), e16 5 (by decide), e16 6 (by decide), e16 7 (by decide)]; exact h1
  · rw [e16 6 (by decide), h2]; exact ma_sm_congr 16 (fun j _ => (e6 j).symm)
  · obtain ⟨q, q1, q2⟩ := h3 i hi
    exact ⟨q, by omega, (e6 i).trans q2⟩
  · by_cases e : i = b
    · rw [e]; exact Or.inr (Or.inl e2)
    · rw [f2 i e, e16 0 (by decide)]; exact h4 i hi
  · by_cases ex : x = b
    · by_cases ey : y = b
      · rw [ex, ey]
      · rw [ex, e8, f8 y ey] at h3
        rw [f2 y ey] at h2
        exact absurd h3.symm (hne y hy h2)
    · by_cases ey : y = b
      · rw [ey, e8, f8 x ex] at h3
        rw [f2 x ex] at h1
        exact absurd h3 (hne x hx h1)
      · rw [f8 x ex, f8 y ey] at h3
        rw [f2 x ex] at h1
        rw [f2 y ey] at h2
        exact h5 x y hx hy h1 h2 h3
theorem mo_ch {B n : Nat} {g w : Nat → Int32} (h : mr_rel B n (ma_c g) (ma_w w)) (hB : B < 1000000) {b c : Nat} (hb : b < n) (h0 : ma_c g 2 b = 0) (hc : c < 8) (h14 : ma_c g 14 c = -15) : mr_rel (B + 1) n (ma_c (mo_chs g b c)) (ma_w (mo_chw w n b c)) := by
  have hn := mr_n h
  have hb16 : b < 16 := by omega
  have ec : ma_c (mo_chs g b c) = md_drop (ma_up (ma_up (ma_up (ma_up (ma_up (ma_up (ma_c g) 2 b 1) 3 b (ma_i c)) 4 b 0) 8 b (ma_c g 16 1)) 16 1 (ma_c g 16 1 + 1)) 14 c (ma_i b)) (ma_i b) 16 := by
    unfold mo_chs
    rw [mc_dr_it, ma_c_s (Or.inr (Or.inl ⟨rfl, hc⟩)), ma_c_s (by unfold ma_ok; omega), ma_c_s (ma_okk (by decide) hb16), ma_c_s (ma_okk (by decide) hb16), ma_c_s (ma_okk (by decide) hb16), ma_c_s (ma_okk (by decide) hb16)]
  have ew : ma_w (mo_chw w n b c) = ma_up (ma_up (ma_up (ma_up (me_drop (ma_up (ma_up (ma_w w) 2 b 1) 5 b 0) (ma_i (b + 1)) n) 3 b (ma_i c)) 4 b 0) 16 1 (ma_w w 16 1 + 1)) 8 b (ma_w w 16 1 + 1) := by
    unfold mo_chw
    rw [ma_w_t (ma_okk2 (by decide) hb16), ma_w_t (by decide), ma_w_t (ma_okk2 (by decide) hb16), ma_w_t (ma_okk2 (by decide) hb16), mb_dr_it n hn, ma_w_t (ma_okk2 (by decide) hb16), ma_w_t (ma_okk2 (by decide) hb16)]
  rw [ec, ew]
  refine mr_chosen (b0 := b) (c0 := c) h hB hb h0 hc h14 ?_ ?_ ?_ ?_ ?_ ?_ ?_ ?_ ?_ ?_ ?_ ?_ ?_ ?_ ?_ ?_ ?_ ?_ ?_ ?_ ?_ ?_ ?_
  · intro k i hk k7 hi
    have k14 : k ≠ 14 := by omega
    have k16 : k ≠ 16 := by omega
    unfold md_drop ma_up
    simp [k7, hi, k14, k16]
  · intro k hk k2 k3 k4 k7 k8
    have k14 : k ≠ 14 := by omega
    have k16 : k ≠ 16 := by omega
    unfold md_drop ma_up
    simp [k2, k3, k4, k7, k8, k14, k16]
  · unfold md_drop ma_up; simp
  · unfold md_drop ma_up; simp
  · unfold md_drop ma_up; simp
  · unfold md_drop ma_up; simp
  · intro i hi
    unfold md_drop ma_up
    simp [hi]
  · unfold md_drop ma_up; simp
  · intro i hi
    unfold md_drop ma_up
    simp [hi]
  · intro i
    unfold md_drop ma_up
    simp
  · unfold md_drop ma_up; simp
  · intro i hi
    unfold md_drop ma_up
    simp [hi]
  · intro k i hk k7 hi
    have k16 : k ≠ 16 := by omega
    unfold me_drop ma_up
    simp [k7, hi, k16]
  · intro k hk k2 k3 k4 k5 k7 k8
    have k16 : k ≠ 16 := by omega
    unfold me_drop ma_up
    simp [k2, k3, k4, k5, k7, k8, k16]
  · unfold me_drop ma_up; simp
  · unfold me_drop ma_up; simp
  · unfold me_drop ma_up; simp
  · unfold me_drop ma_up; simp
  · unfold me_drop ma_up; simp
  · intro i hi
    unfold me_drop ma_up
    simp
  · intro i
    unfold me_drop ma_up
    simp
  · unfold me_drop ma_up; simp
  · intro i hi
    unfold me_drop ma_up
    simp [hi]
theorem mj_choose {B n : Nat} {x : Int32} (hB : B < 1000000) : mj_op B (B + 1) n (f_X0_fillCell x) (f_X7_notChoose x) (f_X7_chooses x) := by
  intro m mm h
  have hn := mr_n h
  have hs0 : ma_c (m 7) 16 0 = ma_i n := h.2.1
  have ht0 : ma_w (mm 24) 16 0 = ma_i n := h.2.2.1
  unfold f_X0_fillCell f_X7_notChoose
  rw [mj_cell6, mj_cell7, Option.bind_some, Option.bind_some]
  cases hcb : mj_cb x 8 with
  | false => exact mj_o_code (by decide) (by decide)
  | true =>
    obtain ⟨c, hc, rfl⟩ := mj_cb_of (by decide) hcb
    simp only [if_true, ka_gc hc, ka_isBrother hs0, kb_brotherIn hn ht0, Option.bind_some, mr_in h hc]
    rcases mr_cell h hc with ⟨e, e2⟩ | ⟨b, hb, e2, e3, e4, e5, e6⟩
    · rw [e, ma_br_neg (by decide), if_neg (by decide), if_pos (by decide), kc_byVoices (by decide), Option.bind_some, kb_that hn ht0, Option.bind_some]
      by_cases hex : ∃ b, b < n ∧ decide (ma_w (mm 24) 2 b = 0) = true
      · obtain ⟨b, hb, hw, hrk, _⟩ := mr_rank0 (key := mc_kv (ma_c (m 7))) hn (fun b hb hw => mr_kv_pos _ (by omega) (by rw [mr_how h hb]; exact of_decide_eq_true hw)) (fun b hb hw => mr_kv_neg h hb hw) hex
        have hb16 : b < 16 := by omega
        have hw0 : ma_c (m 7) 2 b = 0 := by rw [mr_how h hb]; exact of_decide_eq_true hw
        have hnz : ¬ ma_i (ma_ct (fun b => decide (ma_w (mm 24) 2 b = 0)) n) = 0 := by
          intro hh
          have hle := ma_ct_le (fun b => decide (ma_w (mm 24) 2 b = 0)) n
          have := (ma_ct_0 n).mp ((ma_inj (by omega) (by decide)).mp hh) b hb
          rw [hw] at this
          cases this
        rw [if_neg hnz, hrk]
        have hs0' : ma_c ((fm_up m 9 (mc_row (m 9) (mc_kv (ma_c (m 7))) 16)) 7) 16 0 = ma_i n := by rw [ka_un m (by decide)]; exact hs0
        simp only [ka_isBrother hs0', Option.bind_some]
        rw [ma_br_i hn (by omega), if_pos (decide_eq_true hb)]
        have e7 : (fm_up m 9 (mc_row (m 9) (mc_kv (ma_c (m 7))) 16)) 7 = m 7 := ka_un m (by decide) _
        generalize hm9 : fm_up m 9 (mc_row (m 9) (mc_kv (ma_c (m 7))) 16) = m9 at e7
        simp only [ka_so2 hb16, ka_so3 hb16, ka_so4 hb16, ka_so8 hb16, ka_g1, ka_t1, ka_tc hc, kc_drop, Option.bind_some, ka_up, ma_pp, e7]
        have q1 : ma_c (ma_s (ma_s (ma_s (m 7) 2 b 1) 3 b (ma_i c)) 4 b 0) 16 1 = ma_c (m 7) 16 1 := by
          rw [ma_c_s (ma_okk (by decide) hb16), ma_c_s (ma_okk (by decide) hb16), ma_c_s (ma_okk (by decide) hb16), ma_up_n (Or.inl (by decide)), ma_up_n (Or.inl (by decide)), ma_up_n (Or.inl (by decide))]
        rw [q1]
        have q2 : ma_c (ma_s (ma_s (ma_s (ma_s (m 7) 2 b 1) 3 b (ma_i c)) 4 b 0) 8 b (ma_c (m 7) 16 1)) 16 1 = ma_c (m 7) 16 1 := by
          rw [ma_c_s (ma_okk (by decide) hb16), ma_up_n (Or.inl (by decide)), q1]
        rw [q2]
        refine mj_o_ok (g := mo_chw (mm 24) n b c) (ma_nn (by omega)) ?_ ?_ ?_ (by rw [ka_up]; exact my_chs h hb hc)
        · rw [← hm9]; exact mj_tr (mj_9 m _) (mj_7 _ _)
        · unfold f_X7_chooses
          have hb1 := kb_becomes1 (m := mm) hn ht0 hb
          rw [kb_rankedAt hn ht0, Option.bind_some, ← mr_ranked h 0, hrk, hb1, Option.bind_some]
          simp only [kb_se3 hb16, kb_se4 hb16, kb_stamps hb16, Option.bind_some, ka_up, ma_pp]
          have q3 : ma_w (ma_t (ma_t (ma_it (mb_dr (ma_i (b + 1))) (ma_t (ma_t (mm 24) 2 b 1) 5 b 0) n) 3 b (ma_i c)) 4 b 0) 16 1 = ma_w (mm 24) 16 1 := by
            rw [ma_w_t (ma_okk2 (by decide) hb16), ma_w_t (ma_okk2 (by decide) hb16), mb_dr_it n hn, ma_w_t (ma_okk2 (by decide) hb16), ma_w_t (ma_okk2 (by decide) hb16)]
            unfold me_drop ma_up
            simp
          rw [q3]
          rfl
        · rw [ka_up]
          exact mo_ch h hB hb hw0 hc e
      · have hall : ∀ b, b < 16 → mc_kv (ma_c (m 7)) b = -1 := fun b hb => mr_kv_neg h hb (fun hbn => by
          cases hd : decide (ma_w (mm 24) 2 b = 0) with
          | false => rfl
          | true => exact absurd ⟨b, hbn, hd⟩ hex)
        have hz : ma_ct (fun b => decide (ma_w (mm 24) 2 b = 0)) n = 0 := (ma_ct_0 n).mpr (fun j hj => by
          cases hd : decide (ma_w (mm 24) 2 j = 0) with
          | false => rfl
          | true => exact absurd ⟨j, hj, hd⟩ hex)
        rw [mr_rankN (n := n) hall, hz, if_pos (show ma_i 0 = 0 from rfl)]
        have hs0' : ma_c ((fm_up m 9 (mc_row (m 9) (mc_kv (ma_c (m 7))) 16)) 7) 16 0 = ma_i n := by rw [ka_un m (by decide)]; exact hs0
        simp only [ka_isBrother hs0', Option.bind_some]
        rw [ma_br_neg (by decide), if_neg (by decide)]
        exact mj_o_ref (mj_9 m _) (ka_un m (by decide) _)
    · rw [e2, ma_br_i hn (by omega), if_pos (decide_eq_true hb), if_neg (Int32.not_lt.mpr (ma_z0 (by omega)))]
      exact mj_o_ref (mj_rf m) rfl

/-! leave, breach, feast, gift, choose on both sides -/
theorem ma_ltle {k : Nat} (hk : k < 2147483647) (x : Int32) : ma_i k < x ↔ ma_i (k + 1) ≤ x := by
  rw [Int32.lt_iff_toInt_lt, Int32.le_iff_toInt_le, ma_int (by omega), ma_int (by omega)]
  omega
def mj_cb (x : Int32) (k : Nat) : Bool := decide (¬ x < 0) && decide (¬ ma_i k ≤ x)
theorem mj_cb_of {x : Int32} {k : Nat} (hk : k < 2147483648) (h : mj_cb x k = true) : ∃ c, c < k ∧ x = ma_i c := by
  unfold mj_cb at h
  simp only [Bool.and_eq_true, decide_eq_true_eq] at h
  obtain ⟨c, hc, rfl⟩ := ma_of h.1
  exact ⟨c, by have := h.2; rw [ma_le hk hc] at this; omega, rfl⟩
theorem mj_cell6 {x : Int32} {m : fm_M} : f_X6_isCell x m = some (mj_cb x 8) := by
  unfold f_X6_isCell mj_cb
  by_cases h : x < 0
  · rw [if_pos h, decide_eq_false (fun hh => hh h), Bool.false_and]
  · rw [if_neg h, decide_eq_true h, Bool.true_and]
    by_cases h2 : (8 : Int32) ≤ x
    · rw [if_pos h2, decide_eq_false (fun hh => hh h2)]
    · rw [if_neg h2, decide_eq_true (show ¬ ma_i 8 ≤ x from h2)]
theorem mj_cell7 {x : Int32} {m : fm_M} : f_X7_isCell x m = some (mj_cb x 8) := by
  rw [kb_isCell]
  unfold mj_cb
  congr 2
theorem mj_rule6 {x : Int32} {m : fm_M} : f_X6_isRule x m = some (mj_cb x 5) := by
  unfold f_X6_isRule mj_cb
  by_cases h : x < 0
  · rw [if_pos h, decide_eq_false (fun hh => hh h), Bool.false_and]
  · rw [if_neg h, decide_eq_true h, Bool.true_and]
    by_cases h2 : (5 : Int32) ≤ x
    · rw [if_pos h2, decide_eq_false (fun hh => hh h2)]
    · rw [if_neg h2, decide_eq_true (show ¬ ma_i 5 ≤ x from h2)]
theorem mj_rule7 {x : Int32} {m : fm_M} : f_X7_isBetween x (0 : Int32) (4 : Int32) m = some (mj_cb x 5) := by
  rw [kb_between]
  unfold mj_cb
  congr 2
/-! a brother goes out -/
def mo_row (g : Nat → Int32) (b c : Nat) (how : Int32) : Nat → Int32 := ma_s (ma_s (ma_s (ma_s (ma_s g 14 c (-15)) 2 b how) 3 b (-15)) 5 b 0) 7 b (-15)
def mo_up (s : ma_S) (b c : Nat) (how : Int32) : ma_S := ma_up (ma_up (ma_up (ma_up (ma_up s 14 c (-15)) 2 b how) 3 b (-15)) 5 b 0) 7 b (-15)
theorem mo_c {g : Nat → Int32} {b c : Nat} {how : Int32} (hb : b < 16) (hc : c < 8) : ma_c (mo_row g b c how) = mo_up (ma_c g) b c how := by
  unfold mo_row mo_up
  rw [ma_c_s (ma_okk (by decide) hb), ma_c_s (ma_okk (by decide) hb), ma_c_s (ma_okk (by decide) hb), ma_c_s (ma_okk (by decide) hb), ma_c_s (Or.inr (Or.inl ⟨rfl, hc⟩))]
theorem my_q_mo {s : ma_S} {b c : Nat} {how : Int32} (hh : how = 2 ∨ how = 3) : my_q s (mo_up s b c how) := by
  unfold mo_up
  exact my_q_tr (my_q_tr (my_q_tr (my_q_tr (my_q_up (by decide) (by decide) (by decide) (by first | decide | exact fun hh => absurd hh (by decide))) (my_q_h (by rcases hh with h | h <;> simp [h]))) (my_q_up (by decide) (by decide) (by decide) (by first | decide | exact fun hh => absurd hh (by decide)))) (my_q_up (by decide) (by decide) (by decide) (by first | decide | exact fun hh => absurd hh (by decide)))) (my_q_up (by decide) (by decide) (by decide) (by first | decide | exact fun hh => absurd hh (by decide)))
theorem mo_move {m : fm_M} {b c : Nat} {how : Int32} (hb : b < 16) (hc : c < 8) (h : ma_c (m 7) 3 b = ma_i c) : f_X0_moveOut (ma_i b) how m = some (fm_up m 7 (mo_row (m 7) b c how)) := by
  unfold f_X0_moveOut
  rw [ka_of3 hb, Option.bind_some, h]
  simp only [ka_tc hc, ka_so2 hb, ka_so3 hb, ka_so5 hb, ka_so7 hb, Option.bind_some, ka_up, ma_pp]
  rfl
def mo_rw (g : Nat → Int32) (n b : Nat) (how : Int32) : Nat → Int32 := ma_it (mb_dr (ma_i (b + 1))) (ma_t (ma_t (ma_t g 2 b how) 5 b 0) 7 b 0) n
def mo_dn (t : ma_S) (n b : Nat) (how : Int32) : ma_S := me_drop (ma_up (ma_up (ma_up t 2 b how) 5 b 0) 7 b 0) (ma_i (b + 1)) n
theorem mo_w {g : Nat → Int32} {n b : Nat} {how : Int32} (hn : n ≤ 16) (hb : b < 16) : ma_w (mo_rw g n b how) = mo_dn (ma_w g) n b how := by
  unfold mo_rw mo_dn
  rw [mb_dr_it n hn, ma_w_t (ma_okk2 (by decide) hb), ma_w_t (ma_okk2 (by decide) hb), ma_w_t (ma_okk2 (by decide) hb)]
theorem mo_rel {B n : Nat} {s t s0 t0 : ma_S} (h : mr_rel B n s t) {b c : Nat} {how : Int32} (hb : b < n) (h1 : s 2 b = 1) (hc : c < 8) (h14 : s 14 c = ma_i b) (hw0 : how ≠ 0) (hw1 : how ≠ 1) (d0 : ∀ k i, (k < 9 ∨ 14 ≤ k ∨ i ≠ b) → s0 k i = s k i ∧ t0 k i = t k i) (d1 : ∀ k, 9 ≤ k → k < 14 → s0 k b = t0 k b) : mr_rel B n (mo_up s0 b c how) (mo_dn t0 n b how) := by
  have hn := mr_n h
  refine mr_out (b0 := b) (c0 := c) (how := how) h hb h1 hc h14 hw0 hw1 ?_ ?_ ?_ ?_ ?_ ?_ ?_ ?_ ?_ ?_ ?_ ?_ ?_ ?_ ?_ ?_ ?_ ?_ ?_
  · intro k i hk hi
    have k14 : k ≠ 14 := by omega
    unfold mo_up ma_up
    simp [hi, k14, (d0 k i (Or.inr (Or.inr hi))).1]
  · intro k hk
    have e := d0 k b (Or.inl (by omega))
    unfold mo_up mo_dn me_drop ma_up
    rcases hk with rfl | rfl | rfl | rfl <;> simp [e.1, e.2]
  · intro k k9 k14
    have e := d1 k k9 k14
    unfold mo_up mo_dn me_drop ma_up
    have a2 : k ≠ 2 := by omega
    have a3 : k ≠ 3 := by omega
    have a5 : k ≠ 5 := by omega
    have a7 : k ≠ 7 := by omega
    have a14 : k ≠ 14 := by omega
    simp [a2, a3, a5, a7, a14, e]
  · unfold mo_up ma_up; simp
  · unfold mo_up ma_up; simp
  · unfold mo_up ma_up; simp
  · unfold mo_up ma_up; simp
  · unfold mo_up ma_up; simp
  · intro i hi
    unfold mo_up ma_up
    simp [hi, (d0 14 i (Or.inr (Or.inl (by decide)))).1]
  · intro i
    unfold mo_up ma_up
    simp [(d0 15 i (Or.inr (Or.inl (by decide)))).1]
  · intro i
    unfold mo_up ma_up
    simp [(d0 16 i (Or.inr (Or.inl (by decide)))).1]
  · intro k i hk k7 hi
    unfold mo_dn me_drop ma_up
    simp [hi, k7, (d0 k i (Or.inr (Or.inr hi))).2]
  · unfold mo_dn me_drop ma_up; simp
  · unfold mo_dn me_drop ma_up; simp
  · unfold mo_dn me_drop ma_up; simp
  · intro i hi
    unfold mo_dn me_drop ma_up
    simp [hi, (d0 7 i (Or.inl (by decide))).2]
  · unfold mo_dn me_drop ma_up
    simp [(d0 8 b (Or.inl (by decide))).2]
  · intro i
    unfold mo_dn me_drop ma_up
    simp [(d0 15 i (Or.inr (Or.inl (by decide)))).2]
  · intro i
    unfold mo_dn me_drop ma_up
    simp [(d0 16 i (Or.inr (Or.inl (by decide)))).2]
theorem ma_z0 {b : Nat} (hb : b < 2147483648) : (0 : Int32) ≤ ma_i b := Int32.not_lt.mp (ma_nn hb)
theorem mj_leave {B n : Nat} {x : Int32} : mj_op B B n (f_X0_emptyCell x) (f_X7_notLeave x) (f_X7_leaves x) := by
  intro m mm h
  have hn := mr_n h
  have hs0 : ma_c (m 7) 16 0 = ma_i n := h.2.1
  have ht0 : ma_w (mm 24) 16 0 = ma_i n := h.2.2.1
  unfold f_X0_emptyCell f_X7_notLeave
  rw [mj_cell6, mj_cell7, Option.bind_some, Option.bind_some]
  cases hcb : mj_cb x 8 with
  | false => exact mj_o_code (by decide) (by decide)
  | true =>
    obtain ⟨c, hc, rfl⟩ := mj_cb_of (by decide) hcb
    rw [if_pos rfl, if_pos rfl, ka_gc hc, Option.bind_some, ka_isBrother hs0, Option.bind_some, kb_brotherIn hn ht0, Option.bind_some, mr_in h hc]
    rcases mr_cell h hc with ⟨e, e2⟩ | ⟨b, hb, e2, e3, e4, e5, e6⟩
    · rw [e, ma_br_neg (by decide), if_neg (by decide), if_neg (by decide)]
      exact mj_o_ref (mj_rf m) rfl
    · have hb16 : b < 16 := by omega
      rw [e2, ma_br_i hn (by omega), if_pos (decide_eq_true hb), if_pos (ma_z0 (by omega)), mo_move hb16 hc e5, Option.bind_some]
      refine mj_o_ok (g := mo_rw (mm 24) n b 3) (ma_nn (by omega)) (mj_7 m _) ?_ ?_ (by rw [ka_up, mo_c hb16 hc]; exact my_q_k (my_q_mo (Or.inr rfl)))
      · unfold f_X7_leaves
        rw [kb_brotherIn hn ht0, Option.bind_some, mr_in h hc, e2, kb_becomes2 hn ht0 hb (by decide) (by decide), Option.bind_some]
        rfl
      · rw [ka_up, mo_c hb16 hc, mo_w hn hb16]
        exact mo_rel h hb e4 hc e2 (by decide) (by decide) (fun _ _ _ => ⟨rfl, rfl⟩) (fun k k9 k14 => mr_col h k14 (by omega) (by omega) (by omega) hb)
theorem mj_breach {B n : Nat} {x1 x2 : Int32} (hB : B < 1000000) : mj_op B (B + 3) n (f_X0_breakRule x1 x2) (f_X7_notBreach x1 x2) (f_X7_breaks x1 x2) := by
  intro m mm h
  have hn := mr_n h
  have hs0 : ma_c (m 7) 16 0 = ma_i n := h.2.1
  have ht0 : ma_w (mm 24) 16 0 = ma_i n := h.2.2.1
  unfold f_X0_breakRule f_X7_notBreach
  simp only [ka_isBrother hs0, kb_isBrother hn ht0, Option.bind_some, mj_rule6, mj_rule7]
  cases hb1 : ma_br n x1 with
  | false => exact mj_o_code (by decide) (by decide)
  | true =>
    obtain ⟨b, hb, rfl⟩ := ma_br_of hn hb1
    cases hcb : mj_cb x2 5 with
    | false => exact mj_o_code (by decide) (by decide)
    | true =>
      obtain ⟨j, hj, rfl⟩ := mj_cb_of (by decide) hcb
      have hb16 : b < 16 := by omega
      have hwb := mr_how h hb
      have h9 := mr_col h (k := 9 + j) (by omega) (by omega) (by omega) (by omega) hb
      have h5 := mr_col h (k := 5) (by decide) (by decide) (by decide) (by decide) hb
      simp only [if_true, ka_is hb16, kb_isSo hb16, Option.bind_some, ka_of2 hb16, kb_of2 hb16, f_X0_refuse, f_X7_isNot, ← hwb, decide_eq_true_eq]
      by_cases w1 : ma_c (m 7) 2 b = 1
      · simp only [w1, if_true]
        obtain ⟨g, hg, eg⟩ := h.2.2.2.2.2.2.2.2.2.2.2.2.1 b j hb hj (Or.inr w1)
        obtain ⟨⟨g5, hg5, eg5⟩, _⟩ := h.2.2.2.2.2.2.2.2.2.2.2.1 b hb
        have o9 : ma_ok (9 + j) b := ma_okk (by omega) hb16
        have p9 : ma_okw (9 + j) b = true := ma_okk2 (by omega) hb16
        simp only [ka_of9 hb16 hj, ka_so9 hb16 hj, Option.bind_some, eg, ma_s1]
        have e1c : ma_c (ma_s (m 7) (9 + j) b (ma_i (g + 1))) = ma_up (ma_c (m 7)) (9 + j) b (ma_i (g + 1)) := ma_c_s o9
        have e1w : ma_w (ma_t (mm 24) (9 + j) b (ma_i (g + 1))) = ma_up (ma_w (mm 24)) (9 + j) b (ma_i (g + 1)) := ma_w_t p9
        by_cases w3 : g + 1 < 3
        · rw [if_pos (show ma_i (g + 1) < (3 : Int32) from (ma_lt (b := 3) (by omega) (by decide)).mpr w3)]
          have e5 : ma_c (ma_s (m 7) (9 + j) b (ma_i (g + 1))) 5 b = ma_i g5 := by
            rw [e1c, ma_up_n (Or.inl (by omega))]; exact eg5
          have f5 : ma_w (ma_t (mm 24) (9 + j) b (ma_i (g + 1))) 5 b = ma_i g5 := by
            rw [e1w, ma_up_n (Or.inl (by omega)), ← h5]; exact eg5
          simp only [ka_of5 hb16, ka_so5 hb16, Option.bind_some, ka_up, ma_pp, e5, ma_add]
          have e2c : ma_c (ma_s (ma_s (m 7) (9 + j) b (ma_i (g + 1))) 5 b (ma_i (g5 + (g + 1)))) = ma_up (ma_up (ma_c (m 7)) (9 + j) b (ma_i (g + 1))) 5 b (ma_i (g5 + (g + 1))) := by rw [ma_c_s (ma_okk (by decide) hb16), e1c]
          have e2w : ma_w (ma_t (ma_t (mm 24) (9 + j) b (ma_i (g + 1))) 5 b (ma_i (g5 + (g + 1)))) = ma_up (ma_up (ma_w (mm 24)) (9 + j) b (ma_i (g + 1))) 5 b (ma_i (g5 + (g + 1))) := by rw [ma_w_t (ma_okk2 (by decide) hb16), e1w]
          rw [e2c, ma_up_e]
          refine mj_o_ok (g := ma_t (ma_t (mm 24) (9 + j) b (ma_i (g + 1))) 5 b (ma_i (g5 + (g + 1)))) (ma_nn (by omega)) (mj_7 m _) ?_ ?_ (by rw [ka_up, e2c]; exact my_q_k (my_q_tr (my_q_up (by omega) (by omega) (by omega) (fun hh => by omega)) (my_q_up (by decide) (by decide) (by decide) (by first | decide | exact fun hh => absurd hh (by decide)))))
          · unfold f_X7_breaks
            rw [kb_of9 hb16 hj, Option.bind_some, kb_se9 hb16 hj, Option.bind_some, ← h9, eg, ma_s1, if_neg (fun hh => by have := (ma_inj (b := 3) (by omega) (by decide)).mp hh; omega)]
            simp only [kb_of5 hb16, kb_se5 hb16, Option.bind_some, ka_up, ma_pp, f5, ma_add]
            rw [e2w, ma_up_e]
          · rw [ka_up, e2c, e2w]
            have hr1 := mr_cu (mr_mono h (show B ≤ B + 3 by omega)) (k0 := 9 + j) (b0 := b) (v := ma_i (g + 1)) hb (by omega) (by omega) (by omega) (by omega) (by omega) (fun hh => by omega) (fun hh => by omega) (fun _ _ => ⟨g + 1, by omega, rfl⟩)
            exact mr_cu hr1 (k0 := 5) (b0 := b) (v := ma_i (g5 + (g + 1))) hb (by decide) (by decide) (by decide) (by decide) (by decide) (fun hh => absurd hh (by decide)) (fun _ => ⟨⟨g5 + (g + 1), by omega, rfl⟩, fun hh => absurd (by rw [ma_up_n (Or.inl (by omega))]; exact w1) hh⟩) (fun hh => absurd hh (by decide))
        · have hg2 : g = 2 := by omega
          subst hg2
          rw [if_neg (by decide)]
          obtain ⟨c, hc, c3, c3', c14⟩ := (h.2.2.2.2.2.2.2.2.2.2.2.2.2.2.1 b hb).1 w1
          have e3 : ma_c ((fm_up m 7 (ma_s (m 7) (9 + j) b (ma_i (2 + 1)))) 7) 3 b = ma_i c := by
            rw [ka_up, e1c, ma_up_n (Or.inl (by omega))]; exact c3
          rw [mo_move hb16 hc e3]
          simp only [Option.bind_some, ka_of5 hb16, ka_up, ma_pp]
          have e5 : ma_c (mo_row (ma_s (m 7) (9 + j) b (ma_i (2 + 1))) b c 2) 5 b = 0 := by
            rw [mo_c hb16 hc]; unfold mo_up ma_up; simp
          rw [e5]
          have hr : mr_rel (B + 3) n (mo_up (ma_up (ma_c (m 7)) (9 + j) b (ma_i (2 + 1))) b c 2) (mo_dn (ma_up (ma_w (mm 24)) (9 + j) b (ma_i (2 + 1))) n b 2) := by
            refine mo_rel (mr_mono h (show B ≤ B + 3 by omega)) hb w1 hc c14 (by decide) (by decide) (fun k i hk => ⟨ma_up_n (by omega), ma_up_n (by omega)⟩) (fun k k9 k14 => ?_)
            by_cases e : k = 9 + j
            · rw [e, ma_up_e, ma_up_e]
            · rw [ma_up_n (Or.inl e), ma_up_n (Or.inl e)]; exact mr_col h k14 (by omega) (by omega) (by omega) hb
          refine mj_o_ok (g := mo_rw (ma_t (mm 24) (9 + j) b (ma_i (2 + 1))) n b 2) (by decide) (mj_7 m _) ?_ ?_ (by rw [ka_up, mo_c hb16 hc, e1c]; exact my_q_k (my_q_tr (my_q_up (by omega) (by omega) (by omega) (fun hh => by omega)) (my_q_mo (Or.inl rfl))))
          · unfold f_X7_breaks
            have e0 : ma_w ((fm_up mm 24 (ma_t (mm 24) (9 + j) b (ma_i (2 + 1)))) 24) 16 0 = ma_i n := by
              rw [ka_up, e1w, ma_up_n (Or.inl (by omega))]; exact ht0
            rw [kb_of9 hb16 hj, Option.bind_some, kb_se9 hb16 hj, Option.bind_some, ← h9, eg, ma_s1, if_pos (show ma_i (2 + 1) = (3 : Int32) from rfl), kb_becomes2 hn e0 hb (by decide) (by decide)]
            simp only [Option.bind_some, kb_of5 hb16, ka_up, ma_pp]
            have f5 : ma_w (mo_rw (ma_t (mm 24) (9 + j) b (ma_i (2 + 1))) n b 2) 5 b = 0 := by
              rw [mo_w hn hb16]; unfold mo_dn me_drop ma_up; simp
            unfold mo_rw at f5
            rw [f5]
            rfl
          · rw [ka_up, mo_c hb16 hc, mo_w hn hb16, e1c, e1w]
            exact hr
      · simp only [w1, if_false]
        exact mj_o_ref (mj_rf m) rfl
def mj_noG (x : Int32) (mm : fm_M) : Option (Int32 × fm_M) := (f_X7_isBetween x (1 : Int32) (500 : Int32) mm).bind fun v => if v = true then some ((0 : Int32), mm) else some ((-12 : Int32), mm)
def mj_noW (x : Int32) (mm : fm_M) : Option (Int32 × fm_M) := (f_X7_isBetween x (1 : Int32) (60 : Int32) mm).bind fun v => if v = true then some ((0 : Int32), mm) else some ((-12 : Int32), mm)
theorem ma_min (c p : Nat) (hc : c ≤ 9999) (hp : p < 100000) : (if (9999 : Int32) - ma_i c < ma_i p then (9999 : Int32) - ma_i c else ma_i p) = ma_i (min p (9999 - c)) ∧ (if (9999 : Int32) - ma_i c ≤ ma_i p then (9999 : Int32) - ma_i c else ma_i p) = ma_i (min p (9999 - c)) := by
  have e : (9999 : Int32) - ma_i c = ma_i (9999 - c) := ma_sub (a := 9999) hc
  rw [e]
  constructor
  · by_cases h : 9999 - c < p
    · rw [if_pos ((ma_lt (by omega) (by omega)).mpr h)]; congr 1; omega
    · rw [if_neg (by rw [ma_lt (by omega) (by omega)]; exact h)]; congr 1; omega
  · by_cases h : 9999 - c ≤ p
    · rw [if_pos ((ma_le (by omega) (by omega)).mpr h)]; congr 1; omega
    · rw [if_neg (by rw [ma_le (by omega) (by omega)]; exact h)]; congr 1; omega
theorem mr_chest {B n : Nat} {s t : ma_S} (h : mr_rel B n s t) {c : Nat} (hc : c ≤ 9999) (v : Int32) : mr_rel B n (ma_up (ma_up s 16 4 (ma_i c)) 16 5 v) (ma_up (ma_up t 16 4 (ma_i c)) 16 5 v) :=
  mr_sc (mr_sc h (j := 4) (v := ma_i c) (by decide) (by decide) (fun hh => absurd hh (by decide)) (fun _ => ⟨c, hc, rfl⟩) (fun hh => absurd hh (by decide))) (j := 5) (by decide) (by decide) (fun hh => absurd hh (by decide)) (fun hh => absurd hh (by decide)) (fun hh => absurd hh (by decide))
theorem mj_gift {B n : Nat} {x : Int32} : mj_op B B n (f_X0_takeGift x) (mj_noG x) (f_X7_puts x) := by
  intro m mm h
  unfold f_X0_takeGift mj_noG
  rw [kb_between, Option.bind_some]
  by_cases h1 : x < (1 : Int32)
  · rw [if_pos h1, decide_eq_false (fun hh => hh h1), Bool.false_and, if_neg (by decide)]
    exact mj_o_code (by decide) (by decide)
  · rw [if_neg h1, decide_eq_true h1, Bool.true_and]
    by_cases h2 : x ≤ (500 : Int32)
    · rw [if_pos h2, decide_eq_true (Int32.not_lt.mpr h2), if_pos rfl, ka_takeIn, Option.bind_some, ka_g4, Option.bind_some, ka_up]
      have hx0 : ¬ x < 0 := fun hh => h1 (Int32.lt_trans hh (by decide))
      obtain ⟨p, hp, rfl⟩ := ma_of hx0
      have hp5 : p ≤ 500 := (ma_le (b := 500) hp (by decide)).mp h2
      obtain ⟨c, hc, ec⟩ := h.2.2.2.2.2.1
      obtain ⟨q1, q2⟩ := ma_min c p hc (by omega)
      have e4 : ma_w (mm 24) 16 4 = ma_i c := by rw [← h.2.2.2.1 4 (by decide) (by decide)]; exact ec
      have e5 : ma_w (mm 24) 16 5 = ma_c (m 7) 16 5 := (h.2.2.2.1 5 (by decide) (by decide)).symm
      rw [ec, q1, ma_add]
      have k1 : ma_c (ma_s (ma_s (m 7) 16 4 (ma_i (c + min p (9999 - c)))) 16 5 (ma_c (m 7) 16 5 + ma_i (min p (9999 - c)))) = ma_up (ma_up (ma_c (m 7)) 16 4 (ma_i (c + min p (9999 - c)))) 16 5 (ma_c (m 7) 16 5 + ma_i (min p (9999 - c))) := by
        rw [ma_c_s (by unfold ma_ok; omega), ma_c_s (by unfold ma_ok; omega)]
      have k2 : ma_w (ma_t (ma_t (mm 24) 16 4 (ma_i (c + min p (9999 - c)))) 16 5 (ma_c (m 7) 16 5 + ma_i (min p (9999 - c)))) = ma_up (ma_up (ma_w (mm 24)) 16 4 (ma_i (c + min p (9999 - c)))) 16 5 (ma_c (m 7) 16 5 + ma_i (min p (9999 - c))) := by
        rw [ma_w_t (by decide), ma_w_t (by decide)]
      rw [k1, ma_up_n (Or.inr (by decide)), ma_up_e]
      refine mj_o_ok (g := ma_t (ma_t (mm 24) 16 4 (ma_i (c + min p (9999 - c)))) 16 5 (ma_c (m 7) 16 5 + ma_i (min p (9999 - c)))) (ma_nn (by omega)) (mj_7 m _) ?_ ?_ (by rw [ka_up, k1]; exact my_kk (by decide) (my_in (by rw [ec, ma_add])))
      · unfold f_X7_puts
        rw [kb_comesIn, Option.bind_some, if_pos (by decide)]
        have e : mb_cm (ma_i p) (mm 24) = ma_t (ma_t (mm 24) 16 4 (ma_i (c + min p (9999 - c)))) 16 5 (ma_c (m 7) 16 5 + ma_i (min p (9999 - c))) := by
          unfold mb_cm
          rw [e4, q2, e5, ma_add]
        rw [e]
        have e3 : (fm_up mm 24 (ma_t (ma_t (mm 24) 16 4 (ma_i (c + min p (9999 - c)))) 16 5 (ma_c (m 7) 16 5 + ma_i (min p (9999 - c))))) 24 (3 : Int32).toNatClampNeg = ma_w (ma_t (ma_t (mm 24) 16 4 (ma_i (c + min p (9999 - c)))) 16 5 (ma_c (m 7) 16 5 + ma_i (min p (9999 - c)))) 16 4 := rfl
        rw [e3, k2, ma_up_n (Or.inr (by decide)), ma_up_e]
      · rw [ka_up, k1, k2]
        exact mr_chest h (by omega) _
    · rw [if_neg h2, decide_eq_false (fun hh => h2 (Int32.not_lt.mp hh)), if_neg (by decide)]
      exact mj_o_code (by decide) (by decide)

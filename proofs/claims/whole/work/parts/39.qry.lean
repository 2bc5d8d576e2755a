/-! reads -/
theorem mi_nx {t : Nat} {m : fm_M} (h : mi_Inv t m) : mi_Inv (t + 1) m := mi_mono (by omega) h
def ma_sm (f : Nat → Int32) : Nat → Int32
  | 0 => 0
  | n + 1 => ma_sm f n + f n
theorem ma_sm_s (f : Nat → Int32) (n : Nat) : ma_sm f (n + 1) = ma_sm f n + f n := rfl
theorem ma_sm_congr {f g : Nat → Int32} : ∀ n, (∀ j, j < n → f j = g j) → ma_sm f n = ma_sm g n := by
  intro n
  induction n with
  | zero => intro _; rfl
  | succ n ih => intro h; rw [ma_sm_s, ma_sm_s, h n (by omega), ih (fun j hj => h j (by omega))]
theorem ma_sm_cut {f : Nat → Int32} {n : Nat} : ∀ N, n ≤ N → (∀ j, n ≤ j → j < N → f j = 0) → ma_sm f N = ma_sm f n := by
  intro N
  induction N with
  | zero => intro h _; have : n = 0 := by omega
            rw [this]
  | succ N ih =>
    intro h hf
    by_cases hn : n = N + 1
    · rw [hn]
    · rw [ma_sm_s, hf N (by omega) (by omega), Int32.add_zero]
      exact ih (by omega) (fun j h1 h2 => hf j h1 (by omega))
def ma_or (p : Nat → Bool) (g : Nat → Int32) : Nat → Int32
  | 0 => 0
  | n + 1 => if p n = true then ma_or p g n ||| g n else ma_or p g n
theorem ma_or_s (p : Nat → Bool) (g : Nat → Int32) (n : Nat) : ma_or p g (n + 1) = if p n = true then ma_or p g n ||| g n else ma_or p g n := rfl
theorem ma_or_congr {p q : Nat → Bool} {g : Nat → Int32} : ∀ n, (∀ j, j < n → p j = q j) → ma_or p g n = ma_or q g n := by
  intro n
  induction n with
  | zero => intro _; rfl
  | succ n ih => intro h; rw [ma_or_s, ma_or_s, h n (by omega), ih (fun j hj => h j (by omega))]
theorem ma_or_cut {p : Nat → Bool} {g : Nat → Int32} {n : Nat} : ∀ N, n ≤ N → (∀ j, n ≤ j → j < N → p j = false) → ma_or p g N = ma_or p g n := by
  intro N
  induction N with
  | zero => intro h _; have : n = 0 := by omega
            rw [this]
  | succ N ih =>
    intro h hf
    by_cases hn : n = N + 1
    · rw [hn]
    · rw [ma_or_s, hf N (by omega) (by omega)]
      exact ih (by omega) (fun j h1 h2 => hf j h1 (by omega))
theorem mg_voices : ag_voices mi_Inv := by
  intro t m x1 ht h
  obtain ⟨n, hr⟩ := h.1
  have hn := mr_n hr
  unfold f_X6_voices f_X7_voices
  simp only [ka_isBrother hr.2.1, kb_isBrother hn hr.2.2.1, Option.bind_some]
  cases hb : ma_br n x1 with
  | false => exact ⟨_, rfl, rfl, mi_nx h⟩
  | true =>
    obtain ⟨b, hb2, rfl⟩ := ma_br_of hn hb
    simp only [if_true, ka_voicesFor (show b < 16 by omega), kb_voicesFor hn hr.2.2.1 (show b < 16 by omega), Option.bind_some, ← mr_vo hr hb2]
    exact ⟨_, rfl, rfl, mi_nx h⟩
theorem mg_broke : ag_broke mi_Inv := by
  intro t m x1 x2 ht h
  obtain ⟨n, hr⟩ := h.1
  have hn := mr_n hr
  unfold f_X6_broke f_X7_broke
  simp only [ka_isBrother hr.2.1, kb_isBrother hn hr.2.2.1, Option.bind_some, mj_rule6, mj_rule7]
  cases hb : ma_br n x1 with
  | false => exact ⟨_, rfl, rfl, mi_nx h⟩
  | true =>
    obtain ⟨b, hb2, rfl⟩ := ma_br_of hn hb
    cases hc : mj_cb x2 5 with
    | false => exact ⟨_, rfl, rfl, mi_nx h⟩
    | true =>
      obtain ⟨j, hj, rfl⟩ := mj_cb_of (by decide) hc
      simp only [if_true, ka_of9 (show b < 16 by omega) hj, kb_of9 (show b < 16 by omega) hj, Option.bind_some]
      exact ⟨_, rfl, by rw [mr_col hr (by omega) (by omega) (by omega) (by omega) hb2], mi_nx h⟩
theorem mg_inCell : ag_inCell mi_Inv := by
  intro t m x1 ht h
  obtain ⟨n, hr⟩ := h.1
  have hn := mr_n hr
  unfold f_X6_inCell f_X7_inCell
  rw [mj_cell6, mj_cell7, Option.bind_some, Option.bind_some]
  cases hc : mj_cb x1 8 with
  | false => exact ⟨_, rfl, rfl, mi_nx h⟩
  | true =>
    obtain ⟨c, hc2, rfl⟩ := mj_cb_of (by decide) hc
    simp only [if_true, ka_gc hc2, kb_brotherIn hn hr.2.2.1, Option.bind_some, mr_in hr hc2]
    exact ⟨_, rfl, rfl, mi_nx h⟩
theorem mg_entitled : ag_entitled mi_Inv := by
  intro t m ht h
  obtain ⟨n, hr⟩ := h.1
  have hn := mr_n hr
  have hn0 := hr.2.2.1
  refine ⟨ma_or (fun b => decide (ma_c (m 2) 2 b = 1) && decide (ma_c (m 2) 5 b = 0)) (fun b => (1 : Int32) <<< (ma_i b &&& 31)) 16, ?_, ?_, mi_nx h⟩
  · unfold f_X6_entitled
    refine ma_loop (fun f k => f_X6_entitled_L4 f (ma_or (fun b => decide (ma_c (m 2) 2 b = 1) && decide (ma_c (m 2) 5 b = 0)) (fun b => (1 : Int32) <<< (ma_i b &&& 31)) k) (ma_i k) m) 16 (fun f k hk => ?_) (fun f => ?_) fm_F 0 (by decide) (by decide)
    · show f_X6_entitled_L4 (f + 1) _ _ m = _
      rw [f_X6_entitled_L4, if_neg (ma_g0 hk (by decide)), ka_isEntitled hk, Option.bind_some, ma_or_s, ma_s1]
      split <;> rfl
    · show f_X6_entitled_L4 (f + 1) _ _ m = _
      rw [f_X6_entitled_L4, if_pos ma_g1]
  · have e : ma_or (fun b => decide (ma_c (m 2) 2 b = 1) && decide (ma_c (m 2) 5 b = 0)) (fun b => (1 : Int32) <<< (ma_i b &&& 31)) 16 = ma_or (fun b => decide (ma_w (m 24) 2 b = 1) && decide (ma_w (m 24) 5 b = 0)) (fun b => (1 : Int32) <<< (ma_i b &&& 31)) n := by
      rw [ma_or_cut 16 hn (fun j h1 h2 => by rw [mr_new2 hr h1 h2]; rfl)]
      exact ma_or_congr n (fun j hj => by rw [mr_how hr hj, mr_col hr (k := 5) (by decide) (by decide) (by decide) (by decide) hj])
    rw [e]
    unfold f_X7_entitled
    refine ma_loop (fun f k => f_X7_entitled_L4 f (ma_or (fun b => decide (ma_w (m 24) 2 b = 1) && decide (ma_w (m 24) 5 b = 0)) (fun b => (1 : Int32) <<< (ma_i b &&& 31)) k) (ma_i k) m) n (fun f k hk => ?_) (fun f => ?_) fm_F 0 (Nat.zero_le _) (by unfold fm_F; omega)
    · show f_X7_entitled_L4 (f + 1) _ _ m = _
      rw [f_X7_entitled_L4, if_pos (by decide), kb_r0 m, hn0, if_neg (kb_g0 hn hk), kb_isEntitled (by omega), Option.bind_some, ma_or_s, ma_s1, Int32.or_zero]
      split <;> rfl
    · show f_X7_entitled_L4 (f + 1) _ _ m = _
      rw [f_X7_entitled_L4, if_pos (by decide), kb_r0 m, hn0, if_pos (Int32.le_refl _)]
theorem mg_entitledAgain : ag_entitledAgain mi_Inv := by
  intro t m ht h
  obtain ⟨n, hr⟩ := h.1
  have hn := mr_n hr
  have hn0 := hr.2.2.1
  refine ⟨ma_or (fun c => decide (¬ ma_c (m 2) 14 c < 0) && decide (ma_c (m 2) 5 (ma_c (m 2) 14 c).toNatClampNeg = 0)) (fun c => (1 : Int32) <<< (ma_c (m 2) 14 c &&& 31)) 8, ?_, ?_, mi_nx h⟩
  · unfold f_X6_entitledAgain
    refine ma_loop (fun f k => f_X6_entitledAgain_L4 f (ma_or (fun c => decide (¬ ma_c (m 2) 14 c < 0) && decide (ma_c (m 2) 5 (ma_c (m 2) 14 c).toNatClampNeg = 0)) (fun c => (1 : Int32) <<< (ma_c (m 2) 14 c &&& 31)) k) (ma_i k) m) 8 (fun f k hk => ?_) (fun f => ?_) fm_F 0 (by decide) (by decide)
    · show f_X6_entitledAgain_L4 (f + 1) _ _ m = _
      rw [f_X6_entitledAgain_L4, if_neg (ma_g0 hk (by decide)), ka_gc hk, Option.bind_some, ka_isBrother hr.2.1, Option.bind_some, ma_or_s, ma_s1]
      rcases mr_cell hr hk with ⟨e, _⟩ | ⟨b, hb, e, _⟩
      · rw [e, ma_br_neg (by decide), if_neg (by decide), decide_eq_false (show ¬ ¬ (-15 : Int32) < 0 by decide), Bool.false_and, if_neg (by decide)]
      · rw [e, ma_br_i hn (by omega), if_pos (decide_eq_true hb), ka_of5 (by omega), Option.bind_some, ma_cn (by omega), decide_eq_true (ma_nn (show b < 2147483648 by omega)), Bool.true_and]
        by_cases h5 : ma_c (m 2) 5 b = 0
        · rw [if_pos h5, if_pos (decide_eq_true h5)]
        · rw [if_neg h5, if_neg (by simpa using h5)]
    · show f_X6_entitledAgain_L4 (f + 1) _ _ m = _
      rw [f_X6_entitledAgain_L4, if_pos ma_g1]
  · unfold f_X7_entitledAgain
    refine ma_loop (fun f k => f_X7_entitledAgain_L4 f (ma_or (fun c => decide (¬ ma_c (m 2) 14 c < 0) && decide (ma_c (m 2) 5 (ma_c (m 2) 14 c).toNatClampNeg = 0)) (fun c => (1 : Int32) <<< (ma_c (m 2) 14 c &&& 31)) k) (ma_i k) m) 8 (fun f k hk => ?_) (fun f => ?_) fm_F 0 (by decide) (by decide)
    · show f_X7_entitledAgain_L4 (f + 1) _ _ m = _
      rw [f_X7_entitledAgain_L4, if_neg (ma_g0 hk (by decide)), kb_brotherIn hn hn0, Option.bind_some, mr_in hr hk, ma_or_s, ma_s1, Int32.or_zero]
      rcases mr_cell hr hk with ⟨e, _⟩ | ⟨b, hb, e, _⟩
      · rw [e, if_pos (by decide), decide_eq_false (show ¬ ¬ (-15 : Int32) < 0 by decide), Bool.false_and, if_neg (by decide)]
      · rw [e, if_neg (ma_nn (by omega)), kb_of5 (by omega), Option.bind_some, ma_cn (by omega), decide_eq_true (ma_nn (show b < 2147483648 by omega)), Bool.true_and, mr_col hr (k := 5) (by decide) (by decide) (by decide) (by decide) hb]
        by_cases h5 : ma_w (m 24) 5 b = 0
        · rw [if_pos h5, if_pos (decide_eq_true h5)]
        · rw [if_neg h5, if_neg (by simpa using h5)]
    · show f_X7_entitledAgain_L4 (f + 1) _ _ m = _
      rw [f_X7_entitledAgain_L4, if_pos ma_g1]
theorem mg_nextFeast : ag_nextFeast mi_Inv := by
  intro t m ht h
  obtain ⟨n, hr⟩ := h.1
  obtain ⟨wk, hwk, ew⟩ := hr.2.2.2.2.1
  have ew2 : m 24 (1 : Int32).toNatClampNeg = ma_i wk := by
    have : m 24 (1 : Int32).toNatClampNeg = ma_w (m 24) 16 3 := rfl
    rw [this, ← hr.2.2.2.1 3 (by decide) (by decide)]; exact ew
  have erem : ∀ k, k < 52 → ma_i wk + ma_i k - (ma_i wk + ma_i k) / (52 : Int32) * (52 : Int32) = ma_i ((wk + k) % 52) := fun k hk => by
    rw [ma_add]; exact ma_rem (a := wk + k) (k := 52) (by omega) (by decide)
  refine ⟨if ma_ff (fun k => decide (¬ ma_c (m 2) 15 ((wk + k) % 52) ≤ 0)) 52 0 < 52 then ma_i (ma_ff (fun k => decide (¬ ma_c (m 2) 15 ((wk + k) % 52) ≤ 0)) 52 0) else -15, ?_, ?_, mi_nx h⟩
  · unfold f_X6_nextFeast
    have key := ma_find (fun f k => f_X6_nextFeast_L2 f (ma_i k) m) 52 (fun k => decide (¬ ma_c (m 2) 15 ((wk + k) % 52) ≤ 0)) (fun b => some (ma_i b)) (resN := some (-15)) (fun f k hk hp => ?_) (fun f k hk hp => ?_) (fun f => ?_) fm_F 0 (by decide) (by decide)
    · refine key.trans ?_
      rw [Nat.sub_zero]
      split <;> rfl
    · show f_X6_nextFeast_L2 (f + 1) _ m = _
      rw [f_X6_nextFeast_L2, if_neg (ma_g0 hk (by decide)), ka_g3, Option.bind_some, ew, erem k hk, ka_gw (by omega), Option.bind_some, if_neg (of_decide_eq_true hp)]
    · show f_X6_nextFeast_L2 (f + 1) _ m = _
      rw [f_X6_nextFeast_L2, if_neg (ma_g0 hk (by decide)), ka_g3, Option.bind_some, ew, erem k hk, ka_gw (by omega), Option.bind_some, if_pos (by simpa using hp), ma_s1]
    · show f_X6_nextFeast_L2 (f + 1) _ m = _
      rw [f_X6_nextFeast_L2, if_pos ma_g1]
  · unfold f_X7_nextFeast
    have ei : ∀ k, k < 52 → fm_in ((12 : Int32) + ma_i ((wk + k) % 52)) 320 = true ∧ m 24 ((12 : Int32) + ma_i ((wk + k) % 52)).toNatClampNeg = ma_c (m 2) 15 ((wk + k) % 52) := by
      intro k hk
      have hl : (wk + k) % 52 < 52 := by omega
      generalize (wk + k) % 52 = v at hl
      have e : (12 : Int32) + ma_i v = ma_i (12 + v) := ma_add 12 v
      refine ⟨by rw [e]; exact ma_in (by omega) (by omega), ?_⟩
      rw [e, ma_cn (by omega), (hr.2.2.2.2.2.2.2.1 v hl).1]
      have : ma_okw 15 v = true := (ma_okw_iff 15 v).mpr (Or.inr (Or.inl ⟨rfl, hl⟩))
      unfold ma_w
      rw [if_pos this]
      rfl
    have key := ma_find (fun f k => f_X7_nextFeast_L2 f (ma_i k) m) 52 (fun k => decide (¬ ma_c (m 2) 15 ((wk + k) % 52) ≤ 0)) (fun b => some (ma_i b)) (resN := some (-15)) (fun f k hk hp => ?_) (fun f k hk hp => ?_) (fun f => ?_) fm_F 0 (by decide) (by decide)
    · refine key.trans ?_
      rw [Nat.sub_zero]
      split <;> rfl
    · show f_X7_nextFeast_L2 (f + 1) _ m = _
      rw [f_X7_nextFeast_L2, if_neg (ma_g0 hk (by decide)), if_pos (show fm_in (1 : Int32) 320 = true by decide), ew2, erem k hk, if_pos (ei k hk).1, (ei k hk).2, if_neg (of_decide_eq_true hp)]
    · show f_X7_nextFeast_L2 (f + 1) _ m = _
      rw [f_X7_nextFeast_L2, if_neg (ma_g0 hk (by decide)), if_pos (show fm_in (1 : Int32) 320 = true by decide), ew2, erem k hk, if_pos (ei k hk).1, (ei k hk).2, if_pos (by simpa using hp), ma_s1]
    · show f_X7_nextFeast_L2 (f + 1) _ m = _
      rw [f_X7_nextFeast_L2, if_pos ma_g1]
theorem mg_reason : ag_reason mi_Inv := by
  intro t m x1 ht h _
  have h3 := h.2.2.1
  unfold f_X6_reason f_X7_reason
  rw [h3.1, h3.2]
  exact ⟨if m 23 0 = 0 then -15 else if x1 = 0 then m 23 0 else m 23 1, by split <;> (try split) <;> rfl, by split <;> (try split) <;> rfl, mi_nx h⟩
theorem mg_entitledShare : ag_entitledShare mi_Inv := by
  intro t m ht h
  obtain ⟨n, hr⟩ := h.1
  have hn := mr_n hr
  have hn0 := hr.2.2.1
  unfold f_X6_entitledShare f_X7_entitledShare
  rw [ka_howMany, kb_that hn hn0, Option.bind_some, Option.bind_some, ka_entitledMany, kb_entitledMany hn hn0, Option.bind_some, Option.bind_some, mr_that hr (by decide), mr_ent hr]
  by_cases h0 : ma_i (ma_ct (fun b => decide (ma_w (m 24) 2 b = 1)) n) = 0
  · rw [if_pos h0]; exact ⟨_, rfl, rfl, mi_nx h⟩
  · rw [if_neg h0]; exact ⟨_, rfl, rfl, mi_nx h⟩
theorem mg_meanAge : ag_meanAge mi_Inv := by
  intro t m ht h
  obtain ⟨n, hr⟩ := h.1
  have hn := mr_n hr
  have hn0 := hr.2.2.1
  have e1 : ma_ct (fun b => decide (ma_c (m 2) 2 b = 1)) 16 = ma_ct (fun b => decide (ma_w (m 24) 2 b = 1)) n := mr_that hr (by decide)
  have e2 : ma_sm (fun b => if ma_c (m 2) 2 b = 1 then ma_c (m 2) 0 b else 0) 16 = ma_sm (fun b => if ma_w (m 24) 2 b = 1 then ma_w (m 24) 0 b else 0) n := by
    rw [ma_sm_cut 16 hn (fun j h1 h2 => by rw [mr_new2 hr h1 h2]; rfl)]
    exact ma_sm_congr n (fun j hj => by rw [mr_how hr hj, mr_col hr (k := 0) (by decide) (by decide) (by decide) (by decide) hj])
  refine ⟨if ma_i (ma_ct (fun b => decide (ma_c (m 2) 2 b = 1)) 16) = 0 then FP.dconst0 else FP.ddiv (FP.i2d (ma_sm (fun b => if ma_c (m 2) 2 b = 1 then ma_c (m 2) 0 b else 0) 16)) (FP.i2d (ma_i (ma_ct (fun b => decide (ma_c (m 2) 2 b = 1)) 16))), ?_, ?_, mi_nx h⟩
  · unfold f_X6_meanAge
    refine ma_loop (fun f k => f_X6_meanAge_L6 f (ma_i (ma_ct (fun b => decide (ma_c (m 2) 2 b = 1)) k)) (ma_sm (fun b => if ma_c (m 2) 2 b = 1 then ma_c (m 2) 0 b else 0) k) (ma_i k) m) 16 (fun f k hk => ?_) (fun f => ?_) fm_F 0 (by decide) (by decide)
    · show f_X6_meanAge_L6 (f + 1) _ _ _ m = _
      rw [f_X6_meanAge_L6, if_neg (ma_g0 hk (by decide)), ka_is hk, Option.bind_some, ka_of0 hk, Option.bind_some, ma_ct_s, ma_sm_s, ma_s1]
      by_cases hw : ma_c (m 2) 2 k = 1
      · simp [hw, ma_s1]
      · simp [hw, ma_s1]
    · show f_X6_meanAge_L6 (f + 1) _ _ _ m = _
      rw [f_X6_meanAge_L6, if_pos ma_g1]
      split <;> rfl
  · rw [e1, e2]
    unfold f_X7_meanAge
    rw [kb_that hn hn0, Option.bind_some]
    generalize ma_i (ma_ct (fun b => decide (ma_w (m 24) 2 b = 1)) n) = N
    refine ma_loop (fun f k => f_X7_meanAge_L10 f N (ma_sm (fun b => if ma_w (m 24) 2 b = 1 then ma_w (m 24) 0 b else 0) k) (ma_i k) m) n (fun f k hk => ?_) (fun f => ?_) fm_F 0 (Nat.zero_le _) (by unfold fm_F; omega)
    · show f_X7_meanAge_L10 (f + 1) _ _ _ m = _
      rw [f_X7_meanAge_L10, if_pos (by decide), kb_r0 m, hn0, if_neg (kb_g0 hn hk), kb_isSo (by omega), Option.bind_some, kb_of0 (by omega), Option.bind_some, ma_sm_s, ma_s1]
      by_cases hw : ma_w (m 24) 2 k = 1
      · simp [hw]
      · simp [hw]
    · show f_X7_meanAge_L10 (f + 1) _ _ _ m = _
      rw [f_X7_meanAge_L10, if_pos (by decide), kb_r0 m, hn0, if_pos (Int32.le_refl _)]
      split <;> rfl
theorem mg_character : ag_character mi_Inv := by
  intro t m x1 ht h
  obtain ⟨L, hL, l1, l2, hall⟩ := h.2.2.2.2.2
  unfold f_X6_character f_X7_character f_X4_at
  rw [kb_between, Option.bind_some, l1, l2]
  by_cases h0 : x1 < 0
  · rw [if_pos h0, decide_eq_false (fun hh => hh h0), Bool.false_and, if_neg (show ¬ (false = true) by decide), Option.bind_some, if_neg (by decide)]
    exact ⟨_, rfl, rfl, mi_nx h⟩
  · rw [if_neg h0, decide_eq_true h0, Bool.true_and]
    obtain ⟨i, hi, rfl⟩ := ma_of h0
    have hlt : (ma_i L - 1 < ma_i i) ↔ ¬ i < L := by
      rw [Int32.lt_iff_toInt_lt]
      have e : (ma_i L - 1).toInt = (L : Int) - 1 := by
        rw [Int32.toInt_sub, ma_int (by omega)]
        have h1 : (1 : Int32).toInt = 1 := by decide
        rw [h1]
        exact Int.bmod_eq_of_le (by omega) (by omega)
      rw [e, ma_int (by omega)]
      omega
    by_cases hiL : i < L
    · obtain ⟨q1, c, hc, q2⟩ := hall i hiL
      rw [if_neg (by rw [ma_le (by omega) (by omega)]; omega), if_neg (show ¬ (Int32.ofNat 128 ≤ ma_i i) from ma_g0 (a := 128) (by omega) (by decide)), if_pos (ma_in (by omega) (by omega)), Option.bind_some, ma_cn (by omega), q2, if_pos (ma_z0 (by omega)), decide_eq_true (show ¬ (ma_i L - 1 < ma_i i) by rw [hlt]; simpa using hiL), if_pos rfl, if_pos (ma_in (by omega) (by omega)), ← q1, q2]
      exact ⟨_, rfl, rfl, mi_nx h⟩
    · rw [if_pos (by rw [ma_le (by omega) (by omega)]; omega), Option.bind_some, if_neg (by decide), decide_eq_false (show ¬ ¬ (ma_i L - 1 < ma_i i) by rw [hlt]; simpa using hiL), if_neg (by decide)]
      exact ⟨_, rfl, rfl, mi_nx h⟩

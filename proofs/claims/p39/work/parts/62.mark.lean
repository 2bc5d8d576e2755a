/-! a mark is a function of the state alone -/
theorem lm_acc (s : ma_S) (x : Int32) (h15 : x ≠ 15) (h16 : x ≠ 16) : ∃ r, ∀ m : fm_M, ma_c (m 2) = s → f_X6_account x m = some r := by
  unfold f_X6_account
  by_cases h0 : x = (0 : Int32)
  · exact ⟨s 16 2, fun m hm => by rw [if_pos h0, ka_g2, Option.bind_some, hm]⟩
  by_cases h1 : x = (1 : Int32)
  · exact ⟨s 16 3, fun m hm => by rw [if_neg h0, if_pos h1, ka_g3, Option.bind_some, hm]⟩
  by_cases h2 : x = (2 : Int32)
  · exact ⟨s 16 0, fun m hm => by rw [if_neg h0, if_neg h1, if_pos h2, ka_g0, Option.bind_some, hm]⟩
  by_cases h3 : x = (3 : Int32)
  · exact ⟨_, fun m hm => by rw [if_neg h0, if_neg h1, if_neg h2, if_pos h3, ka_howMany, Option.bind_some, hm]⟩
  by_cases h4 : x = (4 : Int32)
  · exact ⟨_, fun m hm => by rw [if_neg h0, if_neg h1, if_neg h2, if_neg h3, if_pos h4, ka_howMany, Option.bind_some, hm]⟩
  by_cases h5 : x = (5 : Int32)
  · exact ⟨_, fun m hm => by rw [if_neg h0, if_neg h1, if_neg h2, if_neg h3, if_neg h4, if_pos h5, ka_howMany, Option.bind_some, hm]⟩
  by_cases h6 : x = (6 : Int32)
  · exact ⟨_, fun m hm => by rw [if_neg h0, if_neg h1, if_neg h2, if_neg h3, if_neg h4, if_neg h5, if_pos h6, ka_howMany, Option.bind_some, hm]⟩
  by_cases h7 : x = (7 : Int32)
  · exact ⟨_, fun m hm => by rw [if_neg h0, if_neg h1, if_neg h2, if_neg h3, if_neg h4, if_neg h5, if_neg h6, if_pos h7, kq_ban6, Option.bind_some, hm]⟩
  by_cases h8 : x = (8 : Int32)
  · exact ⟨_, fun m hm => by rw [if_neg h0, if_neg h1, if_neg h2, if_neg h3, if_neg h4, if_neg h5, if_neg h6, if_neg h7, if_pos h8, ka_feastsTold, Option.bind_some, hm]⟩
  by_cases h9 : x = (9 : Int32)
  · exact ⟨s 16 4, fun m hm => by rw [if_neg h0, if_neg h1, if_neg h2, if_neg h3, if_neg h4, if_neg h5, if_neg h6, if_neg h7, if_neg h8, if_pos h9, ka_g4, Option.bind_some, hm]⟩
  by_cases h10 : x = (10 : Int32)
  · exact ⟨s 16 5, fun m hm => by rw [if_neg h0, if_neg h1, if_neg h2, if_neg h3, if_neg h4, if_neg h5, if_neg h6, if_neg h7, if_neg h8, if_neg h9, if_pos h10, ka_g5, Option.bind_some, hm]⟩
  by_cases h11 : x = (11 : Int32)
  · exact ⟨s 16 6, fun m hm => by rw [if_neg h0, if_neg h1, if_neg h2, if_neg h3, if_neg h4, if_neg h5, if_neg h6, if_neg h7, if_neg h8, if_neg h9, if_neg h10, if_pos h11, ka_g6, Option.bind_some, hm]⟩
  by_cases h12 : x = (12 : Int32)
  · exact ⟨s 16 7, fun m hm => by rw [if_neg h0, if_neg h1, if_neg h2, if_neg h3, if_neg h4, if_neg h5, if_neg h6, if_neg h7, if_neg h8, if_neg h9, if_neg h10, if_neg h11, if_pos h12, ka_g7, Option.bind_some, hm]⟩
  by_cases h13 : x = (13 : Int32)
  · exact ⟨s 16 8, fun m hm => by rw [if_neg h0, if_neg h1, if_neg h2, if_neg h3, if_neg h4, if_neg h5, if_neg h6, if_neg h7, if_neg h8, if_neg h9, if_neg h10, if_neg h11, if_neg h12, if_pos h13, ka_g8, Option.bind_some, hm]⟩
  by_cases h14 : x = (14 : Int32)
  · exact ⟨s 16 9, fun m hm => by rw [if_neg h0, if_neg h1, if_neg h2, if_neg h3, if_neg h4, if_neg h5, if_neg h6, if_neg h7, if_neg h8, if_neg h9, if_neg h10, if_neg h11, if_neg h12, if_neg h13, if_pos h14, ka_g9, Option.bind_some, hm]⟩
  exact ⟨-12, fun m hm => by rw [if_neg h0, if_neg h1, if_neg h2, if_neg h3, if_neg h4, if_neg h5, if_neg h6, if_neg h7, if_neg h8, if_neg h9, if_neg h10, if_neg h11, if_neg h12, if_neg h13, if_neg h14, if_neg h15, if_neg h16]⟩
theorem lm_bro {n : Nat} (s : ma_S) (hs : s 16 0 = ma_i n) {b : Nat} (hbn : b < n) (hn : n ≤ 16) (x : Int32) : ∃ r, ∀ m : fm_M, ma_c (m 2) = s → f_X6_brotherOf (ma_i b) x m = some r := by
  have hb16 : b < 16 := by omega
  have hbr : ∀ m : fm_M, ma_c (m 2) = s → f_X5_isBrother 1 2 (ma_i b) m = some true := fun m hm => by
    rw [ka_isBrother (n := n) (by rw [hm]; exact hs), ma_br_i hn (by omega), decide_eq_true hbn]
  unfold f_X6_brotherOf
  by_cases h0 : x = (0 : Int32)
  · exact ⟨s 0 b, fun m hm => by rw [hbr m hm, Option.bind_some, if_pos rfl, if_pos h0, ka_of0 hb16, Option.bind_some, hm]⟩
  by_cases h1 : x = (1 : Int32)
  · exact ⟨s 1 b, fun m hm => by rw [hbr m hm, Option.bind_some, if_pos rfl, if_neg h0, if_pos h1, ka_of1 hb16, Option.bind_some, hm]⟩
  by_cases h2 : x = (2 : Int32)
  · exact ⟨s 2 b, fun m hm => by rw [hbr m hm, Option.bind_some, if_pos rfl, if_neg h0, if_neg h1, if_pos h2, ka_of2 hb16, Option.bind_some, hm]⟩
  by_cases h3 : x = (3 : Int32)
  · exact ⟨s 3 b, fun m hm => by rw [hbr m hm, Option.bind_some, if_pos rfl, if_neg h0, if_neg h1, if_neg h2, if_pos h3, ka_of3 hb16, Option.bind_some, hm]⟩
  by_cases h4 : x = (4 : Int32)
  · exact ⟨if s 2 b = 1 then s 4 b else -15, fun m hm => by
      rw [hbr m hm, Option.bind_some, if_pos rfl, if_neg h0, if_neg h1, if_neg h2, if_neg h3, if_pos h4, ka_is hb16, Option.bind_some, ka_of4 hb16, Option.bind_some, hm]
      by_cases hw : s 2 b = 1
      · rw [if_pos (decide_eq_true hw), if_pos hw]
      · rw [if_neg (by simpa using hw), if_neg hw]⟩
  by_cases h5 : x = (5 : Int32)
  · exact ⟨s 5 b, fun m hm => by rw [hbr m hm, Option.bind_some, if_pos rfl, if_neg h0, if_neg h1, if_neg h2, if_neg h3, if_neg h4, if_pos h5, ka_of5 hb16, Option.bind_some, hm]⟩
  by_cases h6 : x = (6 : Int32)
  · exact ⟨s 6 b, fun m hm => by rw [hbr m hm, Option.bind_some, if_pos rfl, if_neg h0, if_neg h1, if_neg h2, if_neg h3, if_neg h4, if_neg h5, if_pos h6, ka_of6 hb16, Option.bind_some, hm]⟩
  by_cases h7 : x = (7 : Int32)
  · exact ⟨_, fun m hm => by rw [hbr m hm, Option.bind_some, if_pos rfl, if_neg h0, if_neg h1, if_neg h2, if_neg h3, if_neg h4, if_neg h5, if_neg h6, if_pos h7, kq_broke6 hb16, Option.bind_some, hm]⟩
  by_cases h8 : x = (8 : Int32)
  · exact ⟨s 7 b, fun m hm => by rw [hbr m hm, Option.bind_some, if_pos rfl, if_neg h0, if_neg h1, if_neg h2, if_neg h3, if_neg h4, if_neg h5, if_neg h6, if_neg h7, if_pos h8, ka_of7 hb16, Option.bind_some, hm]⟩
  by_cases h9 : x = (9 : Int32)
  · exact ⟨if s 2 b = 0 then ma_i (ma_ct (fun k => decide (s 2 k = 0)) b) else -15, fun m hm => by
      rw [hbr m hm, Option.bind_some, if_pos rfl, if_neg h0, if_neg h1, if_neg h2, if_neg h3, if_neg h4, if_neg h5, if_neg h6, if_neg h7, if_neg h8, if_pos h9]
      unfold f_X6_placeInLine
      rw [ka_is hb16, Option.bind_some, kq_place6 hb16, hm]
      by_cases hw : s 2 b = 0
      · rw [if_pos (decide_eq_true hw), if_pos hw]; rfl
      · rw [if_neg (by simpa using hw), if_neg hw]; rfl⟩
  exact ⟨-12, fun m hm => by rw [hbr m hm, Option.bind_some, if_pos rfl, if_neg h0, if_neg h1, if_neg h2, if_neg h3, if_neg h4, if_neg h5, if_neg h6, if_neg h7, if_neg h8, if_neg h9]⟩
theorem lm_broke {n : Nat} (s : ma_S) (hs : s 16 0 = ma_i n) {b : Nat} (hbn : b < n) (hn : n ≤ 16) (x : Int32) : ∃ r, ∀ m : fm_M, ma_c (m 2) = s → f_X6_broke (ma_i b) x m = some r := by
  have hb16 : b < 16 := by omega
  have hbr : ∀ m : fm_M, ma_c (m 2) = s → f_X5_isBrother 1 2 (ma_i b) m = some true := fun m hm => by
    rw [ka_isBrother (n := n) (by rw [hm]; exact hs), ma_br_i hn (by omega), decide_eq_true hbn]
  unfold f_X6_broke
  cases hc : mj_cb x 5 with
  | false => exact ⟨-11, fun m hm => by rw [hbr m hm, Option.bind_some, if_pos rfl, mj_rule6, Option.bind_some, hc]; rfl⟩
  | true =>
    obtain ⟨j, hj, rfl⟩ := mj_cb_of (by decide) hc
    exact ⟨s (9 + j) b, fun m hm => by rw [hbr m hm, Option.bind_some, if_pos rfl, mj_rule6, Option.bind_some, hc, if_pos rfl, ka_of9 hb16 hj, Option.bind_some, hm]⟩
theorem lm_in (s : ma_S) (x : Int32) : ∃ r, ∀ m : fm_M, ma_c (m 2) = s → f_X6_inCell x m = some r := by
  unfold f_X6_inCell
  cases hc : mj_cb x 8 with
  | false => exact ⟨-11, fun m hm => by rw [mj_cell6, Option.bind_some, hc]; rfl⟩
  | true =>
    obtain ⟨j, hj, rfl⟩ := mj_cb_of (by decide) hc
    exact ⟨s 14 j, fun m hm => by rw [mj_cell6, Option.bind_some, hc, if_pos rfl, ka_gc hj, Option.bind_some, hm]⟩
theorem lm_next (s : ma_S) {wk : Nat} (hwk : wk < 52) (ew : s 16 3 = ma_i wk) : ∃ r, ∀ m : fm_M, ma_c (m 2) = s → f_X6_nextFeast m = some r := by
  refine ⟨if ma_ff (fun k => decide (¬ s 15 ((wk + k) % 52) ≤ 0)) 52 0 < 52 then ma_i (ma_ff (fun k => decide (¬ s 15 ((wk + k) % 52) ≤ 0)) 52 0) else -15, fun m hm => ?_⟩
  subst hm
  have erem : ∀ k, k < 52 → ma_i wk + ma_i k - (ma_i wk + ma_i k) / (52 : Int32) * (52 : Int32) = ma_i ((wk + k) % 52) := fun k hk => by
    rw [ma_add]; exact ma_rem (a := wk + k) (k := 52) (by omega) (by decide)
  unfold f_X6_nextFeast
  have key := ma_find (fun f k => f_X6_nextFeast_L2 f (ma_i k) m) 52 (fun k => decide (¬ ma_c (m 2) 15 ((wk + k) % 52) ≤ 0)) (fun b => some (ma_i b)) (resN := some (-15)) (fun f k hk hp => ?_) (fun f k hk hp => ?_) (fun f => ?_) fm_F 0 (by decide) (by decide)
  · refine key.trans ?_
    rw [Nat.sub_zero]
    split <;> rfl
  · show f_X6_nextFeast_L2 (f + 1) _ m = _
    rw [f_X6_nextFeast_L2, if_neg (ma_g0 hk (by decide)), ka_g3, Option.bind_some, ew, erem k hk, ka_gw (by omega), Option.bind_some, if_neg (of_decide_eq_true hp)]
  · show f_X6_nextFeast_L2 (f + 1) _ m = _
    rw [f_X6_nextFeast_L2, if_neg (ma_g0 hk (by decide)), ka_g3, Option.bind_some, ew, erem k hk, ka_gw (by omega), Option.bind_some, if_pos (by simpa using hp), ma_s1]
  · show f_X6_nextFeast_L2 (f + 1) _ m = _
    rw [f_X6_nextFeast_L2, if_pos ma_g1]
/-! longs -/
theorem ml_i {k : Nat} (hk : k < 2147483648) : (ma_i k).toInt64 = Int64.ofNat k := by
  apply Int64.toInt_inj.mp
  rw [Int32.toInt_toInt64, ma_int hk, Int64.toInt_ofNat_of_lt (by omega)]
theorem ml_b {k : Nat} (hk : k < 2147483648) : (Int64.ofNat k).toInt32 = ma_i k := by
  rw [← ml_i hk, Int32.toInt32_toInt64]
theorem ml_inj {x y : Int32} (h : x.toInt64 = y.toInt64) : x = y := by
  have := congrArg Int64.toInt32 h
  rwa [Int32.toInt32_toInt64, Int32.toInt32_toInt64] at this
theorem ml_eq (x y : Int64) : lg_cmp x y = 0 ↔ x = y := by
  unfold lg_cmp
  constructor
  · intro h
    split at h
    · exact absurd h (by decide)
    · split at h
      · assumption
      · exact absurd h (by decide)
  · intro h
    subst h
    rw [if_neg (Int64.lt_irrefl), if_pos rfl]
theorem ml_le {a b : Nat} (ha : a < 2147483648) (hb : b < 2147483648) : Int64.ofNat a ≤ Int64.ofNat b ↔ a ≤ b := by
  rw [Int64.le_iff_toInt_le, Int64.toInt_ofNat_of_lt (by omega), Int64.toInt_ofNat_of_lt (by omega)]
  omega
theorem ml_divl {a k : Nat} (ha : a < 2147483648) (hk : k < 2147483648) : ma_i a / ma_i k = ma_i (a / k) := (Int32.ofNat_div (by omega) (by omega)).symm
theorem ml_cond {k n c : Nat} {C : Int64} (hC : C = Int64.ofNat c) (hk : k < 1000) (hn : n ≤ 16) (hc : c ≤ 10) : 0 ≤ lg_cmp (ma_i k).toInt64 (C * (ma_i n).toInt64) ↔ c * n ≤ k := by
  have h160 : c * n ≤ 160 := Nat.mul_le_mul hc hn
  rw [lg_cmp_ge, hC, ml_i (by omega), ml_i (by omega), ← Int64.ofNat_mul, ml_le (by omega) (by omega)]
/-! the mark -/
theorem lm_L114 (s : ma_S) {wk : Nat} (hwk : wk < 52) (ew : s 16 3 = ma_i wk) : ∀ (d k f : Nat) (v : Int64), k + d = 8 → d < f → ∃ r, ∀ m : fm_M, ma_c (m 2) = s → f_L_mark_L114 f v (ma_i k) m = some r := by
  intro d
  induction d with
  | zero =>
    intro k f v hk hf
    obtain ⟨f, rfl⟩ : ∃ q, f = q + 1 := ⟨f - 1, by omega⟩
    have e : k = 8 := by omega
    subst e
    obtain ⟨r, hr⟩ := lm_next s hwk ew
    exact ⟨_, fun m hm => by rw [f_L_mark_L114, if_pos ma_g1]; unfold f_L_nextFeast; rw [hr m hm]; rfl⟩
  | succ d ih =>
    intro k f v hk hf
    obtain ⟨f, rfl⟩ : ∃ q, f = q + 1 := ⟨f - 1, by omega⟩
    obtain ⟨r, hr⟩ := lm_in s (ma_i k)
    obtain ⟨r2, hr2⟩ := ih (k + 1) f ((31 : Int64) * v + r.toInt64) (by omega) (by omega)
    exact ⟨r2, fun m hm => by
      rw [f_L_mark_L114, if_neg (ma_g0 (a := 8) (by omega) (by decide))]
      unfold f_L_inCell
      rw [hr m hm, Option.bind_some, Option.bind_some, ma_s1]
      exact hr2 m hm⟩
theorem lm_ac2 {n : Nat} (s : ma_S) (hs : s 16 0 = ma_i n) (m : fm_M) (hm : ma_c (m 2) = s) : f_L_account (2 : Int32) m = some (ma_i n).toInt64 := by
  unfold f_L_account f_X6_account
  rw [if_neg (by decide), if_neg (by decide), if_pos rfl, ka_g0, hm, hs]
  rfl
theorem lm_L74 (s : ma_S) {wk n : Nat} (hwk : wk < 52) (ew : s 16 3 = ma_i wk) (hs : s 16 0 = ma_i n) (hn : n ≤ 16) : ∀ (d k f : Nat) (v : Int64), k + d = 5 * n → d < f → ∃ r, ∀ m : fm_M, ma_c (m 2) = s → f_L_mark_L74 f v (ma_i k) m = some r := by
  intro d
  induction d with
  | zero =>
    intro k f v hk hf
    obtain ⟨f, rfl⟩ : ∃ q, f = q + 1 := ⟨f - 1, by omega⟩
    obtain ⟨r, hr⟩ := lm_L114 s hwk ew 8 0 fm_F v (by decide) (by decide)
    exact ⟨r, fun m hm => by
      rw [f_L_mark_L74, lm_ac2 s hs m hm, Option.bind_some, if_pos ((ml_cond (C := (5 : Int64)) (c := 5) rfl (by omega) hn (by decide)).mpr (by omega))]
      exact hr m hm⟩
  | succ d ih =>
    intro k f v hk hf
    obtain ⟨f, rfl⟩ : ∃ q, f = q + 1 := ⟨f - 1, by omega⟩
    obtain ⟨r, hr⟩ := lm_broke s hs (b := k / 5) (by omega) hn (ma_i k - ma_i k / (5 : Int32) * (5 : Int32))
    obtain ⟨r2, hr2⟩ := ih (k + 1) f ((31 : Int64) * v + r.toInt64) (by omega) (by omega)
    exact ⟨r2, fun m hm => by
      rw [f_L_mark_L74, lm_ac2 s hs m hm, Option.bind_some, if_neg (fun hh => by have := (ml_cond (C := (5 : Int64)) (c := 5) rfl (by omega) hn (by decide)).mp hh; omega)]
      unfold f_L_broke
      have ed : ma_i k / (5 : Int32) = ma_i (k / 5) := ml_divl (k := 5) (by omega) (by decide)
      have hr' := hr m hm
      rw [← ed] at hr'
      rw [hr', Option.bind_some, Option.bind_some, ma_s1]
      exact hr2 m hm⟩
theorem lm_L32 (s : ma_S) {wk n : Nat} (hwk : wk < 52) (ew : s 16 3 = ma_i wk) (hs : s 16 0 = ma_i n) (hn : n ≤ 16) : ∀ (d k f : Nat) (v : Int64), k + d = 10 * n → d < f → ∃ r, ∀ m : fm_M, ma_c (m 2) = s → f_L_mark_L32 f v (ma_i k) m = some r := by
  intro d
  induction d with
  | zero =>
    intro k f v hk hf
    obtain ⟨f, rfl⟩ : ∃ q, f = q + 1 := ⟨f - 1, by omega⟩
    obtain ⟨r, hr⟩ := lm_L74 s hwk ew hs hn (5 * n) 0 fm_F v (by omega) (by unfold fm_F; omega)
    exact ⟨r, fun m hm => by
      rw [f_L_mark_L32, lm_ac2 s hs m hm, Option.bind_some, if_pos ((ml_cond (C := (10 : Int64)) (c := 10) rfl (by omega) hn (by decide)).mpr (by omega))]
      exact hr m hm⟩
  | succ d ih =>
    intro k f v hk hf
    obtain ⟨f, rfl⟩ : ∃ q, f = q + 1 := ⟨f - 1, by omega⟩
    obtain ⟨r, hr⟩ := lm_bro s hs (b := k / 10) (by omega) hn (ma_i k - ma_i k / (10 : Int32) * (10 : Int32))
    obtain ⟨r2, hr2⟩ := ih (k + 1) f ((31 : Int64) * v + r.toInt64) (by omega) (by omega)
    exact ⟨r2, fun m hm => by
      rw [f_L_mark_L32, lm_ac2 s hs m hm, Option.bind_some, if_neg (fun hh => by have := (ml_cond (C := (10 : Int64)) (c := 10) rfl (by omega) hn (by decide)).mp hh; omega)]
      unfold f_L_brotherOf
      have ed : ma_i k / (10 : Int32) = ma_i (k / 10) := ml_divl (k := 10) (by omega) (by decide)
      have hr' := hr m hm
      rw [← ed] at hr'
      rw [hr', Option.bind_some, Option.bind_some, ma_s1]
      exact hr2 m hm⟩
theorem lm_L6 (s : ma_S) {wk n : Nat} (hwk : wk < 52) (ew : s 16 3 = ma_i wk) (hs : s 16 0 = ma_i n) (hn : n ≤ 16) : ∀ (d k f : Nat) (v : Int64), k + d = 15 → d < f → ∃ r, ∀ m : fm_M, ma_c (m 2) = s → f_L_mark_L6 f v (ma_i k) m = some r := by
  intro d
  induction d with
  | zero =>
    intro k f v hk hf
    obtain ⟨f, rfl⟩ : ∃ q, f = q + 1 := ⟨f - 1, by omega⟩
    have e : k = 15 := by omega
    subst e
    obtain ⟨r, hr⟩ := lm_L32 s hwk ew hs hn (10 * n) 0 fm_F v (by omega) (by unfold fm_F; omega)
    exact ⟨r, fun m hm => by rw [f_L_mark_L6, if_pos ma_g1]; exact hr m hm⟩
  | succ d ih =>
    intro k f v hk hf
    obtain ⟨f, rfl⟩ : ∃ q, f = q + 1 := ⟨f - 1, by omega⟩
    obtain ⟨r, hr⟩ := lm_acc s (ma_i k) (fun h => by have := (ma_inj (b := 15) (by omega) (by decide)).mp h; omega) (fun h => by have := (ma_inj (b := 16) (by omega) (by decide)).mp h; omega)
    obtain ⟨r2, hr2⟩ := ih (k + 1) f ((31 : Int64) * v + r.toInt64) (by omega) (by omega)
    exact ⟨r2, fun m hm => by
      rw [f_L_mark_L6, if_neg (ma_g0 (a := 15) (by omega) (by decide))]
      unfold f_L_account
      rw [hr m hm, Option.bind_some, Option.bind_some, ma_s1]
      exact hr2 m hm⟩
theorem lm_mark {B n : Nat} {s t : ma_S} (h : mr_rel B n s t) : ∃ r, ∀ m : fm_M, ma_c (m 2) = s → f_L_mark m = some r := by
  obtain ⟨wk, hwk, ew⟩ := h.2.2.2.2.1
  exact lm_L6 s hwk ew h.2.1 (mr_n h) 15 0 fm_F 17 (by decide) (by decide)

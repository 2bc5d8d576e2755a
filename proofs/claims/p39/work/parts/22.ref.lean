/-! THE REFERENCE IN CLOSED FORM -/
theorem kb_of {m : fm_M} {k b : Nat} (hk : k < 14) (hb : b < 16) : f_X7_of (ma_i b) (ma_i k) m = some (ma_w (m 24) k b) := by
  unfold f_X7_of
  have e : (64 : Int32) + (16 : Int32) * ma_i b + ma_i k = ma_i (64 + 16 * b + k) := by
    have h16 : (16 : Int32) = ma_i 16 := rfl
    have h64 : (64 : Int32) = ma_i 64 := rfl
    rw [h16, h64, ma_mul, ma_add, ma_add]
  rw [e, if_pos (ma_in (by omega) (by omega)), ma_cn (by omega)]
  have h : ma_okw k b = true := (ma_okw_iff k b).mpr (Or.inl ⟨hk, hb⟩)
  unfold ma_w ma_jx
  rw [if_pos h, if_pos hk]
theorem kb_sets {m : fm_M} {k b : Nat} {v : Int32} (hk : k < 14) (hb : b < 16) : f_X7_sets (ma_i b) (ma_i k) v m = some (fm_up m 24 (ma_t (m 24) k b v)) := by
  unfold f_X7_sets
  have e : (64 : Int32) + (16 : Int32) * ma_i b + ma_i k = ma_i (64 + 16 * b + k) := by
    have h16 : (16 : Int32) = ma_i 16 := rfl
    have h64 : (64 : Int32) = ma_i 64 := rfl
    rw [h16, h64, ma_mul, ma_add, ma_add]
  rw [e, if_pos (ma_in (by omega) (by omega)), ma_cn (by omega)]
  unfold ma_t ma_jx
  rw [if_pos hk]
theorem kb_of0 {m : fm_M} {b : Nat} (hb : b < 16) : f_X7_of (ma_i b) (0 : Int32) m = some (ma_w (m 24) 0 b) := kb_of (k := 0) (by decide) hb
theorem kb_se0 {m : fm_M} {b : Nat} {v : Int32} (hb : b < 16) : f_X7_sets (ma_i b) (0 : Int32) v m = some (fm_up m 24 (ma_t (m 24) 0 b v)) := kb_sets (k := 0) (by decide) hb
theorem kb_of1 {m : fm_M} {b : Nat} (hb : b < 16) : f_X7_of (ma_i b) (1 : Int32) m = some (ma_w (m 24) 1 b) := kb_of (k := 1) (by decide) hb
theorem kb_se1 {m : fm_M} {b : Nat} {v : Int32} (hb : b < 16) : f_X7_sets (ma_i b) (1 : Int32) v m = some (fm_up m 24 (ma_t (m 24) 1 b v)) := kb_sets (k := 1) (by decide) hb
theorem kb_of2 {m : fm_M} {b : Nat} (hb : b < 16) : f_X7_of (ma_i b) (2 : Int32) m = some (ma_w (m 24) 2 b) := kb_of (k := 2) (by decide) hb
theorem kb_se2 {m : fm_M} {b : Nat} {v : Int32} (hb : b < 16) : f_X7_sets (ma_i b) (2 : Int32) v m = some (fm_up m 24 (ma_t (m 24) 2 b v)) := kb_sets (k := 2) (by decide) hb
theorem kb_of3 {m : fm_M} {b : Nat} (hb : b < 16) : f_X7_of (ma_i b) (3 : Int32) m = some (ma_w (m 24) 3 b) := kb_of (k := 3) (by decide) hb
theorem kb_se3 {m : fm_M} {b : Nat} {v : Int32} (hb : b < 16) : f_X7_sets (ma_i b) (3 : Int32) v m = some (fm_up m 24 (ma_t (m 24) 3 b v)) := kb_sets (k := 3) (by decide) hb
theorem kb_of4 {m : fm_M} {b : Nat} (hb : b < 16) : f_X7_of (ma_i b) (4 : Int32) m = some (ma_w (m 24) 4 b) := kb_of (k := 4) (by decide) hb
theorem kb_se4 {m : fm_M} {b : Nat} {v : Int32} (hb : b < 16) : f_X7_sets (ma_i b) (4 : Int32) v m = some (fm_up m 24 (ma_t (m 24) 4 b v)) := kb_sets (k := 4) (by decide) hb
theorem kb_of5 {m : fm_M} {b : Nat} (hb : b < 16) : f_X7_of (ma_i b) (5 : Int32) m = some (ma_w (m 24) 5 b) := kb_of (k := 5) (by decide) hb
theorem kb_se5 {m : fm_M} {b : Nat} {v : Int32} (hb : b < 16) : f_X7_sets (ma_i b) (5 : Int32) v m = some (fm_up m 24 (ma_t (m 24) 5 b v)) := kb_sets (k := 5) (by decide) hb
theorem kb_of6 {m : fm_M} {b : Nat} (hb : b < 16) : f_X7_of (ma_i b) (6 : Int32) m = some (ma_w (m 24) 6 b) := kb_of (k := 6) (by decide) hb
theorem kb_se6 {m : fm_M} {b : Nat} {v : Int32} (hb : b < 16) : f_X7_sets (ma_i b) (6 : Int32) v m = some (fm_up m 24 (ma_t (m 24) 6 b v)) := kb_sets (k := 6) (by decide) hb
theorem kb_of7 {m : fm_M} {b : Nat} (hb : b < 16) : f_X7_of (ma_i b) (7 : Int32) m = some (ma_w (m 24) 7 b) := kb_of (k := 7) (by decide) hb
theorem kb_se7 {m : fm_M} {b : Nat} {v : Int32} (hb : b < 16) : f_X7_sets (ma_i b) (7 : Int32) v m = some (fm_up m 24 (ma_t (m 24) 7 b v)) := kb_sets (k := 7) (by decide) hb
theorem kb_of8 {m : fm_M} {b : Nat} (hb : b < 16) : f_X7_of (ma_i b) (8 : Int32) m = some (ma_w (m 24) 8 b) := kb_of (k := 8) (by decide) hb
theorem kb_se8 {m : fm_M} {b : Nat} {v : Int32} (hb : b < 16) : f_X7_sets (ma_i b) (8 : Int32) v m = some (fm_up m 24 (ma_t (m 24) 8 b v)) := kb_sets (k := 8) (by decide) hb
theorem kb_of9 {m : fm_M} {b j : Nat} (hb : b < 16) (hj : j < 5) : f_X7_of (ma_i b) ((9 : Int32) + ma_i j) m = some (ma_w (m 24) (9 + j) b) := by
  have h : (9 : Int32) + ma_i j = ma_i (9 + j) := ma_add 9 j
  rw [h]
  exact kb_of (by omega) hb
theorem kb_se9 {m : fm_M} {b j : Nat} {v : Int32} (hb : b < 16) (hj : j < 5) : f_X7_sets (ma_i b) ((9 : Int32) + ma_i j) v m = some (fm_up m 24 (ma_t (m 24) (9 + j) b v)) := by
  have h : (9 : Int32) + ma_i j = ma_i (9 + j) := ma_add 9 j
  rw [h]
  exact kb_sets (by omega) hb
theorem kb_between {x a b : Int32} {m : fm_M} : f_X7_isBetween x a b m = some (decide (¬ x < a) && decide (¬ b < x)) := by
  unfold f_X7_isBetween
  by_cases h : x < a
  · rw [if_pos h, decide_eq_false (fun hh => hh h), Bool.false_and]
  · rw [if_neg h, decide_eq_true h, Bool.true_and]
    by_cases h2 : b < x
    · rw [if_pos h2, decide_eq_false (fun hh => hh h2)]
    · rw [if_neg h2, decide_eq_true h2]
theorem kb_lesser {x y : Int32} {m : fm_M} : f_X7_lesser x y m = some (if y ≤ x then y else x) := by
  unfold f_X7_lesser
  split <;> rfl
theorem kb_lt1 {n : Nat} (hn : n ≤ 16) (x : Int32) : (ma_i n - 1 < x) ↔ ¬ x < ma_i n := by
  rw [Int32.lt_iff_toInt_lt, Int32.lt_iff_toInt_lt]
  have e : (ma_i n - 1).toInt = (n : Int) - 1 := by
    rw [Int32.toInt_sub, ma_int (by omega)]
    have h1 : (1 : Int32).toInt = 1 := by decide
    rw [h1]
    exact Int.bmod_eq_of_le (by omega) (by omega)
  rw [e, ma_int (by omega)]
  omega
theorem kb_isBrother {m : fm_M} {n : Nat} {x : Int32} (hn16 : n ≤ 16) (hn : ma_w (m 24) 16 0 = ma_i n) : f_X7_isBrother x m = some (ma_br n x) := by
  unfold f_X7_isBrother
  have e0 : m 24 (2 : Int32).toNatClampNeg = ma_w (m 24) 16 0 := rfl
  rw [if_pos (by decide), e0, hn, kb_between, Option.bind_some]
  unfold ma_br
  congr 2
  exact decide_eq_decide.mpr (by rw [kb_lt1 hn16]; exact Decidable.not_not)
theorem kb_isCell {x : Int32} {m : fm_M} : f_X7_isCell x m = some (decide (¬ x < 0) && decide (¬ (7 : Int32) < x)) := by
  unfold f_X7_isCell
  rw [kb_between, Option.bind_some]
theorem kb_isSo {m : fm_M} {x : Int32} {b : Nat} (hb : b < 16) : f_X7_isSo (ma_i b) x m = some (decide (ma_w (m 24) 2 b = x)) := by
  unfold f_X7_isSo
  rw [kb_of2 hb, Option.bind_some]
  by_cases h : ma_w (m 24) 2 b = x
  · rw [if_pos h, decide_eq_true h]
  · rw [if_neg h, decide_eq_false h]
theorem kb_r0 (m : fm_M) : m 24 (2 : Int32).toNatClampNeg = ma_w (m 24) 16 0 := rfl
theorem kb_g0 {n k : Nat} (hn : n ≤ 16) (h : k < n) : ¬ (ma_i n ≤ ma_i k) := by rw [ma_le (by omega) (by omega)]; omega
theorem kb_s0 (k : Nat) : ma_i k + 0 = ma_i k := ma_add k 0
theorem kb_s2 (k : Nat) : ma_i k + 2 = ma_i (k + 2) := ma_add k 2
theorem kb_that {m : fm_M} {n : Nat} {x : Int32} (hn16 : n ≤ 16) (hn : ma_w (m 24) 16 0 = ma_i n) : f_X7_brethrenThat x m = some (ma_i (ma_ct (fun b => decide (ma_w (m 24) 2 b = x)) n)) := by
  unfold f_X7_brethrenThat
  refine ma_loop (fun f k => f_X7_brethrenThat_L4 f x (ma_i (ma_ct (fun b => decide (ma_w (m 24) 2 b = x)) k)) (ma_i k) m) n (fun f k hk => ?_) (fun f => ?_) fm_F 0 (Nat.zero_le _) (by unfold fm_F; omega)
  · show f_X7_brethrenThat_L4 (f + 1) _ _ _ m = _
    rw [f_X7_brethrenThat_L4, if_pos (by decide), kb_r0 m, hn, if_neg (kb_g0 hn16 hk), kb_isSo (by omega), Option.bind_some, ma_ct_s]
    by_cases h : ma_w (m 24) 2 k = x <;> simp [h, ma_s1]
  · show f_X7_brethrenThat_L4 (f + 1) _ _ _ m = _
    rw [f_X7_brethrenThat_L4, if_pos (by decide), kb_r0 m, hn, if_pos (Int32.le_refl _)]
/-- the reference's brother in a cell, as a number of 0 to n; n for none -/
def mb_in (t : ma_S) (n : Nat) (x : Int32) : Nat := ma_ff (fun b => decide (t 2 b = 1) && decide (t 3 b = x)) n 0
theorem kb_brotherIn {m : fm_M} {n : Nat} {x : Int32} (hn16 : n ≤ 16) (hn : ma_w (m 24) 16 0 = ma_i n) : f_X7_brotherIn x m = some (if mb_in (ma_w (m 24)) n x < n then ma_i (mb_in (ma_w (m 24)) n x) else -15) := by
  unfold f_X7_brotherIn
  have key := ma_find (fun f k => f_X7_brotherIn_L2 f x (ma_i k) m) n (fun b => decide (ma_w (m 24) 2 b = 1) && decide (ma_w (m 24) 3 b = x)) (fun b => some (ma_i b)) (resN := some (-15)) (fun f k hk hp => ?_) (fun f k hk hp => ?_) (fun f => ?_) fm_F 0 (Nat.zero_le _) (by unfold fm_F; omega)
  · refine key.trans ?_
    unfold mb_in
    rw [Nat.sub_zero]
    split <;> rfl
  · show f_X7_brotherIn_L2 (f + 1) _ _ m = _
    simp only [Bool.and_eq_true, decide_eq_true_eq] at hp
    rw [f_X7_brotherIn_L2, if_pos (by decide), kb_r0 m, hn, if_neg (kb_g0 hn16 hk), kb_isSo (by omega), Option.bind_some, kb_of3 (by omega), Option.bind_some, if_pos (decide_eq_true hp.1), if_pos hp.2]
  · show f_X7_brotherIn_L2 (f + 1) _ _ m = _
    rw [f_X7_brotherIn_L2, if_pos (by decide), kb_r0 m, hn, if_neg (kb_g0 hn16 hk), kb_isSo (by omega), Option.bind_some, kb_of3 (by omega), Option.bind_some, ma_s1]
    by_cases h : ma_w (m 24) 2 k = 1
    · rw [if_pos (decide_eq_true h), if_neg]
      intro h2
      rw [h, h2] at hp
      simp at hp
    · rw [if_neg (by simpa using h)]
  · show f_X7_brotherIn_L2 (f + 1) _ _ m = _
    rw [f_X7_brotherIn_L2, if_pos (by decide), kb_r0 m, hn, if_pos (Int32.le_refl _)]
theorem kb_countsFor {m : fm_M} {b : Nat} (hb : b < 16) : f_X7_countsFor (ma_i b) m = some (if ma_w (m 24) 1 b = 1 then 2 else 1) := by
  unfold f_X7_countsFor
  rw [kb_of1 hb, Option.bind_some]
  split <;> rfl
/-- how many voices count, by the reference -/
def mb_vo (t : ma_S) (n x : Nat) : Nat := if t 2 x = 0 then (if t 1 x = 1 then 2 * ma_ct (fun b => decide (t 7 b = ma_i (x + 1))) n else ma_ct (fun b => decide (t 7 b = ma_i (x + 1))) n) else 0
theorem kb_voicesFor {m : fm_M} {n x : Nat} (hn16 : n ≤ 16) (hn : ma_w (m 24) 16 0 = ma_i n) (hx : x < 16) : f_X7_voicesFor (ma_i x) m = some (ma_i (mb_vo (ma_w (m 24)) n x)) := by
  unfold f_X7_voicesFor mb_vo
  rw [kb_isSo hx, Option.bind_some]
  by_cases h0 : ma_w (m 24) 2 x = 0
  · rw [if_pos (decide_eq_true h0), if_pos h0]
    by_cases h1 : ma_w (m 24) 1 x = 1
    · rw [if_pos h1]
      refine ma_loop (fun f k => f_X7_voicesFor_L15 f (ma_i x) (ma_i (2 * ma_ct (fun b => decide (ma_w (m 24) 7 b = ma_i (x + 1))) k)) (ma_i k) m) n (fun f k hk => ?_) (fun f => ?_) fm_F 0 (Nat.zero_le _) (by unfold fm_F; omega)
      · show f_X7_voicesFor_L15 (f + 1) _ _ _ m = _
        rw [f_X7_voicesFor_L15, if_pos (by decide), kb_r0 m, hn, if_neg (kb_g0 hn16 hk), kb_of7 (by omega), Option.bind_some, ma_ct_s, kb_countsFor hx, if_pos h1, ma_s1, ma_s1]
        by_cases h : ma_w (m 24) 7 k = ma_i (x + 1) <;> simp [h, Nat.mul_add, kb_s2]
      · show f_X7_voicesFor_L15 (f + 1) _ _ _ m = _
        rw [f_X7_voicesFor_L15, if_pos (by decide), kb_r0 m, hn, if_pos (Int32.le_refl _)]
    · rw [if_neg h1]
      refine ma_loop (fun f k => f_X7_voicesFor_L15 f (ma_i x) (ma_i (ma_ct (fun b => decide (ma_w (m 24) 7 b = ma_i (x + 1))) k)) (ma_i k) m) n (fun f k hk => ?_) (fun f => ?_) fm_F 0 (Nat.zero_le _) (by unfold fm_F; omega)
      · show f_X7_voicesFor_L15 (f + 1) _ _ _ m = _
        rw [f_X7_voicesFor_L15, if_pos (by decide), kb_r0 m, hn, if_neg (kb_g0 hn16 hk), kb_of7 (by omega), Option.bind_some, ma_ct_s, kb_countsFor hx, if_neg h1, ma_s1, ma_s1]
        by_cases h : ma_w (m 24) 7 k = ma_i (x + 1) <;> simp [h, ma_s1]
      · show f_X7_voicesFor_L15 (f + 1) _ _ _ m = _
        rw [f_X7_voicesFor_L15, if_pos (by decide), kb_r0 m, hn, if_pos (Int32.le_refl _)]
  · rw [if_neg (by simpa using h0), if_neg h0]
    rfl
theorem kb_isEntitled {m : fm_M} {b : Nat} (hb : b < 16) : f_X7_isEntitled (ma_i b) m = some (decide (ma_w (m 24) 2 b = 1) && decide (ma_w (m 24) 5 b = 0)) := by
  unfold f_X7_isEntitled
  rw [kb_isSo hb, Option.bind_some, kb_of5 hb]
  by_cases h : ma_w (m 24) 2 b = 1
  · rw [if_pos (decide_eq_true h), decide_eq_true h, Bool.true_and, Option.bind_some]
    by_cases h2 : ma_w (m 24) 5 b = 0
    · rw [if_pos h2, decide_eq_true h2]
    · rw [if_neg h2, decide_eq_false h2]
  · rw [if_neg (by simpa using h), decide_eq_false h, Bool.false_and]
theorem kb_entitledMany {m : fm_M} {n : Nat} (hn16 : n ≤ 16) (hn : ma_w (m 24) 16 0 = ma_i n) : f_X7_entitledMany m = some (ma_i (ma_ct (fun b => decide (ma_w (m 24) 2 b = 1) && decide (ma_w (m 24) 5 b = 0)) n)) := by
  unfold f_X7_entitledMany
  refine ma_loop (fun f k => f_X7_entitledMany_L4 f (ma_i (ma_ct (fun b => decide (ma_w (m 24) 2 b = 1) && decide (ma_w (m 24) 5 b = 0)) k)) (ma_i k) m) n (fun f k hk => ?_) (fun f => ?_) fm_F 0 (Nat.zero_le _) (by unfold fm_F; omega)
  · show f_X7_entitledMany_L4 (f + 1) _ _ m = _
    rw [f_X7_entitledMany_L4, if_pos (by decide), kb_r0 m, hn, if_neg (kb_g0 hn16 hk), kb_isEntitled (by omega), Option.bind_some, ma_ct_s]
    by_cases h : (decide (ma_w (m 24) 2 k = 1) && decide (ma_w (m 24) 5 k = 0)) = true <;> simp [h, ma_s1]
  · show f_X7_entitledMany_L4 (f + 1) _ _ m = _
    rw [f_X7_entitledMany_L4, if_pos (by decide), kb_r0 m, hn, if_pos (Int32.le_refl _)]
def mb_sr (t : ma_S) (a b : Nat) : Bool := decide (t 8 a < t 8 b)
theorem kb_isSeniorTo {m : fm_M} {a b : Nat} (ha : a < 16) (hb : b < 16) : f_X7_isSeniorTo (ma_i a) (ma_i b) m = some (mb_sr (ma_w (m 24)) a b) := by
  unfold f_X7_isSeniorTo mb_sr
  rw [kb_of8 ha, kb_of8 hb, Option.bind_some, Option.bind_some]
  by_cases h : ma_w (m 24) 8 b ≤ ma_w (m 24) 8 a
  · rw [if_pos h, decide_eq_false (Int32.not_lt.mpr h)]
  · rw [if_neg h, decide_eq_true (Int32.not_le.mp h)]
def mb_sh (t : ma_S) (a b : Nat) : Bool := if t 4 a = t 4 b then mb_sr t a b else decide (t 4 b < t 4 a)
theorem kb_isShabbier {m : fm_M} {a b : Nat} (ha : a < 16) (hb : b < 16) : f_X7_isShabbier (ma_i a) (ma_i b) m = some (mb_sh (ma_w (m 24)) a b) := by
  unfold f_X7_isShabbier mb_sh
  rw [kb_of4 ha, kb_of4 hb, Option.bind_some, Option.bind_some]
  by_cases h0 : ma_w (m 24) 4 a = ma_w (m 24) 4 b
  · rw [if_pos h0, if_pos h0, kb_isSeniorTo ha hb, Option.bind_some]
  · rw [if_neg h0, if_neg h0, Option.bind_some, Option.bind_some]
    by_cases h : ma_w (m 24) 4 a ≤ ma_w (m 24) 4 b
    · rw [if_pos h, decide_eq_false (Int32.not_lt.mpr h)]
    · rw [if_neg h, decide_eq_true (Int32.not_le.mp h)]
def mb_ca (t : ma_S) (n a b : Nat) : Bool := if mb_vo t n a = mb_vo t n b then mb_sr t a b else decide (mb_vo t n b < mb_vo t n a)
theorem mb_vo_le (t : ma_S) {n : Nat} (hn16 : n ≤ 16) (x : Nat) : mb_vo t n x ≤ 32 := by
  unfold mb_vo
  have := ma_ct_le (fun b => decide (t 7 b = ma_i (x + 1))) n
  split
  · split <;> omega
  · omega
theorem kb_isChosenAhead {m : fm_M} {n a b : Nat} (hn16 : n ≤ 16) (hn : ma_w (m 24) 16 0 = ma_i n) (ha : a < 16) (hb : b < 16) : f_X7_isChosenAhead (ma_i a) (ma_i b) m = some (mb_ca (ma_w (m 24)) n a b) := by
  unfold f_X7_isChosenAhead mb_ca
  have h1 := mb_vo_le (ma_w (m 24)) hn16 a
  have h2 := mb_vo_le (ma_w (m 24)) hn16 b
  rw [kb_voicesFor hn16 hn ha, kb_voicesFor hn16 hn hb, kb_of8 ha, kb_of8 hb]
  simp only [Option.bind_some]
  by_cases h0 : mb_vo (ma_w (m 24)) n a = mb_vo (ma_w (m 24)) n b
  · rw [if_pos (by rw [h0]), if_pos h0]
    unfold mb_sr
    by_cases h : ma_w (m 24) 8 b ≤ ma_w (m 24) 8 a
    · rw [if_pos h, decide_eq_false (Int32.not_lt.mpr h)]
    · rw [if_neg h, decide_eq_true (Int32.not_le.mp h)]
  · rw [if_neg (by rw [ma_inj (by omega) (by omega)]; exact h0), if_neg h0]
    by_cases h : mb_vo (ma_w (m 24)) n a ≤ mb_vo (ma_w (m 24)) n b
    · rw [if_pos (by rw [ma_le (by omega) (by omega)]; exact h), decide_eq_false (by omega)]
    · rw [if_neg (by rw [ma_le (by omega) (by omega)]; exact h), decide_eq_true (by omega)]
theorem kb_rankedAt_in {m : fm_M} {n b : Nat} {x : Int32} (hn16 : n ≤ 16) (hn : ma_w (m 24) 16 0 = ma_i n) (hb : b < 16) : f_X7_rankedAt_L29 fm_F x (ma_i b) (0 : Int32) (0 : Int32) m = some (ma_i (ma_ct (fun k => decide (ma_w (m 24) 2 k = 0) && mb_ca (ma_w (m 24)) n k b) n)) := by
  refine ma_loop (fun f k => f_X7_rankedAt_L29 f x (ma_i b) (ma_i (ma_ct (fun k => decide (ma_w (m 24) 2 k = 0) && mb_ca (ma_w (m 24)) n k b) k)) (ma_i k) m) n (fun f k hk => ?_) (fun f => ?_) fm_F 0 (Nat.zero_le _) (by unfold fm_F; omega)
  · show f_X7_rankedAt_L29 (f + 1) _ _ _ _ m = _
    rw [f_X7_rankedAt_L29, if_pos (by decide), kb_r0 m, hn, if_neg (kb_g0 hn16 hk), kb_isSo (by omega), Option.bind_some, kb_isChosenAhead hn16 hn (by omega) (by omega), Option.bind_some, ma_ct_s]
    by_cases h : ma_w (m 24) 2 k = 0
    · by_cases h2 : mb_ca (ma_w (m 24)) n k b = true <;> simp [h, h2, ma_s1]
    · simp [h, ma_s1]
  · show f_X7_rankedAt_L29 (f + 1) _ _ _ _ m = _
    rw [f_X7_rankedAt_L29, if_pos (by decide), kb_r0 m, hn, if_pos (Int32.le_refl _)]
def mb_rankedAtP (t : ma_S) (n : Nat) (x : Int32) (b : Nat) : Bool := decide (t 2 b = 0) && decide (ma_i (ma_ct (fun k => decide (t 2 k = 0) && mb_ca t n k b) n) = x)
theorem kb_rankedAt {m : fm_M} {n : Nat} {x : Int32} (hn16 : n ≤ 16) (hn : ma_w (m 24) 16 0 = ma_i n) : f_X7_rankedAt x m = some (if ma_ff (mb_rankedAtP (ma_w (m 24)) n x) n 0 < n then ma_i (ma_ff (mb_rankedAtP (ma_w (m 24)) n x) n 0) else -11) := by
  unfold f_X7_rankedAt
  have key := ma_find (fun f k => f_X7_rankedAt_L2 f x (ma_i k) m) n (mb_rankedAtP (ma_w (m 24)) n x) (fun b => some (ma_i b)) (resN := some (-11)) (fun f k hk hp => ?_) (fun f k hk hp => ?_) (fun f => ?_) fm_F 0 (Nat.zero_le _) (by unfold fm_F; omega)
  · refine key.trans ?_
    rw [Nat.sub_zero]
    split <;> rfl
  · show f_X7_rankedAt_L2 (f + 1) _ _ m = _
    unfold mb_rankedAtP at hp
    simp only [Bool.and_eq_true, decide_eq_true_eq] at hp
    rw [f_X7_rankedAt_L2, if_pos (by decide), kb_r0 m, hn, if_neg (kb_g0 hn16 hk), kb_isSo (by omega), Option.bind_some, if_pos (decide_eq_true hp.1), kb_rankedAt_in hn16 hn (by omega), Option.bind_some, if_pos hp.2]
  · show f_X7_rankedAt_L2 (f + 1) _ _ m = _
    unfold mb_rankedAtP at hp
    rw [f_X7_rankedAt_L2, if_pos (by decide), kb_r0 m, hn, if_neg (kb_g0 hn16 hk), kb_isSo (by omega), Option.bind_some, kb_rankedAt_in hn16 hn (by omega), Option.bind_some, ma_s1]
    by_cases h : ma_w (m 24) 2 k = 0
    · rw [if_pos (decide_eq_true h), if_neg]
      intro h2
      rw [decide_eq_true h, decide_eq_true h2] at hp
      cases hp
    · rw [if_neg (by simpa using h)]
  · show f_X7_rankedAt_L2 (f + 1) _ _ m = _
    rw [f_X7_rankedAt_L2, if_pos (by decide), kb_r0 m, hn, if_pos (Int32.le_refl _)]
theorem kb_shabbyAt_in {m : fm_M} {n b : Nat} {x : Int32} (hn16 : n ≤ 16) (hn : ma_w (m 24) 16 0 = ma_i n) (hb : b < 16) : f_X7_shabbyAt_L29 fm_F x (ma_i b) (0 : Int32) (0 : Int32) m = some (ma_i (ma_ct (fun k => decide (ma_w (m 24) 2 k = 1) && mb_sh (ma_w (m 24)) k b) n)) := by
  refine ma_loop (fun f k => f_X7_shabbyAt_L29 f x (ma_i b) (ma_i (ma_ct (fun k => decide (ma_w (m 24) 2 k = 1) && mb_sh (ma_w (m 24)) k b) k)) (ma_i k) m) n (fun f k hk => ?_) (fun f => ?_) fm_F 0 (Nat.zero_le _) (by unfold fm_F; omega)
  · show f_X7_shabbyAt_L29 (f + 1) _ _ _ _ m = _
    rw [f_X7_shabbyAt_L29, if_pos (by decide), kb_r0 m, hn, if_neg (kb_g0 hn16 hk), kb_isSo (by omega), Option.bind_some, kb_isShabbier (by omega) (by omega), Option.bind_some, ma_ct_s]
    by_cases h : ma_w (m 24) 2 k = 1
    · by_cases h2 : mb_sh (ma_w (m 24)) k b = true <;> simp [h, h2, ma_s1]
    · simp [h, ma_s1]
  · show f_X7_shabbyAt_L29 (f + 1) _ _ _ _ m = _
    rw [f_X7_shabbyAt_L29, if_pos (by decide), kb_r0 m, hn, if_pos (Int32.le_refl _)]
def mb_shabbyAtP (t : ma_S) (n : Nat) (x : Int32) (b : Nat) : Bool := decide (t 2 b = 1) && decide (ma_i (ma_ct (fun k => decide (t 2 k = 1) && mb_sh t k b) n) = x)
theorem kb_shabbyAt {m : fm_M} {n : Nat} {x : Int32} (hn16 : n ≤ 16) (hn : ma_w (m 24) 16 0 = ma_i n) : f_X7_shabbyAt x m = some (if ma_ff (mb_shabbyAtP (ma_w (m 24)) n x) n 0 < n then ma_i (ma_ff (mb_shabbyAtP (ma_w (m 24)) n x) n 0) else -11) := by
  unfold f_X7_shabbyAt
  have key := ma_find (fun f k => f_X7_shabbyAt_L2 f x (ma_i k) m) n (mb_shabbyAtP (ma_w (m 24)) n x) (fun b => some (ma_i b)) (resN := some (-11)) (fun f k hk hp => ?_) (fun f k hk hp => ?_) (fun f => ?_) fm_F 0 (Nat.zero_le _) (by unfold fm_F; omega)
  · refine key.trans ?_
    rw [Nat.sub_zero]
    split <;> rfl
  · show f_X7_shabbyAt_L2 (f + 1) _ _ m = _
    unfold mb_shabbyAtP at hp
    simp only [Bool.and_eq_true, decide_eq_true_eq] at hp
    rw [f_X7_shabbyAt_L2, if_pos (by decide), kb_r0 m, hn, if_neg (kb_g0 hn16 hk), kb_isSo (by omega), Option.bind_some, if_pos (decide_eq_true hp.1), kb_shabbyAt_in hn16 hn (by omega), Option.bind_some, if_pos hp.2]
  · show f_X7_shabbyAt_L2 (f + 1) _ _ m = _
    unfold mb_shabbyAtP at hp
    rw [f_X7_shabbyAt_L2, if_pos (by decide), kb_r0 m, hn, if_neg (kb_g0 hn16 hk), kb_isSo (by omega), Option.bind_some, kb_shabbyAt_in hn16 hn (by omega), Option.bind_some, ma_s1]
    by_cases h : ma_w (m 24) 2 k = 1
    · rw [if_pos (decide_eq_true h), if_neg]
      intro h2
      rw [decide_eq_true h, decide_eq_true h2] at hp
      cases hp
    · rw [if_neg (by simpa using h)]
  · show f_X7_shabbyAt_L2 (f + 1) _ _ m = _
    rw [f_X7_shabbyAt_L2, if_pos (by decide), kb_r0 m, hn, if_pos (Int32.le_refl _)]
theorem kb_senior_in {m : fm_M} {n b : Nat} {x : Int32} (hn16 : n ≤ 16) (hn : ma_w (m 24) 16 0 = ma_i n) (hb : b < 16) : f_X7_senior_L29 fm_F x (ma_i b) (0 : Int32) (0 : Int32) m = some (ma_i (ma_ct (fun k => decide (ma_w (m 24) 2 k = 1) && mb_sr (ma_w (m 24)) k b) n)) := by
  refine ma_loop (fun f k => f_X7_senior_L29 f x (ma_i b) (ma_i (ma_ct (fun k => decide (ma_w (m 24) 2 k = 1) && mb_sr (ma_w (m 24)) k b) k)) (ma_i k) m) n (fun f k hk => ?_) (fun f => ?_) fm_F 0 (Nat.zero_le _) (by unfold fm_F; omega)
  · show f_X7_senior_L29 (f + 1) _ _ _ _ m = _
    rw [f_X7_senior_L29, if_pos (by decide), kb_r0 m, hn, if_neg (kb_g0 hn16 hk), kb_isSo (by omega), Option.bind_some, kb_isSeniorTo (by omega) (by omega), Option.bind_some, ma_ct_s]
    by_cases h : ma_w (m 24) 2 k = 1
    · by_cases h2 : mb_sr (ma_w (m 24)) k b = true <;> simp [h, h2, ma_s1]
    · simp [h, ma_s1]
  · show f_X7_senior_L29 (f + 1) _ _ _ _ m = _
    rw [f_X7_senior_L29, if_pos (by decide), kb_r0 m, hn, if_pos (Int32.le_refl _)]
def mb_seniorP (t : ma_S) (n : Nat) (x : Int32) (b : Nat) : Bool := decide (t 2 b = 1) && decide (ma_i (ma_ct (fun k => decide (t 2 k = 1) && mb_sr t k b) n) = x)
theorem kb_senior {m : fm_M} {n : Nat} {x : Int32} (hn16 : n ≤ 16) (hn : ma_w (m 24) 16 0 = ma_i n) : f_X7_senior x m = some (if ma_ff (mb_seniorP (ma_w (m 24)) n x) n 0 < n then ma_i (ma_ff (mb_seniorP (ma_w (m 24)) n x) n 0) else -11) := by
  unfold f_X7_senior
  have key := ma_find (fun f k => f_X7_senior_L2 f x (ma_i k) m) n (mb_seniorP (ma_w (m 24)) n x) (fun b => some (ma_i b)) (resN := some (-11)) (fun f k hk hp => ?_) (fun f k hk hp => ?_) (fun f => ?_) fm_F 0 (Nat.zero_le _) (by unfold fm_F; omega)
  · refine key.trans ?_
    rw [Nat.sub_zero]
    split <;> rfl
  · show f_X7_senior_L2 (f + 1) _ _ m = _
    unfold mb_seniorP at hp
    simp only [Bool.and_eq_true, decide_eq_true_eq] at hp
    rw [f_X7_senior_L2, if_pos (by decide), kb_r0 m, hn, if_neg (kb_g0 hn16 hk), kb_isSo (by omega), Option.bind_some, if_pos (decide_eq_true hp.1), kb_senior_in hn16 hn (by omega), Option.bind_some, if_pos hp.2]
  · show f_X7_senior_L2 (f + 1) _ _ m = _
    unfold mb_seniorP at hp
    rw [f_X7_senior_L2, if_pos (by decide), kb_r0 m, hn, if_neg (kb_g0 hn16 hk), kb_isSo (by omega), Option.bind_some, kb_senior_in hn16 hn (by omega), Option.bind_some, ma_s1]
    by_cases h : ma_w (m 24) 2 k = 1
    · rw [if_pos (decide_eq_true h), if_neg]
      intro h2
      rw [decide_eq_true h, decide_eq_true h2] at hp
      cases hp
    · rw [if_neg (by simpa using h)]
  · show f_X7_senior_L2 (f + 1) _ _ m = _
    rw [f_X7_senior_L2, if_pos (by decide), kb_r0 m, hn, if_pos (Int32.le_refl _)]

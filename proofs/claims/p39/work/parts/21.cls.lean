/-! THE CLASS IN CLOSED FORM: State -/
theorem ka_get {p r : Nat} {m : fm_M} {j : Nat} (hj : j < 294) : f_X5_get p r (ma_i j) m = some (m r j) := by
  unfold f_X5_get
  rw [if_neg (ma_nn (by omega)), if_neg (ma_g0 hj (by decide)), if_pos (ma_in hj (by omega)), ma_cn (by omega)]
theorem ka_set {p r : Nat} {m : fm_M} {j : Nat} {v : Int32} (hj : j < 294) : f_X5_set p r (ma_i j) v m = some (fm_up m r (upd (m r) j v)) := by
  unfold f_X5_set
  rw [if_neg (ma_nn (by omega)), if_neg (ma_g0 hj (by decide)), if_pos (ma_in hj (by omega)), ma_cn (by omega)]
theorem ka_of {p r : Nat} {m : fm_M} {k b : Nat} (hk : k < 14) (hb : b < 16) : f_X5_of p r (ma_i k) (ma_i b) m = some (ma_c (m r) k b) := by
  unfold f_X5_of
  have e : ma_i k * (16 : Int32) + ma_i b = ma_i (k * 16 + b) := by
    have h16 : (16 : Int32) = ma_i 16 := rfl
    rw [h16, ma_mul, ma_add]
  rw [e, if_neg (ma_nn (by omega)), if_neg (ma_g0 (a := 294) (by omega) (by decide)), if_pos (ma_in (by omega) (by omega)), ma_cn (by omega)]
  have h : ma_okb k b = true := (ma_okb_iff k b).mpr (Or.inl ⟨hk, hb⟩)
  unfold ma_c ma_ix
  rw [if_pos h, if_pos hk, Nat.mul_comm]
theorem ka_setOf {p r : Nat} {m : fm_M} {k b : Nat} {v : Int32} (hk : k < 14) (hb : b < 16) : f_X5_setOf p r (ma_i k) (ma_i b) v m = some (fm_up m r (ma_s (m r) k b v)) := by
  unfold f_X5_setOf
  have e : ma_i k * (16 : Int32) + ma_i b = ma_i (k * 16 + b) := by
    have h16 : (16 : Int32) = ma_i 16 := rfl
    rw [h16, ma_mul, ma_add]
  rw [e, ka_set (by omega), Option.bind_some]
  unfold ma_s ma_ix
  rw [if_pos hk, Nat.mul_comm]
theorem ka_of0 {p r : Nat} {m : fm_M} {b : Nat} (hb : b < 16) : f_X5_of p r (0 : Int32) (ma_i b) m = some (ma_c (m r) 0 b) := ka_of (k := 0) (by decide) hb
theorem ka_so0 {p r : Nat} {m : fm_M} {b : Nat} {v : Int32} (hb : b < 16) : f_X5_setOf p r (0 : Int32) (ma_i b) v m = some (fm_up m r (ma_s (m r) 0 b v)) := ka_setOf (k := 0) (by decide) hb
theorem ka_of1 {p r : Nat} {m : fm_M} {b : Nat} (hb : b < 16) : f_X5_of p r (1 : Int32) (ma_i b) m = some (ma_c (m r) 1 b) := ka_of (k := 1) (by decide) hb
theorem ka_so1 {p r : Nat} {m : fm_M} {b : Nat} {v : Int32} (hb : b < 16) : f_X5_setOf p r (1 : Int32) (ma_i b) v m = some (fm_up m r (ma_s (m r) 1 b v)) := ka_setOf (k := 1) (by decide) hb
theorem ka_of2 {p r : Nat} {m : fm_M} {b : Nat} (hb : b < 16) : f_X5_of p r (2 : Int32) (ma_i b) m = some (ma_c (m r) 2 b) := ka_of (k := 2) (by decide) hb
theorem ka_so2 {p r : Nat} {m : fm_M} {b : Nat} {v : Int32} (hb : b < 16) : f_X5_setOf p r (2 : Int32) (ma_i b) v m = some (fm_up m r (ma_s (m r) 2 b v)) := ka_setOf (k := 2) (by decide) hb
theorem ka_of3 {p r : Nat} {m : fm_M} {b : Nat} (hb : b < 16) : f_X5_of p r (3 : Int32) (ma_i b) m = some (ma_c (m r) 3 b) := ka_of (k := 3) (by decide) hb
theorem ka_so3 {p r : Nat} {m : fm_M} {b : Nat} {v : Int32} (hb : b < 16) : f_X5_setOf p r (3 : Int32) (ma_i b) v m = some (fm_up m r (ma_s (m r) 3 b v)) := ka_setOf (k := 3) (by decide) hb
theorem ka_of4 {p r : Nat} {m : fm_M} {b : Nat} (hb : b < 16) : f_X5_of p r (4 : Int32) (ma_i b) m = some (ma_c (m r) 4 b) := ka_of (k := 4) (by decide) hb
theorem ka_so4 {p r : Nat} {m : fm_M} {b : Nat} {v : Int32} (hb : b < 16) : f_X5_setOf p r (4 : Int32) (ma_i b) v m = some (fm_up m r (ma_s (m r) 4 b v)) := ka_setOf (k := 4) (by decide) hb
theorem ka_of5 {p r : Nat} {m : fm_M} {b : Nat} (hb : b < 16) : f_X5_of p r (5 : Int32) (ma_i b) m = some (ma_c (m r) 5 b) := ka_of (k := 5) (by decide) hb
theorem ka_so5 {p r : Nat} {m : fm_M} {b : Nat} {v : Int32} (hb : b < 16) : f_X5_setOf p r (5 : Int32) (ma_i b) v m = some (fm_up m r (ma_s (m r) 5 b v)) := ka_setOf (k := 5) (by decide) hb
theorem ka_of6 {p r : Nat} {m : fm_M} {b : Nat} (hb : b < 16) : f_X5_of p r (6 : Int32) (ma_i b) m = some (ma_c (m r) 6 b) := ka_of (k := 6) (by decide) hb
theorem ka_so6 {p r : Nat} {m : fm_M} {b : Nat} {v : Int32} (hb : b < 16) : f_X5_setOf p r (6 : Int32) (ma_i b) v m = some (fm_up m r (ma_s (m r) 6 b v)) := ka_setOf (k := 6) (by decide) hb
theorem ka_of7 {p r : Nat} {m : fm_M} {b : Nat} (hb : b < 16) : f_X5_of p r (7 : Int32) (ma_i b) m = some (ma_c (m r) 7 b) := ka_of (k := 7) (by decide) hb
theorem ka_so7 {p r : Nat} {m : fm_M} {b : Nat} {v : Int32} (hb : b < 16) : f_X5_setOf p r (7 : Int32) (ma_i b) v m = some (fm_up m r (ma_s (m r) 7 b v)) := ka_setOf (k := 7) (by decide) hb
theorem ka_of8 {p r : Nat} {m : fm_M} {b : Nat} (hb : b < 16) : f_X5_of p r (8 : Int32) (ma_i b) m = some (ma_c (m r) 8 b) := ka_of (k := 8) (by decide) hb
theorem ka_so8 {p r : Nat} {m : fm_M} {b : Nat} {v : Int32} (hb : b < 16) : f_X5_setOf p r (8 : Int32) (ma_i b) v m = some (fm_up m r (ma_s (m r) 8 b v)) := ka_setOf (k := 8) (by decide) hb
theorem ka_of9 {p r : Nat} {m : fm_M} {b j : Nat} (hb : b < 16) (hj : j < 5) : f_X5_of p r ((9 : Int32) + ma_i j) (ma_i b) m = some (ma_c (m r) (9 + j) b) := by
  have h : (9 : Int32) + ma_i j = ma_i (9 + j) := ma_add 9 j
  rw [h]
  exact ka_of (by omega) hb
theorem ka_so9 {p r : Nat} {m : fm_M} {b j : Nat} {v : Int32} (hb : b < 16) (hj : j < 5) : f_X5_setOf p r ((9 : Int32) + ma_i j) (ma_i b) v m = some (fm_up m r (ma_s (m r) (9 + j) b v)) := by
  have h : (9 : Int32) + ma_i j = ma_i (9 + j) := ma_add 9 j
  rw [h]
  exact ka_setOf (by omega) hb
theorem ka_g0 {p r : Nat} {m : fm_M} : f_X5_get p r (284 : Int32) m = some (ma_c (m r) 16 0) := ka_get (j := 284) (by decide)
theorem ka_t0 {p r : Nat} {m : fm_M} {v : Int32} : f_X5_set p r (284 : Int32) v m = some (fm_up m r (ma_s (m r) 16 0 v)) := ka_set (j := 284) (by decide)
theorem ka_g1 {p r : Nat} {m : fm_M} : f_X5_get p r (285 : Int32) m = some (ma_c (m r) 16 1) := ka_get (j := 285) (by decide)
theorem ka_t1 {p r : Nat} {m : fm_M} {v : Int32} : f_X5_set p r (285 : Int32) v m = some (fm_up m r (ma_s (m r) 16 1 v)) := ka_set (j := 285) (by decide)
theorem ka_g2 {p r : Nat} {m : fm_M} : f_X5_get p r (286 : Int32) m = some (ma_c (m r) 16 2) := ka_get (j := 286) (by decide)
theorem ka_t2 {p r : Nat} {m : fm_M} {v : Int32} : f_X5_set p r (286 : Int32) v m = some (fm_up m r (ma_s (m r) 16 2 v)) := ka_set (j := 286) (by decide)
theorem ka_g3 {p r : Nat} {m : fm_M} : f_X5_get p r (287 : Int32) m = some (ma_c (m r) 16 3) := ka_get (j := 287) (by decide)
theorem ka_t3 {p r : Nat} {m : fm_M} {v : Int32} : f_X5_set p r (287 : Int32) v m = some (fm_up m r (ma_s (m r) 16 3 v)) := ka_set (j := 287) (by decide)
theorem ka_g4 {p r : Nat} {m : fm_M} : f_X5_get p r (288 : Int32) m = some (ma_c (m r) 16 4) := ka_get (j := 288) (by decide)
theorem ka_t4 {p r : Nat} {m : fm_M} {v : Int32} : f_X5_set p r (288 : Int32) v m = some (fm_up m r (ma_s (m r) 16 4 v)) := ka_set (j := 288) (by decide)
theorem ka_g5 {p r : Nat} {m : fm_M} : f_X5_get p r (289 : Int32) m = some (ma_c (m r) 16 5) := ka_get (j := 289) (by decide)
theorem ka_t5 {p r : Nat} {m : fm_M} {v : Int32} : f_X5_set p r (289 : Int32) v m = some (fm_up m r (ma_s (m r) 16 5 v)) := ka_set (j := 289) (by decide)
theorem ka_g6 {p r : Nat} {m : fm_M} : f_X5_get p r (290 : Int32) m = some (ma_c (m r) 16 6) := ka_get (j := 290) (by decide)
theorem ka_t6 {p r : Nat} {m : fm_M} {v : Int32} : f_X5_set p r (290 : Int32) v m = some (fm_up m r (ma_s (m r) 16 6 v)) := ka_set (j := 290) (by decide)
theorem ka_g7 {p r : Nat} {m : fm_M} : f_X5_get p r (291 : Int32) m = some (ma_c (m r) 16 7) := ka_get (j := 291) (by decide)
theorem ka_t7 {p r : Nat} {m : fm_M} {v : Int32} : f_X5_set p r (291 : Int32) v m = some (fm_up m r (ma_s (m r) 16 7 v)) := ka_set (j := 291) (by decide)
theorem ka_g8 {p r : Nat} {m : fm_M} : f_X5_get p r (292 : Int32) m = some (ma_c (m r) 16 8) := ka_get (j := 292) (by decide)
theorem ka_t8 {p r : Nat} {m : fm_M} {v : Int32} : f_X5_set p r (292 : Int32) v m = some (fm_up m r (ma_s (m r) 16 8 v)) := ka_set (j := 292) (by decide)
theorem ka_g9 {p r : Nat} {m : fm_M} : f_X5_get p r (293 : Int32) m = some (ma_c (m r) 16 9) := ka_get (j := 293) (by decide)
theorem ka_t9 {p r : Nat} {m : fm_M} {v : Int32} : f_X5_set p r (293 : Int32) v m = some (fm_up m r (ma_s (m r) 16 9 v)) := ka_set (j := 293) (by decide)
theorem ka_gc {p r : Nat} {m : fm_M} {c : Nat} (hc : c < 8) : f_X5_get p r ((224 : Int32) + ma_i c) m = some (ma_c (m r) 14 c) := by
  have h : (224 : Int32) + ma_i c = ma_i (224 + c) := ma_add 224 c
  rw [h, ka_get (by omega)]
  have h2 : ma_okb 14 c = true := (ma_okb_iff 14 c).mpr (Or.inr (Or.inl ⟨rfl, hc⟩))
  unfold ma_c
  rw [if_pos h2]
  rfl
theorem ka_tc {p r : Nat} {m : fm_M} {c : Nat} {v : Int32} (hc : c < 8) : f_X5_set p r ((224 : Int32) + ma_i c) v m = some (fm_up m r (ma_s (m r) 14 c v)) := by
  have h : (224 : Int32) + ma_i c = ma_i (224 + c) := ma_add 224 c
  rw [h, ka_set (by omega)]
  rfl
theorem ka_gw {p r : Nat} {m : fm_M} {c : Nat} (hc : c < 52) : f_X5_pittanceIn p r (ma_i c) m = some (ma_c (m r) 15 c) := by
  unfold f_X5_pittanceIn
  have h : (232 : Int32) + ma_i c = ma_i (232 + c) := ma_add 232 c
  rw [if_neg (ma_nn (by omega)), if_neg (ma_g0 hc (by decide)), h, ka_get (by omega)]
  have h2 : ma_okb 15 c = true := (ma_okb_iff 15 c).mpr (Or.inr (Or.inr (Or.inl ⟨rfl, hc⟩)))
  unfold ma_c
  rw [if_pos h2]
  rfl
theorem ka_tw {p r : Nat} {m : fm_M} {c : Nat} {v : Int32} (hc : c < 52) : f_X5_set p r ((232 : Int32) + ma_i c) v m = some (fm_up m r (ma_s (m r) 15 c v)) := by
  have h : (232 : Int32) + ma_i c = ma_i (232 + c) := ma_add 232 c
  rw [h, ka_set (by omega)]
  rfl
/-- is x a brother, of n -/
def ma_br (n : Nat) (x : Int32) : Bool := decide (¬ x < 0) && decide (x < ma_i n)
theorem ma_br_i {n b : Nat} (hn : n ≤ 16) (hb : b < 2147483648) : ma_br n (ma_i b) = decide (b < n) := by
  unfold ma_br
  rw [decide_eq_true (ma_nn hb), Bool.true_and]
  exact decide_eq_decide.mpr (ma_lt hb (by omega))
theorem ma_br_neg {n : Nat} {x : Int32} (h : x < 0) : ma_br n x = false := by
  unfold ma_br
  rw [decide_eq_false (fun hh => hh h), Bool.false_and]
theorem ma_br_of {n : Nat} (hn : n ≤ 16) {x : Int32} (h : ma_br n x = true) : ∃ b, b < n ∧ x = ma_i b := by
  unfold ma_br at h
  simp only [Bool.and_eq_true, decide_eq_true_eq] at h
  obtain ⟨b, hb, rfl⟩ := ma_of h.1
  exact ⟨b, (ma_lt hb (by omega)).mp h.2, rfl⟩
theorem ka_isBrother {p r : Nat} {m : fm_M} {n : Nat} {x : Int32} (hn : ma_c (m r) 16 0 = ma_i n) : f_X5_isBrother p r x m = some (ma_br n x) := by
  unfold f_X5_isBrother ma_br
  rw [ka_g0, Option.bind_some, hn]
  by_cases h : x < 0
  · rw [if_pos h, decide_eq_false (fun hh => hh h), Bool.false_and]
  · rw [if_neg h, decide_eq_true h, Bool.true_and]
    by_cases h2 : ma_i n ≤ x
    · rw [if_pos h2, decide_eq_false (Int32.not_lt.mpr h2)]
    · rw [if_neg h2, decide_eq_true (Int32.not_le.mp h2)]
theorem ka_is {p r : Nat} {m : fm_M} {x : Int32} {b : Nat} (hb : b < 16) : f_X5_is p r x (ma_i b) m = some (decide (ma_c (m r) 2 b = x)) := by
  unfold f_X5_is
  rw [ka_of2 hb, Option.bind_some]
  by_cases h : ma_c (m r) 2 b = x
  · rw [if_pos h, decide_eq_true h]
  · rw [if_neg h, decide_eq_false h]
theorem ka_isEntitled {p r : Nat} {m : fm_M} {b : Nat} (hb : b < 16) : f_X5_isEntitled p r (ma_i b) m = some (decide (ma_c (m r) 2 b = 1) && decide (ma_c (m r) 5 b = 0)) := by
  unfold f_X5_isEntitled
  rw [ka_of2 hb, Option.bind_some, ka_of5 hb]
  by_cases h : ma_c (m r) 2 b = 1
  · rw [if_pos h, decide_eq_true h, Bool.true_and, Option.bind_some]
    by_cases h2 : ma_c (m r) 5 b = 0
    · rw [if_pos h2, decide_eq_true h2]
    · rw [if_neg h2, decide_eq_false h2]
  · rw [if_neg h, decide_eq_false h, Bool.false_and]
theorem ka_howMany {p r : Nat} {m : fm_M} {x : Int32} : f_X5_howMany p r x m = some (ma_i (ma_ct (fun b => decide (ma_c (m r) 2 b = x)) 16)) := by
  unfold f_X5_howMany
  refine ma_loop (fun f k => f_X5_howMany_L4 p r f x (ma_i (ma_ct (fun b => decide (ma_c (m r) 2 b = x)) k)) (ma_i k) m) 16 (fun f k hk => ?_) (fun f => ?_) fm_F 0 (by decide) (by decide)
  · show f_X5_howMany_L4 p r (f + 1) _ _ _ m = _
    rw [f_X5_howMany_L4, if_neg (ma_g0 hk (by decide)), ka_is hk, Option.bind_some, ma_ct]
    by_cases h : ma_c (m r) 2 k = x <;> simp [h, ma_s1]
  · show f_X5_howMany_L4 p r (f + 1) _ _ _ m = _
    rw [f_X5_howMany_L4, if_pos ma_g1]
theorem ka_entitledMany {p r : Nat} {m : fm_M} : f_X5_entitledMany p r m = some (ma_i (ma_ct (fun b => decide (ma_c (m r) 2 b = 1) && decide (ma_c (m r) 5 b = 0)) 16)) := by
  unfold f_X5_entitledMany
  refine ma_loop (fun f k => f_X5_entitledMany_L4 p r f (ma_i (ma_ct (fun b => decide (ma_c (m r) 2 b = 1) && decide (ma_c (m r) 5 b = 0)) k)) (ma_i k) m) 16 (fun f k hk => ?_) (fun f => ?_) fm_F 0 (by decide) (by decide)
  · show f_X5_entitledMany_L4 p r (f + 1) _ _ m = _
    rw [f_X5_entitledMany_L4, if_neg (ma_g0 hk (by decide)), ka_isEntitled hk, Option.bind_some, ma_ct]
    by_cases h : (decide (ma_c (m r) 2 k = 1) && decide (ma_c (m r) 5 k = 0)) = true <;> simp [h, ma_s1]
  · show f_X5_entitledMany_L4 p r (f + 1) _ _ m = _
    rw [f_X5_entitledMany_L4, if_pos ma_g1]
theorem ka_feastsTold {p r : Nat} {m : fm_M} : f_X5_feastsTold p r m = some (ma_i (ma_ct (fun b => decide (0 < ma_c (m r) 15 b)) 52)) := by
  unfold f_X5_feastsTold
  refine ma_loop (fun f k => f_X5_feastsTold_L4 p r f (ma_i (ma_ct (fun b => decide (0 < ma_c (m r) 15 b)) k)) (ma_i k) m) 52 (fun f k hk => ?_) (fun f => ?_) fm_F 0 (by decide) (by decide)
  · show f_X5_feastsTold_L4 p r (f + 1) _ _ m = _
    rw [f_X5_feastsTold_L4, if_neg (ma_g0 hk (by decide)), ka_gw hk, Option.bind_some, ma_ct]
    by_cases h : ma_c (m r) 15 k ≤ 0
    · simp [h, Int32.not_lt.mpr h, ma_s1]
    · simp [h, Int32.not_le.mp h, ma_s1]
  · show f_X5_feastsTold_L4 p r (f + 1) _ _ m = _
    rw [f_X5_feastsTold_L4, if_pos ma_g1]
theorem ka_voicesFor {p r : Nat} {m : fm_M} {x : Nat} (hx : x < 16) : f_X5_voicesFor p r (ma_i x) m = some (ma_i (if ma_c (m r) 1 x = 1 then 2 * ma_ct (fun b => decide (ma_c (m r) 7 b = ma_i x)) 16 else ma_ct (fun b => decide (ma_c (m r) 7 b = ma_i x)) 16)) := by
  unfold f_X5_voicesFor
  refine ma_loop (fun f k => f_X5_voicesFor_L4 p r f (ma_i x) (ma_i (ma_ct (fun b => decide (ma_c (m r) 7 b = ma_i x)) k)) (ma_i k) m) 16 (fun f k hk => ?_) (fun f => ?_) fm_F 0 (by decide) (by decide)
  · show f_X5_voicesFor_L4 p r (f + 1) _ _ _ m = _
    rw [f_X5_voicesFor_L4, if_neg (ma_g0 hk (by decide)), ka_of7 hk, Option.bind_some, ma_ct]
    by_cases h : ma_c (m r) 7 k = ma_i x <;> simp [h, ma_s1]
  · show f_X5_voicesFor_L4 p r (f + 1) _ _ _ m = _
    rw [f_X5_voicesFor_L4, if_pos ma_g1, ka_of1 hx, Option.bind_some]
    by_cases h : ma_c (m r) 1 x = 1
    · rw [if_pos h, if_pos h]
      exact congrArg some (ma_mul 2 _)
    · rw [if_neg h, if_neg h]
theorem ka_up (m : fm_M) (r : Nat) (g : Nat → Int32) : fm_up m r g r = g := fm_up_s m r g
theorem ka_un (m : fm_M) {r q : Nat} (h : q ≠ r) (g : Nat → Int32) : fm_up m r g q = m q := fm_up_n m r g h
theorem ka_takeIn {p r : Nat} {m : fm_M} {x : Int32} : f_X5_takeIn p r x m = some (fm_up m r (ma_s (ma_s (m r) 16 4 (ma_c (m r) 16 4 + (if (9999 : Int32) - ma_c (m r) 16 4 < x then (9999 : Int32) - ma_c (m r) 16 4 else x))) 16 5 (ma_c (m r) 16 5 + (if (9999 : Int32) - ma_c (m r) 16 4 < x then (9999 : Int32) - ma_c (m r) 16 4 else x)))) := by
  unfold f_X5_takeIn
  simp only [ka_g4, ka_g5, ka_t4, ka_t5, Option.bind_some, ka_up, ma_pp]
  rw [ma_c_s (by unfold ma_ok; omega)]
  simp [ma_up]

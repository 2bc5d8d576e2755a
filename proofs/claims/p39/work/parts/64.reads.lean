/-! reads of the law -/
theorem lr_a3 (m : fm_M) : f_L_account (3 : Int32) m = some (ma_i (ma_ct (fun b => decide (ma_c (m 2) 2 b = 0)) 16)).toInt64 := by
  unfold f_L_account f_X6_account
  rw [if_neg (by decide), if_neg (by decide), if_neg (by decide), if_pos rfl, ka_howMany]
  rfl
theorem lr_a4 (m : fm_M) : f_L_account (4 : Int32) m = some (ma_i (ma_ct (fun b => decide (ma_c (m 2) 2 b = 1)) 16)).toInt64 := by
  unfold f_L_account f_X6_account
  rw [if_neg (by decide), if_neg (by decide), if_neg (by decide), if_neg (by decide), if_pos rfl, ka_howMany]
  rfl
theorem lr_a5 (m : fm_M) : f_L_account (5 : Int32) m = some (ma_i (ma_ct (fun b => decide (ma_c (m 2) 2 b = 2)) 16)).toInt64 := by
  unfold f_L_account f_X6_account
  rw [if_neg (by decide), if_neg (by decide), if_neg (by decide), if_neg (by decide), if_neg (by decide), if_pos rfl, ka_howMany]
  rfl
theorem lr_a6 (m : fm_M) : f_L_account (6 : Int32) m = some (ma_i (ma_ct (fun b => decide (ma_c (m 2) 2 b = 3)) 16)).toInt64 := by
  unfold f_L_account f_X6_account
  rw [if_neg (by decide), if_neg (by decide), if_neg (by decide), if_neg (by decide), if_neg (by decide), if_neg (by decide), if_pos rfl, ka_howMany]
  rfl
theorem lr_a9 (m : fm_M) : f_L_account (9 : Int32) m = some (ma_c (m 2) 16 4).toInt64 := by
  unfold f_L_account f_X6_account
  rw [if_neg (by decide), if_neg (by decide), if_neg (by decide), if_neg (by decide), if_neg (by decide), if_neg (by decide), if_neg (by decide), if_neg (by decide), if_neg (by decide), if_pos rfl, ka_g4]
  rfl
theorem lr_a11 (m : fm_M) : f_L_account (11 : Int32) m = some (ma_c (m 2) 16 6).toInt64 := by
  unfold f_L_account f_X6_account
  rw [if_neg (by decide), if_neg (by decide), if_neg (by decide), if_neg (by decide), if_neg (by decide), if_neg (by decide), if_neg (by decide), if_neg (by decide), if_neg (by decide), if_neg (by decide), if_neg (by decide), if_pos rfl, ka_g6]
  rfl
theorem lr_a15 (m : fm_M) : f_L_account (15 : Int32) m = some (m 18 1).toInt64 := by
  unfold f_L_account f_X6_account
  rw [if_neg (by decide), if_neg (by decide), if_neg (by decide), if_neg (by decide), if_neg (by decide), if_neg (by decide), if_neg (by decide), if_neg (by decide), if_neg (by decide), if_neg (by decide), if_neg (by decide), if_neg (by decide), if_neg (by decide), if_neg (by decide), if_neg (by decide), if_pos rfl]
  rfl
theorem lr_a16 (m : fm_M) : f_L_account (16 : Int32) m = some (m 12 2).toInt64 := by
  unfold f_L_account f_X6_account
  rw [if_neg (by decide), if_neg (by decide), if_neg (by decide), if_neg (by decide), if_neg (by decide), if_neg (by decide), if_neg (by decide), if_neg (by decide), if_neg (by decide), if_neg (by decide), if_neg (by decide), if_neg (by decide), if_neg (by decide), if_neg (by decide), if_neg (by decide), if_neg (by decide), if_pos rfl]
  rfl
theorem lr_isB {B n : Nat} {t : ma_S} {m : fm_M} (hr : mr_rel B n (ma_c (m 2)) t) {b : Nat} (hb : b < n) : f_X5_isBrother 1 2 (ma_i b) m = some true := by
  have hn := mr_n hr
  rw [ka_isBrother (n := n) hr.2.1, ma_br_i hn (by omega), decide_eq_true hb]
theorem lr_b2 {B n : Nat} {t : ma_S} {m : fm_M} (hr : mr_rel B n (ma_c (m 2)) t) {b : Nat} (hb : b < n) : f_L_brotherOf (ma_i b) (2 : Int32) m = some (ma_c (m 2) 2 b).toInt64 := by
  have hn := mr_n hr
  unfold f_L_brotherOf f_X6_brotherOf
  rw [lr_isB hr hb, Option.bind_some, if_pos rfl, if_neg (by decide), if_neg (by decide), if_pos rfl, ka_of2 (by omega)]
  rfl
theorem lr_b3 {B n : Nat} {t : ma_S} {m : fm_M} (hr : mr_rel B n (ma_c (m 2)) t) {b : Nat} (hb : b < n) : f_L_brotherOf (ma_i b) (3 : Int32) m = some (ma_c (m 2) 3 b).toInt64 := by
  have hn := mr_n hr
  unfold f_L_brotherOf f_X6_brotherOf
  rw [lr_isB hr hb, Option.bind_some, if_pos rfl, if_neg (by decide), if_neg (by decide), if_neg (by decide), if_pos rfl, ka_of3 (by omega)]
  rfl
theorem lr_b4 {B n : Nat} {t : ma_S} {m : fm_M} (hr : mr_rel B n (ma_c (m 2)) t) {b : Nat} (hb : b < n) (hw : ma_c (m 2) 2 b = 1) : f_L_brotherOf (ma_i b) (4 : Int32) m = some (ma_c (m 2) 4 b).toInt64 := by
  have hn := mr_n hr
  unfold f_L_brotherOf f_X6_brotherOf
  rw [lr_isB hr hb, Option.bind_some, if_pos rfl, if_neg (by decide), if_neg (by decide), if_neg (by decide), if_neg (by decide), if_pos rfl, ka_is (by omega), Option.bind_some, if_pos (decide_eq_true hw), ka_of4 (by omega)]
  rfl
theorem lr_bN {B n : Nat} {t : ma_S} {m : fm_M} (hr : mr_rel B n (ma_c (m 2)) t) (x : Int32) : f_L_brotherOf (-11 : Int32) x m = some (-11 : Int32).toInt64 := by
  unfold f_L_brotherOf f_X6_brotherOf
  rw [ka_isBrother (n := n) hr.2.1, ma_br_neg (by decide), Option.bind_some, if_neg (by decide)]
  rfl
theorem lr_b5 {B n : Nat} {t : ma_S} {m : fm_M} (hr : mr_rel B n (ma_c (m 2)) t) {b : Nat} (hb : b < n) : f_L_brotherOf (ma_i b) (5 : Int32) m = some (ma_c (m 2) 5 b).toInt64 := by
  have hn := mr_n hr
  unfold f_L_brotherOf f_X6_brotherOf
  rw [lr_isB hr hb, Option.bind_some, if_pos rfl, if_neg (by decide), if_neg (by decide), if_neg (by decide), if_neg (by decide), if_neg (by decide), if_pos rfl, ka_of5 (by omega)]
  rfl
theorem lr_b6 {B n : Nat} {t : ma_S} {m : fm_M} (hr : mr_rel B n (ma_c (m 2)) t) {b : Nat} (hb : b < n) : f_L_brotherOf (ma_i b) (6 : Int32) m = some (ma_c (m 2) 6 b).toInt64 := by
  have hn := mr_n hr
  unfold f_L_brotherOf f_X6_brotherOf
  rw [lr_isB hr hb, Option.bind_some, if_pos rfl, if_neg (by decide), if_neg (by decide), if_neg (by decide), if_neg (by decide), if_neg (by decide), if_neg (by decide), if_pos rfl, ka_of6 (by omega)]
  rfl
theorem lr_vo {B n : Nat} {t : ma_S} {m : fm_M} (hr : mr_rel B n (ma_c (m 2)) t) {b : Nat} (hb : b < n) : f_L_voices (ma_i b) m = some (ma_i (mc_vo (ma_c (m 2)) b)).toInt64 := by
  have hn := mr_n hr
  unfold f_L_voices f_X6_voices
  rw [lr_isB hr hb, Option.bind_some, if_pos rfl, ka_voicesFor (by omega)]
  rfl
theorem lr_voN {B n : Nat} {t : ma_S} {m : fm_M} (hr : mr_rel B n (ma_c (m 2)) t) : f_L_voices (-11 : Int32) m = some (-11 : Int32).toInt64 := by
  unfold f_L_voices f_X6_voices
  rw [ka_isBrother (n := n) hr.2.1, ma_br_neg (by decide), Option.bind_some, if_neg (by decide)]
  rfl
theorem lr_in {m : fm_M} {c : Nat} (hc : c < 8) : f_L_inCell (ma_i c) m = some (ma_c (m 2) 14 c).toInt64 := by
  unfold f_L_inCell f_X6_inCell
  have hcb : mj_cb (ma_i c) 8 = true := by
    unfold mj_cb
    rw [decide_eq_true (ma_nn (by omega)), Bool.true_and]
    exact decide_eq_true (by rw [ma_le (by omega) (by omega)]; omega)
  rw [mj_cell6, hcb, Option.bind_some, if_pos rfl, ka_gc hc]
  rfl
theorem lr_ranked {m : fm_M} (x : Int32) : ∃ m1, f_L_ranked x m = some ((mc_rank (mc_kv (ma_c (m 2))) x).toInt64, m1) ∧ ∀ k, k ≠ 11 → m1 k = m k := by
  unfold f_L_ranked f_X6_ranked
  rw [kc_byVoices (by decide)]
  exact ⟨_, rfl, fun k hk => ka_un _ hk _⟩
theorem lr_shabby {m : fm_M} (x : Int32) : ∃ m1, f_L_shabby x m = some ((mc_rank (mc_kg (ma_c (m 2))) x).toInt64, m1) ∧ ∀ k, k ≠ 11 → m1 k = m k := by
  unfold f_L_shabby f_X6_shabby
  rw [kc_byGown (by decide)]
  exact ⟨_, rfl, fun k hk => ka_un _ hk _⟩
theorem lr_senior {m : fm_M} (x : Int32) : ∃ m1, f_L_senior x m = some ((mc_rank (mc_kt (ma_c (m 2))) x).toInt64, m1) ∧ ∀ k, k ≠ 11 → m1 k = m k := by
  unfold f_L_senior f_X6_senior
  rw [kc_byTime (by decide)]
  exact ⟨_, rfl, fun k hk => ka_un _ hk _⟩
theorem lr_balanced {B n : Nat} {t : ma_S} {m : fm_M} (hr : mr_rel B n (ma_c (m 2)) t) {K : Nat} (hm : my_m K (ma_c (m 2))) : f_L_isBalanced m = some (1 : Int64) := by
  unfold f_L_isBalanced f_X6_isBalanced
  rw [ka_g5, Option.bind_some, ka_g6, Option.bind_some, ka_g7, Option.bind_some, kq_bal6 hr, if_pos ⟨hm.1, hm.2.1⟩]
  rfl
/-- voices, voice by voice -/
theorem lr_again {B n : Nat} {t : ma_S} {m : fm_M} (hr : mr_rel B n (ma_c (m 2)) t) {b : Nat} (hb2 : b < n) : ∃ m1, f_L_voicesAgain (ma_i b) m = some ((ma_i (mc_vo (ma_c (m 2)) b)).toInt64, m1) ∧ ∀ k, k ≠ 22 → m1 k = m k := by
  have hn := mr_n hr
  have hb16 : b < 16 := by omega
  unfold f_L_voicesAgain f_X6_voicesAgain
  rw [lr_isB hr hb2, Option.bind_some, if_pos rfl, kq_tally hr, Option.bind_some, if_neg (ma_nn (by omega)), if_neg (ma_g0 (a := 16) hb16 (by decide)), if_pos (ma_in hb16 (by omega)), ka_up, ma_cn (by omega)]
  have ev : mq_t (m 22) (mq_w (ma_c (m 2))) (mq_pc (ma_c (m 2))) 8 b = ma_i (mc_vo (ma_c (m 2)) b) := by
    unfold mq_t
    rw [if_pos hb16]
    have e2 : ma_ct (mq_pc (ma_c (m 2)) b) 8 = ma_ct (fun j => decide (ma_c (m 2) 7 j = ma_i b)) 16 := by
      have := mr_bycell hr (fun x => decide (ma_c (m 2) 7 x = ma_i b))
      refine Eq.trans this ?_
      rw [ma_ct_cut 16 hn (fun j h1 h2 => ?_)]
      · refine ma_ct_congr n (fun j hj => ?_)
        by_cases h7 : ma_c (m 2) 7 j = ma_i b
        · rcases hr.2.2.2.2.2.2.2.2.2.2.2.2.2.1 j hj with ⟨a1, a2⟩ | ⟨y, a1, a2, a3, a4, a5⟩
          · rw [a1] at h7; exact absurd h7.symm (ma_ne (by omega) (by decide))
          · rw [a4]; simp
        · simp [h7]
      · have hnew := hr.2.2.2.2.2.2.2.2.2.2.2.2.2.2.2.2.2.2.2.2 j h1 h2
        rw [hnew.2.2.1]
        exact decide_eq_false (fun hh => ma_ne (by omega) (by decide) hh.symm)
    rw [e2]
    unfold mq_w mc_vo
    split
    · rfl
    · rw [Nat.one_mul]
  rw [ev]
  exact ⟨_, rfl, fun k hk => ka_un _ hk _⟩
/-! who is entitled, as bits -/
theorem lb_or {p : Nat → Bool} {g : Nat → Int32} {j : Nat} : ∀ n, (ma_or p g n).toBitVec.getLsbD j = true ↔ ∃ i, i < n ∧ p i = true ∧ (g i).toBitVec.getLsbD j = true := by
  intro n
  induction n with
  | zero =>
    constructor
    · intro h
      have h0 : (0 : Int32).toBitVec.getLsbD j = true := h
      simp at h0
    · rintro ⟨i, hi, _⟩; omega
  | succ n ih =>
    rw [ma_or_s]
    by_cases hp : p n = true
    · rw [if_pos hp, Int32.toBitVec_or, BitVec.getLsbD_or, Bool.or_eq_true, ih]
      constructor
      · rintro (⟨i, h1, h2, h3⟩ | h)
        · exact ⟨i, by omega, h2, h3⟩
        · exact ⟨n, by omega, hp, h⟩
      · rintro ⟨i, h1, h2, h3⟩
        by_cases e : i = n
        · right; rw [e] at h3; exact h3
        · left; exact ⟨i, by omega, h2, h3⟩
    · rw [if_neg hp, ih]
      constructor
      · rintro ⟨i, h1, h2, h3⟩; exact ⟨i, by omega, h2, h3⟩
      · rintro ⟨i, h1, h2, h3⟩
        by_cases e : i = n
        · rw [e] at h2; exact absurd h2 hp
        · exact ⟨i, by omega, h2, h3⟩
theorem lb_sh {b j : Nat} (hb : b < 16) (hj : j < 32) : ((1 : Int32) <<< (ma_i b &&& 31)).toBitVec.getLsbD j = true ↔ j = b := by
  have h : ∀ b : Fin 16, ∀ j : Fin 32, (((1 : Int32) <<< (ma_i b.val &&& 31)).toBitVec.getLsbD j.val = true ↔ j.val = b.val) := by decide +kernel
  exact h ⟨b, hb⟩ ⟨j, hj⟩
def lb_E (s : ma_S) : Int32 := ma_or (fun b => decide (s 2 b = 1) && decide (s 5 b = 0)) (fun b => (1 : Int32) <<< (ma_i b &&& 31)) 16
theorem lb_E_bit {s : ma_S} {j : Nat} (hj : j < 32) : (lb_E s).toBitVec.getLsbD j = true ↔ j < 16 ∧ s 2 j = 1 ∧ s 5 j = 0 := by
  unfold lb_E
  rw [lb_or]
  constructor
  · rintro ⟨i, h1, h2, h3⟩
    have e := (lb_sh h1 hj).mp h3
    subst e
    simp only [Bool.and_eq_true, decide_eq_true_eq] at h2
    exact ⟨h1, h2.1, h2.2⟩
  · rintro ⟨h1, h2, h3⟩
    exact ⟨j, h1, by simp [h2, h3], (lb_sh h1 hj).mpr rfl⟩
theorem lr_ent {m : fm_M} : f_L_entitled m = some (lb_E (ma_c (m 2))).toInt64 := by
  have e : f_X6_entitled m = some (lb_E (ma_c (m 2))) := by
    unfold f_X6_entitled lb_E
    refine ma_loop (fun f k => f_X6_entitled_L4 f (ma_or (fun b => decide (ma_c (m 2) 2 b = 1) && decide (ma_c (m 2) 5 b = 0)) (fun b => (1 : Int32) <<< (ma_i b &&& 31)) k) (ma_i k) m) 16 (fun f k hk => ?_) (fun f => ?_) fm_F 0 (by decide) (by decide)
    · show f_X6_entitled_L4 (f + 1) _ _ m = _
      rw [f_X6_entitled_L4, if_neg (ma_g0 hk (by decide)), ka_isEntitled hk, Option.bind_some, ma_or_s, ma_s1]
      split <;> rfl
    · show f_X6_entitled_L4 (f + 1) _ _ m = _
      rw [f_X6_entitled_L4, if_pos ma_g1]
  unfold f_L_entitled
  rw [e]
  rfl
theorem lr_ent2 {B n : Nat} {t : ma_S} {m : fm_M} (hr : mr_rel B n (ma_c (m 2)) t) : f_L_entitledAgain m = some (lb_E (ma_c (m 2))).toInt64 := by
  have hn := mr_n hr
  have e : f_X6_entitledAgain m = some (ma_or (fun c => decide (¬ ma_c (m 2) 14 c < 0) && decide (ma_c (m 2) 5 (ma_c (m 2) 14 c).toNatClampNeg = 0)) (fun c => (1 : Int32) <<< (ma_c (m 2) 14 c &&& 31)) 8) := by
    unfold f_X6_entitledAgain
    refine ma_loop (fun f k => f_X6_entitledAgain_L4 f (ma_or (fun c => decide (¬ ma_c (m 2) 14 c < 0) && decide (ma_c (m 2) 5 (ma_c (m 2) 14 c).toNatClampNeg = 0)) (fun c => (1 : Int32) <<< (ma_c (m 2) 14 c &&& 31)) k) (ma_i k) m) 8 (fun f k hk => ?_) (fun f => ?_) fm_F 0 (by decide) (by decide)
    · show f_X6_entitledAgain_L4 (f + 1) _ _ m = _
      rw [f_X6_entitledAgain_L4, if_neg (ma_g0 hk (by decide)), ka_gc hk, Option.bind_some, ka_isBrother hr.2.1, Option.bind_some, ma_or_s, ma_s1]
      rcases mr_cell hr hk with ⟨e, _⟩ | ⟨b, hb, e, _⟩
      · rw [e, ma_br_neg (by decide), if_neg (by decide), decide_eq_false (show ¬ ¬ (-15 : Int32) < 0 by decide), Bool.false_and, if_neg (by decide)]
      · rw [e, ma_br_i hn (by omega), if_pos (decide_eq_true hb), ka_of5 (by omega), Option.bind_some, ma_cn (by omega), decide_eq_true (ma_nn (show b < 2147483648 by omega)), Bool.true_and]
        by_cases h5 : ma_c (m 2) 5 b = 0
        · rw [if_pos h5, if_pos (decide_eq_true h5)]
        · rw [if_neg h5, if_neg (by simpa using h5)]
    · show f_X6_entitledAgain_L4 (f + 1) _ _ m = _
      rw [f_X6_entitledAgain_L4, if_pos ma_g1]
  have e2 : ma_or (fun c => decide (¬ ma_c (m 2) 14 c < 0) && decide (ma_c (m 2) 5 (ma_c (m 2) 14 c).toNatClampNeg = 0)) (fun c => (1 : Int32) <<< (ma_c (m 2) 14 c &&& 31)) 8 = lb_E (ma_c (m 2)) := by
    apply Int32.toBitVec_inj.mp
    refine BitVec.eq_of_getLsbD_eq (fun j hj => Bool.eq_iff_iff.mpr ?_)
    rw [lb_E_bit hj, lb_or]
    constructor
    · rintro ⟨c, h1, h2, h3⟩
      simp only [Bool.and_eq_true, decide_eq_true_eq] at h2
      rcases mr_cell hr h1 with ⟨e, _⟩ | ⟨b, hb, e, _, e4, _, _⟩
      · rw [e] at h2; exact absurd (by decide) h2.1
      · rw [e, ma_cn (by omega)] at h2
        rw [e] at h3
        have ej := (lb_sh (show b < 16 by omega) hj).mp h3
        subst ej
        exact ⟨by omega, e4, h2.2⟩
    · rintro ⟨h1, h2, h3⟩
      have hjn := rk_kg_in hr h1 h2
      obtain ⟨c, c1, c2, c3, c4⟩ := (hr.2.2.2.2.2.2.2.2.2.2.2.2.2.2.1 j hjn).1 h2
      refine ⟨c, c1, ?_, ?_⟩
      · rw [c4, ma_cn (by omega), decide_eq_true (ma_nn (show j < 2147483648 by omega)), Bool.true_and]
        exact decide_eq_true h3
      · rw [c4]; exact (lb_sh h1 hj).mpr rfl
  unfold f_L_entitledAgain
  rw [e, e2]
  rfl
/-- a bit of a long out of an int -/
theorem lb_long {x : Int32} {k : Nat} (hk : k < 16) (h : (x.toInt64 >>> ((ma_i k).toInt64 &&& 63)) &&& (1 : Int64) = (1 : Int64)) : x.toBitVec.getLsbD k = true := by
  have h1 := congrArg (fun y : Int64 => y.toBitVec.getLsbD 0) h
  simp only [Int64.toBitVec_and, BitVec.getLsbD_and] at h1
  have h2 : (1 : Int64).toBitVec.getLsbD 0 = true := by decide
  rw [h2, Bool.and_true] at h1
  have hb : ∀ k : Fin 16, (((ma_i k.val).toInt64 &&& 63).toBitVec.smod 64).toNat = k.val := by decide +kernel
  rw [Int64.toBitVec_shiftRight] at h1
  have h1 : (x.toInt64.toBitVec.sshiftRight (((ma_i k).toInt64 &&& 63).toBitVec.smod 64).toNat).getLsbD 0 = true := h1
  rw [hb ⟨k, hk⟩, BitVec.getLsbD_sshiftRight, Int32.toBitVec_toInt64, BitVec.getLsbD_signExtend] at h1
  simp only [Nat.add_zero] at h1
  rw [if_pos (show k < 64 by omega), if_pos (show k < 32 by omega)] at h1
  simp at h1
  exact h1.2

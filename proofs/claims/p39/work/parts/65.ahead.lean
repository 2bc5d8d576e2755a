/-! what would come, comes -/
theorem la_sub {a b : Nat} (ha : a < 2147483648) (hb : b < 2147483648) : (ma_i a).toInt64 - (ma_i b).toInt64 = (ma_i a - ma_i b).toInt64 := by
  apply Int64.toInt_inj.mp
  rw [Int64.toInt_sub, Int32.toInt_toInt64, Int32.toInt_toInt64, Int32.toInt_toInt64, Int32.toInt_sub, ma_int ha, ma_int hb]
  rw [Int.bmod_eq_of_le (by omega) (by omega), Int.bmod_eq_of_le (by omega) (by omega)]
theorem la_sm {f : Nat → Int32} {K : Nat} : ∀ n, (∀ b, b < n → ∃ g, g ≤ K ∧ f b = ma_i g) → ∃ q, q ≤ n * K ∧ ma_sm f n = ma_i q := by
  intro n
  induction n with
  | zero => intro _; exact ⟨0, by omega, rfl⟩
  | succ n ih =>
    intro h
    obtain ⟨q, q1, q2⟩ := ih (fun b hb => h b (by omega))
    obtain ⟨g, g1, g2⟩ := h n (by omega)
    refine ⟨q + g, ?_, ?_⟩
    · rw [Nat.add_mul, Nat.one_mul]; omega
    · rw [ma_sm_s, q2, g2, ma_add]
theorem la_paid {K : Nat} {s : ma_S} (h : my_m K s) (hK : K < 1000000) : ∃ q, q < 16000000 ∧ s 16 6 = ma_i q := by
  obtain ⟨q, q1, q2⟩ := la_sm (K := K) 16 h.2.2.1
  exact ⟨q, by omega, h.2.1.trans q2⟩
def la_W (B n y : Nat) (s : ma_S) (w1 : Nat → Int32) (P : Int32) : Prop := ∀ m0 : fm_M, ma_c (m0 7) = s → ∃ m1, f_X0_after (ma_i y) m0 = some m1 ∧ mj_c m0 m1 ∧ mr_rel (B + 60) n (ma_c (m1 7)) (ma_w w1) ∧ ma_c (m1 7) 16 6 = s 16 6 + P ∧ my_k 540 s (ma_c (m1 7))
theorem la_weeks {B n y : Nat} {m : fm_M} {g : Nat → Int32} (hy : y ≤ 60) (hB : B + 60 < 1000000) (hr : mr_rel B n (ma_c (m 2)) (ma_w g)) : ∃ w1 P, ¬ P < 0 ∧ la_W B n y (ma_c (m 2)) w1 P := by
  have hw : ∀ m0 : fm_M, ma_c (m0 7) = ma_c (m 2) → ∃ m1 w1 p, p ≤ 9999 * y ∧ f_X0_after (ma_i y) m0 = some m1 ∧ mj_c m0 m1 ∧ f_X7_weeksGo_L4 fm_F (ma_i y) (ma_i 0) (ma_i 0) (fm_up (fun _ _ => 0) 24 g) = some (ma_i p, fm_up (fm_up (fun _ _ => 0) 24 g) 24 w1) ∧ mr_rel (B + 60) n (ma_c (m1 7)) (ma_w w1) ∧ ma_c (m1 7) 16 6 = ma_c (m 2) 16 6 + ma_i p ∧ my_k 540 (ma_c (m 2)) (ma_c (m1 7)) := by
    intro m0 e0
    obtain ⟨m1, w1, p, hp, c1, c2, c3, c4, c5, c6⟩ := mw_weeks hy y 0 B 0 fm_F fm_F m0 (fm_up (fun _ _ => 0) 24 g) (by omega) (by unfold fm_F; omega) (by unfold fm_F; omega) (by omega) (by omega) (by rw [e0, ka_up]; exact hr)
    refine ⟨m1, w1, p, hp, c1, c2, c3, mr_mono c4 (by omega), ?_, ?_⟩
    · have z : ma_c (m1 7) 16 6 + ma_i 0 = ma_c (m1 7) 16 6 := Int32.add_zero _
      rw [← z, c5, e0]
    · rw [e0] at c6; exact my_kk (by omega) c6
  obtain ⟨_, w1, p, hp, _, _, d3, _⟩ := hw (fm_up m 7 (m 2)) (by rw [ka_up])
  refine ⟨w1, ma_i p, ma_nn (by omega), fun m0 e0 => ?_⟩
  obtain ⟨m1, w1', p', _, c1, c2, c3, c4, c5, c6⟩ := hw m0 e0
  rw [d3] at c3
  obtain ⟨e1, e2⟩ := Prod.mk.inj (Option.some.inj c3)
  have e3 := congrFun e2 24
  rw [ka_up, ka_up] at e3
  refine ⟨m1, c1, c2, by rw [e3]; exact c4, by rw [e1]; exact c5, c6⟩
theorem la_would {B n y b : Nat} {s t : ma_S} {m : fm_M} {w1 : Nat → Int32} {P : Int32} (hW : la_W B n y s w1 P) (hy : y ≤ 60) (hr : mr_rel B n s t) (hm : ma_c (m 2) = s) (hb : b < n) : ∃ m1, f_L_wouldGet (ma_i b) (ma_i y) m = some ((ma_w w1 6 b - s 6 b).toInt64, m1) ∧ ∀ k, k ≠ 5 → k ≠ 7 → k ≠ 9 → m1 k = m k := by
  subst hm
  have hn := mr_n hr
  unfold f_L_wouldGet f_X6_wouldGet
  rw [lr_isB hr hb, Option.bind_some, if_pos rfl, if_neg (ma_nn (by omega)), if_pos (show ma_i y ≤ (60 : Int32) from (ma_le (b := 60) (by omega) (by decide)).mpr hy), mt_onTrial, Option.bind_some]
  obtain ⟨m1, c1, c2, c3, c4, c5⟩ := hW (fm_up m 7 (va_cpy (m 2) (m 7) 0 0 294)) (by rw [ka_up, mt_cpc])
  have e2 : m1 2 = m 2 := (c2 2 (by decide) (by decide) (by decide)).trans (ka_un _ (by decide) _)
  refine ⟨m1, ?_, fun k k5 k7 k9 => (c2 k k5 k7 k9).trans (ka_un _ k7 _)⟩
  rw [c1, Option.bind_some, ka_of6 (by omega), Option.bind_some, ka_of6 (by omega), Option.bind_some, Option.bind_some, e2, mr_col c3 (k := 6) (by decide) (by decide) (by decide) (by decide) hb]
theorem la_chest {B n y : Nat} {s : ma_S} {m : fm_M} {w1 : Nat → Int32} {P : Int32} (hW : la_W B n y s w1 P) (hy : y ≤ 60) (hm : ma_c (m 2) = s) : ∃ m1, f_L_chestIn (ma_i y) m = some ((ma_w w1 16 4).toInt64, m1) ∧ ∀ k, k ≠ 5 → k ≠ 7 → k ≠ 9 → m1 k = m k := by
  subst hm
  unfold f_L_chestIn f_X6_chestIn
  rw [if_neg (ma_nn (by omega)), if_pos (show ma_i y ≤ (60 : Int32) from (ma_le (b := 60) (by omega) (by decide)).mpr hy), mt_onTrial, Option.bind_some]
  obtain ⟨m1, c1, c2, c3, c4, c5⟩ := hW (fm_up m 7 (va_cpy (m 2) (m 7) 0 0 294)) (by rw [ka_up, mt_cpc])
  refine ⟨m1, ?_, fun k k5 k7 k9 => (c2 k k5 k7 k9).trans (ka_un _ k7 _)⟩
  rw [c1, Option.bind_some, ka_g4, Option.bind_some, Option.bind_some, c3.2.2.2.1 4 (by decide) (by decide)]
theorem la_after0 (m : fm_M) : f_X0_after (0 : Int32) m = some m := by
  unfold f_X0_after
  show f_X0_after_L2 (3999 + 1) _ _ m = _
  rw [f_X0_after_L2, if_pos (Int32.le_refl _)]
theorem la_would0 {B n b : Nat} {t : ma_S} {m : fm_M} (hr : mr_rel B n (ma_c (m 2)) t) (hb : b < n) : ∃ m1, f_L_wouldGet (ma_i b) (0 : Int32) m = some ((0 : Int32).toInt64, m1) ∧ ∀ k, k ≠ 5 → k ≠ 7 → k ≠ 9 → m1 k = m k := by
  have hn := mr_n hr
  unfold f_L_wouldGet f_X6_wouldGet
  rw [lr_isB hr hb, Option.bind_some, if_pos rfl, if_neg (by decide), if_pos (by decide), mt_onTrial, Option.bind_some, la_after0, Option.bind_some, ka_of6 (by omega), Option.bind_some, ka_of6 (by omega), Option.bind_some, Option.bind_some, ka_up, mt_cpc, ka_un _ (show (2 : Nat) ≠ 7 by decide), Int32.sub_self]
  exact ⟨_, rfl, fun k _ k7 _ => ka_un _ k7 _⟩
theorem la_chest0 {m : fm_M} : ∃ m1, f_L_chestIn (0 : Int32) m = some ((ma_c (m 2) 16 4).toInt64, m1) ∧ ∀ k, k ≠ 5 → k ≠ 7 → k ≠ 9 → m1 k = m k := by
  unfold f_L_chestIn f_X6_chestIn
  rw [if_neg (by decide), if_pos (by decide), mt_onTrial, Option.bind_some, la_after0, Option.bind_some, ka_g4, Option.bind_some, Option.bind_some, ka_up, mt_cpc]
  exact ⟨_, rfl, fun k _ k7 _ => ka_un _ k7 _⟩
theorem la_wk {B n y nx h : Nat} {s : ma_S} {m : fm_M} {w1 : Nat → Int32} {P : Int32} (hW : la_W B n y s w1 P) (hP : ¬ P < 0) (hy1 : 1 ≤ y) (hy : y ≤ 60) (hm : ma_c (m 2) = s) (hh : lz_h m nx h) : ∃ mF, f_L_weeks (ma_i y) m = some (P.toInt64, mF) ∧ (∀ k, k ≠ 2 → k ≠ 5 → k ≠ 7 → k ≠ 9 → k ≠ 12 → k ≠ 13 → mF k = m k) ∧ lz_p m mF ∧ mr_rel (B + 60) n (ma_c (mF 2)) (ma_w w1) ∧ ma_c (mF 2) 16 6 = s 16 6 + P ∧ my_k 540 s (ma_c (mF 2)) := by
  subst hm
  obtain ⟨h1, h2, h3, h4⟩ := hh
  unfold f_L_weeks f_X6_weeks
  rw [mt_onTrial, Option.bind_some]
  have e7 : ma_c ((fm_up m 7 (va_cpy (m 2) (m 7) 0 0 294)) 7) = ma_c (m 2) := by rw [ka_up, mt_cpc]
  have ef : ∀ k, k ≠ 7 → (fm_up m 7 (va_cpy (m 2) (m 7) 0 0 294)) k = m k := fun k hk => ka_un m hk _
  generalize fm_up m 7 (va_cpy (m 2) (m 7) 0 0 294) = m0 at e7 ef
  obtain ⟨m1, c1, c2, c3, c4, c5⟩ := hW m0 e7
  unfold f_X0_spendWeeks
  rw [if_neg (show ¬ ma_i y < (1 : Int32) from fun hh => by have := (ma_lt (b := 1) (by omega) (by decide)).mp hh; omega), if_pos (show ma_i y ≤ (60 : Int32) from (ma_le (b := 60) (by omega) (by decide)).mpr hy), ka_g6, Option.bind_some, c1, Option.bind_some, ka_g6, Option.bind_some, Option.bind_some]
  dsimp only
  have eP : ma_c (m1 7) 16 6 - ma_c (m0 7) 16 6 = P := by
    rw [c4, e7]
    have z : ∀ a b : Int32, a + b - a = b := fun a b => by grind
    exact z _ _
  rw [eP]
  have e1 : ∀ k, k ≠ 5 → k ≠ 7 → k ≠ 9 → m1 k = m k := fun k k5 k7 k9 => (c2 k k5 k7 k9).trans (ef k k7)
  have e12 := e1 12 (by decide) (by decide) (by decide)
  obtain ⟨mF, s1, s2, s3, s4, s5⟩ := mt_setO (m1 := m1) hP h1 h2 (by rw [e12]; exact h3) (by rw [e12]; exact h4)
  rw [s1]
  refine ⟨mF, rfl, fun k k2 k5 k7 k9 k12 k13 => (s2 k k2 k12 k13).trans (e1 k k5 k7 k9), ⟨nx, h, ⟨h1, h2, h3, h4⟩, ⟨Nat.mod_lt _ (by decide), by split <;> omega, ?_, ?_⟩, ?_⟩, ?_, ?_, ?_⟩
  · rw [s4]; unfold upd; rw [if_neg (by decide), if_pos rfl]
  · rw [s4]; unfold upd; rw [if_pos rfl]
  · rw [s5, e1 2 (by decide) (by decide) (by decide), e1 13 (by decide) (by decide) (by decide)]
  · rw [s3]; exact c3
  · rw [s3]; exact c4
  · rw [s3]; exact c5
/-- what a read of the law leaves -/
def lq_ok (m m1 : fm_M) : Prop := ma_c (m1 2) = ma_c (m 2) ∧ (∃ nx h, lz_h m1 nx h) ∧ m1 18 = m 18
theorem lz_h_same {m m1 : fm_M} {nx h : Nat} (hh : lz_h m nx h) (e : m1 12 = m 12) : lz_h m1 nx h := ⟨hh.1, hh.2.1, by rw [e]; exact hh.2.2.1, by rw [e]; exact hh.2.2.2⟩
set_option maxHeartbeats 4000000 in
theorem la_ahead {B n nx h : Nat} {m : fm_M} (x : Int32) (hB : B + 600 < 1000000) (hn0 : 0 < n) (hv : lz_iv B n (ma_c (m 2))) (hh : lz_h m nx h) : ∃ m1, f_L_ahead x m = some (true, m1) ∧ lq_ok m m1 := by
  obtain ⟨⟨g, hr⟩, hm⟩ := hv
  have hn := mr_n hr
  obtain ⟨r, hmark⟩ := lm_mark hr
  obtain ⟨j, hj, ej⟩ := lz_pick x (60 : Int32) (k := 60) rfl (by decide) (by decide) m
  have en : ((ma_i n).toInt64).toInt32 = ma_i n := Int32.toInt32_toInt64 _
  obtain ⟨b, hb, eb⟩ := lz_pick (x >>> ((6 : Int32) &&& 31)) (((ma_i n).toInt64).toInt32) (k := n) en hn0 (by omega) m
  have ey : (1 : Int32) + ma_i j = ma_i (1 + j) := ma_add 1 j
  have hy : 1 + j ≤ 60 := by omega
  have hy1 : 1 ≤ 1 + j := by omega
  generalize 1 + j = y at ey hy hy1
  obtain ⟨w1, P, hP, hW⟩ := la_weeks (m := m) hy (by omega) hr
  unfold f_L_ahead
  rw [hmark m rfl, Option.bind_some, ej, Option.bind_some, lm_ac2 _ hr.2.1 m rfl, Option.bind_some, eb, Option.bind_some, ey]
  obtain ⟨m1, a1, a2⟩ := la_would hW hy hr (m := m) rfl hb
  have s1 : ma_c (m1 2) = ma_c (m 2) := by rw [a2 2 (by decide) (by decide) (by decide)]
  rw [a1, Option.bind_some]
  dsimp only
  obtain ⟨m2, b1, b2⟩ := la_chest hW hy (m := m1) s1
  have s2 : ma_c (m2 2) = ma_c (m 2) := by rw [b2 2 (by decide) (by decide) (by decide)]; exact s1
  rw [b1, Option.bind_some]
  dsimp only
  obtain ⟨m3, c1, c2⟩ := la_would0 (m := m2) (by rw [s2]; exact hr) hb
  have s3 : ma_c (m3 2) = ma_c (m 2) := by rw [c2 2 (by decide) (by decide) (by decide)]; exact s2
  rw [c1, Option.bind_some]
  dsimp only
  rw [if_pos ((ml_eq _ _).mpr (by decide))]
  obtain ⟨m4, d1, d2⟩ := la_chest0 (m := m3)
  have s4 : ma_c (m4 2) = ma_c (m 2) := by rw [d2 2 (by decide) (by decide) (by decide)]; exact s3
  rw [d1, Option.bind_some]
  dsimp only
  rw [lr_a9, Option.bind_some, s3, s4, if_pos ((ml_eq _ _).mpr rfl), hmark m4 s4, Option.bind_some, if_pos ((ml_eq _ _).mpr rfl)]
  have hr4 : mr_rel B n (ma_c (m4 2)) (ma_w g) := by rw [s4]; exact hr
  have e12 : m4 12 = m 12 := by rw [d2 12 (by decide) (by decide) (by decide), c2 12 (by decide) (by decide) (by decide), b2 12 (by decide) (by decide) (by decide), a2 12 (by decide) (by decide) (by decide)]
  have e18 : m4 18 = m 18 := by rw [d2 18 (by decide) (by decide) (by decide), c2 18 (by decide) (by decide) (by decide), b2 18 (by decide) (by decide) (by decide), a2 18 (by decide) (by decide) (by decide)]
  rw [lr_b6 hr4 hb, Option.bind_some, lr_a11, Option.bind_some, s4]
  obtain ⟨mF, f1, f2, f3, f4, f5, f6⟩ := la_wk hW hP hy1 hy (m := m4) s4 (lz_h_same hh e12)
  rw [f1, Option.bind_some]
  dsimp only
  have hmF := f6 B hm
  obtain ⟨g1, g11, g12⟩ := hm.2.2.1 b (by omega)
  obtain ⟨g2, g21, g22⟩ := hmF.2.2.1 b (by omega)
  have ew : ma_w w1 6 b = ma_c (mF 2) 6 b := (mr_col f4 (k := 6) (by decide) (by decide) (by decide) (by decide) hb).symm
  obtain ⟨q1, q11, q12⟩ := la_paid hm (by omega)
  obtain ⟨q2, q21, q22⟩ := la_paid hmF (by omega)
  have eP : ma_i q2 - ma_i q1 = P := by
    rw [← q12, ← q22, f5]
    have z : ∀ a b : Int32, a + b - a = b := fun a b => by grind
    exact z _ _
  rw [lr_b6 f4 hb, Option.bind_some, if_pos ((ml_eq _ _).mpr (by rw [ew, g12, g22]; exact la_sub (by omega) (by omega))), lr_a9, Option.bind_some, if_pos ((ml_eq _ _).mpr (by rw [f4.2.2.2.1 4 (by decide) (by decide)])), lr_a11, Option.bind_some, if_pos ((ml_eq _ _).mpr (by rw [q12, q22, la_sub (by omega) (by omega), eP])), lr_balanced f4 hmF, Option.bind_some, if_pos ((ml_eq _ _).mpr rfl)]
  obtain ⟨nx', h', mU, u1, u2, u3, u4, u5⟩ := lz_undo f3
  have eu : f_L_undo mF = some ((ma_i (min h' 7)).toInt64, mU) := by unfold f_L_undo; rw [u2]; rfl
  have sU : ma_c (mU 2) = ma_c (m 2) := u5.trans s4
  rw [eu, Option.bind_some]
  dsimp only
  rw [hmark mU sU, Option.bind_some, if_pos ((ml_eq _ _).mpr rfl)]
  refine ⟨mU, rfl, sU, ⟨nx', _, u4⟩, ?_⟩
  rw [u3 18 (by decide) (by decide), f2 18 (by decide) (by decide) (by decide) (by decide) (by decide) (by decide)]
  exact e18

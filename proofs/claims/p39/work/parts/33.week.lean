/-! weeks -/
theorem ma_divle {c k : Nat} (hc : c ≤ 9999) (hk : k ≤ 16) : ma_i c / ma_i k = ma_i (c / k) := (Int32.ofNat_div (by omega) (by omega)).symm
theorem mw_feast {B n : Nat} {m mm : fm_M} (h : mr_rel B n (ma_c (m 7)) (ma_w (mm 24))) {wk : Nat} (hwk : wk < 52) (ew : ma_c (m 7) 16 3 = ma_i wk) : ∃ g w p, p ≤ 9999 ∧ f_X0_payFeast (ma_c (m 7) 15 wk) (ma_i (ma_ct (fun b => decide (ma_c (m 7) 2 b = 1) && decide (ma_c (m 7) 5 b = 0)) 16)) m = some (fm_up m 7 g) ∧ f_X7_feastComes mm = some (ma_i p, fm_up mm 24 w) ∧ mr_rel B n (ma_c g) (ma_w w) ∧ ma_c g 16 6 = ma_c (m 7) 16 6 + ma_i p ∧ my_k 9 (ma_c (m 7)) (ma_c g) := by
  have hn := mr_n h
  have ht0 : ma_w (mm 24) 16 0 = ma_i n := h.2.2.1
  obtain ⟨q, p, hp, ep⟩ := h.2.2.2.2.2.2.2.1 wk hwk
  obtain ⟨c, hc, ec⟩ := h.2.2.2.2.2.1
  have e3 : ma_w (mm 24) 16 3 = ma_i wk := by rw [← h.2.2.2.1 3 (by decide) (by decide)]; exact ew
  have e4 : ma_w (mm 24) 16 4 = ma_i c := by rw [← h.2.2.2.1 4 (by decide) (by decide)]; exact ec
  have e6 : ma_w (mm 24) 16 6 = ma_c (m 7) 16 6 := (h.2.2.2.1 6 (by decide) (by decide)).symm
  have hent := mr_ent h
  generalize hk : ma_ct (fun b => decide (ma_w (mm 24) 2 b = 1) && decide (ma_w (mm 24) 5 b = 0)) n = k at hent
  have hk16 : k ≤ 16 := by rw [← hk]; exact Nat.le_trans (ma_ct_le _ n) hn
  have ix : (12 : Int32) + ma_i wk = ma_i (12 + wk) := ma_add 12 wk
  have a1 : mm 24 (1 : Int32).toNatClampNeg = ma_i wk := e3
  have a2 : mm 24 ((12 : Int32) + ma_i wk).toNatClampNeg = ma_i p := by
    rw [ix, ma_cn (by omega), ← ep, q]
    have : ma_okw 15 wk = true := (ma_okw_iff 15 wk).mpr (Or.inr (Or.inl ⟨rfl, hwk⟩))
    unfold ma_w
    rw [if_pos this]
    rfl
  have a3 : mm 24 (3 : Int32).toNatClampNeg = ma_i c := e4
  have i12 : fm_in ((12 : Int32) + ma_i wk) 320 = true := by rw [ix]; exact ma_in (by omega) (by omega)
  have z : ∀ j : Nat, j < 100 → (ma_i j = 0 ↔ j = 0) := fun j hj => ma_inj (b := 0) (by omega) (by decide)
  rw [hent, ep]
  unfold f_X0_payFeast f_X7_feastComes
  rw [kb_entitledMany hn ht0, hk, Option.bind_some, if_pos (show fm_in (1 : Int32) 320 = true by decide), a1, if_pos i12, a2, a3]
  by_cases hk0 : k = 0
  · refine ⟨m 7, mm 24, 0, by omega, ?_, ?_, h, (Int32.add_zero _).symm, my_q_k (my_q_rf _)⟩
    · rw [ma_pk, if_pos ((z k (by omega)).mpr hk0)]
      split <;> rfl
    · rw [ma_pk, if_pos ((z k (by omega)).mpr hk0)]
      rfl
  · have nk : ¬ ma_i k = 0 := fun hh => hk0 ((z k (by omega)).mp hh)
    rw [if_neg nk, if_neg nk]
    by_cases hp0 : p = 0
    · refine ⟨m 7, mm 24, 0, by omega, ?_, ?_, h, (Int32.add_zero _).symm, my_q_k (my_q_rf _)⟩
      · rw [ma_pk, if_pos ((z p (by omega)).mpr hp0)]
      · rw [ma_pk, if_pos ((z p (by omega)).mpr hp0)]
        rfl
    · have np : ¬ ma_i p = 0 := fun hh => hp0 ((z p (by omega)).mp hh)
      rw [if_neg np, if_neg np, ka_g4, Option.bind_some, if_neg nk, ec, if_pos (show fm_in (3 : Int32) 320 = true by decide), if_neg nk, kb_lesser, Option.bind_some, ma_divle hc hk16]
      have hq : c / k ≤ c := Nat.div_le_self c k
      have me1 : (if ma_i (c / k) < ma_i p then ma_i (c / k) else ma_i p) = ma_i (min p (c / k)) := by
        by_cases hlt : c / k < p
        · rw [if_pos ((ma_lt (by omega) (by omega)).mpr hlt)]; congr 1; omega
        · rw [if_neg (by rw [ma_lt (by omega) (by omega)]; exact hlt)]; congr 1; omega
      have me2 : (if ma_i (c / k) ≤ ma_i p then ma_i (c / k) else ma_i p) = ma_i (min p (c / k)) := by
        by_cases hlt : c / k ≤ p
        · rw [if_pos ((ma_le (by omega) (by omega)).mpr hlt)]; congr 1; omega
        · rw [if_neg (by rw [ma_le (by omega) (by omega)]; exact hlt)]; congr 1; omega
      rw [me1, me2, kc_pay_L, kb_feast_L hn ht0, ma_mul]
      have hle : min p (c / k) * k ≤ c := Nat.le_trans (Nat.mul_le_mul_right k (Nat.min_le_right p (c / k))) (Nat.div_mul_le_self c k)
      have hpay : ∀ s2 : ma_S, s2 = ma_up (ma_up (md_pay (ma_c (m 7)) (ma_i (min p (c / k))) 16) 16 4 (ma_i (c - min p (c / k) * k))) 16 6 (ma_c (m 7) 16 6 + ma_i (min p (c / k) * k)) → my_k 9 (ma_c (m 7)) s2 := by
        intro s2 e2
        have ek : ma_i (min p (c / k)) * ma_i (ma_ct (fun b => decide (ma_c (m 7) 2 b = 1) && decide (ma_c (m 7) 5 b = 0)) 16) = ma_i (min p (c / k) * k) := by rw [hent, ma_mul]
        refine my_pay (p := fun b => decide (ma_c (m 7) 2 b = 1) && decide (ma_c (m 7) 5 b = 0)) (e := min p (c / k)) (by omega) ?_ ?_ (fun b hb => ?_) (fun k0 b h0 => ?_)
        · rw [ek, e2, ec, ma_sub hle]; unfold ma_up; simp
        · rw [ek, e2]; unfold ma_up; simp
        · rw [e2]; unfold ma_up md_pay; simp [hb]
        · rw [e2]
          unfold ma_up md_pay
          rw [if_neg (by omega), if_neg (by omega), if_neg (by omega)]
      generalize min p (c / k) * k = u at hle hpay
      generalize ma_i (min p (c / k)) = each at hpay
      have r1 := mr_pay h each
      have c4 : ma_c (ma_it (mc_py each) (m 7) 16) 16 4 = ma_i c := by rw [mc_py_it]; unfold md_pay; rw [if_neg (by simp)]; exact ec
      have c6 : ma_c (ma_it (mc_py each) (m 7) 16) 16 6 = ma_c (m 7) 16 6 := by rw [mc_py_it]; unfold md_pay; rw [if_neg (by simp)]
      have w4 : ma_w (ma_it (mb_py each) (mm 24) n) 16 4 = ma_i c := by rw [mb_py_it n hn]; unfold md_pay; rw [if_neg (by simp)]; exact e4
      have w6 : ma_w (ma_it (mb_py each) (mm 24) n) 16 6 = ma_c (m 7) 16 6 := by rw [mb_py_it n hn]; unfold md_pay; rw [if_neg (by simp)]; exact e6
      rw [c4, c6, w4, w6, ma_sub hle]
      refine ⟨_, _, u, by omega, rfl, rfl, ?_, ?_, ?_⟩
      · rw [ma_c_s (by unfold ma_ok; omega), ma_c_s (by unfold ma_ok; omega), ma_w_t (by decide), ma_w_t (by decide), mc_py_it, mb_py_it n hn]
        exact mr_sc (mr_sc r1 (j := 4) (v := ma_i (c - u)) (by decide) (by decide) (fun hh => absurd hh (by decide)) (fun _ => ⟨c - u, by omega, rfl⟩) (fun hh => absurd hh (by decide))) (j := 6) (by decide) (by decide) (fun hh => absurd hh (by decide)) (fun hh => absurd hh (by decide)) (fun hh => absurd hh (by decide))
      · rw [ma_c_s (by unfold ma_ok; omega), ma_up_e]
      · refine hpay _ ?_
        rw [ma_c_s (by unfold ma_ok; omega), ma_c_s (by unfold ma_ok; omega), mc_py_it]
theorem kb_bans {m : fm_M} {n : Nat} {y : Int32} (hn16 : n ≤ 16) (hn : ma_w (m 24) 16 0 = ma_i n) : f_X7_weekGoes_L7 fm_F y (0 : Int32) m = f_X7_weekGoes_L52 fm_F y (0 : Int32) (fm_up m 24 (ma_it mb_bn (m 24) n)) := by
  refine (congrArg (f_X7_weekGoes_L7 fm_F y (0 : Int32)) (ma_pk m 24).symm).trans ?_
  have hm : ∀ k, k ≤ n → ma_w ((fm_up m 24 (ma_it mb_bn (m 24) k)) 24) 16 0 = ma_i n := by
    intro k hk
    rw [ka_up, mb_bn_it k (by omega), ← hn]
    unfold me_ban
    simp
  refine ma_loop (fun f k => f_X7_weekGoes_L7 f y (ma_i k) (fm_up m 24 (ma_it mb_bn (m 24) k))) n (fun f k hk => ?_) (fun f => ?_) fm_F 0 (Nat.zero_le _) (by unfold fm_F; omega)
  · show f_X7_weekGoes_L7 (f + 1) _ _ _ = f_X7_weekGoes_L7 f _ _ (fm_up m 24 (mb_bn k (ma_it mb_bn (m 24) k)))
    have hk0 := hm k (by omega)
    have hk16 : k < 16 := by omega
    generalize ma_it mb_bn (m 24) k = g at hk0 ⊢
    rw [f_X7_weekGoes_L7, if_pos (by decide), kb_r0 (fm_up m 24 _), hk0, if_neg (kb_g0 hn16 hk)]
    simp only [kb_of5 hk16, kb_se5 hk16, Option.bind_some, ka_up, ma_pp, ma_s1]
    unfold mb_bn
    split <;> rfl
  · show f_X7_weekGoes_L7 (f + 1) _ _ _ = _
    rw [f_X7_weekGoes_L7, if_pos (by decide), kb_r0 (fm_up m 24 _), hm n (Nat.le_refl _), if_pos (Int32.le_refl _)]
/-! the rent of empty cells -/
def mb_rn (n k : Nat) (h : Nat → Int32) : Nat → Int32 := if mb_in (ma_w h) n (ma_i k) < n then h else mb_cm (2 : Int32) h
def me_rent (t : ma_S) (c e : Nat) : ma_S := ma_up (ma_up t 16 4 (ma_i (min 9999 (c + 2 * e)))) 16 5 (t 16 5 + ma_i (min 9999 (c + 2 * e) - c))
theorem me_in {t : ma_S} {c e n : Nat} {x : Int32} : mb_in (me_rent t c e) n x = mb_in t n x := by
  unfold mb_in me_rent
  refine ma_ff_congr n 0 (fun j _ _ => ?_)
  rw [ma_up_n (Or.inl (by decide)), ma_up_n (Or.inl (by decide)), ma_up_n (Or.inl (by decide)), ma_up_n (Or.inl (by decide))]
theorem mb_rn_it {g : Nat → Int32} {n c : Nat} (hc : c ≤ 9999) (h4 : ma_w g 16 4 = ma_i c) : ∀ k, k ≤ 8 → ma_w (ma_it (mb_rn n) g k) = me_rent (ma_w g) c (ma_ct (fun j => decide (¬ mb_in (ma_w g) n (ma_i j) < n)) k) := by
  refine ma_it_w (fun k => me_rent (ma_w g) c (ma_ct (fun j => decide (¬ mb_in (ma_w g) n (ma_i j) < n)) k)) ?_ (fun k h hk e => ?_)
  · show me_rent (ma_w g) c 0 = ma_w g
    unfold me_rent
    funext a b
    unfold ma_up
    have m1 : min 9999 (c + 2 * 0) = c := by omega
    rw [m1, Nat.sub_self]
    have z : ma_w g 16 5 + ma_i 0 = ma_w g 16 5 := Int32.add_zero _
    rw [z]
    by_cases h5 : a = 16 ∧ b = 5
    · rw [if_pos h5, h5.1, h5.2]
    · rw [if_neg h5]
      by_cases h44 : a = 16 ∧ b = 4
      · rw [if_pos h44, h44.1, h44.2, h4]
      · rw [if_neg h44]
  · show ma_w (mb_rn n k h) = me_rent (ma_w g) c (ma_ct (fun j => decide (¬ mb_in (ma_w g) n (ma_i j) < n)) (k + 1))
    have hin : mb_in (ma_w h) n (ma_i k) = mb_in (ma_w g) n (ma_i k) := by rw [e]; exact me_in
    have hct := ma_ct_le (fun j => decide (¬ mb_in (ma_w g) n (ma_i j) < n)) k
    rw [ma_ct_s]
    generalize ma_ct (fun j => decide (¬ mb_in (ma_w g) n (ma_i j) < n)) k = E at e hct ⊢
    unfold mb_rn
    rw [hin]
    by_cases hlt : mb_in (ma_w g) n (ma_i k) < n
    · rw [if_pos hlt, if_neg (by simp [hlt])]
      exact e
    · rw [if_neg hlt, if_pos (by simp [hlt])]
      have x4 : ma_w h 16 4 = ma_i (min 9999 (c + 2 * E)) := by
        rw [e]
        unfold me_rent
        rw [ma_up_n (Or.inr (by decide)), ma_up_e]
      have x5 : ma_w h 16 5 = ma_w g 16 5 + ma_i (min 9999 (c + 2 * E) - c) := by
        rw [e]
        unfold me_rent
        rw [ma_up_e]
      obtain ⟨q1, q2⟩ := ma_min (min 9999 (c + 2 * E)) 2 (by omega) (by decide)
      have q2' : (if (9999 : Int32) - ma_i (min 9999 (c + 2 * E)) ≤ (2 : Int32) then (9999 : Int32) - ma_i (min 9999 (c + 2 * E)) else (2 : Int32)) = ma_i (min 2 (9999 - min 9999 (c + 2 * E))) := q2
      unfold mb_cm
      rw [x4, x5, q2', ma_add, Int32.add_assoc, ma_add, ma_w_t (by decide), ma_w_t (by decide), e]
      have y1 : min 9999 (c + 2 * E) + min 2 (9999 - min 9999 (c + 2 * E)) = min 9999 (c + 2 * (E + 1)) := by omega
      have y2 : min 9999 (c + 2 * E) - c + min 2 (9999 - min 9999 (c + 2 * E)) = min 9999 (c + 2 * (E + 1)) - c := by omega
      rw [y1, y2]
      unfold me_rent
      funext a b
      unfold ma_up
      by_cases h5 : a = 16 ∧ b = 5
      · simp [h5]
      · by_cases h44 : a = 16 ∧ b = 4
        · simp [h44]
        · simp [h5, h44]
/-- the week and the year behind the rent -/
def mb_wk (m : fm_M) (y : Int32) (G : Nat → Int32) : Option (Int32 × fm_M) := if ma_w G 16 3 + 1 = (52 : Int32) then (f_X7_yearBegins (fm_up m 24 (ma_t G 16 3 (ma_w G 16 3 + 1)))).bind fun v10 => some (y, v10) else some (y, fm_up m 24 (ma_t G 16 3 (ma_w G 16 3 + 1)))
theorem kb_rent {m : fm_M} {n c : Nat} {y : Int32} (hn16 : n ≤ 16) (hn : ma_w (m 24) 16 0 = ma_i n) (hc : c ≤ 9999) (h4 : ma_w (m 24) 16 4 = ma_i c) : f_X7_weekGoes_L52 fm_F y (0 : Int32) m = mb_wk m y (ma_it (mb_rn n) (m 24) 8) := by
  refine (congrArg (f_X7_weekGoes_L52 fm_F y (0 : Int32)) (ma_pk m 24).symm).trans ?_
  have hm : ∀ k, k ≤ 8 → ma_w ((fm_up m 24 (ma_it (mb_rn n) (m 24) k)) 24) 16 0 = ma_i n := by
    intro k hk
    rw [ka_up, mb_rn_it hc h4 k hk, ← hn]
    unfold me_rent
    rw [ma_up_n (Or.inr (by decide)), ma_up_n (Or.inr (by decide))]
  refine ma_loop (fun f k => f_X7_weekGoes_L52 f y (ma_i k) (fm_up m 24 (ma_it (mb_rn n) (m 24) k))) 8 (fun f k hk => ?_) (fun f => ?_) fm_F 0 (by decide) (by decide)
  · show f_X7_weekGoes_L52 (f + 1) _ _ _ = f_X7_weekGoes_L52 f _ _ (fm_up m 24 (mb_rn n k (ma_it (mb_rn n) (m 24) k)))
    have hk0 := hm k (by omega)
    generalize ma_it (mb_rn n) (m 24) k = g at hk0 ⊢
    rw [f_X7_weekGoes_L52, if_neg (ma_g0 hk (by decide)), kb_brotherIn hn16 hk0, Option.bind_some, kb_comesIn, Option.bind_some, ka_up, ma_pp, ma_s1]
    unfold mb_rn
    by_cases hlt : mb_in (ma_w g) n (ma_i k) < n
    · rw [if_pos hlt, if_pos hlt, if_pos (ma_z0 (by omega))]
    · rw [if_neg hlt, if_neg hlt, if_neg (by decide)]
  · show f_X7_weekGoes_L52 (f + 1) _ _ _ = _
    rw [f_X7_weekGoes_L52, if_pos ma_g1, if_pos (by decide), if_pos (by decide), if_pos (by decide)]
    simp only [ma_put, ka_up, ma_pp]
    unfold mb_wk
    rfl

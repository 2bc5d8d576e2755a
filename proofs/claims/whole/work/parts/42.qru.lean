/-! what would come; append; undo; the snapshot -/
theorem mu_weeks {B n y : Nat} {m : fm_M} (hy : y ≤ 60) (hB : B + 60 < 1000000) (hr : mr_rel B n (ma_c (m 2)) (ma_w (m 24))) : ∃ m1, (f_X6_onTrial m).bind (fun v => f_X0_after (ma_i y) v) = some m1 ∧ (∀ k, k ≠ 5 → k ≠ 7 → k ≠ 9 → m1 k = m k) ∧ ∀ mm : fm_M, ma_w (mm 24) = ma_w (m 24) → ∃ p w1, f_X7_weeksGo (ma_i y) mm = some (p, fm_up mm 24 w1) ∧ mr_rel (B + 60) n (ma_c (m1 7)) (ma_w w1) := by
  rw [mt_onTrial, Option.bind_some]
  have e7 : ma_c ((fm_up m 7 (va_cpy (m 2) (m 7) 0 0 294)) 7) = ma_c (m 2) := by rw [ka_up, mt_cpc]
  have ef : ∀ k, k ≠ 7 → (fm_up m 7 (va_cpy (m 2) (m 7) 0 0 294)) k = m k := fun k hk => ka_un m hk _
  generalize fm_up m 7 (va_cpy (m 2) (m 7) 0 0 294) = m0 at e7 ef
  obtain ⟨m1, w1, p, hp, c1, c2, c3, c4, c5⟩ := mw_weeks hy y 0 B 0 fm_F fm_F m0 m (by omega) (by unfold fm_F; omega) (by unfold fm_F; omega) (by omega) (by omega) (by rw [e7]; exact hr)
  refine ⟨m1, c1, fun k h5 h7 h9 => (c2 k h5 h7 h9).trans (ef k h7), fun mm hmm => ?_⟩
  obtain ⟨m1', w1', p', hp', d1, d2, d3, d4, d5⟩ := mw_weeks hy y 0 B 0 fm_F fm_F m0 mm (by omega) (by unfold fm_F; omega) (by unfold fm_F; omega) (by omega) (by omega) (by rw [e7, hmm]; exact hr)
  rw [c1] at d1
  obtain rfl := Option.some.inj d1
  exact ⟨ma_i p', w1', d3, mr_mono d4 (by omega)⟩
theorem mg_wouldGet : ag_wouldGet mi_Inv := by
  intro t m x1 x2 ht h
  obtain ⟨n, hr⟩ := h.1
  have hn := mr_n hr
  have hn0 := hr.2.2.1
  unfold f_X6_wouldGet
  rw [ka_isBrother hr.2.1, Option.bind_some]
  have hB7 : ∀ m1 : fm_M, ma_w (m1 24) = ma_w (m 24) → f_X7_isBrother x1 m1 = some (ma_br n x1) := fun m1 e => kb_isBrother hn (by rw [e]; exact hn0)
  cases hb : ma_br n x1 with
  | false =>
    refine ⟨-11, m, m, rfl, ?_, mi_nx h⟩
    unfold f_X7_wouldGet
    rw [hB7 m rfl, Option.bind_some, hb]
    rfl
  | true =>
    obtain ⟨b, hb2, rfl⟩ := ma_br_of hn hb
    have hb16 : b < 16 := by omega
    rw [if_pos rfl]
    by_cases h0 : x2 < 0
    · rw [if_pos h0]
      refine ⟨-12, m, m, rfl, ?_, mi_nx h⟩
      unfold f_X7_wouldGet
      rw [hB7 m rfl, Option.bind_some, hb, if_pos rfl, kb_between, Option.bind_some, decide_eq_false (fun hh => hh h0), Bool.false_and, if_neg (by decide)]
    rw [if_neg h0]
    by_cases h6 : x2 ≤ (60 : Int32)
    · rw [if_pos h6]
      obtain ⟨y, hy, rfl⟩ := ma_of h0
      have hy6 : y ≤ 60 := (ma_le (b := 60) hy (by decide)).mp h6
      obtain ⟨m1, c1, c2, c3⟩ := mu_weeks hy6 (B := 700 * t) (by omega) hr
      have c1' : (f_X6_onTrial m).bind (fun v6 => (f_X0_after (ma_i y) v6).bind fun v8 => (f_X5_of 6 7 (6 : Int32) (ma_i b) v8).bind fun v10 => (f_X5_of 1 2 (6 : Int32) (ma_i b) v8).bind fun v12 => some ((v10 - v12), v8)) = some (ma_c (m1 7) 6 b - ma_c (m1 2) 6 b, m1) := by
        rw [← Option.bind_assoc, c1, Option.bind_some, ka_of6 hb16, Option.bind_some, ka_of6 hb16, Option.bind_some]
      rw [c1']
      have e24 : m1 24 = m 24 := c2 24 (by decide) (by decide) (by decide)
      have e2 : m1 2 = m 2 := c2 2 (by decide) (by decide) (by decide)
      have v24 : (fm_up m1 27 (va_cpy (m1 24) (m1 27) 0 0 320)) 24 = m 24 := by rw [ka_un _ (by decide), e24]
      have v27 : ma_w ((fm_up m1 27 (va_cpy (m1 24) (m1 27) 0 0 320)) 27) = ma_w (m 24) := by rw [ka_up, mt_cpw, e24]
      have vo : ∀ k, k ≠ 27 → (fm_up m1 27 (va_cpy (m1 24) (m1 27) 0 0 320)) k = m1 k := fun k hk => ka_un _ hk _
      have hth : f_X7_thinks m1 = some (fm_up m1 27 (va_cpy (m1 24) (m1 27) 0 0 320)) := kb_thinks
      generalize fm_up m1 27 (va_cpy (m1 24) (m1 27) 0 0 320) = mT at v24 v27 vo hth
      obtain ⟨p, w1, g1, g2⟩ := c3 mT (by rw [v24])
      refine ⟨_, m1, fm_up mT 24 (va_cpy (mT 27) w1 0 0 320), rfl, ?_, ?_⟩
      · unfold f_X7_wouldGet
        rw [hB7 m1 (by rw [e24]), Option.bind_some, hb, if_pos rfl, kb_between, Option.bind_some, decide_eq_true h0, Bool.true_and, decide_eq_true (Int32.not_lt.mpr h6), if_pos rfl, hth, Option.bind_some, kb_of6 hb16, Option.bind_some, g1, Option.bind_some, kb_of6 hb16, Option.bind_some, kb_forgets, Option.bind_some]
        simp only [ka_up, ma_pp]
        rw [ka_un _ (by decide), v24, e2, mr_col g2 (k := 6) (by decide) (by decide) (by decide) (by decide) hb2, mr_col hr (k := 6) (by decide) (by decide) (by decide) (by decide) hb2]
      · refine mi_nx (mi_cong h (fun k hk => ?_) ?_ (fun j _ => ?_))
        · rw [ka_un _ (by omega), vo k (by omega), c2 k (by omega) (by omega) (by omega)]
        · rw [ka_up, mt_cpw, v27]
        · rw [ka_un _ (by decide), vo 23 (by decide), c2 23 (by decide) (by decide) (by decide)]
    · rw [if_neg h6]
      refine ⟨-12, m, m, rfl, ?_, mi_nx h⟩
      unfold f_X7_wouldGet
      rw [hB7 m rfl, Option.bind_some, hb, if_pos rfl, kb_between, Option.bind_some, decide_eq_true h0, Bool.true_and, decide_eq_false (fun hh => h6 (Int32.not_lt.mp hh)), if_neg (by decide)]
theorem mg_chestIn : ag_chestIn mi_Inv := by
  intro t m x1 ht h
  obtain ⟨n, hr⟩ := h.1
  unfold f_X6_chestIn
  by_cases h0 : x1 < 0
  · rw [if_pos h0]
    refine ⟨-12, m, m, rfl, ?_, mi_nx h⟩
    unfold f_X7_chestIn
    rw [kb_between, Option.bind_some, decide_eq_false (fun hh => hh h0), Bool.false_and, if_neg (by decide)]
  rw [if_neg h0]
  by_cases h6 : x1 ≤ (60 : Int32)
  · rw [if_pos h6]
    obtain ⟨y, hy, rfl⟩ := ma_of h0
    have hy6 : y ≤ 60 := (ma_le (b := 60) hy (by decide)).mp h6
    obtain ⟨m1, c1, c2, c3⟩ := mu_weeks hy6 (B := 700 * t) (by omega) hr
    have c1' : (f_X6_onTrial m).bind (fun v3 => (f_X0_after (ma_i y) v3).bind fun v5 => (f_X5_get 6 7 (288 : Int32) v5).bind fun v7 => some (v7, v5)) = some (ma_c (m1 7) 16 4, m1) := by
      rw [← Option.bind_assoc, c1, Option.bind_some, ka_g4, Option.bind_some]
    rw [c1']
    have e24 : m1 24 = m 24 := c2 24 (by decide) (by decide) (by decide)
    have v24 : (fm_up m1 27 (va_cpy (m1 24) (m1 27) 0 0 320)) 24 = m 24 := by rw [ka_un _ (by decide), e24]
    have v27 : ma_w ((fm_up m1 27 (va_cpy (m1 24) (m1 27) 0 0 320)) 27) = ma_w (m 24) := by rw [ka_up, mt_cpw, e24]
    have vo : ∀ k, k ≠ 27 → (fm_up m1 27 (va_cpy (m1 24) (m1 27) 0 0 320)) k = m1 k := fun k hk => ka_un _ hk _
    have hth : f_X7_thinks m1 = some (fm_up m1 27 (va_cpy (m1 24) (m1 27) 0 0 320)) := kb_thinks
    generalize fm_up m1 27 (va_cpy (m1 24) (m1 27) 0 0 320) = mT at v24 v27 vo hth
    obtain ⟨p, w1, g1, g2⟩ := c3 mT (by rw [v24])
    refine ⟨_, m1, fm_up mT 24 (va_cpy (mT 27) w1 0 0 320), rfl, ?_, ?_⟩
    · unfold f_X7_chestIn
      rw [kb_between, Option.bind_some, decide_eq_true h0, Bool.true_and, decide_eq_true (Int32.not_lt.mpr h6), if_pos rfl, hth, Option.bind_some, g1, Option.bind_some, if_pos (show fm_in (3 : Int32) 320 = true by decide), kb_forgets, Option.bind_some]
      simp only [ka_up, ma_pp]
      rw [ka_un _ (by decide)]
      have e3 : w1 (3 : Int32).toNatClampNeg = ma_w w1 16 4 := rfl
      rw [e3, g2.2.2.2.1 4 (by decide) (by decide)]
    · refine mi_nx (mi_cong h (fun k hk => ?_) ?_ (fun j _ => ?_))
      · rw [ka_un _ (by omega), vo k (by omega), c2 k (by omega) (by omega) (by omega)]
      · rw [ka_up, mt_cpw, v27]
      · rw [ka_un _ (by decide), vo 23 (by decide), c2 23 (by decide) (by decide) (by decide)]
  · rw [if_neg h6]
    refine ⟨-12, m, m, rfl, ?_, mi_nx h⟩
    unfold f_X7_chestIn
    rw [kb_between, Option.bind_some, decide_eq_true h0, Bool.true_and, decide_eq_false (fun hh => h6 (Int32.not_lt.mp hh)), if_neg (by decide)]
theorem mu_char {c : Nat} (hc : c < 256) : vp_nar .char (((ma_i c).toUInt32 % 65536).toInt32) = ma_i c := by
  have key : ∀ c : Fin 256, vp_nar .char (((ma_i c.val).toUInt32 % 65536).toInt32) = ma_i c.val := by decide +kernel
  exact key ⟨c, hc⟩
theorem mu_add {p r n0 L : Nat} {m : fm_M} {x : Int32} (hpr : p ≠ r) (h1 : m p 1 = ma_i L) (hL : L < n0) (hn : n0 < 1000) : f_X4_add p r n0 x m = some (fm_up (fm_up m r (upd (m r) L x)) p (upd (m p) 1 (ma_i (L + 1)))) := by
  unfold f_X4_add
  have hle : ¬ (Int32.ofNat n0 ≤ ma_i L) := by
    have : ¬ ma_i n0 ≤ ma_i L := by rw [ma_le (by omega) (by omega)]; omega
    exact this
  rw [h1, if_neg (ma_nn (by omega)), if_neg hle, if_pos (ma_in hL (by omega)), ma_cn (by omega)]
  simp only [ma_put]
  rw [ka_un _ hpr, h1, ma_s1]
theorem mg_append : ag_append mi_Inv := by
  intro t m x1 ht h
  have h0 := h
  obtain ⟨hnow, hsv, hrs, hhi, ⟨L, hL, l1, l2, l3⟩, hln⟩ := h
  unfold f_X6_append
  by_cases c1 : x1 < (32 : Int32)
  · rw [if_pos c1]
    refine ⟨-12, m, m, rfl, ?_, mi_nx h0⟩
    unfold f_X7_append
    rw [kb_between, Option.bind_some, decide_eq_false (fun hh => hh c1), Bool.false_and, if_neg (by decide)]
  rw [if_neg c1]
  by_cases c2 : x1 ≤ (126 : Int32)
  · rw [if_pos c2]
    obtain ⟨c, hc, rfl⟩ := ma_of (show ¬ x1 < 0 from fun hh => c1 (Int32.lt_trans hh (by decide)))
    have hc1 : c ≤ 126 := (ma_le (b := 126) hc (by decide)).mp c2
    have hc2 : 32 ≤ c := by
      have : ¬ ma_i c < ma_i 32 := c1
      rw [ma_lt hc (by decide)] at this
      omega
    unfold f_X4_size
    rw [Option.bind_some, l1]
    have hx : ∀ m1 : fm_M, m1 23 = m 23 → f_X7_append (ma_i c) m1 = if (m 23 13) = (60 : Int32) then some ((-13 : Int32), m1) else (if fm_in (m 23 13) 60 = true then some (ma_i (L + 1), fm_up (fm_up m1 29 (upd (m1 29) L (ma_i c))) 23 (upd (m 23) 13 (ma_i (L + 1)))) else none) := by
      intro m1 e
      unfold f_X7_append
      rw [kb_between, Option.bind_some, decide_eq_true c1, Bool.true_and, decide_eq_true (Int32.not_lt.mpr c2), if_pos rfl, e, mu_char (by omega)]
      simp only [ma_put, l2]
      rw [ma_cn (by omega)]
      simp only [ka_up, ka_un _ (show (23 : Nat) ≠ 29 by decide), e, l2, ma_s1]
      have : upd (m 23) 13 (ma_i (L + 1)) 13 = ma_i (L + 1) := by unfold upd; rw [if_pos rfl]
      rw [this]
    by_cases hl : L < 60
    · rw [if_pos (show ma_i L < (60 : Int32) from (ma_lt (b := 60) (by omega) (by decide)).mpr hl), mu_add (by decide) l1 hl (by decide), Option.bind_some, Option.bind_some, ka_up]
      have u1 : upd (m 18) 1 (ma_i (L + 1)) 1 = ma_i (L + 1) := by unfold upd; rw [if_pos rfl]
      rw [u1]
      refine ⟨ma_i (L + 1), (fm_up (fm_up m 19 (upd (m 19) L (ma_i c))) 18 (upd (m 18) 1 (ma_i (L + 1)))), fm_up (fm_up (fm_up (fm_up m 19 (upd (m 19) L (ma_i c))) 18 (upd (m 18) 1 (ma_i (L + 1)))) 29 (upd ((fm_up (fm_up m 19 (upd (m 19) L (ma_i c))) 18 (upd (m 18) 1 (ma_i (L + 1)))) 29) L (ma_i c))) 23 (upd (m 23) 13 (ma_i (L + 1))), rfl, ?_, ?_⟩
      · rw [hx _ (by rw [ka_un _ (by decide), ka_un _ (by decide)]), l2, if_neg (fun hh => by have := (ma_inj (b := 60) (by omega) (by decide)).mp hh; omega), if_pos (ma_in hl (by omega))]
      · obtain ⟨nx, hh, fi, a1, a2, a3, a4, a5⟩ := hhi
        generalize hZ : fm_up (fm_up (fm_up (fm_up m 19 (upd (m 19) L (ma_i c))) 18 (upd (m 18) 1 (ma_i (L + 1)))) 29 (upd ((fm_up (fm_up m 19 (upd (m 19) L (ma_i c))) 18 (upd (m 18) 1 (ma_i (L + 1)))) 29) L (ma_i c))) 23 (upd (m 23) 13 (ma_i (L + 1))) = mZ
        have zo : ∀ k, k ≠ 18 → k ≠ 19 → k ≠ 23 → k ≠ 29 → mZ k = m k := fun k k18 k19 k23 k29 => by rw [← hZ, ka_un _ k23, ka_un _ k29, ka_un _ k18, ka_un _ k19]
        have z23 : mZ 23 = upd (m 23) 13 (ma_i (L + 1)) := by rw [← hZ, ka_up]
        have z18 : mZ 18 = upd (m 18) 1 (ma_i (L + 1)) := by rw [← hZ, ka_un _ (by decide), ka_un _ (by decide), ka_up]
        have z19 : mZ 19 = upd (m 19) L (ma_i c) := by rw [← hZ, ka_un _ (by decide), ka_un _ (by decide), ka_un _ (by decide), ka_up]
        have z29 : mZ 29 = upd (m 29) L (ma_i c) := by rw [← hZ, ka_un _ (by decide), ka_up, ka_un _ (by decide), ka_un _ (by decide)]
        have z23o : ∀ j, j ≠ 13 → mZ 23 j = m 23 j := fun j hj => by rw [z23]; unfold upd; rw [if_neg hj]
        refine mi_nx (t := t) ⟨?_, ?_, ?_, ⟨nx, hh, fi, ?_, ?_, ?_, ?_, ?_⟩, ⟨L + 1, by omega, ?_, ?_, ?_⟩, ?_⟩
        · rw [zo 2 (by decide) (by decide) (by decide) (by decide), zo 24 (by decide) (by decide) (by decide) (by decide)]; exact hnow
        · unfold mi_save at hsv ⊢
          rw [zo 0 (by decide) (by decide) (by decide) (by decide), zo 4 (by decide) (by decide) (by decide) (by decide), zo 26 (by decide) (by decide) (by decide) (by decide), z23o 10 (by decide)]; exact hsv
        · rw [zo 0 (by decide) (by decide) (by decide) (by decide), z23o 0 (by decide), z23o 1 (by decide)]; exact hrs
        · rw [zo 12 (by decide) (by decide) (by decide) (by decide)]; exact a1
        · rw [zo 12 (by decide) (by decide) (by decide) (by decide)]; exact a2
        · rw [z23o 8 (by decide)]; exact a3
        · rw [z23o 9 (by decide)]; exact a4
        · rw [zo 13 (by decide) (by decide) (by decide) (by decide), zo 25 (by decide) (by decide) (by decide) (by decide)]; exact a5
        · rw [z18]; unfold upd; rw [if_pos rfl]
        · rw [z23]; unfold upd; rw [if_pos rfl]
        · intro i hi
          rw [z19, z29]
          unfold upd
          by_cases e : i = L
          · rw [if_pos e, if_pos e]; exact ⟨rfl, c, hc2, hc1, rfl⟩
          · rw [if_neg e, if_neg e]; exact l3 i (by omega)
        · unfold mi_line at hln ⊢
          rw [zo 20 (by decide) (by decide) (by decide) (by decide), zo 21 (by decide) (by decide) (by decide) (by decide), zo 31 (by decide) (by decide) (by decide) (by decide), z23o 19 (by decide)]; exact hln
    · rw [if_neg (show ¬ ma_i L < (60 : Int32) from fun hh => hl ((ma_lt (b := 60) (by omega) (by decide)).mp hh))]
      refine ⟨-13, m, m, rfl, ?_, mi_nx h0⟩
      rw [hx m rfl, l2, if_pos (show ma_i L = (60 : Int32) from (ma_inj (b := 60) (by omega) (by decide)).mpr (by omega))]
  · rw [if_neg c2]
    refine ⟨-12, m, m, rfl, ?_, mi_nx h0⟩
    unfold f_X7_append
    rw [kb_between, Option.bind_some, decide_eq_true c1, Bool.true_and, decide_eq_false (fun hh => c2 (Int32.not_lt.mp hh)), if_neg (by decide)]
theorem mg_save : ag_save mi_Inv := by
  intro t m ht h
  have h0 := h
  obtain ⟨⟨n, hr⟩, hsv, hrs, ⟨nx, hh, fi, a1, a2, a3, a4, a5⟩, htx, hln⟩ := h
  unfold f_X6_save
  rw [mt_copyFrom, Option.bind_some, ka_g0, Option.bind_some]
  generalize hF : fm_put (fm_up m 4 (va_cpy (m 2) (m 4) 0 0 294)) 0 9 (1 : Int32) = mF
  have fo : ∀ k, k ≠ 0 → k ≠ 4 → mF k = m k := fun k k0 k4 => by rw [← hF, ma_put, ka_un _ k0, ka_un _ k4]
  have f0 : mF 0 = upd (m 0) 9 1 := by rw [← hF, ma_put, ka_up, ka_un _ (by decide)]
  have f4 : ma_c (mF 4) = ma_c (m 2) := by rw [← hF, ma_put, ka_un _ (by decide), ka_up, mt_cpc]
  refine ⟨ma_c (mF 2) 16 0, mF, fm_up (fm_up mF 26 (va_cpy (m 24) (mF 26) 0 0 320)) 23 (upd (mF 23) 10 1), rfl, ?_, ?_⟩
  · rw [kb_save, fo 2 (by decide) (by decide), fo 24 (by decide) (by decide)]
    have e : m 24 2 = ma_c (m 2) 16 0 := hr.2.2.1.trans hr.2.1.symm
    rw [e]
  · generalize hZ : fm_up (fm_up mF 26 (va_cpy (m 24) (mF 26) 0 0 320)) 23 (upd (mF 23) 10 1) = mZ
    have zo : ∀ k, k ≠ 0 → k ≠ 4 → k ≠ 23 → k ≠ 26 → mZ k = m k := fun k k0 k4 k23 k26 => by rw [← hZ, ka_un _ k23, ka_un _ k26, fo k k0 k4]
    have z0 : mZ 0 = upd (m 0) 9 1 := by rw [← hZ, ka_un _ (by decide), ka_un _ (by decide), f0]
    have z4 : ma_c (mZ 4) = ma_c (m 2) := by rw [← hZ, ka_un _ (by decide), ka_un _ (by decide), f4]
    have z26 : ma_w (mZ 26) = ma_w (m 24) := by rw [← hZ, ka_un _ (by decide), ka_up, mt_cpw]
    have z23 : mZ 23 = upd (m 23) 10 1 := by rw [← hZ, ka_up, fo 23 (by decide) (by decide)]
    have z23o : ∀ j, j ≠ 10 → mZ 23 j = m 23 j := fun j hj => by rw [z23]; unfold upd; rw [if_neg hj]
    have z0o : ∀ j, j ≠ 9 → mZ 0 j = m 0 j := fun j hj => by rw [z0]; unfold upd; rw [if_neg hj]
    refine mi_nx (t := t) ⟨⟨n, ?_⟩, Or.inr ⟨?_, ?_, n, ?_⟩, ?_, ⟨nx, hh, fi, ?_, ?_, ?_, ?_, ?_⟩, ?_, ?_⟩
    · rw [zo 2 (by decide) (by decide) (by decide) (by decide), zo 24 (by decide) (by decide) (by decide) (by decide)]; exact hr
    · rw [z0]; unfold upd; rw [if_pos rfl]; decide
    · rw [z23]; unfold upd; rw [if_pos rfl]; decide
    · rw [z4, z26]; exact hr
    · rw [z0o 10 (by decide), z0o 11 (by decide), z23o 0 (by decide), z23o 1 (by decide)]; exact hrs
    · rw [zo 12 (by decide) (by decide) (by decide) (by decide)]; exact a1
    · rw [zo 12 (by decide) (by decide) (by decide) (by decide)]; exact a2
    · rw [z23o 8 (by decide)]; exact a3
    · rw [z23o 9 (by decide)]; exact a4
    · rw [zo 13 (by decide) (by decide) (by decide) (by decide), zo 25 (by decide) (by decide) (by decide) (by decide)]; exact a5
    · unfold mi_text at htx ⊢
      rw [zo 18 (by decide) (by decide) (by decide) (by decide), zo 19 (by decide) (by decide) (by decide) (by decide), zo 29 (by decide) (by decide) (by decide) (by decide), z23o 13 (by decide)]; exact htx
    · unfold mi_line at hln ⊢
      rw [zo 20 (by decide) (by decide) (by decide) (by decide), zo 21 (by decide) (by decide) (by decide) (by decide), zo 31 (by decide) (by decide) (by decide) (by decide), z23o 19 (by decide)]; exact hln
theorem mg_restore : ag_restore mi_Inv := by
  intro t m ht h
  have h0 := h
  obtain ⟨⟨n, hr⟩, hsv, hrs, ⟨nx, hh, fi, a1, a2, a3, a4, a5⟩, htx, hln⟩ := h
  unfold f_X6_restore
  rcases hsv with ⟨s1, s2⟩ | ⟨s1, s2, n2, hr2⟩
  · rw [if_pos s1]
    refine ⟨-15, m, m, rfl, ?_, mi_nx h0⟩
    unfold f_X7_restore
    rw [if_pos s2]
  · rw [if_neg s1, mt_copyFrom, Option.bind_some]
    unfold f_X1_forget
    rw [Option.bind_some, ka_g0, Option.bind_some]
    generalize hF : fm_put (fm_up m 2 (va_cpy (m 4) (m 2) 0 0 294)) 12 2 (0 : Int32) = mF
    have fo : ∀ k, k ≠ 2 → k ≠ 12 → mF k = m k := fun k k2 k12 => by rw [← hF, ma_put, ka_un _ k12, ka_un _ k2]
    have f2 : ma_c (mF 2) = ma_c (m 4) := by rw [← hF, ma_put, ka_un _ (by decide), ka_up, mt_cpc]
    have f12 : mF 12 = upd (m 12) 2 0 := by rw [← hF, ma_put, ka_up, ka_un _ (by decide)]
    refine ⟨ma_c (mF 2) 16 0, mF, fm_up (fm_up mF 24 (va_cpy (mF 26) (mF 24) 0 0 320)) 23 (upd (upd (mF 23) 8 0) 9 0), rfl, ?_, ?_⟩
    · unfold f_X7_restore
      rw [if_neg (by rw [fo 23 (by decide) (by decide)]; exact s2), kb_restore_L]
      have e : va_cpy (mF 26) (mF 24) 0 0 320 2 = ma_c (mF 2) 16 0 := by
        have : va_cpy (mF 26) (mF 24) 0 0 320 2 = ma_w (va_cpy (mF 26) (mF 24) 0 0 320) 16 0 := rfl
        rw [this, mt_cpw, f2, fo 26 (by decide) (by decide)]
        exact hr2.2.2.1.trans hr2.2.1.symm
      rw [e]
    · generalize hZ : fm_up (fm_up mF 24 (va_cpy (mF 26) (mF 24) 0 0 320)) 23 (upd (upd (mF 23) 8 0) 9 0) = mZ
      have zo : ∀ k, k ≠ 2 → k ≠ 12 → k ≠ 23 → k ≠ 24 → mZ k = m k := fun k k2 k12 k23 k24 => by rw [← hZ, ka_un _ k23, ka_un _ k24, fo k k2 k12]
      have z2 : ma_c (mZ 2) = ma_c (m 4) := by rw [← hZ, ka_un _ (by decide), ka_un _ (by decide), f2]
      have z12 : mZ 12 = upd (m 12) 2 0 := by rw [← hZ, ka_un _ (by decide), ka_un _ (by decide), f12]
      have z24 : ma_w (mZ 24) = ma_w (m 26) := by rw [← hZ, ka_un _ (by decide), ka_up, mt_cpw, fo 26 (by decide) (by decide)]
      have z23 : mZ 23 = upd (upd (m 23) 8 0) 9 0 := by rw [← hZ, ka_up, fo 23 (by decide) (by decide)]
      have z23o : ∀ j, j ≠ 8 → j ≠ 9 → mZ 23 j = m 23 j := fun j h8 h9 => by rw [z23]; unfold upd; rw [if_neg h9, if_neg h8]
      refine mi_nx (t := t) ⟨⟨n2, ?_⟩, Or.inr ⟨?_, ?_, n2, ?_⟩, ?_, ⟨nx, 0, 0, ?_, ?_, ?_, ?_, by decide, a5.2.1, by decide, fun i hi => by omega⟩, ?_, ?_⟩
      · rw [z2, z24]; exact hr2
      · rw [zo 0 (by decide) (by decide) (by decide) (by decide)]; exact s1
      · rw [z23o 10 (by decide) (by decide)]; exact s2
      · rw [zo 4 (by decide) (by decide) (by decide) (by decide), zo 26 (by decide) (by decide) (by decide) (by decide)]; exact hr2
      · rw [zo 0 (by decide) (by decide) (by decide) (by decide), z23o 0 (by decide) (by decide), z23o 1 (by decide) (by decide)]; exact hrs
      · rw [z12]; unfold upd; rw [if_neg (by decide)]; exact a1
      · rw [z12]; unfold upd; rw [if_pos rfl]; rfl
      · rw [z23]; unfold upd; rw [if_neg (by decide), if_pos rfl]; rfl
      · rw [z23]; unfold upd; rw [if_pos rfl]; rfl
      · unfold mi_text at htx ⊢
        rw [zo 18 (by decide) (by decide) (by decide) (by decide), zo 19 (by decide) (by decide) (by decide) (by decide), zo 29 (by decide) (by decide) (by decide) (by decide), z23o 13 (by decide) (by decide)]; exact htx
      · unfold mi_line at hln ⊢
        rw [zo 20 (by decide) (by decide) (by decide) (by decide), zo 21 (by decide) (by decide) (by decide) (by decide), zo 31 (by decide) (by decide) (by decide) (by decide), z23o 19 (by decide) (by decide)]; exact hln

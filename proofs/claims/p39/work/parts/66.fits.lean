/-! fits -/
theorem lq_tr {m m1 m2 : fm_M} (h1 : lq_ok m m1) (h2 : lq_ok m1 m2) : lq_ok m m2 := ⟨h2.1.trans h1.1, h2.2.1, h2.2.2.trans h1.2.2⟩
theorem lf_cnt {B n K : Nat} {s t : ma_S} (hr : mr_rel B n s t) (hm : my_m K s) : ma_ct (fun b => decide (s 2 b = 0)) 16 + ma_ct (fun b => decide (s 2 b = 1)) 16 + ma_ct (fun b => decide (s 2 b = 2)) 16 + ma_ct (fun b => decide (s 2 b = 3)) 16 = n := by
  have hn := mr_n hr
  have hcut : ∀ x : Int32, x ≠ -1 → ma_ct (fun b => decide (s 2 b = x)) 16 = ma_ct (fun b => decide (s 2 b = x)) n := fun x hx => ma_ct_cut 16 hn (fun j h1 h2 => by
    rw [mr_new2 hr h1 h2]
    exact decide_eq_false (fun e => hx e.symm))
  rw [hcut 0 (by decide), hcut 1 (by decide), hcut 2 (by decide), hcut 3 (by decide)]
  have key : ∀ k, k ≤ n → ma_ct (fun b => decide (s 2 b = 0)) k + ma_ct (fun b => decide (s 2 b = 1)) k + ma_ct (fun b => decide (s 2 b = 2)) k + ma_ct (fun b => decide (s 2 b = 3)) k = k := by
    intro k
    induction k with
    | zero => intro _; rfl
    | succ k ih =>
      intro hk
      have ih := ih (by omega)
      rw [ma_ct_s, ma_ct_s, ma_ct_s, ma_ct_s]
      rcases hm.2.2.2.1 k (by omega) with e | e | e | e | ⟨e, e2⟩
      · rw [e, if_pos (by decide), if_neg (by decide), if_neg (by decide), if_neg (by decide)]; omega
      · rw [e, if_neg (by decide), if_pos (by decide), if_neg (by decide), if_neg (by decide)]; omega
      · rw [e, if_neg (by decide), if_neg (by decide), if_pos (by decide), if_neg (by decide)]; omega
      · rw [e, if_neg (by decide), if_neg (by decide), if_neg (by decide), if_pos (by decide)]; omega
      · rw [hr.2.1, ma_lt (by omega) (by omega)] at e2
        omega
  exact key n (Nat.le_refl n)
theorem lf_cond {k c : Nat} (hk : k < 1000) (hc : c < 1000) : 0 ≤ lg_cmp (ma_i k).toInt64 (ma_i c).toInt64 ↔ c ≤ k := by
  rw [lg_cmp_ge, ml_i (by omega), ml_i (by omega), ml_le (by omega) (by omega)]
theorem lf_le {x y : Int32} (h : y ≤ x) : 0 ≤ lg_cmp x.toInt64 y.toInt64 := by
  rw [lg_cmp_ge, Int64.le_iff_toInt_le, Int32.toInt_toInt64, Int32.toInt_toInt64]
  exact Int32.le_iff_toInt_le.mp h
theorem lf_neg {x : Int32} (h : x < 0) : lg_cmp x.toInt64 (0 : Int64) < 0 := by
  rw [← Int32.not_le, lg_cmp_ge, Int64.le_iff_toInt_le, Int32.toInt_toInt64]
  have := Int32.lt_iff_toInt_lt.mp h
  have z : (0 : Int32).toInt = 0 := rfl
  have z2 : (0 : Int64).toInt = 0 := rfl
  omega
theorem lf_nn {x : Int32} (h : ¬ x < 0) : 0 ≤ lg_cmp x.toInt64 (0 : Int64) := by
  rw [lg_cmp_ge, Int64.le_iff_toInt_le, Int32.toInt_toInt64]
  have := Int32.le_iff_toInt_le.mp (Int32.not_lt.mp h)
  have z : (0 : Int32).toInt = 0 := rfl
  have z2 : (0 : Int64).toInt = 0 := rfl
  omega
theorem lf_m11 (k : Nat) (hk : k < 1000) : (-11 : Int32) ≤ ma_i k := by
  refine Int32.le_trans (show (-11 : Int32) ≤ 0 by decide) ?_
  exact Int32.not_lt.mp (ma_nn (by omega))
theorem lf_rt (x : Int32) : (x.toInt64).toInt32 = x := Int32.toInt32_toInt64 x
/-- gowns in order, how brethren are, the seniors, and what comes -/
theorem lf_L179 {B n : Nat} {s : ma_S} (x : Int32) (hB : B + 600 < 1000000) (hn0 : 0 < n) (hv : lz_iv B n s) : ∀ (d k f : Nat) (m : fm_M), k + d = 17 → d < f → ma_c (m 2) = s → (∃ nx h, lz_h m nx h) → ∃ m1, f_L_fits_L179 f x (ma_i k) m = some (true, m1) ∧ lq_ok m m1 := by
  have hv0 := hv
  obtain ⟨⟨g, hr⟩, hm⟩ := hv
  have hn := mr_n hr
  have hC16 := ma_ct_le (fun b => decide (s 2 b = 1)) 16
  have hexit : ∀ (k f : Nat) (m : fm_M), k < 100 → ma_ct (fun b => decide (s 2 b = 1)) 16 ≤ k + 1 → ma_c (m 2) = s → (∃ nx h, lz_h m nx h) → ∃ m1, f_L_fits_L179 (f + 1) x (ma_i k) m = some (true, m1) ∧ lq_ok m m1 := by
    intro k f m hk hle hms ⟨nx, h, hh⟩
    rw [f_L_fits_L179, lr_a4, Option.bind_some, ma_s1, hms, if_pos ((lf_cond (by omega) (by omega)).mpr hle), lr_a3, Option.bind_some, Option.bind_some, lr_a5, Option.bind_some, lr_a6, Option.bind_some, lm_ac2 s hr.2.1 m hms, Option.bind_some, hms]
    have hc := lf_cnt hr hm
    have l0 := ma_ct_le (fun b => decide (s 2 b = 0)) 16
    have l2 := ma_ct_le (fun b => decide (s 2 b = 2)) 16
    have l3 := ma_ct_le (fun b => decide (s 2 b = 3)) 16
    rw [if_pos ((ml_eq _ _).mpr (by
      rw [ml_i (by omega), ml_i (by omega), ml_i (by omega), ml_i (by omega), ml_i (by omega), ← Int64.ofNat_add, ← Int64.ofNat_add, ← Int64.ofNat_add, hc])), Option.bind_some, lf_rt]
    obtain ⟨m1, a1, a2⟩ := lr_senior (m := m) (ma_i (ma_ct (fun b => decide (s 2 b = 1)) 16))
    rw [hms, rk_none (p := fun b => decide (s 2 b = 1)) (fun b hb => by rw [rk_kt_nn hr hb]; simp)] at a1
    rw [a1, Option.bind_some]
    dsimp only
    rw [if_pos ((ml_eq _ _).mpr (by decide))]
    have s1 : ma_c (m1 2) = s := by rw [a2 2 (by decide)]; exact hms
    obtain ⟨m2, b1, b2⟩ := la_ahead (m := m1) (x >>> ((3 : Int32) &&& 31)) hB hn0 (by rw [s1]; exact hv0) (lz_h_same hh (a2 12 (by decide)))
    rw [b1, Option.bind_some, if_pos rfl]
    exact ⟨m2, rfl, b2.1.trans (by rw [a2 2 (by decide)]), b2.2.1, b2.2.2.trans (a2 18 (by decide))⟩
  intro d
  induction d with
  | zero =>
    intro k f m hk hf hms hh
    obtain ⟨f, rfl⟩ : ∃ q, f = q + 1 := ⟨f - 1, by omega⟩
    exact hexit k f m (by omega) (by omega) hms hh
  | succ d ih =>
    intro k f m hk hf hms hh
    obtain ⟨f, rfl⟩ : ∃ q, f = q + 1 := ⟨f - 1, by omega⟩
    by_cases hle : ma_ct (fun b => decide (s 2 b = 1)) 16 ≤ k + 1
    · exact hexit k f m (by omega) hle hms hh
    · obtain ⟨nx, h, hh⟩ := hh
      rw [f_L_fits_L179, lr_a4, Option.bind_some, ma_s1, hms, if_neg (fun hz => hle ((lf_cond (by omega) (by omega)).mp hz))]
      obtain ⟨m1, a1, a2⟩ := lr_shabby (m := m) (ma_i k)
      rw [hms] at a1
      have s1 : ma_c (m1 2) = s := by rw [a2 2 (by decide)]; exact hms
      obtain ⟨m2, b1, b2⟩ := lr_shabby (m := m1) (ma_i (k + 1))
      rw [s1] at b1
      have s2 : ma_c (m2 2) = s := by rw [b2 2 (by decide)]; exact s1
      have hr1 : mr_rel B n (ma_c (m1 2)) (ma_w g) := by rw [s1]; exact hr
      have hr2 : mr_rel B n (ma_c (m2 2)) (ma_w g) := by rw [s2]; exact hr
      rw [a1, Option.bind_some]
      dsimp only
      rw [lf_rt, b1]
      have hgo : ∃ m3, f_L_fits_L179 f x (ma_i (k + 1)) m2 = some (true, m3) ∧ lq_ok m2 m3 := ih (k + 1) f m2 (by omega) (by omega) s2 ⟨nx, h, lz_h_same hh ((b2 12 (by decide)).trans (a2 12 (by decide)))⟩
      have hlq : ∀ m3, lq_ok m2 m3 → lq_ok m m3 := fun m3 h3 => ⟨h3.1.trans (by rw [s2, hms]), h3.2.1, h3.2.2.trans ((b2 18 (by decide)).trans (a2 18 (by decide)))⟩
      obtain ⟨m3, g1, g2⟩ := hgo
      have hcase : ∃ u w : Int32, f_L_brotherOf (mc_rank (mc_kg s) (ma_i k)) (4 : Int32) m1 = some u.toInt64 ∧ f_L_brotherOf (mc_rank (mc_kg s) (ma_i (k + 1))) (4 : Int32) m2 = some w.toInt64 ∧ w ≤ u := by
        rcases rk_two (rk_kg_d hr (by omega) hm.2.2.2.2) (k := k) (by omega) with ⟨e1, e2⟩ | ⟨a, b, ha, hb, e1, e2, n1, n2, hlt⟩
        · rw [e1]
          rcases e2 with e2 | ⟨a, ha, e2, n1⟩
          · rw [e2]
            exact ⟨-11, -11, lr_bN hr1 _, lr_bN hr2 _, Int32.le_refl _⟩
          · rw [e2]
            have hwa := (rk_kg_nn hr (by omega) ha).mp n1
            have han := rk_kg_in hr ha hwa
            obtain ⟨q, z, q1, q2, q3, _⟩ := mr_kg hr han hwa
            refine ⟨ma_i q, -11, ?_, lr_bN hr2 _, ?_⟩
            · rw [lr_b4 hr1 han (by rw [s1]; exact hwa), s1, q3]
            · refine Int32.le_trans (show (-11 : Int32) ≤ 0 by decide) (Int32.not_lt.mp (ma_nn (by omega)))
        · rw [e1, e2]
          have hwa := (rk_kg_nn hr (by omega) ha).mp n1
          have hwb := (rk_kg_nn hr (by omega) hb).mp n2
          obtain ⟨q, q', q1, q2, q3, q4, q5⟩ := rk_kg_lt hr (by omega) ha hb hwa hwb hlt
          refine ⟨ma_i q, ma_i q', ?_, ?_, (ma_le (by omega) (by omega)).mpr q5⟩
          · rw [lr_b4 hr1 (rk_kg_in hr ha hwa) (by rw [s1]; exact hwa), s1, q3]
          · rw [lr_b4 hr2 (rk_kg_in hr hb hwb) (by rw [s2]; exact hwb), s2, q4]
      obtain ⟨u, w, u1, u2, u3⟩ := hcase
      rw [u1, Option.bind_some, Option.bind_some]
      dsimp only
      rw [lf_rt, u2, Option.bind_some, if_pos (lf_le u3), g1]
      exact ⟨m3, rfl, hlq m3 g2⟩
/-- those who wait, by voices -/
theorem lf_L130 {B n : Nat} {s : ma_S} (x : Int32) (hB : B + 600 < 1000000) (hn0 : 0 < n) (hv : lz_iv B n s) : ∀ (d k f : Nat) (m : fm_M), k + d = 17 → d < f → ma_c (m 2) = s → (∃ nx h, lz_h m nx h) → ∃ m1, f_L_fits_L130 f x (ma_i k) m = some (true, m1) ∧ lq_ok m m1 := by
  have hv0 := hv
  obtain ⟨⟨g, hr⟩, hm⟩ := hv
  have hn := mr_n hr
  have hC16 := ma_ct_le (fun b => decide (s 2 b = 0)) 16
  have hexit : ∀ (k f : Nat) (m : fm_M), k < 100 → ma_ct (fun b => decide (s 2 b = 0)) 16 ≤ k + 1 → ma_c (m 2) = s → (∃ nx h, lz_h m nx h) → ∃ m1, f_L_fits_L130 (f + 1) x (ma_i k) m = some (true, m1) ∧ lq_ok m m1 := by
    intro k f m hk hle hms hh
    rw [f_L_fits_L130, lr_a3, Option.bind_some, ma_s1, hms, if_pos ((lf_cond (by omega) (by omega)).mpr hle)]
    exact lf_L179 x hB hn0 hv0 17 0 fm_F m (by decide) (by decide) hms hh
  intro d
  induction d with
  | zero =>
    intro k f m hk hf hms hh
    obtain ⟨f, rfl⟩ : ∃ q, f = q + 1 := ⟨f - 1, by omega⟩
    exact hexit k f m (by omega) (by omega) hms hh
  | succ d ih =>
    intro k f m hk hf hms hh
    obtain ⟨f, rfl⟩ : ∃ q, f = q + 1 := ⟨f - 1, by omega⟩
    by_cases hle : ma_ct (fun b => decide (s 2 b = 0)) 16 ≤ k + 1
    · exact hexit k f m (by omega) hle hms hh
    · obtain ⟨nx, h, hh⟩ := hh
      rw [f_L_fits_L130, lr_a3, Option.bind_some, ma_s1, hms, if_neg (fun hz => hle ((lf_cond (by omega) (by omega)).mp hz))]
      obtain ⟨m1, a1, a2⟩ := lr_ranked (m := m) (ma_i k)
      rw [hms] at a1
      have s1 : ma_c (m1 2) = s := by rw [a2 2 (by decide)]; exact hms
      obtain ⟨m2, b1, b2⟩ := lr_ranked (m := m1) (ma_i (k + 1))
      rw [s1] at b1
      have s2 : ma_c (m2 2) = s := by rw [b2 2 (by decide)]; exact s1
      have hr1 : mr_rel B n (ma_c (m1 2)) (ma_w g) := by rw [s1]; exact hr
      have hr2 : mr_rel B n (ma_c (m2 2)) (ma_w g) := by rw [s2]; exact hr
      rw [a1, Option.bind_some]
      dsimp only
      rw [lf_rt, b1]
      have hgo : ∃ m3, f_L_fits_L130 f x (ma_i (k + 1)) m2 = some (true, m3) ∧ lq_ok m2 m3 := ih (k + 1) f m2 (by omega) (by omega) s2 ⟨nx, h, lz_h_same hh ((b2 12 (by decide)).trans (a2 12 (by decide)))⟩
      have hlq : ∀ m3, lq_ok m2 m3 → lq_ok m m3 := fun m3 h3 => ⟨h3.1.trans (by rw [s2, hms]), h3.2.1, h3.2.2.trans ((b2 18 (by decide)).trans (a2 18 (by decide)))⟩
      obtain ⟨m3, g1, g2⟩ := hgo
      have hin : ∀ b, b < 16 → s 2 b = 0 → b < n := fun b hb hw => by
        by_cases q : b < n
        · exact q
        · rw [mr_new2 hr (by omega) hb] at hw; exact absurd hw (by decide)
      have hcase : ∃ u w : Int32, f_L_voices (mc_rank (mc_kv s) (ma_i k)) m1 = some u.toInt64 ∧ f_L_voices (mc_rank (mc_kv s) (ma_i (k + 1))) m2 = some w.toInt64 ∧ w ≤ u := by
        rcases rk_two (rk_kv_d (s := s)) (k := k) (by omega) with ⟨e1, e2⟩ | ⟨a, b, ha, hb, e1, e2, n1, n2, hlt⟩
        · rw [e1]
          rcases e2 with e2 | ⟨a, ha, e2, n1⟩
          · rw [e2]
            exact ⟨-11, -11, lr_voN hr1, lr_voN hr2, Int32.le_refl _⟩
          · rw [e2]
            have hwa := (rk_kv_nn ha).mp n1
            have v1 := mc_vo_le s a
            refine ⟨ma_i (mc_vo s a), -11, ?_, lr_voN hr2, lf_m11 _ (by omega)⟩
            rw [lr_vo hr1 (hin a ha hwa), s1]
        · rw [e1, e2]
          have hwa := (rk_kv_nn ha).mp n1
          have hwb := (rk_kv_nn hb).mp n2
          have v1 := mc_vo_le s a
          have v2 := mc_vo_le s b
          refine ⟨ma_i (mc_vo s a), ma_i (mc_vo s b), ?_, ?_, (ma_le (by omega) (by omega)).mpr (rk_kv_lt ha hb hwa hwb hlt)⟩
          · rw [lr_vo hr1 (hin a ha hwa), s1]
          · rw [lr_vo hr2 (hin b hb hwb), s2]
      obtain ⟨u, w, u1, u2, u3⟩ := hcase
      rw [u1, Option.bind_some, Option.bind_some]
      dsimp only
      rw [lf_rt, u2, Option.bind_some, if_pos (lf_le u3), g1]
      exact ⟨m3, rfl, hlq m3 g2⟩
/-- one by one -/
theorem lf_L25 {B n : Nat} {s : ma_S} (x : Int32) (hB : B + 600 < 1000000) (hn0 : 0 < n) (hv : lz_iv B n s) : ∀ (d k f : Nat) (m : fm_M), k + d = n → d < f → ma_c (m 2) = s → (∃ nx h, lz_h m nx h) → ∃ m1, f_L_fits_L25 f x (ma_i k) m = some (true, m1) ∧ lq_ok m m1 := by
  have hv0 := hv
  obtain ⟨⟨g, hr⟩, hm⟩ := hv
  have hn := mr_n hr
  intro d
  induction d with
  | zero =>
    intro k f m hk hf hms hh
    obtain ⟨f, rfl⟩ : ∃ q, f = q + 1 := ⟨f - 1, by omega⟩
    rw [f_L_fits_L25, lm_ac2 s hr.2.1 m hms, Option.bind_some, if_pos ((lf_cond (by omega) (by omega)).mpr (by omega))]
    exact lf_L130 x hB hn0 hv0 17 0 fm_F m (by decide) (by decide) hms hh
  | succ d ih =>
    intro k f m hk hf hms hh
    obtain ⟨f, rfl⟩ : ∃ q, f = q + 1 := ⟨f - 1, by omega⟩
    obtain ⟨nx, h, hh⟩ := hh
    have hkn : k < n := by omega
    have hr0 : mr_rel B n (ma_c (m 2)) (ma_w g) := by rw [hms]; exact hr
    rw [f_L_fits_L25, lm_ac2 s hr.2.1 m hms, Option.bind_some, if_neg (fun hz => by have := (lf_cond (by omega) (by omega)).mp hz; omega), lr_vo hr0 hkn, Option.bind_some]
    obtain ⟨m1, a1, a2⟩ := lr_again hr0 hkn
    have s1 : ma_c (m1 2) = s := by rw [a2 2 (by decide)]; exact hms
    have hr1 : mr_rel B n (ma_c (m1 2)) (ma_w g) := by rw [s1]; exact hr
    rw [a1, Option.bind_some]
    dsimp only
    rw [if_pos ((ml_eq _ _).mpr rfl), lr_b3 hr1 hkn, Option.bind_some, s1, ma_s1]
    obtain ⟨m3, g1, g2⟩ := ih (k + 1) f m1 (by omega) (by omega) s1 ⟨nx, h, lz_h_same hh (a2 12 (by decide))⟩
    have hlq : ∀ m3, lq_ok m1 m3 → lq_ok m m3 := fun m3 h3 => ⟨h3.1.trans (by rw [s1, hms]), h3.2.1, h3.2.2.trans (a2 18 (by decide))⟩
    have hce := hr.2.2.2.2.2.2.2.2.2.2.2.2.2.2.1 k hkn
    -- the bit
    have hent : ∃ m4, (f_L_entitled m1).bind (fun v63 => if (lg_cmp ((v63 >>> ((ma_i k).toInt64 &&& 63)) &&& (1 : Int64)) (1 : Int64)) = 0 then ((f_L_brotherOf (ma_i k) (5 : Int32) m1).bind fun v66 => if (lg_cmp v66 (0 : Int64)) = 0 then (if 0 ≤ (lg_cmp (s 3 k).toInt64 (0 : Int64)) then (f_L_fits_L25 f x (ma_i (k + 1)) m1) else (some (false, m1))) else (some (false, m1))) else (f_L_fits_L25 f x (ma_i (k + 1)) m1)) = some (true, m4) ∧ lq_ok m m4 := by
      rw [lr_ent, Option.bind_some, s1]
      by_cases hbit : (lg_cmp (((lb_E s).toInt64 >>> ((ma_i k).toInt64 &&& 63)) &&& (1 : Int64)) (1 : Int64)) = 0
      · have hb := (lb_E_bit (show k < 32 by omega)).mp (lb_long (by omega) ((ml_eq _ _).mp hbit))
        obtain ⟨c, c1, c2, _⟩ := hce.1 hb.2.1
        rw [if_pos hbit, lr_b5 hr1 hkn, Option.bind_some, s1, hb.2.2, if_pos ((ml_eq _ _).mpr (by decide)), if_pos (lf_nn (by rw [c2]; exact ma_nn (by omega))), g1]
        exact ⟨m3, rfl, hlq m3 g2⟩
      · rw [if_neg hbit, g1]
        exact ⟨m3, rfl, hlq m3 g2⟩
    by_cases hw : s 2 k = 1
    · obtain ⟨c, c1, c2, c3, c4⟩ := hce.1 hw
      have hnn : ¬ s 3 k < 0 := by rw [c2]; exact ma_nn (by omega)
      rw [if_neg (fun hz => absurd (lf_nn hnn) (Int32.not_le.mpr hz)), lf_rt]
      have hin : f_L_inCell (s 3 k) m1 = some (ma_i k).toInt64 := by
        rw [c2, lr_in c1, s1, c4]
      rw [hin, Option.bind_some, if_pos ((ml_eq _ _).mpr rfl), lr_b2 hr1 hkn, Option.bind_some, s1, hw, if_pos ((ml_eq _ _).mpr (by decide))]
      exact hent
    · rw [if_pos (lf_neg (by rw [hce.2 hw]; decide))]
      exact hent
theorem lf_fits {B n nx h : Nat} {m : fm_M} (x : Int32) (hB : B + 600 < 1000000) (hn0 : 0 < n) (hv : lz_iv B n (ma_c (m 2))) (hh : lz_h m nx h) : ∃ m1, f_L_fits x m = some (true, m1) ∧ lq_ok m m1 := by
  have hv0 := hv
  obtain ⟨⟨g, hr⟩, hm⟩ := hv
  unfold f_L_fits
  have hn := mr_n hr
  rw [lr_balanced hr hm, Option.bind_some, if_pos ((ml_eq _ _).mpr rfl), lr_ent, Option.bind_some, lr_ent2 hr, Option.bind_some, if_pos ((ml_eq _ _).mpr rfl)]
  exact lf_L25 x hB hn0 hv0 n 0 fm_F m (by omega) (by unfold fm_F; omega) rfl ⟨nx, h, hh⟩

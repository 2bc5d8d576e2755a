/-! six brethren, two chosen, a feast -/
theorem lb_come {B n : Nat} {m : fm_M} (x2 : Int32) {j : Nat} (hB : B + 600 < 1000000) (hn : n < 16) (hj : j < 41) (hI : lw_I B n m) : ∃ r m1, f_L_come ((50 : Int32) + ma_i j) x2 m = some (r, m1) ∧ lw_I (B + 6000) (n + 1) m1 := by
  obtain ⟨⟨⟨g, hr⟩, hm⟩, ⟨nx, h, hh⟩, h18⟩ := hI
  obtain ⟨h1, h2, h3, h4⟩ := hh
  have e50 : (50 : Int32) + ma_i j = ma_i (50 + j) := ma_add 50 j
  unfold f_L_come f_X6_come
  rw [e50, mt_onTrial, Option.bind_some]
  have e7 : ma_c ((fm_up m 7 (va_cpy (m 2) (m 7) 0 0 294)) 7) = ma_c (m 2) := by rw [ka_up, mt_cpc]
  have ef : ∀ k, k ≠ 7 → (fm_up m 7 (va_cpy (m 2) (m 7) 0 0 294)) k = m k := fun k hk => ka_un m hk _
  generalize fm_up m 7 (va_cpy (m 2) (m 7) 0 0 294) = m0 at e7 ef
  have hadm : ∃ kin, f_X0_admit (ma_i (50 + j)) x2 m0 = some (ma_i n, fm_up m0 7 (mo_cms (m0 7) n (ma_i (50 + j)) kin)) := by
    unfold f_X0_admit
    rw [if_neg (show ¬ ma_i (50 + j) < (50 : Int32) from fun hh => by have := (ma_lt (b := 50) (by omega) (by decide)).mp hh; omega), if_pos (show ma_i (50 + j) ≤ (90 : Int32) from (ma_le (b := 90) (by omega) (by decide)).mpr (by omega)), ka_g0, Option.bind_some, e7, hr.2.1, if_pos (show ma_i n < (16 : Int32) from (ma_lt (b := 16) (by omega) (by decide)).mpr hn)]
    simp only [ka_t0, ka_so0 hn, ka_so1 hn, ka_so2 hn, Option.bind_some, ka_up, ma_pp, ma_s1]
    by_cases hx : x2 = 0
    · rw [if_pos hx]; exact ⟨0, rfl⟩
    · rw [if_neg hx]; exact ⟨1, rfl⟩
  obtain ⟨kin, hadm⟩ := hadm
  rw [hadm, Option.bind_some]
  dsimp only
  have hr7 : mr_rel B n (ma_c (m0 7)) (ma_w g) := by rw [e7]; exact hr
  have hrel := mo_cm (x := ma_i (50 + j)) (kin := kin) hr7 (by omega) hn
  have hmy := my_cm (x := ma_i (50 + j)) (kin := kin) hr7 hn B (by rw [e7]; exact hm)
  have e1 : ∀ k, k ≠ 7 → (fm_up m0 7 (mo_cms (m0 7) n (ma_i (50 + j)) kin)) k = m k := fun k hk => (ka_un _ hk _).trans (ef k hk)
  have e17 : (fm_up m0 7 (mo_cms (m0 7) n (ma_i (50 + j)) kin)) 7 = mo_cms (m0 7) n (ma_i (50 + j)) kin := ka_up _ _ _
  generalize fm_up m0 7 (mo_cms (m0 7) n (ma_i (50 + j)) kin) = m1 at e1 e17
  have e12 := e1 12 (by decide)
  obtain ⟨mF, s1, s2, s3, s4, s5⟩ := mt_setO (m1 := m1) (a := ma_i n) (ma_nn (by omega)) h1 h2 (by rw [e12]; exact h3) (by rw [e12]; exact h4)
  rw [s1]
  refine ⟨_, mF, rfl, ⟨⟨mo_cmw g n (ma_i (50 + j)) kin, ?_⟩, ?_⟩, ⟨(nx + 1) % 8, (if h = 8 then 7 else h) + 1, Nat.mod_lt _ (by decide), by split <;> omega, ?_, ?_⟩, ?_⟩
  · rw [s3, e17]; exact mr_mono hrel (by omega)
  · rw [s3, e17]; exact my_mono (by omega) hmy
  · rw [s4]; unfold upd; rw [if_neg (by decide), if_pos rfl]
  · rw [s4]; unfold upd; rw [if_pos rfl]
  · rw [s2 18 (by decide) (by decide) (by decide), e1 18 (by decide)]
    exact h18
theorem lb_c {B n : Nat} {m : fm_M} {F : Option (Int64 × fm_M)} (hI : lw_I B n m) (hc : lz_c B n m F) : ∃ r m1 n2, F = some (r, m1) ∧ n ≤ n2 ∧ lw_I (B + 6000) n2 m1 := by
  obtain ⟨r, m1, a1, a2, _, a3⟩ := hc
  obtain ⟨n2, h1, h2⟩ := lw_next hI (by rw [a2]; exact hI.2.2) a3
  exact ⟨_, m1, n2, a1, h1, h2⟩
theorem lb_L10 {L : Nat} {xs : Nat → Int32} (hL : L ≤ 260) : ∀ (d k f : Nat) (m : fm_M), k + d = 6 → d < f → lw_I (6000 * k) k m → ∃ m2, f_L_law_L10 L xs f (ma_i k) m = some (true, m2) := by
  intro d
  induction d with
  | zero =>
    intro k f m hk hf hI
    obtain ⟨f, rfl⟩ : ∃ q, f = q + 1 := ⟨f - 1, by omega⟩
    have e : k = 6 := by omega
    subst e
    rw [f_L_law_L10, if_pos ma_g1]
    obtain ⟨nx, h, hh⟩ := hI.2.1
    obtain ⟨r1, m1, n1, a1, a2, a3⟩ := lb_c hI (lz_choose (0 : Int32) (by omega) hI.1 hh)
    rw [a1, Option.bind_some]
    dsimp only
    obtain ⟨nx1, h1, hh1⟩ := a3.2.1
    obtain ⟨r2, m2, n2, b1, b2, b3⟩ := lb_c a3 (lz_choose (1 : Int32) (by omega) a3.1 hh1)
    rw [b1, Option.bind_some]
    dsimp only
    obtain ⟨v, hv⟩ := lw_cell (xs := xs) hL (2 : Int32) (by decide) m2
    obtain ⟨p, _, hp⟩ := lz_pick v (20 : Int32) (k := 20) rfl (by decide) (by decide) m2
    obtain ⟨q, _, hq⟩ := lz_pick (v >>> ((5 : Int32) &&& 31)) (9 : Int32) (k := 9) rfl (by decide) (by decide) m2
    rw [hv, Option.bind_some, hp, Option.bind_some, Option.bind_some, hq, Option.bind_some]
    obtain ⟨nx2, h2, hh2⟩ := b3.2.1
    obtain ⟨r3, m3, n3, c1, c2, c3⟩ := lb_c b3 (lz_feast (ma_i p) ((1 : Int32) + ma_i q) b3.1 hh2)
    rw [c1, Option.bind_some]
    exact lw_L104 hL 27 3 fm_F n3 m3 (by decide) (by decide) (by omega) (lw_mono (by omega) c3)
  | succ d ih =>
    intro k f m hk hf hI
    obtain ⟨f, rfl⟩ : ∃ q, f = q + 1 := ⟨f - 1, by omega⟩
    obtain ⟨v, hv⟩ := lw_cell (xs := xs) hL (0 : Int32) (by decide) m
    obtain ⟨w, hw⟩ := lw_cell (xs := xs) hL (1 : Int32) (by decide) m
    obtain ⟨p, hp0, hp⟩ := lz_pick (v >>> (ma_i k &&& 31)) (41 : Int32) (k := 41) rfl (by decide) (by decide) m
    obtain ⟨q, _, hq⟩ := lz_pick (w >>> (ma_i k &&& 31)) (2 : Int32) (k := 2) rfl (by decide) (by decide) m
    have hgo : ∀ x2 : Int32, ∃ m2, ((f_L_come ((50 : Int32) + ma_i p) x2 m).bind fun v240 => f_L_law_L10 L xs f (ma_i k + (1 : Int32)) v240.2) = some (true, m2) := by
      intro x2
      obtain ⟨r, m1, a1, a2⟩ := lb_come x2 (by omega) (by omega) hp0 hI
      rw [a1, Option.bind_some, ma_s1]
      exact ih (k + 1) f m1 (by omega) (by omega) (lw_mono (by omega) a2)
    rw [f_L_law_L10, if_neg (ma_g0 (a := 6) (by omega) (by decide)), hv, Option.bind_some, hp, Option.bind_some, hw, Option.bind_some, hq, Option.bind_some]
    split
    · exact hgo 1
    · exact hgo 0
theorem lb_law {L : Nat} {xs : Nat → Int32} (hL : L ≤ 260) : ∃ m2, f_L_law L xs fs_m = some (true, m2) := by
  unfold f_L_law
  exact lb_L10 hL 6 0 fm_F fs_m (by decide) (by decide) (lw_mono (by omega) fs_I)

/-! THE LAW'S LOOP -/
theorem lw_cell {L : Nat} {xs : Nat → Int32} (hL : L ≤ 260) (x : Int32) (hx : ¬ x < 0) (m : fm_M) : ∃ r, f_L_cell L xs x m = some r := by
  unfold f_L_cell
  obtain ⟨k, hk, rfl⟩ := ma_of hx
  by_cases h : Int32.ofNat L ≤ ma_i k
  · rw [if_pos h]; exact ⟨_, rfl⟩
  · have hkL : k < L := by
      by_cases q : k < L
      · exact q
      · exact absurd ((ma_le (a := L) (by omega) hk).mpr (by omega)) h
    rw [if_neg h, if_pos (ma_in hkL (by omega))]
    exact ⟨_, rfl⟩
/-- the state of the loop -/
def lw_I (B n : Nat) (m : fm_M) : Prop := lz_iv B n (ma_c (m 2)) ∧ (∃ nx h, lz_h m nx h) ∧ m 18 1 = ma_i 0
theorem lw_I_of {B n : Nat} {m m1 : fm_M} (h : lw_I B n m) (h1 : lq_ok m m1) : lw_I B n m1 := ⟨by rw [h1.1]; exact h.1, h1.2.1, by rw [h1.2.2]; exact h.2.2⟩
theorem lw_mono {B B2 n : Nat} {m : fm_M} (hB : B ≤ B2) (h : lw_I B n m) : lw_I B2 n m := by
  obtain ⟨⟨⟨g, hr⟩, hm⟩, h2⟩ := h
  exact ⟨⟨⟨g, mr_mono hr hB⟩, my_mono hB hm⟩, h2⟩
theorem lw_64 (r : Int32) : (0 ≤ lg_cmp r.toInt64 (0 : Int64)) ↔ ¬ r < 0 := by
  constructor
  · intro h hr
    exact absurd h (Int32.not_le.mpr (lf_neg hr))
  · exact lf_nn
theorem lw_64n (r : Int32) : (lg_cmp r.toInt64 (0 : Int64) < 0) ↔ r < 0 := by
  constructor
  · intro h
    by_cases hr : r < 0
    · exact hr
    · exact absurd (lf_nn hr) (Int32.not_le.mpr h)
  · exact lf_neg
/-- the third: fits -/
def lw_t4 (L : Nat) (xs : Nat → Int32) (n : Nat) (y2 v17 : Int32) (m : fm_M) : Option (Bool × fm_M) := if (y2 - y2 / (4 : Int32) * (4 : Int32)) = (1 : Int32) then ((f_L_fits (v17 >>> ((3 : Int32) &&& 31)) m).bind fun v56 => if v56.1 = true then (f_L_law_L104 L xs n (y2 + (1 : Int32)) v56.2) else (some (false, v56.2))) else (f_L_law_L104 L xs n (y2 + (1 : Int32)) m)
/-- the second: the snapshot -/
def lw_t5 (L : Nat) (xs : Nat → Int32) (n : Nat) (y2 v17 : Int32) (m : fm_M) : Option (Bool × fm_M) := if (y2 - y2 / (5 : Int32) * (5 : Int32)) = 0 then ((f_L_mark m).bind fun v35 => (f_L_save m).bind fun v37 => (f_L_account (2 : Int32) v37.2).bind fun v39 => if (lg_cmp v37.1 v39) = 0 then ((f_L_acts (v17 + (1 : Int32)) v37.2).bind fun v42 => (f_L_restore v42.2).bind fun v44 => (f_L_account (2 : Int32) v44.2).bind fun v46 => if (lg_cmp v44.1 v46) = 0 then ((f_L_mark v44.2).bind fun v49 => if (lg_cmp v49 v35) = 0 then ((f_L_undo v44.2).bind fun v52 => if (lg_cmp v52.1 (-15 : Int64)) = 0 then lw_t4 L xs n y2 v17 v52.2 else (some (false, v52.2))) else (some (false, v44.2))) else (some (false, v44.2))) else (some (false, v37.2))) else lw_t4 L xs n y2 v17 m
/-- the first: undone, and done again -/
def lw_t3 (L : Nat) (xs : Nat → Int32) (n : Nat) (y2 v17 : Int32) (v19 v21 v23 : Int64) (m : fm_M) : Option (Bool × fm_M) := if (lg_cmp v23 (0 : Int64)) < 0 then lw_t5 L xs n y2 v17 m else (if (y2 - y2 / (3 : Int32) * (3 : Int32)) = 0 then ((f_L_undo m).bind fun v89 => if (lg_cmp v89.1 (if (7 : Int64) < v21 then (7 : Int64) else v21)) = 0 then ((f_L_mark v89.2).bind fun v92 => if (lg_cmp v92 v19) = 0 then ((f_L_acts v17 v89.2).bind fun v95 => lw_t5 L xs n y2 v17 v95.2) else (some (false, v89.2))) else (some (false, v89.2))) else lw_t5 L xs n y2 v17 m)
def lw_t1 (L : Nat) (xs : Nat → Int32) (n : Nat) (y2 : Int32) (m : fm_M) : Option (Bool × fm_M) := (f_L_cell L xs y2 m).bind fun v17 => (f_L_mark m).bind fun v19 => (f_L_account (16 : Int32) m).bind fun v21 => (f_L_acts v17 m).bind fun v23 => if 0 ≤ (lg_cmp v23.1 (0 : Int64)) then ((f_L_account (15 : Int32) v23.2).bind fun v26 => if (lg_cmp v26 (0 : Int64)) = 0 then lw_t3 L xs n y2 v17 v19 v21 v23.1 v23.2 else (some (false, v23.2))) else ((f_L_mark v23.2).bind fun v126 => if (lg_cmp v126 v19) = 0 then ((f_L_account (15 : Int32) v23.2).bind fun v129 => if (lg_cmp v129 (0 : Int64)) = 0 then lw_t3 L xs n y2 v17 v19 v21 v23.1 v23.2 else (some (false, v23.2))) else (some (false, v23.2)))
theorem lw_body (L : Nat) (xs : Nat → Int32) (n : Nat) (y2 : Int32) (m : fm_M) : f_L_law_L104 L xs (n + 1) y2 m = if (30 : Int32) ≤ y2 then (some (true, m)) else lw_t1 L xs n y2 m := by
  rw [f_L_law_L104]
  rfl
theorem lw_t4_ok {L : Nat} {xs : Nat → Int32} {f B n k : Nat} {v17 : Int32} {m : fm_M} (hB : B + 600 < 1000000) (hn0 : 6 ≤ n) (hI : lw_I B n m) (ih : ∀ m1, lw_I B n m1 → ∃ m2, f_L_law_L104 L xs f (ma_i (k + 1)) m1 = some (true, m2)) : ∃ m2, lw_t4 L xs f (ma_i k) v17 m = some (true, m2) := by
  unfold lw_t4
  rw [ma_s1]
  by_cases h4 : ma_i k - ma_i k / (4 : Int32) * (4 : Int32) = (1 : Int32)
  · rw [if_pos h4]
    obtain ⟨nx, h, hh⟩ := hI.2.1
    obtain ⟨m1, a1, a2⟩ := lf_fits (v17 >>> ((3 : Int32) &&& 31)) hB (by omega) hI.1 hh
    rw [a1, Option.bind_some, if_pos rfl]
    exact ih m1 (lw_I_of hI a2)
  · rw [if_neg h4]
    exact ih m hI
theorem lw_acts {B n : Nat} {m : fm_M} (x : Int32) (hB : B + 600 < 1000000) (hI : lw_I B n m) : ∃ r m1, f_L_acts x m = some (r.toInt64, m1) ∧ m1 18 1 = ma_i 0 ∧ lz_s B n m r m1 := by
  obtain ⟨nx, h, hh⟩ := hI.2.1
  exact lz_acts x hB hI.1 hh hI.2.2
theorem lw_h_of {B n : Nat} {m m1 : fm_M} {r : Int32} (hI : lw_I B n m) (hs : lz_s B n m r m1) : ∃ nx h, lz_h m1 nx h := by
  rcases hs.2 with ⟨_, _, e12, _⟩ | ⟨_, ⟨nx, h, _, b, _⟩, _⟩
  · obtain ⟨nx, h, hh⟩ := hI.2.1
    exact ⟨nx, h, lz_h_same hh e12⟩
  · exact ⟨_, _, b⟩
theorem lw_t5_ok {L : Nat} {xs : Nat → Int32} {f B n k : Nat} {v17 : Int32} {m : fm_M} (hB : B + 600 < 1000000) (hn0 : 6 ≤ n) (hI : lw_I B n m) (ih : ∀ m1, lw_I B n m1 → ∃ m2, f_L_law_L104 L xs f (ma_i (k + 1)) m1 = some (true, m2)) : ∃ m2, lw_t5 L xs f (ma_i k) v17 m = some (true, m2) := by
  unfold lw_t5
  by_cases h5 : ma_i k - ma_i k / (5 : Int32) * (5 : Int32) = 0
  · rw [if_pos h5]
    have hI0 := hI
    obtain ⟨⟨⟨g, hr⟩, hm⟩, ⟨nx, h, hh⟩, h18⟩ := hI
    obtain ⟨r, hmark⟩ := lm_mark hr
    obtain ⟨m1, a1, a2, a3, a4⟩ := lz_save (m := m)
    have es : f_L_save m = some ((ma_c (m 2) 16 0).toInt64, m1) := by unfold f_L_save; rw [a1]; rfl
    have s1 : ma_c (m1 2) = ma_c (m 2) := by rw [a2 2 (by decide) (by decide)]
    have hI1 : lw_I B n m1 := ⟨by rw [s1]; exact hI0.1, ⟨nx, h, lz_h_same hh (a2 12 (by decide) (by decide))⟩, by rw [a2 18 (by decide) (by decide)]; exact h18⟩
    rw [hmark m rfl, Option.bind_some, es, Option.bind_some]
    dsimp only
    rw [lm_ac2 _ hr.2.1 m1 s1, Option.bind_some, hr.2.1, if_pos ((ml_eq _ _).mpr rfl)]
    obtain ⟨q, m2, b1, b2, b3⟩ := lw_acts (v17 + (1 : Int32)) hB hI1
    obtain ⟨nx2, h2, hh2⟩ := lw_h_of hI1 b3
    obtain ⟨f4, f9⟩ := b3.1
    obtain ⟨m3, c1, c2, c3, c4⟩ := lz_restore hh2 (by rw [f9]; exact a4)
    have s3 : ma_c (m3 2) = ma_c (m 2) := by rw [c3, f4]; exact a3
    have er : f_L_restore m2 = some ((ma_c (m2 4) 16 0).toInt64, m3) := by unfold f_L_restore; rw [c1]; rfl
    rw [b1, Option.bind_some]
    dsimp only
    rw [er, Option.bind_some]
    dsimp only
    rw [lm_ac2 _ hr.2.1 m3 s3, Option.bind_some, f4, a3, hr.2.1, if_pos ((ml_eq _ _).mpr rfl), hmark m3 s3, Option.bind_some, if_pos ((ml_eq _ _).mpr rfl)]
    have eu : f_L_undo m3 = some ((-15 : Int32).toInt64, m3) := by unfold f_L_undo; rw [lz_undo0 c4]; rfl
    rw [eu, Option.bind_some]
    dsimp only
    rw [if_pos ((ml_eq _ _).mpr (by decide))]
    refine lw_t4_ok hB hn0 ⟨by rw [s3]; exact hI0.1, ⟨_, _, c4⟩, ?_⟩ ih
    rw [c2 18 (by decide) (by decide)]
    exact b2
  · rw [if_neg h5]
    exact lw_t4_ok hB hn0 hI ih
theorem lw_min (h : Nat) (hh : h ≤ 8) : (if (7 : Int64) < (ma_i h).toInt64 then (7 : Int64) else (ma_i h).toInt64) = (ma_i (min h 7)).toInt64 := by
  have hd : ∀ h : Fin 9, (if (7 : Int64) < (ma_i h.val).toInt64 then (7 : Int64) else (ma_i h.val).toInt64) = (ma_i (min h.val 7)).toInt64 := by decide +kernel
  exact hd ⟨h, by omega⟩
/-- behind an act that carried on -/
theorem lw_next {B n : Nat} {m m1 : fm_M} {r : Int32} (hI : lw_I B n m) (h18 : m1 18 1 = ma_i 0) (hs : lz_s B n m r m1) : ∃ n2, n ≤ n2 ∧ lw_I (B + 6000) n2 m1 := by
  have hh := lw_h_of hI hs
  rcases hs.2 with ⟨_, e2, _, _⟩ | ⟨_, _, n2, hle, hv⟩
  · have := lw_mono (B2 := B + 6000) (by omega) hI
    exact ⟨n, Nat.le_refl n, by rw [e2]; exact this.1, hh, h18⟩
  · exact ⟨n2, hle, hv, hh, h18⟩
theorem lw_t1_ok {L : Nat} {xs : Nat → Int32} {f B n k : Nat} {m : fm_M} (hL : L ≤ 260) (hk : k < 1000) (hB : B + 6600 < 1000000) (hn0 : 6 ≤ n) (hI : lw_I B n m) (ih : ∀ n2 m1, 6 ≤ n2 → lw_I (B + 6000) n2 m1 → ∃ m2, f_L_law_L104 L xs f (ma_i (k + 1)) m1 = some (true, m2)) : ∃ m2, lw_t1 L xs f (ma_i k) m = some (true, m2) := by
  have hI0 := hI
  obtain ⟨⟨⟨g, hr⟩, hm⟩, ⟨nx, h, hh⟩, h18⟩ := hI
  obtain ⟨r, hmark⟩ := lm_mark hr
  obtain ⟨v, hv⟩ := lw_cell (xs := xs) hL (ma_i k) (ma_nn (by omega)) m
  obtain ⟨q, m1, a1, a2, a3⟩ := lw_acts v (by omega) hI0
  obtain ⟨n2, hle, hI1⟩ := lw_next hI0 a2 a3
  have ih5 : ∀ w m3, lw_I (B + 6000) w m3 → 6 ≤ w → ∃ m2, lw_t5 L xs f (ma_i k) v m3 = some (true, m2) := fun w m3 h3 hw => lw_t5_ok (by omega) hw h3 (fun m4 h4 => ih w m4 hw h4)
  -- the first: undone, and done again
  have h3 : ∃ m2, lw_t3 L xs f (ma_i k) v r (m 12 2).toInt64 q.toInt64 m1 = some (true, m2) := by
    unfold lw_t3
    by_cases hq : q < 0
    · rw [if_pos ((lw_64n q).mpr hq)]
      exact ih5 n2 m1 hI1 (by omega)
    · rw [if_neg (fun hz => hq ((lw_64n q).mp hz))]
      by_cases h3 : ma_i k - ma_i k / (3 : Int32) * (3 : Int32) = 0
      · rw [if_pos h3]
        rcases a3.2 with ⟨hq2, _⟩ | ⟨_, hp, _⟩
        · exact absurd hq2 hq
        · obtain ⟨nx', h', mU, u1, u2, u3, u4, u5⟩ := lz_undo hp
          have eu : f_L_undo m1 = some ((ma_i (min h' 7)).toInt64, mU) := by unfold f_L_undo; rw [u2]; rfl
          rw [eu, Option.bind_some]
          dsimp only
          rw [u1.2.2.2, lw_min h' u1.2.1, if_pos ((ml_eq _ _).mpr rfl), hmark mU u5, Option.bind_some, if_pos ((ml_eq _ _).mpr rfl)]
          have hIU : lw_I B n mU := ⟨by rw [u5]; exact hI0.1, ⟨_, _, u4⟩, by rw [u3 18 (by decide) (by decide)]; exact a2⟩
          obtain ⟨q', m4, b1, b2, b3⟩ := lw_acts v (by omega) hIU
          obtain ⟨n3, hle3, hI4⟩ := lw_next hIU b2 b3
          rw [b1, Option.bind_some]
          exact ih5 n3 m4 hI4 (by omega)
      · rw [if_neg h3]
        exact ih5 n2 m1 hI1 (by omega)
  unfold lw_t1
  rw [hv, Option.bind_some, hmark m rfl, Option.bind_some, lr_a16, Option.bind_some, a1, Option.bind_some]
  dsimp only
  have h15 : f_L_account (15 : Int32) m1 = some (0 : Int64) := by rw [lr_a15, a2]; rfl
  by_cases hq : q < 0
  · rw [if_neg (fun hz => (lw_64 q).mp hz hq)]
    rcases a3.2 with ⟨_, e2, _, _⟩ | ⟨hq2, _⟩
    · rw [hmark m1 (by rw [e2]), Option.bind_some, if_pos ((ml_eq _ _).mpr rfl), h15, Option.bind_some, if_pos ((ml_eq _ _).mpr rfl)]
      exact h3
    · exact absurd hq hq2
  · rw [if_pos ((lw_64 q).mpr hq), h15, Option.bind_some, if_pos ((ml_eq _ _).mpr rfl)]
    exact h3
theorem lw_L104 {L : Nat} {xs : Nat → Int32} (hL : L ≤ 260) : ∀ (d k f n : Nat) (m : fm_M), k + d = 30 → d < f → 6 ≤ n → lw_I (60000 + 6000 * k) n m → ∃ m2, f_L_law_L104 L xs f (ma_i k) m = some (true, m2) := by
  intro d
  induction d with
  | zero =>
    intro k f n m hk hf hn hI
    obtain ⟨f, rfl⟩ : ∃ q, f = q + 1 := ⟨f - 1, by omega⟩
    have e : k = 30 := by omega
    subst e
    rw [lw_body, if_pos ma_g1]
    exact ⟨m, rfl⟩
  | succ d ih =>
    intro k f n m hk hf hn hI
    obtain ⟨f, rfl⟩ : ∃ q, f = q + 1 := ⟨f - 1, by omega⟩
    rw [lw_body, if_neg (ma_g0 (a := 30) (by omega) (by decide))]
    refine lw_t1_ok hL (by omega) (by omega) hn hI (fun n2 m1 hn2 h1 => ih (k + 1) f n2 m1 (by omega) (by omega) hn2 ?_)
    have e : 60000 + 6000 * (k + 1) = 60000 + 6000 * k + 6000 := by omega
    rw [e]
    exact h1

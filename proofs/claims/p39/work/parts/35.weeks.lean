/-! a week, and weeks, on both sides -/
theorem mr_old8 {B n : Nat} {s t : ma_S} (h : mr_rel B n s t) {s2 : ma_S} (e2 : ∀ b, s2 2 b = s 2 b) : mw_old s2 n ≤ 8 := by
  have h1 : mw_old s2 n ≤ ma_ct (fun b => decide (s 2 b = 1)) n := by
    unfold mw_old
    have : ∀ k, ma_ct (fun b => decide (s2 2 b = 1) && decide (¬ s2 4 b < 2)) k ≤ ma_ct (fun b => decide (s 2 b = 1)) k := by
      intro k
      induction k with
      | zero => exact Nat.le_refl _
      | succ k ih =>
        rw [ma_ct_s, ma_ct_s, e2 k]
        by_cases hh : s 2 k = 1
        · simp only [hh, decide_true, Bool.true_and, if_true]
          split <;> omega
        · simp only [hh, decide_false, Bool.false_and]
          simpa using ih
    exact this n
  rw [← mr_occ h] at h1
  exact Nat.le_trans h1 (ma_ct_le _ 8)
theorem my_q_year {s : ma_S} {n : Nat} : my_q s (md_year s n) := by
  have e : ∀ k b, k ≠ 0 → k ≠ 4 → md_year s n k b = s k b := fun k b h0 h4 => by
    unfold md_year
    rw [if_neg (fun h => h0 h.1), if_neg (fun h => h4 h.1)]
  exact ⟨fun j _ _ => e 16 j (by decide) (by decide), fun b => e 6 b (by decide) (by decide), fun b => Or.inl (e 2 b (by decide) (by decide)), e 16 0 (by decide) (by decide), fun b => e 8 b (by decide) (by decide)⟩
/-- the class's year: begin and gowns -/
theorem mw_year {B n : Nat} (hB : B + 1 < 1000000) {m mm : fm_M} {g w : Nat → Int32} (h : mr_rel B n (ma_c g) (ma_w w)) (hw3 : ma_c g 16 3 = 0) (e7 : m 7 = g) : ∃ m1 w1, ((f_X0_beginYear m).bind fun v23 => (f_X0_buyGowns v23).bind fun v25 => some v25) = some m1 ∧ mj_c m m1 ∧ f_X7_yearBegins (fm_up mm 24 (ma_t w 16 3 52)) = some (fm_up mm 24 w1) ∧ mr_rel (B + 1) n (ma_c (m1 7)) (ma_w w1) ∧ ma_c (m1 7) 16 6 = ma_c g 16 6 ∧ my_k 0 (ma_c g) (ma_c (m1 7)) := by
  have hn := mr_n h
  have hy : ma_w w 16 2 = ma_c g 16 2 := (h.2.2.2.1 2 (by decide) (by decide)).symm
  have k1 : ma_c (ma_s (ma_s g 16 2 (ma_c g 16 2 + 1)) 16 9 0) = ma_up (ma_up (ma_c g) 16 2 (ma_c g 16 2 + 1)) 16 9 0 := by
    rw [ma_c_s (by unfold ma_ok; omega), ma_c_s (by unfold ma_ok; omega)]
  have w3 : ma_w w 16 3 = 0 := by rw [← h.2.2.2.1 3 (by decide) (by decide)]; exact hw3
  have k2 : ma_w (mb_y0 (ma_t w 16 3 52)) = ma_up (ma_up (ma_w w) 16 2 (ma_c g 16 2 + 1)) 16 9 0 := by
    unfold mb_y0
    rw [ma_w_t (by decide), ma_w_t (by decide), ma_w_t (by decide), ma_w_t (by decide), ma_up_n (Or.inr (by decide)), hy]
    funext a b
    unfold ma_up
    by_cases h9 : a = 16 ∧ b = 9
    · simp [h9]
    · by_cases h2 : a = 16 ∧ b = 2
      · simp [h2]
      · by_cases h3 : a = 16 ∧ b = 3
        · simp [h3, w3]
        · simp [h9, h2, h3]
  have r1 := mr_sc h (j := 2) (v := ma_c g 16 2 + 1) (by decide) (by decide) (fun hh => absurd hh (by decide)) (fun hh => absurd hh (by decide)) (fun hh => absurd hh (by decide))
  have r2 := mr_sc r1 (j := 9) (v := 0) (by decide) (by decide) (fun hh => absurd hh (by decide)) (fun hh => absurd hh (by decide)) (fun _ => ⟨0, by decide, rfl⟩)
  have r3 := mr_year r2
  rw [← k1, ← k2, ← mc_ye_it, ← mb_ye_it n hn] at r3
  have ht0 : ma_w ((fm_up mm 24 (ma_t w 16 3 52)) 24) 16 0 = ma_i n := by
    rw [ka_up, ma_w_t (by decide), ma_up_n (Or.inr (by decide))]
    exact h.2.2.1
  rw [kc_year, Option.bind_some, kb_year hn ht0, ka_up, ma_pp, e7]
  generalize hG : ma_it mc_ye (ma_s (ma_s g 16 2 (ma_c g 16 2 + 1)) 16 9 0) 16 = G at r3
  generalize hW : ma_it mb_ye (mb_y0 (ma_t w 16 3 52)) n = W at r3
  have ht1 : ma_w ((fm_up mm 24 W) 24) 16 0 = ma_i n := by rw [ka_up]; exact r3.2.2.1
  rw [kb_shabbyAt hn ht1, Option.bind_some, ka_up, ← mr_shabby r3 hB 0]
  have eG : ma_c G = md_year (ma_up (ma_up (ma_c g) 16 2 (ma_c g 16 2 + 1)) 16 9 0) 16 := by rw [← hG, mc_ye_it, k1]
  have hold : mw_old (ma_c ((fm_up m 7 G) 7)) n ≤ 8 := by
    rw [ka_up]
    exact mr_old8 h (fun b => by rw [eG]; unfold md_year ma_up; simp)
  obtain ⟨m1, w1, g1, g2, g3, g4, g5, g6⟩ := mw_gowns hB 8 0 fm_F fm_F (fm_up m 7 G) (fm_up mm 24 W) (by decide) (by decide) (by decide) (by rw [ka_up, ka_up]; exact r3) hold
  rw [ka_up] at g3 g5 g6
  refine ⟨m1, w1, ?_, mj_tr (mj_7 m G) g2, ?_, g4, ?_, ?_⟩
  · have e : f_X0_buyGowns (fm_up m 7 G) = some m1 := g1
    rw [e]
    rfl
  · rw [ma_pp] at g3; exact g3
  · rw [g5, eG]
    unfold md_year ma_up
    simp
  · refine my_kt (d := 0) (e := 0) (my_q_k (s2 := ma_c G) ?_) g6
    rw [eG]
    refine my_q_tr (s1 := ma_up (ma_up (ma_c g) 16 2 (ma_c g 16 2 + 1)) 16 9 0) (my_q_tr (s1 := ma_up (ma_c g) 16 2 (ma_c g 16 2 + 1)) (my_q_up (by decide) (by decide) (by decide) (by first | decide | exact fun hh => absurd hh (by decide))) (my_q_up (by decide) (by decide) (by decide) (by first | decide | exact fun hh => absurd hh (by decide)))) ?_
    exact my_q_year
/-- the class's week, as a function of the memory before it -/
def mw_c (m : fm_M) : Option fm_M := (f_X5_get 6 7 (287 : Int32) m).bind fun v2 => (f_X5_pittanceIn 6 7 v2 m).bind fun v4 => (f_X5_entitledMany 6 7 m).bind fun v6 => (f_X0_payFeast v4 v6 m).bind fun v8 => (f_X0_shortenBans v8).bind fun v10 => (f_X5_howMany 6 7 (1 : Int32) v10).bind fun v12 => (f_X5_takeIn 6 7 ((2 : Int32) * ((8 : Int32) - v12)) v10).bind fun v14 => (f_X5_get 6 7 (287 : Int32) v14).bind fun v16 => (f_X5_set 6 7 (287 : Int32) ((v16 + (1 : Int32)) - (v16 + (1 : Int32)) / (52 : Int32) * (52 : Int32)) v14).bind fun v18 => (f_X5_get 6 7 (287 : Int32) v18).bind fun v20 => if v20 = 0 then ((f_X0_beginYear v18).bind fun v23 => (f_X0_buyGowns v23).bind fun v25 => some v25) else some v18
set_option maxRecDepth 100000 in
set_option maxHeartbeats 4000000 in
theorem mw_week {B n : Nat} (hB : B + 1 < 1000000) {m mm : fm_M} (h : mr_rel B n (ma_c (m 7)) (ma_w (mm 24))) : ∃ m1 w1 p, p ≤ 9999 ∧ mw_c m = some m1 ∧ mj_c m m1 ∧ f_X7_weekGoes mm = some (ma_i p, fm_up mm 24 w1) ∧ mr_rel (B + 1) n (ma_c (m1 7)) (ma_w w1) ∧ ma_c (m1 7) 16 6 = ma_c (m 7) 16 6 + ma_i p ∧ my_k 9 (ma_c (m 7)) (ma_c (m1 7)) := by
  have hn := mr_n h
  obtain ⟨wk, hwk, ew⟩ := h.2.2.2.2.1
  obtain ⟨g, w, p, hp, c1, c2, r1, p1, y1⟩ := mw_feast h hwk ew
  unfold mw_c f_X7_weekGoes
  simp only [ka_g3, Option.bind_some, ew, ka_gw hwk, ka_entitledMany, c1, c2]
  have ht1 : ma_w ((fm_up mm 24 w) 24) 16 0 = ma_i n := by rw [ka_up]; exact r1.2.2.1
  rw [kb_bans hn ht1, ka_up, ma_pp, kc_bans, Option.bind_some, ka_up, ma_pp, ka_howMany, Option.bind_some, ka_up, ka_takeIn, Option.bind_some, ka_up, ma_pp]
  have r2 := mr_ban r1 (by omega)
  rw [← mc_bn_it, ← mb_bn_it n hn] at r2
  have p2 : ma_c (ma_it mc_bn g 16) 16 6 = ma_c g 16 6 := by rw [mc_bn_it]; unfold md_ban; simp
  have y2 : my_k 9 (ma_c (m 7)) (ma_c (ma_it mc_bn g 16)) := by
    refine my_kt (d := 9) (e := 0) y1 (my_q_k ?_)
    rw [mc_bn_it]
    unfold md_ban
    exact ⟨fun j _ _ => if_neg (fun h => absurd h.1 (by decide)), fun b => if_neg (fun h => absurd h.1 (by decide)), fun b => Or.inl (if_neg (fun h => absurd h.1 (by decide))), if_neg (fun h => absurd h.1 (by decide)), fun b => if_neg (fun h => absurd h.1 (by decide))⟩
  generalize ma_it mc_bn g 16 = G at r2 p2 y2 ⊢
  generalize ma_it mb_bn w n = W at r2 ⊢
  -- the rent
  obtain ⟨c, hc, ec⟩ := r2.2.2.2.2.2.1
  have e4 : ma_w W 16 4 = ma_i c := by rw [← r2.2.2.2.1 4 (by decide) (by decide)]; exact ec
  have e5 : ma_w W 16 5 = ma_c G 16 5 := (r2.2.2.2.1 5 (by decide) (by decide)).symm
  have ht2 : ma_w ((fm_up mm 24 W) 24) 16 0 = ma_i n := by rw [ka_up]; exact r2.2.2.1
  rw [kb_rent hn ht2 hc (by rw [ka_up]; exact e4)]
  simp only [ka_up]
  have hH : ma_ct (fun b => decide (ma_c G 2 b = 1)) 16 = ma_ct (fun b => decide (ma_c G 2 b = 1)) n := ma_ct_cut 16 hn (fun j h1 h2 => by
    rw [mr_new2 r2 h1 h2]; decide)
  have hocc := mr_occ r2
  rw [hH, ← hocc]
  have hE : ma_ct (fun j => decide (¬ mb_in (ma_w W) n (ma_i j) < n)) 8 + ma_ct (fun c => decide (¬ ma_c G 14 c < 0)) 8 = 8 := by
    have : ∀ k, k ≤ 8 → ma_ct (fun j => decide (¬ mb_in (ma_w W) n (ma_i j) < n)) k + ma_ct (fun c => decide (¬ ma_c G 14 c < 0)) k = k := by
      intro k
      induction k with
      | zero => intro _; rfl
      | succ k ih =>
        intro hk
        have ih := ih (by omega)
        rw [ma_ct_s, ma_ct_s]
        rcases mr_cell r2 (c := k) (by omega) with ⟨a1, a2⟩ | ⟨b, a1, a2, a3, _⟩
        · have z : (-15 : Int32) < 0 := by decide
          rw [a1, if_pos (decide_eq_true a2), if_neg (by simp [z])]
          omega
        · have z : ¬ ma_i b < 0 := ma_nn (by omega)
          rw [a2, a3, if_neg (by simp [a1]), if_pos (decide_eq_true z)]
          omega
    exact this 8 (Nat.le_refl _)
  have hoc8 := ma_ct_le (fun c => decide (¬ ma_c G 14 c < 0)) 8
  have hrn := mb_rn_it (n := n) hc e4 8 (Nat.le_refl _)
  generalize hEE : ma_ct (fun j => decide (¬ mb_in (ma_w W) n (ma_i j) < n)) 8 = E at hE hrn
  generalize ma_ct (fun c => decide (¬ ma_c G 14 c < 0)) 8 = H at hE hoc8 ⊢
  have ex : (2 : Int32) * ((8 : Int32) - ma_i H) = ma_i (2 * E) := by
    have a1 : (8 : Int32) - ma_i H = ma_i (8 - H) := ma_sub (a := 8) hoc8
    have a2 : (2 : Int32) * ma_i (8 - H) = ma_i (2 * (8 - H)) := ma_mul 2 (8 - H)
    rw [a1, a2]
    congr 1
    omega
  obtain ⟨q1, q2⟩ := ma_min c (2 * E) hc (by omega)
  rw [ex, ec, q1, ma_add]
  have x1 : c + min (2 * E) (9999 - c) = min 9999 (c + 2 * E) := by omega
  have x2 : min (2 * E) (9999 - c) = min 9999 (c + 2 * E) - c := by omega
  rw [x1, x2]
  have kc1 : ma_c (ma_s (ma_s G 16 4 (ma_i (min 9999 (c + 2 * E)))) 16 5 (ma_c G 16 5 + ma_i (min 9999 (c + 2 * E) - c))) = ma_up (ma_up (ma_c G) 16 4 (ma_i (min 9999 (c + 2 * E)))) 16 5 (ma_c G 16 5 + ma_i (min 9999 (c + 2 * E) - c)) := by
    rw [ma_c_s (by unfold ma_ok; omega), ma_c_s (by unfold ma_ok; omega)]
  have r3 := mr_chest r2 (c := min 9999 (c + 2 * E)) (by omega) (ma_c G 16 5 + ma_i (min 9999 (c + 2 * E) - c))
  have hrn2 : ma_w (ma_it (mb_rn n) W 8) = ma_up (ma_up (ma_w W) 16 4 (ma_i (min 9999 (c + 2 * E)))) 16 5 (ma_c G 16 5 + ma_i (min 9999 (c + 2 * E) - c)) := by
    rw [hrn]; unfold me_rent; rw [e5]
  rw [← kc1, ← hrn2] at r3
  have p3 : ma_c (ma_s (ma_s G 16 4 (ma_i (min 9999 (c + 2 * E)))) 16 5 (ma_c G 16 5 + ma_i (min 9999 (c + 2 * E) - c))) 16 6 = ma_c G 16 6 := by
    rw [kc1]; unfold ma_up; simp
  have y3 : my_k 9 (ma_c (m 7)) (ma_c (ma_s (ma_s G 16 4 (ma_i (min 9999 (c + 2 * E)))) 16 5 (ma_c G 16 5 + ma_i (min 9999 (c + 2 * E) - c)))) := by
    rw [kc1]
    refine my_kt (d := 9) (e := 0) y2 (my_in ?_)
    rw [ec, ma_add]
    congr 1
    omega
  generalize ma_s (ma_s G 16 4 (ma_i (min 9999 (c + 2 * E)))) 16 5 (ma_c G 16 5 + ma_i (min 9999 (c + 2 * E) - c)) = G2 at r3 p3 y3 ⊢
  generalize ma_it (mb_rn n) W 8 = W2 at r3 ⊢
  -- the week
  obtain ⟨v, hv, ev⟩ := r3.2.2.2.2.1
  have ev2 : ma_w W2 16 3 = ma_i v := by rw [← r3.2.2.2.1 3 (by decide) (by decide)]; exact ev
  have erem : ma_i (v + 1) - ma_i (v + 1) / (52 : Int32) * (52 : Int32) = ma_i ((v + 1) % 52) := ma_rem (a := v + 1) (k := 52) (by omega) (by decide)
  have kc2 : ∀ x, ma_c (ma_s G2 16 3 x) = ma_up (ma_c G2) 16 3 x := fun x => ma_c_s (by unfold ma_ok; omega)
  have kw2 : ∀ x, ma_w (ma_t W2 16 3 x) = ma_up (ma_w W2) 16 3 x := fun x => ma_w_t (by decide)
  simp only [ka_g3, ka_t3, Option.bind_some, ka_up, ma_pp, ev, ma_s1, erem]
  rw [kc2, ma_up_e]
  unfold mb_wk
  rw [ev2, ma_s1]
  by_cases h52 : v = 51
  · subst h52
    rw [if_pos (by decide), if_pos (by decide)]
    have r4 := mr_sc r3 (j := 3) (v := 0) (by decide) (by decide) (fun _ => ⟨0, by decide, rfl⟩) (fun hh => absurd hh (by decide)) (fun hh => absurd hh (by decide))
    rw [← kc2, ← kw2] at r4
    have hw3 : ma_c (ma_s G2 16 3 0) 16 3 = 0 := by rw [kc2, ma_up_e]
    obtain ⟨m1, w1, g1, g2, g3, g4, g5, g6⟩ := mw_year hB (m := fm_up m 7 (ma_s G2 16 3 (ma_i ((51 + 1) % 52)))) (mm := mm) r4 hw3 (by rw [ka_up]; rfl)
    refine ⟨m1, w1, p, hp, g1, mj_tr (mj_7 m _) g2, ?_, g4, ?_, ?_⟩
    · have e52 : ma_t (ma_t W2 16 3 0) 16 3 52 = ma_t W2 16 3 (ma_i (51 + 1)) := by
        unfold ma_t
        funext j
        unfold upd
        split <;> rfl
      rw [e52] at g3
      rw [ma_pp, g3]
      rfl
    · rw [g5, kc2, ma_up_n (Or.inr (by decide)), p3, p2, p1]
    · refine my_kt (d := 9) (e := 0) y3 (my_kt (d := 0) (e := 0) (my_q_k ?_) g6)
      rw [kc2]
      exact my_q_up (by decide) (by decide) (by decide) (by first | decide | exact fun hh => absurd hh (by decide))
  · have hmod : (v + 1) % 52 = v + 1 := Nat.mod_eq_of_lt (by omega)
    rw [hmod, if_neg (fun hh => by have := (ma_inj (b := 0) (by omega) (by decide)).mp hh; omega), if_neg (fun hh => by have := (ma_inj (b := 52) (by omega) (by decide)).mp hh; omega)]
    have r4 := mr_sc r3 (j := 3) (v := ma_i (v + 1)) (by decide) (by decide) (fun _ => ⟨v + 1, by omega, rfl⟩) (fun hh => absurd hh (by decide)) (fun hh => absurd hh (by decide))
    rw [← kc2, ← kw2] at r4
    refine ⟨_, ma_t W2 16 3 (ma_i (v + 1)), p, hp, rfl, mj_7 m _, by rw [ma_pp], ?_, ?_, ?_⟩
    · rw [ka_up]; exact mr_mono r4 (by omega)
    · rw [ka_up, kc2, ma_up_n (Or.inr (by decide)), p3, p2, p1]
    · rw [ka_up, kc2]
      exact my_kt (d := 9) (e := 0) y3 (my_q_k (my_q_up (by decide) (by decide) (by decide) (by first | decide | exact fun hh => absurd hh (by decide))))
theorem mw_after_s {f : Nat} {y1 y2 : Int32} {m : fm_M} (h : ¬ y1 ≤ y2) : f_X0_after_L2 (f + 1) y1 y2 m = (mw_c m).bind fun v => f_X0_after_L2 f y1 (y2 + 1) v := by
  rw [f_X0_after_L2, if_neg h]
  unfold mw_c
  simp only [Option.bind_assoc]
  have e : ∀ (c : Prop) [Decidable c] (a b : Option fm_M) (k : fm_M → Option fm_M), (if c then a else b).bind k = if c then a.bind k else b.bind k := fun c _ a b k => by split <;> rfl
  simp only [e, Option.bind_assoc, Option.bind_some]
set_option maxHeartbeats 4000000 in
theorem mw_weeks {n : Nat} {y : Nat} (hy : y ≤ 60) : ∀ (d k B P : Nat) (f f2 : Nat) (m mm : fm_M), k + d = y → d < f → d < f2 → B + d < 1000000 → P ≤ 9999 * k → mr_rel B n (ma_c (m 7)) (ma_w (mm 24)) → ∃ m1 w1 p, p ≤ 9999 * y ∧ f_X0_after_L2 f (ma_i y) (ma_i k) m = some m1 ∧ mj_c m m1 ∧ f_X7_weeksGo_L4 f2 (ma_i y) (ma_i P) (ma_i k) mm = some (ma_i p, fm_up mm 24 w1) ∧ mr_rel (B + d) n (ma_c (m1 7)) (ma_w w1) ∧ ma_c (m1 7) 16 6 + ma_i P = ma_c (m 7) 16 6 + ma_i p ∧ my_k (9 * d) (ma_c (m 7)) (ma_c (m1 7)) := by
  intro d
  induction d with
  | zero =>
    intro k B P f f2 m mm hk hf hf2 hB hP h
    obtain ⟨f, rfl⟩ : ∃ k, f = k + 1 := ⟨f - 1, by omega⟩
    obtain ⟨f2, rfl⟩ : ∃ k, f2 = k + 1 := ⟨f2 - 1, by omega⟩
    have e : k = y := by omega
    subst e
    refine ⟨m, mm 24, P, hP, ?_, mj_rf m, ?_, h, rfl, my_q_k (my_q_rf _)⟩
    · rw [f_X0_after_L2, if_pos (Int32.le_refl _)]
    · rw [f_X7_weeksGo_L4, if_pos (Int32.le_refl _), ma_pk]
  | succ d ih =>
    intro k B P f f2 m mm hk hf hf2 hB hP h
    obtain ⟨f, rfl⟩ : ∃ k, f = k + 1 := ⟨f - 1, by omega⟩
    obtain ⟨f2, rfl⟩ : ∃ k, f2 = k + 1 := ⟨f2 - 1, by omega⟩
    have hne : ¬ ma_i y ≤ ma_i k := by rw [ma_le (by omega) (by omega)]; omega
    obtain ⟨m1, w1, p, hp, c1, c2, c3, c4, c5, c6⟩ := mw_week (by omega) h
    rw [mw_after_s hne, c1, Option.bind_some, f_X7_weeksGo_L4, if_neg hne, c3, Option.bind_some, ma_s1]
    show ∃ m1_1 w1_1 p_1, _ ∧ _ ∧ _ ∧ f_X7_weeksGo_L4 f2 (ma_i y) (ma_i P + ma_i p) (ma_i (k + 1)) (fm_up mm 24 w1) = _ ∧ _ ∧ _
    rw [ma_add]
    obtain ⟨m2, w2, p2, d0, d1, d2, d3, d4, d5, d6⟩ := ih (k + 1) (B + 1) (P + p) f f2 m1 (fm_up mm 24 w1) (by omega) (by omega) (by omega) (by omega) (by omega) (by rw [ka_up]; exact c4)
    rw [ma_pp] at d3
    refine ⟨m2, w2, p2, d0, d1, mj_tr c2 d2, d3, ?_, ?_, my_kk (by omega) (my_kt c6 d6)⟩
    · have : B + (d + 1) = B + 1 + d := by omega
      rw [this]; exact d4
    · rw [c5, ← ma_add, Int32.add_comm (ma_i P), ← Int32.add_assoc] at d5
      rw [Int32.add_assoc (ma_c (m 7) 16 6), Int32.add_comm (ma_i p) (ma_i p2), ← Int32.add_assoc (ma_c (m 7) 16 6)] at d5
      have z : ∀ a b c : Int32, a + c = b + c → a = b := fun a b c hh => by
        have := congrArg (fun x => x - c) hh
        simpa using this
      refine z _ _ (ma_i p) ?_
      rw [← d5, Int32.add_assoc, Int32.add_comm (ma_i P), ← Int32.add_assoc]

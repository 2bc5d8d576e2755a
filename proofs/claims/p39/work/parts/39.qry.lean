/-! reads in closed form -/
def ma_or (p : Nat → Bool) (g : Nat → Int32) : Nat → Int32
  | 0 => 0
  | n + 1 => if p n = true then ma_or p g n ||| g n else ma_or p g n
theorem ma_or_s (p : Nat → Bool) (g : Nat → Int32) (n : Nat) : ma_or p g (n + 1) = if p n = true then ma_or p g n ||| g n else ma_or p g n := rfl
theorem ma_or_congr {p q : Nat → Bool} {g : Nat → Int32} : ∀ n, (∀ j, j < n → p j = q j) → ma_or p g n = ma_or q g n := by
  intro n
  induction n with
  | zero => intro _; rfl
  | succ n ih => intro h; rw [ma_or_s, ma_or_s, h n (by omega), ih (fun j hj => h j (by omega))]
theorem ma_or_cut {p : Nat → Bool} {g : Nat → Int32} {n : Nat} : ∀ N, n ≤ N → (∀ j, n ≤ j → j < N → p j = false) → ma_or p g N = ma_or p g n := by
  intro N
  induction N with
  | zero => intro h _; have : n = 0 := by omega
            rw [this]
  | succ N ih =>
    intro h hf
    by_cases hn : n = N + 1
    · rw [hn]
    · rw [ma_or_s, hf N (by omega) (by omega)]
      exact ih (by omega) (fun j h1 h2 => hf j h1 (by omega))
/-! one brother's numbers -/
theorem mr_pl {B n : Nat} {s t : ma_S} (h : mr_rel B n s t) {b : Nat} (hb : b < n) (hw : s 2 b = 0) : ma_ct (fun k => decide (s 2 k = 0)) b = ma_ct (fun k => decide (t 2 k = 0) && decide (¬ t 8 b ≤ t 8 k)) n := by
  have hwt := fun k (hk : k < n) => mr_how h hk
  obtain ⟨hn, hs0, ht0, hsc, hwk, hch, hpd, hfe, hfn, hcol, hgo, hba, hbr, hvo, hce, hcb, hst, hsi, hsl, hwl, hnew⟩ := h
  rw [ma_ct_cut n (show b ≤ n by omega) (fun j h1 h2 => ?_)]
  · refine ma_ct_congr b (fun j hj => ?_)
    rw [← hwt j (by omega)]
    by_cases e : s 2 j = 0
    · have := hwl j b hj hb e hw
      rw [decide_eq_true e, Bool.true_and, decide_eq_true (Int32.not_le.mpr this)]
    · rw [decide_eq_false e, Bool.false_and]
  · rw [← hwt j h2]
    by_cases e : s 2 j = 0
    · have : t 8 b ≤ t 8 j := by
        by_cases e2 : j = b
        · rw [e2]; exact Int32.le_refl _
        · exact Int32.le_of_lt (hwl b j (by omega) h2 hw e)
      rw [decide_eq_true e, Bool.true_and]
      simp [this]
    · rw [decide_eq_false e, Bool.false_and]
theorem kq_place {m : fm_M} {n b : Nat} (hn16 : n ≤ 16) (hn : ma_w (m 24) 16 0 = ma_i n) (hb : b < 16) : f_X7_placeInLine (ma_i b) m = some (ma_i (ma_ct (fun k => decide (ma_w (m 24) 2 k = 0) && decide (¬ ma_w (m 24) 8 b ≤ ma_w (m 24) 8 k)) n)) := by
  unfold f_X7_placeInLine
  refine ma_loop (fun f k => f_X7_placeInLine_L4 f (ma_i b) (ma_i (ma_ct (fun k => decide (ma_w (m 24) 2 k = 0) && decide (¬ ma_w (m 24) 8 b ≤ ma_w (m 24) 8 k)) k)) (ma_i k) m) n (fun f k hk => ?_) (fun f => ?_) fm_F 0 (Nat.zero_le _) (by unfold fm_F; omega)
  · show f_X7_placeInLine_L4 (f + 1) _ _ _ m = _
    rw [f_X7_placeInLine_L4, if_pos (by decide), kb_r0 m, hn, if_neg (kb_g0 hn16 hk), kb_isSo (by omega), Option.bind_some, kb_of8 (by omega), Option.bind_some, kb_of8 hb, Option.bind_some, ma_ct_s, ma_s1, ma_s1, kb_s0]
    by_cases h0 : ma_w (m 24) 2 k = 0
    · by_cases h1 : ma_w (m 24) 8 b ≤ ma_w (m 24) 8 k <;> simp [h0, h1]
    · simp [h0]
  · show f_X7_placeInLine_L4 (f + 1) _ _ _ m = _
    rw [f_X7_placeInLine_L4, if_pos (by decide), kb_r0 m, hn, if_pos (Int32.le_refl _)]
theorem kq_place6 {m : fm_M} {b : Nat} (hb : b < 16) : f_X6_placeInLine_L19 fm_F (ma_i b) (0 : Int32) (0 : Int32) m = some (ma_i (ma_ct (fun k => decide (ma_c (m 2) 2 k = 0)) b)) := by
  refine ma_loop (fun f k => f_X6_placeInLine_L19 f (ma_i b) (ma_i (ma_ct (fun k => decide (ma_c (m 2) 2 k = 0)) k)) (ma_i k) m) b (fun f k hk => ?_) (fun f => ?_) fm_F 0 (Nat.zero_le _) (by unfold fm_F; omega)
  · show f_X6_placeInLine_L19 (f + 1) _ _ _ m = _
    rw [f_X6_placeInLine_L19, if_neg (kb_g0 (by omega) hk), if_neg (ma_g0 (a := 16) (by omega) (by decide)), ka_is (by omega), Option.bind_some, ma_ct_s, ma_s1]
    by_cases h0 : ma_c (m 2) 2 k = 0 <;> simp [h0, ma_s1]
  · show f_X6_placeInLine_L19 (f + 1) _ _ _ m = _
    rw [f_X6_placeInLine_L19, if_pos (Int32.le_refl _)]
theorem kq_broke6 {m : fm_M} {b : Nat} (hb : b < 16) : f_X6_breachesOf (ma_i b) m = some (ma_sm (fun j => ma_c (m 2) (9 + j) b) 5) := by
  unfold f_X6_breachesOf
  refine ma_loop (fun f k => f_X6_breachesOf_L4 f (ma_i b) (ma_sm (fun j => ma_c (m 2) (9 + j) b) k) (ma_i k) m) 5 (fun f k hk => ?_) (fun f => ?_) fm_F 0 (by decide) (by decide)
  · show f_X6_breachesOf_L4 (f + 1) _ _ _ m = _
    rw [f_X6_breachesOf_L4, if_neg (ma_g0 hk (by decide)), ka_of9 hb hk, Option.bind_some, ma_sm_s, ma_s1]
  · show f_X6_breachesOf_L4 (f + 1) _ _ _ m = _
    rw [f_X6_breachesOf_L4, if_pos ma_g1]
theorem kq_broke7 {m : fm_M} {b : Nat} (hb : b < 16) : f_X7_brokeAll (ma_i b) m = some (ma_sm (fun j => ma_w (m 24) (9 + j) b) 5) := by
  unfold f_X7_brokeAll
  refine ma_loop (fun f k => f_X7_brokeAll_L4 f (ma_i b) (ma_sm (fun j => ma_w (m 24) (9 + j) b) k) (ma_i k) m) 5 (fun f k hk => ?_) (fun f => ?_) fm_F 0 (by decide) (by decide)
  · show f_X7_brokeAll_L4 (f + 1) _ _ _ m = _
    rw [f_X7_brokeAll_L4, if_neg (ma_g0 hk (by decide)), kb_of9 hb hk, Option.bind_some, ma_sm_s, ma_s1]
  · show f_X7_brokeAll_L4 (f + 1) _ _ _ m = _
    rw [f_X7_brokeAll_L4, if_pos ma_g1]
/-! accounts -/
theorem kq_ban6 {m : fm_M} : f_X6_brethrenUnderBan m = some (ma_i (ma_ct (fun b => decide (¬ ma_c (m 2) 5 b ≤ 0)) 16)) := by
  unfold f_X6_brethrenUnderBan
  refine ma_loop (fun f k => f_X6_brethrenUnderBan_L4 f (ma_i (ma_ct (fun b => decide (¬ ma_c (m 2) 5 b ≤ 0)) k)) (ma_i k) m) 16 (fun f k hk => ?_) (fun f => ?_) fm_F 0 (by decide) (by decide)
  · show f_X6_brethrenUnderBan_L4 (f + 1) _ _ m = _
    rw [f_X6_brethrenUnderBan_L4, if_neg (ma_g0 hk (by decide)), ka_of5 hk, Option.bind_some, ma_ct_s, ma_s1]
    by_cases h : ma_c (m 2) 5 k ≤ 0
    · rw [if_pos h, if_neg (by simpa using h)]; rfl
    · rw [if_neg h, if_pos (by simpa using h), ma_s1]
  · show f_X6_brethrenUnderBan_L4 (f + 1) _ _ m = _
    rw [f_X6_brethrenUnderBan_L4, if_pos ma_g1]
theorem kq_ban7 {m : fm_M} {n : Nat} (hn16 : n ≤ 16) (hn : ma_w (m 24) 16 0 = ma_i n) : f_X7_banned m = some (ma_i (ma_ct (fun b => decide (¬ ma_w (m 24) 5 b ≤ 0)) n)) := by
  unfold f_X7_banned
  refine ma_loop (fun f k => f_X7_banned_L4 f (ma_i (ma_ct (fun b => decide (¬ ma_w (m 24) 5 b ≤ 0)) k)) (ma_i k) m) n (fun f k hk => ?_) (fun f => ?_) fm_F 0 (Nat.zero_le _) (by unfold fm_F; omega)
  · show f_X7_banned_L4 (f + 1) _ _ m = _
    rw [f_X7_banned_L4, if_pos (by decide), kb_r0 m, hn, if_neg (kb_g0 hn16 hk), kb_of5 (by omega), Option.bind_some, ma_ct_s, ma_s1, ma_s1, kb_s0]
    by_cases h : ma_w (m 24) 5 k ≤ 0
    · rw [if_pos h, if_neg (by simpa using h)]; rfl
    · rw [if_neg h, if_pos (by simpa using h)]
  · show f_X7_banned_L4 (f + 1) _ _ m = _
    rw [f_X7_banned_L4, if_pos (by decide), kb_r0 m, hn, if_pos (Int32.le_refl _)]
theorem mr_bans {B n : Nat} {s t : ma_S} (h : mr_rel B n s t) : ma_ct (fun b => decide (¬ s 5 b ≤ 0)) 16 = ma_ct (fun b => decide (¬ t 5 b ≤ 0)) n := by
  rw [ma_ct_cut 16 (mr_n h) (fun j h1 h2 => ?_)]
  · exact ma_ct_congr n (fun j hj => by rw [mr_col h (k := 5) (by decide) (by decide) (by decide) (by decide) hj])
  · have hnew := h.2.2.2.2.2.2.2.2.2.2.2.2.2.2.2.2.2.2.2.2 j h1 h2
    rw [(hnew.2.2.2.1 5 (by decide) (by decide) (by decide) (by decide)).1]
    decide
/-! balance, voices again, what would come, append, undo, snapshot -/
theorem mr_cw {B n : Nat} {s t : ma_S} (h : mr_rel B n s t) {b : Nat} (hb : b < 16) : ma_ct (fun c => decide (s 14 c = ma_i b)) 8 = if s 2 b = 1 then 1 else 0 := by
  have hn := mr_n h
  by_cases hw : s 2 b = 1
  · rw [if_pos hw]
    have hbn : b < n := by
      by_cases e : b < n
      · exact e
      · rw [mr_new2 h (by omega) hb] at hw; exact absurd hw (by decide)
    obtain ⟨c, c1, c2, c3, c4⟩ := (h.2.2.2.2.2.2.2.2.2.2.2.2.2.2.1 b hbn).1 hw
    have e := ma_ct_bij (m := 8) 1 (fun _ => true) (fun d => decide (s 14 d = ma_i b)) (fun _ => c) (fun _ => 0) (fun i hi _ => ⟨c1, decide_eq_true c4, by omega⟩) (fun d hd hr => ⟨by decide, rfl, by
      have hr := of_decide_eq_true hr
      rcases mr_cell h hd with ⟨a, _⟩ | ⟨b', b1, b2, b3, b4, b5, b6⟩
      · rw [a] at hr; exact absurd hr.symm (ma_ne (by omega) (by decide))
      · rw [b2] at hr
        have hb' := (ma_inj (by omega) (by omega)).mp hr
        rw [hb', c2] at b5
        exact (ma_inj (by omega) (by omega)).mp b5⟩)
    rw [← e]
    rfl
  · rw [if_neg hw]
    refine (ma_ct_0 8).mpr (fun c hc => decide_eq_false (fun e => ?_))
    rcases mr_cell h hc with ⟨a, _⟩ | ⟨b', b1, b2, b3, b4, b5, b6⟩
    · rw [a] at e; exact absurd e.symm (ma_ne (by omega) (by decide))
    · rw [b2] at e
      have hb' := (ma_inj (by omega) (by omega)).mp e
      rw [hb'] at b4
      exact hw b4
theorem kq_cells6 {m : fm_M} {b : Nat} : f_X6_cellsWith (ma_i b) m = some (ma_i (ma_ct (fun c => decide (ma_c (m 2) 14 c = ma_i b)) 8)) := by
  unfold f_X6_cellsWith
  refine ma_loop (fun f k => f_X6_cellsWith_L4 f (ma_i b) (ma_i (ma_ct (fun c => decide (ma_c (m 2) 14 c = ma_i b)) k)) (ma_i k) m) 8 (fun f k hk => ?_) (fun f => ?_) fm_F 0 (by decide) (by decide)
  · show f_X6_cellsWith_L4 (f + 1) _ _ _ m = _
    rw [f_X6_cellsWith_L4, if_neg (ma_g0 hk (by decide)), ka_gc hk, Option.bind_some, ma_ct_s, ma_s1]
    by_cases h : ma_c (m 2) 14 k = ma_i b <;> simp [h, ma_s1]
  · show f_X6_cellsWith_L4 (f + 1) _ _ _ m = _
    rw [f_X6_cellsWith_L4, if_pos ma_g1]
theorem kq_bal6 {B n : Nat} {t : ma_S} {m : fm_M} (hr : mr_rel B n (ma_c (m 2)) t) {due : Int32} : f_X6_isBalanced_L43 fm_F due (0 : Int32) (1 : Int32) (0 : Int32) m = some (if ma_c (m 2) 16 4 = due ∧ ma_c (m 2) 16 6 = ma_sm (fun b => ma_c (m 2) 6 b) 16 then 1 else 0) := by
  refine ma_loop (fun f k => f_X6_isBalanced_L43 f due (ma_sm (fun b => ma_c (m 2) 6 b) k) (1 : Int32) (ma_i k) m) 16 (fun f k hk => ?_) (fun f => ?_) fm_F 0 (by decide) (by decide)
  · show f_X6_isBalanced_L43 (f + 1) _ _ _ _ m = _
    have hcw := mr_cw hr hk
    rw [f_X6_isBalanced_L43, if_neg (ma_g0 hk (by decide)), ka_of6 hk, Option.bind_some, if_neg (show ¬ (1 : Int32) = 0 by decide), kq_cells6, Option.bind_some, ka_is hk, Option.bind_some, ma_sm_s, ma_s1, hcw]
    by_cases hw : ma_c (m 2) 2 k = 1
    · rw [if_pos (decide_eq_true hw), if_pos hw, if_pos (show ma_i 1 = (1 : Int32) from rfl)]
    · rw [if_neg (by simpa using hw), if_neg hw, if_pos (show ma_i 0 = (0 : Int32) from rfl)]
  · show f_X6_isBalanced_L43 (f + 1) _ _ _ _ m = _
    rw [f_X6_isBalanced_L43, if_pos ma_g1, if_neg (show ¬ (1 : Int32) = 0 by decide), ka_g4, Option.bind_some, ka_g6, Option.bind_some]
    by_cases h1 : ma_c (m 2) 16 4 = due
    · by_cases h2 : ma_c (m 2) 16 6 = ma_sm (fun b => ma_c (m 2) 6 b) 16 <;> simp [h1, h2]
    · simp [h1]
theorem kq_bal7 {B n : Nat} {m : fm_M} (hr : mr_rel B n (ma_c (m 2)) (ma_w (m 24))) {y : Int32} (hy : y = 0 ∨ y = 1) : f_X7_isBalanced_L56 fm_F y (0 : Int32) (0 : Int32) m = some y := by
  have hn := mr_n hr
  have hn0 := hr.2.2.1
  refine ma_loop (fun f k => f_X7_isBalanced_L56 f y (ma_i (ma_ct (fun c => decide (¬ ma_c (m 2) 14 c < 0)) k)) (ma_i k) m) 8 (fun f k hk => ?_) (fun f => ?_) fm_F 0 (by decide) (by decide)
  · show f_X7_isBalanced_L56 (f + 1) _ _ _ m = _
    rw [f_X7_isBalanced_L56, if_neg (ma_g0 hk (by decide)), kb_brotherIn hn hn0, Option.bind_some, mr_in hr hk, ma_ct_s, ma_s1, ma_s1, kb_s0]
    by_cases h : ma_c (m 2) 14 k < 0
    · rw [if_pos h, if_neg (by simpa using h)]; rfl
    · rw [if_neg h, if_pos (by simpa using h)]
  · show f_X7_isBalanced_L56 (f + 1) _ _ _ m = _
    rw [f_X7_isBalanced_L56, if_pos ma_g1, kb_that hn hn0, Option.bind_some, mr_occ hr]
    have e : ma_ct (fun b => decide (ma_c (m 2) 2 b = 1)) n = ma_ct (fun b => decide (ma_w (m 24) 2 b = 1)) n := ma_ct_congr n (fun j hj => by rw [mr_how hr hj])
    rw [e, if_pos rfl]
    rcases hy with rfl | rfl <;> rfl
theorem kq_got7 {m : fm_M} {n : Nat} (hn16 : n ≤ 16) (hn : ma_w (m 24) 16 0 = ma_i n) : f_X7_gotAll m = some (ma_sm (fun b => ma_w (m 24) 6 b) n) := by
  unfold f_X7_gotAll
  refine ma_loop (fun f k => f_X7_gotAll_L4 f (ma_sm (fun b => ma_w (m 24) 6 b) k) (ma_i k) m) n (fun f k hk => ?_) (fun f => ?_) fm_F 0 (Nat.zero_le _) (by unfold fm_F; omega)
  · show f_X7_gotAll_L4 (f + 1) _ _ m = _
    rw [f_X7_gotAll_L4, if_pos (by decide), kb_r0 m, hn, if_neg (kb_g0 hn16 hk), kb_of6 (by omega), Option.bind_some, ma_sm_s, ma_s1]
  · show f_X7_gotAll_L4 (f + 1) _ _ m = _
    rw [f_X7_gotAll_L4, if_pos (by decide), kb_r0 m, hn, if_pos (Int32.le_refl _)]
/-! voices, voice by voice -/
def mq_w (s : ma_S) (x : Nat) : Nat := if s 1 x = 1 then 2 else 1
def mq_t (base : Nat → Int32) (w : Nat → Nat) (p : Nat → Nat → Bool) (k : Nat) : Nat → Int32 := fun j => if j < 16 then ma_i (w j * ma_ct (p j) k) else base j
theorem mq_t0 (base : Nat → Int32) (w : Nat → Nat) (p : Nat → Nat → Bool) : mc_row base (fun _ => 0) 16 = mq_t base w p 0 := by
  funext j
  unfold mc_row mq_t
  split
  · rfl
  · rfl
theorem mq_hit {base : Nat → Int32} {w : Nat → Nat} {p : Nat → Nat → Bool} {k y : Nat} (hy : y < 16) (hp : p y k = true) (hn : ∀ j, j < 16 → j ≠ y → p j k = false) : upd (mq_t base w p k) y (mq_t base w p k y + ma_i (w y)) = mq_t base w p (k + 1) := by
  funext j
  unfold upd
  by_cases e : j = y
  · subst e
    rw [if_pos rfl]
    unfold mq_t
    rw [if_pos hy, if_pos hy, ma_ct_s, hp, if_pos rfl, ma_add, Nat.mul_add, Nat.mul_one]
  · rw [if_neg e]
    unfold mq_t
    by_cases h16 : j < 16
    · rw [if_pos h16, if_pos h16, ma_ct_s, hn j h16 e]; rfl
    · rw [if_neg h16, if_neg h16]
theorem mq_miss {base : Nat → Int32} {w : Nat → Nat} {p : Nat → Nat → Bool} {k : Nat} (hn : ∀ j, j < 16 → p j k = false) : mq_t base w p k = mq_t base w p (k + 1) := by
  funext j
  unfold mq_t
  by_cases h16 : j < 16
  · rw [if_pos h16, if_pos h16, ma_ct_s, hn j h16]; rfl
  · rw [if_neg h16, if_neg h16]
def mq_pc (s : ma_S) (j c : Nat) : Bool := decide (¬ s 14 c < 0) && decide (s 7 (s 14 c).toNatClampNeg = ma_i j)
theorem kq_tally {B n : Nat} {t : ma_S} {m : fm_M} (hr : mr_rel B n (ma_c (m 2)) t) : f_X6_tallyVoices m = some (fm_up m 22 (mq_t (m 22) (mq_w (ma_c (m 2))) (mq_pc (ma_c (m 2))) 8)) := by
  have hn := mr_n hr
  have hs0 := hr.2.1
  unfold f_X6_tallyVoices
  have e0 : m = fm_up m 22 (mc_row (m 22) (fun _ => 0) 0) := by rw [mc_row_0, ma_pk]
  refine (congrArg (f_X6_tallyVoices_L2 fm_F (0 : Int32)) e0).trans ?_
  refine ma_loop (fun f k => f_X6_tallyVoices_L2 f (ma_i k) (fm_up m 22 (mc_row (m 22) (fun _ => 0) k))) 16 (fun f k hk => ?_) (fun f => ?_) fm_F 0 (by decide) (by decide)
  · show f_X6_tallyVoices_L2 (f + 1) _ _ = _
    rw [f_X6_tallyVoices_L2, if_neg (ma_g0 hk (by decide)), if_pos (ma_in hk (by omega)), ma_put, ka_up, ma_pp, ma_cn (by omega), ma_s1]
    have := mc_row_s (m 22) (fun _ => 0) k
    rw [this]
  · show f_X6_tallyVoices_L2 (f + 1) _ _ = _
    rw [f_X6_tallyVoices_L2, if_pos ma_g1, mq_t0 (m 22) (mq_w (ma_c (m 2))) (mq_pc (ma_c (m 2)))]
    refine ma_loop (fun f k => f_X6_tallyVoices_L26 f (ma_i k) (fm_up m 22 (mq_t (m 22) (mq_w (ma_c (m 2))) (mq_pc (ma_c (m 2))) k))) 8 (fun f k hk => ?_) (fun f => ?_) fm_F 0 (by decide) (by decide)
    · show f_X6_tallyVoices_L26 (f + 1) _ _ = f_X6_tallyVoices_L26 f _ (fm_up m 22 (mq_t (m 22) (mq_w (ma_c (m 2))) (mq_pc (ma_c (m 2))) (k + 1)))
      have h2 : (fm_up m 22 (mq_t (m 22) (mq_w (ma_c (m 2))) (mq_pc (ma_c (m 2))) k)) 2 = m 2 := ka_un m (by decide) _
      rw [f_X6_tallyVoices_L26, if_neg (ma_g0 hk (by decide)), ka_gc hk, Option.bind_some, ka_isBrother (n := n) (by rw [h2]; exact hs0), Option.bind_some, h2, ma_s1]
      rcases mr_cell hr hk with ⟨e, _⟩ | ⟨b, hb, e, _, e4, _, _⟩
      · rw [e, ma_br_neg (by decide), if_neg (by decide), mq_miss (fun j hj => by unfold mq_pc; rw [e]; rfl)]
      · have hcn : (ma_c (m 2) 14 k).toNatClampNeg = b := by rw [e, ma_cn (by omega)]
        have hnn : ¬ ma_c (m 2) 14 k < 0 := by rw [e]; exact ma_nn (by omega)
        rw [e, ma_br_i hn (by omega), if_pos (decide_eq_true hb), ka_of7 (by omega), Option.bind_some, h2]
        rcases hr.2.2.2.2.2.2.2.2.2.2.2.2.2.1 b hb with ⟨a1, a2⟩ | ⟨y, a1, a2, a3, a4, a5⟩
        · rw [a1, if_pos (by decide), mq_miss (fun j hj => by
            unfold mq_pc
            rw [hcn, a1, decide_eq_false (show ¬ (-15 : Int32) = ma_i j from fun hh => ma_ne (by omega) (by decide) hh.symm), Bool.and_false])]
        · have hy : y < 16 := by omega
          rw [a2, if_neg (ma_nn (by omega)), if_neg (ma_g0 (a := 16) hy (by decide)), if_pos (ma_in hy (by omega)), ka_of1 hy, Option.bind_some, h2, if_pos (ma_in hy (by omega)), if_pos (ma_in hy (by omega)), ma_cn (by omega)]
          have hit := mq_hit (base := m 22) (w := mq_w (ma_c (m 2))) (p := mq_pc (ma_c (m 2))) (k := k) hy (by unfold mq_pc; rw [hcn, a2, decide_eq_true hnn, decide_eq_true rfl]; rfl) (fun j hj hne => by
            unfold mq_pc
            rw [hcn, a2, decide_eq_false (show ¬ ma_i y = ma_i j from fun hh => hne ((ma_inj (by omega) (by omega)).mp hh).symm), Bool.and_false])
          simp only [ma_put, ka_up, ma_pp]
          rw [← hit]
          have hw : mq_w (ma_c (m 2)) y = if ma_c (m 2) 1 y = 1 then 2 else 1 := rfl
          rw [hw]
          by_cases h1 : ma_c (m 2) 1 y = 1
          · rw [if_pos h1, if_pos h1]; rfl
          · rw [if_neg h1, if_neg h1]; rfl
    · show f_X6_tallyVoices_L26 (f + 1) _ _ = _
      rw [f_X6_tallyVoices_L26, if_pos ma_g1]
def mq_pw (t : ma_S) (j b : Nat) : Bool := decide (t 7 b = ma_i (j + 1))
theorem kq_again7 {m : fm_M} {n x : Nat} (hn : n ≤ 16) (hn0 : ma_w (m 24) 16 0 = ma_i n) (hx : x < 16) (hv : ∀ b, b < n → ma_w (m 24) 7 b = 0 ∨ ∃ y, y < n ∧ ma_w (m 24) 7 b = ma_i (y + 1)) : f_X7_voicesAgain_L13 fm_F (ma_i x) (0 : Int32) m = some (ma_i (mq_w (ma_w (m 24)) x * ma_ct (mq_pw (ma_w (m 24)) x) n), fm_up m 28 (mq_t (m 28) (mq_w (ma_w (m 24))) (mq_pw (ma_w (m 24))) n)) := by
  have e0 : m = fm_up m 28 (mc_row (m 28) (fun _ => 0) 0) := by rw [mc_row_0, ma_pk]
  refine (congrArg (f_X7_voicesAgain_L13 fm_F (ma_i x) (0 : Int32)) e0).trans ?_
  refine ma_loop (fun f k => f_X7_voicesAgain_L13 f (ma_i x) (ma_i k) (fm_up m 28 (mc_row (m 28) (fun _ => 0) k))) 16 (fun f k hk => ?_) (fun f => ?_) fm_F 0 (by decide) (by decide)
  · show f_X7_voicesAgain_L13 (f + 1) _ _ _ = _
    rw [f_X7_voicesAgain_L13, if_neg (ma_g0 hk (by decide)), if_pos (ma_in hk (by omega)), ma_put, ka_up, ma_pp, ma_cn (by omega), ma_s1]
    have := mc_row_s (m 28) (fun _ => 0) k
    rw [this]
  · show f_X7_voicesAgain_L13 (f + 1) _ _ _ = _
    rw [f_X7_voicesAgain_L13, if_pos ma_g1, mq_t0 (m 28) (mq_w (ma_w (m 24))) (mq_pw (ma_w (m 24)))]
    refine ma_loop (fun f k => f_X7_voicesAgain_L34 f (ma_i x) (ma_i k) (fm_up m 28 (mq_t (m 28) (mq_w (ma_w (m 24))) (mq_pw (ma_w (m 24))) k))) n (fun f k hk => ?_) (fun f => ?_) fm_F 0 (Nat.zero_le _) (by unfold fm_F; omega)
    · show f_X7_voicesAgain_L34 (f + 1) _ _ _ = f_X7_voicesAgain_L34 f _ _ (fm_up m 28 (mq_t (m 28) (mq_w (ma_w (m 24))) (mq_pw (ma_w (m 24))) (k + 1)))
      have h2 : (fm_up m 28 (mq_t (m 28) (mq_w (ma_w (m 24))) (mq_pw (ma_w (m 24))) k)) 24 = m 24 := ka_un m (by decide) _
      rw [f_X7_voicesAgain_L34, if_pos (by decide), kb_r0 (fm_up m 28 _), h2, hn0, if_neg (kb_g0 hn hk), kb_of7 (by omega), Option.bind_some, h2, ma_s1]
      rcases hv k hk with a1 | ⟨y, a1, a2⟩
      · rw [a1, if_pos (by decide), mq_miss (fun j hj => by
          unfold mq_pw
          rw [a1]
          exact decide_eq_false (fun hh => by have := (ma_inj (a := 0) (by decide) (by omega)).mp hh; omega))]
      · have hy : y < 16 := by omega
        have es : ma_i (y + 1) - (1 : Int32) = ma_i y := ma_sub (a := y + 1) (b := 1) (by omega)
        rw [a2, es, if_neg (ma_nn (by omega)), if_pos (ma_in hy (by omega)), kb_countsFor hy, Option.bind_some, h2, if_pos (ma_in hy (by omega)), ma_cn (by omega)]
        have hit := mq_hit (base := m 28) (w := mq_w (ma_w (m 24))) (p := mq_pw (ma_w (m 24))) (k := k) hy (by unfold mq_pw; rw [a2]; exact decide_eq_true rfl) (fun j hj hne => by
          unfold mq_pw
          rw [a2]
          exact decide_eq_false (fun hh => hne (by have := (ma_inj (by omega) (by omega)).mp hh; omega)))
        simp only [ma_put, ka_up, ma_pp]
        rw [← hit]
        have hw : ma_i (mq_w (ma_w (m 24)) y) = if ma_w (m 24) 1 y = 1 then 2 else 1 := by
          unfold mq_w
          split <;> rfl
        rw [hw]
    · show f_X7_voicesAgain_L34 (f + 1) _ _ _ = _
      have h2 : (fm_up m 28 (mq_t (m 28) (mq_w (ma_w (m 24))) (mq_pw (ma_w (m 24))) n)) 24 = m 24 := ka_un m (by decide) _
      rw [f_X7_voicesAgain_L34, if_pos (by decide), kb_r0 (fm_up m 28 _), h2, hn0, if_pos (Int32.le_refl _), if_pos (ma_in hx (by omega)), ka_up, ma_cn (by omega)]
      have : mq_t (m 28) (mq_w (ma_w (m 24))) (mq_pw (ma_w (m 24))) n x = ma_i (mq_w (ma_w (m 24)) x * ma_ct (mq_pw (ma_w (m 24)) x) n) := by
        unfold mq_t
        rw [if_pos hx]
      rw [this]
theorem mu_char {c : Nat} (hc : c < 256) : vp_nar .char (((ma_i c).toUInt32 % 65536).toInt32) = ma_i c := by
  have key : ∀ c : Fin 256, vp_nar .char (((ma_i c.val).toUInt32 % 65536).toInt32) = ma_i c.val := by decide +kernel
  exact key ⟨c, hc⟩
theorem mu_add {p r n0 L : Nat} {m : fm_M} {x : Int32} (hpr : p ≠ r) (h1 : m p 1 = ma_i L) (hL : L < n0) (hn : n0 < 1000) : f_X4_add p r n0 x m = some (fm_up (fm_up m r (upd (m r) L x)) p (upd (m p) 1 (ma_i (L + 1)))) := by
  unfold f_X4_add
  have hle : ¬ (Int32.ofNat n0 ≤ ma_i L) := by
    have : ¬ ma_i n0 ≤ ma_i L := by rw [ma_le (by omega) (by omega)]; omega
    exact this
  rw [h1, if_neg (ma_nn (by omega)), if_neg hle, if_pos (ma_in hL (by omega)), ma_cn (by omega)]
  simp only [ma_put]
  rw [ka_un _ hpr, h1, ma_s1]
theorem upd_2 (f : Nat → Int32) (k : Nat) (x y : Int32) : upd (upd f k x) k y = upd f k y := by
  funext j
  unfold upd
  by_cases h : j = k
  · rw [if_pos h, if_pos h]
  · rw [if_neg h, if_neg h, if_neg h]
theorem ma_2 (m : fm_M) {a b : Nat} (hab : a ≠ b) (A B A2 B2 : Nat → Int32) : fm_up (fm_up (fm_up (fm_up m a A) b B) a A2) b B2 = fm_up (fm_up m a A2) b B2 := by
  rw [ma_pc _ (Ne.symm hab), ma_pp, ma_pp]
theorem ma_iz {k : Nat} (hk : k < 2147483648) : ma_i k ≤ 0 ↔ k = 0 := by
  have : ma_i k ≤ ma_i 0 ↔ k = 0 := by rw [ma_le hk (by decide)]; omega
  exact this
/-! the line of those who wait -/
theorem ma_ct_mono (p : Nat → Bool) (a : Nat) : ∀ d, ma_ct p a ≤ ma_ct p (a + d) := by
  intro d
  induction d with
  | zero => exact Nat.le_refl _
  | succ d ih => rw [← Nat.add_assoc, ma_ct_s]; omega
theorem ma_eta {α : Type} (x : Option (Int32 × α)) : (x.bind fun v => some (v.1, v.2)) = x := by cases x <;> rfl

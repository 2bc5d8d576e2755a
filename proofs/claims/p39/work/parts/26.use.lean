/-! what the relation says of the methods' answers -/
theorem mr_n {B n : Nat} {s t : ma_S} (h : mr_rel B n s t) : n ≤ 16 := h.1
theorem mr_how {B n : Nat} {s t : ma_S} (h : mr_rel B n s t) {b : Nat} (hb : b < n) : s 2 b = t 2 b := h.2.2.2.2.2.2.2.2.2.1 2 b (by decide) (by decide) (by decide) (by decide) hb
theorem mr_col {B n : Nat} {s t : ma_S} (h : mr_rel B n s t) {k b : Nat} (hk : k < 14) (h3 : k ≠ 3) (h7 : k ≠ 7) (h8 : k ≠ 8) (hb : b < n) : s k b = t k b := h.2.2.2.2.2.2.2.2.2.1 k b hk h3 h7 h8 hb
theorem mr_new2 {B n : Nat} {s t : ma_S} (h : mr_rel B n s t) {b : Nat} (h1 : n ≤ b) (h2 : b < 16) : s 2 b = -1 := by
  obtain ⟨hn, hs0, ht0, hsc, hwk, hch, hpd, hfe, hfn, hcol, hgo, hba, hbr, hvo, hce, hcb, hst, hsi, hsl, hwl, hnew⟩ := h
  exact (hnew b h1 h2).1
theorem mr_that {B n : Nat} {s t : ma_S} (h : mr_rel B n s t) {x : Int32} (hx : x ≠ -1) : ma_ct (fun b => decide (s 2 b = x)) 16 = ma_ct (fun b => decide (t 2 b = x)) n := by
  rw [ma_ct_cut 16 (mr_n h) (fun j h1 h2 => ?_)]
  · exact ma_ct_congr n (fun j hj => by rw [mr_how h hj])
  · rw [mr_new2 h h1 h2]
    exact decide_eq_false (fun e => hx e.symm)
theorem mr_ent {B n : Nat} {s t : ma_S} (h : mr_rel B n s t) : ma_ct (fun b => decide (s 2 b = 1) && decide (s 5 b = 0)) 16 = ma_ct (fun b => decide (t 2 b = 1) && decide (t 5 b = 0)) n := by
  have h1n : ¬ (-1 : Int32) = 1 := by decide
  rw [ma_ct_cut 16 (mr_n h) (fun j h1 h2 => ?_)]
  · exact ma_ct_congr n (fun j hj => by rw [mr_how h hj, mr_col h (k := 5) (by decide) (by decide) (by decide) (by decide) hj])
  · rw [mr_new2 h h1 h2]
    simp [h1n]
theorem mr_vot {B n : Nat} {s t : ma_S} (h : mr_rel B n s t) {b x : Nat} (hb : b < n) (hx : x < n) : decide (s 7 b = ma_i x) = decide (t 7 b = ma_i (x + 1)) := by
  obtain ⟨hn, hs0, ht0, hsc, hwk, hch, hpd, hfe, hfn, hcol, hgo, hba, hbr, hvo, hce, hcb, hst, hsi, hsl, hwl, hnew⟩ := h
  rcases hvo b hb with ⟨h1, h2⟩ | ⟨y, h1, h2, h3, h4, h5⟩
  · rw [h1, h2]
    have a1 : ¬ (-15 : Int32) = ma_i x := fun e => ma_ne (show x < 2147483648 by omega) (by decide) e.symm
    have a2 : ¬ (0 : Int32) = ma_i (x + 1) := by
      intro e
      have := (ma_inj (show 0 < 2147483648 by decide) (show x + 1 < 2147483648 by omega)).mp e
      omega
    rw [decide_eq_false a1, decide_eq_false a2]
  · rw [h2, h3]
    apply decide_eq_decide.mpr
    rw [ma_inj (by omega) (by omega), ma_inj (by omega) (by omega)]
    omega
theorem mr_ctv {B n : Nat} {s t : ma_S} (h : mr_rel B n s t) {x : Nat} (hx : x < n) : ma_ct (fun b => decide (s 7 b = ma_i x)) 16 = ma_ct (fun b => decide (t 7 b = ma_i (x + 1))) n := by
  rw [ma_ct_cut 16 (mr_n h) (fun j h1 h2 => ?_)]
  · exact ma_ct_congr n (fun j hj => mr_vot h hj hx)
  · obtain ⟨hn, hs0, ht0, hsc, hwk, hch, hpd, hfe, hfn, hcol, hgo, hba, hbr, hvo, hce, hcb, hst, hsi, hsl, hwl, hnew⟩ := h
    rw [(hnew j h1 h2).2.2.1]
    exact decide_eq_false (fun e => ma_ne (show x < 2147483648 by omega) (by decide) e.symm)
theorem mr_vo {B n : Nat} {s t : ma_S} (h : mr_rel B n s t) {x : Nat} (hx : x < n) : mc_vo s x = mb_vo t n x := by
  unfold mc_vo mb_vo
  rw [mr_ctv h hx, mr_col h (k := 1) (by decide) (by decide) (by decide) (by decide) hx]
  by_cases h0 : t 2 x = 0
  · rw [if_pos h0]
  · rw [if_neg h0]
    have hz : ma_ct (fun b => decide (t 7 b = ma_i (x + 1))) n = 0 := by
      rw [ma_ct_0]
      intro j hj
      rw [← mr_vot h hj hx]
      have hw := mr_how h hx
      obtain ⟨hn, hs0, ht0, hsc, hwk, hch, hpd, hfe, hfn, hcol, hgo, hba, hbr, hvo, hce, hcb, hst, hsi, hsl, hwl, hnew⟩ := h
      apply decide_eq_false
      intro e
      rcases hvo j hj with ⟨h1, h2⟩ | ⟨y, h1, h2, h3, h4, h5⟩
      · rw [h1] at e; exact ma_ne (show x < 2147483648 by omega) (by decide) e.symm
      · rw [h2] at e
        have := (ma_inj (by omega) (by omega)).mp e
        rw [this] at h5
        exact h0 (by rw [← hw]; exact h5)
    rw [hz]
    split <;> rfl
theorem mr_kv_pos (s : ma_S) {b : Nat} (hb : b < 16) (h : s 2 b = 0) : ¬ mc_kv s b < 0 := by
  unfold mc_kv
  rw [if_pos h]
  have := mc_vo_le s b
  exact ma_nn (by omega)
theorem mr_kv_neg {B n : Nat} {s t : ma_S} (h : mr_rel B n s t) {b : Nat} (hb : b < 16) (hw : b < n → decide (t 2 b = 0) = false) : mc_kv s b = -1 := by
  unfold mc_kv
  rw [if_neg]
  intro h0
  by_cases e : b < n
  · have := hw e
    rw [← mr_how h e, h0] at this
    cases this
  · rw [mr_new2 h (by omega) hb] at h0
    revert h0
    decide
theorem mr_ranked {B n : Nat} {s t : ma_S} (h : mr_rel B n s t) (x : Int32) : mc_rank (mc_kv s) x = if ma_ff (mb_rankedAtP t n x) n 0 < n then ma_i (ma_ff (mb_rankedAtP t n x) n 0) else -11 := by
  have hn := mr_n h
  refine mr_rank (W := fun b => decide (t 2 b = 0)) (ah := mb_ca t n) hn (fun b hb hw => ?_) (fun b hb hw => mr_kv_neg h hb hw) (fun k b hk hb hwk hwb => ?_) x
  · exact mr_kv_pos s (by omega) (by rw [mr_how h hb]; exact of_decide_eq_true hw)
  · have hk0 : s 2 k = 0 := by rw [mr_how h hk]; exact of_decide_eq_true hwk
    have hb0 : s 2 b = 0 := by rw [mr_how h hb]; exact of_decide_eq_true hwb
    unfold mc_kv mb_ca mb_sr
    rw [if_pos hk0, if_pos hb0, mr_vo h hk, mr_vo h hb]
    have l1 := mb_vo_le t hn k
    have l2 := mb_vo_le t hn b
    rw [ma_lt (by omega) (by omega)]
    by_cases e : mb_vo t n k = mb_vo t n b
    · rw [if_pos e, e]
      obtain ⟨hn, hs0, ht0, hsc, hwk, hch, hpd, hfe, hfn, hcol, hgo, hba, hbr, hvo, hce, hcb, hst, hsi, hsl, hwl, hnew⟩ := h
      rw [decide_eq_true_eq]
      constructor
      · intro hlt
        exact hwl k b (by omega) hb hk0 hb0
      · intro hlt
        rcases Nat.lt_trichotomy k b with c | c | c
        · omega
        · rw [c] at hlt; exact absurd hlt Int32.lt_irrefl
        · exact absurd (Int32.lt_trans hlt (hwl b k c hk hb0 hk0)) Int32.lt_irrefl
    · rw [if_neg e, decide_eq_true_eq]
      omega
/-- gowns: B is small -/
theorem mr_si {B n : Nat} {s t : ma_S} (h : mr_rel B n s t) : ∀ b, b < n → s 2 b = 1 → ∃ z, z < 16 ∧ s 8 b = ma_i z := by
  obtain ⟨hn, hs0, ht0, hsc, hwk, hch, hpd, hfe, hfn, hcol, hgo, hba, hbr, hvo, hce, hcb, hst, ⟨ch, h1, h2, h3⟩, hsl, hwl, hnew⟩ := h
  intro b hb hw
  obtain ⟨z, h4, h5⟩ := h3 b hb hw
  exact ⟨z, by omega, h5⟩
theorem mr_kg {B n : Nat} {s t : ma_S} (h : mr_rel B n s t) {b : Nat} (hb : b < n) (hw : s 2 b = 1) : ∃ g z, g ≤ B ∧ z < 16 ∧ s 4 b = ma_i g ∧ s 8 b = ma_i z ∧ mc_kg s b = ma_i (g * 16 + 15 - z) := by
  obtain ⟨z, hz, ez⟩ := mr_si h b hb hw
  obtain ⟨hn, hs0, ht0, hsc, hwk, hch, hpd, hfe, hfn, hcol, hgo, hba, hbr, hvo, hce, hcb, hst, hsi, hsl, hwl, hnew⟩ := h
  obtain ⟨g, hg, eg⟩ := hgo b hb
  refine ⟨g, z, hg, hz, eg, ez, ?_⟩
  unfold mc_kg
  rw [if_pos hw, eg, ez]
  have h16 : (16 : Int32) = ma_i 16 := rfl
  have h1 : (1 : Int32) = ma_i 1 := rfl
  rw [h16, h1, ma_add, ma_mul, ma_sub (by omega), ma_sub (by omega)]
  congr 1
  omega
theorem mr_k1_neg {B n : Nat} {s t : ma_S} (h : mr_rel B n s t) {b : Nat} (hb : b < 16) (hw : b < n → decide (t 2 b = 1) = false) : ¬ s 2 b = 1 := by
  intro h0
  by_cases e : b < n
  · have := hw e
    rw [← mr_how h e, h0] at this
    cases this
  · rw [mr_new2 h (by omega) hb] at h0
    revert h0
    decide
theorem mr_shabby {B n : Nat} {s t : ma_S} (h : mr_rel B n s t) (hB : B < 1000000) (x : Int32) : mc_rank (mc_kg s) x = if ma_ff (mb_shabbyAtP t n x) n 0 < n then ma_i (ma_ff (mb_shabbyAtP t n x) n 0) else -11 := by
  have hn := mr_n h
  refine mr_rank (W := fun b => decide (t 2 b = 1)) (ah := mb_sh t) hn (fun b hb hw => ?_) (fun b hb hw => ?_) (fun k b hk hb hwk hwb => ?_) x
  · obtain ⟨g, z, h1, h2, h3, h4, h5⟩ := mr_kg h hb (by rw [mr_how h hb]; exact of_decide_eq_true hw)
    rw [h5]
    exact ma_nn (by omega)
  · unfold mc_kg
    rw [if_neg (mr_k1_neg h hb hw)]
  · have hk1 : s 2 k = 1 := by rw [mr_how h hk]; exact of_decide_eq_true hwk
    have hb1 : s 2 b = 1 := by rw [mr_how h hb]; exact of_decide_eq_true hwb
    obtain ⟨g, z, h1, h2, h3, h4, h5⟩ := mr_kg h hk hk1
    obtain ⟨g', z', h1', h2', h3', h4', h5'⟩ := mr_kg h hb hb1
    have c1 := mr_col h (k := 4) (by decide) (by decide) (by decide) (by decide) hk
    have c2 := mr_col h (k := 4) (by decide) (by decide) (by decide) (by decide) hb
    obtain ⟨hn, hs0, ht0, hsc, hwk, hch, hpd, hfe, hfn, hcol, hgo, hba, hbr, hvo, hce, hcb, hst, hsi, hsl, hwl, hnew⟩ := h
    have hl := hsl k b hk hb hk1 hb1
    rw [h4, h4', ma_lt (by omega) (by omega)] at hl
    rw [h5, h5', ma_lt (by omega) (by omega)]
    unfold mb_sh mb_sr
    rw [← c1, ← c2, h3, h3']
    by_cases e : g = g'
    · rw [if_pos (by rw [e]), decide_eq_true_eq, ← hl]
      omega
    · rw [if_neg (by rw [ma_inj (by omega) (by omega)]; exact e), decide_eq_true_eq, ma_lt (by omega) (by omega)]
      omega
theorem mr_senior {B n : Nat} {s t : ma_S} (h : mr_rel B n s t) (x : Int32) : mc_rank (mc_kt s) x = if ma_ff (mb_seniorP t n x) n 0 < n then ma_i (ma_ff (mb_seniorP t n x) n 0) else -11 := by
  have hn := mr_n h
  have key : ∀ b, b < n → s 2 b = 1 → ∃ z, z < 16 ∧ s 8 b = ma_i z ∧ mc_kt s b = ma_i (15 - z) := by
    intro b hb hw
    obtain ⟨z, hz, ez⟩ := mr_si h b hb hw
    refine ⟨z, hz, ez, ?_⟩
    unfold mc_kt
    rw [if_pos hw, ez]
    have h15 : (15 : Int32) = ma_i 15 := rfl
    rw [h15, ma_sub (by omega)]
  refine mr_rank (W := fun b => decide (t 2 b = 1)) (ah := mb_sr t) hn (fun b hb hw => ?_) (fun b hb hw => ?_) (fun k b hk hb hwk hwb => ?_) x
  · obtain ⟨z, h2, h4, h5⟩ := key b hb (by rw [mr_how h hb]; exact of_decide_eq_true hw)
    rw [h5]
    exact ma_nn (by omega)
  · unfold mc_kt
    rw [if_neg (mr_k1_neg h hb hw)]
  · have hk1 : s 2 k = 1 := by rw [mr_how h hk]; exact of_decide_eq_true hwk
    have hb1 : s 2 b = 1 := by rw [mr_how h hb]; exact of_decide_eq_true hwb
    obtain ⟨z, h2, h4, h5⟩ := key k hk hk1
    obtain ⟨z', h2', h4', h5'⟩ := key b hb hb1
    obtain ⟨hn, hs0, ht0, hsc, hwk, hch, hpd, hfe, hfn, hcol, hgo, hba, hbr, hvo, hce, hcb, hst, hsi, hsl, hwl, hnew⟩ := h
    have hl := hsl k b hk hb hk1 hb1
    rw [h4, h4', ma_lt (by omega) (by omega)] at hl
    rw [h5, h5', ma_lt (by omega) (by omega)]
    unfold mb_sr
    rw [decide_eq_true_eq, ← hl]
    omega
/-! cells -/
theorem mr_in {B n : Nat} {s t : ma_S} (h : mr_rel B n s t) {c : Nat} (hc : c < 8) : (if mb_in t n (ma_i c) < n then ma_i (mb_in t n (ma_i c)) else -15) = s 14 c := by
  have hw : ∀ b, b < n → s 2 b = t 2 b := fun b hb => mr_how h hb
  obtain ⟨hn, hs0, ht0, hsc, hwk, hch, hpd, hfe, hfn, hcol, hgo, hba, hbr, hvo, hce, hcb, hst, hsi, hsl, hwl, hnew⟩ := h
  unfold mb_in
  rcases ma_ff_spec (fun b => decide (t 2 b = 1) && decide (t 3 b = ma_i c)) n 0 with ⟨h1, h2, h3, h4⟩ | ⟨h1, h2⟩
  · generalize ma_ff (fun b => decide (t 2 b = 1) && decide (t 3 b = ma_i c)) n 0 = b at h1 h2 h3 h4
    simp only [Bool.and_eq_true, decide_eq_true_eq] at h3
    rw [if_pos (by omega)]
    obtain ⟨d, e1, e2, e3, e4⟩ := (hce b (by omega)).1 (by rw [hw b (by omega)]; exact h3.1)
    rw [h3.2] at e3
    have := (ma_inj (by omega) (by omega)).mp e3
    rw [this, e4]
  · rw [if_neg (by omega)]
    rcases hcb c hc with e | ⟨b, e1, e2, e3, e4⟩
    · exact e.symm
    · have := h2 b (by omega) (by omega)
      obtain ⟨d, f1, f2, f3, f4⟩ := (hce b e1).1 e3
      rw [e4] at f2
      have hd := (ma_inj (by omega) (by omega)).mp f2
      rw [← hw b e1, e3, f3, ← hd] at this
      simp at this
theorem mr_cell {B n : Nat} {s t : ma_S} (h : mr_rel B n s t) {c : Nat} (hc : c < 8) : (s 14 c = -15 ∧ ¬ mb_in t n (ma_i c) < n) ∨ ∃ b, b < n ∧ s 14 c = ma_i b ∧ mb_in t n (ma_i c) = b ∧ s 2 b = 1 ∧ s 3 b = ma_i c ∧ t 3 b = ma_i c := by
  have hi := mr_in h hc
  have hn := mr_n h
  by_cases e : mb_in t n (ma_i c) < n
  · right
    rw [if_pos e] at hi
    obtain ⟨hn, hs0, ht0, hsc, hwk, hch, hpd, hfe, hfn, hcol, hgo, hba, hbr, hvo, hce, hcb, hst, hsi, hsl, hwl, hnew⟩ := h
    rcases hcb c hc with e1 | ⟨b, e1, e2, e3, e4⟩
    · rw [e1] at hi
      exact absurd hi (ma_ne (by omega) (by decide))
    · rw [e2] at hi
      have hb := (ma_inj (by omega) (by omega)).mp hi
      obtain ⟨d, f1, f2, f3, f4⟩ := (hce b e1).1 e3
      rw [e4] at f2
      have hd := (ma_inj (by omega) (by omega)).mp f2
      exact ⟨b, e1, e2, hb, e3, e4, by rw [f3, hd]⟩
  · left
    rw [if_neg e] at hi
    exact ⟨hi.symm, e⟩
/-- who is in a cell, counted by the cells -/
theorem mr_bycell {B n : Nat} {s t : ma_S} (h : mr_rel B n s t) (P : Nat → Bool) : ma_ct (fun c => decide (¬ s 14 c < 0) && P (s 14 c).toNatClampNeg) 8 = ma_ct (fun b => decide (s 2 b = 1) && P b) n := by
  have hn := mr_n h
  symm
  refine ma_ct_bij n _ _ (fun b => (s 3 b).toNatClampNeg) (fun c => (s 14 c).toNatClampNeg) (fun b hb hq => ?_) (fun c hc hr => ?_)
  · simp only [Bool.and_eq_true, decide_eq_true_eq] at hq
    obtain ⟨hn, hs0, ht0, hsc, hwk, hch, hpd, hfe, hfn, hcol, hgo, hba, hbr, hvo, hce, hcb, hst, hsi, hsl, hwl, hnew⟩ := h
    obtain ⟨d, e1, e2, e3, e4⟩ := (hce b hb).1 hq.1
    have x1 : (s 3 b).toNatClampNeg = d := by rw [e2, ma_cn (by omega)]
    have x2 : (s 14 d).toNatClampNeg = b := by rw [e4, ma_cn (by omega)]
    show (s 3 b).toNatClampNeg < 8 ∧ _
    rw [x1, x2]
    refine ⟨e1, ?_, rfl⟩
    rw [e4, decide_eq_true (ma_nn (by omega)), hq.2]
    rfl
  · simp only [Bool.and_eq_true, decide_eq_true_eq] at hr
    rcases mr_cell h hc with ⟨e, _⟩ | ⟨b, e1, e2, e3, e4, e5, e6⟩
    · rw [e] at hr; exact absurd (by decide) hr.1
    · have x1 : (s 14 c).toNatClampNeg = b := by rw [e2, ma_cn (by omega)]
      have x2 : (s 3 b).toNatClampNeg = c := by rw [e5, ma_cn (by omega)]
      show (s 14 c).toNatClampNeg < n ∧ _
      rw [x1] at hr ⊢
      rw [x2]
      refine ⟨e1, ?_, rfl⟩
      rw [decide_eq_true e4, hr.2]
      rfl
theorem mr_occ {B n : Nat} {s t : ma_S} (h : mr_rel B n s t) : ma_ct (fun c => decide (¬ s 14 c < 0)) 8 = ma_ct (fun b => decide (s 2 b = 1)) n := by
  have := mr_bycell h (fun _ => true)
  simpa using this

/-! THE RELATION of the class's state s and the reference's state t: n brethren came; gowns, bans and stamps are at most B -/
def mr_rel (B n : Nat) (s t : ma_S) : Prop :=
  n ≤ 16 ∧ s 16 0 = ma_i n ∧ t 16 0 = ma_i n ∧
  (∀ j, 2 ≤ j → j ≤ 9 → s 16 j = t 16 j) ∧
  (∃ k, k < 52 ∧ s 16 3 = ma_i k) ∧
  (∃ c, c ≤ 9999 ∧ s 16 4 = ma_i c) ∧
  (∃ c, c ≤ 2 ∧ s 16 9 = ma_i c) ∧
  (∀ k, k < 52 → s 15 k = t 15 k ∧ ∃ c, c ≤ 9 ∧ s 15 k = ma_i c) ∧
  (ma_ct (fun k => decide (0 < s 15 k)) 52 ≤ 6 ∧ t 16 10 = ma_i (ma_ct (fun k => decide (0 < s 15 k)) 52)) ∧
  (∀ k b, k < 14 → k ≠ 3 → k ≠ 7 → k ≠ 8 → b < n → s k b = t k b) ∧
  (∀ b, b < n → ∃ g, g ≤ B ∧ s 4 b = ma_i g) ∧
  (∀ b, b < n → (∃ g, g ≤ B ∧ s 5 b = ma_i g) ∧ (s 2 b ≠ 1 → s 5 b = 0)) ∧
  (∀ b j, b < n → j < 5 → (s 2 b = 0 ∨ s 2 b = 1) → ∃ g, g ≤ 2 ∧ s (9 + j) b = ma_i g) ∧
  (∀ b, b < n → (s 7 b = -15 ∧ t 7 b = 0) ∨ (∃ x, x < n ∧ s 7 b = ma_i x ∧ t 7 b = ma_i (x + 1) ∧ s 2 b = 1 ∧ s 2 x = 0)) ∧
  (∀ b, b < n → (s 2 b = 1 → ∃ c, c < 8 ∧ s 3 b = ma_i c ∧ t 3 b = ma_i c ∧ s 14 c = ma_i b) ∧ (s 2 b ≠ 1 → s 3 b = -15)) ∧
  (∀ c, c < 8 → s 14 c = -15 ∨ ∃ b, b < n ∧ s 14 c = ma_i b ∧ s 2 b = 1 ∧ s 3 b = ma_i c) ∧
  (∃ st, st ≤ B ∧ t 16 1 = ma_i st ∧ ∀ b, b < n → ∃ z, z ≤ st ∧ t 8 b = ma_i z) ∧
  (∃ ch, s 16 1 = ma_i ch ∧ ch + ma_ct (fun b => decide (s 2 b = 0)) n ≤ n ∧ ∀ b, b < n → s 2 b = 1 → ∃ z, z < ch ∧ s 8 b = ma_i z) ∧
  (∀ a b, a < n → b < n → s 2 a = 1 → s 2 b = 1 → (s 8 a < s 8 b ↔ t 8 a < t 8 b)) ∧
  (∀ a b, a < b → b < n → s 2 a = 0 → s 2 b = 0 → t 8 a < t 8 b) ∧
  (∀ b, n ≤ b → b < 16 → s 2 b = -1 ∧ s 3 b = -15 ∧ s 7 b = -15 ∧ (∀ k, k < 14 → 4 ≤ k → k ≠ 7 → k ≠ 8 → s k b = 0 ∧ t k b = 0) ∧ t 2 b = 0 ∧ t 7 b = 0)
theorem mr_mono {B B2 n : Nat} {s t : ma_S} (h : mr_rel B n s t) (hB : B ≤ B2) : mr_rel B2 n s t := by
  obtain ⟨hn, hs0, ht0, hsc, hwk, hch, hpd, hfe, hfn, hcol, hgo, hba, hbr, hvo, hce, hcb, hst, hsi, hsl, hwl, hnew⟩ := h
  refine ⟨hn, hs0, ht0, hsc, hwk, hch, hpd, hfe, hfn, hcol, ?_, ?_, hbr, hvo, hce, hcb, ?_, hsi, hsl, hwl, hnew⟩
  · intro b hb
    obtain ⟨g, h1, h2⟩ := hgo b hb
    exact ⟨g, by omega, h2⟩
  · intro b hb
    obtain ⟨⟨g, h1, h2⟩, h3⟩ := hba b hb
    exact ⟨⟨g, by omega, h2⟩, h3⟩
  · obtain ⟨st, h1, h2⟩ := hst
    exact ⟨st, by omega, h2⟩
/-- a bijection counts -/
theorem ma_ct_bij {m : Nat} : ∀ (n : Nat) (Q R : Nat → Bool) (f g : Nat → Nat), (∀ b, b < n → Q b = true → f b < m ∧ R (f b) = true ∧ g (f b) = b) → (∀ c, c < m → R c = true → g c < n ∧ Q (g c) = true ∧ f (g c) = c) → ma_ct Q n = ma_ct R m := by
  intro n
  induction n with
  | zero =>
    intro Q R f g _ h2
    symm
    rw [ma_ct, ma_ct_0]
    intro j hj
    cases h : R j with
    | false => rfl
    | true => have := (h2 j hj h).1; omega
  | succ n ih =>
    intro Q R f g h1 h2
    rw [ma_ct_s]
    cases hq : Q n with
    | false =>
      rw [ih Q R f g (fun b hb => h1 b (by omega)) (fun c hc hr => ?_)]
      · rfl
      · obtain ⟨a1, a2, a3⟩ := h2 c hc hr
        refine ⟨?_, a2, a3⟩
        by_cases e : g c = n
        · rw [e, hq] at a2; cases a2
        · omega
    | true =>
      obtain ⟨b1, b2, b3⟩ := h1 n (by omega) hq
      have e : ma_ct Q n = ma_ct (fun c => R c && decide (c ≠ f n)) m := by
        refine ih Q _ f g (fun b hb hqb => ?_) (fun c hc hr => ?_)
        · obtain ⟨a1, a2, a3⟩ := h1 b (by omega) hqb
          refine ⟨a1, ?_, a3⟩
          have : f b ≠ f n := by intro h; rw [h, b3] at a3; omega
          simp [a2, this]
        · simp only [Bool.and_eq_true, decide_eq_true_eq] at hr
          obtain ⟨a1, a2, a3⟩ := h2 c hc hr.1
          refine ⟨?_, a2, a3⟩
          by_cases e : g c = n
          · rw [e] at a3; exact absurd a3.symm hr.2
          · omega
      rw [e, if_pos rfl]
      have key := ma_ct_one (p := R) (q := fun c => R c && decide (c ≠ f n)) (i := f n) m (fun j _ hne => by simp [hne])
      rw [if_neg (by simp), if_pos ⟨b1, b2⟩] at key
      omega
/-- the first of a predicate, cut to n -/
theorem ma_ff_cut {p : Nat → Bool} {n N : Nat} (hn : n ≤ N) (h : ∀ j, n ≤ j → j < N → p j = false) (Z : Int32) : (if ma_ff p N 0 < N then ma_i (ma_ff p N 0) else Z) = (if ma_ff p n 0 < n then ma_i (ma_ff p n 0) else Z) := by
  rcases ma_ff_spec p N 0 with ⟨h1, h2, h3, h4⟩ | ⟨h1, h2⟩
  · have hlt : ma_ff p N 0 < n := by
      by_cases e : ma_ff p N 0 < n
      · exact e
      · rw [h _ (by omega) (by omega)] at h3; cases h3
    rcases ma_ff_spec p n 0 with ⟨g1, g2, g3, g4⟩ | ⟨g1, g2⟩
    · have : ma_ff p N 0 = ma_ff p n 0 := by
        rcases Nat.lt_trichotomy (ma_ff p N 0) (ma_ff p n 0) with e | e | e
        · rw [g4 _ (by omega) e] at h3; cases h3
        · exact e
        · rw [h4 _ (by omega) e] at g3; cases g3
      rw [this, if_pos (by omega), if_pos (by omega)]
    · rw [g2 _ (by omega) (by omega)] at h3; cases h3
  · rcases ma_ff_spec p n 0 with ⟨g1, g2, g3, g4⟩ | ⟨g1, g2⟩
    · rw [h2 _ (by omega) (by omega)] at g3; cases g3
    · rw [if_neg (by omega), if_neg (by omega)]
theorem mr_rank {key : Nat → Int32} {n : Nat} {W : Nat → Bool} {ah : Nat → Nat → Bool} (hn : n ≤ 16) (hpos : ∀ b, b < n → W b = true → ¬ key b < 0) (hneg : ∀ b, b < 16 → (b < n → W b = false) → key b = -1) (hcmp : ∀ k b, k < n → b < n → W k = true → W b = true → (key b < key k ↔ ah k b = true)) (x : Int32) : mc_rank key x = if ma_ff (fun b => W b && decide (ma_i (ma_ct (fun k => W k && ah k b) n) = x)) n 0 < n then ma_i (ma_ff (fun b => W b && decide (ma_i (ma_ct (fun k => W k && ah k b) n) = x)) n 0) else -11 := by
  unfold mc_rank
  have hm1 : (-1 : Int32) < 0 := by decide
  rw [ma_ff_cut hn (fun j h1 h2 => ?_) (-11)]
  · have e : ma_ff (mc_pl key x) n 0 = ma_ff (fun b => W b && decide (ma_i (ma_ct (fun k => W k && ah k b) n) = x)) n 0 := by
      refine ma_ff_congr n 0 (fun b _ hb => ?_)
      have hb : b < n := by omega
      unfold mc_pl
      cases hw : W b with
      | false =>
        rw [hneg b (by omega) (fun _ => hw)]
        simp [hm1]
      | true =>
        have hp := hpos b hb hw
        have ec : ma_ct (fun k => decide (key b < key k)) 16 = ma_ct (fun k => W k && ah k b) n := by
          rw [ma_ct_cut 16 hn (fun k h1 h2 => ?_)]
          · refine ma_ct_congr n (fun k hk => ?_)
            cases hwk : W k with
            | false =>
              rw [hneg k (by omega) (fun _ => hwk), Bool.false_and]
              have : ¬ key b < -1 := fun h => hp (Int32.lt_trans h hm1)
              simp [this]
            | true =>
              rw [Bool.true_and]
              have := hcmp k b hk hb hwk hw
              cases hah : ah k b with
              | true => rw [hah] at this; exact decide_eq_true (this.mpr rfl)
              | false => rw [hah] at this; exact decide_eq_false (fun h => by have := this.mp h; cases this)
          · rw [hneg k h2 (fun h => by omega)]
            have : ¬ key b < -1 := fun h => hp (Int32.lt_trans h hm1)
            simp [this]
        rw [ec, decide_eq_true hp]
    rw [e]
  · unfold mc_pl
    rw [hneg j h2 (fun h => by omega)]
    simp [hm1]
theorem mc_pl_iff {key : Nat → Int32} {x : Int32} {b : Nat} : mc_pl key x b = true ↔ ¬ key b < 0 ∧ ma_i (ma_ct (fun k => decide (key b < key k)) 16) = x := by
  unfold mc_pl
  rw [Bool.and_eq_true, decide_eq_true_eq, decide_eq_true_eq]
/-- a first one exists -/
theorem ma_max (key : Nat → Int32) (W : Nat → Bool) : ∀ n, (∃ b, b < n ∧ W b = true) → ∃ b, b < n ∧ W b = true ∧ ∀ k, k < n → W k = true → ¬ key b < key k := by
  intro n
  induction n with
  | zero => rintro ⟨b, hb, _⟩; omega
  | succ n ih =>
    rintro ⟨b, hb, hw⟩
    by_cases h : ∃ b, b < n ∧ W b = true
    · obtain ⟨c, hc, hcw, hmax⟩ := ih h
      by_cases hn : W n = true ∧ key c < key n
      · refine ⟨n, by omega, hn.1, fun k hk hkw => ?_⟩
        by_cases e : k = n
        · rw [e]; exact Int32.lt_irrefl
        · intro h2
          exact hmax k (by omega) hkw (Int32.lt_trans hn.2 h2)
      · refine ⟨c, by omega, hcw, fun k hk hkw => ?_⟩
        by_cases e : k = n
        · rw [e]; intro h2; exact hn ⟨by rw [← e]; exact hkw, h2⟩
        · exact hmax k (by omega) hkw
    · have e : b = n := by
        by_cases e : b = n
        · exact e
        · exact absurd ⟨b, by omega, hw⟩ h
      refine ⟨n, by omega, by rw [← e]; exact hw, fun k hk hkw => ?_⟩
      by_cases e2 : k = n
      · rw [e2]; exact Int32.lt_irrefl
      · exact absurd ⟨k, by omega, hkw⟩ h
theorem mr_rank0 {key : Nat → Int32} {n : Nat} {W : Nat → Bool} (hn : n ≤ 16) (hpos : ∀ b, b < n → W b = true → ¬ key b < 0) (hneg : ∀ b, b < 16 → (b < n → W b = false) → key b = -1) (hex : ∃ b, b < n ∧ W b = true) : ∃ b, b < n ∧ W b = true ∧ mc_rank key 0 = ma_i b ∧ ∀ k, k < 16 → ¬ key b < key k := by
  have hm1 : (-1 : Int32) < 0 := by decide
  obtain ⟨c, hc, hcw, hmax⟩ := ma_max key W n hex
  have hall : ∀ k, k < 16 → ¬ key c < key k := by
    intro k hk
    by_cases hkw : k < n ∧ W k = true
    · exact hmax k hkw.1 hkw.2
    · rw [hneg k hk (fun h => by cases hh : W k with
        | false => rfl
        | true => exact absurd ⟨h, hh⟩ hkw)]
      exact fun h => hpos c hc hcw (Int32.lt_trans h hm1)
  have hp : mc_pl key 0 c = true := by
    unfold mc_pl
    rw [decide_eq_true (hpos c hc hcw), Bool.true_and]
    have : ma_ct (fun k => decide (key c < key k)) 16 = 0 := (ma_ct_0 16).mpr (fun j hj => decide_eq_false (hall j hj))
    rw [this]
    decide
  rcases ma_ff_spec (mc_pl key 0) 16 0 with ⟨h1, h2, h3, h4⟩ | ⟨h1, h2⟩
  · have hf := mc_pl_iff.mp h3
    have hz : ma_ct (fun k => decide (key (ma_ff (mc_pl key 0) 16 0) < key k)) 16 = 0 := by
      have h5 := ma_ct_le (fun k => decide (key (ma_ff (mc_pl key 0) 16 0) < key k)) 16
      exact (ma_inj (by omega) (by decide)).mp hf.2
    have hw : ma_ff (mc_pl key 0) 16 0 < n ∧ W (ma_ff (mc_pl key 0) 16 0) = true := by
      apply Classical.byContradiction
      intro hcon
      have := hneg _ (show ma_ff (mc_pl key 0) 16 0 < 16 by omega) (fun h => by cases hh : W (ma_ff (mc_pl key 0) 16 0) with
        | false => rfl
        | true => exact absurd ⟨h, hh⟩ hcon)
      rw [this] at hf
      exact hf.1 hm1
    refine ⟨ma_ff (mc_pl key 0) 16 0, hw.1, hw.2, ?_, fun k hk => ?_⟩
    · unfold mc_rank
      rw [if_pos (by omega)]
    · have := (ma_ct_0 16).mp hz k hk
      simpa using this
  · rw [h2 c (by omega) (by omega)] at hp; cases hp
theorem mr_rankN {key : Nat → Int32} {n : Nat} (hneg : ∀ b, b < 16 → key b = -1) (x : Int32) : mc_rank key x = -11 := by
  have hm1 : (-1 : Int32) < 0 := by decide
  unfold mc_rank
  rcases ma_ff_spec (mc_pl key x) 16 0 with ⟨h1, h2, h3, h4⟩ | ⟨h1, h2⟩
  · have hf := (mc_pl_iff.mp h3).1
    rw [hneg _ (show ma_ff (mc_pl key x) 16 0 < 16 by omega)] at hf
    exact absurd hm1 hf
  · rw [if_neg (by omega)]

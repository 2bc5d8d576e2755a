/-! who withdraws, who is chosen, who comes -/
theorem mr_wd {B n : Nat} {s t s2 t2 : ma_S} (h : mr_rel B n s t) {b0 : Nat} (hb0 : b0 < n) (h0 : s 2 b0 = 0)
    (es : ∀ k b, k ≠ 7 → (k ≠ 2 ∨ b ≠ b0) → s2 k b = s k b) (e2 : s2 2 b0 = 3) (e7 : ∀ b, b < 16 → s2 7 b = if s 7 b = ma_i b0 then -15 else s 7 b)
    (et : ∀ k b, k ≠ 7 → (k ≠ 2 ∨ b ≠ b0) → (k ≠ 5 ∨ b ≠ b0) → t2 k b = t k b) (f2 : t2 2 b0 = 3) (f5 : t2 5 b0 = 0) (f7 : t2 7 b0 = 0) (f7n : ∀ b, b ≠ b0 → t2 7 b = if b < n ∧ t 7 b = ma_i (b0 + 1) then 0 else t 7 b) : mr_rel B n s2 t2 := by
  have hvt := fun b hb => mr_vot h (b := b) (x := b0) hb hb0
  obtain ⟨hn, hs0, ht0, hsc, hwk, hch, hpd, hfe, hfn, hcol, hgo, hba, hbr, hvo, hce, hcb, hst, hsi, hsl, hwl, hnew⟩ := h
  have n01 : ¬ (0 : Int32) = 1 := by decide
  have n30 : ¬ (3 : Int32) = 0 := by decide
  have n31 : ¬ (3 : Int32) = 1 := by decide
  have hb5 : s 5 b0 = 0 := (hba b0 hb0).2 (by rw [h0]; exact n01)
  have ht5 : t 5 b0 = 0 := by rw [← hcol 5 b0 (by decide) (by decide) (by decide) (by decide) hb0]; exact hb5
  have es1 : ∀ k b, k ≠ 2 → k ≠ 7 → s2 k b = s k b := fun k b k2 k7 => es k b k7 (Or.inl k2)
  have et1 : ∀ k b, k ≠ 2 → k ≠ 7 → t2 k b = t k b := by
    intro k b k2 k7
    by_cases e : k = 5 ∧ b = b0
    · rw [e.1, e.2, f5, ht5]
    · exact et k b k7 (Or.inl k2) (by omega)
  have es2 : ∀ b, b ≠ b0 → s2 2 b = s 2 b := fun b hb => es 2 b (by decide) (Or.inr hb)
  have et2 : ∀ b, b ≠ b0 → t2 2 b = t 2 b := fun b hb => et 2 b (by decide) (Or.inr hb) (Or.inl (by decide))
  have n3 : ∀ b, s2 3 b = s 3 b := fun b => es1 3 b (by decide) (by decide)
  have n4 : ∀ b, s2 4 b = s 4 b := fun b => es1 4 b (by decide) (by decide)
  have n5 : ∀ b, s2 5 b = s 5 b := fun b => es1 5 b (by decide) (by decide)
  have n8 : ∀ b, s2 8 b = s 8 b := fun b => es1 8 b (by decide) (by decide)
  have n14 : ∀ b, s2 14 b = s 14 b := fun b => es1 14 b (by decide) (by decide)
  have n15 : ∀ b, s2 15 b = s 15 b := fun b => es1 15 b (by decide) (by decide)
  have n16 : ∀ b, s2 16 b = s 16 b := fun b => es1 16 b (by decide) (by decide)
  have m3 : ∀ b, t2 3 b = t 3 b := fun b => et1 3 b (by decide) (by decide)
  have m8 : ∀ b, t2 8 b = t 8 b := fun b => et1 8 b (by decide) (by decide)
  have m15 : ∀ b, t2 15 b = t 15 b := fun b => et1 15 b (by decide) (by decide)
  have m16 : ∀ b, t2 16 b = t 16 b := fun b => et1 16 b (by decide) (by decide)
  have w1 : ∀ b, s2 2 b = 1 → s 2 b = 1 ∧ b ≠ b0 := by
    intro b hb
    by_cases e : b = b0
    · rw [e, e2] at hb; exact absurd hb n31
    · rw [es2 b e] at hb; exact ⟨hb, e⟩
  have w0 : ∀ b, s2 2 b = 0 → s 2 b = 0 ∧ b ≠ b0 := by
    intro b hb
    by_cases e : b = b0
    · rw [e, e2] at hb; exact absurd hb n30
    · rw [es2 b e] at hb; exact ⟨hb, e⟩
  have v0 : s 7 b0 = -15 ∧ t 7 b0 = 0 := by
    rcases hvo b0 hb0 with a | ⟨x, a1, a2, a3, a4, a5⟩
    · exact a
    · rw [h0] at a4; exact absurd a4 n01
  unfold mr_rel
  simp only [n3, n4, n5, n8, n14, n15, n16, m3, m8, m15, m16]
  refine ⟨hn, hs0, ht0, hsc, hwk, hch, hpd, hfe, hfn, ?_, hgo, ?_, ?_, ?_, ?_, ?_, hst, ?_, ?_, ?_, ?_⟩
  · intro k b hk a3 a7 a8 hb
    by_cases k2 : k = 2
    · subst k2
      by_cases e : b = b0
      · rw [e, e2, f2]
      · rw [es2 b e, et2 b e]; exact hcol 2 b hk a3 a7 a8 hb
    · rw [es1 k b k2 a7, et1 k b k2 a7]; exact hcol k b hk a3 a7 a8 hb
  · intro b hb
    refine ⟨(hba b hb).1, fun hw => ?_⟩
    by_cases e : b = b0
    · rw [e]; exact hb5
    · rw [es2 b e] at hw; exact (hba b hb).2 hw
  · intro b i hb hi hw
    rw [es1 _ b (by omega) (by omega)]
    refine hbr b i hb hi ?_
    rcases hw with hw | hw
    · exact Or.inl (w0 b hw).1
    · exact Or.inr (w1 b hw).1
  · intro b hb
    rw [e7 b (by omega)]
    by_cases e : b = b0
    · subst e; left; rw [f7, v0.1]; exact ⟨by split <;> rfl, rfl⟩
    · rw [f7n b e, es2 b e]
      have := hvt b hb
      by_cases hv : s 7 b = ma_i b0
      · rw [decide_eq_true hv] at this
        rw [if_pos hv, if_pos ⟨hb, of_decide_eq_true this.symm⟩]
        exact Or.inl ⟨rfl, rfl⟩
      · rw [decide_eq_false hv] at this
        rw [if_neg hv, if_neg (fun hh => of_decide_eq_false this.symm hh.2)]
        rcases hvo b hb with a | ⟨x, a1, a2, a3, a4, a5⟩
        · exact Or.inl a
        · right
          have hx : x ≠ b0 := by intro hx; rw [hx] at a2; exact hv a2
          exact ⟨x, a1, a2, a3, a4, by rw [es2 x hx]; exact a5⟩
  · intro b hb
    refine ⟨fun hw => (hce b hb).1 (w1 b hw).1, fun hw => ?_⟩
    by_cases e : b = b0
    · exact (hce b hb).2 (by rw [e, h0]; exact n01)
    · rw [es2 b e] at hw; exact (hce b hb).2 hw
  · intro c hc
    rcases hcb c hc with a | ⟨b, a1, a2, a3, a4⟩
    · exact Or.inl a
    · right
      have e : b ≠ b0 := by intro e; rw [e, h0] at a3; exact n01 a3
      exact ⟨b, a1, a2, by rw [es2 b e]; exact a3, a4⟩
  · obtain ⟨ch, a1, a2, a3⟩ := hsi
    refine ⟨ch, a1, ?_, fun b hb hw => a3 b hb (w1 b hw).1⟩
    have key := ma_ct_one (p := fun b => decide (s 2 b = 0)) (q := fun b => decide (s2 2 b = 0)) (i := b0) n (fun j _ hne => by rw [es2 j hne])
    rw [if_neg (by simp [e2, n30]), if_pos (by simp [h0, hb0])] at key
    omega
  · intro a b ha hb hwa hwb
    exact hsl a b ha hb (w1 a hwa).1 (w1 b hwb).1
  · intro a b ha hb hwa hwb
    exact hwl a b ha hb (w0 a hwa).1 (w0 b hwb).1
  · intro b g1 g2
    obtain ⟨a1, a2, a3, a4, a5, a6⟩ := hnew b g1 g2
    have e : b ≠ b0 := by omega
    rw [es2 b e, e7 b g2, et2 b e, f7n b e, if_neg (by rw [a3]; exact fun hh => ma_ne (show b0 < 2147483648 by omega) (by decide) hh.symm), if_neg (by omega)]
    exact ⟨a1, a2, a3, fun k hk k4 k7 k8 => by rw [es1 k b (by omega) k7, et1 k b (by omega) k7]; exact a4 k hk k4 k7 k8, a5, a6⟩
theorem mr_chosen {B n : Nat} {s t s2 t2 : ma_S} (h : mr_rel B n s t) {b0 c0 : Nat} (hB : B < 1000000) (hb0 : b0 < n) (h0 : s 2 b0 = 0) (hc0 : c0 < 8) (hc : s 14 c0 = -15)
    (es : ∀ k b, k < 14 → k ≠ 7 → b ≠ b0 → s2 k b = s k b) (esk : ∀ k, k < 14 → k ≠ 2 → k ≠ 3 → k ≠ 4 → k ≠ 7 → k ≠ 8 → s2 k b0 = s k b0) (e2 : s2 2 b0 = 1) (e3 : s2 3 b0 = ma_i c0) (e4 : s2 4 b0 = 0) (e8 : s2 8 b0 = s 16 1) (e7 : ∀ b, b < 16 → s2 7 b = if s 7 b = ma_i b0 then -15 else s 7 b) (e14 : s2 14 c0 = ma_i b0) (e14n : ∀ c, c ≠ c0 → s2 14 c = s 14 c) (e15 : ∀ b, s2 15 b = s 15 b) (e16 : s2 16 1 = s 16 1 + 1) (e16n : ∀ b, b ≠ 1 → s2 16 b = s 16 b)
    (et : ∀ k b, k < 14 → k ≠ 7 → b ≠ b0 → t2 k b = t k b) (etk : ∀ k, k < 14 → k ≠ 2 → k ≠ 3 → k ≠ 4 → k ≠ 5 → k ≠ 7 → k ≠ 8 → t2 k b0 = t k b0) (f2 : t2 2 b0 = 1) (f3 : t2 3 b0 = ma_i c0) (f4 : t2 4 b0 = 0) (f5 : t2 5 b0 = 0) (f8 : t2 8 b0 = t 16 1 + 1) (f7 : ∀ b, b < 16 → t2 7 b = if b < n ∧ t 7 b = ma_i (b0 + 1) then 0 else t 7 b) (f15 : ∀ b, t2 15 b = t 15 b) (f16 : t2 16 1 = t 16 1 + 1) (f16n : ∀ b, b ≠ 1 → t2 16 b = t 16 b) : mr_rel (B + 1) n s2 t2 := by
  have hvt := fun b hb => mr_vot h (b := b) (x := b0) hb hb0
  obtain ⟨hn, hs0, ht0, hsc, hwk, hch, hpd, hfe, hfn, hcol, hgo, hba, hbr, hvo, hce, hcb, hst, hsi, hsl, hwl, hnew⟩ := h
  have n01 : ¬ (0 : Int32) = 1 := by decide
  have n10 : ¬ (1 : Int32) = 0 := by decide
  have hb5 : s 5 b0 = 0 := (hba b0 hb0).2 (by rw [h0]; exact n01)
  have es2 : ∀ b, b ≠ b0 → s2 2 b = s 2 b := fun b hb => es 2 b (by decide) (by decide) hb
  have et2 : ∀ b, b ≠ b0 → t2 2 b = t 2 b := fun b hb => et 2 b (by decide) (by decide) hb
  have w0 : ∀ b, s2 2 b = 0 → s 2 b = 0 ∧ b ≠ b0 := by
    intro b hb
    by_cases e : b = b0
    · rw [e, e2] at hb; exact absurd hb n10
    · rw [es2 b e] at hb; exact ⟨hb, e⟩
  have v0 : s 7 b0 = -15 ∧ t 7 b0 = 0 := by
    rcases hvo b0 hb0 with a | ⟨x, a1, a2, a3, a4, a5⟩
    · exact a
    · rw [h0] at a4; exact absurd a4 n01
  obtain ⟨st, t1, t2', t3⟩ := hst
  obtain ⟨ch, c1, c2, c3⟩ := hsi
  have ct1 : ma_ct (fun b => decide (s2 2 b = 0)) n + 1 = ma_ct (fun b => decide (s 2 b = 0)) n := by
    have key := ma_ct_one (p := fun b => decide (s 2 b = 0)) (q := fun b => decide (s2 2 b = 0)) (i := b0) n (fun j _ hne => by rw [es2 j hne])
    rw [if_neg (by simp [e2, n10]), if_pos (by simp [h0, hb0])] at key
    omega
  refine ⟨hn, by rw [e16n 0 (by decide)]; exact hs0, by rw [f16n 0 (by decide)]; exact ht0, fun j j2 j9 => by rw [e16n j (by omega), f16n j (by omega)]; exact hsc j j2 j9, by rw [e16n 3 (by decide)]; exact hwk, by rw [e16n 4 (by decide)]; exact hch, by rw [e16n 9 (by decide)]; exact hpd, fun k hk => by rw [e15, f15]; exact hfe k hk, ?_, ?_, ?_, ?_, ?_, ?_, ?_, ?_, ?_, ?_, ?_, ?_, ?_⟩
  · simp only [e15, f16n 10 (by decide)]; exact hfn
  · intro k b hk a3 a7 a8 hb
    by_cases e : b = b0
    · subst e
      by_cases k2 : k = 2
      · rw [k2, e2, f2]
      · by_cases k4 : k = 4
        · rw [k4, e4, f4]
        · by_cases k5 : k = 5
          · rw [k5, f5, esk 5 (by decide) (by decide) (by decide) (by decide) (by decide) (by decide), hb5]
          · rw [esk k hk k2 a3 k4 a7 a8, etk k hk k2 a3 k4 k5 a7 a8]; exact hcol k b hk a3 a7 a8 hb
    · rw [es k b hk a7 e, et k b hk a7 e]; exact hcol k b hk a3 a7 a8 hb
  · intro b hb
    by_cases e : b = b0
    · subst e; rw [e4]; exact ⟨0, by omega, rfl⟩
    · rw [es 4 b (by decide) (by decide) e]
      obtain ⟨g, g1, g2⟩ := hgo b hb
      exact ⟨g, by omega, g2⟩
  · intro b hb
    obtain ⟨⟨g, g1, g2⟩, g3⟩ := hba b hb
    by_cases e : b = b0
    · subst e
      rw [esk 5 (by decide) (by decide) (by decide) (by decide) (by decide) (by decide)]
      exact ⟨⟨g, by omega, g2⟩, fun _ => hb5⟩
    · rw [es 5 b (by decide) (by decide) e, es2 b e]
      exact ⟨⟨g, by omega, g2⟩, g3⟩
  · intro b i hb hi hw
    by_cases e : b = b0
    · subst e
      rw [esk _ (by omega) (by omega) (by omega) (by omega) (by omega) (by omega)]
      exact hbr b i hb hi (Or.inl h0)
    · rw [es2 b e] at hw
      rw [es _ b (by omega) (by omega) e]; exact hbr b i hb hi hw
  · intro b hb
    rw [e7 b (by omega), f7 b (by omega)]
    by_cases e : b = b0
    · subst e
      left
      rw [v0.1, v0.2]
      exact ⟨by split <;> rfl, by split <;> rfl⟩
    · rw [es2 b e]
      have := hvt b hb
      by_cases hv : s 7 b = ma_i b0
      · rw [decide_eq_true hv] at this
        rw [if_pos hv, if_pos ⟨hb, of_decide_eq_true this.symm⟩]
        exact Or.inl ⟨rfl, rfl⟩
      · rw [decide_eq_false hv] at this
        rw [if_neg hv, if_neg (fun hh => of_decide_eq_false this.symm hh.2)]
        rcases hvo b hb with a | ⟨x, a1, a2, a3, a4, a5⟩
        · exact Or.inl a
        · right
          have hx : x ≠ b0 := by intro hx; rw [hx] at a2; exact hv a2
          exact ⟨x, a1, a2, a3, a4, by rw [es2 x hx]; exact a5⟩
  · intro b hb
    by_cases e : b = b0
    · subst e; rw [e2, e3, f3]; exact ⟨fun _ => ⟨c0, hc0, rfl, rfl, e14⟩, fun hh => absurd rfl hh⟩
    · rw [es2 b e, es 3 b (by decide) (by decide) e, et 3 b (by decide) (by decide) e]
      refine ⟨fun hh => ?_, (hce b hb).2⟩
      obtain ⟨c, a1, a2, a3, a4⟩ := (hce b hb).1 hh
      refine ⟨c, a1, a2, a3, ?_⟩
      rw [e14n]
      · exact a4
      · intro hcc; rw [hcc, hc] at a4; exact ma_ne (show b < 2147483648 by omega) (by decide) a4.symm
  · intro c hc2
    by_cases e : c = c0
    · subst e; right; exact ⟨b0, hb0, e14, e2, e3⟩
    · rw [e14n c e]
      rcases hcb c hc2 with a | ⟨b, a1, a2, a3, a4⟩
      · exact Or.inl a
      · right
        have eb : b ≠ b0 := by intro eb; rw [eb, h0] at a3; exact n01 a3
        exact ⟨b, a1, a2, by rw [es2 b eb]; exact a3, by rw [es 3 b (by decide) (by decide) eb]; exact a4⟩
  · refine ⟨st + 1, by omega, by rw [f16, t2', ma_s1], fun b hb => ?_⟩
    by_cases e : b = b0
    · subst e; rw [f8, t2', ma_s1]; exact ⟨st + 1, by omega, rfl⟩
    · rw [et 8 b (by decide) (by decide) e]
      obtain ⟨z, z1, z2⟩ := t3 b hb
      exact ⟨z, by omega, z2⟩
  · refine ⟨ch + 1, by rw [e16, c1, ma_s1], by omega, fun b hb hw => ?_⟩
    by_cases e : b = b0
    · subst e; rw [e8, c1]; exact ⟨ch, by omega, rfl⟩
    · rw [es2 b e] at hw
      rw [es 8 b (by decide) (by decide) e]
      obtain ⟨z, z1, z2⟩ := c3 b hb hw
      exact ⟨z, by omega, z2⟩
  · intro a b ha hb hwa hwb
    by_cases ea : a = b0
    · subst ea
      by_cases eb : b = a
      · subst eb
        exact ⟨fun hh => absurd hh Int32.lt_irrefl, fun hh => absurd hh Int32.lt_irrefl⟩
      · rw [es2 b eb] at hwb
        rw [es 8 b (by decide) (by decide) eb, et 8 b (by decide) (by decide) eb, e8, f8, c1, t2', ma_s1]
        obtain ⟨z, z1, z2⟩ := c3 b hb hwb
        obtain ⟨y, y1, y2⟩ := t3 b hb
        rw [z2, y2, ma_lt (by omega) (by omega), ma_lt (by omega) (by omega)]
        omega
    · rw [es2 a ea] at hwa
      rw [es 8 a (by decide) (by decide) ea, et 8 a (by decide) (by decide) ea]
      by_cases eb : b = b0
      · subst eb
        rw [e8, f8, c1, t2', ma_s1]
        obtain ⟨z, z1, z2⟩ := c3 a ha hwa
        obtain ⟨y, y1, y2⟩ := t3 a ha
        rw [z2, y2, ma_lt (by omega) (by omega), ma_lt (by omega) (by omega)]
        omega
      · rw [es2 b eb] at hwb
        rw [es 8 b (by decide) (by decide) eb, et 8 b (by decide) (by decide) eb]
        exact hsl a b ha hb hwa hwb
  · intro a b ha hb hwa hwb
    obtain ⟨a1, a2⟩ := w0 a hwa
    obtain ⟨b1, b2⟩ := w0 b hwb
    rw [et 8 a (by decide) (by decide) a2, et 8 b (by decide) (by decide) b2]
    exact hwl a b ha hb a1 b1
  · intro b g1 g2
    obtain ⟨a1, a2, a3, a4, a5, a6⟩ := hnew b g1 g2
    have e : b ≠ b0 := by omega
    rw [es2 b e, es 3 b (by decide) (by decide) e, e7 b g2, et2 b e, f7 b g2, if_neg (by rw [a3]; exact fun hh => ma_ne (show b0 < 2147483648 by omega) (by decide) hh.symm), if_neg (by omega)]
    exact ⟨a1, a2, a3, fun k hk k4 k7 k8 => by rw [es k b hk k7 e, et k b hk k7 e]; exact a4 k hk k4 k7 k8, a5, a6⟩
theorem mr_come {B n : Nat} {s t s2 t2 : ma_S} (h : mr_rel B n s t) (hB : B < 1000000) (hn16 : n < 16)
    (es : ∀ k b, k ≠ 16 → (b ≠ n ∨ (k ≠ 0 ∧ k ≠ 1 ∧ k ≠ 2)) → s2 k b = s k b) (e01 : s2 0 n = t2 0 n ∧ s2 1 n = t2 1 n) (e2 : s2 2 n = 0) (e16 : s2 16 0 = ma_i (n + 1)) (e16n : ∀ b, b ≠ 0 → s2 16 b = s 16 b)
    (et : ∀ k b, k ≠ 16 → (b ≠ n ∨ (k ≠ 0 ∧ k ≠ 1 ∧ k ≠ 8)) → t2 k b = t k b) (f8 : t2 8 n = t 16 1 + 1) (f16 : t2 16 0 = ma_i (n + 1)) (f161 : t2 16 1 = t 16 1 + 1) (f16n : ∀ b, b ≠ 0 → b ≠ 1 → t2 16 b = t 16 b) : mr_rel (B + 1) (n + 1) s2 t2 := by
  obtain ⟨hn, hs0, ht0, hsc, hwk, hch, hpd, hfe, hfn, hcol, hgo, hba, hbr, hvo, hce, hcb, hst, hsi, hsl, hwl, hnew⟩ := h
  have n01 : ¬ (0 : Int32) = 1 := by decide
  obtain ⟨w2, w3, w7, w4, wt2, wt7⟩ := hnew n (Nat.le_refl _) hn16
  have es1 : ∀ k b, k ≠ 16 → b ≠ n → s2 k b = s k b := fun k b hk hb => es k b hk (Or.inl hb)
  have et1 : ∀ k b, k ≠ 16 → b ≠ n → t2 k b = t k b := fun k b hk hb => et k b hk (Or.inl hb)
  have n14 : ∀ b, s2 14 b = s 14 b := fun b => es 14 b (by decide) (Or.inr (by decide))
  have n15 : ∀ b, s2 15 b = s 15 b := fun b => es 15 b (by decide) (Or.inr (by decide))
  have m15 : ∀ b, t2 15 b = t 15 b := fun b => et 15 b (by decide) (Or.inr (by decide))
  have w1 : ∀ b, b < n + 1 → s2 2 b = 1 → b < n ∧ s 2 b = 1 := by
    intro b hb hw
    by_cases e : b = n
    · rw [e, e2] at hw; exact absurd hw n01
    · rw [es1 2 b (by decide) e] at hw; exact ⟨by omega, hw⟩
  obtain ⟨st, t1, t2', t3⟩ := hst
  obtain ⟨ch, c1, c2, c3⟩ := hsi
  refine ⟨by omega, e16, f16, fun j j2 j9 => by rw [e16n j (by omega), f16n j (by omega) (by omega)]; exact hsc j j2 j9, by rw [e16n 3 (by decide)]; exact hwk, by rw [e16n 4 (by decide)]; exact hch, by rw [e16n 9 (by decide)]; exact hpd, fun k hk => by rw [n15, m15]; exact hfe k hk, ?_, ?_, ?_, ?_, ?_, ?_, ?_, ?_, ?_, ?_, ?_, ?_, ?_⟩
  · simp only [n15, f16n 10 (by decide) (by decide)]; exact hfn
  · intro k b hk a3 a7 a8 hb
    by_cases e : b = n
    · subst e
      by_cases k0 : k = 0
      · rw [k0]; exact e01.1
      · by_cases k1 : k = 1
        · rw [k1]; exact e01.2
        · by_cases k2 : k = 2
          · rw [k2, e2, et 2 b (by decide) (Or.inr (by decide)), wt2]
          · rw [es k b (by omega) (Or.inr ⟨k0, k1, k2⟩), et k b (by omega) (Or.inr ⟨k0, k1, a8⟩)]
            obtain ⟨x, y⟩ := w4 k hk (by omega) a7 a8
            rw [x, y]
    · rw [es1 k b (by omega) e, et1 k b (by omega) e]; exact hcol k b hk a3 a7 a8 (by omega)
  · intro b hb
    by_cases e : b = n
    · subst e; rw [es 4 b (by decide) (Or.inr (by decide)), (w4 4 (by decide) (by decide) (by decide) (by decide)).1]; exact ⟨0, by omega, rfl⟩
    · rw [es1 4 b (by decide) e]
      obtain ⟨g, g1, g2⟩ := hgo b (by omega)
      exact ⟨g, by omega, g2⟩
  · intro b hb
    by_cases e : b = n
    · subst e; rw [es 5 b (by decide) (Or.inr (by decide)), (w4 5 (by decide) (by decide) (by decide) (by decide)).1]; exact ⟨⟨0, by omega, rfl⟩, fun _ => rfl⟩
    · rw [es1 5 b (by decide) e, es1 2 b (by decide) e]
      obtain ⟨⟨g, g1, g2⟩, g3⟩ := hba b (by omega)
      exact ⟨⟨g, by omega, g2⟩, g3⟩
  · intro b i hb hi hw
    by_cases e : b = n
    · subst e
      rw [es _ b (by omega) (Or.inr ⟨by omega, by omega, by omega⟩), (w4 _ (by omega) (by omega) (by omega) (by omega)).1]
      exact ⟨0, by omega, rfl⟩
    · rw [es1 2 b (by decide) e] at hw
      rw [es1 _ b (by omega) e]; exact hbr b i (by omega) hi hw
  · intro b hb
    by_cases e : b = n
    · subst e; left; rw [es 7 b (by decide) (Or.inr (by decide)), et 7 b (by decide) (Or.inr (by decide))]; exact ⟨w7, wt7⟩
    · rw [es1 7 b (by decide) e, et1 7 b (by decide) e, es1 2 b (by decide) e]
      rcases hvo b (by omega) with a | ⟨x, a1, a2, a3, a4, a5⟩
      · exact Or.inl a
      · right; exact ⟨x, by omega, a2, a3, a4, by rw [es1 2 x (by decide) (by omega)]; exact a5⟩
  · intro b hb
    refine ⟨fun hw => ?_, fun hw => ?_⟩
    · obtain ⟨b1, b2⟩ := w1 b hb hw
      obtain ⟨c, a1, a2, a3, a4⟩ := (hce b b1).1 b2
      exact ⟨c, a1, by rw [es1 3 b (by decide) (by omega)]; exact a2, by rw [et1 3 b (by decide) (by omega)]; exact a3, by rw [n14]; exact a4⟩
    · by_cases e : b = n
      · subst e; rw [es 3 b (by decide) (Or.inr (by decide))]; exact w3
      · rw [es1 2 b (by decide) e] at hw
        rw [es1 3 b (by decide) e]; exact (hce b (by omega)).2 hw
  · intro c hc
    rw [n14]
    rcases hcb c hc with a | ⟨b, a1, a2, a3, a4⟩
    · exact Or.inl a
    · right; exact ⟨b, by omega, a2, by rw [es1 2 b (by decide) (by omega)]; exact a3, by rw [es1 3 b (by decide) (by omega)]; exact a4⟩
  · refine ⟨st + 1, by omega, by rw [f161, t2', ma_s1], fun b hb => ?_⟩
    by_cases e : b = n
    · subst e; rw [f8, t2', ma_s1]; exact ⟨st + 1, by omega, rfl⟩
    · rw [et1 8 b (by decide) e]
      obtain ⟨z, z1, z2⟩ := t3 b (by omega)
      exact ⟨z, by omega, z2⟩
  · refine ⟨ch, by rw [e16n 1 (by decide)]; exact c1, ?_, fun b hb hw => ?_⟩
    · rw [ma_ct_s, ma_ct_congr (q := fun b => decide (s 2 b = 0)) n (fun j hj => by rw [es1 2 j (by decide) (by omega)])]
      split <;> omega
    · obtain ⟨b1, b2⟩ := w1 b hb hw
      rw [es1 8 b (by decide) (by omega)]
      exact c3 b b1 b2
  · intro a b ha hb hwa hwb
    obtain ⟨a1, a2⟩ := w1 a ha hwa
    obtain ⟨b1, b2⟩ := w1 b hb hwb
    rw [es1 8 a (by decide) (by omega), es1 8 b (by decide) (by omega), et1 8 a (by decide) (by omega), et1 8 b (by decide) (by omega)]
    exact hsl a b a1 b1 a2 b2
  · intro a b ha hb hwa hwb
    rw [es1 2 a (by decide) (by omega)] at hwa
    by_cases e : b = n
    · subst e
      rw [et1 8 a (by decide) (by omega), f8, t2', ma_s1]
      obtain ⟨z, z1, z2⟩ := t3 a ha
      rw [z2, ma_lt (by omega) (by omega)]
      omega
    · rw [es1 2 b (by decide) e] at hwb
      rw [et1 8 a (by decide) (by omega), et1 8 b (by decide) e]
      exact hwl a b ha (by omega) hwa hwb
  · intro b g1 g2
    obtain ⟨a1, a2, a3, a4, a5, a6⟩ := hnew b (by omega) g2
    have e : b ≠ n := by omega
    rw [es1 2 b (by decide) e, es1 3 b (by decide) e, es1 7 b (by decide) e, et1 2 b (by decide) e, et1 7 b (by decide) e]
    exact ⟨a1, a2, a3, fun k hk k4 k7 k8 => by rw [es1 k b (by omega) e, et1 k b (by omega) e]; exact a4 k hk k4 k7 k8, a5, a6⟩

/-! how changes keep the relation: columns of many, who goes, who is chosen, who comes -/
theorem mr_yc {B B2 n : Nat} {s t s2 t2 : ma_S} (h : mr_rel B n s t) (hB : B ≤ B2) (es : ∀ k b, k ≠ 0 → k ≠ 4 → k ≠ 5 → k ≠ 6 → s2 k b = s k b) (et : ∀ k b, k ≠ 0 → k ≠ 4 → k ≠ 5 → k ≠ 6 → t2 k b = t k b) (ec : ∀ k b, k = 0 ∨ k = 4 ∨ k = 5 ∨ k = 6 → b < n → s2 k b = t2 k b) (e4 : ∀ b, b < n → ∃ g, g ≤ B2 ∧ s2 4 b = ma_i g) (e5 : ∀ b, b < n → (∃ g, g ≤ B2 ∧ s2 5 b = ma_i g) ∧ (s 2 b ≠ 1 → s2 5 b = 0)) (ew : ∀ k b, k = 4 ∨ k = 5 ∨ k = 6 → n ≤ b → b < 16 → s2 k b = 0 ∧ t2 k b = 0) : mr_rel B2 n s2 t2 := by
  have h := mr_mono h hB
  obtain ⟨hn, hs0, ht0, hsc, hwk, hch, hpd, hfe, hfn, hcol, hgo, hba, hbr, hvo, hce, hcb, hst, hsi, hsl, hwl, hnew⟩ := h
  have n2 : ∀ b, s2 2 b = s 2 b := fun b => es 2 b (by decide) (by decide) (by decide) (by decide)
  have n3 : ∀ b, s2 3 b = s 3 b := fun b => es 3 b (by decide) (by decide) (by decide) (by decide)
  have n7 : ∀ b, s2 7 b = s 7 b := fun b => es 7 b (by decide) (by decide) (by decide) (by decide)
  have n8 : ∀ b, s2 8 b = s 8 b := fun b => es 8 b (by decide) (by decide) (by decide) (by decide)
  have n14 : ∀ b, s2 14 b = s 14 b := fun b => es 14 b (by decide) (by decide) (by decide) (by decide)
  have n15 : ∀ b, s2 15 b = s 15 b := fun b => es 15 b (by decide) (by decide) (by decide) (by decide)
  have n16 : ∀ b, s2 16 b = s 16 b := fun b => es 16 b (by decide) (by decide) (by decide) (by decide)
  have m2 : ∀ b, t2 2 b = t 2 b := fun b => et 2 b (by decide) (by decide) (by decide) (by decide)
  have m3 : ∀ b, t2 3 b = t 3 b := fun b => et 3 b (by decide) (by decide) (by decide) (by decide)
  have m7 : ∀ b, t2 7 b = t 7 b := fun b => et 7 b (by decide) (by decide) (by decide) (by decide)
  have m8 : ∀ b, t2 8 b = t 8 b := fun b => et 8 b (by decide) (by decide) (by decide) (by decide)
  have m15 : ∀ b, t2 15 b = t 15 b := fun b => et 15 b (by decide) (by decide) (by decide) (by decide)
  have m16 : ∀ b, t2 16 b = t 16 b := fun b => et 16 b (by decide) (by decide) (by decide) (by decide)
  unfold mr_rel
  simp only [n2, n3, n7, n8, n14, n15, n16, m2, m3, m7, m8, m15, m16]
  refine ⟨hn, hs0, ht0, hsc, hwk, hch, hpd, hfe, hfn, ?_, e4, e5, ?_, hvo, hce, hcb, hst, hsi, hsl, hwl, ?_⟩
  · intro k b hk a3 a7 a8 hb
    by_cases e : k = 0 ∨ k = 4 ∨ k = 5 ∨ k = 6
    · exact ec k b e hb
    · rw [es k b (by omega) (by omega) (by omega) (by omega), et k b (by omega) (by omega) (by omega) (by omega)]
      exact hcol k b hk a3 a7 a8 hb
  · intro b i hb hi hw
    rw [es _ b (by omega) (by omega) (by omega) (by omega)]; exact hbr b i hb hi hw
  · intro b h1 h2
    obtain ⟨a1, a2, a3, a4, a5, a6⟩ := hnew b h1 h2
    refine ⟨a1, a2, a3, fun k hk k4 k7 k8 => ?_, a5, a6⟩
    by_cases e : k = 4 ∨ k = 5 ∨ k = 6
    · exact ew k b e h1 h2
    · rw [es k b (by omega) (by omega) (by omega) (by omega), et k b (by omega) (by omega) (by omega) (by omega)]
      exact a4 k hk k4 k7 k8
theorem mr_pay {B n : Nat} {s t : ma_S} (h : mr_rel B n s t) (e : Int32) : mr_rel B n (md_pay s e 16) (md_pay t e n) := by
  have h2 := fun b hb => mr_how h (b := b) hb
  have h5 := fun b hb => mr_col h (k := 5) (b := b) (by decide) (by decide) (by decide) (by decide) hb
  have h6 := fun b hb => mr_col h (k := 6) (b := b) (by decide) (by decide) (by decide) (by decide) hb
  have hc := fun k b => mr_col h (k := k) (b := b)
  have hnn := fun b => mr_new2 h (b := b)
  have hn := mr_n h
  have h1n : ¬ (-1 : Int32) = 1 := by decide
  refine mr_yc h (Nat.le_refl _) (fun k b k0 k4 k5 k6 => ?_) (fun k b k0 k4 k5 k6 => ?_) (fun k b hk hb => ?_) (fun b hb => ?_) (fun b hb => ?_) (fun k b hk h1 hb => ?_)
  · unfold md_pay; rw [if_neg (by simp [k6])]
  · unfold md_pay; rw [if_neg (by simp [k6])]
  · unfold md_pay
    by_cases e6 : k = 6
    · subst e6
      rw [h2 b hb, h5 b hb, h6 b hb]
      simp only [hb, show b < 16 by omega]
    · simp only [e6, false_and, if_false]
      exact hc k b (by omega) (by omega) (by omega) (by omega) hb
  · unfold md_pay; rw [if_neg (by simp)]; exact h.2.2.2.2.2.2.2.2.2.2.1 b hb
  · unfold md_pay; rw [if_neg (by simp)]; exact h.2.2.2.2.2.2.2.2.2.2.2.1 b hb
  · have hnew := h.2.2.2.2.2.2.2.2.2.2.2.2.2.2.2.2.2.2.2.2 b h1 hb
    unfold md_pay
    rw [hnew.1, if_neg (by simp [h1n]), if_neg (by omega)]
    exact hnew.2.2.2.1 k (by omega) (by omega) (by omega) (by omega)
theorem mr_ban {B n : Nat} {s t : ma_S} (h : mr_rel B n s t) (hB : B < 1000000) : mr_rel B n (md_ban s 16) (me_ban t n) := by
  have h5 := fun b hb => mr_col h (k := 5) (b := b) (by decide) (by decide) (by decide) (by decide) hb
  have hc := fun k b => mr_col h (k := k) (b := b)
  have hn := mr_n h
  have hba := h.2.2.2.2.2.2.2.2.2.2.2.1
  have h00 : (0 : Int32) ≤ 0 := by decide
  have key : ∀ b, b < n → ∃ g, g ≤ B ∧ s 5 b = ma_i g ∧ md_ban s 16 5 b = ma_i (g - 1) ∧ me_ban t n 5 b = ma_i (g - 1) := by
    intro b hb
    obtain ⟨⟨g, hg, eg⟩, _⟩ := hba b hb
    refine ⟨g, hg, eg, ?_, ?_⟩
    · unfold md_ban
      rw [eg]
      by_cases e : g = 0
      · subst e; rw [if_neg]
        rintro ⟨_, _, hh⟩; exact hh (by decide)
      · rw [if_pos ⟨rfl, by omega, fun hh => e (by have : ma_i g ≤ ma_i 0 := hh
                                                   rw [ma_le (by omega) (by decide)] at this; omega)⟩]
        exact ma_sub (b := 1) (by omega)
    · unfold me_ban
      rw [if_pos ⟨rfl, hb⟩, ← h5 b hb, eg]
      by_cases e : g = 0
      · subst e; rfl
      · rw [if_neg (fun hh => e (by have : ma_i g ≤ ma_i 0 := hh
                                    rw [ma_le (by omega) (by decide)] at this; omega))]
        exact ma_sub (b := 1) (by omega)
  refine mr_yc h (Nat.le_refl _) (fun k b k0 k4 k5 k6 => ?_) (fun k b k0 k4 k5 k6 => ?_) (fun k b hk hb => ?_) (fun b hb => ?_) (fun b hb => ?_) (fun k b hk h1 hb => ?_)
  · unfold md_ban; rw [if_neg (by simp [k5])]
  · unfold me_ban; rw [if_neg (by simp [k5])]
  · by_cases e5 : k = 5
    · subst e5
      obtain ⟨g, _, _, e1, e2⟩ := key b hb
      rw [e1, e2]
    · unfold md_ban me_ban
      simp only [e5, false_and, if_false]
      exact hc k b (by omega) (by omega) (by omega) (by omega) hb
  · unfold md_ban; rw [if_neg (by simp)]; exact h.2.2.2.2.2.2.2.2.2.2.1 b hb
  · obtain ⟨g, hg, eg, e1, e2⟩ := key b hb
    refine ⟨⟨g - 1, by omega, e1⟩, fun hw => ?_⟩
    have := (hba b hb).2 hw
    rw [eg] at this
    have hz : g = 0 := (ma_inj (by omega) (by decide)).mp this
    rw [e1, hz]; rfl
  · have hnew := h.2.2.2.2.2.2.2.2.2.2.2.2.2.2.2.2.2.2.2.2 b h1 hb
    have hz5 := hnew.2.2.2.1 5 (by decide) (by decide) (by decide) (by decide)
    unfold md_ban me_ban
    rw [hz5.1, if_neg (by simp [h00]), if_neg (by omega)]
    exact hnew.2.2.2.1 k (by omega) (by omega) (by omega) (by omega)
theorem mr_year {B n : Nat} {s t : ma_S} (h : mr_rel B n s t) : mr_rel (B + 1) n (md_year s 16) (md_year t n) := by
  have h2 := fun b hb => mr_how h (b := b) hb
  have hc := fun k b => mr_col h (k := k) (b := b)
  have hn := mr_n h
  have h1n : ¬ (-1 : Int32) = 1 := by decide
  have h0n : ¬ (-1 : Int32) = 0 := by decide
  refine mr_yc h (by omega) (fun k b k0 k4 k5 k6 => ?_) (fun k b k0 k4 k5 k6 => ?_) (fun k b hk hb => ?_) (fun b hb => ?_) (fun b hb => ?_) (fun k b hk h1 hb => ?_)
  · unfold md_year; rw [if_neg (by simp [k0]), if_neg (by simp [k4])]
  · unfold md_year; rw [if_neg (by simp [k0]), if_neg (by simp [k4])]
  · have c0 := hc 0 b (by decide) (by decide) (by decide) (by decide) hb
    have c4 := hc 4 b (by decide) (by decide) (by decide) (by decide) hb
    have ck := hc k b (by omega) (by omega) (by omega) (by omega) hb
    unfold md_year
    rw [h2 b hb, c0, c4, ck]
    simp only [hb, show b < 16 by omega]
  · obtain ⟨g, hg, eg⟩ := h.2.2.2.2.2.2.2.2.2.2.1 b hb
    unfold md_year
    rw [if_neg (by simp)]
    by_cases e : s 2 b = 1
    · rw [if_pos ⟨rfl, by omega, e⟩, eg]
      exact ⟨g + 1, by omega, ma_s1 g⟩
    · rw [if_neg (by simp [e]), eg]
      exact ⟨g, by omega, rfl⟩
  · obtain ⟨⟨g, hg, eg⟩, hz⟩ := h.2.2.2.2.2.2.2.2.2.2.2.1 b hb
    unfold md_year
    rw [if_neg (by simp), if_neg (by simp)]
    exact ⟨⟨g, by omega, eg⟩, hz⟩
  · have hnew := h.2.2.2.2.2.2.2.2.2.2.2.2.2.2.2.2.2.2.2.2 b h1 hb
    unfold md_year
    rw [hnew.1, if_neg (by simp [h1n, h0n]), if_neg (by simp [h1n]), if_neg (by omega), if_neg (by omega)]
    exact hnew.2.2.2.1 k (by omega) (by omega) (by omega) (by omega)
/-- who was in a cell is in it no longer -/
theorem mr_out {B n : Nat} {s t s2 t2 : ma_S} (h : mr_rel B n s t) {b0 c0 : Nat} {how : Int32} (hb0 : b0 < n) (h1 : s 2 b0 = 1) (hc0 : c0 < 8) (hc : s 14 c0 = ma_i b0) (hw0 : how ≠ 0) (hw1 : how ≠ 1)
    (es : ∀ k b, k < 14 → b ≠ b0 → s2 k b = s k b) (e0 : ∀ k, k = 0 ∨ k = 1 ∨ k = 4 ∨ k = 6 → s2 k b0 = s k b0 ∧ t2 k b0 = t k b0) (e9 : ∀ k, 9 ≤ k → k < 14 → s2 k b0 = t2 k b0) (e2 : s2 2 b0 = how) (e3 : s2 3 b0 = -15) (e5 : s2 5 b0 = 0) (e7 : s2 7 b0 = -15) (e14 : s2 14 c0 = -15) (e14n : ∀ c, c ≠ c0 → s2 14 c = s 14 c) (e15 : ∀ b, s2 15 b = s 15 b) (e16 : ∀ b, s2 16 b = s 16 b)
    (et : ∀ k b, k < 14 → k ≠ 7 → b ≠ b0 → t2 k b = t k b) (f2 : t2 2 b0 = how) (f5 : t2 5 b0 = 0) (f7 : t2 7 b0 = 0) (f7n : ∀ b, b ≠ b0 → t2 7 b = if b < n ∧ t 7 b = ma_i (b0 + 1) then 0 else t 7 b) (f8 : t2 8 b0 = t 8 b0) (f15 : ∀ b, t2 15 b = t 15 b) (f16 : ∀ b, t2 16 b = t 16 b) : mr_rel B n s2 t2 := by
  obtain ⟨hn, hs0, ht0, hsc, hwk, hch, hpd, hfe, hfn, hcol, hgo, hba, hbr, hvo, hce, hcb, hst, hsi, hsl, hwl, hnew⟩ := h
  have f7o : ∀ b, b < n → b ≠ b0 → t2 7 b = t 7 b := by
    intro b hb hne
    rw [f7n b hne, if_neg]
    rintro ⟨_, hh⟩
    rcases hvo b hb with ⟨a1, a2⟩ | ⟨x, a1, a2, a3, a4, a5⟩
    · rw [a2] at hh
      have := (ma_inj (show 0 < 2147483648 by decide) (show b0 + 1 < 2147483648 by omega)).mp hh
      omega
    · rw [a3] at hh
      have := (ma_inj (by omega) (by omega)).mp hh
      have hx : x = b0 := by omega
      rw [hx, h1] at a5
      exact absurd a5 (by decide)
  have hd : ∀ c, c < 8 → s 14 c = ma_i b0 → c = c0 := by
    intro c hc2 he
    rcases hcb c hc2 with a | ⟨b, a1, a2, a3, a4⟩
    · rw [a] at he; exact absurd he.symm (ma_ne (by omega) (by decide))
    · rw [he] at a2
      have hb := (ma_inj (by omega) (by omega)).mp a2
      rcases hcb c0 hc0 with a' | ⟨b', a1', a2', a3', a4'⟩
      · rw [a'] at hc; exact absurd hc.symm (ma_ne (by omega) (by decide))
      · rw [hc] at a2'
        have hb' := (ma_inj (by omega) (by omega)).mp a2'
        rw [← hb] at a4
        rw [← hb', a4] at a4'
        exact (ma_inj (by omega) (by omega)).mp a4'
  refine ⟨hn, by rw [e16]; exact hs0, by rw [f16]; exact ht0, fun j j2 j9 => by rw [e16, f16]; exact hsc j j2 j9, by rw [e16]; exact hwk, by rw [e16]; exact hch, by rw [e16]; exact hpd, fun k hk => by rw [e15, f15]; exact hfe k hk, ?_, ?_, ?_, ?_, ?_, ?_, ?_, ?_, ?_, ?_, ?_, ?_, ?_⟩
  · simp only [e15, f16]; exact hfn
  · intro k b hk a3 a7 a8 hb
    by_cases e : b = b0
    · subst e
      by_cases k2 : k = 2
      · rw [k2, e2, f2]
      · by_cases k5 : k = 5
        · rw [k5, e5, f5]
        · by_cases k9 : 9 ≤ k
          · exact e9 k k9 hk
          · obtain ⟨x1, x2⟩ := e0 k (by omega)
            rw [x1, x2]; exact hcol k b hk a3 a7 a8 hb
    · rw [es k b hk e, et k b hk a7 e]; exact hcol k b hk a3 a7 a8 hb
  · intro b hb
    by_cases e : b = b0
    · subst e; rw [(e0 4 (by decide)).1]; exact hgo b hb
    · rw [es 4 b (by decide) e]; exact hgo b hb
  · intro b hb
    by_cases e : b = b0
    · subst e; rw [e5]; exact ⟨⟨0, by omega, rfl⟩, fun _ => rfl⟩
    · rw [es 5 b (by decide) e, es 2 b (by decide) e]; exact hba b hb
  · intro b j hb hj hw
    by_cases e : b = b0
    · subst e; rw [e2] at hw; rcases hw with hw | hw
      · exact absurd hw hw0
      · exact absurd hw hw1
    · rw [es 2 b (by decide) e] at hw
      rw [es _ b (by omega) e]; exact hbr b j hb hj hw
  · intro b hb
    by_cases e : b = b0
    · subst e; left; exact ⟨e7, f7⟩
    · rw [es 7 b (by decide) e, f7o b hb e, es 2 b (by decide) e]
      rcases hvo b hb with a | ⟨x, a1, a2, a3, a4, a5⟩
      · exact Or.inl a
      · right
        refine ⟨x, a1, a2, a3, a4, ?_⟩
        have hx : x ≠ b0 := by intro hx; rw [hx, h1] at a5; exact absurd a5 (by decide)
        rw [es 2 x (by decide) hx]; exact a5
  · intro b hb
    by_cases e : b = b0
    · subst e; rw [e2, e3]; exact ⟨fun hh => absurd hh hw1, fun _ => rfl⟩
    · rw [es 2 b (by decide) e, es 3 b (by decide) e, et 3 b (by decide) (by decide) e]
      refine ⟨fun hh => ?_, (hce b hb).2⟩
      obtain ⟨c, a1, a2, a3, a4⟩ := (hce b hb).1 hh
      refine ⟨c, a1, a2, a3, ?_⟩
      rw [e14n]
      · exact a4
      · intro hcc; rw [hcc, hc] at a4
        exact e ((ma_inj (by omega) (by omega)).mp a4).symm
  · intro c hc2
    by_cases e : c = c0
    · subst e; left; exact e14
    · rw [e14n c e]
      rcases hcb c hc2 with a | ⟨b, a1, a2, a3, a4⟩
      · exact Or.inl a
      · right
        have hb : b ≠ b0 := by intro hb; rw [hb] at a2; exact e (hd c hc2 a2)
        exact ⟨b, a1, a2, by rw [es 2 b (by decide) hb]; exact a3, by rw [es 3 b (by decide) hb]; exact a4⟩
  · obtain ⟨st, a1, a2, a3⟩ := hst
    refine ⟨st, a1, by rw [f16]; exact a2, fun b hb => ?_⟩
    by_cases e : b = b0
    · subst e; rw [f8]; exact a3 b hb
    · rw [et 8 b (by decide) (by decide) e]; exact a3 b hb
  · obtain ⟨ch, a1, a2, a3⟩ := hsi
    refine ⟨ch, by rw [e16]; exact a1, ?_, fun b hb hw => ?_⟩
    · rw [ma_ct_congr (q := fun b => decide (s 2 b = 0)) n (fun j hj => ?_)]
      · exact a2
      · by_cases e : j = b0
        · subst e; rw [e2, h1, decide_eq_false hw0]; rfl
        · rw [es 2 j (by decide) e]
    · by_cases e : b = b0
      · subst e; rw [e2] at hw; exact absurd hw hw1
      · rw [es 2 b (by decide) e] at hw
        rw [es 8 b (by decide) e]; exact a3 b hb hw
  · intro a b ha hb hwa hwb
    have ea : a ≠ b0 := by intro e; rw [e, e2] at hwa; exact hw1 hwa
    have eb : b ≠ b0 := by intro e; rw [e, e2] at hwb; exact hw1 hwb
    rw [es 2 a (by decide) ea] at hwa
    rw [es 2 b (by decide) eb] at hwb
    rw [es 8 a (by decide) ea, es 8 b (by decide) eb, et 8 a (by decide) (by decide) ea, et 8 b (by decide) (by decide) eb]
    exact hsl a b ha hb hwa hwb
  · intro a b ha hb hwa hwb
    have ea : a ≠ b0 := by intro e; rw [e, e2] at hwa; exact hw0 hwa
    have eb : b ≠ b0 := by intro e; rw [e, e2] at hwb; exact hw0 hwb
    rw [es 2 a (by decide) ea] at hwa
    rw [es 2 b (by decide) eb] at hwb
    rw [et 8 a (by decide) (by decide) ea, et 8 b (by decide) (by decide) eb]
    exact hwl a b ha hb hwa hwb
  · intro b g1 g2
    obtain ⟨a1, a2, a3, a4, a5, a6⟩ := hnew b g1 g2
    have e : b ≠ b0 := by omega
    rw [es 2 b (by decide) e, es 3 b (by decide) e, es 7 b (by decide) e, et 2 b (by decide) (by decide) e, f7n b e, if_neg (by omega)]
    exact ⟨a1, a2, a3, fun k hk k4 k7 k8 => by rw [es k b hk e, et k b hk k7 e]; exact a4 k hk k4 k7 k8, a5, a6⟩

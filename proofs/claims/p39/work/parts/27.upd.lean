/-! how changes keep the relation -/
theorem ma_up_n {s : ma_S} {k0 b0 : Nat} {v : Int32} {k b : Nat} (h : k ≠ k0 ∨ b ≠ b0) : ma_up s k0 b0 v k b = s k b := by
  unfold ma_up
  rw [if_neg]
  rintro ⟨rfl, rfl⟩
  simp at h
theorem ma_up_e {s : ma_S} {k0 b0 : Nat} {v : Int32} : ma_up s k0 b0 v k0 b0 = v := by
  unfold ma_up
  rw [if_pos ⟨rfl, rfl⟩]
theorem ma_up_c {s : ma_S} {k0 b0 k1 b1 : Nat} {v w : Int32} (h : k0 ≠ k1 ∨ b0 ≠ b1) : ma_up (ma_up s k0 b0 v) k1 b1 w = ma_up (ma_up s k1 b1 w) k0 b0 v := by
  funext k b
  unfold ma_up
  grind
theorem mr_sc {B n : Nat} {s t : ma_S} (h : mr_rel B n s t) {j : Nat} {v : Int32} (hj2 : 2 ≤ j) (hj9 : j ≤ 9) (h3 : j = 3 → ∃ k, k < 52 ∧ v = ma_i k) (h4 : j = 4 → ∃ c, c ≤ 9999 ∧ v = ma_i c) (h9 : j = 9 → ∃ c, c ≤ 2 ∧ v = ma_i c) : mr_rel B n (ma_up s 16 j v) (ma_up t 16 j v) := by
  obtain ⟨hn, hs0, ht0, hsc, hwk, hch, hpd, hfe, hfn, hcol, hgo, hba, hbr, hvo, hce, hcb, hst, hsi, hsl, hwl, hnew⟩ := h
  have ne : ∀ (s : ma_S) (k b : Nat), k ≠ 16 → ma_up s 16 j v k b = s k b := fun s k b hk => ma_up_n (Or.inl hk)
  have n2 : ∀ (s : ma_S) (b : Nat), ma_up s 16 j v 2 b = s 2 b := fun s b => ne s 2 b (by decide)
  have n3 : ∀ (s : ma_S) (b : Nat), ma_up s 16 j v 3 b = s 3 b := fun s b => ne s 3 b (by decide)
  have n4 : ∀ (s : ma_S) (b : Nat), ma_up s 16 j v 4 b = s 4 b := fun s b => ne s 4 b (by decide)
  have n5 : ∀ (s : ma_S) (b : Nat), ma_up s 16 j v 5 b = s 5 b := fun s b => ne s 5 b (by decide)
  have n7 : ∀ (s : ma_S) (b : Nat), ma_up s 16 j v 7 b = s 7 b := fun s b => ne s 7 b (by decide)
  have n8 : ∀ (s : ma_S) (b : Nat), ma_up s 16 j v 8 b = s 8 b := fun s b => ne s 8 b (by decide)
  have n14 : ∀ (s : ma_S) (b : Nat), ma_up s 16 j v 14 b = s 14 b := fun s b => ne s 14 b (by decide)
  have n15 : ∀ (s : ma_S) (b : Nat), ma_up s 16 j v 15 b = s 15 b := fun s b => ne s 15 b (by decide)
  unfold mr_rel
  simp only [n2, n3, n4, n5, n7, n8, n14, n15]
  refine ⟨hn, ?_, ?_, ?_, ?_, ?_, ?_, hfe, ⟨hfn.1, ?_⟩, ?_, hgo, hba, ?_, hvo, hce, hcb, ?_, ?_, hsl, hwl, ?_⟩
  · rw [ma_up_n (Or.inr (by omega))]; exact hs0
  · rw [ma_up_n (Or.inr (by omega))]; exact ht0
  · intro i h1 h2
    by_cases e : i = j
    · subst e; rw [ma_up_e, ma_up_e]
    · rw [ma_up_n (Or.inr e), ma_up_n (Or.inr e)]; exact hsc i h1 h2
  · by_cases e : 3 = j
    · subst e; rw [ma_up_e]; exact h3 rfl
    · rw [ma_up_n (Or.inr e)]; exact hwk
  · by_cases e : 4 = j
    · subst e; rw [ma_up_e]; exact h4 rfl
    · rw [ma_up_n (Or.inr e)]; exact hch
  · by_cases e : 9 = j
    · subst e; rw [ma_up_e]; exact h9 rfl
    · rw [ma_up_n (Or.inr e)]; exact hpd
  · rw [ma_up_n (Or.inr (by omega))]; exact hfn.2
  · intro k b hk a3 a7 a8 hb
    rw [ne s k b (by omega), ne t k b (by omega)]; exact hcol k b hk a3 a7 a8 hb
  · intro b i hb hi hw
    rw [ne s _ b (by omega)]; exact hbr b i hb hi hw
  · rw [ma_up_n (Or.inr (by omega))]; exact hst
  · rw [ma_up_n (Or.inr (by omega))]; exact hsi
  · intro b h1 h2
    obtain ⟨a1, a2, a3, a4, a5⟩ := hnew b h1 h2
    refine ⟨a1, a2, a3, fun k hk k4 k7 k8 => ?_, a5⟩
    rw [ne s k b (by omega), ne t k b (by omega)]; exact a4 k hk k4 k7 k8
/-- a column's number changes for both: gowns, bans, pence, rules, age -/
theorem mr_cu {B n : Nat} {s t : ma_S} (h : mr_rel B n s t) {k0 b0 : Nat} {v : Int32} (hb0 : b0 < n) (hk : k0 < 14) (k1 : k0 ≠ 2) (k3 : k0 ≠ 3) (k7 : k0 ≠ 7) (k8 : k0 ≠ 8) (h4 : k0 = 4 → ∃ g, g ≤ B ∧ v = ma_i g) (h5 : k0 = 5 → (∃ g, g ≤ B ∧ v = ma_i g) ∧ (s 2 b0 ≠ 1 → v = 0)) (h9 : 9 ≤ k0 → (s 2 b0 = 0 ∨ s 2 b0 = 1) → ∃ g, g ≤ 2 ∧ v = ma_i g) : mr_rel B n (ma_up s k0 b0 v) (ma_up t k0 b0 v) := by
  obtain ⟨hn, hs0, ht0, hsc, hwk, hch, hpd, hfe, hfn, hcol, hgo, hba, hbr, hvo, hce, hcb, hst, hsi, hsl, hwl, hnew⟩ := h
  have ne : ∀ (s : ma_S) (k b : Nat), k ≠ k0 → ma_up s k0 b0 v k b = s k b := fun s k b hk => ma_up_n (Or.inl hk)
  have n2 : ∀ (s : ma_S) (b : Nat), ma_up s k0 b0 v 2 b = s 2 b := fun s b => ne s 2 b (Ne.symm k1)
  have n3 : ∀ (s : ma_S) (b : Nat), ma_up s k0 b0 v 3 b = s 3 b := fun s b => ne s 3 b (Ne.symm k3)
  have n7 : ∀ (s : ma_S) (b : Nat), ma_up s k0 b0 v 7 b = s 7 b := fun s b => ne s 7 b (Ne.symm k7)
  have n8 : ∀ (s : ma_S) (b : Nat), ma_up s k0 b0 v 8 b = s 8 b := fun s b => ne s 8 b (Ne.symm k8)
  have n14 : ∀ (s : ma_S) (b : Nat), ma_up s k0 b0 v 14 b = s 14 b := fun s b => ne s 14 b (by omega)
  have n15 : ∀ (s : ma_S) (b : Nat), ma_up s k0 b0 v 15 b = s 15 b := fun s b => ne s 15 b (by omega)
  have n16 : ∀ (s : ma_S) (b : Nat), ma_up s k0 b0 v 16 b = s 16 b := fun s b => ne s 16 b (by omega)
  unfold mr_rel
  simp only [n2, n3, n7, n8, n14, n15, n16]
  refine ⟨hn, hs0, ht0, hsc, hwk, hch, hpd, hfe, hfn, ?_, ?_, ?_, ?_, hvo, hce, hcb, hst, hsi, hsl, hwl, ?_⟩
  · intro k b hk a3 a7 a8 hb
    by_cases e : k = k0 ∧ b = b0
    · rw [e.1, e.2, ma_up_e, ma_up_e]
    · rw [ma_up_n (by omega), ma_up_n (by omega)]; exact hcol k b hk a3 a7 a8 hb
  · intro b hb
    by_cases e : 4 = k0 ∧ b = b0
    · rw [e.1, e.2, ma_up_e]; exact h4 e.1.symm
    · rw [ma_up_n (by omega)]; exact hgo b hb
  · intro b hb
    by_cases e : 5 = k0 ∧ b = b0
    · rw [e.1, e.2, ma_up_e]; exact h5 e.1.symm
    · rw [ma_up_n (by omega)]; exact hba b hb
  · intro b i hb hi hw
    by_cases e : 9 + i = k0 ∧ b = b0
    · rw [e.1, e.2, ma_up_e]; rw [e.2] at hw; exact h9 (by omega) hw
    · rw [ma_up_n (by omega)]; exact hbr b i hb hi hw
  · intro b h1 h2
    obtain ⟨a1, a2, a3, a4, a5⟩ := hnew b h1 h2
    refine ⟨a1, a2, a3, fun k hk k4 k7 k8 => ?_, a5⟩
    rw [ma_up_n (Or.inr (by omega)), ma_up_n (Or.inr (by omega))]; exact a4 k hk k4 k7 k8
theorem mr_voice {B n : Nat} {s t : ma_S} (h : mr_rel B n s t) {b0 x : Nat} (hb0 : b0 < n) (hx : x < n) (h1 : s 2 b0 = 1) (h0 : s 2 x = 0) : mr_rel B n (ma_up s 7 b0 (ma_i x)) (ma_up t 7 b0 (ma_i (x + 1))) := by
  obtain ⟨hn, hs0, ht0, hsc, hwk, hch, hpd, hfe, hfn, hcol, hgo, hba, hbr, hvo, hce, hcb, hst, hsi, hsl, hwl, hnew⟩ := h
  have ne : ∀ (s : ma_S) (v : Int32) (k b : Nat), k ≠ 7 → ma_up s 7 b0 v k b = s k b := fun s v k b hk => ma_up_n (Or.inl hk)
  have n2 : ∀ (s : ma_S) (v : Int32) (b : Nat), ma_up s 7 b0 v 2 b = s 2 b := fun s v b => ne s v 2 b (by decide)
  have n3 : ∀ (s : ma_S) (v : Int32) (b : Nat), ma_up s 7 b0 v 3 b = s 3 b := fun s v b => ne s v 3 b (by decide)
  have n4 : ∀ (s : ma_S) (v : Int32) (b : Nat), ma_up s 7 b0 v 4 b = s 4 b := fun s v b => ne s v 4 b (by decide)
  have n5 : ∀ (s : ma_S) (v : Int32) (b : Nat), ma_up s 7 b0 v 5 b = s 5 b := fun s v b => ne s v 5 b (by decide)
  have n8 : ∀ (s : ma_S) (v : Int32) (b : Nat), ma_up s 7 b0 v 8 b = s 8 b := fun s v b => ne s v 8 b (by decide)
  have n14 : ∀ (s : ma_S) (v : Int32) (b : Nat), ma_up s 7 b0 v 14 b = s 14 b := fun s v b => ne s v 14 b (by decide)
  have n15 : ∀ (s : ma_S) (v : Int32) (b : Nat), ma_up s 7 b0 v 15 b = s 15 b := fun s v b => ne s v 15 b (by decide)
  have n16 : ∀ (s : ma_S) (v : Int32) (b : Nat), ma_up s 7 b0 v 16 b = s 16 b := fun s v b => ne s v 16 b (by decide)
  unfold mr_rel
  simp only [n2, n3, n4, n5, n8, n14, n15, n16]
  refine ⟨hn, hs0, ht0, hsc, hwk, hch, hpd, hfe, hfn, ?_, hgo, hba, ?_, ?_, hce, hcb, hst, hsi, hsl, hwl, ?_⟩
  · intro k b hk a3 a7 a8 hb
    rw [ne _ _ _ _ a7, ne _ _ _ _ a7]; exact hcol k b hk a3 a7 a8 hb
  · intro b i hb hi hw
    rw [ne _ _ _ _ (by omega)]; exact hbr b i hb hi hw
  · intro b hb
    by_cases e : b = b0
    · subst e; right; rw [ma_up_e, ma_up_e]; exact ⟨x, hx, rfl, rfl, h1, h0⟩
    · rw [ma_up_n (Or.inr e), ma_up_n (Or.inr e)]; exact hvo b hb
  · intro b g1 g2
    obtain ⟨a1, a2, a3, a4, a5, a6⟩ := hnew b g1 g2
    rw [ma_up_n (Or.inr (by omega)), ma_up_n (Or.inr (by omega))]
    refine ⟨a1, a2, a3, fun k hk k4 k7 k8 => ?_, a5, a6⟩
    rw [ma_up_n (Or.inr (by omega)), ma_up_n (Or.inr (by omega))]; exact a4 k hk k4 k7 k8
theorem mr_feast {B n : Nat} {s t : ma_S} (h : mr_rel B n s t) {w p : Nat} (hw : w < 52) (hp : p ≤ 9) (hc : ma_ct (fun k => decide (0 < ma_up s 15 w (ma_i p) 15 k)) 52 ≤ 6) : mr_rel B n (ma_up s 15 w (ma_i p)) (ma_up (ma_up t 15 w (ma_i p)) 16 10 (ma_i (ma_ct (fun k => decide (0 < ma_up s 15 w (ma_i p) 15 k)) 52))) := by
  obtain ⟨hn, hs0, ht0, hsc, hwk, hch, hpd, hfe, hfn, hcol, hgo, hba, hbr, hvo, hce, hcb, hst, hsi, hsl, hwl, hnew⟩ := h
  generalize hV : ma_i (ma_ct (fun k => decide (0 < ma_up s 15 w (ma_i p) 15 k)) 52) = V
  have ne : ∀ (s : ma_S) (k b : Nat), k ≠ 15 → ma_up s 15 w (ma_i p) k b = s k b := fun s k b hk => ma_up_n (Or.inl hk)
  have ne2 : ∀ (k b : Nat), k < 14 → ma_up (ma_up t 15 w (ma_i p)) 16 10 V k b = t k b := fun k b hk => by rw [ma_up_n (Or.inl (by omega)), ma_up_n (Or.inl (by omega))]
  have ns : ∀ (k b : Nat), k < 14 → ma_up s 15 w (ma_i p) k b = s k b := fun k b hk => ne s k b (by omega)
  have n14 : ∀ (b : Nat), ma_up s 15 w (ma_i p) 14 b = s 14 b := fun b => ne s 14 b (by decide)
  have n16 : ∀ (b : Nat), ma_up s 15 w (ma_i p) 16 b = s 16 b := fun b => ne s 16 b (by decide)
  have m16 : ∀ (b : Nat), b ≠ 10 → ma_up (ma_up t 15 w (ma_i p)) 16 10 V 16 b = t 16 b := fun b hb => by rw [ma_up_n (Or.inr hb), ma_up_n (Or.inl (by decide))]
  have m15 : ∀ (b : Nat), ma_up (ma_up t 15 w (ma_i p)) 16 10 V 15 b = ma_up t 15 w (ma_i p) 15 b := fun b => ma_up_n (Or.inl (by decide))
  unfold mr_rel
  refine ⟨hn, by rw [n16]; exact hs0, by rw [m16 0 (by decide)]; exact ht0, fun j h2 h9 => by rw [n16, m16 j (by omega)]; exact hsc j h2 h9, by rw [n16]; exact hwk, by rw [n16]; exact hch, by rw [n16]; exact hpd, ?_, ⟨hc, by rw [ma_up_e]; exact hV.symm⟩, ?_, ?_, ?_, ?_, ?_, ?_, ?_, ?_, ?_, ?_, ?_, ?_⟩
  · intro k hk
    rw [m15]
    by_cases e : k = w
    · subst e; rw [ma_up_e, ma_up_e]; exact ⟨rfl, p, hp, rfl⟩
    · rw [ma_up_n (Or.inr e), ma_up_n (Or.inr e)]; exact hfe k hk
  · intro k b hk a3 a7 a8 hb
    rw [ns k b hk, ne2 k b hk]; exact hcol k b hk a3 a7 a8 hb
  · intro b hb; rw [ns 4 b (by decide)]; exact hgo b hb
  · intro b hb; rw [ns 5 b (by decide), ns 2 b (by decide)]; exact hba b hb
  · intro b i hb hi; rw [ns 2 b (by decide), ns (9 + i) b (by omega)]; exact hbr b i hb hi
  · intro b hb; rw [ns 7 b (by decide), ns 2 b (by decide), ne2 7 b (by decide)]
    rcases hvo b hb with h1 | ⟨x, h1, h2, h3, h4, h5⟩
    · exact Or.inl h1
    · right; exact ⟨x, h1, h2, h3, h4, by rw [ns 2 x (by decide)]; exact h5⟩
  · intro b hb; rw [ns 2 b (by decide), ns 3 b (by decide), ne2 3 b (by decide)]
    refine ⟨fun h1 => ?_, (hce b hb).2⟩
    obtain ⟨c, g1, g2, g3, g4⟩ := (hce b hb).1 h1
    exact ⟨c, g1, g2, g3, by rw [n14]; exact g4⟩
  · intro c hc1
    rw [n14]
    rcases hcb c hc1 with h1 | ⟨b, h1, h2, h3, h4⟩
    · exact Or.inl h1
    · right; exact ⟨b, h1, h2, by rw [ns 2 b (by decide)]; exact h3, by rw [ns 3 b (by decide)]; exact h4⟩
  · obtain ⟨st, h1, h2, h3⟩ := hst
    exact ⟨st, h1, by rw [m16 1 (by decide)]; exact h2, fun b hb => by rw [ne2 8 b (by decide)]; exact h3 b hb⟩
  · obtain ⟨ch, h1, h2, h3⟩ := hsi
    refine ⟨ch, by rw [n16]; exact h1, ?_, fun b hb => by rw [ns 2 b (by decide), ns 8 b (by decide)]; exact h3 b hb⟩
    rw [ma_ct_congr (q := fun b => decide (s 2 b = 0)) n (fun j _ => by rw [ns 2 j (by decide)])]
    exact h2
  · intro a b ha hb; rw [ns 2 a (by decide), ns 2 b (by decide), ns 8 a (by decide), ns 8 b (by decide), ne2 8 a (by decide), ne2 8 b (by decide)]; exact hsl a b ha hb
  · intro a b ha hb; rw [ns 2 a (by decide), ns 2 b (by decide), ne2 8 a (by decide), ne2 8 b (by decide)]; exact hwl a b ha hb
  · intro b h1 h2
    obtain ⟨a1, a2, a3, a4, a5, a6⟩ := hnew b h1 h2
    rw [ns 2 b (by decide), ns 3 b (by decide), ns 7 b (by decide), ne2 2 b (by decide), ne2 7 b (by decide)]
    exact ⟨a1, a2, a3, fun k hk k4 k7 k8 => by rw [ns k b hk, ne2 k b hk]; exact a4 k hk k4 k7 k8, a5, a6⟩

/-! pence, and how brethren are: what the class keeps beside the relation -/
def ma_sm (f : Nat → Int32) : Nat → Int32
  | 0 => 0
  | n + 1 => ma_sm f n + f n
theorem ma_sm_s (f : Nat → Int32) (n : Nat) : ma_sm f (n + 1) = ma_sm f n + f n := rfl
theorem ma_sm_congr {f g : Nat → Int32} : ∀ n, (∀ j, j < n → f j = g j) → ma_sm f n = ma_sm g n := by
  intro n
  induction n with
  | zero => intro _; rfl
  | succ n ih => intro h; rw [ma_sm_s, ma_sm_s, h n (by omega), ih (fun j hj => h j (by omega))]
theorem ma_sm_cut {f : Nat → Int32} {n : Nat} : ∀ N, n ≤ N → (∀ j, n ≤ j → j < N → f j = 0) → ma_sm f N = ma_sm f n := by
  intro N
  induction N with
  | zero => intro h _; have : n = 0 := by omega
            rw [this]
  | succ N ih =>
    intro h hf
    by_cases hn : n = N + 1
    · rw [hn]
    · rw [ma_sm_s, hf N (by omega) (by omega), Int32.add_zero]
      exact ih (by omega) (fun j h1 h2 => hf j h1 (by omega))
theorem my_x1 (c i p g v : Int32) (h : c = 100 + i - p - g) : c + v = 100 + (i + v) - p - g := by grind
theorem my_x2 (c i p g v : Int32) (h : c = 100 + i - p - g) : c - v = 100 + i - (p + v) - g := by grind
theorem my_x3 (c i p g v : Int32) (h : c = 100 + i - p - g) : c - v = 100 + i - p - (g + v) := by grind
theorem my_x4 (a f e k : Int32) : a + e * k + (f + e) = a + f + e * (k + 1) := by grind
theorem my_x5 (a f e k : Int32) : a + e * k + f = a + f + e * k := by grind
def my_h (s : ma_S) : Prop := ∀ b, b < 16 → s 2 b = 0 ∨ s 2 b = 1 ∨ s 2 b = 2 ∨ s 2 b = 3 ∨ (s 2 b = -1 ∧ ¬ ma_i b < s 16 0)
/-- no two in cells were chosen at once -/
def my_d (s : ma_S) : Prop := ∀ a b, a < 16 → b < 16 → s 2 a = 1 → s 2 b = 1 → s 8 a = s 8 b → a = b
theorem my_d_same {s s2 : ma_S} (h : my_d s) (e2 : ∀ b, s2 2 b = 1 → s 2 b = 1) (e8 : ∀ b, s2 8 b = s 8 b) : my_d s2 := fun a b ha hb h1 h2 h3 => h a b ha hb (e2 a h1) (e2 b h2) (by rw [← e8 a, ← e8 b]; exact h3)
def my_m (K : Nat) (s : ma_S) : Prop := s 16 4 = 100 + s 16 5 - s 16 6 - s 16 7 ∧ s 16 6 = ma_sm (fun b => s 6 b) 16 ∧ (∀ b, b < 16 → ∃ g, g ≤ K ∧ s 6 b = ma_i g) ∧ my_h s ∧ my_d s
def my_k (d : Nat) (s s2 : ma_S) : Prop := ∀ K, my_m K s → my_m (K + d) s2
theorem my_mono {K K2 : Nat} {s : ma_S} (hK : K ≤ K2) (h : my_m K s) : my_m K2 s := by
  obtain ⟨h1, h2, h3, h4, h5⟩ := h
  refine ⟨h1, h2, fun b hb => ?_, h4, h5⟩
  obtain ⟨g, a1, a2⟩ := h3 b hb
  exact ⟨g, by omega, a2⟩
theorem my_kk {d e : Nat} {s s2 : ma_S} (hd : d ≤ e) (h : my_k d s s2) : my_k e s s2 := fun K hm => my_mono (by omega) (h K hm)
theorem my_kt {d e : Nat} {s s1 s2 : ma_S} (h1 : my_k d s s1) (h2 : my_k e s1 s2) : my_k (d + e) s s2 := fun K hm => my_mono (by omega) (h2 _ (h1 K hm))
/-- nothing of it changes, but how a brother who came is -/
def my_q (s s2 : ma_S) : Prop := (∀ j, 4 ≤ j → j ≤ 7 → s2 16 j = s 16 j) ∧ (∀ b, s2 6 b = s 6 b) ∧ (∀ b, s2 2 b = s 2 b ∨ s2 2 b = 0 ∨ s2 2 b = 2 ∨ s2 2 b = 3) ∧ s2 16 0 = s 16 0 ∧ (∀ b, s2 8 b = s 8 b)
theorem my_q_rf (s : ma_S) : my_q s s := ⟨fun _ _ _ => rfl, fun _ => rfl, fun _ => Or.inl rfl, rfl, fun _ => rfl⟩
theorem my_q_tr {s s1 s2 : ma_S} (h1 : my_q s s1) (h2 : my_q s1 s2) : my_q s s2 := by
  obtain ⟨a1, a2, a3, a4, a5⟩ := h1
  obtain ⟨b1, b2, b3, b4, b5⟩ := h2
  refine ⟨fun j u v => (b1 j u v).trans (a1 j u v), fun b => (b2 b).trans (a2 b), fun b => ?_, b4.trans a4, fun b => (b5 b).trans (a5 b)⟩
  rcases b3 b with h | h
  · rw [h]; exact a3 b
  · exact Or.inr h
theorem my_q_k {d : Nat} {s s2 : ma_S} (h : my_q s s2) : my_k d s s2 := by
  intro K hm
  obtain ⟨a1, a2, a3, a4, a5⟩ := h
  obtain ⟨h1, h2, h3, h4, h5⟩ := hm
  refine ⟨?_, ?_, fun b hb => ?_, fun b hb => ?_, my_d_same h5 (fun b hb => ?_) a5⟩
  · rw [a1 4 (by decide) (by decide), a1 5 (by decide) (by decide), a1 6 (by decide) (by decide), a1 7 (by decide) (by decide)]; exact h1
  · rw [a1 6 (by decide) (by decide), h2]
    exact ma_sm_congr 16 (fun j _ => (a2 j).symm)
  · obtain ⟨g, g1, g2⟩ := h3 b hb
    exact ⟨g, by omega, (a2 b).trans g2⟩
  · rcases a3 b with e | e | e | e
    · rw [e, a4]; exact h4 b hb
    · exact Or.inl e
    · exact Or.inr (Or.inr (Or.inl e))
    · exact Or.inr (Or.inr (Or.inr (Or.inl e)))
  · rcases a3 b with e | e | e | e
    · rw [← e]; exact hb
    · rw [e] at hb; exact absurd hb (by decide)
    · rw [e] at hb; exact absurd hb (by decide)
    · rw [e] at hb; exact absurd hb (by decide)
theorem my_q_up {s : ma_S} {k0 b0 : Nat} {v : Int32} (h2 : k0 ≠ 2) (h6 : k0 ≠ 6) (h8 : k0 ≠ 8) (h16 : k0 = 16 → b0 ≠ 0 ∧ (b0 < 4 ∨ 7 < b0)) : my_q s (ma_up s k0 b0 v) := by
  refine ⟨fun j u w => ?_, fun b => ?_, fun b => Or.inl ?_, ?_, fun b => ?_⟩
  · exact if_neg (fun h => by have := h16 h.1.symm; omega)
  · exact if_neg (fun h => h6 h.1.symm)
  · exact if_neg (fun h => h2 h.1.symm)
  · exact if_neg (fun h => by have := h16 h.1.symm; omega)
  · exact if_neg (fun h => h8 h.1.symm)
theorem my_q_h {s : ma_S} {b0 : Nat} {v : Int32} (hv : v = 0 ∨ v = 2 ∨ v = 3) : my_q s (ma_up s 2 b0 v) := by
  refine ⟨fun j u w => ?_, fun b => ?_, fun b => ?_, ?_, fun b => if_neg (fun h => absurd h.1 (by decide))⟩
  · exact if_neg (fun h => absurd h.1 (by decide))
  · exact if_neg (fun h => absurd h.1 (by decide))
  · by_cases h : b = b0
    · right
      have : ma_up s 2 b0 v 2 b = v := if_pos ⟨rfl, h⟩
      rw [this]; exact hv
    · exact Or.inl (if_neg (fun hh => h hh.2))
  · exact if_neg (fun h => absurd h.1 (by decide))
/-- pence come in -/
theorem my_in {s : ma_S} {c v : Int32} (hc : c = s 16 4 + v) : my_k 0 s (ma_up (ma_up s 16 4 c) 16 5 (s 16 5 + v)) := by
  intro K hm
  obtain ⟨h1, h2, h3, h4, h5⟩ := hm
  have e4 : ma_up (ma_up s 16 4 c) 16 5 (s 16 5 + v) 16 4 = c := by unfold ma_up; simp
  have e5 : ma_up (ma_up s 16 4 c) 16 5 (s 16 5 + v) 16 5 = s 16 5 + v := by unfold ma_up; simp
  have e : ∀ k b, (k ≠ 16 ∨ (b ≠ 4 ∧ b ≠ 5)) → ma_up (ma_up s 16 4 c) 16 5 (s 16 5 + v) k b = s k b := fun k b h => by
    unfold ma_up
    rw [if_neg (by omega), if_neg (by omega)]
  refine ⟨?_, ?_, fun b hb => ?_, fun b hb => ?_, my_d_same h5 (fun b hb => by rw [← e 2 b (by omega)]; exact hb) (fun b => e 8 b (by omega))⟩
  · rw [e4, e5, e 16 6 (by omega), e 16 7 (by omega), hc]
    exact my_x1 _ _ _ _ _ h1
  · rw [e 16 6 (by omega), h2]
    exact ma_sm_congr 16 (fun j _ => (e 6 j (by omega)).symm)
  · obtain ⟨g, g1, g2⟩ := h3 b hb
    exact ⟨g, by omega, (e 6 b (by omega)).trans g2⟩
  · rw [e 2 b (by omega), e 16 0 (by omega)]
    exact h4 b hb
/-- a gown is bought -/
theorem my_buy {s s2 : ma_S} (e4 : s2 16 4 = s 16 4 - 8) (e7 : s2 16 7 = s 16 7 + 8) (e : ∀ k b, (k ≠ 4 ∧ (k ≠ 16 ∨ (b ≠ 4 ∧ b ≠ 7 ∧ b ≠ 8))) → s2 k b = s k b) : my_k 0 s s2 := by
  intro K hm
  obtain ⟨h1, h2, h3, h4, h5⟩ := hm
  refine ⟨?_, ?_, fun b hb => ?_, fun b hb => ?_, my_d_same h5 (fun b hb => by rw [← e 2 b (by omega)]; exact hb) (fun b => e 8 b (by omega))⟩
  · rw [e4, e7, e 16 5 (by omega), e 16 6 (by omega)]
    exact my_x3 _ _ _ _ _ h1
  · rw [e 16 6 (by omega), h2]
    exact ma_sm_congr 16 (fun j _ => (e 6 j (by omega)).symm)
  · obtain ⟨g, g1, g2⟩ := h3 b hb
    exact ⟨g, by omega, (e 6 b (by omega)).trans g2⟩
  · rw [e 2 b (by omega), e 16 0 (by omega)]
    exact h4 b hb
theorem my_sum {f : Nat → Int32} {p : Nat → Bool} {e : Int32} : ∀ n, ma_sm (fun b => if p b = true then f b + e else f b) n = ma_sm f n + e * ma_i (ma_ct p n) := by
  intro n
  induction n with
  | zero =>
    show (0 : Int32) = 0 + e * 0
    rw [Int32.mul_zero, Int32.add_zero]
  | succ n ih =>
    rw [ma_sm_s, ma_sm_s, ma_ct_s, ih]
    by_cases h : p n = true
    · rw [if_pos h, if_pos h, ← ma_add]
      exact my_x4 _ _ _ _
    · rw [if_neg h, if_neg h, Nat.add_zero]
      exact my_x5 _ _ _ _
/-- pence are paid out -/
theorem my_pay {s s2 : ma_S} {p : Nat → Bool} {e : Nat} (he : e ≤ 9) (e4 : s2 16 4 = s 16 4 - ma_i e * ma_i (ma_ct p 16)) (e6 : s2 16 6 = s 16 6 + ma_i e * ma_i (ma_ct p 16)) (eg : ∀ b, b < 16 → s2 6 b = if p b = true then s 6 b + ma_i e else s 6 b) (eo : ∀ k b, (k ≠ 6 ∧ (k ≠ 16 ∨ (b ≠ 4 ∧ b ≠ 6))) → s2 k b = s k b) : my_k 9 s s2 := by
  intro K hm
  obtain ⟨h1, h2, h3, h4, h5⟩ := hm
  refine ⟨?_, ?_, fun b hb => ?_, fun b hb => ?_, my_d_same h5 (fun b hb => by rw [← eo 2 b (by omega)]; exact hb) (fun b => eo 8 b (by omega))⟩
  · rw [e4, e6, eo 16 5 (by omega), eo 16 7 (by omega)]
    exact my_x2 _ _ _ _ _ h1
  · rw [e6, h2, ← my_sum 16]
    exact ma_sm_congr 16 (fun j hj => (eg j hj).symm)
  · obtain ⟨g, g1, g2⟩ := h3 b hb
    rw [eg b hb, g2]
    split
    · exact ⟨g + e, by omega, ma_add g e⟩
    · exact ⟨g, by omega, rfl⟩
  · rw [eo 2 b (by omega), eo 16 0 (by omega)]
    exact h4 b hb

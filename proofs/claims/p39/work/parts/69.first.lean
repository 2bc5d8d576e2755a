/-! the first memory -/
def fs_m : fm_M := fm_up (fm_up (fm_up fs_z 2 fs_g) 4 fs_g) 7 fs_g
def fs_w : Nat → Int32 := upd (fun _ => 0) 3 100
theorem fs_m2 : fs_m 2 = fs_g := rfl
theorem fs_r0 : ∀ k, k < 52 → ma_c fs_g 15 k = 0 ∧ ma_w fs_w 15 k = 0 := by decide +kernel
theorem fs_r1 : ∀ j, j < 10 → 2 ≤ j → ma_c fs_g 16 j = ma_w fs_w 16 j := by decide +kernel
theorem fs_r2 : ∀ c, c < 8 → ma_c fs_g 14 c = -15 := by decide +kernel
theorem fs_r3a : ∀ b, b < 16 → ma_c fs_g 2 b = -1 ∧ ma_c fs_g 3 b = -15 ∧ ma_c fs_g 7 b = -15 ∧ ma_w fs_w 2 b = 0 ∧ ma_w fs_w 7 b = 0 := by decide +kernel
theorem fs_r3b : ∀ b, b < 16 → ∀ k, k < 14 → k < 4 ∨ k = 7 ∨ k = 8 ∨ (ma_c fs_g k b = 0 ∧ ma_w fs_w k b = 0) := by decide +kernel
theorem fs_r3 : ∀ b, b < 16 → ma_c fs_g 2 b = -1 ∧ ma_c fs_g 3 b = -15 ∧ ma_c fs_g 7 b = -15 ∧ (∀ k, k < 14 → 4 ≤ k → k ≠ 7 → k ≠ 8 → ma_c fs_g k b = 0 ∧ ma_w fs_w k b = 0) ∧ ma_w fs_w 2 b = 0 ∧ ma_w fs_w 7 b = 0 := by
  intro b hb
  obtain ⟨h1, h2, h3, h4, h5⟩ := fs_r3a b hb
  refine ⟨h1, h2, h3, fun k hk h4k h7 h8 => ?_, h4, h5⟩
  rcases fs_r3b b hb k hk with h | h | h | h
  · omega
  · exact absurd h h7
  · exact absurd h h8
  · exact h
theorem fs_r4 : ma_ct (fun k => decide (0 < ma_c fs_g 15 k)) 52 = 0 := (ma_ct_0 52).mpr (fun j hj => by rw [(fs_r0 j hj).1]; rfl)
theorem fs_rel : mr_rel 0 0 (ma_c fs_g) (ma_w fs_w) := by
  refine ⟨Nat.zero_le _, by decide +kernel, by decide +kernel, fun j h1 h2 => fs_r1 j (by omega) h1, ⟨0, by decide, by decide +kernel⟩, ⟨100, by decide, by decide +kernel⟩, ⟨0, by decide, by decide +kernel⟩, fun k hk => ⟨(fs_r0 k hk).1.trans (fs_r0 k hk).2.symm, 0, by decide, (fs_r0 k hk).1⟩, ⟨by rw [fs_r4]; decide, by rw [fs_r4]; decide +kernel⟩, ?_, ?_, ?_, ?_, ?_, ?_, fun c hc => Or.inl (fs_r2 c hc), ⟨0, Nat.le_refl _, by decide +kernel, ?_⟩, ⟨0, by decide +kernel, Nat.le_refl _, ?_⟩, ?_, ?_, fun b _ hb => fs_r3 b hb⟩
  · intro k b _ _ _ _ hb; exact absurd hb (Nat.not_lt_zero _)
  · intro b hb; exact absurd hb (Nat.not_lt_zero _)
  · intro b hb; exact absurd hb (Nat.not_lt_zero _)
  · intro b j hb; exact absurd hb (Nat.not_lt_zero _)
  · intro b hb; exact absurd hb (Nat.not_lt_zero _)
  · intro b hb; exact absurd hb (Nat.not_lt_zero _)
  · intro b hb; exact absurd hb (Nat.not_lt_zero _)
  · intro b hb; exact absurd hb (Nat.not_lt_zero _)
  · intro a b ha; exact absurd ha (Nat.not_lt_zero _)
  · intro a b _ hb; exact absurd hb (Nat.not_lt_zero _)
theorem fs_o1 : ∀ b, b < 16 → ma_c fs_g 6 b = 0 ∧ ma_c fs_g 2 b = -1 := by decide +kernel
theorem fs_o2 : ma_c fs_g 16 4 = 100 + ma_c fs_g 16 5 - ma_c fs_g 16 6 - ma_c fs_g 16 7 ∧ ma_c fs_g 16 6 = 0 ∧ ma_c fs_g 16 0 = 0 := by decide +kernel
theorem fs_my : my_m 0 (ma_c fs_g) := by
  refine ⟨fs_o2.1, ?_, fun b hb => ⟨0, Nat.le_refl _, (fs_o1 b hb).1⟩, fun b hb => Or.inr (Or.inr (Or.inr (Or.inr ⟨(fs_o1 b hb).2, ?_⟩))), fun a b ha _ h1 _ _ => ?_⟩
  · rw [fs_o2.2.1]
    symm
    exact (ma_sm_cut (n := 0) 16 (Nat.zero_le _) (fun j _ hj => (fs_o1 j hj).1)).trans rfl
  · rw [fs_o2.2.2]
    exact ma_nn (by omega)
  · rw [(fs_o1 a ha).2] at h1
    exact absurd h1 (by decide)
theorem fs_I : lw_I 0 0 fs_m := ⟨⟨⟨fs_w, fs_rel⟩, fs_my⟩, ⟨0, 0, by decide, by decide, rfl, rfl⟩, rfl⟩

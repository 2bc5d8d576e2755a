/-! ranks are in order -/
theorem rk_min {key : Nat → Int32} {P : Nat → Bool} : ∀ n, (∃ j, j < n ∧ P j = true) → ∃ b, b < n ∧ P b = true ∧ ∀ j, j < n → P j = true → key b ≤ key j := by
  intro n
  induction n with
  | zero => rintro ⟨j, hj, _⟩; omega
  | succ n ih =>
    rintro ⟨j, hj, hp⟩
    by_cases hex : ∃ j, j < n ∧ P j = true
    · obtain ⟨b, hb, h1, h2⟩ := ih hex
      by_cases hn : P n = true
      · by_cases hle : key b ≤ key n
        · refine ⟨b, by omega, h1, fun i hi hpi => ?_⟩
          by_cases e : i = n
          · rw [e]; exact hle
          · exact h2 i (by omega) hpi
        · refine ⟨n, by omega, hn, fun i hi hpi => ?_⟩
          by_cases e : i = n
          · rw [e]; exact Int32.le_refl _
          · have hlt : key n < key b := Int32.not_le.mp hle
            exact Int32.le_trans (Int32.le_of_lt hlt) (h2 i (by omega) hpi)
      · refine ⟨b, by omega, h1, fun i hi hpi => ?_⟩
        by_cases e : i = n
        · rw [e] at hpi; exact absurd hpi hn
        · exact h2 i (by omega) hpi
    · have e : j = n := by
        by_cases h : j = n
        · exact h
        · exact absurd ⟨j, by omega, hp⟩ hex
      subst e
      refine ⟨j, hj, hp, fun i hi hpi => ?_⟩
      by_cases h : i = j
      · rw [h]; exact Int32.le_refl _
      · exact absurd ⟨i, by omega, hpi⟩ hex
theorem rk_imp {p q : Nat → Bool} : ∀ n, (∀ j, j < n → p j = true → q j = true) → ma_ct p n ≤ ma_ct q n := by
  intro n
  induction n with
  | zero => intro _; exact Nat.le_refl _
  | succ n ih =>
    intro h
    have h1 := ih (fun j hj => h j (by omega))
    rw [ma_ct_s, ma_ct_s]
    by_cases hp : p n = true
    · rw [if_pos hp, if_pos (h n (by omega) hp)]; omega
    · rw [if_neg hp]; omega
/-- above b -/
def rk_up (key : Nat → Int32) (b : Nat) : Nat := ma_ct (fun k => decide (key b < key k)) 16
theorem rk_up_le {key : Nat → Int32} {a b : Nat} (h : key a ≤ key b) : rk_up key b ≤ rk_up key a := rk_imp 16 (fun j _ hj => by
  have := of_decide_eq_true hj
  exact decide_eq_true (Int32.lt_of_le_of_lt h this))
theorem rk_prev {key : Nat → Int32} (hd : ∀ i j, i < 16 → j < 16 → ¬ key i < 0 → key i = key j → i = j) {b k : Nat} (hb : ¬ key b < 0) (hu : rk_up key b = k + 1) : ∃ a, a < 16 ∧ key b < key a ∧ rk_up key a = k := by
  have hex : ∃ j, j < 16 ∧ (fun k => decide (key b < key k)) j = true := by
    by_cases h : ∃ j, j < 16 ∧ (fun k => decide (key b < key k)) j = true
    · exact h
    · have : rk_up key b = 0 := (ma_ct_0 16).mpr (fun j hj => by
        cases hp : decide (key b < key j) with
        | false => rfl
        | true => exact absurd ⟨j, hj, hp⟩ h)
      omega
  obtain ⟨a, ha, h1, h2⟩ := rk_min (key := key) 16 hex
  have hba : key b < key a := of_decide_eq_true h1
  have hann : ¬ key a < 0 := fun h => hb (Int32.lt_trans hba h)
  refine ⟨a, ha, hba, ?_⟩
  have key1 := ma_ct_one (p := fun k => decide (key b < key k)) (q := fun k => decide (key a < key k)) (i := a) 16 (fun j hj hne => by
    cases hp : decide (key b < key j) with
    | false =>
      symm
      refine decide_eq_false (fun hh => ?_)
      exact of_decide_eq_false hp (Int32.lt_trans hba hh)
    | true =>
      symm
      refine decide_eq_true ?_
      have hle := h2 j hj hp
      refine Int32.lt_iff_le_and_ne.mpr ⟨hle, fun e => hne (hd a j ha hj hann e).symm⟩)
  rw [if_neg (by simp), if_pos ⟨ha, decide_eq_true hba⟩] at key1
  unfold rk_up at hu ⊢
  omega
theorem rk_cases (key : Nat → Int32) (k : Nat) (hk : k < 100) : (mc_rank key (ma_i k) = -11 ∧ ∀ b, b < 16 → ¬ (¬ key b < 0 ∧ rk_up key b = k)) ∨ ∃ b, b < 16 ∧ mc_rank key (ma_i k) = ma_i b ∧ ¬ key b < 0 ∧ rk_up key b = k := by
  have hpl : ∀ b, mc_pl key (ma_i k) b = true ↔ (¬ key b < 0 ∧ rk_up key b = k) := by
    intro b
    unfold mc_pl rk_up
    have hle := ma_ct_le (fun k => decide (key b < key k)) 16
    simp only [Bool.and_eq_true, decide_eq_true_eq]
    rw [ma_inj (by omega) (by omega)]
  unfold mc_rank
  rcases ma_ff_spec (mc_pl key (ma_i k)) 16 0 with ⟨h1, h2, h3, h4⟩ | ⟨h1, h2⟩
  · right
    rw [if_pos (by omega)]
    have := (hpl _).mp h3
    exact ⟨_, by omega, rfl, this.1, this.2⟩
  · left
    rw [if_neg (by omega)]
    refine ⟨rfl, fun b hb hh => ?_⟩
    have := h2 b (by omega) (by omega)
    rw [(hpl b).mpr hh] at this
    cases this
theorem rk_two {key : Nat → Int32} (hd : ∀ i j, i < 16 → j < 16 → ¬ key i < 0 → key i = key j → i = j) {k : Nat} (hk : k < 50) : (mc_rank key (ma_i (k + 1)) = -11 ∧ (mc_rank key (ma_i k) = -11 ∨ ∃ b, b < 16 ∧ mc_rank key (ma_i k) = ma_i b ∧ ¬ key b < 0)) ∨ ∃ a b, a < 16 ∧ b < 16 ∧ mc_rank key (ma_i k) = ma_i a ∧ mc_rank key (ma_i (k + 1)) = ma_i b ∧ ¬ key a < 0 ∧ ¬ key b < 0 ∧ key b < key a := by
  rcases rk_cases key (k + 1) (by omega) with ⟨h1, _⟩ | ⟨b, hb, h1, h2, h3⟩
  · left
    refine ⟨h1, ?_⟩
    rcases rk_cases key k (by omega) with ⟨g1, _⟩ | ⟨a, ha, g1, g2, _⟩
    · exact Or.inl g1
    · exact Or.inr ⟨a, ha, g1, g2⟩
  · right
    obtain ⟨a0, a1, a2, a3⟩ := rk_prev hd h2 h3
    rcases rk_cases key k (by omega) with ⟨_, g2⟩ | ⟨a, ha, g1, g2, g3⟩
    · exact absurd ⟨fun h => h2 (Int32.lt_trans a2 h), a3⟩ (g2 a0 a1)
    · refine ⟨a, b, ha, hb, g1, h1, g2, h2, ?_⟩
      by_cases hlt : key b < key a
      · exact hlt
      · have := rk_up_le (key := key) (Int32.not_lt.mp hlt)
        omega
/-- who is counted at all -/
theorem rk_none {key : Nat → Int32} {p : Nat → Bool} (hp : ∀ b, b < 16 → (¬ key b < 0 ↔ p b = true)) : mc_rank key (ma_i (ma_ct p 16)) = -11 := by
  have hle := ma_ct_le p 16
  rcases rk_cases key (ma_ct p 16) (by omega) with ⟨h, _⟩ | ⟨b, hb, h1, h2, h3⟩
  · exact h
  · exfalso
    have hpb := (hp b hb).mp h2
    have k1 := ma_ct_one (p := p) (q := fun j => p j && decide (j ≠ b)) (i := b) 16 (fun j _ hne => by simp [hne])
    rw [if_neg (by simp), if_pos ⟨hb, hpb⟩] at k1
    have k2 : rk_up key b ≤ ma_ct (fun j => p j && decide (j ≠ b)) 16 := rk_imp 16 (fun j hj hh => by
      have hlt := of_decide_eq_true hh
      have hj0 : ¬ key j < 0 := fun q => h2 (Int32.lt_trans hlt q)
      rw [(hp j hj).mp hj0, Bool.true_and]
      refine decide_eq_true (fun e => ?_)
      rw [e] at hlt
      exact Int32.lt_irrefl hlt)
    omega
theorem rk_kv_nn {s : ma_S} {b : Nat} (hb : b < 16) : ¬ mc_kv s b < 0 ↔ s 2 b = 0 := by
  unfold mc_kv
  by_cases h : s 2 b = 0
  · rw [if_pos h]
    have := mc_vo_le s b
    exact ⟨fun _ => h, fun _ => ma_nn (by omega)⟩
  · rw [if_neg h]
    exact ⟨fun hh => absurd (by decide) hh, fun hh => absurd hh h⟩
theorem rk_kv_d {s : ma_S} : ∀ i j, i < 16 → j < 16 → ¬ mc_kv s i < 0 → mc_kv s i = mc_kv s j → i = j := by
  intro i j hi hj h0 e
  have h1 := (rk_kv_nn hi).mp h0
  have h2 := (rk_kv_nn (s := s) hj).mp (by rw [← e]; exact h0)
  have v1 := mc_vo_le s i
  have v2 := mc_vo_le s j
  unfold mc_kv at e
  rw [if_pos h1, if_pos h2] at e
  have := (ma_inj (by omega) (by omega)).mp e
  omega
theorem rk_kv_lt {s : ma_S} {a b : Nat} (ha : a < 16) (hb : b < 16) (h1 : s 2 a = 0) (h2 : s 2 b = 0) (h : mc_kv s b < mc_kv s a) : mc_vo s b ≤ mc_vo s a := by
  have v1 := mc_vo_le s a
  have v2 := mc_vo_le s b
  unfold mc_kv at h
  rw [if_pos h1, if_pos h2] at h
  have := (ma_lt (by omega) (by omega)).mp h
  omega
theorem rk_kg_in {B n : Nat} {s t : ma_S} (h : mr_rel B n s t) {b : Nat} (hb : b < 16) (hw : s 2 b = 1) : b < n := by
  by_cases q : b < n
  · exact q
  · rw [mr_new2 h (by omega) hb] at hw; exact absurd hw (by decide)
theorem rk_kg_nn {B n : Nat} {s t : ma_S} (h : mr_rel B n s t) (hB : B < 1000000) {b : Nat} (hb : b < 16) : ¬ mc_kg s b < 0 ↔ s 2 b = 1 := by
  by_cases hw : s 2 b = 1
  · obtain ⟨g, z, h1, h2, h3, h4, h5⟩ := mr_kg h (rk_kg_in h hb hw) hw
    rw [h5]
    exact ⟨fun _ => hw, fun _ => ma_nn (by omega)⟩
  · unfold mc_kg
    rw [if_neg hw]
    exact ⟨fun hh => absurd (by decide) hh, fun hh => absurd hh hw⟩
theorem rk_kg_d {B n : Nat} {s t : ma_S} (h : mr_rel B n s t) (hB : B < 1000000) (hdd : my_d s) : ∀ i j, i < 16 → j < 16 → ¬ mc_kg s i < 0 → mc_kg s i = mc_kg s j → i = j := by
  intro i j hi hj h0 e
  have h1 := (rk_kg_nn h hB hi).mp h0
  have h2 := (rk_kg_nn h hB hj).mp (by rw [← e]; exact h0)
  obtain ⟨g, z, a1, a2, a3, a4, a5⟩ := mr_kg h (rk_kg_in h hi h1) h1
  obtain ⟨g', z', b1, b2, b3, b4, b5⟩ := mr_kg h (rk_kg_in h hj h2) h2
  rw [a5, b5] at e
  have := (ma_inj (by omega) (by omega)).mp e
  have ez : z = z' := by omega
  refine hdd i j hi hj h1 h2 ?_
  rw [a4, b4, ez]
theorem rk_kg_lt {B n : Nat} {s t : ma_S} (h : mr_rel B n s t) (hB : B < 1000000) {a b : Nat} (ha : a < 16) (hb : b < 16) (h1 : s 2 a = 1) (h2 : s 2 b = 1) (hlt : mc_kg s b < mc_kg s a) : ∃ g g', g ≤ B ∧ g' ≤ B ∧ s 4 a = ma_i g ∧ s 4 b = ma_i g' ∧ g' ≤ g := by
  obtain ⟨g, z, a1, a2, a3, a4, a5⟩ := mr_kg h (rk_kg_in h ha h1) h1
  obtain ⟨g', z', b1, b2, b3, b4, b5⟩ := mr_kg h (rk_kg_in h hb h2) h2
  rw [a5, b5] at hlt
  have := (ma_lt (by omega) (by omega)).mp hlt
  exact ⟨g, g', a1, b1, a3, b3, by omega⟩
theorem rk_kt_nn {B n : Nat} {s t : ma_S} (h : mr_rel B n s t) {b : Nat} (hb : b < 16) : ¬ mc_kt s b < 0 ↔ s 2 b = 1 := by
  by_cases hw : s 2 b = 1
  · obtain ⟨z, z1, z2⟩ := mr_si h b (rk_kg_in h hb hw) hw
    have e : mc_kt s b = ma_i (15 - z) := by
      unfold mc_kt
      rw [if_pos hw, z2]
      exact ma_sub (a := 15) (by omega)
    rw [e]
    exact ⟨fun _ => hw, fun _ => ma_nn (by omega)⟩
  · unfold mc_kt
    rw [if_neg hw]
    exact ⟨fun hh => absurd (by decide) hh, fun hh => absurd hh hw⟩

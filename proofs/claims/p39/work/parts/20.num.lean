/-! MATHEMATICS: small numbers as ints, counts, loops, states by column and place -/
def ma_i (n : Nat) : Int32 := Int32.ofNat n
theorem ma_lit (n : Nat) : (OfNat.ofNat n : Int32) = ma_i n := rfl
theorem ma_add (a b : Nat) : ma_i a + ma_i b = ma_i (a + b) := (Int32.ofNat_add a b).symm
theorem ma_mul (a b : Nat) : ma_i a * ma_i b = ma_i (a * b) := (Int32.ofNat_mul a b).symm
theorem ma_sub {a b : Nat} (h : b ≤ a) : ma_i a - ma_i b = ma_i (a - b) := (Int32.ofNat_sub a b h).symm
theorem ma_int {a : Nat} (h : a < 2147483648) : (ma_i a).toInt = (a : Int) := Int32.toInt_ofNat_of_lt h
theorem ma_cn {a : Nat} (h : a < 2147483648) : (ma_i a).toNatClampNeg = a := Int32.toNatClampNeg_ofNat_of_lt h
theorem ma_le {a b : Nat} (ha : a < 2147483648) (hb : b < 2147483648) : ma_i a ≤ ma_i b ↔ a ≤ b := Int32.ofNat_le_iff_le ha hb
theorem ma_lt {a b : Nat} (ha : a < 2147483648) (hb : b < 2147483648) : ma_i a < ma_i b ↔ a < b := Int32.ofNat_lt_iff_lt ha hb
theorem ma_inj {a b : Nat} (ha : a < 2147483648) (hb : b < 2147483648) : ma_i a = ma_i b ↔ a = b := by
  constructor
  · intro h
    have := congrArg Int32.toNatClampNeg h
    rwa [ma_cn ha, ma_cn hb] at this
  · intro h
    rw [h]
theorem ma_nn {a : Nat} (ha : a < 2147483648) : ¬ ma_i a < 0 := by
  have h : ¬ ma_i a < ma_i 0 := by rw [ma_lt ha (by decide)]; omega
  exact h
theorem ma_of {x : Int32} (h : ¬ x < 0) : ∃ n, n < 2147483648 ∧ x = ma_i n := ⟨x.toNatClampNeg, x.toNatClampNeg_lt, (Int32.ofNat_toNatClampNeg x (Int32.not_lt.mp h)).symm⟩
theorem ma_ofb {x : Int32} {a : Nat} (ha : a < 2147483648) (h : ¬ x < 0) (h2 : ¬ (OfNat.ofNat a : Int32) ≤ x) : ∃ n, n < a ∧ x = ma_i n := by
  obtain ⟨n, hn, rfl⟩ := ma_of h
  refine ⟨n, ?_, rfl⟩
  have h3 : ¬ ma_i a ≤ ma_i n := h2
  rw [ma_le ha hn] at h3
  omega
theorem ma_g0 {a k : Nat} (h : k < a) (ha : a < 2147483648) : ¬ ((OfNat.ofNat a : Int32) ≤ ma_i k) := by
  have h2 : ¬ (ma_i a ≤ ma_i k) := by rw [ma_le ha (by omega)]; omega
  exact h2
theorem ma_g1 {a : Nat} : (OfNat.ofNat a : Int32) ≤ ma_i a := Int32.le_refl _
theorem ma_s1 (k : Nat) : ma_i k + 1 = ma_i (k + 1) := ma_add k 1
theorem ma_in {k n : Nat} (h : k < n) (hk : n < 2147483648) : fm_in (ma_i k) n = true := by
  have h1 : ¬ (ma_i k < 0 ∨ n ≤ (ma_i k).toNatClampNeg) := by
    rw [ma_cn (by omega)]
    intro hh
    rcases hh with h1 | h1
    · exact ma_nn (by omega) h1
    · omega
  unfold fm_in
  exact decide_eq_true h1
theorem ma_ne {a : Nat} (ha : a < 2147483648) {x : Int32} (hx : x < 0) : ¬ ma_i a = x := by
  intro h
  rw [← h] at hx
  exact ma_nn ha hx
/-! loops -/
theorem ma_loop {ρ : Type} (F : Nat → Nat → Option ρ) (N : Nat) {res : Option ρ} (hs : ∀ f k, k < N → F (f + 1) k = F f (k + 1)) (hl : ∀ f, F (f + 1) N = res) : ∀ f k, k ≤ N → N - k < f → F f k = res := by
  intro f
  induction f with
  | zero => intro k _ h; omega
  | succ f ih =>
    intro k hk hf
    by_cases h : k = N
    · subst h; exact hl f
    · rw [hs f k (by omega)]; exact ih (k + 1) (by omega) (by omega)
/-- the first place from k on, of d places, where p holds; k + d if none -/
def ma_ff (p : Nat → Bool) : Nat → Nat → Nat
  | 0, k => k
  | d + 1, k => if p k = true then k else ma_ff p d (k + 1)
theorem ma_ff_spec (p : Nat → Bool) : ∀ d k, (k ≤ ma_ff p d k ∧ ma_ff p d k < k + d ∧ p (ma_ff p d k) = true ∧ ∀ j, k ≤ j → j < ma_ff p d k → p j = false) ∨ (ma_ff p d k = k + d ∧ ∀ j, k ≤ j → j < k + d → p j = false) := by
  intro d
  induction d with
  | zero => intro k; right; exact ⟨rfl, fun j h1 h2 => by omega⟩
  | succ d ih =>
    intro k
    unfold ma_ff
    by_cases h : p k = true
    · rw [if_pos h]; left; exact ⟨Nat.le_refl _, by omega, h, fun j h1 h2 => by omega⟩
    · rw [if_neg h]
      have hk : p k = false := by simpa using h
      rcases ih (k + 1) with ⟨h1, h2, h3, h4⟩ | ⟨h1, h2⟩
      · left
        refine ⟨by omega, by omega, h3, fun j h5 h6 => ?_⟩
        by_cases hj : j = k
        · rw [hj]; exact hk
        · exact h4 j (by omega) h6
      · right
        refine ⟨by omega, fun j h5 h6 => ?_⟩
        by_cases hj : j = k
        · rw [hj]; exact hk
        · exact h2 j (by omega) (by omega)
theorem ma_ff_congr {p q : Nat → Bool} : ∀ d k, (∀ j, k ≤ j → j < k + d → p j = q j) → ma_ff p d k = ma_ff q d k := by
  intro d
  induction d with
  | zero => intro k _; rfl
  | succ d ih =>
    intro k h
    unfold ma_ff
    rw [h k (Nat.le_refl _) (by omega), ih (k + 1) (fun j h1 h2 => h j (by omega) (by omega))]
theorem ma_find {ρ : Type} (F : Nat → Nat → Option ρ) (N : Nat) (p : Nat → Bool) (res : Nat → Option ρ) {resN : Option ρ} (hit : ∀ f k, k < N → p k = true → F (f + 1) k = res k) (miss : ∀ f k, k < N → p k = false → F (f + 1) k = F f (k + 1)) (hl : ∀ f, F (f + 1) N = resN) : ∀ f k, k ≤ N → N - k < f → F f k = if ma_ff p (N - k) k < N then res (ma_ff p (N - k) k) else resN := by
  intro f
  induction f with
  | zero => intro k _ h; omega
  | succ f ih =>
    intro k hk hf
    by_cases h : k = N
    · subst h
      rw [Nat.sub_self]
      unfold ma_ff
      rw [if_neg (by omega)]
      exact hl f
    · obtain ⟨d, hd⟩ : ∃ d, N - k = d + 1 := ⟨N - k - 1, by omega⟩
      rw [hd]
      unfold ma_ff
      cases hp : p k with
      | true => rw [if_pos rfl, if_pos (by omega)]; exact hit f k (by omega) hp
      | false =>
        rw [if_neg (show ¬ (false = true) by decide), miss f k (by omega) hp, ih (k + 1) (by omega) (by omega)]
        have e : N - (k + 1) = d := by omega
        rw [e]
/-! counts -/
def ma_ct (p : Nat → Bool) : Nat → Nat
  | 0 => 0
  | n + 1 => ma_ct p n + (if p n = true then 1 else 0)
theorem ma_ct_s (p : Nat → Bool) (n : Nat) : ma_ct p (n + 1) = ma_ct p n + (if p n = true then 1 else 0) := rfl
theorem ma_ct_le (p : Nat → Bool) : ∀ n, ma_ct p n ≤ n := by
  intro n
  induction n with
  | zero => exact Nat.le_refl _
  | succ n ih => unfold ma_ct; split <;> omega
theorem ma_ct_congr {p q : Nat → Bool} : ∀ n, (∀ j, j < n → p j = q j) → ma_ct p n = ma_ct q n := by
  intro n
  induction n with
  | zero => intro _; rfl
  | succ n ih => intro h; unfold ma_ct; rw [h n (by omega), ih (fun j hj => h j (by omega))]
theorem ma_ct_cut {p : Nat → Bool} {n : Nat} : ∀ N, n ≤ N → (∀ j, n ≤ j → j < N → p j = false) → ma_ct p N = ma_ct p n := by
  intro N
  induction N with
  | zero => intro h _; have : n = 0 := by omega
            rw [this]
  | succ N ih =>
    intro h hf
    by_cases hn : n = N + 1
    · rw [hn]
    · rw [ma_ct_s, hf N (by omega) (by omega), ih (by omega) (fun j h1 h2 => hf j h1 (by omega))]
      rfl
theorem ma_ct_0 {p : Nat → Bool} : ∀ n, ma_ct p n = 0 ↔ ∀ j, j < n → p j = false := by
  intro n
  induction n with
  | zero => exact ⟨fun _ j hj => by omega, fun _ => rfl⟩
  | succ n ih =>
    unfold ma_ct
    constructor
    · intro h j hj
      have h1 : ma_ct p n = 0 := by omega
      by_cases e : j = n
      · rw [e]; cases hp : p n with
        | false => rfl
        | true => rw [hp, if_pos rfl] at h; omega
      · exact ih.mp h1 j (by omega)
    · intro h
      rw [ih.mpr (fun j hj => h j (by omega)), h n (by omega)]; rfl
/-- one place changes -/
theorem ma_ct_one {p q : Nat → Bool} {i : Nat} : ∀ n, (∀ j, j < n → j ≠ i → p j = q j) → ma_ct p n + (if i < n ∧ q i = true then 1 else 0) = ma_ct q n + (if i < n ∧ p i = true then 1 else 0) := by
  intro n
  induction n with
  | zero => intro _; simp [ma_ct]
  | succ n ih =>
    intro h
    have ih := ih (fun j hj hne => h j (by omega) hne)
    unfold ma_ct
    by_cases e : n = i
    · subst e
      simp only [Nat.lt_irrefl, false_and, if_false, Nat.lt_succ_self, true_and] at ih ⊢
      omega
    · rw [h n (by omega) e]
      by_cases hi : i < n
      · simp only [hi, show i < n + 1 by omega, true_and] at ih ⊢
        omega
      · simp only [hi, show ¬ i < n + 1 by omega, false_and, if_false] at ih ⊢
        omega
/-! states by column and place: the class's row and the reference's -/
abbrev ma_S : Type := Nat → Nat → Int32
def ma_up (s : ma_S) (k0 b0 : Nat) (v : Int32) (k b : Nat) : Int32 := if k = k0 ∧ b = b0 then v else s k b
def ma_ix (k b : Nat) : Nat := if k < 14 then 16 * k + b else if k = 14 then 224 + b else if k = 15 then 232 + b else 284 + b
def ma_ok (k b : Nat) : Prop := (k < 14 ∧ b < 16) ∨ (k = 14 ∧ b < 8) ∨ (k = 15 ∧ b < 52) ∨ (k = 16 ∧ b < 10)
theorem ma_ix_inj {k b k0 b0 : Nat} (h : ma_ok k b) (h0 : ma_ok k0 b0) (e : ma_ix k b = ma_ix k0 b0) : k = k0 ∧ b = b0 := by
  unfold ma_ix at e
  unfold ma_ok at h h0
  (repeat' split at e) <;> omega
def ma_okb (k b : Nat) : Bool := (decide (k < 14) && decide (b < 16)) || ((decide (k = 14) && decide (b < 8)) || ((decide (k = 15) && decide (b < 52)) || (decide (k = 16) && decide (b < 10))))
theorem ma_okb_iff (k b : Nat) : ma_okb k b = true ↔ ma_ok k b := by
  unfold ma_okb ma_ok
  simp
/-- the class's row as a state -/
def ma_c (r : Nat → Int32) (k b : Nat) : Int32 := if ma_okb k b = true then r (ma_ix k b) else 0
def ma_s (r : Nat → Int32) (k b : Nat) (v : Int32) : Nat → Int32 := upd r (ma_ix k b) v
theorem ma_c_s {r : Nat → Int32} {k0 b0 : Nat} {v : Int32} (h0 : ma_ok k0 b0) : ma_c (ma_s r k0 b0 v) = ma_up (ma_c r) k0 b0 v := by
  funext k b
  simp only [ma_c, ma_s, upd, ma_up]
  by_cases h : ma_okb k b = true
  · rw [if_pos h, if_pos h]
    by_cases e : ma_ix k b = ma_ix k0 b0
    · rw [if_pos e, if_pos (ma_ix_inj ((ma_okb_iff k b).mp h) h0 e)]
    · rw [if_neg e, if_neg (fun hh => e (by rw [hh.1, hh.2]))]
  · rw [if_neg h, if_neg h, if_neg]
    rintro ⟨rfl, rfl⟩
    exact h ((ma_okb_iff k b).mpr h0)
theorem ma_c_eq {r g : Nat → Int32} (h : ∀ j, j < 294 → g j = r j) : ma_c g = ma_c r := by
  funext k b
  unfold ma_c
  by_cases hk : ma_okb k b = true
  · rw [if_pos hk, if_pos hk]
    apply h
    have := (ma_okb_iff k b).mp hk
    unfold ma_ok at this
    unfold ma_ix
    (repeat' split) <;> omega
  · rw [if_neg hk, if_neg hk]
/-- the reference's row as a state: scalars in the class's order, the feasts' number behind them -/
def ma_jx (k b : Nat) : Nat := if k < 14 then 64 + 16 * b + k else if k = 15 then 12 + b else if b = 0 then 2 else if b = 1 then 10 else if b = 2 then 0 else if b = 3 then 1 else b - 1
def ma_okw (k b : Nat) : Bool := (decide (k < 14) && decide (b < 16)) || ((decide (k = 15) && decide (b < 52)) || (decide (k = 16) && decide (b < 11)))
def ma_w (r : Nat → Int32) (k b : Nat) : Int32 := if ma_okw k b = true then r (ma_jx k b) else 0
def ma_t (r : Nat → Int32) (k b : Nat) (v : Int32) : Nat → Int32 := upd r (ma_jx k b) v
theorem ma_okw_iff (k b : Nat) : ma_okw k b = true ↔ (k < 14 ∧ b < 16) ∨ (k = 15 ∧ b < 52) ∨ (k = 16 ∧ b < 11) := by
  unfold ma_okw
  simp
theorem ma_jx_inj {k b k0 b0 : Nat} (h : ma_okw k b = true) (h0 : ma_okw k0 b0 = true) (e : ma_jx k b = ma_jx k0 b0) : k = k0 ∧ b = b0 := by
  rw [ma_okw_iff] at h h0
  unfold ma_jx at e
  (repeat' split at e) <;> omega
theorem ma_w_t {r : Nat → Int32} {k0 b0 : Nat} {v : Int32} (h0 : ma_okw k0 b0 = true) : ma_w (ma_t r k0 b0 v) = ma_up (ma_w r) k0 b0 v := by
  funext k b
  simp only [ma_w, ma_t, upd, ma_up]
  by_cases h : ma_okw k b = true
  · rw [if_pos h, if_pos h]
    by_cases e : ma_jx k b = ma_jx k0 b0
    · rw [if_pos e, if_pos (ma_jx_inj h h0 e)]
    · rw [if_neg e, if_neg (fun hh => e (by rw [hh.1, hh.2]))]
  · rw [if_neg h, if_neg h, if_neg]
    rintro ⟨rfl, rfl⟩
    exact h h0
theorem ma_w_eq {r g : Nat → Int32} (h : ∀ j, j < 320 → g j = r j) : ma_w g = ma_w r := by
  funext k b
  unfold ma_w
  by_cases hk : ma_okw k b = true
  · rw [if_pos hk, if_pos hk]
    apply h
    have := (ma_okw_iff k b).mp hk
    unfold ma_jx
    (repeat' split) <;> omega
  · rw [if_neg hk, if_neg hk]
/-! memory: places written over and over -/
theorem ma_pp (m : fm_M) (k : Nat) (f g : Nat → Int32) : fm_up (fm_up m k f) k g = fm_up m k g := by
  funext j
  unfold fm_up
  by_cases h : j = k
  · rw [if_pos h, if_pos h]
  · rw [if_neg h, if_neg h, if_neg h]
theorem ma_pc (m : fm_M) {k j : Nat} (h : k ≠ j) (f g : Nat → Int32) : fm_up (fm_up m k f) j g = fm_up (fm_up m j g) k f := by
  funext i
  unfold fm_up
  by_cases h1 : i = k <;> by_cases h2 : i = j <;> simp [h1, h2]
  · exact absurd (h1.symm.trans h2) h
  · rintro rfl; exact absurd rfl h
  · rintro rfl; exact absurd rfl h
theorem ma_pk (m : fm_M) (k : Nat) : fm_up m k (m k) = m := by
  funext j
  unfold fm_up
  by_cases h : j = k
  · rw [if_pos h, h]
  · rw [if_neg h]

/-! TEXTS: what a text says, and how the class reads it -/
def px_s (C : Nat → Nat) (p : Nat) : Int32 := if C p = 0 then -1 else ma_i (C p)
def px_t (C : Nat → Nat) (L : Nat) (r : Nat → Int32) : Prop := L ≤ 60 ∧ (∀ i, i < L → r i = ma_i (C i) ∧ 32 ≤ C i ∧ C i ≤ 126) ∧ ∀ i, L ≤ i → C i = 0
theorem px_lt {C : Nat → Nat} {L p : Nat} {r : Nat → Int32} (h : px_t C L r) : C p ≠ 0 ↔ p < L := by
  obtain ⟨h1, h2, h3⟩ := h
  constructor
  · intro hc
    by_cases e : p < L
    · exact e
    · exact absurd (h3 p (by omega)) hc
  · intro hp
    have := (h2 p hp).2.1
    omega
theorem px_le {C : Nat → Nat} {L : Nat} {r : Nat → Int32} (h : px_t C L r) (p : Nat) : C p ≤ 126 := by
  obtain ⟨h1, h2, h3⟩ := h
  by_cases e : p < L
  · exact (h2 p e).2.2
  · rw [h3 p (by omega)]; omega
theorem px_eq {C : Nat → Nat} {L p c : Nat} {r : Nat → Int32} (h : px_t C L r) (hc0 : 0 < c) (hc : c < 1000) : px_s C p = ma_i c ↔ C p = c := by
  have := px_le h p
  unfold px_s
  by_cases e : C p = 0
  · rw [if_pos e, e]
    constructor
    · intro hh; exact absurd hh.symm (ma_ne (by omega) (by decide))
    · intro hh; omega
  · rw [if_neg e]
    exact ma_inj (by omega) (by omega)
theorem px_l48 {C : Nat → Nat} {L p : Nat} {r : Nat → Int32} (h : px_t C L r) : px_s C p < (48 : Int32) ↔ C p < 48 := by
  have := px_le h p
  unfold px_s
  by_cases e : C p = 0
  · rw [if_pos e, e]; decide
  · rw [if_neg e]
    exact ma_lt (b := 48) (by omega) (by decide)
theorem px_g57 {C : Nat → Nat} {L p : Nat} {r : Nat → Int32} (h : px_t C L r) : (57 : Int32) < px_s C p ↔ 57 < C p := by
  have := px_le h p
  unfold px_s
  by_cases e : C p = 0
  · rw [if_pos e, e]; decide
  · rw [if_neg e]
    exact ma_lt (a := 57) (by decide) (by omega)
/-- letter by letter -/
def px_word (C : Nat → Nat) : List Nat → Nat → Bool × Nat
  | [], p => (true, p)
  | c :: cs, p => if C p = c then px_word C cs (p + 1) else (false, p)
def px_dg (C : Nat → Nat) (p : Nat) : Bool := decide (48 ≤ C p) && decide (C p ≤ 57)
/-- up to d digits more, behind the number v -/
def px_dig (C : Nat → Nat) : Nat → Nat → Nat → Nat × Nat
  | 0, v, p => (v, p)
  | d + 1, v, p => if px_dg C p = true then px_dig C d (v * 10 + C p - 48) (p + 1) else (v, p)
def px_kd (c : Nat) : Nat := if c = 98 then 3 else if c = 99 then 1 else if c = 102 then 5 else if c = 103 then 6 else if c = 108 then 2 else if c = 112 then 4 else if c = 118 then 0 else if c = 119 then 7 else 8
def px_wd (k : Nat) : List Nat := [[118, 111, 105, 99, 101, 32], [99, 104, 111, 111, 115, 101, 32], [108, 101, 97, 118, 101, 32], [98, 114, 101, 97, 99, 104, 32], [112, 97, 114, 100, 111, 110, 32], [102, 101, 97, 115, 116, 32], [103, 105, 102, 116, 32], [119, 101, 101, 107, 115, 32]].getD k []
def px_d1 (k : Nat) : Nat := if k = 1 then 1 else if k = 2 then 1 else if k = 6 then 3 else 2
def px_d2 (k : Nat) : Nat := if k = 0 then 2 else if k = 3 then 1 else if k = 5 then 1 else 0
/-- an order read at p: does it read, where to, and what it is -/
def px_ord (C : Nat → Nat) (p : Nat) : Bool × Nat × Nat × Nat × Nat :=
  if px_kd (C p) = 8 then (false, p, 0, 0, 0)
  else if (px_word C (px_wd (px_kd (C p))) p).1 = false then (false, (px_word C (px_wd (px_kd (C p))) p).2, 0, 0, 0)
  else if px_dg C (px_word C (px_wd (px_kd (C p))) p).2 = false then (false, (px_word C (px_wd (px_kd (C p))) p).2, 0, 0, 0)
  else if px_d2 (px_kd (C p)) = 0 then (true, (px_dig C (px_d1 (px_kd (C p))) 0 (px_word C (px_wd (px_kd (C p))) p).2).2, px_kd (C p), (px_dig C (px_d1 (px_kd (C p))) 0 (px_word C (px_wd (px_kd (C p))) p).2).1, 0)
  else if C (px_dig C (px_d1 (px_kd (C p))) 0 (px_word C (px_wd (px_kd (C p))) p).2).2 ≠ 32 then (false, (px_dig C (px_d1 (px_kd (C p))) 0 (px_word C (px_wd (px_kd (C p))) p).2).2, 0, 0, 0)
  else if px_dg C ((px_dig C (px_d1 (px_kd (C p))) 0 (px_word C (px_wd (px_kd (C p))) p).2).2 + 1) = false then (false, (px_dig C (px_d1 (px_kd (C p))) 0 (px_word C (px_wd (px_kd (C p))) p).2).2 + 1, 0, 0, 0)
  else (true, (px_dig C (px_d2 (px_kd (C p))) 0 ((px_dig C (px_d1 (px_kd (C p))) 0 (px_word C (px_wd (px_kd (C p))) p).2).2 + 1)).2, px_kd (C p), (px_dig C (px_d1 (px_kd (C p))) 0 (px_word C (px_wd (px_kd (C p))) p).2).1, (px_dig C (px_d2 (px_kd (C p))) 0 ((px_dig C (px_d1 (px_kd (C p))) 0 (px_word C (px_wd (px_kd (C p))) p).2).2 + 1)).1)
/-- the orders of a text from p on, and where it is wrong -/
def px_all (C : Nat → Nat) (L : Nat) : Nat → Nat → List (Nat × Nat × Nat) × Option Nat
  | 0, p => ([], some p)
  | f + 1, p => if (px_ord C p).1 = false then ([], some (px_ord C p).2.1)
      else if L ≤ (px_ord C p).2.1 then ([(px_ord C p).2.2], none)
      else if C (px_ord C p).2.1 = 59 then ((px_ord C p).2.2 :: (px_all C L f ((px_ord C p).2.1 + 1)).1, (px_all C L f ((px_ord C p).2.1 + 1)).2)
      else ([(px_ord C p).2.2], some (px_ord C p).2.1)
theorem px_word_le {C : Nat → Nat} {L : Nat} {r : Nat → Int32} (h : px_t C L r) : ∀ (w : List Nat) (p : Nat), (∀ c ∈ w, c ≠ 0) → p ≤ L → p ≤ (px_word C w p).2 ∧ (px_word C w p).2 ≤ L ∧ ((px_word C w p).1 = true → (px_word C w p).2 = p + w.length) := by
  intro w
  induction w with
  | nil => intro p _ hp; exact ⟨Nat.le_refl _, hp, fun _ => rfl⟩
  | cons c cs ih =>
    intro p hc hp
    unfold px_word
    by_cases e : C p = c
    · rw [if_pos e]
      have hl := (px_lt h (p := p)).mp (by rw [e]; exact hc c List.mem_cons_self)
      obtain ⟨h1, h2, h3⟩ := ih (p + 1) (fun c hc2 => hc c (List.mem_cons_of_mem _ hc2)) (by omega)
      exact ⟨by omega, h2, fun hh => by rw [h3 hh, List.length_cons]; omega⟩
    · rw [if_neg e]
      exact ⟨Nat.le_refl _, hp, fun hh => by cases hh⟩
theorem px_dig_le {C : Nat → Nat} {L : Nat} {r : Nat → Int32} (h : px_t C L r) : ∀ (d v p : Nat), p ≤ L → p ≤ (px_dig C d v p).2 ∧ (px_dig C d v p).2 ≤ L ∧ (0 < d → px_dg C p = true → p < (px_dig C d v p).2) ∧ (∀ K, v < K → (px_dig C d v p).1 < K * 10 ^ d) := by
  intro d
  induction d with
  | zero => intro v p hp; exact ⟨Nat.le_refl _, hp, fun hh => by omega, fun K hK => by simpa [px_dig] using hK⟩
  | succ d ih =>
    intro v p hp
    unfold px_dig
    by_cases e : px_dg C p = true
    · rw [if_pos e]
      have e2 := e
      unfold px_dg at e2
      simp only [Bool.and_eq_true, decide_eq_true_eq] at e2
      have hl := (px_lt h (p := p)).mp (by omega)
      obtain ⟨h1, h2, h3, h4⟩ := ih (v * 10 + C p - 48) (p + 1) (by omega)
      refine ⟨by omega, h2, fun _ _ => by omega, fun K hK => ?_⟩
      have := h4 (K * 10) (by omega)
      rw [Nat.pow_succ, Nat.mul_comm (10 ^ d) 10, ← Nat.mul_assoc]
      exact this
    · rw [if_neg e]
      refine ⟨Nat.le_refl _, hp, fun _ hh => absurd hh e, fun K hK => ?_⟩
      have : 0 < 10 ^ (d + 1) := Nat.pow_pos (by decide)
      exact Nat.lt_of_lt_of_le hK (Nat.le_mul_of_pos_right K this)
theorem px_kd_cases (c : Nat) (h : px_kd c ≠ 8) : px_kd c < 8 := by
  unfold px_kd at h ⊢
  (repeat' split) <;> first | omega | simp_all
theorem px_wd_ok (k : Nat) (hk : k < 8) : (∀ c ∈ px_wd k, c ≠ 0) ∧ 5 ≤ (px_wd k).length ∧ 1 ≤ px_d1 k ∧ px_d1 k ≤ 3 ∧ px_d2 k ≤ 2 := by
  have : ∀ k : Fin 8, (∀ c ∈ px_wd k.val, c ≠ 0) ∧ 5 ≤ (px_wd k.val).length ∧ 1 ≤ px_d1 k.val ∧ px_d1 k.val ≤ 3 ∧ px_d2 k.val ≤ 2 := by decide
  exact this ⟨k, hk⟩
theorem px_ord_le {C : Nat → Nat} {L : Nat} {r : Nat → Int32} (h : px_t C L r) {p : Nat} (hp : p ≤ L) : (px_ord C p).2.1 ≤ L ∧ ((px_ord C p).1 = true → p + 6 ≤ (px_ord C p).2.1 ∧ (px_ord C p).2.2.1 < 8 ∧ (px_ord C p).2.2.2.1 < 1000 ∧ (px_ord C p).2.2.2.2 < 1000) := by
  unfold px_ord
  by_cases k8 : px_kd (C p) = 8
  · rw [if_pos k8]; exact ⟨hp, fun hh => by cases hh⟩
  rw [if_neg k8]
  have hk := px_kd_cases _ k8
  obtain ⟨w1, w2, w3, w4, w5⟩ := px_wd_ok _ hk
  generalize px_kd (C p) = k at hk w1 w2 w3 w4 w5
  obtain ⟨x1, x2, x3⟩ := px_word_le h (px_wd k) p w1 hp
  cases hw : (px_word C (px_wd k) p).1 with
  | false => rw [if_pos rfl]; exact ⟨x2, fun hh => by cases hh⟩
  | true =>
    rw [if_neg (by decide)]
    have x4 := x3 hw
    generalize (px_word C (px_wd k) p).2 = q at x1 x2 x4
    cases hd : px_dg C q with
    | false => rw [if_pos rfl]; exact ⟨x2, fun hh => by cases hh⟩
    | true =>
      rw [if_neg (by decide)]
      obtain ⟨y1, y2, y3, y4⟩ := px_dig_le h (px_d1 k) 0 q x2
      have y5 := y3 (by omega) hd
      have y6 : (px_dig C (px_d1 k) 0 q).1 < 1000 := by
        have := y4 1 (by omega)
        have e : 10 ^ (px_d1 k) ≤ 10 ^ 3 := Nat.pow_le_pow_right (by decide) w4
        omega
      by_cases d2 : px_d2 k = 0
      · rw [if_pos d2]
        exact ⟨y2, fun _ => ⟨by show p + 6 ≤ (px_dig C (px_d1 k) 0 q).2; omega, hk, y6, by show (0 : Nat) < 1000; omega⟩⟩
      · rw [if_neg d2]
        generalize (px_dig C (px_d1 k) 0 q).2 = q2 at y1 y2 y5
        by_cases c32 : C q2 = 32
        · rw [if_neg (by simpa using c32)]
          have hl := (px_lt h (p := q2)).mp (by omega)
          cases hd2 : px_dg C (q2 + 1) with
          | false => rw [if_pos rfl]; exact ⟨by show q2 + 1 ≤ L; omega, fun hh => by cases hh⟩
          | true =>
            rw [if_neg (by decide)]
            obtain ⟨z1, z2, z3, z4⟩ := px_dig_le h (px_d2 k) 0 (q2 + 1) (by omega)
            have z6 : (px_dig C (px_d2 k) 0 (q2 + 1)).1 < 1000 := by
              have := z4 1 (by omega)
              have e : 10 ^ (px_d2 k) ≤ 10 ^ 3 := Nat.pow_le_pow_right (by decide) (by omega)
              omega
            exact ⟨z2, fun _ => ⟨by show p + 6 ≤ (px_dig C (px_d2 k) 0 (q2 + 1)).2; omega, hk, y6, z6⟩⟩
        · rw [if_pos c32]; exact ⟨y2, fun hh => by cases hh⟩
/-! the class reads -/
def pc_t (C : Nat → Nat) (L : Nat) (m : fm_M) : Prop := m 18 1 = ma_i L ∧ px_t C L (m 19)
theorem pc_at {C : Nat → Nat} {L p : Nat} {m : fm_M} (h : pc_t C L m) (hp : p ≤ 60) : f_X4_at 18 19 60 (ma_i p) m = some (px_s C p) := by
  obtain ⟨h1, h2⟩ := h
  unfold f_X4_at
  rw [h1, if_neg (ma_nn (by omega))]
  have hL := h2.1
  by_cases hpl : p < L
  · rw [if_neg (by rw [ma_le (by omega) (by omega)]; omega), if_neg (show ¬ (Int32.ofNat 60 ≤ ma_i p) from ma_g0 (a := 60) (by omega) (by decide)), if_pos (ma_in (by omega) (by omega)), ma_cn (by omega), (h2.2.1 p hpl).1]
    unfold px_s
    rw [if_neg ((px_lt h2).mpr hpl)]
  · rw [if_pos (by rw [ma_le (by omega) (by omega)]; omega)]
    unfold px_s
    rw [if_pos (h2.2.2 p (by omega))]
theorem ma_putup (m : fm_M) (k i : Nat) (x y : Int32) : fm_put (fm_put m k i x) k i y = fm_put m k i y := by
  rw [ma_put, ma_put, ka_up, ma_pp, upd_2]
theorem upd_id (f : Nat → Int32) (k : Nat) : upd f k (f k) = f := by
  funext j
  unfold upd
  by_cases h : j = k
  · rw [if_pos h, h]
  · rw [if_neg h]
theorem ma_putid {m : fm_M} {k i : Nat} {x : Int32} (h : m k i = x) : fm_put m k i x = m := by
  rw [ma_put, ← h, upd_id, ma_pk]
theorem ma_putg (m : fm_M) (k i : Nat) (x : Int32) : fm_put m k i x k i = x := by
  rw [ma_put, ka_up]; unfold upd; rw [if_pos rfl]
theorem ma_putn (m : fm_M) {k q : Nat} (h : q ≠ k) (i : Nat) (x : Int32) : fm_put m k i x q = m q := by
  rw [ma_put, ka_un _ h]
theorem pc_t_put {C : Nat → Nat} {L k i : Nat} {m : fm_M} {x : Int32} (h : pc_t C L m) (h18 : k ≠ 18) (h19 : k ≠ 19) : pc_t C L (fm_put m k i x) := by
  unfold pc_t at h ⊢
  rw [ma_putn _ (Ne.symm h18), ma_putn _ (Ne.symm h19)]
  exact h
theorem pc_sign {C : Nat → Nat} {L p c : Nat} {m : fm_M} (h : pc_t C L m) (hp : p ≤ 60) (e : m 14 4 = ma_i p) (hc0 : 0 < c) (hc : c < 1000) : f_X2_readSign 18 19 60 (ma_i c) m = some (decide (C p = c), if C p = c then fm_put m 14 4 (ma_i (p + 1)) else m) := by
  unfold f_X2_readSign
  rw [e, pc_at h hp, Option.bind_some, ma_s1]
  by_cases hh : C p = c
  · rw [if_pos ((px_eq h.2 hc0 hc).mpr hh), if_pos hh, decide_eq_true hh]
  · rw [if_neg (fun h3 => hh ((px_eq h.2 hc0 hc).mp h3)), if_neg hh, decide_eq_false hh]
theorem px_bytes : ∀ k : Fin 8, ∀ i : Fin 7, i.val < (px_wd k.val).length → (fm_byt.getD k.val []).getD i.val 0 = ma_i ((px_wd k.val).getD i.val 0) ∧ fm_len.getD k.val 0 = (px_wd k.val).length := by decide +kernel
theorem px_word_drop (C : Nat → Nat) (w : List Nat) (i p : Nat) (hi : i < w.length) : px_word C (w.drop i) p = if C p = w.getD i 0 then px_word C (w.drop (i + 1)) (p + 1) else (false, p) := by
  have e : w.drop i = w.getD i 0 :: w.drop (i + 1) := by
    rw [List.drop_eq_getElem_cons hi]
    congr 1
    simp [List.getD, List.getElem?_eq_getElem hi]
  rw [e]
  rfl
theorem pc_word {C : Nat → Nat} {L k : Nat} (hk : k < 8) : ∀ (d i p f : Nat) (m : fm_M), i + d = (px_wd k).length → d < f → p ≤ L → pc_t C L m → m 14 4 = ma_i p → f_X2_readWord_L2 18 19 60 k f (ma_i i) m = some ((px_word C ((px_wd k).drop i) p).1, fm_put m 14 4 (ma_i (px_word C ((px_wd k).drop i) p).2)) := by
  have hw7 : (px_wd k).length ≤ 7 := by
    have : ∀ k : Fin 8, (px_wd k.val).length ≤ 7 := by decide
    exact this ⟨k, hk⟩
  have hlen : fm_len.getD k 0 = (px_wd k).length := by
    have hw := (px_wd_ok k hk).2.1
    exact (px_bytes ⟨k, hk⟩ ⟨0, by decide⟩ (by show 0 < (px_wd k).length; omega)).2
  intro d
  induction d with
  | zero =>
    intro i p f m hi hf hp h e
    obtain ⟨f, rfl⟩ : ∃ j, f = j + 1 := ⟨f - 1, by omega⟩
    have hd : (px_wd k).drop i = [] := List.drop_eq_nil_of_le (by omega)
    rw [f_X2_readWord_L2, hlen, if_pos (show Int32.ofNat (px_wd k).length ≤ ma_i i from (ma_le (by omega) (by omega)).mpr (by omega)), hd]
    unfold px_word
    rw [ma_putid e]
  | succ d ih =>
    intro i p f m hi hf hp h e
    obtain ⟨f, rfl⟩ : ∃ j, f = j + 1 := ⟨f - 1, by omega⟩
    have hb := (px_bytes ⟨k, hk⟩ ⟨i, by omega⟩ (by show i < (px_wd k).length; omega)).1
    have hb : (fm_byt.getD k []).getD i 0 = ma_i ((px_wd k).getD i 0) := hb
    have hne := (px_wd_ok k hk).1
    have hmem : (px_wd k).getD i 0 ∈ px_wd k := by
      have : (px_wd k).getD i 0 = (px_wd k)[i] := by simp [List.getD, List.getElem?_eq_getElem (show i < (px_wd k).length by omega)]
      rw [this]; exact List.getElem_mem _
    have hlt : (px_wd k).getD i 0 < 1000 := by
      have : ∀ k : Fin 8, ∀ c ∈ px_wd k.val, c < 1000 := by decide
      exact this ⟨k, hk⟩ _ hmem
    have h60 := h.2.1
    rw [f_X2_readWord_L2, hlen, if_neg (show ¬ Int32.ofNat (px_wd k).length ≤ ma_i i from fun hh => by have := (ma_le (by omega) (by omega)).mp hh; omega), if_pos (ma_in (by omega) (by omega)), ma_cn (by omega), hb, pc_sign h (by omega) e (by have := hne _ hmem; omega) hlt, Option.bind_some, ma_s1, px_word_drop C (px_wd k) i p (by omega)]
    by_cases hh : C p = (px_wd k).getD i 0
    · have hpl := (px_lt h.2 (p := p)).mp (by rw [hh]; exact hne _ hmem)
      simp only [if_pos hh]
      rw [if_pos (decide_eq_true hh), ih (i + 1) (p + 1) f (fm_put m 14 4 (ma_i (p + 1))) (by omega) (by omega) (by omega) (pc_t_put h (by decide) (by decide)) (ma_putg _ _ _ _), ma_putup]
    · simp only [if_neg hh]
      rw [if_neg (by simpa using hh), ma_putid e]
theorem pc_dig {C : Nat → Nat} {L : Nat} : ∀ (d j v p f D : Nat) (m : fm_M), j + d = D → d < f → D ≤ 3 → v < 10 ^ j → p ≤ L → pc_t C L m → m 14 4 = ma_i p → f_X2_readNumber_L5 18 19 60 f (ma_i D) (ma_i v) (ma_i j) m = some (decide (0 < j) || (decide (0 < d) && px_dg C p), fm_put (fm_put m 14 4 (ma_i (px_dig C d v p).2)) 14 5 (ma_i (px_dig C d v p).1)) := by
  intro d
  induction d with
  | zero =>
    intro j v p f D m hj hf hD hv hp h e
    obtain ⟨f, rfl⟩ : ∃ k, f = k + 1 := ⟨f - 1, by omega⟩
    rw [f_X2_readNumber_L5, if_pos (show ma_i D ≤ ma_i j from (ma_le (by omega) (by omega)).mpr (by omega))]
    unfold px_dig
    rw [ma_putid e]
    by_cases hz : j = 0
    · rw [if_pos ((ma_iz (by omega)).mpr hz), hz]; rfl
    · rw [if_neg (fun hh => hz ((ma_iz (by omega)).mp hh)), decide_eq_true (show 0 < j by omega)]; rfl
  | succ d ih =>
    intro j v p f D m hj hf hD hv hp h e
    obtain ⟨f, rfl⟩ : ∃ k, f = k + 1 := ⟨f - 1, by omega⟩
    have h60 := h.2.1
    have h126 := px_le h.2 p
    rw [f_X2_readNumber_L5, if_neg (show ¬ ma_i D ≤ ma_i j from fun hh => by have := (ma_le (by omega) (by omega)).mp hh; omega), e, pc_at h (by omega), Option.bind_some, Option.bind_some, Option.bind_some]
    have hstop : (if ma_i j ≤ 0 then some (false, fm_put m 14 5 (ma_i v)) else some (true, fm_put m 14 5 (ma_i v))) = some (decide (0 < j), fm_put m 14 5 (ma_i v)) := by
      by_cases hz : j = 0
      · rw [if_pos ((ma_iz (by omega)).mpr hz), hz]; rfl
      · rw [if_neg (fun hh => hz ((ma_iz (by omega)).mp hh)), decide_eq_true (show 0 < j by omega)]
    unfold px_dig
    by_cases h48 : C p < 48
    · have hd : px_dg C p = false := by unfold px_dg; rw [decide_eq_false (show ¬ 48 ≤ C p by omega)]; rfl
      rw [if_pos ((px_l48 h.2).mpr h48), hstop, hd, if_neg (by decide), Bool.and_false, Bool.or_false, ma_putid e]
    · rw [if_neg (fun hh => h48 ((px_l48 h.2).mp hh))]
      by_cases h57 : 57 < C p
      · have hd : px_dg C p = false := by unfold px_dg; rw [decide_eq_false (show ¬ C p ≤ 57 by omega), Bool.and_false]
        rw [if_pos ((px_g57 h.2).mpr h57), hstop, hd, if_neg (by decide), Bool.and_false, Bool.or_false, ma_putid e]
      · have hd : px_dg C p = true := by unfold px_dg; rw [decide_eq_true (show 48 ≤ C p by omega), decide_eq_true (show C p ≤ 57 by omega)]; rfl
        have hpl := (px_lt h.2 (p := p)).mp (by omega)
        rw [if_neg (fun hh => h57 ((px_g57 h.2).mp hh)), hd, if_pos rfl]
        have hs : px_s C p = ma_i (C p) := by unfold px_s; rw [if_neg (by omega)]
        have ev : ma_i v * (10 : Int32) + px_s C p - (48 : Int32) = ma_i (v * 10 + C p - 48) := by
          have e1 : ma_i v * (10 : Int32) = ma_i (v * 10) := ma_mul v 10
          rw [hs, e1, ma_add]
          exact ma_sub (b := 48) (by omega)
        have hv2 : v * 10 + C p - 48 < 10 ^ (j + 1) := by rw [Nat.pow_succ]; omega
        rw [ev, ma_s1, ma_s1, ih (j + 1) (v * 10 + C p - 48) (p + 1) f D (fm_put m 14 4 (ma_i (p + 1))) (by omega) (by omega) hD hv2 (by omega) (pc_t_put h (by decide) (by decide)) (ma_putg _ _ _ _), ma_putup]
        simp

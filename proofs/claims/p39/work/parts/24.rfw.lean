/-! THE REFERENCE IN CLOSED FORM: rows copied, and brethren changed -/
theorem ma_rem {a k : Nat} (ha : a < 2147483648) (hk : k < 2147483648) : ma_i a - ma_i a / ma_i k * ma_i k = ma_i (a % k) := by
  have e : ma_i a / ma_i k = ma_i (a / k) := (Int32.ofNat_div ha hk).symm
  rw [e, ma_mul, ma_sub (Nat.div_mul_le_self a k)]
  congr 1
  have := Nat.div_add_mod a k
  rw [Nat.mul_comm] at this
  omega
theorem ma_cpy_0 (f g : Nat → Int32) (sp dp : Nat) : va_cpy f g sp dp 0 = g := by
  funext j
  unfold va_cpy
  rw [if_neg (by omega)]
theorem ma_cpy_s (f g : Nat → Int32) (sp dp k : Nat) : upd (va_cpy f g sp dp k) (dp + k) (f (sp + k)) = va_cpy f g sp dp (k + 1) := by
  funext j
  simp only [va_cpy, upd]
  by_cases h : j = dp + k
  · subst h; rw [if_pos rfl, if_pos (by omega)]; congr 1; omega
  · rw [if_neg h]
    by_cases h2 : dp ≤ j ∧ j < dp + k
    · rw [if_pos h2, if_pos (by omega)]
    · rw [if_neg h2, if_neg (by omega)]
theorem kb_thinks {m : fm_M} : f_X7_thinks m = some (fm_up m 27 (va_cpy (m 24) (m 27) 0 0 320)) := by
  unfold f_X7_thinks
  have e0 : m = fm_up m 27 (va_cpy (m 24) (m 27) 0 0 0) := by rw [ma_cpy_0, ma_pk]
  refine (congrArg (f_X7_thinks_L2 fm_F (0 : Int32)) e0).trans ?_
  refine ma_loop (fun f k => f_X7_thinks_L2 f (ma_i k) (fm_up m 27 (va_cpy (m 24) (m 27) 0 0 k))) 320 (fun f k hk => ?_) (fun f => ?_) fm_F 0 (by decide) (by decide)
  · show f_X7_thinks_L2 (f + 1) _ _ = _
    rw [f_X7_thinks_L2, if_neg (ma_g0 hk (by decide)), if_pos (ma_in hk (by omega)), if_pos (ma_in hk (by omega)), ma_cn (by omega), ma_put, ka_up, ma_pp, ma_s1, ka_un m (by decide), ← ma_cpy_s, Nat.zero_add]
  · show f_X7_thinks_L2 (f + 1) _ _ = _
    rw [f_X7_thinks_L2, if_pos ma_g1]
theorem kb_forgets {m : fm_M} : f_X7_forgets m = some (fm_up m 24 (va_cpy (m 27) (m 24) 0 0 320)) := by
  unfold f_X7_forgets
  have e0 : m = fm_up m 24 (va_cpy (m 27) (m 24) 0 0 0) := by rw [ma_cpy_0, ma_pk]
  refine (congrArg (f_X7_forgets_L2 fm_F (0 : Int32)) e0).trans ?_
  refine ma_loop (fun f k => f_X7_forgets_L2 f (ma_i k) (fm_up m 24 (va_cpy (m 27) (m 24) 0 0 k))) 320 (fun f k hk => ?_) (fun f => ?_) fm_F 0 (by decide) (by decide)
  · show f_X7_forgets_L2 (f + 1) _ _ = _
    rw [f_X7_forgets_L2, if_neg (ma_g0 hk (by decide)), if_pos (ma_in hk (by omega)), if_pos (ma_in hk (by omega)), ma_cn (by omega), ma_put, ka_up, ma_pp, ma_s1, ka_un m (by decide), ← ma_cpy_s, Nat.zero_add]
  · show f_X7_forgets_L2 (f + 1) _ _ = _
    rw [f_X7_forgets_L2, if_pos ma_g1]
theorem kb_keeps_L {m : fm_M} {to : Nat} (ht : to < 8) : f_X7_keepsMind_L47 fm_F (ma_i to) (0 : Int32) m = some (fm_up (fm_up m 25 (va_cpy (m 27) (m 25) 0 (320 * to) 320)) 23 (upd (m 23) 8 (m 23 8 + 1))) := by
  have e0 : m = fm_up m 25 (va_cpy (m 27) (m 25) 0 (320 * to) 0) := by rw [ma_cpy_0, ma_pk]
  refine (congrArg (f_X7_keepsMind_L47 fm_F (ma_i to) (0 : Int32)) e0).trans ?_
  refine ma_loop (fun f k => f_X7_keepsMind_L47 f (ma_i to) (ma_i k) (fm_up m 25 (va_cpy (m 27) (m 25) 0 (320 * to) k))) 320 (fun f k hk => ?_) (fun f => ?_) fm_F 0 (by decide) (by decide)
  · show f_X7_keepsMind_L47 (f + 1) _ _ _ = _
    have e : (320 : Int32) * ma_i to + ma_i k = ma_i (320 * to + k) := by
      have h : (320 : Int32) = ma_i 320 := rfl
      rw [h, ma_mul, ma_add]
    rw [f_X7_keepsMind_L47, if_neg (ma_g0 hk (by decide)), if_pos (ma_in hk (by omega)), e, if_pos (ma_in (by omega) (by omega)), ma_cn (by omega), ma_cn (by omega), ma_put, ka_up, ma_pp, ma_s1, ka_un m (by decide), ← ma_cpy_s, Nat.zero_add]
  · show f_X7_keepsMind_L47 (f + 1) _ _ _ = _
    rw [f_X7_keepsMind_L47, if_pos ma_g1, ma_put, ka_un m (by decide)]
theorem kb_undo_L {m : fm_M} {to : Nat} (ht : to < 8) : f_X7_undo_L35 fm_F (ma_i to) (0 : Int32) m = some (m 23 8, fm_up m 24 (va_cpy (m 25) (m 24) (320 * to) 0 320)) := by
  have e0 : m = fm_up m 24 (va_cpy (m 25) (m 24) (320 * to) 0 0) := by rw [ma_cpy_0, ma_pk]
  refine (congrArg (f_X7_undo_L35 fm_F (ma_i to) (0 : Int32)) e0).trans ?_
  refine ma_loop (fun f k => f_X7_undo_L35 f (ma_i to) (ma_i k) (fm_up m 24 (va_cpy (m 25) (m 24) (320 * to) 0 k))) 320 (fun f k hk => ?_) (fun f => ?_) fm_F 0 (by decide) (by decide)
  · show f_X7_undo_L35 (f + 1) _ _ _ = _
    have e : (320 : Int32) * ma_i to + ma_i k = ma_i (320 * to + k) := by
      have h : (320 : Int32) = ma_i 320 := rfl
      rw [h, ma_mul, ma_add]
    rw [f_X7_undo_L35, if_neg (ma_g0 hk (by decide)), e, if_pos (ma_in (by omega) (by omega)), if_pos (ma_in hk (by omega)), ma_cn (by omega), ma_cn (by omega), ma_put, ka_up, ma_pp, ma_s1, ka_un m (by decide), ← ma_cpy_s, Nat.zero_add]
  · show f_X7_undo_L35 (f + 1) _ _ _ = _
    rw [f_X7_undo_L35, if_pos ma_g1, ka_un m (by decide)]
theorem kb_save {m : fm_M} : f_X7_save m = some (m 24 2, fm_up (fm_up m 26 (va_cpy (m 24) (m 26) 0 0 320)) 23 (upd (m 23) 10 1)) := by
  unfold f_X7_save
  have e0 : m = fm_up m 26 (va_cpy (m 24) (m 26) 0 0 0) := by rw [ma_cpy_0, ma_pk]
  refine (congrArg (f_X7_save_L2 fm_F (0 : Int32)) e0).trans ?_
  refine ma_loop (fun f k => f_X7_save_L2 f (ma_i k) (fm_up m 26 (va_cpy (m 24) (m 26) 0 0 k))) 320 (fun f k hk => ?_) (fun f => ?_) fm_F 0 (by decide) (by decide)
  · show f_X7_save_L2 (f + 1) _ _ = _
    rw [f_X7_save_L2, if_neg (ma_g0 hk (by decide)), if_pos (ma_in hk (by omega)), if_pos (ma_in hk (by omega)), ma_cn (by omega), ma_put, ka_up, ma_pp, ma_s1, ka_un m (by decide), ← ma_cpy_s, Nat.zero_add]
  · show f_X7_save_L2 (f + 1) _ _ = _
    rw [f_X7_save_L2, if_pos ma_g1, if_pos (by decide), ma_put, ka_un _ (by decide), ka_un _ (by decide), ka_un _ (by decide)]
    rfl
theorem kb_restore_L {m : fm_M} : f_X7_restore_L12 fm_F (0 : Int32) m = some (va_cpy (m 26) (m 24) 0 0 320 2, fm_up (fm_up m 24 (va_cpy (m 26) (m 24) 0 0 320)) 23 (upd (upd (m 23) 8 0) 9 0)) := by
  have e0 : m = fm_up m 24 (va_cpy (m 26) (m 24) 0 0 0) := by rw [ma_cpy_0, ma_pk]
  refine (congrArg (f_X7_restore_L12 fm_F (0 : Int32)) e0).trans ?_
  refine ma_loop (fun f k => f_X7_restore_L12 f (ma_i k) (fm_up m 24 (va_cpy (m 26) (m 24) 0 0 k))) 320 (fun f k hk => ?_) (fun f => ?_) fm_F 0 (by decide) (by decide)
  · show f_X7_restore_L12 (f + 1) _ _ = _
    rw [f_X7_restore_L12, if_neg (ma_g0 hk (by decide)), if_pos (ma_in hk (by omega)), if_pos (ma_in hk (by omega)), ma_cn (by omega), ma_put, ka_up, ma_pp, ma_s1, ka_un m (by decide), ← ma_cpy_s, Nat.zero_add]
  · show f_X7_restore_L12 (f + 1) _ _ = _
    rw [f_X7_restore_L12, if_pos ma_g1, if_pos (by decide)]
    simp only [ma_put, ka_up, ma_pp, ka_un _ (show (24 : Nat) ≠ 23 by decide), ka_un _ (show (23 : Nat) ≠ 24 by decide)]
    rfl
/-! brethren -/
theorem ma_it_w {st : Nat → (Nat → Int32) → (Nat → Int32)} {g : Nat → Int32} {N : Nat} (D : Nat → ma_S) (h0 : D 0 = ma_w g) (hs : ∀ k h, k < N → ma_w h = D k → ma_w (st k h) = D (k + 1)) : ∀ k, k ≤ N → ma_w (ma_it st g k) = D k := by
  intro k
  induction k with
  | zero => intro _; exact h0.symm
  | succ k ih => intro hk; exact hs k _ (by omega) (ih (by omega))
theorem ma_okk2 {k b : Nat} (hk : k < 14) (hb : b < 16) : ma_okw k b = true := (ma_okw_iff k b).mpr (Or.inl ⟨hk, hb⟩)
def mb_dr (x : Int32) (k : Nat) (h : Nat → Int32) : Nat → Int32 := if ma_w h 7 k = x then ma_t h 7 k 0 else h
def me_drop (s : ma_S) (x : Int32) (n : Nat) (c b : Nat) : Int32 := if c = 7 ∧ b < n ∧ s 7 b = x then 0 else s c b
theorem me_drop_0 {s : ma_S} {x : Int32} : me_drop s x 0 = s := by
  funext c b
  unfold me_drop
  simp
theorem me_drop_s {s : ma_S} {x : Int32} {k : Nat} : (if s 7 k = x then ma_up (me_drop s x k) 7 k 0 else me_drop s x k) = me_drop s x (k + 1) := by
  by_cases h : s 7 k = x
  · rw [if_pos h]
    funext c b
    unfold ma_up me_drop
    grind
  · rw [if_neg h]
    funext c b
    unfold me_drop
    grind
theorem mb_dr_it {x : Int32} {g : Nat → Int32} : ∀ k, k ≤ 16 → ma_w (ma_it (mb_dr x) g k) = me_drop (ma_w g) x k := by
  refine ma_it_w (fun k => me_drop (ma_w g) x k) me_drop_0 (fun k h hk e => ?_)
  show ma_w (mb_dr x k h) = me_drop (ma_w g) x (k + 1)
  rw [← me_drop_s, ← e]
  have e2 : ma_w h 7 k = ma_w g 7 k := by rw [e]; unfold me_drop; simp
  unfold mb_dr
  rw [e2]
  by_cases h1 : ma_w g 7 k = x
  · rw [if_pos h1, if_pos h1, ma_w_t (ma_okk2 (by decide) hk)]
  · rw [if_neg h1, if_neg h1]
def mb_py (each : Int32) (k : Nat) (h : Nat → Int32) : Nat → Int32 := if ma_w h 2 k = 1 ∧ ma_w h 5 k = 0 then ma_t h 6 k (ma_w h 6 k + each) else h
theorem mb_py_it {x : Int32} {g : Nat → Int32} : ∀ k, k ≤ 16 → ma_w (ma_it (mb_py x) g k) = md_pay (ma_w g) x k := by
  refine ma_it_w (fun k => md_pay (ma_w g) x k) md_pay_0 (fun k h hk e => ?_)
  show ma_w (mb_py x k h) = md_pay (ma_w g) x (k + 1)
  rw [← md_pay_s, ← e]
  have e2 : ma_w h 2 k = ma_w g 2 k := by rw [e]; unfold md_pay; simp
  have e5 : ma_w h 5 k = ma_w g 5 k := by rw [e]; unfold md_pay; simp
  have e6 : ma_w h 6 k = ma_w g 6 k := by rw [e]; unfold md_pay; simp
  unfold mb_py
  rw [e2, e5, e6]
  by_cases h1 : ma_w g 2 k = 1 ∧ ma_w g 5 k = 0
  · rw [if_pos h1, if_pos h1, ma_w_t (ma_okk2 (by decide) hk)]
  · rw [if_neg h1, if_neg h1]
def mb_bn (k : Nat) (h : Nat → Int32) : Nat → Int32 := if ma_w h 5 k ≤ 0 then ma_t h 5 k 0 else ma_t h 5 k (ma_w h 5 k - 1)
def me_ban (s : ma_S) (n : Nat) (c b : Nat) : Int32 := if c = 5 ∧ b < n then (if s 5 b ≤ 0 then 0 else s 5 b - 1) else s c b
theorem me_ban_0 {s : ma_S} : me_ban s 0 = s := by
  funext c b
  unfold me_ban
  simp
theorem me_ban_s {s : ma_S} {k : Nat} : (if s 5 k ≤ 0 then ma_up (me_ban s k) 5 k 0 else ma_up (me_ban s k) 5 k (s 5 k - 1)) = me_ban s (k + 1) := by
  by_cases h : s 5 k ≤ 0
  · rw [if_pos h]
    funext c b
    unfold ma_up me_ban
    grind
  · rw [if_neg h]
    funext c b
    unfold ma_up me_ban
    grind
theorem mb_bn_it {g : Nat → Int32} : ∀ k, k ≤ 16 → ma_w (ma_it mb_bn g k) = me_ban (ma_w g) k := by
  refine ma_it_w (fun k => me_ban (ma_w g) k) me_ban_0 (fun k h hk e => ?_)
  show ma_w (mb_bn k h) = me_ban (ma_w g) (k + 1)
  rw [← me_ban_s, ← e]
  have e5 : ma_w h 5 k = ma_w g 5 k := by rw [e]; unfold me_ban; simp
  unfold mb_bn
  rw [e5]
  by_cases h1 : ma_w g 5 k ≤ 0
  · rw [if_pos h1, if_pos h1, ma_w_t (ma_okk2 (by decide) hk)]
  · rw [if_neg h1, if_neg h1, ma_w_t (ma_okk2 (by decide) hk)]
def mb_ye (k : Nat) (h : Nat → Int32) : Nat → Int32 := ma_t (ma_t h 0 k (ma_w h 0 k + (if ma_w h 2 k = 0 ∨ ma_w h 2 k = 1 then 1 else 0))) 4 k (ma_w h 4 k + (if ma_w h 2 k = 1 then 1 else 0))
theorem me_year_s {s : ma_S} {k : Nat} : ma_up (ma_up (md_year s k) 0 k (s 0 k + (if s 2 k = 0 ∨ s 2 k = 1 then 1 else 0))) 4 k (s 4 k + (if s 2 k = 1 then 1 else 0)) = md_year s (k + 1) := by
  funext c b
  have z0 : s 0 k + 0 = s 0 k := Int32.add_zero _
  have z4 : s 4 k + 0 = s 4 k := Int32.add_zero _
  unfold ma_up md_year
  by_cases h1 : s 2 k = 1
  · rw [if_pos h1, if_pos (Or.inr h1)]
    grind
  · rw [if_neg h1]
    by_cases h0 : s 2 k = 0
    · rw [if_pos (Or.inl h0)]
      grind
    · rw [if_neg (show ¬ (s 2 k = 0 ∨ s 2 k = 1) from fun h => h.elim h0 h1)]
      grind
theorem mb_ye_it {g : Nat → Int32} : ∀ k, k ≤ 16 → ma_w (ma_it mb_ye g k) = md_year (ma_w g) k := by
  refine ma_it_w (fun k => md_year (ma_w g) k) md_year_0 (fun k h hk e => ?_)
  show ma_w (mb_ye k h) = md_year (ma_w g) (k + 1)
  rw [← me_year_s, ← e]
  have e2 : ma_w h 2 k = ma_w g 2 k := by rw [e]; unfold md_year; simp
  have e0 : ma_w h 0 k = ma_w g 0 k := by rw [e]; unfold md_year; simp
  have e4 : ma_w h 4 k = ma_w g 4 k := by rw [e]; unfold md_year; simp
  unfold mb_ye
  rw [e2, e0, e4, ma_w_t (ma_okk2 (by decide) hk), ma_w_t (ma_okk2 (by decide) hk)]
theorem kb_stamps {m : fm_M} {b : Nat} (hb : b < 16) : f_X7_stamps (ma_i b) m = some (fm_up m 24 (ma_t (ma_t (m 24) 16 1 (ma_w (m 24) 16 1 + 1)) 8 b (ma_w (m 24) 16 1 + 1))) := by
  unfold f_X7_stamps
  rw [if_pos (by decide), if_pos (by decide), if_pos (by decide), kb_se8 hb, Option.bind_some]
  simp only [ma_put, ka_up, ma_pp]
  rfl
theorem kb_go_L {m : fm_M} {n : Nat} {b : Nat} (hn16 : n ≤ 16) (hn : ma_w (m 24) 16 0 = ma_i n) : f_X7_voicesGo_L29 fm_F (ma_i b) (0 : Int32) m = some (fm_up m 24 (ma_it (mb_dr (ma_i (b + 1))) (m 24) n)) := by
  refine (congrArg (f_X7_voicesGo_L29 fm_F (ma_i b) (0 : Int32)) (ma_pk m 24).symm).trans ?_
  have hm : ∀ k, k ≤ n → ma_w ((fm_up m 24 (ma_it (mb_dr (ma_i (b + 1))) (m 24) k)) 24) 16 0 = ma_i n := by
    intro k hk
    rw [ka_up, mb_dr_it k (by omega), ← hn]
    unfold me_drop
    simp
  refine ma_loop (fun f k => f_X7_voicesGo_L29 f (ma_i b) (ma_i k) (fm_up m 24 (ma_it (mb_dr (ma_i (b + 1))) (m 24) k))) n (fun f k hk => ?_) (fun f => ?_) fm_F 0 (Nat.zero_le _) (by unfold fm_F; omega)
  · show f_X7_voicesGo_L29 (f + 1) _ _ _ = f_X7_voicesGo_L29 f _ _ (fm_up m 24 (mb_dr (ma_i (b + 1)) k (ma_it (mb_dr (ma_i (b + 1))) (m 24) k)))
    have hk0 := hm k (by omega)
    generalize ma_it (mb_dr (ma_i (b + 1))) (m 24) k = g at hk0 ⊢
    rw [f_X7_voicesGo_L29, if_pos (by decide), kb_r0 (fm_up m 24 _), hk0, if_neg (kb_g0 hn16 hk), kb_of7 (by omega), Option.bind_some, kb_se7 (by omega), Option.bind_some, ka_up, ma_pp, ma_s1, ma_s1]
    unfold mb_dr
    split <;> rfl
  · show f_X7_voicesGo_L29 (f + 1) _ _ _ = _
    rw [f_X7_voicesGo_L29, if_pos (by decide), kb_r0 (fm_up m 24 _), hm n (Nat.le_refl _), if_pos (Int32.le_refl _)]
theorem kb_becomes1 {m : fm_M} {n : Nat} {b : Nat} (hn16 : n ≤ 16) (hn : ma_w (m 24) 16 0 = ma_i n) (hb : b < n) : f_X7_becomes (ma_i b) (1 : Int32) m = some (fm_up m 24 (ma_it (mb_dr (ma_i (b + 1))) (ma_t (ma_t (m 24) 2 b 1) 5 b 0) n)) := by
  unfold f_X7_becomes
  have hb16 : b < 16 := by omega
  simp only [kb_se2 hb16, kb_se5 hb16, Option.bind_some, ka_up, ma_pp]
  unfold f_X7_voicesGo
  have e2 : ma_w (ma_t (ma_t (m 24) 2 b 1) 5 b 0) = ma_up (ma_up (ma_w (m 24)) 2 b 1) 5 b 0 := by
    rw [ma_w_t (ma_okk2 (by decide) hb16), ma_w_t (ma_okk2 (by decide) hb16)]
  simp only [kb_isSo hb16, Option.bind_some, ka_up, e2]
  have hw : ma_up (ma_up (ma_w (m 24)) 2 b 1) 5 b 0 2 b = 1 := by unfold ma_up; simp
  rw [hw, if_pos (by decide), if_neg (by decide), kb_go_L hn16 (by rw [ka_up, e2]; unfold ma_up; simpa using hn), Option.bind_some, ka_up, ma_pp]
theorem kb_becomes2 {m : fm_M} {n : Nat} {b : Nat} {how : Int32} (hn16 : n ≤ 16) (hn : ma_w (m 24) 16 0 = ma_i n) (hb : b < n) (h1 : how ≠ 1) (h0 : how ≠ 0) : f_X7_becomes (ma_i b) how m = some (fm_up m 24 (ma_it (mb_dr (ma_i (b + 1))) (ma_t (ma_t (ma_t (m 24) 2 b how) 5 b 0) 7 b 0) n)) := by
  unfold f_X7_becomes
  have hb16 : b < 16 := by omega
  simp only [kb_se2 hb16, kb_se5 hb16, Option.bind_some, ka_up, ma_pp]
  unfold f_X7_voicesGo
  have e2 : ma_w (ma_t (ma_t (m 24) 2 b how) 5 b 0) = ma_up (ma_up (ma_w (m 24)) 2 b how) 5 b 0 := by
    rw [ma_w_t (ma_okk2 (by decide) hb16), ma_w_t (ma_okk2 (by decide) hb16)]
  have e3 : ma_w (ma_t (ma_t (ma_t (m 24) 2 b how) 5 b 0) 7 b 0) = ma_up (ma_up (ma_up (ma_w (m 24)) 2 b how) 5 b 0) 7 b 0 := by
    rw [ma_w_t (ma_okk2 (by decide) hb16), e2]
  simp only [kb_isSo hb16, Option.bind_some, ka_up, e2, kb_se7 hb16, ma_pp, e3]
  have hw : ma_up (ma_up (ma_w (m 24)) 2 b how) 5 b 0 2 b = how := by unfold ma_up; simp
  have hw2 : ma_up (ma_up (ma_up (ma_w (m 24)) 2 b how) 5 b 0) 7 b 0 2 b = how := by unfold ma_up; simp
  rw [hw, hw2, if_neg (by simpa using h1), if_neg (by simpa using h0), kb_go_L hn16 (by rw [ka_up, e3]; unfold ma_up; simpa using hn), Option.bind_some, ka_up, ma_pp]
/-! pence -/
def mb_cm (x : Int32) (h : Nat → Int32) : Nat → Int32 := ma_t (ma_t h 16 4 (ma_w h 16 4 + (if (9999 : Int32) - ma_w h 16 4 ≤ x then (9999 : Int32) - ma_w h 16 4 else x))) 16 5 (ma_w h 16 5 + (if (9999 : Int32) - ma_w h 16 4 ≤ x then (9999 : Int32) - ma_w h 16 4 else x))
theorem kb_comesIn {x : Int32} {m : fm_M} : f_X7_comesIn x m = some (fm_up m 24 (mb_cm x (m 24))) := by
  unfold f_X7_comesIn
  rw [if_pos (by decide), kb_lesser, Option.bind_some, if_pos (by decide), if_pos (by decide), if_pos (by decide), if_pos (by decide)]
  simp only [ma_put, ka_up, ma_pp]
  rfl
theorem kb_feast_L {many each : Int32} {m : fm_M} {n : Nat} (hn16 : n ≤ 16) (hn : ma_w (m 24) 16 0 = ma_i n) : f_X7_feastComes_L46 fm_F many each (0 : Int32) m = some (each * many, fm_up m 24 (ma_t (ma_t (ma_it (mb_py each) (m 24) n) 16 4 (ma_w (ma_it (mb_py each) (m 24) n) 16 4 - each * many)) 16 6 (ma_w (ma_it (mb_py each) (m 24) n) 16 6 + each * many))) := by
  refine (congrArg (f_X7_feastComes_L46 fm_F many each (0 : Int32)) (ma_pk m 24).symm).trans ?_
  have hm : ∀ k, k ≤ n → ma_w ((fm_up m 24 (ma_it (mb_py each) (m 24) k)) 24) 16 0 = ma_i n := by
    intro k hk
    rw [ka_up, mb_py_it k (by omega), ← hn]
    unfold md_pay
    simp
  refine ma_loop (fun f k => f_X7_feastComes_L46 f many each (ma_i k) (fm_up m 24 (ma_it (mb_py each) (m 24) k))) n (fun f k hk => ?_) (fun f => ?_) fm_F 0 (Nat.zero_le _) (by unfold fm_F; omega)
  · show f_X7_feastComes_L46 (f + 1) _ _ _ _ = f_X7_feastComes_L46 f _ _ _ (fm_up m 24 (mb_py each k (ma_it (mb_py each) (m 24) k)))
    have hk0 := hm k (by omega)
    generalize ma_it (mb_py each) (m 24) k = g at hk0 ⊢
    rw [f_X7_feastComes_L46, if_pos (by decide), kb_r0 (fm_up m 24 _), hk0, if_neg (kb_g0 hn16 hk), kb_isEntitled (by omega), Option.bind_some, kb_of6 (by omega), Option.bind_some, kb_se6 (by omega), Option.bind_some, ka_up, ma_pp, ma_s1]
    unfold mb_py
    by_cases h : ma_w g 2 k = 1 ∧ ma_w g 5 k = 0
    · rw [if_pos h, if_pos (by simp [h])]
    · rw [if_neg h, if_neg (by simpa using h)]
  · show f_X7_feastComes_L46 (f + 1) _ _ _ _ = _
    rw [f_X7_feastComes_L46, if_pos (by decide), kb_r0 (fm_up m 24 _), hm n (Nat.le_refl _), if_pos (Int32.le_refl _), if_pos (by decide), if_pos (by decide), if_pos (by decide), if_pos (by decide)]
    simp only [ma_put, ka_up, ma_pp]
    rfl
theorem kb_year_L {m : fm_M} {n : Nat} (hn16 : n ≤ 16) (hn : ma_w (m 24) 16 0 = ma_i n) : f_X7_yearBegins_L27 fm_F (0 : Int32) m = (f_X7_shabbyAt (0 : Int32) (fm_up m 24 (ma_it mb_ye (m 24) n))).bind fun v7 => f_X7_yearBegins_L112 fm_F v7 (fm_up m 24 (ma_it mb_ye (m 24) n)) := by
  refine (congrArg (f_X7_yearBegins_L27 fm_F (0 : Int32)) (ma_pk m 24).symm).trans ?_
  have hm : ∀ k, k ≤ n → ma_w ((fm_up m 24 (ma_it mb_ye (m 24) k)) 24) 16 0 = ma_i n := by
    intro k hk
    rw [ka_up, mb_ye_it k (by omega), ← hn]
    unfold md_year
    simp
  refine ma_loop (fun f k => f_X7_yearBegins_L27 f (ma_i k) (fm_up m 24 (ma_it mb_ye (m 24) k))) n (fun f k hk => ?_) (fun f => ?_) fm_F 0 (Nat.zero_le _) (by unfold fm_F; omega)
  · show f_X7_yearBegins_L27 (f + 1) _ _ = f_X7_yearBegins_L27 f _ (fm_up m 24 (mb_ye k (ma_it mb_ye (m 24) k)))
    have hk0 := hm k (by omega)
    have hk16 : k < 16 := by omega
    generalize ma_it mb_ye (m 24) k = g at hk0 ⊢
    rw [f_X7_yearBegins_L27, if_pos (by decide), kb_r0 (fm_up m 24 _), hk0, if_neg (kb_g0 hn16 hk)]
    have ew : ∀ v, ma_w (ma_t g 0 k v) = ma_up (ma_w g) 0 k v := fun v => ma_w_t (ma_okk2 (by decide) hk16)
    have e2 : ∀ v, ma_up (ma_w g) 0 k v 2 k = ma_w g 2 k := fun v => by unfold ma_up; simp
    have e4 : ∀ v, ma_up (ma_w g) 0 k v 4 k = ma_w g 4 k := fun v => by unfold ma_up; simp
    simp only [kb_of0 hk16, kb_of4 hk16, kb_isSo hk16, kb_se0 hk16, kb_se4 hk16, Option.bind_some, ka_up, ma_pp, ma_s1, ew, e2, e4]
    unfold mb_ye
    by_cases h1 : ma_w g 2 k = 1
    · have h01 : ¬ (1 : Int32) = 0 := by decide
      simp [h1, h01]
    · by_cases h0 : ma_w g 2 k = 0
      · have h01 : ¬ (0 : Int32) = 1 := by decide
        simp [h0, h01]
      · simp [h0, h1]
  · show f_X7_yearBegins_L27 (f + 1) _ _ = _
    rw [f_X7_yearBegins_L27, if_pos (by decide), kb_r0 (fm_up m 24 _), hm n (Nat.le_refl _), if_pos (Int32.le_refl _)]
def mb_y0 (g : Nat → Int32) : Nat → Int32 := ma_t (ma_t (ma_t g 16 3 0) 16 2 (ma_w g 16 2 + 1)) 16 9 0
theorem kb_year {m : fm_M} {n : Nat} (hn16 : n ≤ 16) (hn : ma_w (m 24) 16 0 = ma_i n) : f_X7_yearBegins m = (f_X7_shabbyAt (0 : Int32) (fm_up m 24 (ma_it mb_ye (mb_y0 (m 24)) n))).bind fun v7 => f_X7_yearBegins_L112 fm_F v7 (fm_up m 24 (ma_it mb_ye (mb_y0 (m 24)) n)) := by
  unfold f_X7_yearBegins
  rw [if_pos (by decide), if_pos (by decide), if_pos (by decide), if_pos (by decide)]
  have e : (fm_put (fm_put (fm_put m 24 (1 : Int32).toNatClampNeg (0 : Int32)) 24 (0 : Int32).toNatClampNeg (((fm_put m 24 (1 : Int32).toNatClampNeg (0 : Int32)) 24 (0 : Int32).toNatClampNeg) + (1 : Int32))) 24 (8 : Int32).toNatClampNeg (0 : Int32)) = fm_up m 24 (mb_y0 (m 24)) := by
    simp only [ma_put, ka_up, ma_pp]
    rfl
  rw [e, kb_year_L hn16, ka_up, ma_pp]
  rw [ka_up]
  exact hn


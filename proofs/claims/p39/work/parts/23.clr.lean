/-! THE CLASS IN CLOSED FORM: ranks, and loops that change a column -/
def mc_pl (key : Nat → Int32) (x : Int32) (b : Nat) : Bool := decide (¬ key b < 0) && decide (ma_i (ma_ct (fun k => decide (key b < key k)) 16) = x)
def mc_rank (key : Nat → Int32) (x : Int32) : Int32 := if ma_ff (mc_pl key x) 16 0 < 16 then ma_i (ma_ff (mc_pl key x) 16 0) else -11
theorem mc_rank_congr {key key2 : Nat → Int32} (h : ∀ j, j < 16 → key j = key2 j) (x : Int32) : mc_rank key x = mc_rank key2 x := by
  have e : ma_ff (mc_pl key x) 16 0 = ma_ff (mc_pl key2 x) 16 0 := by
    refine ma_ff_congr 16 0 (fun j _ hj => ?_)
    unfold mc_pl
    rw [h j (by omega), ma_ct_congr 16 (fun k hk => by rw [h k hk])]
  unfold mc_rank
  rw [e]
theorem kc_above {p r : Nat} {m : fm_M} {b : Nat} {y : Int32} (hb : b < 16) : f_X3_withPlace_L27 p r fm_F y (ma_i b) (0 : Int32) (16 : Int32) (0 : Int32) m = some (ma_i (ma_ct (fun k => decide (m r b < m r k)) 16)) := by
  refine ma_loop (fun f k => f_X3_withPlace_L27 p r f y (ma_i b) (ma_i (ma_ct (fun k => decide (m r b < m r k)) k)) (16 : Int32) (ma_i k) m) 16 (fun f k hk => ?_) (fun f => ?_) fm_F 0 (by decide) (by decide)
  · show f_X3_withPlace_L27 p r (f + 1) _ _ _ _ _ m = _
    rw [f_X3_withPlace_L27, if_neg (ma_g0 hk (by decide)), if_pos (ma_in hk (by omega)), if_pos (ma_in hb (by omega)), ma_cn (by omega), ma_cn (by omega), ma_ct_s]
    by_cases h : m r k ≤ m r b
    · simp [h, Int32.not_lt.mpr h, ma_s1]
    · simp [h, Int32.not_le.mp h, ma_s1]
  · show f_X3_withPlace_L27 p r (f + 1) _ _ _ _ _ m = _
    rw [f_X3_withPlace_L27, if_pos ma_g1]
theorem kc_withPlace {p r : Nat} {m : fm_M} {x : Int32} : f_X3_withPlace p r x m = some (mc_rank (m r) x) := by
  unfold f_X3_withPlace
  have key := ma_find (fun f k => f_X3_withPlace_L2 p r f x (ma_i k) m) 16 (mc_pl (m r) x) (fun b => some (ma_i b)) (resN := some (-11)) (fun f k hk hp => ?_) (fun f k hk hp => ?_) (fun f => ?_) fm_F 0 (by decide) (by decide)
  · refine key.trans ?_
    unfold mc_rank
    rw [Nat.sub_zero]
    split <;> rfl
  · show f_X3_withPlace_L2 p r (f + 1) _ _ m = _
    unfold mc_pl at hp
    simp only [Bool.and_eq_true, decide_eq_true_eq] at hp
    rw [f_X3_withPlace_L2, if_neg (ma_g0 hk (by decide)), kc_above hk, Option.bind_some, if_pos (ma_in hk (by omega)), ma_cn (by omega), if_neg hp.1, if_pos hp.2]
  · show f_X3_withPlace_L2 p r (f + 1) _ _ m = _
    unfold mc_pl at hp
    rw [f_X3_withPlace_L2, if_neg (ma_g0 hk (by decide)), kc_above hk, Option.bind_some, if_pos (ma_in hk (by omega)), ma_cn (by omega), ma_s1]
    by_cases h : m r k < 0
    · rw [if_pos h]
    · rw [if_neg h, if_neg]
      intro h2
      rw [decide_eq_true h, decide_eq_true h2] at hp
      cases hp
  · show f_X3_withPlace_L2 p r (f + 1) _ _ m = _
    rw [f_X3_withPlace_L2, if_pos ma_g1]
theorem ma_put (m : fm_M) (k i : Nat) (x : Int32) : fm_put m k i x = fm_up m k (upd (m k) i x) := rfl
def mc_row (base key : Nat → Int32) (k : Nat) : Nat → Int32 := fun j => if j < k then key j else base j
theorem mc_row_0 (base key : Nat → Int32) : mc_row base key 0 = base := by
  funext j
  unfold mc_row
  rw [if_neg (by omega)]
theorem mc_row_s (base key : Nat → Int32) (k : Nat) : upd (mc_row base key k) k (key k) = mc_row base key (k + 1) := by
  funext j
  simp only [mc_row, upd]
  by_cases h : j = k
  · subst h; rw [if_pos rfl, if_pos (by omega)]
  · rw [if_neg h]
    by_cases h2 : j < k
    · rw [if_pos h2, if_pos (by omega)]
    · rw [if_neg h2, if_neg (by omega)]
/-- how many voices count, by the class -/
def mc_vo (s : ma_S) (x : Nat) : Nat := if s 1 x = 1 then 2 * ma_ct (fun b => decide (s 7 b = ma_i x)) 16 else ma_ct (fun b => decide (s 7 b = ma_i x)) 16
theorem mc_vo_le (s : ma_S) (x : Nat) : mc_vo s x ≤ 32 := by
  unfold mc_vo
  have := ma_ct_le (fun b => decide (s 7 b = ma_i x)) 16
  split <;> omega
def mc_kv (s : ma_S) (b : Nat) : Int32 := if s 2 b = 0 then ma_i (mc_vo s b * 16 + 15 - b) else -1
def mc_kg (s : ma_S) (b : Nat) : Int32 := if s 2 b = 1 then (s 4 b + (1 : Int32)) * (16 : Int32) - (1 : Int32) - s 8 b else -1
def mc_kt (s : ma_S) (b : Nat) : Int32 := if s 2 b = 1 then (15 : Int32) - s 8 b else -1
theorem kc_byVoices {p r p2 r2 : Nat} {m : fm_M} {x : Int32} (hne : r2 ≠ r) : f_X3_byVoices p r p2 r2 x m = some (mc_rank (mc_kv (ma_c (m r2))) x, fm_up m r (mc_row (m r) (mc_kv (ma_c (m r2))) 16)) := by
  unfold f_X3_byVoices
  have e0 : m = fm_up m r (mc_row (m r) (mc_kv (ma_c (m r2))) 0) := by rw [mc_row_0, ma_pk]
  refine (congrArg _ e0).trans ?_
  refine ma_loop (fun f k => f_X3_byVoices_L2 p r p2 r2 f x (ma_i k) (fm_up m r (mc_row (m r) (mc_kv (ma_c (m r2))) k))) 16 (fun f k hk => ?_) (fun f => ?_) fm_F 0 (by decide) (by decide)
  · show f_X3_byVoices_L2 p r p2 r2 (f + 1) _ _ _ = _
    rw [f_X3_byVoices_L2, if_neg (ma_g0 hk (by decide)), ka_of2 hk, Option.bind_some, ka_un _ hne]
    by_cases h : ma_c (m r2) 2 k = 0
    · rw [if_pos h, ka_voicesFor hk, Option.bind_some, if_pos (ma_in hk (by omega)), ma_put, ka_up, ma_pp, ma_cn (by omega), ma_s1]
      have e : (ma_i (mc_vo (ma_c (m r2)) k) * (16 : Int32) + (16 : Int32) - (1 : Int32) - ma_i k) = mc_kv (ma_c (m r2)) k := by
        unfold mc_kv
        rw [if_pos h]
        have h16 : (16 : Int32) = ma_i 16 := rfl
        have h1 : (1 : Int32) = ma_i 1 := rfl
        rw [h16, h1, ma_mul, ma_add, ma_sub (by omega), ma_sub (by omega)]
        congr 1
      rw [← mc_row_s, ← e, ka_un _ hne]
      rfl
    · rw [if_neg h, if_pos (ma_in hk (by omega)), ma_put, ka_up, ma_pp, ma_cn (by omega), ma_s1, ← mc_row_s]
      have e : mc_kv (ma_c (m r2)) k = -1 := by unfold mc_kv; rw [if_neg h]
      rw [e]
  · show f_X3_byVoices_L2 p r p2 r2 (f + 1) _ _ _ = _
    rw [f_X3_byVoices_L2, if_pos ma_g1, kc_withPlace, Option.bind_some, ka_up]
    rw [mc_rank_congr (fun j hj => show mc_row (m r) (mc_kv (ma_c (m r2))) 16 j = mc_kv (ma_c (m r2)) j by unfold mc_row; rw [if_pos hj])]
theorem kc_byGown {p r p2 r2 : Nat} {m : fm_M} {x : Int32} (hne : r2 ≠ r) : f_X3_byGown p r p2 r2 x m = some (mc_rank (mc_kg (ma_c (m r2))) x, fm_up m r (mc_row (m r) (mc_kg (ma_c (m r2))) 16)) := by
  unfold f_X3_byGown
  have e0 : m = fm_up m r (mc_row (m r) (mc_kg (ma_c (m r2))) 0) := by rw [mc_row_0, ma_pk]
  refine (congrArg _ e0).trans ?_
  refine ma_loop (fun f k => f_X3_byGown_L2 p r p2 r2 f x (ma_i k) (fm_up m r (mc_row (m r) (mc_kg (ma_c (m r2))) k))) 16 (fun f k hk => ?_) (fun f => ?_) fm_F 0 (by decide) (by decide)
  · show f_X3_byGown_L2 p r p2 r2 (f + 1) _ _ _ = _
    rw [f_X3_byGown_L2, if_neg (ma_g0 hk (by decide)), ka_of2 hk, Option.bind_some, ka_un _ hne]
    by_cases h : ma_c (m r2) 2 k = 1
    · rw [if_pos h, ka_of4 hk, Option.bind_some, ka_of8 hk, Option.bind_some, if_pos (ma_in hk (by omega)), ma_put, ka_up, ma_pp, ma_cn (by omega), ma_s1, ka_un _ hne, ← mc_row_s]
      have e : mc_kg (ma_c (m r2)) k = (ma_c (m r2) 4 k + (1 : Int32)) * (16 : Int32) - (1 : Int32) - ma_c (m r2) 8 k := by unfold mc_kg; rw [if_pos h]
      rw [e]
    · rw [if_neg h, if_pos (ma_in hk (by omega)), ma_put, ka_up, ma_pp, ma_cn (by omega), ma_s1, ← mc_row_s]
      have e : mc_kg (ma_c (m r2)) k = -1 := by unfold mc_kg; rw [if_neg h]
      rw [e]
  · show f_X3_byGown_L2 p r p2 r2 (f + 1) _ _ _ = _
    rw [f_X3_byGown_L2, if_pos ma_g1, kc_withPlace, Option.bind_some, ka_up]
    rw [mc_rank_congr (fun j hj => show mc_row (m r) (mc_kg (ma_c (m r2))) 16 j = mc_kg (ma_c (m r2)) j by unfold mc_row; rw [if_pos hj])]
theorem kc_byTime {p r p2 r2 : Nat} {m : fm_M} {x : Int32} (hne : r2 ≠ r) : f_X3_byTime p r p2 r2 x m = some (mc_rank (mc_kt (ma_c (m r2))) x, fm_up m r (mc_row (m r) (mc_kt (ma_c (m r2))) 16)) := by
  unfold f_X3_byTime
  have e0 : m = fm_up m r (mc_row (m r) (mc_kt (ma_c (m r2))) 0) := by rw [mc_row_0, ma_pk]
  refine (congrArg _ e0).trans ?_
  refine ma_loop (fun f k => f_X3_byTime_L2 p r p2 r2 f x (ma_i k) (fm_up m r (mc_row (m r) (mc_kt (ma_c (m r2))) k))) 16 (fun f k hk => ?_) (fun f => ?_) fm_F 0 (by decide) (by decide)
  · show f_X3_byTime_L2 p r p2 r2 (f + 1) _ _ _ = _
    rw [f_X3_byTime_L2, if_neg (ma_g0 hk (by decide)), ka_of2 hk, Option.bind_some, ka_un _ hne]
    by_cases h : ma_c (m r2) 2 k = 1
    · rw [if_pos h, ka_of8 hk, Option.bind_some, if_pos (ma_in hk (by omega)), ma_put, ka_up, ma_pp, ma_cn (by omega), ma_s1, ka_un _ hne, ← mc_row_s]
      have e : mc_kt (ma_c (m r2)) k = (15 : Int32) - ma_c (m r2) 8 k := by unfold mc_kt; rw [if_pos h]
      rw [e]
    · rw [if_neg h, if_pos (ma_in hk (by omega)), ma_put, ka_up, ma_pp, ma_cn (by omega), ma_s1, ← mc_row_s]
      have e : mc_kt (ma_c (m r2)) k = -1 := by unfold mc_kt; rw [if_neg h]
      rw [e]
  · show f_X3_byTime_L2 p r p2 r2 (f + 1) _ _ _ = _
    rw [f_X3_byTime_L2, if_pos ma_g1, kc_withPlace, Option.bind_some, ka_up]
    rw [mc_rank_congr (fun j hj => show mc_row (m r) (mc_kt (ma_c (m r2))) 16 j = mc_kt (ma_c (m r2)) j by unfold mc_row; rw [if_pos hj])]
/-! rows changed brother by brother -/
def ma_it (st : Nat → (Nat → Int32) → (Nat → Int32)) (g : Nat → Int32) : Nat → (Nat → Int32)
  | 0 => g
  | k + 1 => st k (ma_it st g k)
theorem ma_okk {k b : Nat} (hk : k < 14) (hb : b < 16) : ma_ok k b := Or.inl ⟨hk, hb⟩
def mc_dr (x : Int32) (k : Nat) (h : Nat → Int32) : Nat → Int32 := if ma_c h 7 k = x then ma_s h 7 k (-15) else h
def md_drop (s : ma_S) (x : Int32) (n : Nat) (c b : Nat) : Int32 := if c = 7 ∧ b < n ∧ s 7 b = x then -15 else s c b
theorem kc_drop {x : Int32} {m : fm_M} : f_X0_dropVoicesFor x m = some (fm_up m 7 (ma_it (mc_dr x) (m 7) 16)) := by
  unfold f_X0_dropVoicesFor
  refine (congrArg (f_X0_dropVoicesFor_L2 fm_F x (0 : Int32)) (ma_pk m 7).symm).trans ?_
  refine ma_loop (fun f k => f_X0_dropVoicesFor_L2 f x (ma_i k) (fm_up m 7 (ma_it (mc_dr x) (m 7) k))) 16 (fun f k hk => ?_) (fun f => ?_) fm_F 0 (by decide) (by decide)
  · show f_X0_dropVoicesFor_L2 (f + 1) _ _ _ = f_X0_dropVoicesFor_L2 f _ _ (fm_up m 7 (mc_dr x k (ma_it (mc_dr x) (m 7) k)))
    rw [f_X0_dropVoicesFor_L2, if_neg (ma_g0 hk (by decide)), ka_of7 hk, Option.bind_some, ka_so7 hk, ka_up, ma_s1, ma_pp]
    unfold mc_dr
    split <;> rfl
  · show f_X0_dropVoicesFor_L2 (f + 1) _ _ _ = _
    rw [f_X0_dropVoicesFor_L2, if_pos ma_g1]
theorem md_drop_s {s : ma_S} {x : Int32} {k : Nat} : (if s 7 k = x then ma_up (md_drop s x k) 7 k (-15) else md_drop s x k) = md_drop s x (k + 1) := by
  funext c b
  unfold md_drop
  by_cases h : s 7 k = x
  · rw [if_pos h]
    unfold ma_up
    by_cases hc : c = 7
    · by_cases hb : b = k
      · subst hb; subst hc; simp [h]
      · simp [hc, hb]; have : (b < k + 1) = (b < k) := by apply propext; omega
        simp [this]
    · simp [hc]
  · rw [if_neg h]
    by_cases hc : c = 7
    · by_cases hb : b = k
      · subst hb; subst hc; simp [h]
      · have : (b < k + 1) = (b < k) := by apply propext; omega
        simp [this]
    · simp [hc]
theorem md_drop_0 {s : ma_S} {x : Int32} : md_drop s x 0 = s := by
  funext c b
  unfold md_drop
  simp
theorem ma_it_c {st : Nat → (Nat → Int32) → (Nat → Int32)} {g : Nat → Int32} {N : Nat} (D : Nat → ma_S) (h0 : D 0 = ma_c g) (hs : ∀ k h, k < N → ma_c h = D k → ma_c (st k h) = D (k + 1)) : ∀ k, k ≤ N → ma_c (ma_it st g k) = D k := by
  intro k
  induction k with
  | zero => intro _; exact h0.symm
  | succ k ih => intro hk; exact hs k _ (by omega) (ih (by omega))
theorem mc_dr_it {x : Int32} {g : Nat → Int32} : ma_c (ma_it (mc_dr x) g 16) = md_drop (ma_c g) x 16 := by
  refine ma_it_c (N := 16) (fun k => md_drop (ma_c g) x k) md_drop_0 (fun k h hk e => ?_) 16 (by decide)
  show ma_c (mc_dr x k h) = md_drop (ma_c g) x (k + 1)
  rw [← md_drop_s, ← e]
  have e2 : ma_c h 7 k = ma_c g 7 k := by rw [e]; unfold md_drop; simp
  unfold mc_dr
  rw [e2]
  by_cases h1 : ma_c g 7 k = x
  · rw [if_pos h1, if_pos h1, ma_c_s (ma_okk (by decide) hk)]
  · rw [if_neg h1, if_neg h1]
/-! the feast's pence, bans, the year -/
def mc_py (each : Int32) (k : Nat) (h : Nat → Int32) : Nat → Int32 := if ma_c h 2 k = 1 ∧ ma_c h 5 k = 0 then ma_s h 6 k (ma_c h 6 k + each) else h
def md_pay (s : ma_S) (each : Int32) (n : Nat) (c b : Nat) : Int32 := if c = 6 ∧ b < n ∧ s 2 b = 1 ∧ s 5 b = 0 then s 6 b + each else s c b
theorem md_pay_0 {s : ma_S} {x : Int32} : md_pay s x 0 = s := by
  funext c b
  unfold md_pay
  simp
theorem md_pay_s {s : ma_S} {x : Int32} {k : Nat} : (if s 2 k = 1 ∧ s 5 k = 0 then ma_up (md_pay s x k) 6 k (s 6 k + x) else md_pay s x k) = md_pay s x (k + 1) := by
  by_cases h : s 2 k = 1 ∧ s 5 k = 0
  · rw [if_pos h]
    funext c b
    unfold ma_up md_pay
    grind
  · rw [if_neg h]
    funext c b
    unfold md_pay
    grind
def mc_bn (k : Nat) (h : Nat → Int32) : Nat → Int32 := if ma_c h 5 k ≤ 0 then h else ma_s h 5 k (ma_c h 5 k - 1)
def md_ban (s : ma_S) (n : Nat) (c b : Nat) : Int32 := if c = 5 ∧ b < n ∧ ¬ s 5 b ≤ 0 then s 5 b - 1 else s c b
theorem md_ban_0 {s : ma_S} : md_ban s 0 = s := by
  funext c b
  unfold md_ban
  simp
theorem md_ban_s {s : ma_S} {k : Nat} : (if s 5 k ≤ 0 then md_ban s k else ma_up (md_ban s k) 5 k (s 5 k - 1)) = md_ban s (k + 1) := by
  by_cases h : s 5 k ≤ 0
  · rw [if_pos h]
    funext c b
    unfold md_ban
    grind
  · rw [if_neg h]
    funext c b
    unfold ma_up md_ban
    grind
def mc_ye (k : Nat) (h : Nat → Int32) : Nat → Int32 := if ma_c h 2 k = 1 then ma_s (ma_s h 0 k (ma_c h 0 k + 1)) 4 k (ma_c h 4 k + 1) else if ma_c h 2 k = 0 then ma_s h 0 k (ma_c h 0 k + 1) else h
def md_year (s : ma_S) (n : Nat) (c b : Nat) : Int32 := if c = 0 ∧ b < n ∧ (s 2 b = 1 ∨ s 2 b = 0) then s 0 b + 1 else if c = 4 ∧ b < n ∧ s 2 b = 1 then s 4 b + 1 else s c b
theorem md_year_0 {s : ma_S} : md_year s 0 = s := by
  funext c b
  unfold md_year
  simp
theorem md_year_s {s : ma_S} {k : Nat} : (if s 2 k = 1 then ma_up (ma_up (md_year s k) 0 k (s 0 k + 1)) 4 k (s 4 k + 1) else if s 2 k = 0 then ma_up (md_year s k) 0 k (s 0 k + 1) else md_year s k) = md_year s (k + 1) := by
  funext c b
  unfold md_year
  grind [ma_up]
theorem mc_py_it {x : Int32} {g : Nat → Int32} : ma_c (ma_it (mc_py x) g 16) = md_pay (ma_c g) x 16 := by
  refine ma_it_c (N := 16) (fun k => md_pay (ma_c g) x k) md_pay_0 (fun k h hk e => ?_) 16 (by decide)
  show ma_c (mc_py x k h) = md_pay (ma_c g) x (k + 1)
  rw [← md_pay_s, ← e]
  have e2 : ma_c h 2 k = ma_c g 2 k := by rw [e]; unfold md_pay; simp
  have e5 : ma_c h 5 k = ma_c g 5 k := by rw [e]; unfold md_pay; simp
  have e6 : ma_c h 6 k = ma_c g 6 k := by rw [e]; unfold md_pay; simp
  unfold mc_py
  rw [e2, e5, e6]
  by_cases h1 : ma_c g 2 k = 1 ∧ ma_c g 5 k = 0
  · rw [if_pos h1, if_pos h1, ma_c_s (ma_okk (by decide) hk)]
  · rw [if_neg h1, if_neg h1]
theorem mc_bn_it {g : Nat → Int32} : ma_c (ma_it mc_bn g 16) = md_ban (ma_c g) 16 := by
  refine ma_it_c (N := 16) (fun k => md_ban (ma_c g) k) md_ban_0 (fun k h hk e => ?_) 16 (by decide)
  show ma_c (mc_bn k h) = md_ban (ma_c g) (k + 1)
  rw [← md_ban_s, ← e]
  have e5 : ma_c h 5 k = ma_c g 5 k := by rw [e]; unfold md_ban; simp
  unfold mc_bn
  rw [e5]
  by_cases h1 : ma_c g 5 k ≤ 0
  · rw [if_pos h1, if_pos h1]
  · rw [if_neg h1, if_neg h1, ma_c_s (ma_okk (by decide) hk)]
theorem mc_ye_it {g : Nat → Int32} : ma_c (ma_it mc_ye g 16) = md_year (ma_c g) 16 := by
  refine ma_it_c (N := 16) (fun k => md_year (ma_c g) k) md_year_0 (fun k h hk e => ?_) 16 (by decide)
  show ma_c (mc_ye k h) = md_year (ma_c g) (k + 1)
  rw [← md_year_s, ← e]
  have e2 : ma_c h 2 k = ma_c g 2 k := by rw [e]; unfold md_year; simp
  have e0 : ma_c h 0 k = ma_c g 0 k := by rw [e]; unfold md_year; simp
  have e4 : ma_c h 4 k = ma_c g 4 k := by rw [e]; unfold md_year; simp
  unfold mc_ye
  rw [e2, e0, e4]
  by_cases h1 : ma_c g 2 k = 1
  · rw [if_pos h1, if_pos h1, ma_c_s (ma_okk (by decide) hk), ma_c_s (ma_okk (by decide) hk)]
  · rw [if_neg h1, if_neg h1]
    by_cases h2 : ma_c g 2 k = 0
    · rw [if_pos h2, if_pos h2, ma_c_s (ma_okk (by decide) hk)]
    · rw [if_neg h2, if_neg h2]
theorem kc_bans {m : fm_M} : f_X0_shortenBans m = some (fm_up m 7 (ma_it mc_bn (m 7) 16)) := by
  unfold f_X0_shortenBans
  refine (congrArg (f_X0_shortenBans_L2 fm_F (0 : Int32)) (ma_pk m 7).symm).trans ?_
  refine ma_loop (fun f k => f_X0_shortenBans_L2 f (ma_i k) (fm_up m 7 (ma_it mc_bn (m 7) k))) 16 (fun f k hk => ?_) (fun f => ?_) fm_F 0 (by decide) (by decide)
  · show f_X0_shortenBans_L2 (f + 1) _ _ = f_X0_shortenBans_L2 f _ (fm_up m 7 (mc_bn k (ma_it mc_bn (m 7) k)))
    rw [f_X0_shortenBans_L2, if_neg (ma_g0 hk (by decide)), ka_of5 hk, Option.bind_some, Option.bind_some, ka_so5 hk, ka_up, ma_s1, ma_pp]
    unfold mc_bn
    split <;> rfl
  · show f_X0_shortenBans_L2 (f + 1) _ _ = _
    rw [f_X0_shortenBans_L2, if_pos ma_g1]
theorem kc_pay_L {many each : Int32} {m : fm_M} : f_X0_payFeast_L29 fm_F many each (0 : Int32) m = some (fm_up m 7 (ma_s (ma_s (ma_it (mc_py each) (m 7) 16) 16 4 (ma_c (ma_it (mc_py each) (m 7) 16) 16 4 - each * many)) 16 6 (ma_c (ma_it (mc_py each) (m 7) 16) 16 6 + each * many))) := by
  refine (congrArg (f_X0_payFeast_L29 fm_F many each (0 : Int32)) (ma_pk m 7).symm).trans ?_
  refine ma_loop (fun f k => f_X0_payFeast_L29 f many each (ma_i k) (fm_up m 7 (ma_it (mc_py each) (m 7) k))) 16 (fun f k hk => ?_) (fun f => ?_) fm_F 0 (by decide) (by decide)
  · show f_X0_payFeast_L29 (f + 1) _ _ _ _ = f_X0_payFeast_L29 f _ _ _ (fm_up m 7 (mc_py each k (ma_it (mc_py each) (m 7) k)))
    rw [f_X0_payFeast_L29, if_neg (ma_g0 hk (by decide)), ka_isEntitled hk, Option.bind_some, ka_of6 hk, Option.bind_some, ka_so6 hk, ka_up, ma_s1, ma_pp, Option.bind_some]
    generalize ma_it (mc_py each) (m 7) k = g
    unfold mc_py
    by_cases h : ma_c g 2 k = 1 ∧ ma_c g 5 k = 0
    · rw [if_pos h, if_pos (by simp [h])]
    · rw [if_neg h, if_neg (by simpa using h)]
  · show f_X0_payFeast_L29 (f + 1) _ _ _ _ = _
    rw [f_X0_payFeast_L29, if_pos ma_g1]
    simp only [ka_g4, ka_t4, ka_g6, ka_t6, Option.bind_some, ka_up, ma_pp]
    rw [ma_c_s (by unfold ma_ok; omega)]
    simp [ma_up]
theorem kc_year_L {m : fm_M} : f_X0_beginYear_L35 fm_F (0 : Int32) m = some (fm_up m 7 (ma_it mc_ye (m 7) 16)) := by
  refine (congrArg (f_X0_beginYear_L35 fm_F (0 : Int32)) (ma_pk m 7).symm).trans ?_
  refine ma_loop (fun f k => f_X0_beginYear_L35 f (ma_i k) (fm_up m 7 (ma_it mc_ye (m 7) k))) 16 (fun f k hk => ?_) (fun f => ?_) fm_F 0 (by decide) (by decide)
  · show f_X0_beginYear_L35 (f + 1) _ _ = f_X0_beginYear_L35 f _ (fm_up m 7 (mc_ye k (ma_it mc_ye (m 7) k)))
    rw [f_X0_beginYear_L35, if_neg (ma_g0 hk (by decide)), ka_is hk, Option.bind_some]
    generalize ma_it mc_ye (m 7) k = g
    unfold mc_ye
    by_cases h : ma_c g 2 k = 1
    · simp only [ka_up, h, decide_true, if_true, ka_of0 hk, ka_so0 hk, ka_of4 hk, ka_so4 hk, Option.bind_some, ma_pp, ma_s1]
      rw [ma_c_s (ma_okk (by decide) hk)]
      simp [ma_up]
    · by_cases h2 : ma_c g 2 k = 0
      · have h3 : ¬ (0 : Int32) = 1 := by decide
        simp only [ka_up, h2, h3, decide_false, decide_true, if_true, if_false, ka_is hk, ka_of0 hk, ka_so0 hk, Option.bind_some, ma_pp, ma_s1]
        simp
      · simp only [ka_up, h, h2, decide_false, if_false, ka_is hk, Option.bind_some, ma_s1]
        simp
  · show f_X0_beginYear_L35 (f + 1) _ _ = _
    rw [f_X0_beginYear_L35, if_pos ma_g1]
theorem kc_year {m : fm_M} : f_X0_beginYear m = some (fm_up m 7 (ma_it mc_ye (ma_s (ma_s (m 7) 16 2 (ma_c (m 7) 16 2 + 1)) 16 9 0) 16)) := by
  unfold f_X0_beginYear
  simp only [ka_g2, ka_t2, ka_t9, Option.bind_some, ka_up, ma_pp, kc_year_L]

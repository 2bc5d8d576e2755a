/-! the class alone: copies, the memory of changes -/
theorem mt_copyFrom {p r p2 r2 : Nat} {m : fm_M} : f_X5_copyFrom p r p2 r2 m = some (fm_up m r (va_cpy (m r2) (m r) 0 0 294)) := by
  unfold f_X5_copyFrom
  rw [if_pos (by decide)]
  rfl
theorem mt_cpc (f g : Nat → Int32) : ma_c (va_cpy f g 0 0 294) = ma_c f := by
  refine ma_c_eq (fun j hj => ?_)
  unfold va_cpy
  rw [if_pos (by omega)]
  congr 1
  omega
theorem mt_cpw (f g : Nat → Int32) : ma_w (va_cpy f g 0 0 320) = ma_w f := by
  refine ma_w_eq (fun j hj => ?_)
  unfold va_cpy
  rw [if_pos (by omega)]
  congr 1
  omega
theorem mt_onTrial {m : fm_M} : f_X6_onTrial m = some (fm_up m 7 (va_cpy (m 2) (m 7) 0 0 294)) := by
  unfold f_X6_onTrial f_X0_beginFrom
  rw [mt_copyFrom, Option.bind_some, Option.bind_some]
theorem mt_copyTo {p r : Nat} {m : fm_M} {nx : Nat} (hx : nx < 8) : f_X5_copyTo p r 13 2352 (ma_i nx * (294 : Int32)) m = some (fm_up m 13 (va_cpy (m r) (m 13) 0 (294 * nx) 294)) := by
  unfold f_X5_copyTo
  have e : ma_i nx * (294 : Int32) = ma_i (nx * 294) := ma_mul nx 294
  have e2 : (Int32.ofNat 2352 - (294 : Int32)) = ma_i 2058 := rfl
  rw [e, e2, if_neg (ma_nn (by omega)), if_neg (by rw [ma_lt (by decide) (by omega)]; omega)]
  have ok : fm_cpok (0 : Int32) (ma_i (nx * 294)) (294 : Int32) 294 2352 = true := by
    unfold fm_cpok
    have z1 : (0 : Int32).toNatClampNeg = 0 := rfl
    have z2 : (294 : Int32).toNatClampNeg = 294 := rfl
    rw [ma_cn (by omega), z1, z2, decide_eq_true (show ¬ (0 : Int32) < 0 by decide), decide_eq_true (ma_nn (show nx * 294 < 2147483648 by omega)), decide_eq_true (show ¬ (294 : Int32) < 0 by decide), decide_eq_true (show 0 + 294 ≤ 294 by decide), decide_eq_true (show nx * 294 + 294 ≤ 2352 by omega)]
    rfl
  rw [if_pos ok, ma_cn (by omega), Nat.mul_comm]
  rfl
theorem mt_keep {m : fm_M} {nx h : Nat} (hx : nx < 8) (hh : h ≤ 8) (e1 : m 12 1 = ma_i nx) (e2 : m 12 2 = ma_i h) : f_X1_keep 1 2 m = some (fm_up (fm_up m 13 (va_cpy (m 2) (m 13) 0 (294 * nx) 294)) 12 (upd (upd (m 12) 1 (ma_i ((nx + 1) % 8))) 2 (ma_i ((if h = 8 then 7 else h) + 1)))) := by
  unfold f_X1_keep
  rw [e1, mt_copyTo hx, Option.bind_some]
  simp only [ma_put, ka_up, ma_pp, ka_un _ (show (12 : Nat) ≠ 13 by decide), e1, ma_s1]
  have r1 : ma_i (nx + 1) - ma_i (nx + 1) / (8 : Int32) * (8 : Int32) = ma_i ((nx + 1) % 8) := ma_rem (a := nx + 1) (k := 8) (by omega) (by decide)
  rw [r1]
  have u2 : upd (m 12) 1 (ma_i ((nx + 1) % 8)) 2 = ma_i h := by unfold upd; rw [if_neg (by decide)]; exact e2
  rw [u2, ma_s1]
  have mn : (if (8 : Int32) < ma_i (h + 1) then (8 : Int32) else ma_i (h + 1)) = ma_i ((if h = 8 then 7 else h) + 1) := by
    by_cases h8 : h = 8
    · subst h8; rfl
    · rw [if_neg h8, if_neg]
      intro hh2
      have := (ma_lt (a := 8) (by decide) (by omega)).mp hh2
      omega
  rw [mn]
def mt_cls (f : fm_M → Option (Int32 × fm_M)) (m : fm_M) : Option (Int32 × fm_M) := (f_X6_onTrial m).bind fun v1 => (f v1).bind fun v3 => (f_X6_settle v3.1 v3.2).bind fun v5 => some (v5.1, v5.2)
theorem mt_setR {m1 : fm_M} : f_X6_settle (-14 : Int32) m1 = some (-14, fm_up m1 0 (upd (upd (m1 0) 10 (m1 5 2)) 11 (m1 5 3))) := by
  unfold f_X6_settle
  rw [if_pos (by decide), if_pos rfl]
  simp only [f_X0_refusedFor, f_X0_refusedDetail, Option.bind_some, ma_put, ka_up, ma_pp, ka_un _ (show (5 : Nat) ≠ 0 by decide)]
theorem mt_setO {a : Int32} {m1 : fm_M} {nx hh : Nat} (ha : ¬ a < 0) (hx : nx < 8) (h8 : hh ≤ 8) (e1 : m1 12 1 = ma_i nx) (e2 : m1 12 2 = ma_i hh) : ∃ mF, f_X6_settle a m1 = some (a, mF) ∧ (∀ k, k ≠ 2 → k ≠ 12 → k ≠ 13 → mF k = m1 k) ∧ ma_c (mF 2) = ma_c (m1 7) ∧ mF 12 = upd (upd (m1 12) 1 (ma_i ((nx + 1) % 8))) 2 (ma_i ((if hh = 8 then 7 else hh) + 1)) ∧ mF 13 = va_cpy (m1 2) (m1 13) 0 (294 * nx) 294 := by
  unfold f_X6_settle
  rw [if_neg ha, mt_keep hx h8 e1 e2, Option.bind_some]
  unfold f_X0_result
  rw [Option.bind_some, mt_copyFrom, Option.bind_some]
  refine ⟨_, rfl, fun k k2 k12 k13 => ?_, ?_, ?_, ?_⟩
  · rw [ka_un _ k2, ka_un _ k12, ka_un _ k13]
  · rw [ka_up, mt_cpc, ka_un _ (by decide), ka_un _ (by decide)]
  · rw [ka_un _ (by decide), ka_up]
  · rw [ka_un _ (by decide), ka_un _ (by decide), ka_up]
theorem mt_copyBack {p r : Nat} {m : fm_M} {nx : Nat} (hx : nx < 8) : f_X5_copyBack p r 13 2352 (ma_i nx * (294 : Int32)) m = some (fm_up m r (va_cpy (m 13) (m r) (294 * nx) 0 294)) := by
  unfold f_X5_copyBack
  have e : ma_i nx * (294 : Int32) = ma_i (nx * 294) := ma_mul nx 294
  have e2 : (Int32.ofNat 2352 - (294 : Int32)) = ma_i 2058 := rfl
  rw [e, e2, if_neg (ma_nn (by omega)), if_neg (by rw [ma_lt (by decide) (by omega)]; omega)]
  have ok : fm_cpok (ma_i (nx * 294)) (0 : Int32) (294 : Int32) 2352 294 = true := by
    unfold fm_cpok
    have z1 : (0 : Int32).toNatClampNeg = 0 := rfl
    have z2 : (294 : Int32).toNatClampNeg = 294 := rfl
    rw [ma_cn (by omega), z1, z2, decide_eq_true (show ¬ (0 : Int32) < 0 by decide), decide_eq_true (ma_nn (show nx * 294 < 2147483648 by omega)), decide_eq_true (show ¬ (294 : Int32) < 0 by decide), decide_eq_true (show 0 + 294 ≤ 294 by decide), decide_eq_true (show nx * 294 + 294 ≤ 2352 by omega)]
    rfl
  rw [if_pos ok, ma_cn (by omega), Nat.mul_comm]
  rfl

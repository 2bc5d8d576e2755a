/-! the ten changes agree -/
def mi_Inv (t : Nat) (m : fm_M) : Prop := mi_i (700 * t) m
theorem ma_eta {α : Type} (x : Option (Int32 × α)) : (x.bind fun v => some (v.1, v.2)) = x := by cases x <;> rfl
theorem mg_voice : ag_voice mi_Inv := by
  intro t m x1 x2 ht h
  obtain ⟨r, m1, m2, h1, h24, h2, h3⟩ := mt_op (mj_op2_mono (show 700 * t ≤ 700 * (t + 1) by omega) (mj_op2_of (fun n => mj_voice (B := 700 * t) (n := n) (x1 := x1) (x2 := x2)))) (by omega) h
  exact ⟨r, m1, m2, h1, h2, h3⟩
theorem mg_choose : ag_choose mi_Inv := by
  intro t m x1 ht h
  obtain ⟨r, m1, m2, h1, h24, h2, h3⟩ := mt_op (mj_op2_mono (show 700 * t + 1 ≤ 700 * (t + 1) by omega) (mj_op2_of (fun n => mj_choose (B := 700 * t) (n := n) (x := x1) (by omega)))) (by omega) h
  exact ⟨r, m1, m2, h1, h2, h3⟩
theorem mg_leave : ag_leave mi_Inv := by
  intro t m x1 ht h
  obtain ⟨r, m1, m2, h1, h24, h2, h3⟩ := mt_op (mj_op2_mono (show 700 * t ≤ 700 * (t + 1) by omega) (mj_op2_of (fun n => mj_leave (B := 700 * t) (n := n) (x := x1)))) (by omega) h
  exact ⟨r, m1, m2, h1, h2, h3⟩
theorem mg_feast : ag_feast mi_Inv := by
  intro t m x1 x2 ht h
  obtain ⟨r, m1, m2, h1, h24, h2, h3⟩ := mt_op (mj_op2_mono (show 700 * t ≤ 700 * (t + 1) by omega) (mj_op2_of (fun n => mj_feast (B := 700 * t) (n := n) (x1 := x1) (x2 := x2)))) (by omega) h
  exact ⟨r, m1, m2, h1, h2, h3⟩
theorem mg_breach : ag_breach mi_Inv := by
  intro t m x1 x2 ht h
  obtain ⟨r, m1, m2, h1, h24, h2, h3⟩ := mt_op (mj_op2_mono (show 700 * t + 3 ≤ 700 * (t + 1) by omega) (mj_op2_of (fun n => mj_breach (B := 700 * t) (n := n) (x1 := x1) (x2 := x2) (by omega)))) (by omega) h
  exact ⟨r, m1, m2, h1, h2, h3⟩
theorem mg_pardon : ag_pardon mi_Inv := by
  intro t m x1 ht h
  obtain ⟨r, m1, m2, h1, h24, h2, h3⟩ := mt_op (mj_op2_mono (show 700 * t ≤ 700 * (t + 1) by omega) (mj_op2_of (fun n => mj_pardon (B := 700 * t) (n := n) (x1 := x1) (by omega)))) (by omega) h
  exact ⟨r, m1, m2, h1, h2, h3⟩
theorem mt_refNo {c : Int32} {m : fm_M} (hc : c ≠ -14) : (f_X7_refuses c m).bind (fun v8 => some (v8.1, v8.2)) = some (c, m) := by
  unfold f_X7_refuses
  rw [if_neg hc, Option.bind_some]
theorem mt_gift_eq {x : Int32} {m : fm_M} : f_X7_gift x m = mt_ref (mj_noG x) (f_X7_puts x) m := by
  unfold f_X7_gift mt_ref mj_noG
  rw [kb_between, Option.bind_some, Option.bind_some]
  cases (decide (¬ x < 1) && decide (¬ (500 : Int32) < x)) with
  | true => simp only [if_true, Option.bind_some]
  | false => exact (mt_refNo (by decide)).symm
theorem mt_weeks_eq {x : Int32} {m : fm_M} : f_X7_weeks x m = mt_ref (mj_noW x) (f_X7_weeksGo x) m := by
  unfold f_X7_weeks mt_ref mj_noW
  rw [kb_between, Option.bind_some, Option.bind_some]
  cases (decide (¬ x < 1) && decide (¬ (60 : Int32) < x)) with
  | true => simp only [if_true, Option.bind_some]
  | false => exact (mt_refNo (by decide)).symm
theorem mt_come_eq {x y : Int32} {m : fm_M} : f_X7_come x y m = mt_ref (mj_noC x) (mj_ddC x y) m := by
  unfold f_X7_come mt_ref mj_noC
  rw [kb_between, Option.bind_some, Option.bind_some]
  have i2 : fm_in (2 : Int32) 320 = true := by decide
  cases (decide (¬ x < 50) && decide (¬ (90 : Int32) < x)) with
  | true =>
    simp only [if_true, i2]
    by_cases h : m 24 (2 : Int32).toNatClampNeg = 16
    · rw [if_pos h, if_pos h]
      rfl
    · rw [if_neg h, if_neg h, Option.bind_some]
      simp only [ma_eta, if_true]
      unfold mj_ddC
      simp only [if_true, i2]
  | false => exact (mt_refNo (by decide)).symm
theorem mt_withdraw_eq {x : Int32} {m : fm_M} {n : Nat} (hn16 : n ≤ 16) (hn : ma_w (m 24) 16 0 = ma_i n) : f_X7_withdraw x m = mt_ref (mj_noD x) (mj_ddD x) m := by
  unfold f_X7_withdraw mt_ref mj_noD
  rw [kb_isBrother hn16 hn, Option.bind_some, Option.bind_some]
  cases hb : ma_br n x with
  | true =>
    obtain ⟨b, hb2, rfl⟩ := ma_br_of hn16 hb
    simp only [if_true, kb_isSo (show b < 16 by omega), Option.bind_some]
    cases decide (ma_w (m 24) 2 b = 0) with
    | true =>
      simp only [if_true, Option.bind_some, ma_eta]
      rfl
    | false =>
      simp only [Bool.false_eq_true, if_false, kb_of2 (show b < 16 by omega), Option.bind_some]
      rfl
  | false => exact (mt_refNo (by decide)).symm
theorem mg_gift : ag_gift mi_Inv := by
  intro t m x1 ht h
  obtain ⟨r, m1, m2, h1, h24, h2, h3⟩ := mt_op (mj_op2_mono (show 700 * t ≤ 700 * (t + 1) by omega) (mj_op2_of (fun n => mj_gift (B := 700 * t) (n := n) (x := x1)))) (by omega) h
  exact ⟨r, m1, m2, h1, mt_gift_eq.trans h2, h3⟩
theorem mg_weeks : ag_weeks mi_Inv := by
  intro t m x1 ht h
  obtain ⟨r, m1, m2, h1, h24, h2, h3⟩ := mt_op (mj_op2_mono (show 700 * t + 60 ≤ 700 * (t + 1) by omega) (mj_op2_of (fun n => mj_weeks (B := 700 * t) (n := n) (x := x1) (by omega)))) (by omega) h
  exact ⟨r, m1, m2, h1, mt_weeks_eq.trans h2, h3⟩
theorem mg_come : ag_come mi_Inv := by
  intro t m x1 x2 ht h _
  obtain ⟨r, m1, m2, h1, h24, h2, h3⟩ := mt_op (mj_op2_mono (show 700 * t + 1 ≤ 700 * (t + 1) by omega) (mj_come (B := 700 * t) (x1 := x1) (x2 := x2) (by omega))) (by omega) h
  exact ⟨r, m1, m2, h1, mt_come_eq.trans h2, h3⟩
theorem mg_withdraw : ag_withdraw mi_Inv := by
  intro t m x1 ht h
  obtain ⟨n, hr⟩ := h.1
  obtain ⟨r, m1, m2, h1, h24, h2, h3⟩ := mt_op (mj_op2_mono (show 700 * t ≤ 700 * (t + 1) by omega) (mj_op2_of (fun n => mj_withdraw (B := 700 * t) (n := n) (x := x1)))) (by omega) h
  exact ⟨r, m1, m2, h1, (mt_withdraw_eq (n := n) (mr_n hr) (by rw [h24]; exact hr.2.2.1)).trans h2, h3⟩

/-! THE LAW'S MATHEMATICS: a call that changes, or does not -/
def lz_iv (B n : Nat) (s : ma_S) : Prop := (∃ g : Nat → Int32, mr_rel B n s (ma_w g)) ∧ my_m B s
def lz_h (m : fm_M) (nx h : Nat) : Prop := nx < 8 ∧ h ≤ 8 ∧ m 12 1 = ma_i nx ∧ m 12 2 = ma_i h
def lz_k (m m1 : fm_M) : Prop := m1 2 = m 2 ∧ m1 12 = m 12 ∧ m1 13 = m 13
def lz_p (m m1 : fm_M) : Prop := ∃ nx h, lz_h m nx h ∧ lz_h m1 ((nx + 1) % 8) ((if h = 8 then 7 else h) + 1) ∧ m1 13 = va_cpy (m 2) (m 13) 0 (294 * nx) 294
def lz_f (m m1 : fm_M) : Prop := m1 4 = m 4 ∧ m1 0 9 = m 0 9
def lz_s (B n : Nat) (m : fm_M) (r : Int32) (m1 : fm_M) : Prop := lz_f m m1 ∧ ((r < 0 ∧ lz_k m m1) ∨ (¬ r < 0 ∧ lz_p m m1 ∧ ∃ n2, n ≤ n2 ∧ lz_iv (B + 6000) n2 (ma_c (m1 2))))
theorem lz_set {B n n2 nx h : Nat} {m m1 : fm_M} {a : Int32} {g : Nat → Int32} (hh : lz_h m nx h) (e0 : m1 0 = m 0) (e2 : m1 2 = m 2) (e4 : m1 4 = m 4) (e12 : m1 12 = m 12) (e13 : m1 13 = m 13) (hc : a < 0 ∨ (¬ a < 0 ∧ n ≤ n2 ∧ mr_rel (B + 6000) n2 (ma_c (m1 7)) (ma_w g) ∧ my_m (B + 6000) (ma_c (m1 7)))) : ∃ mF, f_X6_settle a m1 = some (a, mF) ∧ (∀ k, k ≠ 0 → k ≠ 2 → k ≠ 12 → k ≠ 13 → mF k = m1 k) ∧ lz_s B n m a mF := by
  obtain ⟨h1, h2, h3, h4⟩ := hh
  rcases hc with ha | ⟨ha, hle, hr, hm⟩
  · by_cases h14 : a = -14
    · subst h14
      refine ⟨_, mt_setR, fun k k0 _ _ _ => ka_un _ k0 _, ⟨?_, ?_⟩, Or.inl ⟨ha, ?_, ?_, ?_⟩⟩
      · rw [ka_un _ (by decide)]; exact e4
      · rw [ka_up]; unfold upd; rw [if_neg (by decide), if_neg (by decide), e0]
      · rw [ka_un _ (by decide)]; exact e2
      · rw [ka_un _ (by decide)]; exact e12
      · rw [ka_un _ (by decide)]; exact e13
    · refine ⟨m1, ?_, fun _ _ _ _ _ => rfl, ⟨e4, by rw [e0]⟩, Or.inl ⟨ha, e2, e12, e13⟩⟩
      unfold f_X6_settle
      rw [if_pos ha, if_neg h14]
  · obtain ⟨mF, s1, s2, s3, s4, s5⟩ := mt_setO (m1 := m1) ha h1 h2 (by rw [e12]; exact h3) (by rw [e12]; exact h4)
    refine ⟨mF, s1, fun k _ k2 k12 k13 => s2 k k2 k12 k13, ⟨?_, ?_⟩, Or.inr ⟨ha, ⟨nx, h, ⟨h1, h2, h3, h4⟩, ⟨?_, ?_, ?_, ?_⟩, ?_⟩, n2, hle, ⟨g, ?_⟩, ?_⟩⟩
    · rw [s2 4 (by decide) (by decide) (by decide)]; exact e4
    · rw [s2 0 (by decide) (by decide) (by decide), e0]
    · exact Nat.mod_lt _ (by decide)
    · split <;> omega
    · rw [s4]; unfold upd; rw [if_neg (by decide), if_pos rfl]
    · rw [s4]; unfold upd; rw [if_pos rfl]
    · rw [s5, e2, e13]
    · rw [s3]; exact hr
    · rw [s3]; exact hm
theorem lz_cls {B B2 n nx h : Nat} {f no dd : fm_M → Option (Int32 × fm_M)} (hop : mj_op2 B B2 f no dd) (hB : B2 ≤ B + 6000) {m : fm_M} (hv : lz_iv B n (ma_c (m 2))) (hh : lz_h m nx h) : ∃ r m1, mt_cls f m = some (r, m1) ∧ (∀ k, k ≠ 0 → k ≠ 2 → k ≠ 5 → k ≠ 7 → k ≠ 9 → k ≠ 12 → k ≠ 13 → m1 k = m k) ∧ lz_s B n m r m1 := by
  obtain ⟨⟨g, hr⟩, hm⟩ := hv
  unfold mt_cls
  rw [mt_onTrial, Option.bind_some]
  have e7 : ma_c ((fm_up m 7 (va_cpy (m 2) (m 7) 0 0 294)) 7) = ma_c (m 2) := by rw [ka_up, mt_cpc]
  have ef : ∀ k, k ≠ 7 → (fm_up m 7 (va_cpy (m 2) (m 7) 0 0 294)) k = m k := fun k hk => ka_un m hk _
  generalize fm_up m 7 (va_cpy (m 2) (m 7) 0 0 294) = m0 at e7 ef
  obtain ⟨n2, hle, a, m1, hf, hfr, hcase⟩ := hop n m0 (fm_up m0 24 g) (by rw [e7, ka_up]; exact hr)
  rw [hf, Option.bind_some]
  have e1 : ∀ k, k ≠ 5 → k ≠ 7 → k ≠ 9 → m1 k = m k := fun k h5 h7 h9 => (hfr k h5 h7 h9).trans (ef k h7)
  have hset : ∃ g2, a < 0 ∨ (¬ a < 0 ∧ n ≤ n2 ∧ mr_rel (B + 6000) n2 (ma_c (m1 7)) (ma_w g2) ∧ my_m (B + 6000) (ma_c (m1 7))) := by
    rcases hcase with ⟨ha, _⟩ | ⟨ha, _, g2, _, hr2, hm2⟩
    · exact ⟨g, Or.inl ha⟩
    · exact ⟨g2, Or.inr ⟨ha, hle, mr_mono hr2 hB, my_mono (by omega) (hm2 B (by rw [e7]; exact hm))⟩⟩
  obtain ⟨g2, hset⟩ := hset
  obtain ⟨mF, s1, s2, s3⟩ := lz_set (B := B) (n := n) (n2 := n2) hh (e1 0 (by decide) (by decide) (by decide)) (e1 2 (by decide) (by decide) (by decide)) (e1 4 (by decide) (by decide) (by decide)) (e1 12 (by decide) (by decide) (by decide)) (e1 13 (by decide) (by decide) (by decide)) hset
  refine ⟨a, mF, ?_, fun k k0 k2 k5 k7 k9 k12 k13 => (s2 k k0 k2 k12 k13).trans (e1 k k5 k7 k9), s3⟩
  dsimp only
  rw [s1]
  rfl
/-- a call of the law that changes, or does not: the text stays -/
def lz_c (B n : Nat) (m : fm_M) (F : Option (Int64 × fm_M)) : Prop := ∃ r m1, F = some (r.toInt64, m1) ∧ m1 18 = m 18 ∧ m1 19 = m 19 ∧ lz_s B n m r m1
theorem lz_L {B B2 n nx h : Nat} {f no dd : fm_M → Option (Int32 × fm_M)} (hop : mj_op2 B B2 f no dd) (hB : B2 ≤ B + 6000) {m : fm_M} (hv : lz_iv B n (ma_c (m 2))) (hh : lz_h m nx h) {F : Option (Int64 × fm_M)} (e : F = (mt_cls f m).bind fun v => some (v.1.toInt64, v.2)) : lz_c B n m F := by
  obtain ⟨r, m1, h1, h2, h3⟩ := lz_cls hop hB hv hh
  refine ⟨r, m1, ?_, h2 18 (by decide) (by decide) (by decide) (by decide) (by decide) (by decide) (by decide), h2 19 (by decide) (by decide) (by decide) (by decide) (by decide) (by decide) (by decide), h3⟩
  rw [e, h1]
  rfl
theorem lz_come {B n nx h : Nat} {m : fm_M} (x1 x2 : Int32) (hB : B + 60 < 1000000) (hv : lz_iv B n (ma_c (m 2))) (hh : lz_h m nx h) : lz_c B n m (f_L_come x1 x2 m) := lz_L (mj_come (by omega)) (by omega) hv hh rfl
theorem lz_withdraw {B n nx h : Nat} {m : fm_M} (x1 : Int32) (hv : lz_iv B n (ma_c (m 2))) (hh : lz_h m nx h) : lz_c B n m (f_L_withdraw x1 m) := lz_L (mj_op2_of (fun _ => mj_withdraw)) (by omega) hv hh rfl
theorem lz_voice {B n nx h : Nat} {m : fm_M} (x1 x2 : Int32) (hv : lz_iv B n (ma_c (m 2))) (hh : lz_h m nx h) : lz_c B n m (f_L_voice x1 x2 m) := lz_L (mj_op2_of (fun _ => mj_voice)) (by omega) hv hh rfl
theorem lz_choose {B n nx h : Nat} {m : fm_M} (x1 : Int32) (hB : B + 60 < 1000000) (hv : lz_iv B n (ma_c (m 2))) (hh : lz_h m nx h) : lz_c B n m (f_L_choose x1 m) := lz_L (mj_op2_of (fun _ => mj_choose (by omega))) (by omega) hv hh rfl
theorem lz_leave {B n nx h : Nat} {m : fm_M} (x1 : Int32) (hv : lz_iv B n (ma_c (m 2))) (hh : lz_h m nx h) : lz_c B n m (f_L_leave x1 m) := lz_L (mj_op2_of (fun _ => mj_leave)) (by omega) hv hh rfl
theorem lz_feast {B n nx h : Nat} {m : fm_M} (x1 x2 : Int32) (hv : lz_iv B n (ma_c (m 2))) (hh : lz_h m nx h) : lz_c B n m (f_L_feast x1 x2 m) := lz_L (mj_op2_of (fun _ => mj_feast)) (by omega) hv hh rfl
theorem lz_breach {B n nx h : Nat} {m : fm_M} (x1 x2 : Int32) (hB : B + 60 < 1000000) (hv : lz_iv B n (ma_c (m 2))) (hh : lz_h m nx h) : lz_c B n m (f_L_breach x1 x2 m) := lz_L (mj_op2_of (fun _ => mj_breach (by omega))) (by omega) hv hh rfl
theorem lz_pardon {B n nx h : Nat} {m : fm_M} (x1 : Int32) (hB : B + 60 < 1000000) (hv : lz_iv B n (ma_c (m 2))) (hh : lz_h m nx h) : lz_c B n m (f_L_pardon x1 m) := lz_L (mj_op2_of (fun _ => mj_pardon (by omega))) (by omega) hv hh rfl
theorem lz_gift {B n nx h : Nat} {m : fm_M} (x1 : Int32) (hv : lz_iv B n (ma_c (m 2))) (hh : lz_h m nx h) : lz_c B n m (f_L_gift x1 m) := lz_L (mj_op2_of (fun _ => mj_gift)) (by omega) hv hh rfl
theorem lz_weeks {B n nx h : Nat} {m : fm_M} (x1 : Int32) (hB : B + 60 < 1000000) (hv : lz_iv B n (ma_c (m 2))) (hh : lz_h m nx h) : lz_c B n m (f_L_weeks x1 m) := lz_L (mj_op2_of (fun _ => mj_weeks hB)) (by omega) hv hh rfl
/-! undo, the snapshot -/
theorem lz_undo0 {m : fm_M} {nx : Nat} (hh : lz_h m nx 0) : f_X6_undo m = some (-15, m) := by
  unfold f_X6_undo f_X1_giveBack
  rw [if_pos (by rw [hh.2.2.2]; rfl), Option.bind_some]
  rfl
theorem lz_undo1 {m : fm_M} {nx hh : Nat} (hl : lz_h m nx hh) (hz : hh ≠ 0) : ∃ mF, f_X6_undo m = some (ma_i (hh - 1), mF) ∧ (∀ k, k ≠ 2 → k ≠ 12 → mF k = m k) ∧ lz_h mF ((nx + 7) % 8) (hh - 1) ∧ ma_c (mF 2) = ma_c (fun j => m 13 (294 * ((nx + 7) % 8) + j)) := by
  obtain ⟨nx8, h8, a1, a2⟩ := hl
  unfold f_X6_undo f_X1_giveBack
  have nz : ¬ ma_i hh = 0 := fun e => hz ((ma_inj (b := 0) (by omega) (by decide)).mp e)
  have s1 : ma_i hh - (1 : Int32) = ma_i (hh - 1) := ma_sub (b := 1) (by omega)
  have s2 : ma_i nx + (8 : Int32) - (1 : Int32) = ma_i (nx + 7) := by
    have e1 : ma_i nx + (8 : Int32) = ma_i (nx + 8) := ma_add nx 8
    rw [e1]
    exact ma_sub (b := 1) (by omega)
  have r1 : ma_i (nx + 7) - ma_i (nx + 7) / (8 : Int32) * (8 : Int32) = ma_i ((nx + 7) % 8) := ma_rem (a := nx + 7) (k := 8) (by omega) (by decide)
  rw [if_neg (by rw [a2]; exact nz)]
  simp only [ma_put, ka_up, ma_pp, a2, s1]
  have u1 : upd (m 12) 2 (ma_i (hh - 1)) 1 = ma_i nx := by unfold upd; rw [if_neg (by decide)]; exact a1
  rw [u1, s2, r1]
  have u2 : upd (upd (m 12) 2 (ma_i (hh - 1))) 1 (ma_i ((nx + 7) % 8)) 1 = ma_i ((nx + 7) % 8) := by unfold upd; rw [if_pos rfl]
  rw [u2, mt_copyBack (by omega), Option.bind_some, Option.bind_some, if_pos rfl]
  unfold f_X1_size
  rw [Option.bind_some]
  generalize hF : fm_up (fm_up m 12 (upd (upd (m 12) 2 (ma_i (hh - 1))) 1 (ma_i ((nx + 7) % 8)))) 2 (va_cpy ((fm_up m 12 (upd (upd (m 12) 2 (ma_i (hh - 1))) 1 (ma_i ((nx + 7) % 8)))) 13) ((fm_up m 12 (upd (upd (m 12) 2 (ma_i (hh - 1))) 1 (ma_i ((nx + 7) % 8)))) 2) (294 * ((nx + 7) % 8)) 0 294) = mF
  have fo : ∀ k, k ≠ 2 → k ≠ 12 → mF k = m k := fun k k2 k12 => by rw [← hF, ka_un _ k2, ka_un _ k12]
  have f12 : mF 12 = upd (upd (m 12) 2 (ma_i (hh - 1))) 1 (ma_i ((nx + 7) % 8)) := by rw [← hF, ka_un _ (by decide), ka_up]
  have f2 : ma_c (mF 2) = ma_c (fun j => m 13 (294 * ((nx + 7) % 8) + j)) := by
    rw [← hF, ka_up, ka_un _ (by decide)]
    refine ma_c_eq (fun j hj => ?_)
    unfold va_cpy
    rw [if_pos (by omega)]
    congr 1
  have f122 : mF 12 2 = ma_i (hh - 1) := by rw [f12]; unfold upd; rw [if_neg (by decide), if_pos rfl]
  have f121 : mF 12 1 = ma_i ((nx + 7) % 8) := by rw [f12]; unfold upd; rw [if_pos rfl]
  refine ⟨mF, ?_, fo, ⟨Nat.mod_lt _ (by decide), by omega, f121, f122⟩, f2⟩
  show some (mF 12 2, mF) = _
  rw [f122]
/-- what is undone is as it was -/
theorem lz_undo {m m1 : fm_M} (hp : lz_p m m1) : ∃ nx h mF, lz_h m nx h ∧ f_X6_undo m1 = some (ma_i (min h 7), mF) ∧ (∀ k, k ≠ 2 → k ≠ 12 → mF k = m1 k) ∧ lz_h mF nx (min h 7) ∧ ma_c (mF 2) = ma_c (m 2) := by
  obtain ⟨nx, h, h0, h1, h13⟩ := hp
  obtain ⟨mF, s1, s2, s3, s4⟩ := lz_undo1 h1 (by omega)
  have hx := h0.1
  have h8 := h0.2.1
  have e1 : ((nx + 1) % 8 + 7) % 8 = nx := by omega
  have e2 : (if h = 8 then 7 else h) + 1 - 1 = min h 7 := by split <;> omega
  rw [e1] at s3 s4
  rw [e2] at s1 s3
  refine ⟨nx, h, mF, h0, s1, s2, s3, s4.trans (ma_c_eq (fun j hj => ?_))⟩
  show m1 13 (294 * nx + j) = m 2 j
  rw [h13]
  unfold va_cpy
  rw [if_pos (by omega)]
  congr 1
  omega
theorem lz_save {m : fm_M} : ∃ mF, f_X6_save m = some (ma_c (m 2) 16 0, mF) ∧ (∀ k, k ≠ 0 → k ≠ 4 → mF k = m k) ∧ ma_c (mF 4) = ma_c (m 2) ∧ mF 0 9 = 1 := by
  unfold f_X6_save
  rw [mt_copyFrom, Option.bind_some, ka_g0, Option.bind_some]
  generalize hF : fm_put (fm_up m 4 (va_cpy (m 2) (m 4) 0 0 294)) 0 9 (1 : Int32) = mF
  have fo : ∀ k, k ≠ 0 → k ≠ 4 → mF k = m k := fun k k0 k4 => by rw [← hF, ma_put, ka_un _ k0, ka_un _ k4]
  refine ⟨mF, by rw [fo 2 (by decide) (by decide)], fo, ?_, ?_⟩
  · rw [← hF, ma_put, ka_un _ (by decide), ka_up, mt_cpc]
  · rw [← hF, ma_put, ka_up]; unfold upd; rw [if_pos rfl]
theorem lz_restore {m : fm_M} {nx h : Nat} (hh : lz_h m nx h) (h9 : m 0 9 = 1) : ∃ mF, f_X6_restore m = some (ma_c (m 4) 16 0, mF) ∧ (∀ k, k ≠ 2 → k ≠ 12 → mF k = m k) ∧ ma_c (mF 2) = ma_c (m 4) ∧ lz_h mF nx 0 := by
  unfold f_X6_restore
  rw [if_neg (by rw [h9]; decide), mt_copyFrom, Option.bind_some]
  unfold f_X1_forget
  rw [Option.bind_some, ka_g0, Option.bind_some]
  generalize hF : fm_put (fm_up m 2 (va_cpy (m 4) (m 2) 0 0 294)) 12 2 (0 : Int32) = mF
  have fo : ∀ k, k ≠ 2 → k ≠ 12 → mF k = m k := fun k k2 k12 => by rw [← hF, ma_put, ka_un _ k12, ka_un _ k2]
  have f2 : ma_c (mF 2) = ma_c (m 4) := by rw [← hF, ma_put, ka_un _ (by decide), ka_up, mt_cpc]
  have f12 : mF 12 = upd (m 12) 2 0 := by rw [← hF, ma_put, ka_up, ka_un _ (by decide)]
  refine ⟨mF, by rw [f2], fo, f2, hh.1, by omega, ?_, ?_⟩
  · rw [f12]; unfold upd; rw [if_neg (by decide)]; exact hh.2.2.1
  · rw [f12]; unfold upd; rw [if_pos rfl]; rfl

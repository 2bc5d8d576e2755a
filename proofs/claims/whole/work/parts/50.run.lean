/-! run -/
theorem mi_clr {B : Nat} {m m2 : fm_M} (h : mi_i B m) (e : ∀ k, (k = 0 ∨ k = 2 ∨ k = 4 ∨ k = 12 ∨ k = 13 ∨ k = 20 ∨ k = 21 ∨ k = 25 ∨ k = 26 ∨ k = 31) → m2 k = m k) (e24 : ma_w (m2 24) = ma_w (m 24)) (e23 : ∀ j, (j = 0 ∨ j = 1 ∨ j = 8 ∨ j = 9 ∨ j = 10 ∨ j = 19) → m2 23 j = m 23 j) (t1 : m2 18 1 = ma_i 0) (t2 : m2 23 13 = ma_i 0) : mi_i B m2 := by
  obtain ⟨⟨n, h1⟩, h2, h3, ⟨nx, hh, fi, a1, a2, a3, a4, a5⟩, _, ⟨K, k1, k2, k3, k4⟩⟩ := h
  refine ⟨⟨n, ?_⟩, ?_, ?_, ⟨nx, hh, fi, ?_, ?_, ?_, ?_, ?_⟩, ⟨0, by decide, t1, t2, fun i hi => by omega⟩, ⟨K, k1, ?_, ?_, ?_⟩⟩
  · rw [e 2 (by omega), e24]; exact h1
  · unfold mi_save at h2 ⊢
    rw [e 0 (by omega), e23 10 (by omega), e 4 (by omega), e 26 (by omega)]; exact h2
  · rw [e 0 (by omega), e23 0 (by omega), e23 1 (by omega)]; exact h3
  · rw [e 12 (by omega)]; exact a1
  · rw [e 12 (by omega)]; exact a2
  · rw [e23 8 (by omega)]; exact a3
  · rw [e23 9 (by omega)]; exact a4
  · rw [e 13 (by omega), e 25 (by omega)]; exact a5
  · rw [e 20 (by omega)]; exact k2
  · rw [e23 19 (by omega)]; exact k3
  · rw [e 21 (by omega), e 31 (by omega)]; exact k4
theorem px_all_le {C : Nat → Nat} {L : Nat} {r : Nat → Int32} (h : px_t C L r) : ∀ (d p q : Nat), p ≤ L → (px_all C L d p).2 = some q → q ≤ L := by
  intro d
  induction d with
  | zero => intro p q hp hq; rw [← Option.some.inj hq]; exact hp
  | succ d ih =>
    intro p q hp hq
    obtain ⟨l1, l2⟩ := px_ord_le h hp
    unfold px_all at hq
    split at hq
    · rw [← Option.some.inj hq]; exact l1
    · split at hq
      · cases hq
      · split at hq
        · exact ih _ q (by omega) hq
        · rw [← Option.some.inj hq]; exact l1
theorem mt_setR {m1 : fm_M} : f_X6_settle (-14 : Int32) m1 = some (-14, fm_up m1 0 (upd (upd (m1 0) 10 (m1 5 2)) 11 (m1 5 3))) := by
  unfold f_X6_settle
  rw [if_pos (by decide), if_pos rfl]
  simp only [f_X0_refusedFor, f_X0_refusedDetail, Option.bind_some, ma_put, ka_up, ma_pp, ka_un _ (show (5 : Nat) ≠ 0 by decide)]
theorem mt_setO {a : Int32} {m1 : fm_M} {nx hh : Nat} (ha : ¬ a < 0) (hx : nx < 8) (h8 : hh ≤ 8) (e1 : m1 12 1 = ma_i nx) (e2 : m1 12 2 = ma_i hh) : ∃ mF, f_X6_settle a m1 = some (a, mF) ∧ (∀ k, k ≠ 2 → k ≠ 12 → k ≠ 13 → mF k = m1 k) ∧ ma_c (mF 2) = ma_c (m1 7) ∧ mF 12 = upd (upd (m1 12) 1 (ma_i ((nx + 1) % 8))) 2 (ma_i ((if hh = 8 then 7 else hh) + 1)) ∧ mF 13 = va_cpy (m1 2) (m1 13) 0 (294 * nx) 294 := by
  unfold f_X6_settle
  rw [if_neg ha, mt_keep hx h8 e1 e2, Option.bind_some]
  unfold f_X0_result
  rw [Option.bind_some, mt_copyFrom, Option.bind_some]
  refine ⟨_, rfl, fun k k2 k12 k13 => ?_, ?_, ?_, ?_⟩
  · rw [ka_un _ k2, ka_un _ k12, ka_un _ k13]
  · rw [ka_up, mt_cpc, ka_un _ (by decide), ka_un _ (by decide)]
  · rw [ka_un _ (by decide), ka_up]
  · rw [ka_un _ (by decide), ka_un _ (by decide), ka_up]
set_option maxHeartbeats 4000000 in
theorem mg_run : ag_run mi_Inv := by
  intro t m ht h
  have h0 := h
  obtain ⟨⟨n, hr⟩, hsv, hrs, ⟨nx, hh, fi, a1, a2, a3, a4, a5⟩, ⟨L, hL, l1, l2, l3⟩, hln⟩ := h
  have a5' := a5
  obtain ⟨h8, nx8, fi8, hall⟩ := a5
  -- the text
  obtain ⟨C, hC1, hC2⟩ : ∃ C : Nat → Nat, (∀ i, i < L → m 19 i = ma_i (C i) ∧ 32 ≤ C i ∧ C i ≤ 126) ∧ ∀ i, L ≤ i → C i = 0 := by
    refine ⟨fun i => if i < L then (m 19 i).toNatClampNeg else 0, fun i hi => ?_, fun i hi => if_neg (by omega)⟩
    obtain ⟨_, c, c1, c2, c3⟩ := l3 i hi
    have e : (if i < L then (m 19 i).toNatClampNeg else 0) = c := by rw [if_pos hi, c3, ma_cn (by omega)]
    show m 19 i = ma_i (if i < L then (m 19 i).toNatClampNeg else 0) ∧ 32 ≤ (if i < L then (m 19 i).toNatClampNeg else 0) ∧ (if i < L then (m 19 i).toNatClampNeg else 0) ≤ 126
    rw [e]
    exact ⟨c3, c1, c2⟩
  have hpc : px_t C L (m 19) := ⟨hL, hC1, hC2⟩
  have hpr : px_t C L (m 29) := ⟨hL, fun i hi => by rw [← (l3 i hi).1]; exact hC1 i hi, hC2⟩
  -- the class reads
  have hmr : pc_t C L (fm_put (fm_put m 14 3 (0 : Int32)) 14 4 (0 : Int32)) := pc_t_put (pc_t_put ⟨l1, hpc⟩ (by decide) (by decide)) (by decide) (by decide)
  obtain ⟨m2, r1, r2, r3, _, r5⟩ := pc_read (C := C) (L := L) 10 0 0 fm_F (fm_put (fm_put m 14 3 (0 : Int32)) 14 4 (0 : Int32)) (by decide) (by decide) (Nat.zero_le _) hmr (ma_putg _ _ _ _) (by rw [ma_put, ka_up]; unfold upd; rw [if_neg (by decide)]; exact ma_putg _ _ _ _)
  have r1 : f_X2_read 18 19 60 m = some (px_fl (px_all C L 10 0).2, m2) := r1
  unfold f_X6_run
  rw [r1, Option.bind_some]
  unfold f_X4_clear
  rw [Option.bind_some]
  dsimp only
  have co : ∀ k, k ≠ 14 → k ≠ 15 → k ≠ 16 → k ≠ 17 → k ≠ 18 → (fm_put m2 18 1 (0 : Int32)) k = m k := fun k k14 k15 k16 k17 k18 => by rw [ma_putn _ k18, r2 k k14 k15 k16 k17, ma_putn _ k14, ma_putn _ k14]
  have c18 : (fm_put m2 18 1 (0 : Int32)) 18 1 = ma_i 0 := ma_putg _ _ _ _
  have crow : pq_rows (fm_put m2 18 1 (0 : Int32)) 0 (px_all C L 10 0).1 := by
    refine ⟨by rw [ma_putn _ (by decide)]; exact r3, fun j o hj => ?_⟩
    rw [ma_putn _ (by decide), ma_putn _ (by decide), ma_putn _ (by decide)]
    exact r5 j o hj
  generalize fm_put m2 18 1 (0 : Int32) = mC at co c18 crow
  -- the reference reads, from any memory that agrees
  have hread : ∀ mF : fm_M, mF 23 = m 23 → mF 29 = m 29 → ∃ m3, f_X7_readsAll mF = some (decide ((px_all C L 10 0).2 = none), m3) ∧ pr_fr mF m3 ∧ ∀ q, (px_all C L 10 0).2 = some q → m3 23 14 = ma_i q := by
    intro mF e23 e29
    have ht2 : pr_t C L (fm_put mF 23 14 (0 : Int32)) := pr_t_put ⟨by rw [e23]; exact l2, by rw [e29]; exact hpr⟩ (by decide)
    obtain ⟨m3, s1, s2, s3⟩ := pr_all1 (C := C) (L := L) 10 0 0 fm_F (fm_put mF 23 14 (0 : Int32)) (by decide) (by decide) (by decide) (Nat.zero_le _) ht2 (ma_putg _ _ _ _)
    exact ⟨m3, s1, pr_fr_tr (pr_fr_put mF _) s2, s3⟩
  cases hx : (px_all C L 10 0).2 with
  | some q =>
    have hq := px_all_le hpc 10 0 q (Nat.zero_le _) hx
    rw [if_neg (show ¬ px_fl (some q) < 0 from ma_nn (by omega))]
    obtain ⟨m3, s1, s2, s3⟩ := hread mC (co 23 (by decide) (by decide) (by decide) (by decide) (by decide)) (co 29 (by decide) (by decide) (by decide) (by decide) (by decide))
    have s3 := s3 q hx
    refine ⟨(-1000 : Int32) - ma_i q, mC, fm_put m3 23 13 0, rfl, ?_, ?_⟩
    · unfold f_X7_run
      rw [s1, Option.bind_some, hx]
      have e14 : (fm_put m3 23 13 (0 : Int32)) 23 14 = ma_i q := by rw [ma_put, ka_up]; unfold upd; rw [if_neg (by decide)]; exact s3
      dsimp only
      rw [if_neg (by simp), e14]
    · refine mi_nx (t := t) (mi_clr h0 (fun k hk => ?_) ?_ (fun j hj => ?_) ?_ ?_)
      · rw [ma_putn _ (by omega), s2.1 k (by omega) (by omega), co k (by omega) (by omega) (by omega) (by omega) (by omega)]
      · rw [ma_putn _ (by decide), s2.1 24 (by decide) (by decide), co 24 (by decide) (by decide) (by decide) (by decide) (by decide)]
      · rw [ma_put, ka_up]; unfold upd; rw [if_neg (by omega), s2.2 j (by omega) (by omega), co 23 (by decide) (by decide) (by decide) (by decide) (by decide)]
      · rw [ma_putn _ (by decide), s2.1 18 (by decide) (by decide)]; exact c18
      · exact ma_putg _ _ _ _
  | none =>
    rw [if_pos (show px_fl none < 0 by decide), mt_onTrial, Option.bind_some]
    have e7 : ma_c ((fm_up mC 7 (va_cpy (mC 2) (mC 7) 0 0 294)) 7) = ma_c (m 2) := by rw [ka_up, mt_cpc, co 2 (by decide) (by decide) (by decide) (by decide) (by decide)]
    have ef : ∀ k, k ≠ 7 → (fm_up mC 7 (va_cpy (mC 2) (mC 7) 0 0 294)) k = mC k := fun k hk => ka_un mC hk _
    generalize fm_up mC 7 (va_cpy (mC 2) (mC 7) 0 0 294) = m0 at e7 ef
    have zrow : pq_rows m0 0 (px_all C L 10 0).1 := by
      obtain ⟨z1, z2⟩ := crow
      refine ⟨by rw [ef 14 (by decide)]; exact z1, fun j o hj => ?_⟩
      rw [ef 15 (by decide), ef 16 (by decide), ef 17 (by decide)]
      exact z2 j o hj
    -- both carry out, from any memory of the reference that agrees
    have hboth : ∀ mT : fm_M, (∀ j, j ≠ 14 → j ≠ 16 → mT 23 j = m 23 j) → mT 24 = m 24 → mT 29 = m 29 → ∃ a m1 mm2 ok, pq_pre fm_F (0 : Int32) m0 = some (a, m1) ∧ mj_c m0 m1 ∧ f_X7_doesAll mT = some (ok, mm2) ∧ pr_f2 mT mm2 ∧ ((ok = true ∧ ¬ a < 0 ∧ mm2 23 17 = a ∧ ∃ n2, mr_rel (700 * t + 600) n2 (ma_c (m1 7)) (ma_w (mm2 24))) ∨ (ok = false ∧ a = -14 ∧ m1 5 2 = 11 ∧ m1 5 3 = mm2 23 17)) := by
      intro mT e23 e24 e29
      have ht2 : pr_t C L (fm_put (fm_put mT 23 17 (0 : Int32)) 23 14 (0 : Int32)) := pr_t_put (pr_t_put ⟨by rw [e23 13 (by decide) (by decide)]; exact l2, by rw [e29]; exact hpr⟩ (by decide)) (by decide)
      have g17 : (fm_put (fm_put mT 23 17 (0 : Int32)) 23 14 (0 : Int32)) 23 17 = ma_i 0 := by rw [ma_put, ka_up]; unfold upd; rw [if_neg (by decide)]; exact ma_putg _ _ _ _
      obtain ⟨a, m1, mm2, ok, s1, s2, s3, s4, s5⟩ := pr_run (C := C) (L := L) 10 0 0 fm_F fm_F (700 * t) n m0 (fm_put (fm_put mT 23 17 (0 : Int32)) 23 14 (0 : Int32)) (by decide) (by decide) (by decide) (by decide) (Nat.zero_le _) hx zrow ht2 (ma_putg _ _ _ _) g17 (by rw [e7, ma_putn _ (by decide), ma_putn _ (by decide), e24]; exact hr) (by omega)
      exact ⟨a, m1, mm2, ok, s1, s2, s3, pr_f2_tr (pr_f2_tr (pr_f2_17 mT _) (pr_f2_of (pr_fr_put _ _))) s4, s5⟩
    obtain ⟨a, m1, _, _, s1, s2, _, _, s5⟩ := hboth m (fun _ _ _ => rfl) rfl rfl
    rw [pq_pre_L, s1, Option.bind_some]
    dsimp only
    have e1 : ∀ k, k ≠ 5 → k ≠ 7 → k ≠ 9 → k ≠ 14 → k ≠ 15 → k ≠ 16 → k ≠ 17 → k ≠ 18 → m1 k = m k := fun k k5 k7 k9 k14 k15 k16 k17 k18 => ((s2 k k5 k7 k9).trans (ef k k7)).trans (co k k14 k15 k16 k17 k18)
    have m118 : m1 18 1 = ma_i 0 := by rw [s2 18 (by decide) (by decide) (by decide), ef 18 (by decide)]; exact c18
    by_cases ha : a < 0
    · -- refused
      have ha14 : a = -14 := by
        rcases s5 with ⟨_, b, _⟩ | ⟨_, b, _⟩
        · exact absurd ha b
        · exact b
      subst ha14
      rw [mt_setR, Option.bind_some]
      dsimp only
      have wf : ∀ k, k ≠ 0 → (fm_up m1 0 (upd (upd (m1 0) 10 (m1 5 2)) 11 (m1 5 3))) k = m1 k := fun k hk => ka_un _ hk _
      have w0 : (fm_up m1 0 (upd (upd (m1 0) 10 (m1 5 2)) 11 (m1 5 3))) 0 = upd (upd (m1 0) 10 (m1 5 2)) 11 (m1 5 3) := ka_up _ _ _
      generalize fm_up m1 0 (upd (upd (m1 0) 10 (m1 5 2)) 11 (m1 5 3)) = mF at wf w0
      have wm : ∀ k, k ≠ 0 → k ≠ 5 → k ≠ 7 → k ≠ 9 → k ≠ 14 → k ≠ 15 → k ≠ 16 → k ≠ 17 → k ≠ 18 → mF k = m k := fun k k0 k5 k7 k9 k14 k15 k16 k17 k18 => (wf k k0).trans (e1 k k5 k7 k9 k14 k15 k16 k17 k18)
      obtain ⟨m3, t1, t2, _⟩ := hread mF (wm 23 (by decide) (by decide) (by decide) (by decide) (by decide) (by decide) (by decide) (by decide) (by decide)) (wm 29 (by decide) (by decide) (by decide) (by decide) (by decide) (by decide) (by decide) (by decide) (by decide))
      rw [hx] at t1
      have g24 : m3 24 = m 24 := by rw [t2.1 24 (by decide) (by decide), wm 24 (by decide) (by decide) (by decide) (by decide) (by decide) (by decide) (by decide) (by decide) (by decide)]
      have hth : f_X7_thinks m3 = some (fm_up m3 27 (va_cpy (m3 24) (m3 27) 0 0 320)) := kb_thinks
      have v27 : ma_w ((fm_up m3 27 (va_cpy (m3 24) (m3 27) 0 0 320)) 27) = ma_w (m 24) := by rw [ka_up, mt_cpw, g24]
      have vo : ∀ k, k ≠ 27 → (fm_up m3 27 (va_cpy (m3 24) (m3 27) 0 0 320)) k = m3 k := fun k hk => ka_un _ hk _
      generalize fm_up m3 27 (va_cpy (m3 24) (m3 27) 0 0 320) = mT at hth v27 vo
      obtain ⟨a', m1', mm2, ok, u1, u2, u3, u4, u5⟩ := hboth mT (fun j j14 j16 => by rw [vo 23 (by decide), t2.2 j j14 j16, wm 23 (by decide) (by decide) (by decide) (by decide) (by decide) (by decide) (by decide) (by decide) (by decide)]) (by rw [vo 24 (by decide), g24]) (by rw [vo 29 (by decide), t2.1 29 (by decide) (by decide), wm 29 (by decide) (by decide) (by decide) (by decide) (by decide) (by decide) (by decide) (by decide) (by decide)])
      rw [s1] at u1
      obtain ⟨rfl, rfl⟩ := Prod.mk.inj (Option.some.inj u1)
      rcases u5 with ⟨_, b, _⟩ | ⟨hok, _, b1, b2⟩
      · exact absurd ha b
      subst hok
      have x27 : mm2 27 = mT 27 := u4.1 27 (by decide) (by decide) (by decide)
      have y24 : ma_w ((fm_up (fm_put mm2 23 13 (0 : Int32)) 24 (va_cpy ((fm_put mm2 23 13 (0 : Int32)) 27) ((fm_put mm2 23 13 (0 : Int32)) 24) 0 0 320)) 24) = ma_w (m 24) := by rw [ka_up, mt_cpw, ma_putn _ (by decide), x27, v27]
      have y23 : (fm_up (fm_put mm2 23 13 (0 : Int32)) 24 (va_cpy ((fm_put mm2 23 13 (0 : Int32)) 27) ((fm_put mm2 23 13 (0 : Int32)) 24) 0 0 320)) 23 = upd (mm2 23) 13 0 := by rw [ka_un _ (by decide), ma_put, ka_up]
      have yo : ∀ k, k ≠ 23 → k ≠ 24 → (fm_up (fm_put mm2 23 13 (0 : Int32)) 24 (va_cpy ((fm_put mm2 23 13 (0 : Int32)) 27) ((fm_put mm2 23 13 (0 : Int32)) 24) 0 0 320)) k = mm2 k := fun k k23 k24 => by rw [ka_un _ k24, ma_putn _ k23]
      have hfo : f_X7_forgets (fm_put mm2 23 13 (0 : Int32)) = some (fm_up (fm_put mm2 23 13 (0 : Int32)) 24 (va_cpy ((fm_put mm2 23 13 (0 : Int32)) 27) ((fm_put mm2 23 13 (0 : Int32)) 24) 0 0 320)) := kb_forgets
      generalize fm_up (fm_put mm2 23 13 (0 : Int32)) 24 (va_cpy ((fm_put mm2 23 13 (0 : Int32)) 27) ((fm_put mm2 23 13 (0 : Int32)) 24) 0 0 320) = mY at y24 y23 yo hfo
      refine ⟨-14, mF, fm_up mY 23 (upd (upd (upd (upd (mY 23) 2 11) 3 (mY 23 17)) 0 11) 1 (mY 23 17)), rfl, ?_, ?_⟩
      · unfold f_X7_run
        rw [t1, Option.bind_some]
        dsimp only
        rw [if_pos (by simp), hth, Option.bind_some, u3, Option.bind_some]
        dsimp only
        rw [if_neg (show ¬ (false = true) by decide), hfo, Option.bind_some]
        unfold f_X7_isNot f_X7_refuses
        rw [Option.bind_some]
        dsimp only
        rw [if_pos rfl, Option.bind_some]
        simp only [ma_put, ka_up, ma_pp]
        have q2 : upd (upd (mY 23) 2 11) 3 (mY 23 17) 2 = 11 := by unfold upd; rw [if_neg (by decide), if_pos rfl]
        have q3 : upd (upd (upd (mY 23) 2 11) 3 (mY 23 17)) 0 11 3 = mY 23 17 := by unfold upd; rw [if_neg (by decide), if_pos rfl]
        rw [q2, q3]
      · have z23 : ∀ j, j ≠ 0 → j ≠ 1 → j ≠ 2 → j ≠ 3 → j ≠ 13 → j ≠ 14 → j ≠ 16 → j ≠ 17 → (fm_up mY 23 (upd (upd (upd (upd (mY 23) 2 11) 3 (mY 23 17)) 0 11) 1 (mY 23 17))) 23 j = m 23 j := fun j j0 j1 j2 j3 j13 j14 j16 j17 => by
          rw [ka_up]; unfold upd; rw [if_neg j1, if_neg j0, if_neg j3, if_neg j2, y23]; unfold upd; rw [if_neg j13, u4.2 j j2 j3 j14 j16 j17, vo 23 (by decide), t2.2 j j14 j16, wm 23 (by decide) (by decide) (by decide) (by decide) (by decide) (by decide) (by decide) (by decide) (by decide)]
        have zo : ∀ k, k ≠ 0 → k ≠ 5 → k ≠ 7 → k ≠ 9 → k ≠ 14 → k ≠ 15 → k ≠ 16 → k ≠ 17 → k ≠ 18 → k ≠ 23 → k ≠ 24 → k ≠ 27 → k ≠ 30 → (fm_up mY 23 (upd (upd (upd (upd (mY 23) 2 11) 3 (mY 23 17)) 0 11) 1 (mY 23 17))) k = m k := fun k k0 k5 k7 k9 k14 k15 k16 k17 k18 k23 k24 k27 k30 => by
          rw [ka_un _ k23, yo k k23 k24, u4.1 k k23 k24 k30, vo k k27, t2.1 k k23 k30, wm k k0 k5 k7 k9 k14 k15 k16 k17 k18]
        have z0 : (fm_up mY 23 (upd (upd (upd (upd (mY 23) 2 11) 3 (mY 23 17)) 0 11) 1 (mY 23 17))) 0 = upd (upd (m1 0) 10 (m1 5 2)) 11 (m1 5 3) := by
          rw [ka_un _ (by decide), yo 0 (by decide) (by decide), u4.1 0 (by decide) (by decide) (by decide), vo 0 (by decide), t2.1 0 (by decide) (by decide), w0]
        have z18 : (fm_up mY 23 (upd (upd (upd (upd (mY 23) 2 11) 3 (mY 23 17)) 0 11) 1 (mY 23 17))) 18 1 = ma_i 0 := by
          rw [ka_un _ (by decide), yo 18 (by decide) (by decide), u4.1 18 (by decide) (by decide) (by decide), vo 18 (by decide), t2.1 18 (by decide) (by decide), wf 18 (by decide)]; exact m118
        have z24 : ma_w ((fm_up mY 23 (upd (upd (upd (upd (mY 23) 2 11) 3 (mY 23 17)) 0 11) 1 (mY 23 17))) 24) = ma_w (m 24) := by rw [ka_un _ (by decide)]; exact y24
        have zr0 : (fm_up mY 23 (upd (upd (upd (upd (mY 23) 2 11) 3 (mY 23 17)) 0 11) 1 (mY 23 17))) 23 0 = 11 ∧ (fm_up mY 23 (upd (upd (upd (upd (mY 23) 2 11) 3 (mY 23 17)) 0 11) 1 (mY 23 17))) 23 1 = mY 23 17 ∧ (fm_up mY 23 (upd (upd (upd (upd (mY 23) 2 11) 3 (mY 23 17)) 0 11) 1 (mY 23 17))) 23 13 = 0 := by
          rw [ka_up]; unfold upd
          refine ⟨by rw [if_neg (by decide), if_pos rfl], by rw [if_pos rfl], ?_⟩
          rw [if_neg (by decide), if_neg (by decide), if_neg (by decide), if_neg (by decide), y23]; unfold upd; rw [if_pos rfl]
        have y17 : mY 23 17 = mm2 23 17 := by rw [y23]; unfold upd; rw [if_neg (by decide)]
        generalize fm_up mY 23 (upd (upd (upd (upd (mY 23) 2 11) 3 (mY 23 17)) 0 11) 1 (mY 23 17)) = mZ at z23 zo z0 z18 z24 zr0
        have e10 : m1 0 = m 0 := e1 0 (by decide) (by decide) (by decide) (by decide) (by decide) (by decide) (by decide) (by decide)
        have z09 : mZ 0 9 = m 0 9 := by rw [z0]; unfold upd; rw [if_neg (by decide), if_neg (by decide), e10]
        have zs := fun k (c : k = 2 ∨ k = 4 ∨ k = 12 ∨ k = 13 ∨ k = 20 ∨ k = 21 ∨ k = 25 ∨ k = 26 ∨ k = 31) => zo k (by omega) (by omega) (by omega) (by omega) (by omega) (by omega) (by omega) (by omega) (by omega) (by omega) (by omega) (by omega) (by omega)
        have zt := fun j (c : j = 8 ∨ j = 9 ∨ j = 10 ∨ j = 19) => z23 j (by omega) (by omega) (by omega) (by omega) (by omega) (by omega) (by omega) (by omega)
        obtain ⟨K, k1, k2, k3, k4⟩ := hln
        refine mi_nx (t := t) ⟨⟨n, ?_⟩, ?_, ?_, ⟨nx, hh, fi, ?_, ?_, ?_, ?_, ?_⟩, ⟨0, by decide, z18, zr0.2.2, fun i hi => by omega⟩, ⟨K, k1, ?_, ?_, ?_⟩⟩
        · rw [zs 2 (by omega), z24]; exact hr
        · unfold mi_save at hsv ⊢
          rw [z09, zt 10 (by omega), zs 4 (by omega), zs 26 (by omega)]; exact hsv
        · rw [z0, zr0.1, zr0.2.1, y17]
          unfold upd
          rw [if_neg (by decide), if_pos rfl, if_pos rfl]
          exact ⟨b1, b2⟩
        · rw [zs 12 (by omega)]; exact a1
        · rw [zs 12 (by omega)]; exact a2
        · rw [zt 8 (by omega)]; exact a3
        · rw [zt 9 (by omega)]; exact a4
        · rw [zs 13 (by omega), zs 25 (by omega)]; exact a5'
        · rw [zs 20 (by omega)]; exact k2
        · rw [zt 19 (by omega)]; exact k3
        · rw [zs 21 (by omega), zs 31 (by omega)]; exact k4
    · -- carried out
      obtain ⟨mF, f1, f2, f3, f4, f5⟩ := mt_setO (m1 := m1) ha nx8 h8 (by rw [e1 12 (by decide) (by decide) (by decide) (by decide) (by decide) (by decide) (by decide) (by decide)]; exact a1) (by rw [e1 12 (by decide) (by decide) (by decide) (by decide) (by decide) (by decide) (by decide) (by decide)]; exact a2)
      rw [f1, Option.bind_some]
      dsimp only
      have wm : ∀ k, k ≠ 2 → k ≠ 5 → k ≠ 7 → k ≠ 9 → k ≠ 12 → k ≠ 13 → k ≠ 14 → k ≠ 15 → k ≠ 16 → k ≠ 17 → k ≠ 18 → mF k = m k := fun k k2 k5 k7 k9 k12 k13 k14 k15 k16 k17 k18 => (f2 k k2 k12 k13).trans (e1 k k5 k7 k9 k14 k15 k16 k17 k18)
      have w23 : mF 23 = m 23 := wm 23 (by decide) (by decide) (by decide) (by decide) (by decide) (by decide) (by decide) (by decide) (by decide) (by decide) (by decide)
      have w29 : mF 29 = m 29 := wm 29 (by decide) (by decide) (by decide) (by decide) (by decide) (by decide) (by decide) (by decide) (by decide) (by decide) (by decide)
      have w24 : mF 24 = m 24 := wm 24 (by decide) (by decide) (by decide) (by decide) (by decide) (by decide) (by decide) (by decide) (by decide) (by decide) (by decide)
      obtain ⟨m3, t1, t2, _⟩ := hread mF w23 w29
      rw [hx] at t1
      have g24 : m3 24 = m 24 := by rw [t2.1 24 (by decide) (by decide), w24]
      have hth : f_X7_thinks m3 = some (fm_up m3 27 (va_cpy (m3 24) (m3 27) 0 0 320)) := kb_thinks
      have v27 : ma_w ((fm_up m3 27 (va_cpy (m3 24) (m3 27) 0 0 320)) 27) = ma_w (m 24) := by rw [ka_up, mt_cpw, g24]
      have vo : ∀ k, k ≠ 27 → (fm_up m3 27 (va_cpy (m3 24) (m3 27) 0 0 320)) k = m3 k := fun k hk => ka_un _ hk _
      generalize fm_up m3 27 (va_cpy (m3 24) (m3 27) 0 0 320) = mT at hth v27 vo
      obtain ⟨a', m1', mm2, ok, u1, u2, u3, u4, u5⟩ := hboth mT (fun j j14 j16 => by rw [vo 23 (by decide), t2.2 j j14 j16, w23]) (by rw [vo 24 (by decide), g24]) (by rw [vo 29 (by decide), t2.1 29 (by decide) (by decide), w29])
      rw [s1] at u1
      obtain ⟨rfl, rfl⟩ := Prod.mk.inj (Option.some.inj u1)
      rcases u5 with ⟨hok, _, b1, n2, b2⟩ | ⟨_, b, _⟩
      · subst hok
        have x23 : ∀ j, j ≠ 2 → j ≠ 3 → j ≠ 14 → j ≠ 16 → j ≠ 17 → mm2 23 j = m 23 j := fun j j2 j3 j14 j16 j17 => by rw [u4.2 j j2 j3 j14 j16 j17, vo 23 (by decide), t2.2 j j14 j16, w23]
        have p23 : ∀ j, j ≠ 13 → (fm_put mm2 23 13 (0 : Int32)) 23 j = mm2 23 j := fun j hj => by rw [ma_put, ka_up]; unfold upd; rw [if_neg hj]
        obtain ⟨q, hkeep, q8, q9, qo⟩ := mt_keeps (m := fm_put mm2 23 13 (0 : Int32)) (h := hh) (fi := fi) h8 fi8 (by rw [p23 8 (by decide), x23 8 (by decide) (by decide) (by decide) (by decide) (by decide)]; exact a3) (by rw [p23 9 (by decide), x23 9 (by decide) (by decide) (by decide) (by decide) (by decide)]; exact a4)
        have z25 : (fm_up (fm_up (fm_put mm2 23 13 (0 : Int32)) 25 (va_cpy ((fm_put mm2 23 13 (0 : Int32)) 27) ((fm_put mm2 23 13 (0 : Int32)) 25) 0 (320 * (((if hh = 8 then (fi + 1) % 8 else fi) + (if hh = 8 then 7 else hh)) % 8)) 320)) 23 q) 25 = va_cpy (mT 27) (m 25) 0 (320 * (((if hh = 8 then (fi + 1) % 8 else fi) + (if hh = 8 then 7 else hh)) % 8)) 320 := by
          rw [ka_un _ (by decide), ka_up, ma_putn _ (by decide), ma_putn _ (by decide), u4.1 27 (by decide) (by decide) (by decide), u4.1 25 (by decide) (by decide) (by decide), vo 25 (by decide), t2.1 25 (by decide) (by decide), wm 25 (by decide) (by decide) (by decide) (by decide) (by decide) (by decide) (by decide) (by decide) (by decide) (by decide) (by decide)]
        have z23 : (fm_up (fm_up (fm_put mm2 23 13 (0 : Int32)) 25 (va_cpy ((fm_put mm2 23 13 (0 : Int32)) 27) ((fm_put mm2 23 13 (0 : Int32)) 25) 0 (320 * (((if hh = 8 then (fi + 1) % 8 else fi) + (if hh = 8 then 7 else hh)) % 8)) 320)) 23 q) 23 = q := ka_up _ _ _
        have zo : ∀ k, k ≠ 23 → k ≠ 25 → (fm_up (fm_up (fm_put mm2 23 13 (0 : Int32)) 25 (va_cpy ((fm_put mm2 23 13 (0 : Int32)) 27) ((fm_put mm2 23 13 (0 : Int32)) 25) 0 (320 * (((if hh = 8 then (fi + 1) % 8 else fi) + (if hh = 8 then 7 else hh)) % 8)) 320)) 23 q) k = mm2 k := fun k k23 k25 => by rw [ka_un _ k23, ka_un _ k25, ma_putn _ k23]
        generalize fm_up (fm_up (fm_put mm2 23 13 (0 : Int32)) 25 (va_cpy ((fm_put mm2 23 13 (0 : Int32)) 27) ((fm_put mm2 23 13 (0 : Int32)) 25) 0 (320 * (((if hh = 8 then (fi + 1) % 8 else fi) + (if hh = 8 then 7 else hh)) % 8)) 320)) 23 q = mZ at hkeep z25 z23 zo
        have q17 : q 17 = a := by rw [qo 17 (by decide) (by decide), p23 17 (by decide)]; exact b1
        refine ⟨a, mF, mZ, rfl, ?_, ?_⟩
        · unfold f_X7_run
          rw [t1, Option.bind_some]
          dsimp only
          rw [if_pos (by simp), hth, Option.bind_some, u3, Option.bind_some]
          dsimp only
          rw [if_pos rfl, hkeep, Option.bind_some, z23, q17]
        · have zs : ∀ k, k ≠ 2 → k ≠ 5 → k ≠ 7 → k ≠ 9 → k ≠ 12 → k ≠ 13 → k ≠ 14 → k ≠ 15 → k ≠ 16 → k ≠ 17 → k ≠ 18 → k ≠ 23 → k ≠ 24 → k ≠ 25 → k ≠ 27 → k ≠ 30 → mZ k = m k := fun k k2 k5 k7 k9 k12 k13 k14 k15 k16 k17 k18 k23 k24 k25 k27 k30 => by
            rw [zo k k23 k25, u4.1 k k23 k24 k30, vo k k27, t2.1 k k23 k30, wm k k2 k5 k7 k9 k12 k13 k14 k15 k16 k17 k18]
          have zF : ∀ k, k ≠ 23 → k ≠ 24 → k ≠ 25 → k ≠ 27 → k ≠ 30 → mZ k = mF k := fun k k23 k24 k25 k27 k30 => by
            rw [zo k k23 k25, u4.1 k k23 k24 k30, vo k k27, t2.1 k k23 k30]
          have zq : ∀ j, j ≠ 2 → j ≠ 3 → j ≠ 8 → j ≠ 9 → j ≠ 13 → j ≠ 14 → j ≠ 16 → j ≠ 17 → mZ 23 j = m 23 j := fun j j2 j3 j8 j9 j13 j14 j16 j17 => by
            rw [z23, qo j j8 j9, p23 j j13, x23 j j2 j3 j14 j16 j17]
          have q13 : mZ 23 13 = 0 := by rw [z23, qo 13 (by decide) (by decide)]; exact ma_putg _ _ _ _
          have zs2 := fun k (c : k = 0 ∨ k = 4 ∨ k = 20 ∨ k = 21 ∨ k = 26 ∨ k = 31) => zs k (by omega) (by omega) (by omega) (by omega) (by omega) (by omega) (by omega) (by omega) (by omega) (by omega) (by omega) (by omega) (by omega) (by omega) (by omega) (by omega)
          have zt := fun j (c : j = 0 ∨ j = 1 ∨ j = 10 ∨ j = 19) => zq j (by omega) (by omega) (by omega) (by omega) (by omega) (by omega) (by omega) (by omega)
          have z12 : mZ 12 = upd (upd (m1 12) 1 (ma_i ((nx + 1) % 8))) 2 (ma_i ((if hh = 8 then 7 else hh) + 1)) := by rw [zF 12 (by decide) (by decide) (by decide) (by decide) (by decide), f4]
          have z13 : mZ 13 = va_cpy (m 2) (m 13) 0 (294 * nx) 294 := by rw [zF 13 (by decide) (by decide) (by decide) (by decide) (by decide), f5, e1 2 (by decide) (by decide) (by decide) (by decide) (by decide) (by decide) (by decide) (by decide), e1 13 (by decide) (by decide) (by decide) (by decide) (by decide) (by decide) (by decide) (by decide)]
          obtain ⟨K, k1, k2, k3, k4⟩ := hln
          have hb600 : 700 * t + 600 ≤ 700 * (t + 1) := by omega
          refine ⟨⟨n2, ?_⟩, ?_, ?_, ⟨(nx + 1) % 8, (if hh = 8 then 7 else hh) + 1, (if hh = 8 then (fi + 1) % 8 else fi), ?_, ?_, ?_, ?_, ?_⟩, ⟨0, by decide, ?_, q13, fun i hi => by omega⟩, ⟨K, k1, ?_, ?_, ?_⟩⟩
          · rw [zF 2 (by decide) (by decide) (by decide) (by decide) (by decide), f3, zo 24 (by decide) (by decide)]
            exact mr_mono b2 hb600
          · have hs2 := (mi_nx (t := t) h0).2.1
            unfold mi_save at hs2 ⊢
            rw [zs2 0 (by omega), zt 10 (by omega), zs2 4 (by omega), zs2 26 (by omega)]; exact hs2
          · rw [zs2 0 (by omega), zt 0 (by omega), zt 1 (by omega)]; exact hrs
          · rw [z12]; unfold upd; rw [if_neg (by decide), if_pos rfl]
          · rw [z12]; unfold upd; rw [if_pos rfl]
          · rw [z23]; exact q8
          · rw [z23]; exact q9
          · rw [z13, z25]
            exact mh_push (mi_h_mono (show 700 * t ≤ 700 * (t + 1) by omega) a5') (by rw [v27]; exact mr_mono hr (show 700 * t ≤ 700 * (t + 1) by omega))
          · rw [zF 18 (by decide) (by decide) (by decide) (by decide) (by decide), f2 18 (by decide) (by decide) (by decide)]; exact m118
          · rw [zs2 20 (by omega)]; exact k2
          · rw [zt 19 (by omega)]; exact k3
          · rw [zs2 21 (by omega), zs2 31 (by omega)]; exact k4
      · exact absurd (by rw [b]; decide) ha

/-! texts: append, told, run -/
def lz_t (m : fm_M) (L : Nat) : Prop := L ≤ 60 ∧ m 18 1 = ma_i L ∧ ∀ i, i < L → ∃ c, 32 ≤ c ∧ c ≤ 126 ∧ m 19 i = ma_i c
theorem lz_append {m : fm_M} {L c : Nat} (ht : lz_t m L) (hl : L < 60) (h1 : 32 ≤ c) (h2 : c ≤ 126) : ∃ m1, f_X6_append (ma_i c) m = some (ma_i (L + 1), m1) ∧ lz_t m1 (L + 1) ∧ ∀ k, k ≠ 18 → k ≠ 19 → m1 k = m k := by
  obtain ⟨hL, l1, l3⟩ := ht
  unfold f_X6_append
  rw [if_neg (show ¬ ma_i c < (32 : Int32) from fun hh => by have := (ma_lt (b := 32) (by omega) (by decide)).mp hh; omega), if_pos (show ma_i c ≤ (126 : Int32) from (ma_le (b := 126) (by omega) (by decide)).mpr h2)]
  unfold f_X4_size
  rw [Option.bind_some, l1, if_pos (show ma_i L < (60 : Int32) from (ma_lt (b := 60) (by omega) (by decide)).mpr hl), mu_add (by decide) l1 hl (by decide), Option.bind_some, Option.bind_some, ka_up]
  have u1 : upd (m 18) 1 (ma_i (L + 1)) 1 = ma_i (L + 1) := by unfold upd; rw [if_pos rfl]
  rw [u1]
  refine ⟨_, rfl, ⟨by omega, ?_, fun i hi => ?_⟩, fun k k18 k19 => ?_⟩
  · rw [ka_up, u1]
  · rw [ka_un _ (by decide), ka_up]
    unfold upd
    by_cases e : i = L
    · rw [if_pos e]; exact ⟨c, h1, h2, rfl⟩
    · rw [if_neg e]; exact l3 i (by omega)
  · rw [ka_un _ k18, ka_un _ k19]
set_option maxHeartbeats 4000000 in
theorem lz_run {B n nx h L : Nat} {m : fm_M} (hB : B + 600 < 1000000) (hv : lz_iv B n (ma_c (m 2))) (hh : lz_h m nx h) (ht : lz_t m L) : ∃ r m1, f_X6_run m = some (r, m1) ∧ m1 18 1 = ma_i 0 ∧ lz_s B n m r m1 := by
  obtain ⟨⟨g, hr⟩, hm⟩ := hv
  obtain ⟨hL, l1, l3⟩ := ht
  obtain ⟨C, hC1, hC2⟩ : ∃ C : Nat → Nat, (∀ i, i < L → m 19 i = ma_i (C i) ∧ 32 ≤ C i ∧ C i ≤ 126) ∧ ∀ i, L ≤ i → C i = 0 := by
    refine ⟨fun i => if i < L then (m 19 i).toNatClampNeg else 0, fun i hi => ?_, fun i hi => if_neg (by omega)⟩
    obtain ⟨c, c1, c2, c3⟩ := l3 i hi
    have e : (if i < L then (m 19 i).toNatClampNeg else 0) = c := by rw [if_pos hi, c3, ma_cn (by omega)]
    show m 19 i = ma_i (if i < L then (m 19 i).toNatClampNeg else 0) ∧ 32 ≤ (if i < L then (m 19 i).toNatClampNeg else 0) ∧ (if i < L then (m 19 i).toNatClampNeg else 0) ≤ 126
    rw [e]
    exact ⟨c3, c1, c2⟩
  have hpc : px_t C L (m 19) := ⟨hL, hC1, hC2⟩
  have hmr : pc_t C L (fm_put (fm_put m 14 3 (0 : Int32)) 14 4 (0 : Int32)) := pc_t_put (pc_t_put ⟨l1, hpc⟩ (by decide) (by decide)) (by decide) (by decide)
  obtain ⟨m2, r1, r2, r3, _, r5⟩ := pc_read (C := C) (L := L) 10 0 0 fm_F (fm_put (fm_put m 14 3 (0 : Int32)) 14 4 (0 : Int32)) (by decide) (by decide) (Nat.zero_le _) hmr (ma_putg _ _ _ _) (by rw [ma_put, ka_up]; unfold upd; rw [if_neg (by decide)]; exact ma_putg _ _ _ _)
  have r1 : f_X2_read 18 19 60 m = some (px_fl (px_all C L 10 0).2, m2) := r1
  unfold f_X6_run
  rw [r1, Option.bind_some]
  unfold f_X4_clear
  rw [Option.bind_some]
  dsimp only
  have co : ∀ k, k ≠ 14 → k ≠ 15 → k ≠ 16 → k ≠ 17 → k ≠ 18 → (fm_put m2 18 1 (0 : Int32)) k = m k := fun k k14 k15 k16 k17 k18 => by rw [ma_putn _ k18, r2 k k14 k15 k16 k17, ma_putn _ k14, ma_putn _ k14]
  have c18 : (fm_put m2 18 1 (0 : Int32)) 18 1 = ma_i 0 := ma_putg _ _ _ _
  have crow : pq_rows (fm_put m2 18 1 (0 : Int32)) 0 (px_all C L 10 0).1 := by
    refine ⟨by rw [ma_putn _ (by decide)]; exact r3, fun j o hj => ?_⟩
    rw [ma_putn _ (by decide), ma_putn _ (by decide), ma_putn _ (by decide)]
    exact r5 j o hj
  generalize fm_put m2 18 1 (0 : Int32) = mC at co c18 crow
  have c2 := co 2 (by decide) (by decide) (by decide) (by decide) (by decide)
  have c4 := co 4 (by decide) (by decide) (by decide) (by decide) (by decide)
  have c0 := co 0 (by decide) (by decide) (by decide) (by decide) (by decide)
  have c12 := co 12 (by decide) (by decide) (by decide) (by decide) (by decide)
  have c13 := co 13 (by decide) (by decide) (by decide) (by decide) (by decide)
  cases hx : (px_all C L 10 0).2 with
  | some q =>
    have hq := px_all_le hpc 10 0 q (Nat.zero_le _) hx
    rw [if_neg (show ¬ px_fl (some q) < 0 from ma_nn (by omega))]
    refine ⟨_, mC, rfl, c18, ⟨c4, by rw [c0]⟩, Or.inl ⟨?_, c2, c12, c13⟩⟩
    have hk : ∀ q : Fin 61, (-1000 : Int32) - ma_i q.val < 0 := by decide +kernel
    exact hk ⟨q, by omega⟩
  | none =>
    rw [if_pos (show px_fl none < 0 by decide), mt_onTrial, Option.bind_some]
    have e7 : ma_c ((fm_up mC 7 (va_cpy (mC 2) (mC 7) 0 0 294)) 7) = ma_c (m 2) := by rw [ka_up, mt_cpc, c2]
    have ef : ∀ k, k ≠ 7 → (fm_up mC 7 (va_cpy (mC 2) (mC 7) 0 0 294)) k = mC k := fun k hk => ka_un mC hk _
    generalize fm_up mC 7 (va_cpy (mC 2) (mC 7) 0 0 294) = m0 at e7 ef
    have zrow : pq_rows m0 0 (px_all C L 10 0).1 := by
      obtain ⟨z1, z2⟩ := crow
      refine ⟨by rw [ef 14 (by decide)]; exact z1, fun j o hj => ?_⟩
      rw [ef 15 (by decide), ef 16 (by decide), ef 17 (by decide)]
      exact z2 j o hj
    -- a reference beside it
    have hg : ∃ mm : fm_M, mm 23 13 = ma_i L ∧ mm 23 14 = ma_i 0 ∧ mm 23 17 = ma_i 0 ∧ mm 29 = m 19 ∧ mm 24 = g := by
      refine ⟨fun k => if k = 23 then (fun j => if j = 13 then ma_i L else 0) else if k = 29 then m 19 else g, ?_, ?_, ?_, ?_, ?_⟩ <;> simp
      · rfl
      · rfl
    obtain ⟨mm, g13, g14, g17, g29, g24⟩ := hg
    obtain ⟨a, m1, mm2, ok, s1, s2, s3, s4, s5⟩ := pr_run (C := C) (L := L) 10 0 0 fm_F fm_F B n m0 mm (by decide) (by decide) (by decide) (by decide) (Nat.zero_le _) hx zrow ⟨g13, by rw [g29]; exact hpc⟩ g14 g17 (by rw [e7, g24]; exact hr) (by omega)
    have s1 : pq_pre fm_F (0 : Int32) m0 = some (a, m1) := s1
    rw [pq_pre_L, s1, Option.bind_some]
    dsimp only
    have e1 : ∀ k, k ≠ 5 → k ≠ 7 → k ≠ 9 → m1 k = mC k := fun k k5 k7 k9 => (s2 k k5 k7 k9).trans (ef k k7)
    have hset : ∃ n2 g2, a < 0 ∨ (¬ a < 0 ∧ n ≤ n2 ∧ mr_rel (B + 6000) n2 (ma_c (m1 7)) (ma_w g2) ∧ my_m (B + 6000) (ma_c (m1 7))) := by
      rcases s5 with ⟨_, ha, _, n2, hle, hr2, hm2⟩ | ⟨_, ha, _⟩
      · exact ⟨n2, mm2 24, Or.inr ⟨ha, hle, mr_mono hr2 (by omega), hm2 B (by rw [e7]; exact hm)⟩⟩
      · exact ⟨n, g, Or.inl (by rw [ha]; decide)⟩
    obtain ⟨n2, g2, hset⟩ := hset
    obtain ⟨mF, t1, t2, t3⟩ := lz_set (B := B) (n := n) (n2 := n2) hh ((e1 0 (by decide) (by decide) (by decide)).trans c0) ((e1 2 (by decide) (by decide) (by decide)).trans c2) ((e1 4 (by decide) (by decide) (by decide)).trans c4) ((e1 12 (by decide) (by decide) (by decide)).trans c12) ((e1 13 (by decide) (by decide) (by decide)).trans c13) hset
    refine ⟨a, mF, ?_, ?_, t3⟩
    · rw [t1]; rfl
    · rw [t2 18 (by decide) (by decide) (by decide) (by decide), e1 18 (by decide) (by decide) (by decide)]
      exact c18
theorem lz_txt : ∀ w, w < 16 → fm_len.getD w 0 ≤ 19 ∧ ∀ k, k < 19 → k < fm_len.getD w 0 → ∃ c, (32 ≤ c ∧ c ≤ 126) ∧ (fm_byt.getD w []).getD k 0 = ma_i c := by
  intro w hw
  have h1 : ∀ w : Fin 16, fm_len.getD w.val 0 ≤ 19 ∧ ∀ k : Fin 19, k.val < fm_len.getD w.val 0 → (32 ≤ ((fm_byt.getD w.val []).getD k.val 0).toNatClampNeg ∧ ((fm_byt.getD w.val []).getD k.val 0).toNatClampNeg ≤ 126) ∧ (fm_byt.getD w.val []).getD k.val 0 = ma_i ((fm_byt.getD w.val []).getD k.val 0).toNatClampNeg := by decide +kernel
  obtain ⟨a1, a2⟩ := h1 ⟨w, hw⟩
  exact ⟨a1, fun k hk hl => ⟨_, a2 ⟨k, hk⟩ hl⟩⟩
/-- a call of the law with an empty text, before and behind it -/
def lz_a (B n : Nat) (m : fm_M) (F : Option (Int64 × fm_M)) : Prop := ∃ r m1, F = some (r.toInt64, m1) ∧ m1 18 1 = ma_i 0 ∧ lz_s B n m r m1
theorem lz_told_L {B n nx h w : Nat} {m : fm_M} (hw : w < 16) (hB : B + 600 < 1000000) (hv : lz_iv B n (ma_c (m 2))) (hh : lz_h m nx h) : ∀ (d k f : Nat) (m0 : fm_M), k + d = fm_len.getD w 0 → d < f → lz_t m0 k → (∀ q, q ≠ 18 → q ≠ 19 → m0 q = m q) → lz_a B n m (f_L_told_L2 w f (ma_i k) m0) := by
  obtain ⟨hlen, htx⟩ := lz_txt w hw
  intro d
  induction d with
  | zero =>
    intro k f m0 hk hf ht hq
    obtain ⟨f, rfl⟩ : ∃ q, f = q + 1 := ⟨f - 1, by omega⟩
    have e : k = fm_len.getD w 0 := by omega
    have e2 := hq 2 (by decide) (by decide)
    have e12 := hq 12 (by decide) (by decide)
    obtain ⟨r, m1, h1, h2, ⟨f1, f2⟩, h3⟩ := lz_run (m := m0) (nx := nx) (h := h) hB (by rw [e2]; exact hv) ⟨hh.1, hh.2.1, by rw [e12]; exact hh.2.2.1, by rw [e12]; exact hh.2.2.2⟩ ht
    refine ⟨r, m1, ?_, h2, ⟨f1.trans (hq 4 (by decide) (by decide)), f2.trans (by rw [hq 0 (by decide) (by decide)])⟩, ?_⟩
    · rw [f_L_told_L2, if_pos (show Int32.ofNat (fm_len.getD w 0) ≤ ma_i k by rw [e]; exact Int32.le_refl _)]
      unfold f_L_run
      rw [h1]
      rfl
    · have e13 := hq 13 (by decide) (by decide)
      rcases h3 with ⟨a1, a2, a3, a4⟩ | ⟨a1, ⟨nx', h', b1, b2, b3⟩, a3⟩
      · exact Or.inl ⟨a1, a2.trans e2, a3.trans e12, a4.trans e13⟩
      · refine Or.inr ⟨a1, ⟨nx', h', ⟨b1.1, b1.2.1, ?_, ?_⟩, b2, ?_⟩, a3⟩
        · rw [← e12]; exact b1.2.2.1
        · rw [← e12]; exact b1.2.2.2
        · rw [b3, e2, e13]
  | succ d ih =>
    intro k f m0 hk hf ht hq
    obtain ⟨f, rfl⟩ : ∃ q, f = q + 1 := ⟨f - 1, by omega⟩
    obtain ⟨c, ⟨c1, c2⟩, c3⟩ := htx k (by omega) (by omega)
    obtain ⟨m1, h1, h2, h3⟩ := lz_append ht (by omega) c1 c2
    have key := ih (k + 1) f m1 (by omega) (by omega) h2 (fun q q18 q19 => (h3 q q18 q19).trans (hq q q18 q19))
    have e : f_L_told_L2 w (f + 1) (ma_i k) m0 = f_L_told_L2 w f (ma_i (k + 1)) m1 := by
      rw [f_L_told_L2, if_neg (show ¬ Int32.ofNat (fm_len.getD w 0) ≤ ma_i k from fun hh => by have := (ma_le (a := fm_len.getD w 0) (by omega) (by omega)).mp hh; omega), if_pos (ma_in (by omega) (by omega)), ma_cn (by omega), c3, h1, Option.bind_some, ma_s1]
    rw [e]
    exact key
theorem lz_told {B n nx h w : Nat} {m : fm_M} (hw : w < 16) (hB : B + 600 < 1000000) (hv : lz_iv B n (ma_c (m 2))) (hh : lz_h m nx h) (h0 : m 18 1 = ma_i 0) : lz_a B n m (f_L_told w m) := by
  have hl := (lz_txt w hw).1
  exact lz_told_L hw hB hv hh (fm_len.getD w 0) 0 fm_F m (by omega) (by unfold fm_F; omega) ⟨by decide, h0, fun i hi => by omega⟩ (fun _ _ _ => rfl)
/-! acts -/
theorem lz_pick (x y : Int32) {k : Nat} (hy : y = ma_i k) (hk : 0 < k) (hk2 : k < 2147483648) (m : fm_M) : ∃ j, j < k ∧ f_L_pick x y m = some (ma_i j) := by
  have hnn : ¬ (x &&& (2147483647 : Int32)) < 0 := by
    rw [Int32.lt_iff_toBitVec_slt, Int32.toBitVec_and]
    intro hh
    have h1 := BitVec.slt_zero_iff_msb_cond.mp hh
    rw [BitVec.msb_and] at h1
    have h2 : (2147483647 : Int32).toBitVec.msb = false := by decide
    rw [h2, Bool.and_false] at h1
    cases h1
  obtain ⟨a, ha, ea⟩ := ma_of hnn
  refine ⟨a % k, Nat.mod_lt _ hk, ?_⟩
  unfold f_L_pick
  rw [hy, if_neg (fun hh => by have := (ma_inj (b := 0) hk2 (by decide)).mp hh; omega), ea, ma_rem ha hk2]
theorem lz_ac {B n : Nat} {m : fm_M} {F : Option (Int64 × fm_M)} (h : lz_c B n m F) (h0 : m 18 1 = ma_i 0) : lz_a B n m (F.bind fun v => some (v.1, v.2)) := by
  obtain ⟨r, m1, h1, h2, _, h3⟩ := h
  exact ⟨r, m1, by rw [h1]; rfl, by rw [h2]; exact h0, h3⟩
theorem lz_ab {B n : Nat} {m : fm_M} {F : Option (Int64 × fm_M)} (h : lz_a B n m F) : lz_a B n m (F.bind fun v => some (v.1, v.2)) := by
  obtain ⟨r, m1, h1, h2⟩ := h
  exact ⟨r, m1, by rw [h1]; rfl, h2⟩
set_option maxHeartbeats 4000000 in
theorem lz_acts {B n nx h : Nat} {m : fm_M} (x : Int32) (hB : B + 600 < 1000000) (hv : lz_iv B n (ma_c (m 2))) (hh : lz_h m nx h) (h0 : m 18 1 = ma_i 0) : lz_a B n m (f_L_acts x m) := by
  have hB6 : B + 60 < 1000000 := by omega
  unfold f_L_acts
  obtain ⟨j, hj, e1⟩ := lz_pick (x >>> ((8 : Int32) &&& 31)) (4000 : Int32) (k := 4000) rfl (by decide) (by decide) m
  obtain ⟨q, hq, e2⟩ := lz_pick x (22 : Int32) (k := 22) rfl (by decide) (by decide) m
  rw [e1, Option.bind_some, e2, Option.bind_some]
  have e8 : ma_i j - ma_i j / (8 : Int32) * (8 : Int32) = ma_i (j % 8) := ma_rem (a := j) (k := 8) (by omega) (by decide)
  have hin : fm_in (ma_i j - ma_i j / (8 : Int32) * (8 : Int32)) 8 = true := by rw [e8]; exact ma_in (Nat.mod_lt _ (by decide)) (by decide)
  have hw : 8 + (ma_i j - ma_i j / (8 : Int32) * (8 : Int32)).toNatClampNeg < 16 := by
    have := Nat.mod_lt j (show 8 > 0 by decide)
    rw [e8, ma_cn (by omega)]; omega
  generalize ma_i q = y
  generalize ma_i j = z at *
  by_cases c0 : y = (0 : Int32)
  · rw [if_pos c0]
    split
    · exact lz_ac (lz_come _ _ hB6 hv hh) h0
    · exact lz_ac (lz_come _ _ hB6 hv hh) h0
  rw [if_neg c0]
  by_cases c1 : y = (1 : Int32)
  · rw [if_pos c1]; exact lz_ac (lz_withdraw _ hv hh) h0
  rw [if_neg c1]
  by_cases c2 : y = (2 : Int32)
  · rw [if_pos c2]; exact lz_ac (lz_voice _ _ hv hh) h0
  rw [if_neg c2]
  by_cases c3 : y = (3 : Int32)
  · rw [if_pos c3]; exact lz_ac (lz_voice _ _ hv hh) h0
  rw [if_neg c3]
  by_cases c4 : y = (4 : Int32)
  · rw [if_pos c4]; exact lz_ac (lz_voice _ _ hv hh) h0
  rw [if_neg c4]
  by_cases c5 : y = (5 : Int32)
  · rw [if_pos c5]; exact lz_ac (lz_choose _ hB6 hv hh) h0
  rw [if_neg c5]
  by_cases c6 : y = (6 : Int32)
  · rw [if_pos c6]; exact lz_ac (lz_choose _ hB6 hv hh) h0
  rw [if_neg c6]
  by_cases c7 : y = (7 : Int32)
  · rw [if_pos c7]; exact lz_ac (lz_choose _ hB6 hv hh) h0
  rw [if_neg c7]
  by_cases c8 : y = (8 : Int32)
  · rw [if_pos c8]; exact lz_ac (lz_leave _ hv hh) h0
  rw [if_neg c8]
  by_cases c9 : y = (9 : Int32)
  · rw [if_pos c9]; exact lz_ac (lz_feast _ _ hv hh) h0
  rw [if_neg c9]
  by_cases c10 : y = (10 : Int32)
  · rw [if_pos c10]; exact lz_ac (lz_breach _ _ hB6 hv hh) h0
  rw [if_neg c10]
  by_cases c11 : y = (11 : Int32)
  · rw [if_pos c11]; exact lz_ac (lz_breach _ _ hB6 hv hh) h0
  rw [if_neg c11]
  by_cases c12 : y = (12 : Int32)
  · rw [if_pos c12]; exact lz_ac (lz_pardon _ hB6 hv hh) h0
  rw [if_neg c12]
  by_cases c13 : y = (13 : Int32)
  · rw [if_pos c13]; exact lz_ac (lz_gift _ hv hh) h0
  rw [if_neg c13]
  by_cases c14 : y = (14 : Int32)
  · rw [if_pos c14, if_pos hin]; exact lz_ab (lz_told hw hB hv hh h0)
  rw [if_neg c14]
  by_cases c15 : y = (15 : Int32)
  · rw [if_pos c15, if_pos hin]; exact lz_ab (lz_told hw hB hv hh h0)
  rw [if_neg c15]
  by_cases c16 : y = (16 : Int32)
  · rw [if_pos c16, if_pos hin]; exact lz_ab (lz_told hw hB hv hh h0)
  rw [if_neg c16]
  exact lz_ac (lz_weeks _ hB6 hv hh) h0

/-! the line of those who wait -/
theorem ma_ct_mono (p : Nat → Bool) (a : Nat) : ∀ d, ma_ct p a ≤ ma_ct p (a + d) := by
  intro d
  induction d with
  | zero => exact Nat.le_refl _
  | succ d ih => rw [← Nat.add_assoc, ma_ct_s]; omega
def tw_it (s : ma_S) (b : Nat) : List Nat := (tl_num b ++ (if s 1 b = 1 then [107, 58] else [58])) ++ tl_num (mc_vo s b)
def tw_line (s : ma_S) : Nat → List Nat
  | 0 => []
  | k + 1 => if s 2 k = 0 then (tw_line s k ++ (if tw_line s k = [] then [] else [44])) ++ tw_it s k else tw_line s k
theorem tw_line_s (s : ma_S) (k : Nat) : tw_line s (k + 1) = if s 2 k = 0 then (tw_line s k ++ (if tw_line s k = [] then [] else [44])) ++ tw_it s k else tw_line s k := rfl
theorem tw_it_len (s : ma_S) (b : Nat) : (tw_it s b).length ≤ 6 ∧ tw_it s b ≠ [] := by
  unfold tw_it
  have h1 := tl_num_len b
  have h2 := tl_num_len (mc_vo s b)
  constructor
  · simp only [List.length_append]
    split <;> simp <;> omega
  · split <;> simp
theorem tw_line_len (s : ma_S) : ∀ k, (tw_line s k).length ≤ 7 * k := by
  intro k
  induction k with
  | zero => simp [tw_line]
  | succ k ih =>
    rw [tw_line_s]
    have := (tw_it_len s k).1
    split
    · simp only [List.length_append]
      split <;> simp <;> omega
    · omega
theorem tw_it_ok (s : ma_S) {b : Nat} (hb : b < 16) : ∀ c ∈ tw_it s b, c < 256 := by
  intro c hc
  unfold tw_it at hc
  have := mc_vo_le s b
  rw [List.mem_append, List.mem_append] at hc
  rcases hc with (hc | hc) | hc
  · exact tl_num_ok (by omega) c hc
  · split at hc <;> simp at hc <;> omega
  · exact tl_num_ok (by omega) c hc
theorem tw_line_ok (s : ma_S) : ∀ k, k ≤ 16 → ∀ c ∈ tw_line s k, c < 256 := by
  intro k
  induction k with
  | zero => intro _ c hc; simp [tw_line] at hc
  | succ k ih =>
    intro hk c hc
    rw [tw_line_s] at hc
    split at hc
    · rw [List.mem_append, List.mem_append] at hc
      rcases hc with (hc | hc) | hc
      · exact ih (by omega) c hc
      · split at hc <;> simp at hc; omega
      · exact tw_it_ok s (by omega) c hc
    · exact ih (by omega) c hc
theorem tw_nil (s : ma_S) : ∀ k, tw_line s k = [] ↔ ma_ct (fun b => decide (s 2 b = 0)) k = 0 := by
  intro k
  induction k with
  | zero => simp [tw_line, ma_ct]
  | succ k ih =>
    rw [tw_line_s, ma_ct_s]
    by_cases h : s 2 k = 0
    · have := (tw_it_len s k).2
      simp [h, this]
    · simp [h, ih]
/-- the line depends on how many waited so far alone -/
theorem tw_same (s : ma_S) {a : Nat} : ∀ b, a ≤ b → ma_ct (fun b => decide (s 2 b = 0)) a = ma_ct (fun b => decide (s 2 b = 0)) b → tw_line s a = tw_line s b := by
  intro b
  induction b with
  | zero => intro h _; have : a = 0 := by omega
            rw [this]
  | succ b ih =>
    intro h hc
    by_cases e : a = b + 1
    · rw [e]
    · rw [ma_ct_s] at hc
      have hm : ∀ d, ma_ct (fun b => decide (s 2 b = 0)) a ≤ ma_ct (fun b => decide (s 2 b = 0)) (a + d) := ma_ct_mono _ _
      have hle := hm (b - a)
      have eb : a + (b - a) = b := by omega
      rw [eb] at hle
      have hn : ¬ s 2 b = 0 := by
        intro h0
        rw [if_pos (decide_eq_true h0)] at hc
        omega
      rw [if_neg (by simpa using hn)] at hc
      rw [tw_line_s, if_neg hn]
      exact ih (by omega) (by omega)
theorem ml_item6 {m : fm_M} {l : List Nat} {b : Nat} (hb : b < 16) (hl : l.length + 6 ≤ 128) : (f_X4_addNumber 20 21 128 (ma_i b) (ml_c m l)).bind (fun v4 => (f_X5_of 1 2 (1 : Int32) (ma_i b) v4).bind fun v6 => if v6 = (1 : Int32) then ((f_X4_add 20 21 128 (107 : Int32) v4).bind fun v15 => (f_X4_add 20 21 128 (58 : Int32) v15).bind fun v17 => (f_X5_voicesFor 1 2 (ma_i b) v17).bind fun v19 => (f_X4_addNumber 20 21 128 v19 v17).bind fun v21 => some v21) else ((f_X4_add 20 21 128 (58 : Int32) v4).bind fun v9 => (f_X5_voicesFor 1 2 (ma_i b) v9).bind fun v11 => (f_X4_addNumber 20 21 128 v11 v9).bind fun v13 => some v13)) = some (ml_c m (l ++ tw_it (ma_c (m 2)) b)) := by
  have o2 : ∀ l, (ml_c m l) 2 = m 2 := fun l => ml_c_o m l (by decide) (by decide)
  have hnl := tl_num_len b
  have hv := mc_vo_le (ma_c (m 2)) b
  have vf : ∀ l2, f_X5_voicesFor 1 2 (ma_i b) (ml_c m l2) = some (ma_i (mc_vo (ma_c (m 2)) b)) := fun l2 => by
    rw [ka_voicesFor hb, o2]; rfl
  have a1 : ∀ l2 : List Nat, l2.length < 128 → f_X4_add 20 21 128 (107 : Int32) (ml_c m l2) = some (ml_c m (l2 ++ [107])) := fun l2 h => ml_add (x := (107 : Int32)) (c := 107) rfl h
  have a2 : ∀ l2 : List Nat, l2.length < 128 → f_X4_add 20 21 128 (58 : Int32) (ml_c m l2) = some (ml_c m (l2 ++ [58])) := fun l2 h => ml_add (x := (58 : Int32)) (c := 58) rfl h
  rw [ml_num (by omega) (by omega), Option.bind_some, ka_of1 hb, Option.bind_some, o2]
  unfold tw_it
  by_cases h1 : ma_c (m 2) 1 b = 1
  · rw [if_pos h1, if_pos h1, a1 _ (by simp only [List.length_append]; omega), Option.bind_some, a2 _ (by simp only [List.length_append, List.length_singleton]; omega), Option.bind_some, vf, Option.bind_some, ml_num (by omega) (by simp only [List.length_append, List.length_singleton]; omega), Option.bind_some]
    simp
  · rw [if_neg h1, if_neg h1, a2 _ (by simp only [List.length_append]; omega), Option.bind_some, vf, Option.bind_some, ml_num (by omega) (by simp only [List.length_append, List.length_singleton]; omega), Option.bind_some]
    simp
theorem ml_item7 {B n : Nat} {m : fm_M} {s : ma_S} {l : List Nat} {b : Nat} (hr : mr_rel B n s (ma_w (m 24))) (hb : b < n) (hl : l.length + 6 ≤ 160) (k : fm_M → Option (Int32 × fm_M)) : (f_X7_writesNumber (ma_i b) (ml_w m l)).bind (fun v7 => (f_X7_of (ma_i b) (1 : Int32) v7).bind fun v9 => if v9 = (1 : Int32) then ((f_X7_writes (107 : Int32) v7).bind fun v18 => (f_X7_writes (58 : Int32) v18).bind fun v20 => (f_X7_voicesFor (ma_i b) v20).bind fun v22 => (f_X7_writesNumber v22 v20).bind fun v24 => k v24) else ((f_X7_writes (58 : Int32) v7).bind fun v12 => (f_X7_voicesFor (ma_i b) v12).bind fun v14 => (f_X7_writesNumber v14 v12).bind fun v16 => k v16)) = k (ml_w m (l ++ tw_it s b)) := by
  have hn := mr_n hr
  have hb16 : b < 16 := by omega
  have o2 : ∀ l, (ml_w m l) 24 = m 24 := fun l => ml_w_o m l (by decide) (by decide)
  have hnl := tl_num_len b
  have hv := mc_vo_le s b
  have vf : ∀ l2, f_X7_voicesFor (ma_i b) (ml_w m l2) = some (ma_i (mc_vo s b)) := fun l2 => by
    rw [kb_voicesFor (n := n) hn (by rw [o2]; exact hr.2.2.1) hb16, o2, mr_vo hr hb]
  have a1 : ∀ l2 : List Nat, l2.length < 160 → f_X7_writes (107 : Int32) (ml_w m l2) = some (ml_w m (l2 ++ [107])) := fun l2 h => ml_wr (x := (107 : Int32)) (c := 107) rfl (by decide) h
  have a2 : ∀ l2 : List Nat, l2.length < 160 → f_X7_writes (58 : Int32) (ml_w m l2) = some (ml_w m (l2 ++ [58])) := fun l2 h => ml_wr (x := (58 : Int32)) (c := 58) rfl (by decide) h
  rw [ml_wnum (by omega) (by omega), Option.bind_some, kb_of1 hb16, Option.bind_some, o2, ← mr_col hr (k := 1) (by decide) (by decide) (by decide) (by decide) hb]
  unfold tw_it
  by_cases h1 : s 1 b = 1
  · rw [if_pos h1, if_pos h1, a1 _ (by simp only [List.length_append]; omega), Option.bind_some, a2 _ (by simp only [List.length_append, List.length_singleton]; omega), Option.bind_some, vf, Option.bind_some, ml_wnum (by omega) (by simp only [List.length_append, List.length_singleton]; omega), Option.bind_some]
    simp
  · rw [if_neg h1, if_neg h1, a2 _ (by simp only [List.length_append]; omega), Option.bind_some, vf, Option.bind_some, ml_wnum (by omega) (by simp only [List.length_append, List.length_singleton]; omega), Option.bind_some]
    simp
theorem ml_wait6 {m : fm_M} {l : List Nat} {b : Nat} (hb : b < 16) (hl : l.length + 7 ≤ 128) : f_X6_addWaiting (ma_i b) (ml_c m l) = some (ml_c m ((l ++ (if l = [] then [] else [44])) ++ tw_it (ma_c (m 2)) b)) := by
  unfold f_X6_addWaiting f_X4_size
  rw [Option.bind_some, ml_size]
  by_cases h : l = []
  · rw [if_pos ((ma_iz (by omega)).mpr (by rw [h]; rfl)), if_pos h, List.append_nil]
    exact ml_item6 hb (by omega)
  · rw [if_neg (fun hh => h (List.length_eq_zero_iff.mp ((ma_iz (by omega)).mp hh))), if_neg h, ml_add (x := (44 : Int32)) (c := 44) rfl (by omega), Option.bind_some]
    exact ml_item6 hb (by simp only [List.length_append, List.length_singleton]; omega)
/-- the place-th of those who wait -/
def tw_q (s : ma_S) (n p : Nat) : Nat := ma_ff (fun b => decide (s 2 b = 0) && decide (ma_ct (fun b => decide (s 2 b = 0)) b = p)) n 0
theorem tw_qs (s : ma_S) (n p : Nat) (hp : p < ma_ct (fun b => decide (s 2 b = 0)) n) : tw_q s n p < n ∧ s 2 (tw_q s n p) = 0 ∧ ma_ct (fun b => decide (s 2 b = 0)) (tw_q s n p) = p := by
  have hex : ∀ N, p < ma_ct (fun b => decide (s 2 b = 0)) N → ∃ b, b < N ∧ s 2 b = 0 ∧ ma_ct (fun b => decide (s 2 b = 0)) b = p := by
    intro N
    induction N with
    | zero => intro h; simp [ma_ct] at h
    | succ N ih =>
      intro h
      rw [ma_ct_s] at h
      by_cases h2 : p < ma_ct (fun b => decide (s 2 b = 0)) N
      · obtain ⟨b, b1, b2, b3⟩ := ih h2
        exact ⟨b, by omega, b2, b3⟩
      · by_cases h0 : s 2 N = 0
        · rw [if_pos (decide_eq_true h0)] at h
          exact ⟨N, by omega, h0, by omega⟩
        · rw [if_neg (by simpa using h0)] at h
          omega
  unfold tw_q
  rcases ma_ff_spec (fun b => decide (s 2 b = 0) && decide (ma_ct (fun b => decide (s 2 b = 0)) b = p)) n 0 with ⟨h1, h2, h3, h4⟩ | ⟨h1, h2⟩
  · simp only [Bool.and_eq_true, decide_eq_true_eq] at h3
    exact ⟨by omega, h3.1, h3.2⟩
  · obtain ⟨b, b1, b2, b3⟩ := hex n hp
    have := h2 b (by omega) (by omega)
    rw [decide_eq_true b2, decide_eq_true b3] at this
    cases this
theorem kb_inLine {B n p : Nat} {m : fm_M} {s : ma_S} (hr : mr_rel B n s (ma_w (m 24))) (hp : p < ma_ct (fun b => decide (s 2 b = 0)) n) : f_X7_inLine (ma_i p) m = some (ma_i (tw_q s n p)) := by
  have hn := mr_n hr
  have hn0 := hr.2.2.1
  have hple := ma_ct_le (fun b => decide (s 2 b = 0)) n
  unfold f_X7_inLine
  have pl : ∀ k, k < n → s 2 k = 0 → f_X7_placeInLine (ma_i k) m = some (ma_i (ma_ct (fun b => decide (s 2 b = 0)) k)) := fun k hk h0 => by
    rw [kq_place hn hn0 (by omega), mr_pl hr hk h0]
  have key := ma_find (fun f k => f_X7_inLine_L2 f (ma_i p) (ma_i k) m) n (fun b => decide (s 2 b = 0) && decide (ma_ct (fun b => decide (s 2 b = 0)) b = p)) (fun b => some (ma_i b)) (resN := some (-11)) (fun f k hk hq => ?_) (fun f k hk hq => ?_) (fun f => ?_) fm_F 0 (Nat.zero_le _) (by unfold fm_F; omega)
  · refine key.trans ?_
    rw [Nat.sub_zero]
    exact if_pos (tw_qs s n p hp).1
  · show f_X7_inLine_L2 (f + 1) _ _ m = _
    simp only [Bool.and_eq_true, decide_eq_true_eq] at hq
    rw [f_X7_inLine_L2, if_pos (by decide), kb_r0 m, hn0, if_neg (kb_g0 hn hk), kb_isSo (by omega), Option.bind_some, ← mr_how hr hk, if_pos (decide_eq_true hq.1), pl k hk hq.1, Option.bind_some, if_pos (by rw [hq.2])]
  · show f_X7_inLine_L2 (f + 1) _ _ m = _
    rw [f_X7_inLine_L2, if_pos (by decide), kb_r0 m, hn0, if_neg (kb_g0 hn hk), kb_isSo (by omega), Option.bind_some, ← mr_how hr hk, ma_s1]
    by_cases h0 : s 2 k = 0
    · have hkle := ma_ct_le (fun b => decide (s 2 b = 0)) k
      rw [if_pos (decide_eq_true h0), pl k hk h0, Option.bind_some, if_neg]
      intro hh
      rw [decide_eq_true h0, Bool.true_and] at hq
      exact of_decide_eq_false hq ((ma_inj (by omega) (by omega)).mp hh)
    · rw [if_neg (by simpa using h0)]
  · show f_X7_inLine_L2 (f + 1) _ _ m = _
    rw [f_X7_inLine_L2, if_pos (by decide), kb_r0 m, hn0, if_pos (Int32.le_refl _)]
theorem mg_tellWaiting : ag_tellWaiting mi_Inv := by
  intro t m ht h
  obtain ⟨n, hr⟩ := h.1
  have hn := mr_n hr
  have hl := tw_line_len (ma_c (m 2)) 16
  refine ⟨ma_i (tw_line (ma_c (m 2)) 16).length, ml_c m (tw_line (ma_c (m 2)) 16), ml_w (ml_c m (tw_line (ma_c (m 2)) 16)) (tw_line (ma_c (m 2)) 16), ?_, ?_, mi_nx (mi_lined h (by omega) (tw_line_ok _ 16 (by omega)))⟩
  · unfold f_X6_tellWaiting
    rw [ml_c0, Option.bind_some]
    refine ma_loop (fun f k => f_X6_tellWaiting_L9 f (ma_i k) (ml_c m (tw_line (ma_c (m 2)) k))) 16 (fun f k hk => ?_) (fun f => ?_) fm_F 0 (by decide) (by decide)
    · show f_X6_tellWaiting_L9 (f + 1) _ _ = _
      have hlk := tw_line_len (ma_c (m 2)) k
      have o2 : ∀ l, (ml_c m l) 2 = m 2 := fun l => ml_c_o m l (by decide) (by decide)
      rw [f_X6_tellWaiting_L9, if_neg (ma_g0 hk (by decide)), ka_is hk, Option.bind_some, o2, tw_line_s, ma_s1]
      by_cases h0 : ma_c (m 2) 2 k = 0
      · rw [if_pos (decide_eq_true h0), if_pos h0, ml_wait6 hk (by omega), Option.bind_some]
      · rw [if_neg (by simpa using h0), if_neg h0]
    · show f_X6_tellWaiting_L9 (f + 1) _ _ = _
      rw [f_X6_tellWaiting_L9, if_pos ma_g1]
      unfold f_X4_size
      rw [Option.bind_some, ml_size]
  · generalize hmC : ml_c m (tw_line (ma_c (m 2)) 16) = mC
    have h24 : mC 24 = m 24 := by rw [← hmC]; exact ml_c_o m _ (by decide) (by decide)
    have hr2 : mr_rel (700 * t) n (ma_c (m 2)) (ma_w (mC 24)) := by rw [h24]; exact hr
    have hct : ma_ct (fun b => decide (ma_w (mC 24) 2 b = 0)) n = ma_ct (fun b => decide (ma_c (m 2) 2 b = 0)) n := ma_ct_congr n (fun j hj => by rw [mr_how hr2 hj])
    have hple := ma_ct_le (fun b => decide (ma_c (m 2) 2 b = 0)) n
    have o2 : ∀ l, (ml_w mC l) 24 = mC 24 := fun l => ml_w_o mC l (by decide) (by decide)
    have tht : ∀ l, f_X7_brethrenThat (0 : Int32) (ml_w mC l) = some (ma_i (ma_ct (fun b => decide (ma_c (m 2) 2 b = 0)) n)) := fun l => by
      rw [kb_that (n := n) hn (by rw [o2]; exact hr2.2.2.1), o2, hct]
    have e16 : tw_line (ma_c (m 2)) n = tw_line (ma_c (m 2)) 16 := tw_same _ 16 hn (ma_ct_cut 16 hn (fun j h1 h2 => by rw [mr_new2 hr h1 h2]; decide)).symm
    generalize hW : ma_ct (fun b => decide (ma_c (m 2) 2 b = 0)) n = W at hct hple tht
    unfold f_X7_tellWaiting
    rw [ml_w0]
    have e0 : tw_line (ma_c (m 2)) (tw_q (ma_c (m 2)) n 0) = [] := by
      rw [tw_nil]
      by_cases hz : 0 < W
      · exact (tw_qs _ n 0 (by omega)).2.2
      · have hz2 : W = 0 := by omega
        have hle : tw_q (ma_c (m 2)) n 0 ≤ n := by
          unfold tw_q
          rcases ma_ff_spec (fun b => decide (ma_c (m 2) 2 b = 0) && decide (ma_ct (fun b => decide (ma_c (m 2) 2 b = 0)) b = 0)) n 0 with ⟨h1, h2, _⟩ | ⟨h1, _⟩ <;> omega
        rw [hz2] at hW
        exact (ma_ct_0 _).mpr (fun j hj => (ma_ct_0 n).mp hW j (by omega))
    rw [← e0]
    refine ma_loop (fun f p => f_X7_tellWaiting_L7 f (ma_i p) (ml_w mC (tw_line (ma_c (m 2)) (tw_q (ma_c (m 2)) n p)))) W (fun f p hp => ?_) (fun f => ?_) fm_F 0 (Nat.zero_le _) (by unfold fm_F; omega)
    · show f_X7_tellWaiting_L7 (f + 1) _ _ = f_X7_tellWaiting_L7 f _ _
      obtain ⟨q1, q2, q3⟩ := tw_qs (ma_c (m 2)) n p (by omega)
      have hi := kb_inLine (m := ml_w mC (tw_line (ma_c (m 2)) (tw_q (ma_c (m 2)) n p))) (n := n) (p := p) (s := ma_c (m 2)) (B := 700 * t) (by rw [o2]; exact hr2) (by omega)
      have hnext : tw_line (ma_c (m 2)) (tw_q (ma_c (m 2)) n (p + 1)) = tw_line (ma_c (m 2)) (tw_q (ma_c (m 2)) n p + 1) := by
        have hc1 : ma_ct (fun b => decide (ma_c (m 2) 2 b = 0)) (tw_q (ma_c (m 2)) n p + 1) = p + 1 := by rw [ma_ct_s, q3, if_pos (decide_eq_true q2)]
        by_cases hp1 : p + 1 < W
        · obtain ⟨r1, r2, r3⟩ := tw_qs (ma_c (m 2)) n (p + 1) (by omega)
          rcases Nat.le_total (tw_q (ma_c (m 2)) n (p + 1)) (tw_q (ma_c (m 2)) n p + 1) with e | e
          · exact tw_same _ _ e (by rw [r3, hc1])
          · exact (tw_same _ _ e (by rw [r3, hc1])).symm
        · have hqn : tw_q (ma_c (m 2)) n (p + 1) = n := by
            unfold tw_q
            rcases ma_ff_spec (fun b => decide (ma_c (m 2) 2 b = 0) && decide (ma_ct (fun b => decide (ma_c (m 2) 2 b = 0)) b = p + 1)) n 0 with ⟨h1, h2, h3, h4⟩ | ⟨h1, h2⟩
            · simp only [Bool.and_eq_true, decide_eq_true_eq] at h3
              generalize ma_ff (fun b => decide (ma_c (m 2) 2 b = 0) && decide (ma_ct (fun b => decide (ma_c (m 2) 2 b = 0)) b = p + 1)) n 0 = z at h1 h2 h3
              have hz1 : ma_ct (fun b => decide (ma_c (m 2) 2 b = 0)) (z + 1) = p + 2 := by rw [ma_ct_s, h3.2, if_pos (decide_eq_true h3.1)]
              have hmono : ∀ d, ma_ct (fun b => decide (ma_c (m 2) 2 b = 0)) (z + 1) ≤ ma_ct (fun b => decide (ma_c (m 2) 2 b = 0)) (z + 1 + d) := ma_ct_mono _ _
              have := hmono (n - (z + 1))
              have en : z + 1 + (n - (z + 1)) = n := by omega
              rw [en] at this
              omega
            · omega
          rw [hqn]
          exact (tw_same _ n (by omega) (by rw [hc1, hW]; omega)).symm
      have hll := tw_line_len (ma_c (m 2)) (tw_q (ma_c (m 2)) n p)
      rw [hnext, tw_line_s, if_pos q2]
      have hnil := tw_nil (ma_c (m 2)) (tw_q (ma_c (m 2)) n p)
      rw [q3] at hnil
      generalize tw_line (ma_c (m 2)) (tw_q (ma_c (m 2)) n p) = l at hi hll hnil ⊢
      generalize tw_q (ma_c (m 2)) n p = b at hi q1 q2 hll ⊢
      rw [f_X7_tellWaiting_L7, tht, Option.bind_some, if_neg (show ¬ ma_i W ≤ ma_i p by rw [ma_le (by omega) (by omega)]; omega), hi, Option.bind_some, ma_s1]
      by_cases hp0 : p = 0
      · rw [if_pos ((ma_iz (by omega)).mpr hp0), if_pos (hnil.mpr hp0), List.append_nil]
        exact ml_item7 hr2 q1 (by omega) (fun v => f_X7_tellWaiting_L7 f (ma_i (p + 1)) v)
      · rw [if_neg (fun hh => hp0 ((ma_iz (by omega)).mp hh)), if_neg (fun hh => hp0 (hnil.mp hh)), ml_wr (x := (44 : Int32)) (c := 44) rfl (by decide) (by omega), Option.bind_some]
        exact ml_item7 hr2 q1 (by simp only [List.length_append, List.length_singleton]; omega) (fun v => f_X7_tellWaiting_L7 f (ma_i (p + 1)) v)
    · show f_X7_tellWaiting_L7 (f + 1) _ _ = _
      rw [f_X7_tellWaiting_L7, tht, Option.bind_some, if_pos (Int32.le_refl _), ml_wlen]
      have hq : tw_q (ma_c (m 2)) n W = n := by
        unfold tw_q
        rcases ma_ff_spec (fun b => decide (ma_c (m 2) 2 b = 0) && decide (ma_ct (fun b => decide (ma_c (m 2) 2 b = 0)) b = W)) n 0 with ⟨h1, h2, h3, h4⟩ | ⟨h1, h2⟩
        · simp only [Bool.and_eq_true, decide_eq_true_eq] at h3
          generalize ma_ff (fun b => decide (ma_c (m 2) 2 b = 0) && decide (ma_ct (fun b => decide (ma_c (m 2) 2 b = 0)) b = W)) n 0 = z at h1 h2 h3
          have hz1 : ma_ct (fun b => decide (ma_c (m 2) 2 b = 0)) (z + 1) = W + 1 := by rw [ma_ct_s, h3.2, if_pos (decide_eq_true h3.1)]
          have hmono : ∀ d, ma_ct (fun b => decide (ma_c (m 2) 2 b = 0)) (z + 1) ≤ ma_ct (fun b => decide (ma_c (m 2) 2 b = 0)) (z + 1 + d) := ma_ct_mono _ _
          have := hmono (n - (z + 1))
          have en : z + 1 + (n - (z + 1)) = n := by omega
          rw [en] at this
          omega
        · omega
      rw [hq, e16]

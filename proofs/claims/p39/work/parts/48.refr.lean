/-! the reference reads orders -/
def pr_t (C : Nat → Nat) (L : Nat) (m : fm_M) : Prop := m 23 13 = ma_i L ∧ px_t C L (m 29)
theorem pr_t_put {C : Nat → Nat} {L i : Nat} {m : fm_M} {x : Int32} (h : pr_t C L m) (hi : i ≠ 13) : pr_t C L (fm_put m 23 i x) := by
  unfold pr_t at h ⊢
  rw [ma_putn _ (show (29 : Nat) ≠ 23 by decide), ma_put, ka_up]
  unfold upd
  rw [if_neg (Ne.symm hi)]
  exact h
theorem pr_t_put30 {C : Nat → Nat} {L i : Nat} {m : fm_M} {x : Int32} (h : pr_t C L m) : pr_t C L (fm_put m 30 i x) := by
  unfold pr_t at h ⊢
  rw [ma_putn _ (show (29 : Nat) ≠ 30 by decide), ma_putn _ (show (23 : Nat) ≠ 30 by decide)]
  exact h
theorem pr_sign {C : Nat → Nat} {L p : Nat} {m : fm_M} (h : pr_t C L m) (e : m 23 14 = ma_i p) (hp : p < 1000) : f_X7_sign m = some (px_s C p) := by
  obtain ⟨h1, h2⟩ := h
  unfold f_X7_sign
  have hL := h2.1
  rw [h1, e]
  by_cases hpl : p < L
  · rw [if_neg (by rw [ma_le (by omega) (by omega)]; omega), if_pos (ma_in (by omega) (by omega)), ma_cn (by omega), (h2.2.1 p hpl).1]
    unfold px_s
    rw [if_neg ((px_lt h2).mpr hpl)]
  · rw [if_pos (by rw [ma_le (by omega) (by omega)]; omega)]
    unfold px_s
    rw [if_pos (h2.2.2 p (by omega))]
theorem pr_reads {C : Nat → Nat} {L p c : Nat} {m : fm_M} (h : pr_t C L m) (e : m 23 14 = ma_i p) (hp : p < 1000) (hc0 : 0 < c) (hc : c < 1000) : f_X7_reads (ma_i c) m = some (decide (C p = c), if C p = c then fm_put m 23 14 (ma_i (p + 1)) else m) := by
  unfold f_X7_reads
  rw [pr_sign h e hp, Option.bind_some, e, ma_s1]
  by_cases hh : C p = c
  · rw [if_pos ((px_eq h.2 hc0 hc).mpr hh), if_pos hh, decide_eq_true hh]
  · rw [if_neg (fun h3 => hh ((px_eq h.2 hc0 hc).mp h3)), if_neg hh, decide_eq_false hh]
theorem pr_btw {C : Nat → Nat} {L p : Nat} {m m0 : fm_M} (h : pr_t C L m) : f_X7_isBetween (px_s C p) (48 : Int32) (57 : Int32) m0 = some (px_dg C p) := by
  rw [kb_between]
  unfold px_dg
  congr 1
  congr 1
  · apply decide_eq_decide.mpr
    rw [px_l48 h.2]; omega
  · apply decide_eq_decide.mpr
    rw [px_g57 h.2]; omega
def pr_w : List Nat → (fm_M → Option (Bool × fm_M)) → fm_M → Option (Bool × fm_M)
  | [], K, m => K m
  | c :: cs, K, m => (f_X7_reads (ma_i c) m).bind fun v => if v.1 = true then pr_w cs K v.2 else some (false, v.2)
theorem pr_word {C : Nat → Nat} {L : Nat} {K : fm_M → Option (Bool × fm_M)} : ∀ (w : List Nat) (p : Nat) (m : fm_M), (∀ c ∈ w, 0 < c ∧ c < 1000) → p ≤ L → pr_t C L m → m 23 14 = ma_i p → pr_w w K m = if (px_word C w p).1 = true then K (fm_put m 23 14 (ma_i (px_word C w p).2)) else some (false, fm_put m 23 14 (ma_i (px_word C w p).2)) := by
  intro w
  induction w with
  | nil =>
    intro p m _ hp h e
    unfold pr_w px_word
    rw [if_pos rfl, ma_putid e]
  | cons c cs ih =>
    intro p m hw hp h e
    have h60 := h.2.1
    have hc := hw c List.mem_cons_self
    unfold pr_w px_word
    rw [pr_reads h e (by omega) hc.1 hc.2, Option.bind_some]
    by_cases hh : C p = c
    · have hpl := (px_lt h.2 (p := p)).mp (by omega)
      simp only [if_pos hh]
      rw [if_pos (decide_eq_true hh), ih (p + 1) _ (fun c hc => hw c (List.mem_cons_of_mem _ hc)) (by omega) (pr_t_put h (by decide)) (ma_putg _ _ _ _), ma_putup]
    · simp only [if_neg hh]
      rw [if_neg (by simpa using hh), if_neg (by decide), ma_putid e]
theorem px_word_app (C : Nat → Nat) (c : Nat) : ∀ (w : List Nat) (p : Nat), px_word C (w ++ [c]) p = if (px_word C w p).1 = true then (if C (px_word C w p).2 = c then (true, (px_word C w p).2 + 1) else (false, (px_word C w p).2)) else (false, (px_word C w p).2) := by
  intro w
  induction w with
  | nil =>
    intro p
    rw [List.nil_append]
    unfold px_word
    rw [if_pos rfl]
    by_cases h : C p = c
    · rw [if_pos h]; simp only [px_word, if_pos h]
    · rw [if_neg h]; simp only [if_neg h]
  | cons d w ih =>
    intro p
    rw [List.cons_append]
    unfold px_word
    by_cases h : C p = d
    · rw [if_pos h, if_pos h, ih]
    · rw [if_neg h, if_neg h]; rfl
/-- the digits of a number -/
theorem pr_dig {C : Nat → Nat} {L s D : Nat} (hs : s < 2) : ∀ (d j v p f : Nat) (m : fm_M), j + d = D → d < f → D ≤ 3 → v < 10 ^ j → p ≤ L → pr_t C L m → m 23 14 = ma_i p → m 30 s = ma_i v → f_X7_readsNumber_L34 f (ma_i s) (ma_i D) (ma_i j) m = some (true, fm_put (fm_put m 30 s (ma_i (px_dig C d v p).1)) 23 14 (ma_i (px_dig C d v p).2)) := by
  intro d
  induction d with
  | zero =>
    intro j v p f m hj hf hD hv hp h e ev
    obtain ⟨f, rfl⟩ : ∃ k, f = k + 1 := ⟨f - 1, by omega⟩
    rw [f_X7_readsNumber_L34, if_pos (show ma_i D ≤ ma_i j from (ma_le (by omega) (by omega)).mpr (by omega))]
    unfold px_dig
    rw [ma_putid ev, ma_putid e]
  | succ d ih =>
    intro j v p f m hj hf hD hv hp h e ev
    obtain ⟨f, rfl⟩ : ∃ k, f = k + 1 := ⟨f - 1, by omega⟩
    have h60 := h.2.1
    have h126 := px_le h.2 p
    rw [f_X7_readsNumber_L34, if_neg (show ¬ ma_i D ≤ ma_i j from fun hh => by have := (ma_le (by omega) (by omega)).mp hh; omega), pr_sign h e (by omega), Option.bind_some, pr_btw h, Option.bind_some]
    unfold px_dig
    cases hd : px_dg C p with
    | false =>
      rw [if_neg (by decide), if_neg (by decide), ma_putid ev, ma_putid e]
    | true =>
      have e2 := hd
      unfold px_dg at e2
      simp only [Bool.and_eq_true, decide_eq_true_eq] at e2
      have hpl := (px_lt h.2 (p := p)).mp (by omega)
      rw [if_pos rfl, if_pos (ma_in hs (by omega)), Option.bind_some, if_pos (ma_in hs (by omega)), if_pos rfl, ma_cn (by omega), ev]
      have hsg : px_s C p = ma_i (C p) := by unfold px_s; rw [if_neg (by omega)]
      have ev2 : (10 : Int32) * ma_i v + px_s C p - (48 : Int32) = ma_i (v * 10 + C p - 48) := by
        have e1 : (10 : Int32) * ma_i v = ma_i (10 * v) := ma_mul 10 v
        rw [hsg, e1, ma_add, Nat.mul_comm]
        exact ma_sub (b := 48) (by omega)
      have hv2 : v * 10 + C p - 48 < 10 ^ (j + 1) := by rw [Nat.pow_succ]; omega
      have ep : ∀ x, (fm_put m 30 s x) 23 14 = ma_i p := fun x => by rw [ma_putn _ (by decide)]; exact e
      rw [ev2, ep, ma_s1, ma_s1]
      have e30 : (fm_put (fm_put m 30 s (ma_i (v * 10 + C p - 48))) 23 14 (ma_i (p + 1))) 30 s = ma_i (v * 10 + C p - 48) := by rw [ma_putn _ (by decide)]; exact ma_putg _ _ _ _
      rw [ih (j + 1) (v * 10 + C p - 48) (p + 1) f _ (by omega) (by omega) hD hv2 (by omega) (pr_t_put (pr_t_put30 h) (by decide)) (ma_putg _ _ _ _) e30]
      congr 2
      rw [ma_put, ma_put, ma_put, ma_put, ma_put, ma_put]
      simp only [ka_up, ka_un _ (show (23 : Nat) ≠ 30 by decide), ka_un _ (show (30 : Nat) ≠ 23 by decide)]
      rw [ma_pc _ (show (23 : Nat) ≠ 30 by decide), ma_pp, ma_pp, upd_2, upd_2]
def pr_fr (m m2 : fm_M) : Prop := (∀ k, k ≠ 23 → k ≠ 30 → m2 k = m k) ∧ ∀ j, j ≠ 14 → j ≠ 16 → m2 23 j = m 23 j
theorem pr_fr_rf (m : fm_M) : pr_fr m m := ⟨fun _ _ _ => rfl, fun _ _ _ => rfl⟩
theorem pr_fr_tr {m m1 m2 : fm_M} (h1 : pr_fr m m1) (h2 : pr_fr m1 m2) : pr_fr m m2 := ⟨fun k a b => (h2.1 k a b).trans (h1.1 k a b), fun j a b => (h2.2 j a b).trans (h1.2 j a b)⟩
theorem pr_fr_put (m : fm_M) (x : Int32) : pr_fr m (fm_put m 23 14 x) := ⟨fun k a _ => ma_putn _ a _ _, fun j a _ => by rw [ma_put, ka_up]; unfold upd; rw [if_neg a]⟩
theorem pr_fr_put16 (m : fm_M) (x : Int32) : pr_fr m (fm_put m 23 16 x) := ⟨fun k a _ => ma_putn _ a _ _, fun j _ a => by rw [ma_put, ka_up]; unfold upd; rw [if_neg a]⟩
theorem pr_fr_put30 (m : fm_M) (i : Nat) (x : Int32) : pr_fr m (fm_put m 30 i x) := ⟨fun k _ a => ma_putn _ a _ _, fun j _ _ => by rw [ma_putn _ (by decide)]⟩
theorem pr_fr_t {C : Nat → Nat} {L : Nat} {m m2 : fm_M} (h : pr_t C L m) (hf : pr_fr m m2) : pr_t C L m2 := by
  unfold pr_t at h ⊢
  rw [hf.1 29 (by decide) (by decide), hf.2 13 (by decide) (by decide)]
  exact h
/-- a blank and a number -/
theorem pr_number {C : Nat → Nat} {L s d p : Nat} {m : fm_M} (hs : s < 2) (hd0 : 0 < d) (hd : d ≤ 3) (hp : p ≤ L) (h : pr_t C L m) (e : m 23 14 = ma_i p) : ∃ m2, f_X7_readsNumber (ma_i s) (ma_i d) m = some (decide (C p = 32) && px_dg C (p + 1), m2) ∧ pr_fr m m2 ∧ m2 23 16 = m 23 16 ∧ (C p ≠ 32 → m2 23 14 = ma_i p) ∧ (C p = 32 → px_dg C (p + 1) = false → m2 23 14 = ma_i (p + 1)) ∧ (C p = 32 → px_dg C (p + 1) = true → m2 23 14 = ma_i (px_dig C d 0 (p + 1)).2 ∧ m2 30 s = ma_i (px_dig C d 0 (p + 1)).1 ∧ ∀ j, j ≠ s → m2 30 j = m 30 j) := by
  have h60 := h.2.1
  unfold f_X7_readsNumber
  have hb := pr_reads h e (by omega) (c := 32) (by decide) (by decide)
  have hb : f_X7_reads (32 : Int32) m = some (decide (C p = 32), if C p = 32 then fm_put m 23 14 (ma_i (p + 1)) else m) := hb
  rw [hb, Option.bind_some]
  by_cases c32 : C p = 32
  · have hpl := (px_lt h.2 (p := p)).mp (by omega)
    simp only [if_pos c32]
    have h2 : pr_t C L (fm_put m 23 14 (ma_i (p + 1))) := pr_t_put h (by decide)
    have e16 : ∀ x, (fm_put m 23 14 x) 23 16 = m 23 16 := fun x => by rw [ma_put, ka_up]; unfold upd; rw [if_neg (by decide)]
    rw [if_pos (decide_eq_true c32), pr_sign h2 (ma_putg _ _ _ _) (by omega), Option.bind_some, pr_btw h2, Option.bind_some, decide_eq_true c32, Bool.true_and]
    cases hdg : px_dg C (p + 1) with
    | false =>
      rw [if_neg (by decide)]
      exact ⟨_, rfl, pr_fr_put _ _, e16 _, fun hh => absurd c32 hh, fun _ _ => ma_putg _ _ _ _, fun _ hh => by cases hh⟩
    | true =>
      rw [if_pos rfl, if_pos (ma_in hs (by omega)), ma_cn (by omega)]
      have h3 : pr_t C L (fm_put (fm_put m 23 14 (ma_i (p + 1))) 30 s 0) := pr_t_put30 h2
      have key := pr_dig (C := C) (L := L) (s := s) (D := d) hs d 0 0 (p + 1) fm_F (fm_put (fm_put m 23 14 (ma_i (p + 1))) 30 s 0) (by omega) (by unfold fm_F; omega) hd (by decide) (by omega) h3 (by rw [ma_putn _ (by decide)]; exact ma_putg _ _ _ _) (ma_putg _ _ _ _)
      have key : f_X7_readsNumber_L34 fm_F (ma_i s) (ma_i d) (0 : Int32) (fm_put (fm_put m 23 14 (ma_i (p + 1))) 30 s 0) = some (true, fm_put (fm_put (fm_put (fm_put m 23 14 (ma_i (p + 1))) 30 s 0) 30 s (ma_i (px_dig C d 0 (p + 1)).1)) 23 14 (ma_i (px_dig C d 0 (p + 1)).2)) := key
      rw [key]
      refine ⟨_, rfl, pr_fr_tr (pr_fr_tr (pr_fr_tr (pr_fr_put m _) (pr_fr_put30 _ _ _)) (pr_fr_put30 _ _ _)) (pr_fr_put _ _), ?_, fun hh => absurd c32 hh, (fun _ hh => by cases hh), fun _ _ => ⟨ma_putg _ _ _ _, ?_, fun j hj => ?_⟩⟩
      · rw [ma_put, ka_up]; unfold upd; rw [if_neg (by decide), ma_putn _ (by decide), ma_putn _ (by decide)]; exact e16 _
      · rw [ma_putn _ (by decide)]; exact ma_putg _ _ _ _
      · rw [ma_putn _ (by decide), ma_put, ka_up]; unfold upd; rw [if_neg hj, ma_put, ka_up]; unfold upd; rw [if_neg hj, ma_putn _ (by decide)]
  · simp only [if_neg c32]
    rw [if_neg (by simpa using c32), decide_eq_false c32]
    exact ⟨m, rfl, pr_fr_rf m, rfl, fun _ => e, fun hh => absurd hh c32, fun hh => absurd hh c32⟩
/-- an order behind its word -/
def px_fin (C : Nat → Nat) (k q : Nat) : Bool × Nat × Nat × Nat × Nat :=
  if px_dg C q = false then (false, q, 0, 0, 0)
  else if px_d2 k = 0 then (true, (px_dig C (px_d1 k) 0 q).2, k, (px_dig C (px_d1 k) 0 q).1, 0)
  else if C (px_dig C (px_d1 k) 0 q).2 ≠ 32 then (false, (px_dig C (px_d1 k) 0 q).2, 0, 0, 0)
  else if px_dg C ((px_dig C (px_d1 k) 0 q).2 + 1) = false then (false, (px_dig C (px_d1 k) 0 q).2 + 1, 0, 0, 0)
  else (true, (px_dig C (px_d2 k) 0 ((px_dig C (px_d1 k) 0 q).2 + 1)).2, k, (px_dig C (px_d1 k) 0 q).1, (px_dig C (px_d2 k) 0 ((px_dig C (px_d1 k) 0 q).2 + 1)).1)
theorem px_ord_fin (C : Nat → Nat) (p : Nat) : px_ord C p = if px_kd (C p) = 8 then (false, p, 0, 0, 0) else if (px_word C (px_wd (px_kd (C p))) p).1 = false then (false, (px_word C (px_wd (px_kd (C p))) p).2, 0, 0, 0) else px_fin C (px_kd (C p)) (px_word C (px_wd (px_kd (C p))) p).2 := rfl
def pr_res (o : Bool × Nat × Nat × Nat × Nat) (m m2 : fm_M) : Prop := m2 23 14 = ma_i o.2.1 ∧ pr_fr m m2 ∧ (o.1 = true → m2 23 16 = ma_i o.2.2.1 ∧ m2 30 0 = ma_i o.2.2.2.1 ∧ (px_d2 o.2.2.1 ≠ 0 → m2 30 1 = ma_i o.2.2.2.2))
theorem pr_two {C : Nat → Nat} {L k p : Nat} {m : fm_M} (hk : k < 8) (hp : p ≤ L) (h : pr_t C L m) (e : m 23 14 = ma_i p) : ∃ m2, (f_X7_readsTwo (ma_i k) (ma_i (px_d1 k)) (ma_i (px_d2 k)) m).bind (fun v => if v.1 = true then some (true, v.2) else some (false, v.2)) = some ((if C p = 32 then px_fin C k (p + 1) else (false, p, 0, 0, 0)).1, m2) ∧ pr_res (if C p = 32 then px_fin C k (p + 1) else (false, p, 0, 0, 0)) m m2 := by
  obtain ⟨w1, w2, w3, w4, w5⟩ := px_wd_ok k hk
  unfold f_X7_readsTwo
  have h1 : pr_t C L (fm_put m 23 16 (ma_i k)) := pr_t_put h (by decide)
  have e1 : (fm_put m 23 16 (ma_i k)) 23 14 = ma_i p := by rw [ma_put, ka_up]; unfold upd; rw [if_neg (by decide)]; exact e
  have g16 : (fm_put m 23 16 (ma_i k)) 23 16 = ma_i k := ma_putg _ _ _ _
  have fr1 := pr_fr_put16 m (ma_i k)
  generalize fm_put m 23 16 (ma_i k) = m1 at h1 e1 g16 fr1
  obtain ⟨m2, n1, n2, n3, n4, n5, n6⟩ := pr_number (s := 0) (d := px_d1 k) (by decide) (by omega) w4 hp h1 e1
  have n1 : f_X7_readsNumber (0 : Int32) (ma_i (px_d1 k)) m1 = some (decide (C p = 32) && px_dg C (p + 1), m2) := n1
  rw [n1, Option.bind_some]
  by_cases c32 : C p = 32
  · rw [if_pos c32, decide_eq_true c32, Bool.true_and]
    have hpl := (px_lt h.2 (p := p)).mp (by omega)
    unfold px_fin
    cases hdg : px_dg C (p + 1) with
    | false =>
      dsimp only
      rw [if_neg (show ¬ (false = true) by decide), if_pos rfl]
      exact ⟨m2, rfl, n5 c32 hdg, pr_fr_tr fr1 n2, fun hh => by cases hh⟩
    | true =>
      obtain ⟨a1, a2, a3⟩ := n6 c32 hdg
      obtain ⟨y1, y2, y3, y4⟩ := px_dig_le h.2 (px_d1 k) 0 (p + 1) (by omega)
      rw [if_pos rfl, if_neg (show ¬ (true = false) by decide)]
      generalize hv1 : (px_dig C (px_d1 k) 0 (p + 1)).1 = v1 at a2
      generalize hq2 : (px_dig C (px_d1 k) 0 (p + 1)).2 = q2 at a1 y2
      by_cases d2 : px_d2 k = 0
      · rw [if_pos (show ma_i (px_d2 k) = 0 by rw [d2]; rfl), if_pos d2]
        exact ⟨m2, rfl, a1, pr_fr_tr fr1 n2, fun _ => ⟨by rw [n3]; exact g16, a2, fun hh => absurd d2 hh⟩⟩
      · rw [if_neg (show ¬ ma_i (px_d2 k) = (0 : Int32) from fun hh => d2 ((ma_inj (b := 0) (by omega) (by decide)).mp hh)), if_neg d2]
        have h2 := pr_fr_t h1 n2
        obtain ⟨m3, k1, k2, k3, k4, k5, k6⟩ := pr_number (s := 1) (d := px_d2 k) (by decide) (by omega) (by omega) y2 h2 a1
        have k1 : f_X7_readsNumber (1 : Int32) (ma_i (px_d2 k)) m2 = some (decide (C q2 = 32) && px_dg C (q2 + 1), m3) := k1
        dsimp only
        rw [k1, Option.bind_some]
        by_cases c2 : C q2 = 32
        · rw [decide_eq_true c2, Bool.true_and, if_neg (show ¬ (C q2 ≠ 32) from fun hh => hh c2)]
          cases hdg2 : px_dg C (q2 + 1) with
          | false =>
            rw [if_neg (show ¬ (false = true) by decide), if_pos rfl]
            exact ⟨m3, rfl, k5 c2 hdg2, pr_fr_tr fr1 (pr_fr_tr n2 k2), fun hh => by cases hh⟩
          | true =>
            obtain ⟨b1, b2, b3⟩ := k6 c2 hdg2
            rw [if_pos rfl, if_neg (show ¬ (true = false) by decide)]
            exact ⟨m3, rfl, b1, pr_fr_tr fr1 (pr_fr_tr n2 k2), fun _ => ⟨by rw [k3, n3]; exact g16, by rw [b3 0 (by decide)]; exact a2, fun _ => b2⟩⟩
        · rw [decide_eq_false c2, Bool.false_and, if_neg (show ¬ (false = true) by decide), if_pos c2]
          exact ⟨m3, rfl, k4 c2, pr_fr_tr fr1 (pr_fr_tr n2 k2), fun hh => by cases hh⟩
  · rw [if_neg c32, decide_eq_false c32, Bool.false_and, if_neg (show ¬ (false = true) by decide)]
    exact ⟨m2, rfl, n4 c32, pr_fr_tr fr1 n2, fun hh => by cases hh⟩
def pr_K (k : Nat) (m : fm_M) : Option (Bool × fm_M) := (f_X7_readsTwo (ma_i k) (ma_i (px_d1 k)) (ma_i (px_d2 k)) m).bind fun v => if v.1 = true then some (true, v.2) else some (false, v.2)
theorem pr_rest {C : Nat → Nat} {L k p c : Nat} {w : List Nat} {m : fm_M} (hk : k < 8) (hwd : px_wd k = c :: (w ++ [32])) (hkd : px_kd c = k) (hcp : C p = c) (hok : ∀ c ∈ w, 0 < c ∧ c < 1000) (hp : p < L) (h : pr_t C L m) (e : m 23 14 = ma_i p) : ∃ m2, pr_w w (pr_K k) (fm_put m 23 14 (ma_i (p + 1))) = some ((px_ord C p).1, m2) ∧ pr_res (px_ord C p) m m2 := by
  have h1 : pr_t C L (fm_put m 23 14 (ma_i (p + 1))) := pr_t_put h (by decide)
  rw [pr_word w (p + 1) _ hok (by omega) h1 (ma_putg _ _ _ _), ma_putup, px_ord_fin, hcp, hkd, if_neg (show ¬ k = 8 by omega)]
  have ew : px_word C (px_wd k) p = px_word C (w ++ [32]) (p + 1) := by
    rw [hwd]
    show (if C p = c then px_word C (w ++ [32]) (p + 1) else (false, p)) = _
    rw [if_pos hcp]
  obtain ⟨x1, x2, x3⟩ := px_word_le h.2 w (p + 1) (fun c hc => by have := hok c hc; omega) (by omega)
  rw [ew, px_word_app]
  cases hw : (px_word C w (p + 1)).1 with
  | false =>
    simp only [Bool.false_eq_true, if_false, if_true]
    exact ⟨_, rfl, ma_putg _ _ _ _, pr_fr_put _ _, fun hh => by cases hh⟩
  | true =>
    rw [if_pos rfl, if_pos rfl]
    generalize (px_word C w (p + 1)).2 = q at x1 x2
    have h2 : pr_t C L (fm_put m 23 14 (ma_i q)) := pr_t_put h (by decide)
    obtain ⟨m2, r1, r2, r3, r4⟩ := pr_two hk x2 h2 (ma_putg _ _ _ _)
    by_cases c32 : C q = 32
    · rw [if_pos c32] at r1 r2 r4
      simp only [if_pos c32]
      rw [if_neg (show ¬ (true = false) by decide)]
      exact ⟨m2, r1, r2, pr_fr_tr (pr_fr_put m _) r3, r4⟩
    · rw [if_neg c32] at r1 r2 r4
      simp only [if_neg c32, if_true]
      exact ⟨m2, r1, r2, pr_fr_tr (pr_fr_put m _) r3, r4⟩
theorem pr_ord {C : Nat → Nat} {L p : Nat} {m : fm_M} (hp : p ≤ L) (h : pr_t C L m) (e : m 23 14 = ma_i p) : ∃ m2, f_X7_readsOrder m = some ((px_ord C p).1, m2) ∧ pr_res (px_ord C p) m m2 := by
  have h60 := h.2.1
  have rd : ∀ c, 0 < c → c < 1000 → f_X7_reads (ma_i c) m = some (decide (C p = c), if C p = c then fm_put m 23 14 (ma_i (p + 1)) else m) := fun c c0 c1 => pr_reads h e (by omega) c0 c1
  unfold f_X7_readsOrder
  have r118 : f_X7_reads (118 : Int32) m = some (decide (C p = 118), if C p = 118 then fm_put m 23 14 (ma_i (p + 1)) else m) := rd 118 (by decide) (by decide)
  rw [r118, Option.bind_some]
  by_cases c118 : C p = 118
  · have hpl := (px_lt h.2 (p := p)).mp (by omega)
    simp only [if_pos c118]
    rw [if_pos (decide_eq_true c118)]
    exact pr_rest (k := 0) (w := [111, 105, 99, 101]) (by decide) rfl (by decide) c118 (by decide) hpl h e
  simp only [if_neg c118]
  rw [if_neg (show ¬ (decide (C p = 118) = true) by simpa using c118)]
  have r99 : f_X7_reads (99 : Int32) m = some (decide (C p = 99), if C p = 99 then fm_put m 23 14 (ma_i (p + 1)) else m) := rd 99 (by decide) (by decide)
  rw [r99, Option.bind_some]
  by_cases c99 : C p = 99
  · have hpl := (px_lt h.2 (p := p)).mp (by omega)
    simp only [if_pos c99]
    rw [if_pos (decide_eq_true c99)]
    exact pr_rest (k := 1) (w := [104, 111, 111, 115, 101]) (by decide) rfl (by decide) c99 (by decide) hpl h e
  simp only [if_neg c99]
  rw [if_neg (show ¬ (decide (C p = 99) = true) by simpa using c99)]
  have r108 : f_X7_reads (108 : Int32) m = some (decide (C p = 108), if C p = 108 then fm_put m 23 14 (ma_i (p + 1)) else m) := rd 108 (by decide) (by decide)
  rw [r108, Option.bind_some]
  by_cases c108 : C p = 108
  · have hpl := (px_lt h.2 (p := p)).mp (by omega)
    simp only [if_pos c108]
    rw [if_pos (decide_eq_true c108)]
    exact pr_rest (k := 2) (w := [101, 97, 118, 101]) (by decide) rfl (by decide) c108 (by decide) hpl h e
  simp only [if_neg c108]
  rw [if_neg (show ¬ (decide (C p = 108) = true) by simpa using c108)]
  have r98 : f_X7_reads (98 : Int32) m = some (decide (C p = 98), if C p = 98 then fm_put m 23 14 (ma_i (p + 1)) else m) := rd 98 (by decide) (by decide)
  rw [r98, Option.bind_some]
  by_cases c98 : C p = 98
  · have hpl := (px_lt h.2 (p := p)).mp (by omega)
    simp only [if_pos c98]
    rw [if_pos (decide_eq_true c98)]
    exact pr_rest (k := 3) (w := [114, 101, 97, 99, 104]) (by decide) rfl (by decide) c98 (by decide) hpl h e
  simp only [if_neg c98]
  rw [if_neg (show ¬ (decide (C p = 98) = true) by simpa using c98)]
  have r112 : f_X7_reads (112 : Int32) m = some (decide (C p = 112), if C p = 112 then fm_put m 23 14 (ma_i (p + 1)) else m) := rd 112 (by decide) (by decide)
  rw [r112, Option.bind_some]
  by_cases c112 : C p = 112
  · have hpl := (px_lt h.2 (p := p)).mp (by omega)
    simp only [if_pos c112]
    rw [if_pos (decide_eq_true c112)]
    exact pr_rest (k := 4) (w := [97, 114, 100, 111, 110]) (by decide) rfl (by decide) c112 (by decide) hpl h e
  simp only [if_neg c112]
  rw [if_neg (show ¬ (decide (C p = 112) = true) by simpa using c112)]
  have r102 : f_X7_reads (102 : Int32) m = some (decide (C p = 102), if C p = 102 then fm_put m 23 14 (ma_i (p + 1)) else m) := rd 102 (by decide) (by decide)
  rw [r102, Option.bind_some]
  by_cases c102 : C p = 102
  · have hpl := (px_lt h.2 (p := p)).mp (by omega)
    simp only [if_pos c102]
    rw [if_pos (decide_eq_true c102)]
    exact pr_rest (k := 5) (w := [101, 97, 115, 116]) (by decide) rfl (by decide) c102 (by decide) hpl h e
  simp only [if_neg c102]
  rw [if_neg (show ¬ (decide (C p = 102) = true) by simpa using c102)]
  have r103 : f_X7_reads (103 : Int32) m = some (decide (C p = 103), if C p = 103 then fm_put m 23 14 (ma_i (p + 1)) else m) := rd 103 (by decide) (by decide)
  rw [r103, Option.bind_some]
  by_cases c103 : C p = 103
  · have hpl := (px_lt h.2 (p := p)).mp (by omega)
    simp only [if_pos c103]
    rw [if_pos (decide_eq_true c103)]
    exact pr_rest (k := 6) (w := [105, 102, 116]) (by decide) rfl (by decide) c103 (by decide) hpl h e
  simp only [if_neg c103]
  rw [if_neg (show ¬ (decide (C p = 103) = true) by simpa using c103)]
  have r119 : f_X7_reads (119 : Int32) m = some (decide (C p = 119), if C p = 119 then fm_put m 23 14 (ma_i (p + 1)) else m) := rd 119 (by decide) (by decide)
  rw [r119, Option.bind_some]
  by_cases c119 : C p = 119
  · have hpl := (px_lt h.2 (p := p)).mp (by omega)
    simp only [if_pos c119]
    rw [if_pos (decide_eq_true c119)]
    exact pr_rest (k := 7) (w := [101, 101, 107, 115]) (by decide) rfl (by decide) c119 (by decide) hpl h e
  simp only [if_neg c119]
  rw [if_neg (show ¬ (decide (C p = 119) = true) by simpa using c119)]
  have k8 : px_kd (C p) = 8 := by
    unfold px_kd
    rw [if_neg c98, if_neg c99, if_neg c102, if_neg c103, if_neg c108, if_neg c112, if_neg c118, if_neg c119]
  rw [px_ord_fin, if_pos k8]
  exact ⟨m, rfl, e, pr_fr_rf m, fun hh => by cases hh⟩

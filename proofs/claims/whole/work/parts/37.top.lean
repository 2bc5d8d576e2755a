/-! THE INVARIANT of the law's loop, and the changes -/
def mi_h (B : Nat) (st un : Nat → Int32) (nx h fi : Nat) : Prop := h ≤ 8 ∧ nx < 8 ∧ fi < 8 ∧ ∀ i, i < h → ∃ n, mr_rel B n (ma_c (fun j => st (294 * ((nx + 8 - h + i) % 8) + j))) (ma_w (fun j => un (320 * ((fi + i) % 8) + j)))
def mi_hist (B : Nat) (m : fm_M) : Prop := ∃ nx h fi, m 12 1 = ma_i nx ∧ m 12 2 = ma_i h ∧ m 23 8 = ma_i h ∧ m 23 9 = ma_i fi ∧ mi_h B (m 13) (m 25) nx h fi
def mi_text (m : fm_M) : Prop := ∃ L, L ≤ 60 ∧ m 18 1 = ma_i L ∧ m 23 13 = ma_i L ∧ ∀ i, i < L → m 19 i = m 29 i ∧ ∃ c, 32 ≤ c ∧ c ≤ 126 ∧ m 19 i = ma_i c
def mi_line (m : fm_M) : Prop := ∃ L, L ≤ 128 ∧ m 20 1 = ma_i L ∧ m 23 19 = ma_i L ∧ ∀ i, i < L → m 21 i = m 31 i ∧ ∃ c, c < 256 ∧ m 21 i = ma_i c
def mi_save (B : Nat) (m : fm_M) : Prop := (m 0 9 = 0 ∧ m 23 10 = 0) ∨ (m 0 9 ≠ 0 ∧ m 23 10 ≠ 0 ∧ ∃ n, mr_rel B n (ma_c (m 4)) (ma_w (m 26)))
def mi_i (B : Nat) (m : fm_M) : Prop := (∃ n, mr_rel B n (ma_c (m 2)) (ma_w (m 24))) ∧ mi_save B m ∧ (m 0 10 = m 23 0 ∧ m 0 11 = m 23 1) ∧ mi_hist B m ∧ mi_text m ∧ mi_line m
theorem mi_h_mono {B B2 : Nat} {st un : Nat → Int32} {nx h fi : Nat} (hB : B ≤ B2) (hh : mi_h B st un nx h fi) : mi_h B2 st un nx h fi := by
  obtain ⟨h1, h2, h3, h4⟩ := hh
  refine ⟨h1, h2, h3, fun i hi => ?_⟩
  obtain ⟨n, hr⟩ := h4 i hi
  exact ⟨n, mr_mono hr hB⟩
theorem mi_mono {B B2 : Nat} {m : fm_M} (hB : B ≤ B2) (h : mi_i B m) : mi_i B2 m := by
  obtain ⟨⟨n, h1⟩, h2, h3, ⟨nx, hh, fi, a1, a2, a3, a4, a5⟩, h5, h6⟩ := h
  refine ⟨⟨n, mr_mono h1 hB⟩, ?_, h3, ⟨nx, hh, fi, a1, a2, a3, a4, mi_h_mono hB a5⟩, h5, h6⟩
  rcases h2 with h2 | ⟨b1, b2, n2, b3⟩
  · exact Or.inl h2
  · exact Or.inr ⟨b1, b2, n2, mr_mono b3 hB⟩
/-- what the rest of the invariant looks at -/
def mi_same (m m2 : fm_M) : Prop := m2 4 = m 4 ∧ m2 18 = m 18 ∧ m2 19 = m 19 ∧ m2 20 = m 20 ∧ m2 21 = m 21 ∧ m2 26 = m 26 ∧ m2 29 = m 29 ∧ m2 31 = m 31 ∧ m2 0 9 = m 0 9 ∧ m2 23 10 = m 23 10 ∧ m2 23 13 = m 23 13 ∧ m2 23 19 = m 23 19
theorem mi_rest {B : Nat} {m m2 : fm_M} (h : mi_i B m) (e : mi_same m m2) : mi_save B m2 ∧ mi_text m2 ∧ mi_line m2 := by
  obtain ⟨h1, h2, h3, h4, h5, h6⟩ := h
  obtain ⟨e4, e18, e19, e20, e21, e26, e29, e31, e09, e10, e13, e19'⟩ := e
  refine ⟨?_, ?_, ?_⟩
  · unfold mi_save at h2 ⊢
    rw [e09, e10, e4, e26]
    exact h2
  · unfold mi_text at h5 ⊢
    rw [e18, e13, e19, e29]
    exact h5
  · unfold mi_line at h6 ⊢
    rw [e20, e19', e21, e31]
    exact h6
theorem mh_push {B : Nat} {st un r w : Nat → Int32} {nx h fi n : Nat} (hh : mi_h B st un nx h fi) (hr : mr_rel B n (ma_c r) (ma_w w)) : mi_h B (va_cpy r st 0 (294 * nx) 294) (va_cpy w un 0 (320 * (((if h = 8 then (fi + 1) % 8 else fi) + (if h = 8 then 7 else h)) % 8)) 320) ((nx + 1) % 8) ((if h = 8 then 7 else h) + 1) (if h = 8 then (fi + 1) % 8 else fi) := by
  obtain ⟨h8, nx8, fi8, hall⟩ := hh
  generalize hfi : (if h = 8 then (fi + 1) % 8 else fi) = fi2
  generalize hh2 : (if h = 8 then 7 else h) = h2
  have hh2' : h2 ≤ 7 := by rw [← hh2]; split <;> omega
  have hfi' : fi2 < 8 := by rw [← hfi]; split <;> omega
  refine ⟨by omega, by omega, hfi', fun i hi => ?_⟩
  by_cases e : i = h2
  · subst e
    refine ⟨n, ?_⟩
    have s1 : ((nx + 1) % 8 + 8 - (i + 1) + i) % 8 = nx := by omega
    have c1 : ma_c (fun j => va_cpy r st 0 (294 * nx) 294 (294 * (((nx + 1) % 8 + 8 - (i + 1) + i) % 8) + j)) = ma_c r := by
      refine ma_c_eq (fun j hj => ?_)
      show va_cpy r st 0 (294 * nx) 294 _ = _
      unfold va_cpy
      rw [s1, if_pos (by omega)]
      congr 1
      omega
    have c2 : ma_w (fun j => va_cpy w un 0 (320 * ((fi2 + i) % 8)) 320 (320 * ((fi2 + i) % 8) + j)) = ma_w w := by
      refine ma_w_eq (fun j hj => ?_)
      show va_cpy w un 0 (320 * ((fi2 + i) % 8)) 320 _ = _
      unfold va_cpy
      rw [if_pos (by omega)]
      congr 1
      omega
    rw [c1, c2]
    exact hr
  · obtain ⟨i2, hi2, q1, q2⟩ : ∃ i2, i2 < h ∧ (nx + 8 - h + i2) % 8 = ((nx + 1) % 8 + 8 - (h2 + 1) + i) % 8 ∧ (fi + i2) % 8 = (fi2 + i) % 8 := by
      by_cases h88 : h = 8
      · rw [if_pos h88] at hh2 hfi
        exact ⟨i + 1, by omega, by omega, by omega⟩
      · rw [if_neg h88] at hh2 hfi
        exact ⟨i, by omega, by omega, by omega⟩
    obtain ⟨n2, hr2⟩ := hall i2 hi2
    refine ⟨n2, ?_⟩
    have d1 : ((nx + 1) % 8 + 8 - (h2 + 1) + i) % 8 ≠ nx := by omega
    have d2 : (fi2 + i) % 8 ≠ (fi2 + h2) % 8 := by omega
    have c1 : ma_c (fun j => va_cpy r st 0 (294 * nx) 294 (294 * (((nx + 1) % 8 + 8 - (h2 + 1) + i) % 8) + j)) = ma_c (fun j => st (294 * ((nx + 8 - h + i2) % 8) + j)) := by
      refine ma_c_eq (fun j hj => ?_)
      show va_cpy r st 0 (294 * nx) 294 _ = _
      unfold va_cpy
      rw [q1, if_neg (by omega)]
    have c2 : ma_w (fun j => va_cpy w un 0 (320 * ((fi2 + h2) % 8)) 320 (320 * ((fi2 + i) % 8) + j)) = ma_w (fun j => un (320 * ((fi + i2) % 8) + j)) := by
      refine ma_w_eq (fun j hj => ?_)
      show va_cpy w un 0 (320 * ((fi2 + h2) % 8)) 320 _ = _
      unfold va_cpy
      rw [q2, if_neg (by omega)]
    rw [c1, c2]
    exact hr2
theorem mt_copyFrom {p r p2 r2 : Nat} {m : fm_M} : f_X5_copyFrom p r p2 r2 m = some (fm_up m r (va_cpy (m r2) (m r) 0 0 294)) := by
  unfold f_X5_copyFrom
  rw [if_pos (by decide)]
  rfl
theorem mt_cpc (f g : Nat → Int32) : ma_c (va_cpy f g 0 0 294) = ma_c f := by
  refine ma_c_eq (fun j hj => ?_)
  unfold va_cpy
  rw [if_pos (by omega)]
  congr 1
  omega
theorem mt_cpw (f g : Nat → Int32) : ma_w (va_cpy f g 0 0 320) = ma_w f := by
  refine ma_w_eq (fun j hj => ?_)
  unfold va_cpy
  rw [if_pos (by omega)]
  congr 1
  omega
theorem mt_onTrial {m : fm_M} : f_X6_onTrial m = some (fm_up m 7 (va_cpy (m 2) (m 7) 0 0 294)) := by
  unfold f_X6_onTrial f_X0_beginFrom
  rw [mt_copyFrom, Option.bind_some, Option.bind_some]
theorem mt_copyTo {p r : Nat} {m : fm_M} {nx : Nat} (hx : nx < 8) : f_X5_copyTo p r 13 2352 (ma_i nx * (294 : Int32)) m = some (fm_up m 13 (va_cpy (m r) (m 13) 0 (294 * nx) 294)) := by
  unfold f_X5_copyTo
  have e : ma_i nx * (294 : Int32) = ma_i (nx * 294) := ma_mul nx 294
  have e2 : (Int32.ofNat 2352 - (294 : Int32)) = ma_i 2058 := rfl
  rw [e, e2, if_neg (ma_nn (by omega)), if_neg (by rw [ma_lt (by decide) (by omega)]; omega)]
  have ok : fm_cpok (0 : Int32) (ma_i (nx * 294)) (294 : Int32) 294 2352 = true := by
    unfold fm_cpok
    have z1 : (0 : Int32).toNatClampNeg = 0 := rfl
    have z2 : (294 : Int32).toNatClampNeg = 294 := rfl
    rw [ma_cn (by omega), z1, z2, decide_eq_true (show ¬ (0 : Int32) < 0 by decide), decide_eq_true (ma_nn (show nx * 294 < 2147483648 by omega)), decide_eq_true (show ¬ (294 : Int32) < 0 by decide), decide_eq_true (show 0 + 294 ≤ 294 by decide), decide_eq_true (show nx * 294 + 294 ≤ 2352 by omega)]
    rfl
  rw [if_pos ok, ma_cn (by omega), Nat.mul_comm]
  rfl
theorem mt_keep {m : fm_M} {nx h : Nat} (hx : nx < 8) (hh : h ≤ 8) (e1 : m 12 1 = ma_i nx) (e2 : m 12 2 = ma_i h) : f_X1_keep 1 2 m = some (fm_up (fm_up m 13 (va_cpy (m 2) (m 13) 0 (294 * nx) 294)) 12 (upd (upd (m 12) 1 (ma_i ((nx + 1) % 8))) 2 (ma_i ((if h = 8 then 7 else h) + 1)))) := by
  unfold f_X1_keep
  rw [e1, mt_copyTo hx, Option.bind_some]
  simp only [ma_put, ka_up, ma_pp, ka_un _ (show (12 : Nat) ≠ 13 by decide), e1, ma_s1]
  have r1 : ma_i (nx + 1) - ma_i (nx + 1) / (8 : Int32) * (8 : Int32) = ma_i ((nx + 1) % 8) := ma_rem (a := nx + 1) (k := 8) (by omega) (by decide)
  rw [r1]
  have u2 : upd (m 12) 1 (ma_i ((nx + 1) % 8)) 2 = ma_i h := by unfold upd; rw [if_neg (by decide)]; exact e2
  rw [u2, ma_s1]
  have mn : (if (8 : Int32) < ma_i (h + 1) then (8 : Int32) else ma_i (h + 1)) = ma_i ((if h = 8 then 7 else h) + 1) := by
    by_cases h8 : h = 8
    · subst h8; rfl
    · rw [if_neg h8, if_neg]
      intro hh2
      have := (ma_lt (a := 8) (by decide) (by omega)).mp hh2
      omega
  rw [mn]
theorem mt_keeps {m : fm_M} {h fi : Nat} (hh : h ≤ 8) (hf : fi < 8) (e8 : m 23 8 = ma_i h) (e9 : m 23 9 = ma_i fi) : ∃ q, f_X7_keepsMind m = some (fm_up (fm_up m 25 (va_cpy (m 27) (m 25) 0 (320 * (((if h = 8 then (fi + 1) % 8 else fi) + (if h = 8 then 7 else h)) % 8)) 320)) 23 q) ∧ q 8 = ma_i ((if h = 8 then 7 else h) + 1) ∧ q 9 = ma_i (if h = 8 then (fi + 1) % 8 else fi) ∧ ∀ j, j ≠ 8 → j ≠ 9 → q j = m 23 j := by
  unfold f_X7_keepsMind
  by_cases h8 : h = 8
  · subst h8
    rw [if_pos (by rw [e8]; rfl)]
    simp only [ma_put, ka_up, ma_pp, e9, ma_s1]
    have r1 : ma_i (fi + 1) - ma_i (fi + 1) / (8 : Int32) * (8 : Int32) = ma_i ((fi + 1) % 8) := ma_rem (a := fi + 1) (k := 8) (by omega) (by decide)
    rw [r1]
    generalize hq : upd (upd (m 23) 9 (ma_i ((fi + 1) % 8))) 8 (upd (m 23) 9 (ma_i ((fi + 1) % 8)) 8 - 1) = q
    have q8 : q 8 = ma_i 7 := by
      rw [← hq]; unfold upd; rw [if_pos rfl, if_neg (by decide), e8]; rfl
    have q9 : q 9 = ma_i ((fi + 1) % 8) := by
      rw [← hq]; unfold upd; rw [if_neg (by decide), if_pos rfl]
    have qo : ∀ j, j ≠ 8 → j ≠ 9 → q j = m 23 j := by
      intro j j8 j9
      rw [← hq]; unfold upd; rw [if_neg j8, if_neg j9]
    rw [q8, q9, ma_add]
    have r2 : ma_i ((fi + 1) % 8 + 7) - ma_i ((fi + 1) % 8 + 7) / (8 : Int32) * (8 : Int32) = ma_i (((fi + 1) % 8 + 7) % 8) := ma_rem (a := (fi + 1) % 8 + 7) (k := 8) (by omega) (by decide)
    rw [r2, kb_keeps_L (by omega), ka_up, ka_un _ (by decide), ka_un _ (by decide)]
    simp only [if_true]
    refine ⟨upd q 8 (q 8 + 1), ?_, ?_, ?_, ?_⟩
    · rw [ma_pc _ (show (25 : Nat) ≠ 23 by decide), ma_pp, ma_pc _ (show (23 : Nat) ≠ 25 by decide)]
    · unfold upd; rw [if_pos rfl, q8, ma_s1]
    · unfold upd; rw [if_neg (by decide)]; exact q9
    · intro j j8 j9
      unfold upd; rw [if_neg j8]; exact qo j j8 j9
  · rw [if_neg (fun hc => h8 (by rw [e8] at hc; exact (ma_inj (b := 8) (by omega) (by decide)).mp hc)), e8, e9, ma_add]
    have r2 : ma_i (fi + h) - ma_i (fi + h) / (8 : Int32) * (8 : Int32) = ma_i ((fi + h) % 8) := ma_rem (a := fi + h) (k := 8) (by omega) (by decide)
    rw [r2, kb_keeps_L (by omega), if_neg h8, if_neg h8]
    refine ⟨_, rfl, ?_, ?_, ?_⟩
    · unfold upd; rw [if_pos rfl, e8, ma_s1]
    · unfold upd; rw [if_neg (by decide)]; exact e9
    · intro j j8 j9
      unfold upd; rw [if_neg j8]
def mt_cls (f : fm_M → Option (Int32 × fm_M)) (m : fm_M) : Option (Int32 × fm_M) := (f_X6_onTrial m).bind fun v1 => (f v1).bind fun v3 => (f_X6_settle v3.1 v3.2).bind fun v5 => some (v5.1, v5.2)
def mt_ref (no dd : fm_M → Option (Int32 × fm_M)) (m : fm_M) : Option (Int32 × fm_M) := (no m).bind fun v1 => if v1.1 = 0 then ((f_X7_remembers v1.2).bind fun v4 => (dd v4).bind fun v6 => some (v6.1, v6.2)) else ((f_X7_refuses v1.1 v1.2).bind fun v8 => some (v8.1, v8.2))
theorem mt_op {B B2 : Nat} {f no dd : fm_M → Option (Int32 × fm_M)} (hop : mj_op2 B B2 f no dd) (hB : B ≤ B2) {m : fm_M} (h : mi_i B m) : ∃ r m1 m2, mt_cls f m = some (r, m1) ∧ m1 24 = m 24 ∧ mt_ref no dd m1 = some (r, m2) ∧ mi_i B2 m2 := by
  have h0 := h
  obtain ⟨⟨n, hr⟩, hsv, ⟨hrs, hrd⟩, ⟨nx, hh, fi, a1, a2, a3, a4, a5⟩, htx, hln⟩ := h
  have a5' := a5
  obtain ⟨h8, nx8, fi8, hall⟩ := a5
  unfold mt_cls
  rw [mt_onTrial, Option.bind_some]
  have e7 : ma_c ((fm_up m 7 (va_cpy (m 2) (m 7) 0 0 294)) 7) = ma_c (m 2) := by rw [ka_up, mt_cpc]
  have ef : ∀ k, k ≠ 7 → (fm_up m 7 (va_cpy (m 2) (m 7) 0 0 294)) k = m k := fun k hk => ka_un m hk _
  generalize fm_up m 7 (va_cpy (m 2) (m 7) 0 0 294) = m0 at e7 ef
  obtain ⟨n2, a, m1, hf, hfr, hcase⟩ := hop n m0 m (by rw [e7]; exact hr)
  rw [hf, Option.bind_some]
  have e1 : ∀ k, k ≠ 5 → k ≠ 7 → k ≠ 9 → m1 k = m k := fun k h5 h7 h9 => (hfr k h5 h7 h9).trans (ef k h7)
  unfold f_X6_settle
  rcases hcase with ⟨ha, h7, r, d, hno, hrd2⟩ | ⟨ha, hno, g, hdd, hr2⟩
  · simp only [if_pos ha]
    by_cases h14 : a = -14
    · rw [if_pos h14]
      simp only [f_X0_refusedFor, f_X0_refusedDetail, Option.bind_some, ma_put, ka_up, ma_pp, ka_un _ (show (5 : Nat) ≠ 0 by decide)]
      have w1 : fm_up m1 0 (upd (upd (m1 0) 10 (m1 5 2)) 11 (m1 5 3)) 24 = m 24 := by rw [ka_un _ (by decide), e1 24 (by decide) (by decide) (by decide)]
      have wf : ∀ k, k ≠ 0 → fm_up m1 0 (upd (upd (m1 0) 10 (m1 5 2)) 11 (m1 5 3)) k = m1 k := fun k hk => ka_un _ hk _
      have w0 : fm_up m1 0 (upd (upd (m1 0) 10 (m1 5 2)) 11 (m1 5 3)) 0 = upd (upd (m1 0) 10 (m1 5 2)) 11 (m1 5 3) := ka_up _ _ _
      generalize fm_up m1 0 (upd (upd (m1 0) 10 (m1 5 2)) 11 (m1 5 3)) = mF at w1 wf w0 ⊢
      obtain ⟨n3, a', m1', hf', _, hcase'⟩ := hop n m0 mF (by rw [e7, w1]; exact hr)
      rw [hf] at hf'
      obtain ⟨rfl, rfl⟩ := Prod.mk.inj (Option.some.inj hf')
      rcases hcase' with ⟨_, _, r', d', hno', hrd'⟩ | ⟨ha', _⟩
      · obtain ⟨c1, c2⟩ := hrd' h14
        refine ⟨a, mF, fm_put (fm_put (fm_up mF 23 (upd (upd (mF 23) 2 r') 3 d')) 23 0 ((fm_up mF 23 (upd (upd (mF 23) 2 r') 3 d')) 23 2)) 23 1 ((fm_put (fm_up mF 23 (upd (upd (mF 23) 2 r') 3 d')) 23 0 ((fm_up mF 23 (upd (upd (mF 23) 2 r') 3 d')) 23 2)) 23 3), rfl, w1, ?_, ?_⟩
        · unfold mt_ref
          rw [hno', Option.bind_some]
          show (if a = 0 then _ else (f_X7_refuses a (fm_up mF 23 (upd (upd (mF 23) 2 r') 3 d'))).bind fun v8 => some (v8.1, v8.2)) = _
          rw [if_neg (by rw [h14]; decide)]
          unfold f_X7_refuses
          rw [if_pos h14, Option.bind_some]
        · simp only [ma_put, ka_up, ma_pp]
          have hsame : ∀ q, (∀ j, j ≠ 0 → j ≠ 1 → j ≠ 2 → j ≠ 3 → q j = mF 23 j) → mi_same m (fm_up mF 23 q) := by
            intro q hq
            refine ⟨?_, ?_, ?_, ?_, ?_, ?_, ?_, ?_, ?_, ?_, ?_, ?_⟩
            · rw [ka_un _ (by decide), wf 4 (by decide), e1 4 (by decide) (by decide) (by decide)]
            · rw [ka_un _ (by decide), wf 18 (by decide), e1 18 (by decide) (by decide) (by decide)]
            · rw [ka_un _ (by decide), wf 19 (by decide), e1 19 (by decide) (by decide) (by decide)]
            · rw [ka_un _ (by decide), wf 20 (by decide), e1 20 (by decide) (by decide) (by decide)]
            · rw [ka_un _ (by decide), wf 21 (by decide), e1 21 (by decide) (by decide) (by decide)]
            · rw [ka_un _ (by decide), wf 26 (by decide), e1 26 (by decide) (by decide) (by decide)]
            · rw [ka_un _ (by decide), wf 29 (by decide), e1 29 (by decide) (by decide) (by decide)]
            · rw [ka_un _ (by decide), wf 31 (by decide), e1 31 (by decide) (by decide) (by decide)]
            · rw [ka_un _ (by decide), w0]; unfold upd; rw [if_neg (by decide), if_neg (by decide), e1 0 (by decide) (by decide) (by decide)]
            · rw [ka_up, hq 10 (by decide) (by decide) (by decide) (by decide), wf 23 (by decide), e1 23 (by decide) (by decide) (by decide)]
            · rw [ka_up, hq 13 (by decide) (by decide) (by decide) (by decide), wf 23 (by decide), e1 23 (by decide) (by decide) (by decide)]
            · rw [ka_up, hq 19 (by decide) (by decide) (by decide) (by decide), wf 23 (by decide), e1 23 (by decide) (by decide) (by decide)]
          generalize hq : upd (upd (upd (upd (mF 23) 2 r') 3 d') 0 (upd (upd (mF 23) 2 r') 3 d' 2)) 1 (upd (upd (upd (mF 23) 2 r') 3 d') 0 (upd (upd (mF 23) 2 r') 3 d' 2) 3) = q
          have qo : ∀ j, j ≠ 0 → j ≠ 1 → j ≠ 2 → j ≠ 3 → q j = mF 23 j := by
            intro j j0 j1 j2 j3
            rw [← hq]; unfold upd; simp [j0, j1, j2, j3]
          have q0 : q 0 = r' := by rw [← hq]; unfold upd; simp
          have q1 : q 1 = d' := by rw [← hq]; unfold upd; simp
          obtain ⟨s1, s2, s3⟩ := mi_rest (mi_mono hB h0) (hsame q qo)
          refine ⟨⟨n, ?_⟩, s1, ?_, ?_, s2, s3⟩
          · rw [ka_un _ (by decide), ka_un _ (by decide), wf 2 (by decide), e1 2 (by decide) (by decide) (by decide), w1]
            exact mr_mono hr hB
          · rw [ka_up, ka_un _ (by decide), w0, q0, q1]
            unfold upd
            rw [if_neg (by decide), if_pos rfl, if_pos rfl]
            exact ⟨c1, c2⟩
          · refine ⟨nx, hh, fi, ?_, ?_, ?_, ?_, ?_⟩
            · rw [ka_un _ (by decide), wf 12 (by decide), e1 12 (by decide) (by decide) (by decide)]; exact a1
            · rw [ka_un _ (by decide), wf 12 (by decide), e1 12 (by decide) (by decide) (by decide)]; exact a2
            · rw [ka_up, qo 8 (by decide) (by decide) (by decide) (by decide), wf 23 (by decide), e1 23 (by decide) (by decide) (by decide)]; exact a3
            · rw [ka_up, qo 9 (by decide) (by decide) (by decide) (by decide), wf 23 (by decide), e1 23 (by decide) (by decide) (by decide)]; exact a4
            · rw [ka_un _ (by decide), ka_un _ (by decide), wf 13 (by decide), e1 13 (by decide) (by decide) (by decide), wf 25 (by decide), e1 25 (by decide) (by decide) (by decide)]
              exact mi_h_mono hB a5'
      · exact absurd ha ha'
    · rw [if_neg h14]
      simp only [Option.bind_some]
      obtain ⟨n3, a', m1', hf', _, hcase'⟩ := hop n m0 m1 (by rw [e7, e1 24 (by decide) (by decide) (by decide)]; exact hr)
      rw [hf] at hf'
      obtain ⟨rfl, rfl⟩ := Prod.mk.inj (Option.some.inj hf')
      rcases hcase' with ⟨_, _, r', d', hno', hrd'⟩ | ⟨ha', _⟩
      · refine ⟨a, m1, fm_up m1 23 (upd (upd (m1 23) 2 r') 3 d'), rfl, e1 24 (by decide) (by decide) (by decide), ?_, ?_⟩
        · unfold mt_ref
          rw [hno', Option.bind_some]
          show (if a = 0 then _ else (f_X7_refuses a (fm_up m1 23 (upd (upd (m1 23) 2 r') 3 d'))).bind fun v8 => some (v8.1, v8.2)) = _
          rw [if_neg (fun hz => by rw [hz] at ha; exact absurd ha (by decide))]
          unfold f_X7_refuses
          rw [if_neg h14, Option.bind_some]
        · have qo : ∀ j, j ≠ 2 → j ≠ 3 → upd (upd (m1 23) 2 r') 3 d' j = m 23 j := by
            intro j j2 j3
            unfold upd; rw [if_neg j3, if_neg j2, e1 23 (by decide) (by decide) (by decide)]
          generalize upd (upd (m1 23) 2 r') 3 d' = q at qo
          have eo : ∀ k, k ≠ 5 → k ≠ 7 → k ≠ 9 → k ≠ 23 → (fm_up m1 23 q) k = m k := fun k h5 h7 h9 h23 => (ka_un _ h23 _).trans (e1 k h5 h7 h9)
          have e23 : (fm_up m1 23 q) 23 = q := ka_up _ _ _
          generalize fm_up m1 23 q = mZ at eo e23 ⊢
          have hsame : mi_same m mZ := by
            refine ⟨eo 4 (by decide) (by decide) (by decide) (by decide), eo 18 (by decide) (by decide) (by decide) (by decide), eo 19 (by decide) (by decide) (by decide) (by decide), eo 20 (by decide) (by decide) (by decide) (by decide), eo 21 (by decide) (by decide) (by decide) (by decide), eo 26 (by decide) (by decide) (by decide) (by decide), eo 29 (by decide) (by decide) (by decide) (by decide), eo 31 (by decide) (by decide) (by decide) (by decide), by rw [eo 0 (by decide) (by decide) (by decide) (by decide)], by rw [e23, qo 10 (by decide) (by decide)], by rw [e23, qo 13 (by decide) (by decide)], by rw [e23, qo 19 (by decide) (by decide)]⟩
          obtain ⟨s1, s2, s3⟩ := mi_rest (mi_mono hB h0) hsame
          refine ⟨⟨n, ?_⟩, s1, ?_, ⟨nx, hh, fi, ?_, ?_, ?_, ?_, ?_⟩, s2, s3⟩
          · rw [eo 2 (by decide) (by decide) (by decide) (by decide), eo 24 (by decide) (by decide) (by decide) (by decide)]
            exact mr_mono hr hB
          · rw [eo 0 (by decide) (by decide) (by decide) (by decide), e23, qo 0 (by decide) (by decide), qo 1 (by decide) (by decide)]
            exact ⟨hrs, hrd⟩
          · rw [eo 12 (by decide) (by decide) (by decide) (by decide)]; exact a1
          · rw [eo 12 (by decide) (by decide) (by decide) (by decide)]; exact a2
          · rw [e23, qo 8 (by decide) (by decide)]; exact a3
          · rw [e23, qo 9 (by decide) (by decide)]; exact a4
          · rw [eo 13 (by decide) (by decide) (by decide) (by decide), eo 25 (by decide) (by decide) (by decide) (by decide)]
            exact mi_h_mono hB a5'
      · exact absurd ha ha'
  · simp only [if_neg ha]
    have f1 : m1 12 1 = ma_i nx := by rw [e1 12 (by decide) (by decide) (by decide)]; exact a1
    have f2 : m1 12 2 = ma_i hh := by rw [e1 12 (by decide) (by decide) (by decide)]; exact a2
    rw [mt_keep nx8 h8 f1 f2, Option.bind_some]
    unfold f_X0_result
    rw [Option.bind_some, mt_copyFrom, Option.bind_some, Option.bind_some]
    have o : ∀ k, k ≠ 13 → k ≠ 12 → (fm_up (fm_up m1 13 (va_cpy (m1 2) (m1 13) 0 (294 * nx) 294)) 12 (upd (upd (m1 12) 1 (ma_i ((nx + 1) % 8))) 2 (ma_i ((if hh = 8 then 7 else hh) + 1)))) k = m1 k := fun k k13 k12 => (ka_un _ k12 _).trans (ka_un _ k13 _)
    have o13 : (fm_up (fm_up m1 13 (va_cpy (m1 2) (m1 13) 0 (294 * nx) 294)) 12 (upd (upd (m1 12) 1 (ma_i ((nx + 1) % 8))) 2 (ma_i ((if hh = 8 then 7 else hh) + 1)))) 13 = va_cpy (m 2) (m 13) 0 (294 * nx) 294 := by rw [ka_un _ (by decide), ka_up, e1 2 (by decide) (by decide) (by decide), e1 13 (by decide) (by decide) (by decide)]
    have o12 : (fm_up (fm_up m1 13 (va_cpy (m1 2) (m1 13) 0 (294 * nx) 294)) 12 (upd (upd (m1 12) 1 (ma_i ((nx + 1) % 8))) 2 (ma_i ((if hh = 8 then 7 else hh) + 1)))) 12 = upd (upd (m1 12) 1 (ma_i ((nx + 1) % 8))) 2 (ma_i ((if hh = 8 then 7 else hh) + 1)) := ka_up _ _ _
    generalize fm_up (fm_up m1 13 (va_cpy (m1 2) (m1 13) 0 (294 * nx) 294)) 12 (upd (upd (m1 12) 1 (ma_i ((nx + 1) % 8))) 2 (ma_i ((if hh = 8 then 7 else hh) + 1))) = mK at o o13 o12
    rw [o 7 (by decide) (by decide)]
    have u2 : ma_c ((fm_up mK 2 (va_cpy (m1 7) (mK 2) 0 0 294)) 2) = ma_c (m1 7) := by rw [ka_up, mt_cpc]
    have uo : ∀ k, k ≠ 2 → (fm_up mK 2 (va_cpy (m1 7) (mK 2) 0 0 294)) k = mK k := fun k hk => ka_un _ hk _
    generalize fm_up mK 2 (va_cpy (m1 7) (mK 2) 0 0 294) = mF at u2 uo ⊢
    have w : ∀ k, k ≠ 2 → k ≠ 5 → k ≠ 7 → k ≠ 9 → k ≠ 12 → k ≠ 13 → mF k = m k := fun k k2 k5 k7 k9 k12 k13 => ((uo k k2).trans (o k k13 k12)).trans (e1 k k5 k7 k9)
    have w24 : mF 24 = m 24 := w 24 (by decide) (by decide) (by decide) (by decide) (by decide) (by decide)
    have w23 : mF 23 = m 23 := w 23 (by decide) (by decide) (by decide) (by decide) (by decide) (by decide)
    -- the reference
    have hthink : f_X7_thinks mF = some (fm_up mF 27 (va_cpy (mF 24) (mF 27) 0 0 320)) := kb_thinks
    have v27 : ma_w ((fm_up mF 27 (va_cpy (mF 24) (mF 27) 0 0 320)) 27) = ma_w (m 24) := by rw [ka_up, mt_cpw, w24]
    have vo : ∀ k, k ≠ 27 → (fm_up mF 27 (va_cpy (mF 24) (mF 27) 0 0 320)) k = mF k := fun k hk => ka_un _ hk _
    generalize fm_up mF 27 (va_cpy (mF 24) (mF 27) 0 0 320) = mT at hthink v27 vo
    obtain ⟨q, hkeep, q8, q9, qo⟩ := mt_keeps (m := mT) (h := hh) (fi := fi) h8 fi8 (by rw [vo 23 (by decide), w23]; exact a3) (by rw [vo 23 (by decide), w23]; exact a4)
    have hrem : f_X7_remembers mF = some (fm_up (fm_up mT 25 (va_cpy (mT 27) (mT 25) 0 (320 * (((if hh = 8 then (fi + 1) % 8 else fi) + (if hh = 8 then 7 else hh)) % 8)) 320)) 23 q) := by
      unfold f_X7_remembers
      rw [hthink, Option.bind_some, hkeep, Option.bind_some]
    have x25 : (fm_up (fm_up mT 25 (va_cpy (mT 27) (mT 25) 0 (320 * (((if hh = 8 then (fi + 1) % 8 else fi) + (if hh = 8 then 7 else hh)) % 8)) 320)) 23 q) 25 = va_cpy (mT 27) (m 25) 0 (320 * (((if hh = 8 then (fi + 1) % 8 else fi) + (if hh = 8 then 7 else hh)) % 8)) 320 := by rw [ka_un _ (by decide), ka_up, vo 25 (by decide), w 25 (by decide) (by decide) (by decide) (by decide) (by decide) (by decide)]
    have x23 : (fm_up (fm_up mT 25 (va_cpy (mT 27) (mT 25) 0 (320 * (((if hh = 8 then (fi + 1) % 8 else fi) + (if hh = 8 then 7 else hh)) % 8)) 320)) 23 q) 23 = q := ka_up _ _ _
    have xo : ∀ k, k ≠ 23 → k ≠ 25 → (fm_up (fm_up mT 25 (va_cpy (mT 27) (mT 25) 0 (320 * (((if hh = 8 then (fi + 1) % 8 else fi) + (if hh = 8 then 7 else hh)) % 8)) 320)) 23 q) k = mT k := fun k k23 k25 => (ka_un _ k23 _).trans (ka_un _ k25 _)
    generalize fm_up (fm_up mT 25 (va_cpy (mT 27) (mT 25) 0 (320 * (((if hh = 8 then (fi + 1) % 8 else fi) + (if hh = 8 then 7 else hh)) % 8)) 320)) 23 q = mR at hrem x25 x23 xo
    have y24 : mR 24 = m 24 := by rw [xo 24 (by decide) (by decide), vo 24 (by decide), w24]
    obtain ⟨n3, a', m1', hf', _, hcase'⟩ := hop n m0 mF (by rw [e7, w24]; exact hr)
    rw [hf] at hf'
    obtain ⟨rfl, rfl⟩ := Prod.mk.inj (Option.some.inj hf')
    obtain ⟨n4, a'', m1'', hf'', _, hcase''⟩ := hop n m0 mR (by rw [e7, y24]; exact hr)
    rw [hf] at hf''
    obtain ⟨rfl, rfl⟩ := Prod.mk.inj (Option.some.inj hf'')
    rcases hcase' with ⟨ha', _⟩ | ⟨_, hno', _⟩
    · exact absurd ha' ha
    rcases hcase'' with ⟨ha'', _⟩ | ⟨_, _, g'', hdd'', hr''⟩
    · exact absurd ha'' ha
    refine ⟨a, mF, fm_up mR 24 g'', rfl, w24, ?_, ?_⟩
    · unfold mt_ref
      rw [hno', Option.bind_some]
      show (if (0 : Int32) = 0 then (f_X7_remembers mF).bind fun v4 => (dd v4).bind fun v6 => some (v6.1, v6.2) else _) = _
      rw [if_pos rfl, hrem, Option.bind_some, hdd'', Option.bind_some]
    · have z : ∀ k, k ≠ 2 → k ≠ 5 → k ≠ 7 → k ≠ 9 → k ≠ 12 → k ≠ 13 → k ≠ 23 → k ≠ 24 → k ≠ 25 → k ≠ 27 → (fm_up mR 24 g'') k = m k := fun k k2 k5 k7 k9 k12 k13 k23 k24 k25 k27 => (((ka_un _ k24 _).trans (xo k k23 k25)).trans (vo k k27)).trans (w k k2 k5 k7 k9 k12 k13)
      have z23 : (fm_up mR 24 g'') 23 = q := by rw [ka_un _ (by decide), x23]
      have qm : ∀ j, j ≠ 8 → j ≠ 9 → q j = m 23 j := fun j j8 j9 => by rw [qo j j8 j9, vo 23 (by decide), w23]
      have hsame : mi_same m (fm_up mR 24 g'') := by
        refine ⟨z 4 ?_ ?_ ?_ ?_ ?_ ?_ ?_ ?_ ?_ ?_, z 18 ?_ ?_ ?_ ?_ ?_ ?_ ?_ ?_ ?_ ?_, z 19 ?_ ?_ ?_ ?_ ?_ ?_ ?_ ?_ ?_ ?_, z 20 ?_ ?_ ?_ ?_ ?_ ?_ ?_ ?_ ?_ ?_, z 21 ?_ ?_ ?_ ?_ ?_ ?_ ?_ ?_ ?_ ?_, z 26 ?_ ?_ ?_ ?_ ?_ ?_ ?_ ?_ ?_ ?_, z 29 ?_ ?_ ?_ ?_ ?_ ?_ ?_ ?_ ?_ ?_, z 31 ?_ ?_ ?_ ?_ ?_ ?_ ?_ ?_ ?_ ?_, ?_, ?_, ?_, ?_⟩
        all_goals first | decide | skip
        · rw [z 0 (by decide) (by decide) (by decide) (by decide) (by decide) (by decide) (by decide) (by decide) (by decide) (by decide)]
        · rw [z23, qm 10 (by decide) (by decide)]
        · rw [z23, qm 13 (by decide) (by decide)]
        · rw [z23, qm 19 (by decide) (by decide)]
      obtain ⟨s1, s2, s3⟩ := mi_rest (mi_mono hB h0) hsame
      refine ⟨⟨n4, ?_⟩, s1, ?_, ?_, s2, s3⟩
      · rw [ka_up, ka_un _ (by decide), xo 2 (by decide) (by decide), vo 2 (by decide), u2]
        exact hr''
      · rw [z 0 (by decide) (by decide) (by decide) (by decide) (by decide) (by decide) (by decide) (by decide) (by decide) (by decide), z23, qm 0 (by decide) (by decide), qm 1 (by decide) (by decide)]
        exact ⟨hrs, hrd⟩
      · have z12 : (fm_up mR 24 g'') 12 = upd (upd (m1 12) 1 (ma_i ((nx + 1) % 8))) 2 (ma_i ((if hh = 8 then 7 else hh) + 1)) := by rw [ka_un _ (by decide), xo 12 (by decide) (by decide), vo 12 (by decide), uo 12 (by decide), o12]
        refine ⟨(nx + 1) % 8, (if hh = 8 then 7 else hh) + 1, (if hh = 8 then (fi + 1) % 8 else fi), ?_, ?_, ?_, ?_, ?_⟩
        · rw [z12]; unfold upd; rw [if_neg (by decide), if_pos rfl]
        · rw [z12]; unfold upd; rw [if_pos rfl]
        · rw [z23]; exact q8
        · rw [z23]; exact q9
        · have z13 : (fm_up mR 24 g'') 13 = va_cpy (m 2) (m 13) 0 (294 * nx) 294 := by rw [ka_un _ (by decide), xo 13 (by decide) (by decide), vo 13 (by decide), uo 13 (by decide), o13]
          have z25 : (fm_up mR 24 g'') 25 = va_cpy (mT 27) (m 25) 0 (320 * (((if hh = 8 then (fi + 1) % 8 else fi) + (if hh = 8 then 7 else hh)) % 8)) 320 := by rw [ka_un _ (by decide), x25]
          rw [z13, z25]
          exact mh_push (mi_h_mono hB a5') (by rw [v27]; exact mr_mono hr hB)

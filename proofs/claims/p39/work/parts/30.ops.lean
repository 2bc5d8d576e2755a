/-! an order by the class on trial, and by the reference -/
def mj_c (m m1 : fm_M) : Prop := ∀ k, k ≠ 5 → k ≠ 7 → k ≠ 9 → m1 k = m k
def mj_out (B2 n : Nat) (m mm : fm_M) (fr nr dr : Option (Int32 × fm_M)) : Prop :=
  ∃ a m1, fr = some (a, m1) ∧ mj_c m m1 ∧
    ((a < 0 ∧ m1 7 = m 7 ∧ ∃ r d, nr = some (a, fm_up mm 23 (upd (upd (mm 23) 2 r) 3 d)) ∧ (a = -14 → m1 5 2 = r ∧ m1 5 3 = d)) ∨
     (¬ a < 0 ∧ nr = some (0, mm) ∧ ∃ g, dr = some (a, fm_up mm 24 g) ∧ mr_rel B2 n (ma_c (m1 7)) (ma_w g) ∧ my_k 600 (ma_c (m 7)) (ma_c (m1 7))))
def mj_op (B B2 n : Nat) (f no dd : fm_M → Option (Int32 × fm_M)) : Prop := ∀ m mm, mr_rel B n (ma_c (m 7)) (ma_w (mm 24)) → mj_out B2 n m mm (f m) (no mm) (dd mm)
theorem mj_rf (m : fm_M) : mj_c m m := fun _ _ _ _ => rfl
theorem mj_tr {m m1 m2 : fm_M} (h1 : mj_c m m1) (h2 : mj_c m1 m2) : mj_c m m2 := fun k a b c => (h2 k a b c).trans (h1 k a b c)
theorem mj_7 (m : fm_M) (g : Nat → Int32) : mj_c m (fm_up m 7 g) := fun _ _ b _ => ka_un m b g
theorem mj_9 (m : fm_M) (g : Nat → Int32) : mj_c m (fm_up m 9 g) := fun _ _ _ c => ka_un m c g
theorem mj_5 (m : fm_M) (g : Nat → Int32) : mj_c m (fm_up m 5 g) := fun _ a _ _ => ka_un m a g
theorem mj_upid (f : Nat → Int32) : upd (upd f 2 (f 2)) 3 (f 3) = f := by
  funext j
  unfold upd
  by_cases h : j = 3
  · rw [if_pos h, h]
  · rw [if_neg h]
    by_cases h2 : j = 2
    · rw [if_pos h2, h2]
    · rw [if_neg h2]
theorem mj_o_code {B2 n : Nat} {m mm : fm_M} {dr : Option (Int32 × fm_M)} {c : Int32} (hc : c < 0) (hc2 : c ≠ -14) : mj_out B2 n m mm (some (c, m)) (some (c, mm)) dr :=
  ⟨c, m, rfl, mj_rf m, Or.inl ⟨hc, rfl, mm 23 2, mm 23 3, by rw [mj_upid, ma_pk], fun h => absurd h hc2⟩⟩
theorem mj_o_ref {B2 n : Nat} {m m0 mm : fm_M} {dr : Option (Int32 × fm_M)} {r d : Int32} (h0 : mj_c m m0) (h7 : m0 7 = m 7) : mj_out B2 n m mm (some (-14, fm_put (fm_put m0 5 2 r) 5 3 d)) (some (-14, fm_put (fm_put mm 23 2 r) 23 3 d)) dr := by
  refine ⟨-14, _, rfl, ?_, Or.inl ⟨by decide, ?_, r, d, ?_, fun _ => ?_⟩⟩
  · rw [ma_put, ma_put, ka_up, ma_pp]
    exact mj_tr h0 (mj_5 m0 _)
  · rw [ma_put, ma_put, ka_up, ma_pp, ka_un _ (by decide)]
    exact h7
  · rw [ma_put, ma_put, ka_up, ma_pp]
  · rw [ma_put, ma_put, ka_up, ka_up]
    exact ⟨rfl, rfl⟩
theorem mj_o_ok {B2 n : Nat} {m m1 mm : fm_M} {dr : Option (Int32 × fm_M)} {a : Int32} {g : Nat → Int32} (ha : ¬ a < 0) (hf : mj_c m m1) (hd : dr = some (a, fm_up mm 24 g)) (hr : mr_rel B2 n (ma_c (m1 7)) (ma_w g)) (hm : my_k 600 (ma_c (m 7)) (ma_c (m1 7))) : mj_out B2 n m mm (some (a, m1)) (some (0, mm)) dr :=
  ⟨a, m1, rfl, hf, Or.inr ⟨ha, rfl, g, hd, hr, hm⟩⟩
theorem mj_voice {B n : Nat} {x1 x2 : Int32} : mj_op B B n (f_X0_giveVoice x1 x2) (f_X7_notVoice x1 x2) (f_X7_gives x1 x2) := by
  intro m mm h
  have hn := mr_n h
  have hs0 : ma_c (m 7) 16 0 = ma_i n := h.2.1
  have ht0 : ma_w (mm 24) 16 0 = ma_i n := h.2.2.1
  unfold f_X0_giveVoice f_X7_notVoice
  simp only [ka_isBrother hs0, kb_isBrother hn ht0, Option.bind_some]
  cases hb1 : ma_br n x1 with
  | false => exact mj_o_code (by decide) (by decide)
  | true =>
    obtain ⟨b, hb, rfl⟩ := ma_br_of hn hb1
    cases hb2 : ma_br n x2 with
    | false => exact mj_o_code (by decide) (by decide)
    | true =>
      obtain ⟨x, hx, rfl⟩ := ma_br_of hn hb2
      have hb16 : b < 16 := by omega
      have hx16 : x < 16 := by omega
      have hwb := mr_how h hb
      have hwx := mr_how h hx
      have h5 := mr_col h (k := 5) (by decide) (by decide) (by decide) (by decide) hb
      simp only [if_true, ka_is hb16, ka_is hx16, kb_isSo hb16, kb_isSo hx16, Option.bind_some, ka_of2 hb16, ka_of2 hx16, kb_of2 hb16, kb_of2 hx16, ka_of5 hb16, kb_of5 hb16, f_X0_refuse, f_X7_isNot, ← hwb, ← hwx, ← h5, decide_eq_true_eq]
      by_cases w1 : ma_c (m 7) 2 b = 1
      · simp only [w1, if_true]
        by_cases w5 : ma_c (m 7) 5 b ≤ 0
        · simp only [w5, if_true]
          by_cases w0 : ma_c (m 7) 2 x = 0
          · simp only [w0, if_true]
            have hr := mr_voice h hb hx w1 w0
            have ec : ma_c (ma_s (m 7) 7 b (ma_i x)) = ma_up (ma_c (m 7)) 7 b (ma_i x) := ma_c_s (ma_okk (by decide) hb16)
            have ew : ma_w (ma_t (mm 24) 7 b (ma_i (x + 1))) = ma_up (ma_w (mm 24)) 7 b (ma_i (x + 1)) := ma_w_t (ma_okk2 (by decide) hb16)
            rw [← ec, ← ew] at hr
            simp only [ka_so7 hb16, Option.bind_some, ka_voicesFor hx16, ka_up]
            refine mj_o_ok (g := ma_t (mm 24) 7 b (ma_i (x + 1))) (ma_nn ?_) (mj_7 m _) ?_ (by rw [ka_up]; exact hr) (by rw [ka_up, ec]; exact my_q_k (my_q_up (by decide) (by decide) (by decide) (by first | decide | exact fun hh => absurd hh (by decide))))
            · have := mc_vo_le (ma_c (ma_s (m 7) 7 b (ma_i x))) x
              unfold mc_vo at this
              omega
            · unfold f_X7_gives
              rw [ma_s1, kb_se7 hb16, Option.bind_some, kb_voicesFor (n := n) hn (by rw [ka_up]; exact hr.2.2.1) hx16, Option.bind_some, ka_up]
              have := mr_vo hr hx
              unfold mc_vo at this
              rw [this]
          · simp only [w0, if_false]
            exact mj_o_ref (mj_rf m) rfl
        · simp only [w5, if_false]
          exact mj_o_ref (mj_rf m) rfl
      · simp only [w1, if_false]
        exact mj_o_ref (mj_rf m) rfl
theorem mj_7b (m : fm_M) (g : Nat → Int32) (k : Nat) (h : k ≠ 7) : (fm_up m 7 g) k = m k := ka_un m h g
theorem mj_pardon {B n : Nat} {x1 : Int32} (hB : B < 1000000) : mj_op B B n (f_X0_endBan x1) (f_X7_notPardon x1) (f_X7_pardons x1) := by
  intro m mm h
  have hn := mr_n h
  have hs0 : ma_c (m 7) 16 0 = ma_i n := h.2.1
  have ht0 : ma_w (mm 24) 16 0 = ma_i n := h.2.2.1
  unfold f_X0_endBan f_X7_notPardon
  simp only [ka_isBrother hs0, kb_isBrother hn ht0, Option.bind_some]
  cases hb1 : ma_br n x1 with
  | false => exact mj_o_code (by decide) (by decide)
  | true =>
    obtain ⟨b, hb, rfl⟩ := ma_br_of hn hb1
    have hb16 : b < 16 := by omega
    have hwb := mr_how h hb
    have h5 := mr_col h (k := 5) (by decide) (by decide) (by decide) (by decide) hb
    have e8 : mm 24 (8 : Int32).toNatClampNeg = ma_c (m 7) 16 9 := (h.2.2.2.1 9 (by decide) (by decide)).symm
    have i8 : fm_in (8 : Int32) 320 = true := by decide
    simp only [if_true, ka_is hb16, kb_isSo hb16, Option.bind_some, ka_of2 hb16, kb_of2 hb16, ka_of5 hb16, kb_of5 hb16, f_X0_refuse, f_X7_isNot, ← hwb, ← h5, decide_eq_true_eq, ka_g9, i8, e8]
    by_cases w1 : ma_c (m 7) 2 b = 1
    · simp only [w1, if_true]
      by_cases w5 : ma_c (m 7) 5 b = 0
      · simp only [w5, if_true]
        exact mj_o_ref (mj_rf m) rfl
      · simp only [w5, if_false]
        obtain ⟨c, hc, ec⟩ := h.2.2.2.2.2.2.1
        obtain ⟨⟨g5, hg5, eg5⟩, _⟩ := h.2.2.2.2.2.2.2.2.2.2.2.1 b hb
        rw [ec]
        by_cases w9 : c < 2
        · have l1 : (ma_i c < (2 : Int32)) := (ma_lt (b := 2) (by omega) (by decide)).mpr w9
          have l2 : ¬ ma_i c = (2 : Int32) := fun hh => by have := (ma_inj (b := 2) (by omega) (by decide)).mp hh; omega
          simp only [l1, l2, if_true, if_false, ka_so5 hb16, Option.bind_some, ka_up, ka_g9, ka_t9, ma_pp]
          have hr1 := mr_cu h (k0 := 5) (b0 := b) (v := 0) hb (by decide) (by decide) (by decide) (by decide) (by decide) (fun hh => absurd hh (by decide)) (fun _ => ⟨⟨0, by omega, rfl⟩, fun _ => rfl⟩) (fun hh => absurd hh (by decide))
          have hr := mr_sc hr1 (j := 9) (v := ma_i (c + 1)) (by decide) (by decide) (fun hh => absurd hh (by decide)) (fun hh => absurd hh (by decide)) (fun _ => ⟨c + 1, by omega, rfl⟩)
          have ea : ma_c (ma_s (m 7) 5 b 0) 16 9 = ma_i c := by
            rw [ma_c_s (ma_okk (by decide) hb16), ma_up_n (Or.inl (by decide))]
            exact ec
          rw [ea, ma_s1, eg5]
          refine mj_o_ok (g := ma_t (ma_t (mm 24) 5 b 0) 16 9 (ma_i (c + 1))) ?_ (mj_7 m _) ?_ ?_ (by rw [ka_up, ma_c_s (by unfold ma_ok; omega), ma_c_s (ma_okk (by decide) hb16)]; exact my_q_k (my_q_tr (my_q_up (by decide) (by decide) (by decide) (by first | decide | exact fun hh => absurd hh (by decide))) (my_q_up (by decide) (by decide) (by decide) (by first | decide | exact fun hh => absurd hh (by decide)))))
          · exact ma_nn (by omega)
          · unfold f_X7_pardons
            rw [kb_of5 hb16, Option.bind_some, kb_se5 hb16, Option.bind_some, if_pos i8, if_pos i8, ← h5, eg5, ma_put, ka_up, ma_pp]
            have eb : ma_t (mm 24) 5 b 0 (8 : Int32).toNatClampNeg = ma_i c := by
              have : ma_t (mm 24) 5 b 0 (8 : Int32).toNatClampNeg = ma_w (ma_t (mm 24) 5 b 0) 16 9 := rfl
              rw [this, ma_w_t (ma_okk2 (by decide) hb16), ma_up_n (Or.inl (by decide)), ← ec]
              exact e8
            rw [eb, ma_s1]
            rfl
          · rw [ka_up, ma_c_s (by unfold ma_ok; omega), ma_c_s (ma_okk (by decide) hb16), ma_w_t (by decide), ma_w_t (ma_okk2 (by decide) hb16)]
            exact hr
        · have l1 : ¬ (ma_i c < (2 : Int32)) := fun hh => w9 ((ma_lt (b := 2) (by omega) (by decide)).mp hh)
          have l2 : ma_i c = (2 : Int32) := by have : c = 2 := by omega
                                               rw [this]; rfl
          simp only [l1, l2, if_true, if_false]
          exact mj_o_ref (mj_rf m) rfl
    · simp only [w1, if_false]
      exact mj_o_ref (mj_rf m) rfl

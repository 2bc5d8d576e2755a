/-! lines -/
def ml_row (base : Nat → Int32) (l : List Nat) : Nat → Int32 := fun j => if j < l.length then ma_i (l.getD j 0) else base j
theorem ml_row_0 (base : Nat → Int32) : ml_row base [] = base := by
  funext j
  unfold ml_row
  rw [if_neg (by simp)]
theorem ml_row_a (base : Nat → Int32) (l : List Nat) (c : Nat) : upd (ml_row base l) l.length (ma_i c) = ml_row base (l ++ [c]) := by
  funext j
  simp only [upd, ml_row, List.length_append, List.length_singleton]
  by_cases e : j = l.length
  · subst e
    rw [if_pos rfl, if_pos (by omega)]
    congr 1
    simp [List.getD]
  · rw [if_neg e]
    by_cases h : j < l.length
    · rw [if_pos h, if_pos (by omega)]
      congr 1
      simp [List.getD, List.getElem?_append_left h]
    · rw [if_neg h, if_neg (by omega)]
theorem upd_2 (f : Nat → Int32) (k : Nat) (x y : Int32) : upd (upd f k x) k y = upd f k y := by
  funext j
  unfold upd
  by_cases h : j = k
  · rw [if_pos h, if_pos h]
  · rw [if_neg h, if_neg h, if_neg h]
theorem ma_2 (m : fm_M) {a b : Nat} (hab : a ≠ b) (A B A2 B2 : Nat → Int32) : fm_up (fm_up (fm_up (fm_up m a A) b B) a A2) b B2 = fm_up (fm_up m a A2) b B2 := by
  rw [ma_pc _ (Ne.symm hab), ma_pp, ma_pp]
def ml_c (m : fm_M) (l : List Nat) : fm_M := fm_up (fm_up m 21 (ml_row (m 21) l)) 20 (upd (m 20) 1 (ma_i l.length))
def ml_w (m : fm_M) (l : List Nat) : fm_M := fm_up (fm_up m 31 (ml_row (m 31) l)) 23 (upd (m 23) 19 (ma_i l.length))
theorem ml_c_o (m : fm_M) (l : List Nat) {k : Nat} (h0 : k ≠ 20) (h1 : k ≠ 21) : ml_c m l k = m k := by
  unfold ml_c; rw [ka_un _ h0, ka_un _ h1]
theorem ml_w_o (m : fm_M) (l : List Nat) {k : Nat} (h0 : k ≠ 23) (h1 : k ≠ 31) : ml_w m l k = m k := by
  unfold ml_w; rw [ka_un _ h0, ka_un _ h1]
theorem ml_c_20 (m : fm_M) (l : List Nat) : ml_c m l 20 = upd (m 20) 1 (ma_i l.length) := by unfold ml_c; rw [ka_up]
theorem ml_c_21 (m : fm_M) (l : List Nat) : ml_c m l 21 = ml_row (m 21) l := by unfold ml_c; rw [ka_un _ (by decide), ka_up]
theorem ml_w_23 (m : fm_M) (l : List Nat) : ml_w m l 23 = upd (m 23) 19 (ma_i l.length) := by unfold ml_w; rw [ka_up]
theorem ml_w_31 (m : fm_M) (l : List Nat) : ml_w m l 31 = ml_row (m 31) l := by unfold ml_w; rw [ka_un _ (by decide), ka_up]
theorem ml_size (m : fm_M) (l : List Nat) : ml_c m l 20 1 = ma_i l.length := by rw [ml_c_20]; unfold upd; rw [if_pos rfl]
theorem ml_wlen (m : fm_M) (l : List Nat) : ml_w m l 23 19 = ma_i l.length := by rw [ml_w_23]; unfold upd; rw [if_pos rfl]
theorem ml_add {m : fm_M} {l : List Nat} {x : Int32} {c : Nat} (hx : x = ma_i c) (hl : l.length < 128) : f_X4_add 20 21 128 x (ml_c m l) = some (ml_c m (l ++ [c])) := by
  rw [mu_add (by decide) (ml_size m l) hl (by decide), hx, ml_c_20, ml_c_21, upd_2, ml_row_a]
  unfold ml_c
  rw [ma_2 m (by decide), List.length_append]
  rfl
theorem ml_wr {m : fm_M} {l : List Nat} {x : Int32} {c : Nat} (hx : x = ma_i c) (hc : c < 256) (hl : l.length < 160) : f_X7_writes x (ml_w m l) = some (ml_w m (l ++ [c])) := by
  unfold f_X7_writes
  rw [ml_wlen, if_pos (ma_in hl (by omega)), hx, mu_char hc, ma_cn (by omega)]
  simp only [ma_put]
  rw [ka_un _ (show (23 : Nat) ≠ 31 by decide), ml_wlen, ml_w_23, ml_w_31, ma_s1, upd_2, ml_row_a]
  unfold ml_w
  rw [ma_2 m (by decide), List.length_append]
  rfl
theorem ma_iz {k : Nat} (hk : k < 2147483648) : ma_i k ≤ 0 ↔ k = 0 := by
  have : ma_i k ≤ ma_i 0 ↔ k = 0 := by rw [ma_le hk (by decide)]; omega
  exact this
def tl_num (v : Nat) : List Nat := if 10 ≤ v then [48 + v / 10, 48 + v % 10] else [48 + v % 10]
theorem tl_num_len (v : Nat) : (tl_num v).length ≤ 2 := by
  unfold tl_num; split <;> simp
theorem tl_rem {v : Nat} (hv : v < 100) : (48 : Int32) + (ma_i v - ma_i v / (10 : Int32) * (10 : Int32)) = ma_i (48 + v % 10) := by
  have r : ma_i v - ma_i v / (10 : Int32) * (10 : Int32) = ma_i (v % 10) := ma_rem (a := v) (k := 10) (by omega) (by decide)
  rw [r]
  exact ma_add 48 (v % 10)
theorem tl_div {v : Nat} (hv : v < 100) : (48 : Int32) + ma_i v / (10 : Int32) = ma_i (48 + v / 10) := by
  have r : ma_i v / (10 : Int32) = ma_i (v / 10) := (Int32.ofNat_div (a := v) (b := 10) (by omega) (by omega)).symm
  rw [r]
  exact ma_add 48 (v / 10)
theorem ml_num {m : fm_M} {l : List Nat} {v : Nat} (hv : v < 100) (hl : l.length + 2 ≤ 128) : f_X4_addNumber 20 21 128 (ma_i v) (ml_c m l) = some (ml_c m (l ++ tl_num v)) := by
  unfold f_X4_addNumber tl_num
  by_cases h : v < 10
  · rw [if_pos (show ma_i v < (10 : Int32) from (ma_lt (b := 10) (by omega) (by decide)).mpr h), ml_add (tl_rem hv) (by omega), Option.bind_some, if_neg (by omega)]
  · rw [if_neg (show ¬ ma_i v < (10 : Int32) from fun hh => h ((ma_lt (b := 10) (by omega) (by decide)).mp hh)), ml_add (tl_div hv) (by omega), Option.bind_some, ml_add (tl_rem hv) (by rw [List.length_append, List.length_singleton]; omega), Option.bind_some, if_pos (by omega), List.append_assoc]
    rfl
theorem ml_wnum {m : fm_M} {l : List Nat} {v : Nat} (hv : v < 100) (hl : l.length + 2 ≤ 160) : f_X7_writesNumber (ma_i v) (ml_w m l) = some (ml_w m (l ++ tl_num v)) := by
  unfold f_X7_writesNumber tl_num
  by_cases h : v ≤ 9
  · rw [if_pos (show ma_i v ≤ (9 : Int32) from (ma_le (b := 9) (by omega) (by decide)).mpr h), ml_wr (tl_rem hv) (by omega) (by omega), Option.bind_some, if_neg (by omega)]
  · rw [if_neg (show ¬ ma_i v ≤ (9 : Int32) from fun hh => h ((ma_le (b := 9) (by omega) (by decide)).mp hh)), ml_wr (tl_div hv) (by omega) (by omega), Option.bind_some, ml_wr (tl_rem hv) (by omega) (by rw [List.length_append, List.length_singleton]; omega), Option.bind_some, if_pos (by omega), List.append_assoc]
    rfl
theorem ml_c0 (m : fm_M) : f_X4_clear 20 21 128 m = some (ml_c m []) := by
  unfold f_X4_clear ml_c
  rw [ml_row_0, ma_pk]
  rfl
theorem ml_w0 (m : fm_M) : fm_put m 23 19 (0 : Int32) = ml_w m [] := by
  unfold ml_w
  rw [ml_row_0, ma_pk]
  rfl
/-- the invariant behind a line -/
theorem mi_lined {B : Nat} {m : fm_M} {l : List Nat} (h : mi_i B m) (hl : l.length ≤ 128) (hc : ∀ c ∈ l, c < 256) : mi_i B (ml_w (ml_c m l) l) := by
  obtain ⟨⟨n, h1⟩, h2, h3, ⟨nx, hh, fi, a1, a2, a3, a4, a5⟩, h5, h6⟩ := h
  have zo : ∀ k, k ≠ 20 → k ≠ 21 → k ≠ 23 → k ≠ 31 → ml_w (ml_c m l) l k = m k := fun k k0 k1 k2 k3 => by rw [ml_w_o _ _ k2 k3, ml_c_o _ _ k0 k1]
  have z23 : ∀ j, j ≠ 19 → ml_w (ml_c m l) l 23 j = m 23 j := fun j hj => by rw [ml_w_23, ml_c_o _ _ (by decide) (by decide)]; unfold upd; rw [if_neg hj]
  refine ⟨⟨n, ?_⟩, ?_, ?_, ⟨nx, hh, fi, ?_, ?_, ?_, ?_, ?_⟩, ?_, ⟨l.length, hl, ?_, ?_, fun i hi => ?_⟩⟩
  · rw [zo 2 (by decide) (by decide) (by decide) (by decide), zo 24 (by decide) (by decide) (by decide) (by decide)]; exact h1
  · unfold mi_save at h2 ⊢
    rw [zo 0 (by decide) (by decide) (by decide) (by decide), z23 10 (by decide), zo 4 (by decide) (by decide) (by decide) (by decide), zo 26 (by decide) (by decide) (by decide) (by decide)]; exact h2
  · rw [zo 0 (by decide) (by decide) (by decide) (by decide), z23 0 (by decide), z23 1 (by decide)]; exact h3
  · rw [zo 12 (by decide) (by decide) (by decide) (by decide)]; exact a1
  · rw [zo 12 (by decide) (by decide) (by decide) (by decide)]; exact a2
  · rw [z23 8 (by decide)]; exact a3
  · rw [z23 9 (by decide)]; exact a4
  · rw [zo 13 (by decide) (by decide) (by decide) (by decide), zo 25 (by decide) (by decide) (by decide) (by decide)]; exact a5
  · unfold mi_text at h5 ⊢
    rw [zo 18 (by decide) (by decide) (by decide) (by decide), zo 19 (by decide) (by decide) (by decide) (by decide), zo 29 (by decide) (by decide) (by decide) (by decide), z23 13 (by decide)]; exact h5
  · rw [ml_w_o _ _ (by decide) (by decide), ml_size]
  · exact ml_wlen _ _
  · rw [ml_w_o _ _ (by decide) (by decide), ml_c_21, ml_w_31]
    unfold ml_row
    rw [if_pos hi, if_pos hi]
    refine ⟨rfl, l.getD i 0, ?_, rfl⟩
    have : l.getD i 0 = l[i] := by simp [List.getD, List.getElem?_eq_getElem hi]
    rw [this]
    exact hc _ (List.getElem_mem hi)
/-! the cells -/
def tl_cell (s : ma_S) (c : Nat) : List Nat := if s 14 c < 0 then [45] else (tl_num (s 14 c).toNatClampNeg ++ (if s 5 (s 14 c).toNatClampNeg ≤ 0 then [] else [33])) ++ (if s 4 (s 14 c).toNatClampNeg < 2 then [] else [42])
def tl_line (s : ma_S) : Nat → List Nat
  | 0 => []
  | k + 1 => (tl_line s k ++ (if k = 0 then [] else [32])) ++ tl_cell s k
theorem tl_cell_len (s : ma_S) (c : Nat) : (tl_cell s c).length ≤ 4 := by
  unfold tl_cell
  have := tl_num_len (s 14 c).toNatClampNeg
  split
  · simp
  · simp only [List.length_append]
    split <;> split <;> simp <;> omega
theorem tl_line_s (s : ma_S) (k : Nat) : tl_line s (k + 1) = (tl_line s k ++ (if k = 0 then [] else [32])) ++ tl_cell s k := rfl
theorem tl_line_len (s : ma_S) : ∀ k, (tl_line s k).length ≤ 5 * k := by
  intro k
  induction k with
  | zero => simp [tl_line]
  | succ k ih =>
    rw [tl_line_s]
    have := tl_cell_len s k
    simp only [List.length_append]
    split <;> simp <;> omega
theorem tl_num_ok {v : Nat} (hv : v < 100) : ∀ c ∈ tl_num v, c < 256 := by
  unfold tl_num
  intro c hc
  split at hc
  · simp at hc; omega
  · simp at hc; omega
theorem ml_cell6 {B n : Nat} {m : fm_M} {l : List Nat} {c : Nat} (hr : mr_rel B n (ma_c (m 2)) (ma_w (m 24))) (hc : c < 8) (hl : l.length + 4 ≤ 128) : f_X6_addCell (ma_c (m 2) 14 c) (ml_c m l) = some (ml_c m (l ++ tl_cell (ma_c (m 2)) c)) := by
  have hn := mr_n hr
  have o2 : ∀ l, (ml_c m l) 2 = m 2 := fun l => ml_c_o m l (by decide) (by decide)
  unfold f_X6_addCell
  rw [ka_isBrother (n := n) (by rw [o2]; exact hr.2.1), Option.bind_some]
  rcases mr_cell hr hc with ⟨e, _⟩ | ⟨b, hb, e, _⟩
  · rw [e, ma_br_neg (by decide), if_neg (by decide), ml_add (x := (45 : Int32)) (c := 45) rfl (by omega), Option.bind_some]
    unfold tl_cell
    rw [e, if_pos (by decide)]
  · have hb16 : b < 16 := by omega
    have hnl := tl_num_len b
    have hcell : tl_cell (ma_c (m 2)) c = (tl_num b ++ (if ma_c (m 2) 5 b ≤ 0 then [] else [33])) ++ (if ma_c (m 2) 4 b < 2 then [] else [42]) := by
      unfold tl_cell
      rw [e, if_neg (ma_nn (by omega)), ma_cn (by omega)]
    rw [hcell, e, ma_br_i hn (by omega), if_pos (decide_eq_true hb), ml_num (by omega) (by omega), Option.bind_some, ka_of5 hb16, Option.bind_some, o2]
    have a1 : ∀ l2 : List Nat, l2.length < 128 → f_X4_add 20 21 128 (33 : Int32) (ml_c m l2) = some (ml_c m (l2 ++ [33])) := fun l2 h => ml_add (x := (33 : Int32)) (c := 33) rfl h
    have a2 : ∀ l2 : List Nat, l2.length < 128 → f_X4_add 20 21 128 (42 : Int32) (ml_c m l2) = some (ml_c m (l2 ++ [42])) := fun l2 h => ml_add (x := (42 : Int32)) (c := 42) rfl h
    by_cases h5 : ma_c (m 2) 5 b ≤ 0
    · rw [if_pos h5, if_pos h5, ka_of4 hb16, Option.bind_some, o2, List.append_nil]
      by_cases h4 : ma_c (m 2) 4 b < 2
      · rw [if_pos h4, if_pos h4, List.append_nil]
      · rw [if_neg h4, if_neg h4, a2 _ (by simp only [List.length_append]; omega), Option.bind_some, List.append_assoc]
    · rw [if_neg h5, if_neg h5, a1 _ (by simp only [List.length_append]; omega), Option.bind_some, ka_of4 hb16, Option.bind_some, o2]
      by_cases h4 : ma_c (m 2) 4 b < 2
      · rw [if_pos h4, if_pos h4, List.append_nil, List.append_assoc]
      · rw [if_neg h4, if_neg h4, a2 _ (by simp only [List.length_append, List.length_singleton]; omega), Option.bind_some, List.append_assoc, List.append_assoc, List.append_assoc]
theorem ml_cell7 {B n : Nat} {m : fm_M} {s : ma_S} {l : List Nat} {c : Nat} (hr : mr_rel B n s (ma_w (m 24))) (hc : c < 8) (hl : l.length + 4 ≤ 160) : f_X7_writesCell (ma_i c) (ml_w m l) = some (ml_w m (l ++ tl_cell s c)) := by
  have hn := mr_n hr
  have o2 : ∀ l, (ml_w m l) 24 = m 24 := fun l => ml_w_o m l (by decide) (by decide)
  unfold f_X7_writesCell
  rw [kb_brotherIn (n := n) hn (by rw [o2]; exact hr.2.2.1), Option.bind_some, o2, mr_in hr hc]
  rcases mr_cell hr hc with ⟨e, _⟩ | ⟨b, hb, e, _⟩
  · rw [e, if_neg (by decide), ml_wr (x := (45 : Int32)) (c := 45) rfl (by decide) (by omega), Option.bind_some]
    unfold tl_cell
    rw [e, if_pos (by decide)]
  · have hb16 : b < 16 := by omega
    have hnl := tl_num_len b
    have q5 := mr_col hr (k := 5) (by decide) (by decide) (by decide) (by decide) hb
    have q4 := mr_col hr (k := 4) (by decide) (by decide) (by decide) (by decide) hb
    have hcell : tl_cell s c = (tl_num b ++ (if s 5 b ≤ 0 then [] else [33])) ++ (if s 4 b < 2 then [] else [42]) := by
      unfold tl_cell
      rw [e, if_neg (ma_nn (by omega)), ma_cn (by omega)]
    rw [hcell, e, if_pos (ma_z0 (by omega)), ml_wnum (by omega) (by omega), Option.bind_some, kb_of5 hb16, Option.bind_some, o2, ← q5]
    have a1 : ∀ l2 : List Nat, l2.length < 160 → f_X7_writes (33 : Int32) (ml_w m l2) = some (ml_w m (l2 ++ [33])) := fun l2 h => ml_wr (x := (33 : Int32)) (c := 33) rfl (by decide) h
    have a2 : ∀ l2 : List Nat, l2.length < 160 → f_X7_writes (42 : Int32) (ml_w m l2) = some (ml_w m (l2 ++ [42])) := fun l2 h => ml_wr (x := (42 : Int32)) (c := 42) rfl (by decide) h
    by_cases h5 : s 5 b ≤ 0
    · rw [if_pos h5, if_pos h5, kb_of4 hb16, Option.bind_some, o2, ← q4, List.append_nil]
      by_cases h4 : s 4 b < 2
      · rw [if_pos h4, if_pos h4, List.append_nil]
      · rw [if_neg h4, if_neg h4, a2 _ (by simp only [List.length_append]; omega), Option.bind_some, List.append_assoc]
    · rw [if_neg h5, if_neg h5, a1 _ (by simp only [List.length_append]; omega), Option.bind_some, kb_of4 hb16, Option.bind_some, o2, ← q4]
      by_cases h4 : s 4 b < 2
      · rw [if_pos h4, if_pos h4, List.append_nil, List.append_assoc]
      · rw [if_neg h4, if_neg h4, a2 _ (by simp only [List.length_append, List.length_singleton]; omega), Option.bind_some, List.append_assoc, List.append_assoc, List.append_assoc]
theorem tl_line_ok {B n : Nat} {s t : ma_S} (hr : mr_rel B n s t) : ∀ k, k ≤ 8 → ∀ c ∈ tl_line s k, c < 256 := by
  intro k
  induction k with
  | zero => intro _ c hc; simp [tl_line] at hc
  | succ k ih =>
    intro hk c hc
    rw [tl_line_s, List.mem_append, List.mem_append] at hc
    rcases hc with (hc | hc) | hc
    · exact ih (by omega) c hc
    · split at hc <;> simp at hc; omega
    · unfold tl_cell at hc
      have hn := mr_n hr
      rcases mr_cell hr (c := k) (by omega) with ⟨e, _⟩ | ⟨b, hb, e, _⟩
      · rw [e, if_pos (by decide)] at hc; simp at hc; omega
      · rw [e, if_neg (ma_nn (by omega)), ma_cn (by omega), List.mem_append, List.mem_append] at hc
        rcases hc with (hc | hc) | hc
        · exact tl_num_ok (by omega) c hc
        · split at hc <;> simp at hc; omega
        · split at hc <;> simp at hc; omega
theorem mg_tell : ag_tell mi_Inv := by
  intro t m ht h
  obtain ⟨n, hr⟩ := h.1
  have hl := tl_line_len (ma_c (m 2)) 8
  refine ⟨ma_i (tl_line (ma_c (m 2)) 8).length, ml_c m (tl_line (ma_c (m 2)) 8), ml_w (ml_c m (tl_line (ma_c (m 2)) 8)) (tl_line (ma_c (m 2)) 8), ?_, ?_, mi_nx (mi_lined h (by omega) (tl_line_ok hr 8 (by omega)))⟩
  · unfold f_X6_tell
    rw [ml_c0, Option.bind_some]
    refine ma_loop (fun f k => f_X6_tell_L9 f (ma_i k) (ml_c m (tl_line (ma_c (m 2)) k))) 8 (fun f k hk => ?_) (fun f => ?_) fm_F 0 (by decide) (by decide)
    · show f_X6_tell_L9 (f + 1) _ _ = _
      have hlk := tl_line_len (ma_c (m 2)) k
      have o2 : ∀ l, (ml_c m l) 2 = m 2 := fun l => ml_c_o m l (by decide) (by decide)
      rw [f_X6_tell_L9, if_neg (ma_g0 hk (by decide)), tl_line_s, ma_s1]
      by_cases hk0 : k = 0
      · rw [if_pos (show ma_i k ≤ 0 by rw [hk0]; decide), ka_gc hk, Option.bind_some, o2, ml_cell6 hr hk (by omega), Option.bind_some, if_pos hk0, List.append_nil]
      · rw [if_neg (fun hh => hk0 ((ma_iz (by omega)).mp hh)), ml_add (x := (32 : Int32)) (c := 32) rfl (by omega), Option.bind_some, ka_gc hk, Option.bind_some, o2, ml_cell6 hr hk (by simp only [List.length_append, List.length_singleton]; omega), Option.bind_some, if_neg hk0]
    · show f_X6_tell_L9 (f + 1) _ _ = _
      rw [f_X6_tell_L9, if_pos ma_g1]
      unfold f_X4_size
      rw [Option.bind_some, ml_size]
  · generalize hmC : ml_c m (tl_line (ma_c (m 2)) 8) = mC
    have h24 : mC 24 = m 24 := by rw [← hmC]; exact ml_c_o m _ (by decide) (by decide)
    have hr2 : mr_rel (700 * t) n (ma_c (m 2)) (ma_w (mC 24)) := by rw [h24]; exact hr
    unfold f_X7_tell
    rw [ml_w0]
    refine ma_loop (fun f k => f_X7_tell_L7 f (ma_i k) (ml_w mC (tl_line (ma_c (m 2)) k))) 8 (fun f k hk => ?_) (fun f => ?_) fm_F 0 (by decide) (by decide)
    · show f_X7_tell_L7 (f + 1) _ _ = _
      have hlk := tl_line_len (ma_c (m 2)) k
      rw [f_X7_tell_L7, if_neg (ma_g0 hk (by decide)), tl_line_s, ma_s1]
      by_cases hk0 : k = 0
      · rw [if_pos (show ma_i k ≤ 0 by rw [hk0]; decide), ml_cell7 hr2 hk (by omega), Option.bind_some, if_pos hk0, List.append_nil]
      · rw [if_neg (fun hh => hk0 ((ma_iz (by omega)).mp hh)), ml_wr (x := (32 : Int32)) (c := 32) rfl (by decide) (by omega), Option.bind_some, ml_cell7 hr2 hk (by simp only [List.length_append, List.length_singleton]; omega), Option.bind_some, if_neg hk0]
    · show f_X7_tell_L7 (f + 1) _ _ = _
      rw [f_X7_tell_L7, if_pos ma_g1, ml_wlen]

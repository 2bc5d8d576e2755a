/-! THE CLAIM OUT OF ONE WALK OF THE LAW'S BODY. Your part is whole_start (and what it stands on); all else here is the same for every law, but numbers. -/
def R_law : String := "PittanceHouseLaw"
def lw_P (b : Addr) (xs : List Int32) (args : Array Value) (s : State) : Prop := args = #[.ref b] ∧ s.IntsAt b xs ∧ xs.length ≤ 260 ∧ (Jvm.Cond.and given_1 narrow_1).before args s = true
def lw_Q (_ : Array Value) (s : State) (o : Outcome) (t : State) : Prop := o = .returned (some (.int 1)) ∧ Framed s o t [] 600000 7302250
def lw_Z (below : List Frame) (a : Array Value) (s : State) : State → Prop := fun t => ∃ o, t.status = .running ∧ Ended t below o ∧ lw_Q a s o t
/-- the law's own end, with 1 on the stack, nothing written that was there before, its room as the claim has it -/
theorem lw_ret {p : Program} {l : Launch} {e : Env} {s : State} {m : MethodId} {below : List Frame} {meth : Method} {c : Code} {b : Nat} (hx : p.tables.exec = Jvm.exec) (hb : c.code = code) (hr : meth.sig.returnType = ret) (hlocks : meth.locks = false) {pc : Nat} {H : Heap} {ls : Array Slot} (hdg : decode code pc = .ok (.ireturn, 1)) : W p l e room_1 s m #[Value.ref b] below meth c H [] 600000 7302250 (lw_Z below #[Value.ref b] s) (F0 m pc ls [.int 1]) := by
  intro T hT X
  obtain ⟨fs, hret, hrun, hended, hW, hframe⟩ := X.leave (v := some (.int 1)) (hlocks := hlocks) (fun h => by rw [hr] at h; cases h)
  have hmeth' : T.vm.method? m = some meth := X.method'
  refine ⟨T.setFrames fs, ?_, .returned (some (.int 1)), hrun, hended, rfl, ⟨_, rfl⟩, hW, hframe⟩
  jvm_step X.here [X.here.top, hx, hb, hdg, hmeth', hr, ret, narrow_b1]
  (try refine ⟨rfl, ?_⟩); (try refine ⟨rfl, ?_⟩)
  first | (intro acts; rw [hret _ acts rfl rfl rfl]) | rw [hret _ _ rfl rfl rfl]
  exact Steps.refl _
/-- what holds at the law's entry: the machine, the code, the tables' words (any of lw_tbl by 'hts w (by decide +kernel)'), the script of L ints xs at the cell b, what the Statement gives of the start (any of its parts by flat_of_before) -/
def lw_At (p : Program) (s : State) (m : MethodId) (meth : Method) (c : Code) (b L : Nat) (xs : Nat → Int32) : Prop :=
  p.tables.exec = Jvm.exec ∧ c.code = code ∧ meth.sig.returnType = ret ∧ c.maxLocals = 12 ∧ s.vm.findClass R_law = some m.cls ∧ (∀ w ∈ lw_tbl, w.before #[Value.ref b] s = true) ∧ va_X b L xs s s.heap ∧ b < s.heap.size ∧ meth.locks = false ∧ (Jvm.Cond.and given_1 narrow_1).before #[Value.ref b] s = true
/-- the words of the start that speak of the sixteen texts: eight of the model, eight of the law -/
def ws_cp : List Nat := fm_cp ++ [259, 261, 263, 265, 267, 269, 271, 273]
def ws_t (i : Nat) : Term := Term.string (if i < 8 then RX2 else RL) (ws_cp.getD i 0)
def ws_F : List Cond := flatC (Jvm.Cond.and given_1 narrow_1)
set_option maxRecDepth 100000 in
theorem ws_ex : ∀ i, i < 16 → Cond.exactly (ws_t i) "java/lang/String" ∈ ws_F := by decide +kernel
set_option maxRecDepth 100000 in
theorem ws_co : ∀ i, i < 16 → Cond.eq (.field (ws_t i) "java/lang/String" "coder" "B") (.int 0) ∈ ws_F := by decide +kernel
set_option maxRecDepth 100000 in
theorem ws_ar : ∀ i, i < 16 → Cond.arrayOf (.field (ws_t i) "java/lang/String" "value" "[B") .byte ∈ ws_F := by decide +kernel
set_option maxRecDepth 100000 in
theorem ws_le : ∀ i, i < 16 → Cond.eq (.length (.field (ws_t i) "java/lang/String" "value" "[B")) (.int (Int32.ofNat (fm_len.getD i 0))) ∈ ws_F := by decide +kernel
set_option maxRecDepth 100000 in
theorem ws_el_0 : ∀ j, j < fm_len.getD 0 0 → Cond.eq (.elem (.field (ws_t 0) "java/lang/String" "value" "[B") (.int (Int32.ofNat j))) (.int ((fm_byt.getD 0 []).getD j 0)) ∈ ws_F := by decide +kernel
set_option maxRecDepth 100000 in
theorem ws_el_1 : ∀ j, j < fm_len.getD 1 0 → Cond.eq (.elem (.field (ws_t 1) "java/lang/String" "value" "[B") (.int (Int32.ofNat j))) (.int ((fm_byt.getD 1 []).getD j 0)) ∈ ws_F := by decide +kernel
set_option maxRecDepth 100000 in
theorem ws_el_2 : ∀ j, j < fm_len.getD 2 0 → Cond.eq (.elem (.field (ws_t 2) "java/lang/String" "value" "[B") (.int (Int32.ofNat j))) (.int ((fm_byt.getD 2 []).getD j 0)) ∈ ws_F := by decide +kernel
set_option maxRecDepth 100000 in
theorem ws_el_3 : ∀ j, j < fm_len.getD 3 0 → Cond.eq (.elem (.field (ws_t 3) "java/lang/String" "value" "[B") (.int (Int32.ofNat j))) (.int ((fm_byt.getD 3 []).getD j 0)) ∈ ws_F := by decide +kernel
set_option maxRecDepth 100000 in
theorem ws_el_4 : ∀ j, j < fm_len.getD 4 0 → Cond.eq (.elem (.field (ws_t 4) "java/lang/String" "value" "[B") (.int (Int32.ofNat j))) (.int ((fm_byt.getD 4 []).getD j 0)) ∈ ws_F := by decide +kernel
set_option maxRecDepth 100000 in
theorem ws_el_5 : ∀ j, j < fm_len.getD 5 0 → Cond.eq (.elem (.field (ws_t 5) "java/lang/String" "value" "[B") (.int (Int32.ofNat j))) (.int ((fm_byt.getD 5 []).getD j 0)) ∈ ws_F := by decide +kernel
set_option maxRecDepth 100000 in
theorem ws_el_6 : ∀ j, j < fm_len.getD 6 0 → Cond.eq (.elem (.field (ws_t 6) "java/lang/String" "value" "[B") (.int (Int32.ofNat j))) (.int ((fm_byt.getD 6 []).getD j 0)) ∈ ws_F := by decide +kernel
set_option maxRecDepth 100000 in
theorem ws_el_7 : ∀ j, j < fm_len.getD 7 0 → Cond.eq (.elem (.field (ws_t 7) "java/lang/String" "value" "[B") (.int (Int32.ofNat j))) (.int ((fm_byt.getD 7 []).getD j 0)) ∈ ws_F := by decide +kernel
set_option maxRecDepth 100000 in
theorem ws_el_8 : ∀ j, j < fm_len.getD 8 0 → Cond.eq (.elem (.field (ws_t 8) "java/lang/String" "value" "[B") (.int (Int32.ofNat j))) (.int ((fm_byt.getD 8 []).getD j 0)) ∈ ws_F := by decide +kernel
set_option maxRecDepth 100000 in
theorem ws_el_9 : ∀ j, j < fm_len.getD 9 0 → Cond.eq (.elem (.field (ws_t 9) "java/lang/String" "value" "[B") (.int (Int32.ofNat j))) (.int ((fm_byt.getD 9 []).getD j 0)) ∈ ws_F := by decide +kernel
set_option maxRecDepth 100000 in
theorem ws_el_10 : ∀ j, j < fm_len.getD 10 0 → Cond.eq (.elem (.field (ws_t 10) "java/lang/String" "value" "[B") (.int (Int32.ofNat j))) (.int ((fm_byt.getD 10 []).getD j 0)) ∈ ws_F := by decide +kernel
set_option maxRecDepth 100000 in
theorem ws_el_11 : ∀ j, j < fm_len.getD 11 0 → Cond.eq (.elem (.field (ws_t 11) "java/lang/String" "value" "[B") (.int (Int32.ofNat j))) (.int ((fm_byt.getD 11 []).getD j 0)) ∈ ws_F := by decide +kernel
set_option maxRecDepth 100000 in
theorem ws_el_12 : ∀ j, j < fm_len.getD 12 0 → Cond.eq (.elem (.field (ws_t 12) "java/lang/String" "value" "[B") (.int (Int32.ofNat j))) (.int ((fm_byt.getD 12 []).getD j 0)) ∈ ws_F := by decide +kernel
set_option maxRecDepth 100000 in
theorem ws_el_13 : ∀ j, j < fm_len.getD 13 0 → Cond.eq (.elem (.field (ws_t 13) "java/lang/String" "value" "[B") (.int (Int32.ofNat j))) (.int ((fm_byt.getD 13 []).getD j 0)) ∈ ws_F := by decide +kernel
set_option maxRecDepth 100000 in
theorem ws_el_14 : ∀ j, j < fm_len.getD 14 0 → Cond.eq (.elem (.field (ws_t 14) "java/lang/String" "value" "[B") (.int (Int32.ofNat j))) (.int ((fm_byt.getD 14 []).getD j 0)) ∈ ws_F := by decide +kernel
set_option maxRecDepth 100000 in
theorem ws_el_15 : ∀ j, j < fm_len.getD 15 0 → Cond.eq (.elem (.field (ws_t 15) "java/lang/String" "value" "[B") (.int (Int32.ofNat j))) (.int ((fm_byt.getD 15 []).getD j 0)) ∈ ws_F := by decide +kernel
theorem ws_el : ∀ i, i < 16 → ∀ j, j < fm_len.getD i 0 → Cond.eq (.elem (.field (ws_t i) "java/lang/String" "value" "[B") (.int (Int32.ofNat j))) (.int ((fm_byt.getD i []).getD j 0)) ∈ ws_F := fun i hi => match i, hi with
  | 0, _ => ws_el_0
  | 1, _ => ws_el_1
  | 2, _ => ws_el_2
  | 3, _ => ws_el_3
  | 4, _ => ws_el_4
  | 5, _ => ws_el_5
  | 6, _ => ws_el_6
  | 7, _ => ws_el_7
  | 8, _ => ws_el_8
  | 9, _ => ws_el_9
  | 10, _ => ws_el_10
  | 11, _ => ws_el_11
  | 12, _ => ws_el_12
  | 13, _ => ws_el_13
  | 14, _ => ws_el_14
  | 15, _ => ws_el_15
  | i + 16, h => absurd h (by omega)
set_option maxRecDepth 100000 in
theorem ws_ne_0 : ∀ j, j < 16 → 0 = j ∨ Cond.not (Cond.eq (ws_t 0) (ws_t j)) ∈ ws_F ∨ Cond.not (Cond.eq (ws_t j) (ws_t 0)) ∈ ws_F := by decide +kernel
set_option maxRecDepth 100000 in
theorem ws_ne_1 : ∀ j, j < 16 → 1 = j ∨ Cond.not (Cond.eq (ws_t 1) (ws_t j)) ∈ ws_F ∨ Cond.not (Cond.eq (ws_t j) (ws_t 1)) ∈ ws_F := by decide +kernel
set_option maxRecDepth 100000 in
theorem ws_ne_2 : ∀ j, j < 16 → 2 = j ∨ Cond.not (Cond.eq (ws_t 2) (ws_t j)) ∈ ws_F ∨ Cond.not (Cond.eq (ws_t j) (ws_t 2)) ∈ ws_F := by decide +kernel
set_option maxRecDepth 100000 in
theorem ws_ne_3 : ∀ j, j < 16 → 3 = j ∨ Cond.not (Cond.eq (ws_t 3) (ws_t j)) ∈ ws_F ∨ Cond.not (Cond.eq (ws_t j) (ws_t 3)) ∈ ws_F := by decide +kernel
set_option maxRecDepth 100000 in
theorem ws_ne_4 : ∀ j, j < 16 → 4 = j ∨ Cond.not (Cond.eq (ws_t 4) (ws_t j)) ∈ ws_F ∨ Cond.not (Cond.eq (ws_t j) (ws_t 4)) ∈ ws_F := by decide +kernel
set_option maxRecDepth 100000 in
theorem ws_ne_5 : ∀ j, j < 16 → 5 = j ∨ Cond.not (Cond.eq (ws_t 5) (ws_t j)) ∈ ws_F ∨ Cond.not (Cond.eq (ws_t j) (ws_t 5)) ∈ ws_F := by decide +kernel
set_option maxRecDepth 100000 in
theorem ws_ne_6 : ∀ j, j < 16 → 6 = j ∨ Cond.not (Cond.eq (ws_t 6) (ws_t j)) ∈ ws_F ∨ Cond.not (Cond.eq (ws_t j) (ws_t 6)) ∈ ws_F := by decide +kernel
set_option maxRecDepth 100000 in
theorem ws_ne_7 : ∀ j, j < 16 → 7 = j ∨ Cond.not (Cond.eq (ws_t 7) (ws_t j)) ∈ ws_F ∨ Cond.not (Cond.eq (ws_t j) (ws_t 7)) ∈ ws_F := by decide +kernel
set_option maxRecDepth 100000 in
theorem ws_ne_8 : ∀ j, j < 16 → 8 = j ∨ Cond.not (Cond.eq (ws_t 8) (ws_t j)) ∈ ws_F ∨ Cond.not (Cond.eq (ws_t j) (ws_t 8)) ∈ ws_F := by decide +kernel
set_option maxRecDepth 100000 in
theorem ws_ne_9 : ∀ j, j < 16 → 9 = j ∨ Cond.not (Cond.eq (ws_t 9) (ws_t j)) ∈ ws_F ∨ Cond.not (Cond.eq (ws_t j) (ws_t 9)) ∈ ws_F := by decide +kernel
set_option maxRecDepth 100000 in
theorem ws_ne_10 : ∀ j, j < 16 → 10 = j ∨ Cond.not (Cond.eq (ws_t 10) (ws_t j)) ∈ ws_F ∨ Cond.not (Cond.eq (ws_t j) (ws_t 10)) ∈ ws_F := by decide +kernel
set_option maxRecDepth 100000 in
theorem ws_ne_11 : ∀ j, j < 16 → 11 = j ∨ Cond.not (Cond.eq (ws_t 11) (ws_t j)) ∈ ws_F ∨ Cond.not (Cond.eq (ws_t j) (ws_t 11)) ∈ ws_F := by decide +kernel
set_option maxRecDepth 100000 in
theorem ws_ne_12 : ∀ j, j < 16 → 12 = j ∨ Cond.not (Cond.eq (ws_t 12) (ws_t j)) ∈ ws_F ∨ Cond.not (Cond.eq (ws_t j) (ws_t 12)) ∈ ws_F := by decide +kernel
set_option maxRecDepth 100000 in
theorem ws_ne_13 : ∀ j, j < 16 → 13 = j ∨ Cond.not (Cond.eq (ws_t 13) (ws_t j)) ∈ ws_F ∨ Cond.not (Cond.eq (ws_t j) (ws_t 13)) ∈ ws_F := by decide +kernel
set_option maxRecDepth 100000 in
theorem ws_ne_14 : ∀ j, j < 16 → 14 = j ∨ Cond.not (Cond.eq (ws_t 14) (ws_t j)) ∈ ws_F ∨ Cond.not (Cond.eq (ws_t j) (ws_t 14)) ∈ ws_F := by decide +kernel
set_option maxRecDepth 100000 in
theorem ws_ne_15 : ∀ j, j < 16 → 15 = j ∨ Cond.not (Cond.eq (ws_t 15) (ws_t j)) ∈ ws_F ∨ Cond.not (Cond.eq (ws_t j) (ws_t 15)) ∈ ws_F := by decide +kernel
theorem ws_ne : ∀ i, i < 16 → ∀ j, j < 16 → i = j ∨ Cond.not (Cond.eq (ws_t i) (ws_t j)) ∈ ws_F ∨ Cond.not (Cond.eq (ws_t j) (ws_t i)) ∈ ws_F := fun i hi => match i, hi with
  | 0, _ => ws_ne_0
  | 1, _ => ws_ne_1
  | 2, _ => ws_ne_2
  | 3, _ => ws_ne_3
  | 4, _ => ws_ne_4
  | 5, _ => ws_ne_5
  | 6, _ => ws_ne_6
  | 7, _ => ws_ne_7
  | 8, _ => ws_ne_8
  | 9, _ => ws_ne_9
  | 10, _ => ws_ne_10
  | 11, _ => ws_ne_11
  | 12, _ => ws_ne_12
  | 13, _ => ws_ne_13
  | 14, _ => ws_ne_14
  | 15, _ => ws_ne_15
  | i + 16, h => absurd h (by omega)
theorem ws_ln : ∀ i, i < 16 → fm_len.getD i 0 < 2 ^ 31 := by decide +kernel
theorem ws_rf : ∀ i, i < 8 → lw_tbl[600 + i]? = some (Cond.stringRef RX2 (fm_cp.getD i 0) (fm_tx.getD i "")) := by decide +kernel
theorem ws_t8 : ∀ i, i < 8 → ws_t i = Term.string RX2 (fm_cp.getD i 0) := by decide +kernel
set_option maxRecDepth 100000 in
theorem ws_te : ∀ j, j < 8 → Cond.eq (.elem (.static "PittanceHouseLaw" "TEXTS" "[Ljava/lang/String;") (.int (Int32.ofNat j))) (ws_t (8 + j)) ∈ ws_F := by decide +kernel
theorem ws_TT {ty : FieldType} {t N : Nat} {f g : Nat → Value} {A : Nat → Prop} {s : State} {H : Heap} (h : va_T ty t N f A s H) (e : ∀ i, i < N → g i = f i) : va_T ty t N g A s H := by
  obtain ⟨cell, h1, h2, h3, h4, h5, h6, h7⟩ := h
  exact ⟨cell, h1, h2, h3, h4, h5, fun j hj => by rw [e j hj]; exact h6 j hj, h7⟩
theorem ws_N : ∀ w ∈ fm_N, w ∈ lw_tbl := by decide +kernel
theorem ws_No : ∀ w ∈ fm_N, w.onTables = true := by decide +kernel
theorem ws_X {s : State} {b : Nat} (hts : ∀ w ∈ lw_tbl, w.before #[Value.ref b] s = true) (hgv : (Jvm.Cond.and given_1 narrow_1).before #[Value.ref b] s = true) : ∃ ad : Nat → Nat, ad 4000 = b ∧ fm_X ad (fun q : Nat => s.heap.size ≤ q) s := by
  have hf : ∀ w ∈ ws_F, w.before #[Value.ref b] s = true := flat_of_before _ hgv
  have hA : ∀ a : Nat, a < s.heap.size → ¬ (fun q : Nat => s.heap.size ≤ q) a := fun a h => Nat.not_le.mpr h
  obtain ⟨adK, adV, hS8, hev⟩ := vk_Sof (args := #[Value.ref b]) (s := s) (N := 16) (tm := ws_t) (len := fm_len) (byt := fm_byt) (A := fun q : Nat => s.heap.size ≤ q) ws_ln (fun i hi => hf _ (ws_ex i hi)) (fun i hi => hf _ (ws_co i hi)) (fun i hi => hf _ (ws_ar i hi)) (fun i hi => hf _ (ws_le i hi)) (fun i hi j hj => hf _ (ws_el i hi j hj)) (fun i j hi hj hij => by
    rcases ws_ne i hi j hj with h | h | h
    · exact absurd h hij
    · exact Or.inl (hf _ h)
    · exact Or.inr (hf _ h)) hA
  have hC : va_Z "java/lang/String" "COMPACT_STRINGS" "Z" (.int 1) (fun q : Nat => s.heap.size ≤ q) s s.heap := va_Zof (hts _ (List.mem_of_getElem? (i := 528) (by decide +kernel))) (hts _ (List.mem_of_getElem? (i := 29) (by decide +kernel))) (va_eqt (hf _ (by decide +kernel))) hA
  have hQ : va_Zq "jdk/internal/util/Preconditions" "SIOOBE_FORMATTER" "Ljava/util/function/BiFunction;" (fun q : Nat => s.heap.size ≤ q) s s.heap := va_Zqof (hts _ (List.mem_of_getElem? (i := 544) (by decide +kernel))) (hts _ (List.mem_of_getElem? (i := 31) (by decide +kernel))) (hf _ (by decide +kernel)) hA
  obtain ⟨t, hZ⟩ : ∃ t : Nat, va_Z "jdk/internal/util/Preconditions" "SIOOBE_FORMATTER" "Ljava/util/function/BiFunction;" .null (fun q : Nat => s.heap.size ≤ q) s s.heap ∨ va_Z "jdk/internal/util/Preconditions" "SIOOBE_FORMATTER" "Ljava/util/function/BiFunction;" (.ref t) (fun q : Nat => s.heap.size ≤ q) s s.heap := by
    rcases hQ with h | ⟨t, h⟩
    · exact ⟨0, Or.inl h⟩
    · exact ⟨t, Or.inr h⟩
  obtain ⟨t1, ht1, hT⟩ := va_Tof (args := #[Value.ref b]) (s := s) (tm := Term.static "PittanceHouseLaw" "TEXTS" "[Ljava/lang/String;") (ty := .object "java/lang/String") (N := 8) (f := fun i => .ref (adK (8 + i))) (A := fun q : Nat => s.heap.size ≤ q) (by decide) (hf _ (by decide +kernel)) (va_eqt (hf _ (by decide +kernel))) (fun j hj => va_eqv (hf _ (ws_te j hj)) (hev (8 + j) (by omega))) hA
  have hZT : va_Z RL "TEXTS" "[Ljava/lang/String;" (.ref t1) (fun q : Nat => s.heap.size ≤ q) s s.heap := va_Zof (hts _ (List.mem_of_getElem? (i := 515) (by decide +kernel))) (hts _ (List.mem_of_getElem? (i := 19) (by decide +kernel))) ht1 hA
  obtain ⟨ad, e4, e3, e5, e1, e2⟩ : ∃ ad : Nat → Nat, ad 4000 = b ∧ ad 3000 = t ∧ ad 3001 = t1 ∧ (∀ i, i < 16 → ad (1000 + i) = adK i) ∧ ∀ i, i < 16 → ad (2000 + i) = adV i := by
    refine ⟨fun i => if i = 4000 then b else if i = 3000 then t else if i = 3001 then t1 else if 2000 ≤ i then adV (i - 2000) else adK (i - 1000), if_pos rfl, ?_, ?_, fun i hi => ?_, fun i hi => ?_⟩
    · show (if (3000 : Nat) = 4000 then b else if (3000 : Nat) = 3000 then t else _) = t
      rw [if_neg (by omega), if_pos rfl]
    · show (if (3001 : Nat) = 4000 then b else if (3001 : Nat) = 3000 then t else if (3001 : Nat) = 3001 then t1 else _) = t1
      rw [if_neg (by omega), if_neg (by omega), if_pos rfl]
    · show (if 1000 + i = 4000 then b else if 1000 + i = 3000 then t else if 1000 + i = 3001 then t1 else if 2000 ≤ 1000 + i then adV (1000 + i - 2000) else adK (1000 + i - 1000)) = adK i
      rw [if_neg (by omega), if_neg (by omega), if_neg (by omega), if_neg (by omega), Nat.add_sub_cancel_left]
    · show (if 2000 + i = 4000 then b else if 2000 + i = 3000 then t else if 2000 + i = 3001 then t1 else if 2000 ≤ 2000 + i then adV (2000 + i - 2000) else adK (2000 + i - 1000)) = adV i
      rw [if_neg (by omega), if_neg (by omega), if_neg (by omega), if_pos (by omega), Nat.add_sub_cancel_left]
  refine ⟨ad, e4, ⟨fun i hi => ?_, fun i j hi hj e => ?_⟩, fun i hi => ?_, hC, ?_, ?_, ?_⟩
  · have h := hS8.1 i hi
    rw [← e1 i hi, ← e2 i hi] at h
    exact h
  · have e : ad (1000 + i) = ad (1000 + j) := e
    rw [e1 i hi, e1 j hj] at e
    exact hS8.2 i j hi hj e
  · rw [e1 i (by omega)]
    have h := hev i (by omega)
    rw [ws_t8 i hi] at h
    exact vk_R.of (hts _ (List.mem_of_getElem? (ws_rf i hi))) h
  · rw [e3]
    exact hZ
  · rw [e5]
    exact hZT
  · rw [e5]
    exact ws_TT hT (fun i hi => by rw [e1 (8 + i) (by omega)])
theorem ws_A {s : State} {cA : ClassId} {kA : Class} {comp : ClassId} {ty : FieldType} (h2 : s.vm.classes[cA]? = some kA) (h3 : kA.kind = .array comp ty) : ArrOfT s cA ty := fun n z => ⟨fun k h => (by cases h), kA, h2, comp, h3⟩
theorem ws_K {s : State} {b : Nat} (hg : ∀ w ∈ fm_G, w.before #[Value.ref b] s = true) : ∃ (D : va_G) (cI cC : ClassId), va_K D vwCl [(cI, .int), (cC, .int)] s := by
  obtain ⟨d0, i0, k0⟩ := u_known (C := RX0) (T := TX0) (N := 4) (n := 4) hg fin_X0 (hg _ kw_nX0)
  obtain ⟨d1, i1, k1⟩ := u_known (C := RX1) (T := TX1) (N := 3) (n := 3) hg fin_X1 (hg _ kw_nX1)
  obtain ⟨d2, i2, k2⟩ := u_known (C := RX2) (T := TX2) (N := 6) (n := 6) hg fin_X2 (hg _ kw_nX2)
  obtain ⟨d3, i3, k3⟩ := u_known (C := RX3) (T := TX3) (N := 1) (n := 1) hg fin_X3 (hg _ kw_nX3)
  obtain ⟨d4, i4, k4⟩ := u_known (C := RX4) (T := TX4) (N := 2) (n := 2) hg fin_X4 (hg _ kw_nX4)
  obtain ⟨d5, i5, k5⟩ := u_known (C := RX5) (T := TX5) (N := 1) (n := 1) hg fin_X5 (hg _ kw_nX5)
  obtain ⟨d6, i6, k6⟩ := u_known (C := RX6) (T := TX6) (N := 12) (n := 12) hg fin_X6 (hg _ kw_nX6)
  refine ⟨(fun k => match k with | 0 => d0 | 1 => d1 | 2 => d2 | 3 => d3 | 4 => d4 | 5 => d5 | _ => d6, fun k => match k with | 0 => i0 | 1 => i1 | 2 => i2 | 3 => i3 | 4 => i4 | 5 => i5 | _ => i6), ?_⟩
  obtain ⟨cI, kI, compI, fI, hkI, hkindI⟩ := Cond.arrayClass_spec (hg _ kw_aI)
  refine ⟨cI, cI, fun k q hq => ?_, fun k q hq => ?_⟩
  · match k, hq with
    | 0, hq => cases hq; exact k0
    | 1, hq => cases hq; exact k1
    | 2, hq => cases hq; exact k2
    | 3, hq => cases hq; exact k3
    | 4, hq => cases hq; exact k4
    | 5, hq => cases hq; exact k5
    | 6, hq => cases hq; exact k6
    | k + 7, hq => exact absurd (List.getElem?_eq_some_iff.mp hq).1 (by show ¬ k + 7 < 7; omega)
  · match k, hq with
    | 0, hq => cases hq; exact ⟨ws_A hkI hkindI, fI⟩
    | 1, hq => cases hq; exact ⟨ws_A hkI hkindI, fI⟩
    | k + 2, hq => exact absurd (List.getElem?_eq_some_iff.mp hq).1 (by show ¬ k + 2 < 2; omega)
set_option maxRecDepth 100000 in
set_option maxHeartbeats 4000000 in
/-- from the entry, for every script of at most 260 ints, the law comes to its end with true -/
theorem whole_start {p : Program} {e : Env} {s : State} {m : MethodId} {below : List Frame} {meth : Method} {c : Code} (l : Launch) (hflags : l.flags = flags0) {b L : Nat} {xs : Nat → Int32} (hL : L ≤ 260) (C0 : lw_At p s m meth c b L xs) : W p l e room_1 s m #[Value.ref b] below meth c s.heap [] 0 0 (lw_Z below #[Value.ref b] s) (entryFrame m ([Value.ref b] : List Value).toArray 12) := by
  obtain ⟨hx, hb, hr, hml, hown, hts, hX, hbl, hlocks, hgv⟩ := id C0
  have hg : ∀ w ∈ fm_G, w.before #[Value.ref b] s = true := fun w hw => hts w (fm_G_tbl hw)
  obtain ⟨D, cI, cC, hK⟩ := ws_K hg
  obtain ⟨ad, e4, hXX⟩ := ws_X hts hgv
  have hN : ∀ w ∈ fm_N, va_Nw w s := fun w hw => va_Nw.of (ws_No w hw) (hts w (ws_N w hw))
  have hP : va_P D vwCl (fm_W ad cI cC [] fs_z) s.heap := fun k q h => by simp [fm_W] at h
  have hD : va_D (fun q : Nat => s.heap.size ≤ q) (fm_W ad cI cC [] fs_z) := ⟨fun i j p q h => by simp [fm_W] at h, fun k q h => by simp [fm_W] at h⟩
  have hE : fm_E L xs ad (fun q : Nat => s.heap.size ≤ q) s := by
    unfold fm_E
    rw [e4]
    exact ⟨hX, hbl, Nat.not_le.mpr hbl⟩
  have hent := fm_entry ad (as := [.ref 4000]) (n := 12) (fm_cc_r _ fm_cc_0) (Nat.le_of_ble_eq_true rfl)
  have em : [Value.ref 4000].map (fm_cv ad) = [Value.ref b] := by
    show [Value.ref (ad 4000)] = _
    rw [e4]
  rw [em] at hent
  rw [lg_entry_eq]
  refine ll_start (L := L) (xs := xs) hL p l e room_1 s s m #[Value.ref b] below meth c D cI cC ad (fun q : Nat => s.heap.size ≤ q) s.heap [] _ (lw_Z below #[Value.ref b] s) ⟨hx, hb, hml, hr, hown, hlocks, hg, ⟨hK, hN⟩, hXX, ⟨Nat.le_of_ble_eq_true rfl, Nat.le_of_ble_eq_true rfl, Nat.le_refl _, Nat.le_refl _⟩, fun q h => h, rfl⟩ hent hP hD va_S.rf ?_ hE
  intro s1 H1 locs1 sl1 pc1 hdr hS1 hret
  have e1 : s1 = s := hdr
  subst e1
  refine va_forget (fun q hq => hS1.2.2 q hq) ?_
  exact lw_ret hx hb hr hlocks hret.1
-- ===== YOUR PART ENDS =====
set_option maxHeartbeats 4000000 in
theorem lw_walk (l : Launch) (hflags : l.flags = flags0) (b : Addr) (xs : List Int32) : MetFree l x (headSpec (Jvm.Cond.code x code maxLocals ret :: tables_1) room_1) (lw_P b xs) (fun _ _ _ _ _ => True) lw_Q := by
  refine MetFree.of_bodyS (code := code) (maxLocals := maxLocals) (ret := ret) (by decide) ?_ ?_
  · intro args s m h hn
    obtain ⟨meth, c, h1, h2, h3, h4, h5, h6, -, -⟩ := Cond.code_spec hn (atoms_spec (ws := Jvm.Cond.code x code maxLocals ret :: tables_1) h _ List.mem_cons_self)
    exact ⟨meth, c, h1, h2, h3, h4, h5, h6⟩
  · intro p e s m args below meth c s₁ B hml0 hP _
    obtain ⟨rfl, hx, hbd, hgv⟩ := hP
    obtain ⟨scr, harrAt, hlist, hof, hsmall⟩ := hx
    obtain ⟨hcb, hkn, -, -⟩ := State.arrayAt?_spec harrAt
    have hown : s.vm.findClass R_law = some m.cls := findClass_of_methodNamed B.named
    have hts0 : ∀ c ∈ (Jvm.Cond.code x code maxLocals ret :: tables_1), c.before #[Value.ref b] s = true := atoms_spec (ws := Jvm.Cond.code x code maxLocals ret :: tables_1) B.pre
    have hts : ∀ w ∈ lw_tbl, w.before #[Value.ref b] s = true := k2_hts_sels lw_privs (fun w hw => hts0 w (List.mem_cons_of_mem _ hw)) lw_privs_ok
    have hml : c.maxLocals = 12 := B.maxLocals_eq (hts0 _ List.mem_cons_self)
    have X₀ : Stand p l e room_1 s m #[Value.ref b] below meth c s₁ [] 0 0 := Stand.of_body B
    have hh0 : s₁.heap = s.heap := by rw [B.state]; rfl
    have hsz : scr.slots.size = xs.length := by rw [← Array.length_toList, hlist, List.length_map]
    have hval : ∀ j : Nat, j < xs.length → scr.slots[j]? = some (.int (xs.getD j 0)) := fun j hj => by
      rw [← Array.getElem?_toList, hlist]
      simp [hj]
    have hbl : b < s.heap.size := (Array.getElem?_eq_some_iff.mp hcb).1
    have hX : va_X b xs.length (fun j => xs.getD j 0) s s.heap := ⟨scr, hcb, hof, hkn, hsz, hval⟩
    have K : W p l e room_1 s m #[Value.ref b] below meth c s₁.heap [] 0 0 (lw_Z below #[Value.ref b] s) (entryFrame m ([Value.ref b] : List Value).toArray 12) := by
      rw [hh0]
      exact whole_start l hflags hbd ⟨B.exec, B.bytes, B.returns, hml, hown, hts, hX, hbl, B.notSynchronized, hgv⟩
    obtain ⟨t, a1, o, b1, b2, b3⟩ := K s₁ rfl X₀
    exact ⟨t, o, a1, b1, b2, b3⟩
theorem lw_pre_spec {args : Array Value} {s : State} (h : (Jvm.Cond.and given_1 narrow_1).before args s = true) (hr : rest_1_c.before args s = true) : ∃ (b : Addr) (xs : List Int32), lw_P b xs args s := by
  have hs := flat_of_before _ h
  have hq := flat_of_before _ hr
  have hc : (Cond.count 1).before args s = true := hs _ (by decide +kernel)
  have harr : (Cond.arrayOf (.arg 0) .int).before args s = true := hs _ (by decide +kernel)
  have hle : (Cond.le (.length (.arg 0)) (.int 260)).before args s = true := hs _ (by decide +kernel)
  have hlen : (Cond.isInt (.length (.arg 0))).before args s = true := hq _ (by decide +kernel)
  have hall : (Cond.all (.arg 0) (.isInt (.elem (.arg 0) (.index 0)))).before args s = true := hq _ (by decide +kernel)
  obtain ⟨b, xs, hb, hx⟩ := State.ints_of_pre rfl harr hlen hall
  have hsm : xs.length < 2 ^ 31 := hx.choose_spec.2.2.2
  have hev : (Term.length (.arg 0)).eval args s none [] s = some (.int xs.length.toInt32) := hx.length_eval hb
  have hv := Cond.le_ints hev (show (Term.int 260).eval args s none [] s = some (.int 260) from rfl)
  have hd : xs.length.toInt32 ≤ 260 := by
    simpa [Cond.before, Cond.holds, hv] using hle
  have hN : xs.length ≤ 260 := (Int32.ofNat_le_ofNat hsm (by decide)).mp (show Int32.ofNat xs.length ≤ Int32.ofNat 260 from hd)
  exact ⟨b, xs, Cond.one_arg hc (show args[0]? = some (.ref b) from hb), hx, hN, h⟩
theorem lw_comes (l : Launch) (hflags : l.flags = flags0) : Comes l x (Jvm.Cond.code x code maxLocals ret :: tables_1) room_1 (fun tb e args s => Calls_1 tb e args s ∧ rest_1 tb e args s ∧ Pre_1 tb e args s)
    (fun _ _ args s o t => lw_Q args s o t) := by
  intro p e ha hc hk s m args below hf hfit hheap happ hpre
  obtain ⟨b, xs, hP⟩ := lw_pre_spec hpre.2.2 hpre.2.1
  obtain ⟨k, o, h1, h2, h3, hQ⟩ := lw_walk l hflags b xs p e ha hc hk s m args below hf ((Spec.applies_iff_loose hf).mp happ).1 hP trivial
  exact ⟨k, o, h1, h2, h3, hQ⟩
theorem lw_frame {s t : State} {o : Outcome} {args : Array Value} (h : Framed s o t [] 600000 7302250) :
    Framed s o t (fieldLocs frame_1_writes args s ++ arrayLocs frame_1_arrays args s ++ staticLocs frame_1_statics s) 600000 7302250 := h
theorem lw_limb (L : Cond) (hL : ∀ (args : Array Value) (s t : State), L.after args s (.returned (some (.int 1))) t = true) :
    ArmFor flags0 classFile x code maxLocals ret World_1 tables_1 room_1 Calls_1 rest_1 Pre_1
      (fun tb e a s o t => postC L tb e a s o t ∧ Framed s o t (fieldLocs frame_1_writes a s ++ arrayLocs frame_1_arrays a s ++ staticLocs frame_1_statics s) 600000 7302250) := by
  intro l hflags _ _ p e ha hc hk s m args below hf hfit hheap happ hpre
  obtain ⟨k, o, h1, h2, h3, rfl, hF⟩ := lw_comes l hflags p e ha hc hk s m args below hf hfit hheap happ hpre
  exact ⟨k, _, h1, h2, h3, hL args s _, lw_frame hF⟩
theorem i_vc : Claimed_1_1 ∧ Claimed_1_2 := ⟨lw_limb limb_1_1 (fun args s t => by simp [limb_1_1, Cond.after, Cond.holds, Cond.value]), lw_limb limb_1_2 (fun args s t => Cond.after_iff.mpr (by
  first | (rw [show limb_1_2 = Cond.eq .result (.int 1) from rfl, Cond.eq_ints (x := 1) (y := 1) rfl rfl]; simp; done) | (simp [limb_1_2, Cond.value, Term.eval]; done)))⟩

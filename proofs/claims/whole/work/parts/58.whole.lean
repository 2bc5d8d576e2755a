/-! THE CLAIM OUT OF ONE WALK OF THE LAW'S BODY. Your part is whole_start (and what it stands on); all else here is the same for every law, but numbers. -/
def R_law : String := "PittanceHouseLaw"
def lw_P (b : Addr) (xs : List Int32) (args : Array Value) (s : State) : Prop := args = #[.ref b] ∧ s.IntsAt b xs ∧ xs.length ≤ 1536 ∧ (Jvm.Cond.and given_1 narrow_1).before args s = true
/-- what a walk over the start with the record d0 says of its end, said of the start itself -/
theorem lw_closed {s t : State} {o : Outcome} {d0 : Drawn} {L : List Loc} {k n : Nat} (hd0 : s.drawn.sameBut d0 lw_cs) (hv : ∃ v, o = .returned v) (hW : (s.setDrawn d0).WarmedH t.vm) (hs : (s.setDrawn d0).sameButNew ({ t with vm := s.vm } : State) L k n) : State.butDraws s t lw_cs (fun t1 => Framed s o t1 L k n) := by
  have h2 : t.drawn = d0 := congrArg State.drawn hs.1
  refine ⟨⟨hv, hW, State.sameButNew.setDrawn hs s.drawn⟩, ?_, by decide⟩
  rw [h2]
  exact hd0
def lw_Q (_ : Array Value) (s : State) (o : Outcome) (t : State) : Prop := o = .returned (some (.int 1)) ∧ State.butDraws s t lw_cs (fun t1 => Framed s o t1 [] 600000 7302249)
def lw_Z (below : List Frame) (a : Array Value) (s : State) : State → Prop := fun t => ∃ o, t.status = .running ∧ Ended t below o ∧ lw_Q a s o t
/-- the law's own end, with 1 on the stack, nothing written that was there before, its room as the claim has it; d0: the record of draws at this point (at the entry s.drawn: begin with 'refine W.base ?_' and 'have hd0 := Drawn.sameBut.refl s.drawn lw_cs') -/
theorem lw_ret {p : Program} {l : Launch} {e : Env} {s : State} {m : MethodId} {below : List Frame} {meth : Method} {c : Code} {b : Nat} {d0 : Drawn} (hd0 : s.drawn.sameBut d0 lw_cs) (hx : p.tables.exec = Jvm.exec) (hb : c.code = code) (hr : meth.sig.returnType = ret) (hlocks : meth.locks = false) {pc : Nat} {H : Heap} {ls : Array Slot} (hdg : decode code pc = .ok (.ireturn, 1)) : W p l e room_1 (s.setDrawn d0) m #[Value.ref b] below meth c H [] 600000 7302249 (lw_Z below #[Value.ref b] s) (F0 m pc ls [.int 1]) := by
  intro T hT X
  obtain ⟨fs, hret, hrun, hended, hW, hframe⟩ := X.leave (v := some (.int 1)) (hlocks := hlocks) (fun h => by rw [hr] at h; cases h)
  have hmeth' : T.vm.method? m = some meth := X.method'
  refine ⟨T.setFrames fs, ?_, .returned (some (.int 1)), hrun, hended, rfl, lw_closed hd0 ⟨_, rfl⟩ hW hframe⟩
  jvm_step X.here [X.here.top, hx, hb, hdg, hmeth', hr, ret, narrow_b1]
  (try refine ⟨rfl, ?_⟩); (try refine ⟨rfl, ?_⟩)
  first | (intro acts; rw [hret _ acts rfl rfl rfl]) | rw [hret _ _ rfl rfl rfl]
  exact Steps.refl _
/-- what holds at the law's entry: the machine, the code, the tables' words (any of lw_tbl by 'hts w (by decide +kernel)'), the script of L ints xs at the cell b, what the Statement gives of the start (any of its parts by flat_of_before) -/
def lw_At (p : Program) (s : State) (m : MethodId) (meth : Method) (c : Code) (b L : Nat) (xs : Nat → Int32) : Prop :=
  p.tables.exec = Jvm.exec ∧ c.code = code ∧ meth.sig.returnType = ret ∧ c.maxLocals = 8 ∧ s.vm.findClass R_law = some m.cls ∧ (∀ w ∈ lw_tbl, w.before #[Value.ref b] s = true) ∧ va_X b L xs s s.heap ∧ b < s.heap.size ∧ meth.locks = false ∧ (Jvm.Cond.and given_1 narrow_1).before #[Value.ref b] s = true
/-- the words of the start that speak of the eight texts -/
def ws_t (i : Nat) : Term := Term.string RX2 (fm_cp.getD i 0)
def ws_F : List Cond := flatC (Jvm.Cond.and given_1 narrow_1)
set_option maxRecDepth 100000 in
theorem ws_ex : ∀ i, i < 8 → Cond.exactly (ws_t i) "java/lang/String" ∈ ws_F := by decide +kernel
set_option maxRecDepth 100000 in
theorem ws_co : ∀ i, i < 8 → Cond.eq (.field (ws_t i) "java/lang/String" "coder" "B") (.int 0) ∈ ws_F := by decide +kernel
set_option maxRecDepth 100000 in
theorem ws_ar : ∀ i, i < 8 → Cond.arrayOf (.field (ws_t i) "java/lang/String" "value" "[B") .byte ∈ ws_F := by decide +kernel
set_option maxRecDepth 100000 in
theorem ws_le : ∀ i, i < 8 → Cond.eq (.length (.field (ws_t i) "java/lang/String" "value" "[B")) (.int (Int32.ofNat (fm_len.getD i 0))) ∈ ws_F := by decide +kernel
set_option maxRecDepth 100000 in
theorem ws_el : ∀ i, i < 8 → ∀ j, j < fm_len.getD i 0 → Cond.eq (.elem (.field (ws_t i) "java/lang/String" "value" "[B") (.int (Int32.ofNat j))) (.int ((fm_byt.getD i []).getD j 0)) ∈ ws_F := by decide +kernel
set_option maxRecDepth 100000 in
theorem ws_ne : ∀ i, i < 8 → ∀ j, j < 8 → i = j ∨ Cond.not (Cond.eq (ws_t i) (ws_t j)) ∈ ws_F ∨ Cond.not (Cond.eq (ws_t j) (ws_t i)) ∈ ws_F := by decide +kernel
theorem ws_ln : ∀ i, i < 8 → fm_len.getD i 0 < 2 ^ 31 := by decide +kernel
theorem ws_rf : ∀ i, i < 8 → lw_tbl[591 + i]? = some (Cond.stringRef RX2 (fm_cp.getD i 0) (fm_tx.getD i "")) := by decide +kernel
theorem ws_N : ∀ w ∈ fm_N, w ∈ lw_tbl := by decide +kernel
theorem ws_No : ∀ w ∈ fm_N, w.onTables = true := by decide +kernel
theorem ws_X {s : State} {b : Nat} (hts : ∀ w ∈ lw_tbl, w.before #[Value.ref b] s = true) (hgv : (Jvm.Cond.and given_1 narrow_1).before #[Value.ref b] s = true) : ∃ ad : Nat → Nat, ad 4000 = b ∧ fm_X ad (fun q : Nat => s.heap.size ≤ q) s := by
  have hf : ∀ w ∈ ws_F, w.before #[Value.ref b] s = true := flat_of_before _ hgv
  have hA : ∀ a : Nat, a < s.heap.size → ¬ (fun q : Nat => s.heap.size ≤ q) a := fun a h => Nat.not_le.mpr h
  obtain ⟨adK, adV, hS8, hev⟩ := vk_Sof (args := #[Value.ref b]) (s := s) (N := 8) (tm := ws_t) (len := fm_len) (byt := fm_byt) (A := fun q : Nat => s.heap.size ≤ q) ws_ln (fun i hi => hf _ (ws_ex i hi)) (fun i hi => hf _ (ws_co i hi)) (fun i hi => hf _ (ws_ar i hi)) (fun i hi => hf _ (ws_le i hi)) (fun i hi j hj => hf _ (ws_el i hi j hj)) (fun i j hi hj hij => by
    rcases ws_ne i hi j hj with h | h | h
    · exact absurd h hij
    · exact Or.inl (hf _ h)
    · exact Or.inr (hf _ h)) hA
  have hC : va_Z "java/lang/String" "COMPACT_STRINGS" "Z" (.int 1) (fun q : Nat => s.heap.size ≤ q) s s.heap := va_Zof (hts _ (List.mem_of_getElem? (i := 612) (by decide +kernel))) (hts _ (List.mem_of_getElem? (i := 91) (by decide +kernel))) (va_eqt (hf _ (by decide +kernel))) hA
  have hQ : va_Zq "jdk/internal/util/Preconditions" "SIOOBE_FORMATTER" "Ljava/util/function/BiFunction;" (fun q : Nat => s.heap.size ≤ q) s s.heap := va_Zqof (hts _ (List.mem_of_getElem? (i := 628) (by decide +kernel))) (hts _ (List.mem_of_getElem? (i := 93) (by decide +kernel))) (hf _ (by decide +kernel)) hA
  obtain ⟨t, hZ⟩ : ∃ t : Nat, va_Z "jdk/internal/util/Preconditions" "SIOOBE_FORMATTER" "Ljava/util/function/BiFunction;" .null (fun q : Nat => s.heap.size ≤ q) s s.heap ∨ va_Z "jdk/internal/util/Preconditions" "SIOOBE_FORMATTER" "Ljava/util/function/BiFunction;" (.ref t) (fun q : Nat => s.heap.size ≤ q) s s.heap := by
    rcases hQ with h | ⟨t, h⟩
    · exact ⟨0, Or.inl h⟩
    · exact ⟨t, Or.inr h⟩
  obtain ⟨ad, e4, e3, e1, e2⟩ : ∃ ad : Nat → Nat, ad 4000 = b ∧ ad 3000 = t ∧ (∀ i, i < 8 → ad (1000 + i) = adK i) ∧ ∀ i, i < 8 → ad (2000 + i) = adV i := by
    refine ⟨fun i => if i = 4000 then b else if i = 3000 then t else if 2000 ≤ i then adV (i - 2000) else adK (i - 1000), if_pos rfl, ?_, fun i hi => ?_, fun i hi => ?_⟩
    · show (if (3000 : Nat) = 4000 then b else if (3000 : Nat) = 3000 then t else _) = t
      rw [if_neg (by omega), if_pos rfl]
    · show (if 1000 + i = 4000 then b else if 1000 + i = 3000 then t else if 2000 ≤ 1000 + i then adV (1000 + i - 2000) else adK (1000 + i - 1000)) = adK i
      rw [if_neg (by omega), if_neg (by omega), if_neg (by omega), Nat.add_sub_cancel_left]
    · show (if 2000 + i = 4000 then b else if 2000 + i = 3000 then t else if 2000 ≤ 2000 + i then adV (2000 + i - 2000) else adK (2000 + i - 1000)) = adV i
      rw [if_neg (by omega), if_neg (by omega), if_pos (by omega), Nat.add_sub_cancel_left]
  refine ⟨ad, e4, ⟨fun i hi => ?_, fun i j hi hj e => ?_⟩, fun i hi => ?_, hC, ?_⟩
  · have h := hS8.1 i hi
    rw [← e1 i hi, ← e2 i hi] at h
    exact h
  · have e : ad (1000 + i) = ad (1000 + j) := e
    rw [e1 i hi, e1 j hj] at e
    exact hS8.2 i j hi hj e
  · rw [e1 i hi]
    exact vk_R.of (hts _ (List.mem_of_getElem? (ws_rf i hi))) (hev i hi)
  · rw [e3]
    exact hZ
theorem ws_A {s : State} {cA : ClassId} {kA : Class} {comp : ClassId} {ty : FieldType} (h2 : s.vm.classes[cA]? = some kA) (h3 : kA.kind = .array comp ty) : ArrOfT s cA ty := fun n z => ⟨fun k h => (by cases h), kA, h2, comp, h3⟩
theorem ws_K {s : State} {b : Nat} (hg : ∀ w ∈ fm_G, w.before #[Value.ref b] s = true) : ∃ (D : va_G) (cI cC : ClassId), va_K D vwCl [(cI, .int), (cC, .char)] s := by
  obtain ⟨d0, i0, k0⟩ := u_known (C := RX0) (T := TX0) (N := 4) (n := 4) hg fin_X0 (hg _ kw_nX0)
  obtain ⟨d1, i1, k1⟩ := u_known (C := RX1) (T := TX1) (N := 3) (n := 3) hg fin_X1 (hg _ kw_nX1)
  obtain ⟨d2, i2, k2⟩ := u_known (C := RX2) (T := TX2) (N := 6) (n := 6) hg fin_X2 (hg _ kw_nX2)
  obtain ⟨d3, i3, k3⟩ := u_known (C := RX3) (T := TX3) (N := 1) (n := 1) hg fin_X3 (hg _ kw_nX3)
  obtain ⟨d4, i4, k4⟩ := u_known (C := RX4) (T := TX4) (N := 2) (n := 2) hg fin_X4 (hg _ kw_nX4)
  obtain ⟨d5, i5, k5⟩ := u_known (C := RX5) (T := TX5) (N := 1) (n := 1) hg fin_X5 (hg _ kw_nX5)
  obtain ⟨d6, i6, k6⟩ := u_known (C := RX6) (T := TX6) (N := 12) (n := 12) hg fin_X6 (hg _ kw_nX6)
  obtain ⟨d7, i7, k7⟩ := u_known (C := RX7) (T := TX7) (N := 20) (n := 20) hg fin_X7 (hg _ kw_nX7)
  refine ⟨(fun k => match k with | 0 => d0 | 1 => d1 | 2 => d2 | 3 => d3 | 4 => d4 | 5 => d5 | 6 => d6 | _ => d7, fun k => match k with | 0 => i0 | 1 => i1 | 2 => i2 | 3 => i3 | 4 => i4 | 5 => i5 | 6 => i6 | _ => i7), ?_⟩
  obtain ⟨cI, kI, compI, fI, hkI, hkindI⟩ := Cond.arrayClass_spec (hg _ kw_aI)
  obtain ⟨cC, kC, compC, fC, hkC, hkindC⟩ := Cond.arrayClass_spec (hg _ kw_aC)
  refine ⟨cI, cC, fun k q hq => ?_, fun k q hq => ?_⟩
  · match k, hq with
    | 0, hq => cases hq; exact k0
    | 1, hq => cases hq; exact k1
    | 2, hq => cases hq; exact k2
    | 3, hq => cases hq; exact k3
    | 4, hq => cases hq; exact k4
    | 5, hq => cases hq; exact k5
    | 6, hq => cases hq; exact k6
    | 7, hq => cases hq; exact k7
    | k + 8, hq => exact absurd (List.getElem?_eq_some_iff.mp hq).1 (by show ¬ k + 8 < 8; omega)
  · match k, hq with
    | 0, hq => cases hq; exact ⟨ws_A hkI hkindI, fI⟩
    | 1, hq => cases hq; exact ⟨ws_A hkC hkindC, fC⟩
    | k + 2, hq => exact absurd (List.getElem?_eq_some_iff.mp hq).1 (by show ¬ k + 2 < 2; omega)
set_option maxRecDepth 100000 in
set_option maxHeartbeats 4000000 in
/-- from the entry, for every script of at most 1536 ints, the law comes to its end with true -/
theorem whole_start {p : Program} {e : Env} {s : State} {m : MethodId} {below : List Frame} {meth : Method} {c : Code} (l : Launch) (hflags : l.flags = flags0) {b L : Nat} {xs : Nat → Int32} (hL : L ≤ 1536) (C0 : lw_At p s m meth c b L xs) : W p l e room_1 s m #[Value.ref b] below meth c s.heap [] 0 0 (lw_Z below #[Value.ref b] s) (entryFrame m ([Value.ref b] : List Value).toArray 8) := by
  obtain ⟨hx, hb, hr, hml, hown, hts, hX, hbl, hlocks, hgv⟩ := id C0
  have hg : ∀ w ∈ fm_G, w.before #[Value.ref b] s = true := fun w hw => hts w (fm_G_tbl hw)
  obtain ⟨D, cI, cC, hK⟩ := ws_K hg
  obtain ⟨ad, e4, hXX⟩ := ws_X hts hgv
  have hN : ∀ w ∈ fm_N, va_Nw w s := fun w hw => va_Nw.of (ws_No w hw) (hts w (ws_N w hw))
  have hd0 := Drawn.sameBut.refl s.drawn lw_cs
  have hP : va_P D vwCl (fm_W ad cI cC [] fs_z) s.heap := fun k q h => by simp [fm_W] at h
  have hD : va_D (fun q : Nat => s.heap.size ≤ q) (fm_W ad cI cC [] fs_z) := ⟨fun i j p q h => by simp [fm_W] at h, fun k q h => by simp [fm_W] at h⟩
  have hE : fm_E L xs ad (fun q : Nat => s.heap.size ≤ q) s := by
    unfold fm_E
    rw [e4]
    exact ⟨hX, hbl, Nat.not_le.mpr hbl⟩
  have hent := fm_entry ad (as := [.ref 4000]) (n := 8) (fm_cc_r _ fm_cc_0) (Nat.le_of_ble_eq_true rfl)
  have em : [Value.ref 4000].map (fm_cv ad) = [Value.ref b] := by
    show [Value.ref (ad 4000)] = _
    rw [e4]
  rw [em] at hent
  rw [lg_entry_eq]
  refine W.base ?_
  refine ll_start (L := L) (xs := xs) hL p l e room_1 s (s.setDrawn s.drawn) m #[Value.ref b] below meth c D cI cC ad (fun q : Nat => s.heap.size ≤ q) s.heap [] _ (lw_Z below #[Value.ref b] s) ⟨hx, hb, hml, hr, hown, hlocks, hg, ⟨hK, hN⟩, hXX, ⟨Nat.le_of_ble_eq_true rfl, Nat.le_of_ble_eq_true rfl, Nat.le_refl _, Nat.le_refl _⟩, fun q h => h, s.drawn, rfl, hd0⟩ hent hP hD va_S.rf ?_ hE
  intro s1 H1 locs1 sl1 pc1 hdr hS1 hret
  obtain ⟨d1, e1, hd1⟩ := hdr
  subst e1
  refine va_forget (fun q hq => hS1.2.2 q hq) ?_
  exact lw_ret hd1 hx hb hr hlocks hret.1
-- ===== YOUR PART ENDS =====
set_option maxHeartbeats 4000000 in
theorem lw_walk (l : Launch) (hflags : l.flags = flags0) (b : Addr) (xs : List Int32) : MetFree l x (headSpec (Jvm.Cond.code x code maxLocals ret :: tables_1) room_1) (lw_P b xs) (fun _ _ _ _ _ => True) lw_Q := by
  refine MetFree.of_bodyS (code := code) (maxLocals := maxLocals) (ret := ret) (by decide) ?_ ?_
  · intro args s m h hn
    obtain ⟨meth, c, h1, h2, h3, h4, h5, h6, -, -⟩ := Cond.code_spec hn (atoms_spec (ws := Jvm.Cond.code x code maxLocals ret :: tables_1) h _ List.mem_cons_self)
    exact ⟨meth, c, h1, h2, h3, h4, h5, h6⟩
  · intro p e s m args below meth c s₁ B hml0 hP _
    obtain ⟨rfl, hx, hbd, hgv⟩ := hP
    obtain ⟨scr, harrAt, hlist, hof, hsmall⟩ := hx
    obtain ⟨hcb, hkn, -, -⟩ := State.arrayAt?_spec harrAt
    have hown : s.vm.findClass R_law = some m.cls := findClass_of_methodNamed B.named
    have hts0 : ∀ c ∈ (Jvm.Cond.code x code maxLocals ret :: tables_1), c.before #[Value.ref b] s = true := atoms_spec (ws := Jvm.Cond.code x code maxLocals ret :: tables_1) B.pre
    have hts : ∀ w ∈ lw_tbl, w.before #[Value.ref b] s = true := k2_hts_sels lw_privs (fun w hw => hts0 w (List.mem_cons_of_mem _ hw)) lw_privs_ok
    have hml : c.maxLocals = 8 := B.maxLocals_eq (hts0 _ List.mem_cons_self)
    have X₀ : Stand p l e room_1 s m #[Value.ref b] below meth c s₁ [] 0 0 := Stand.of_body B
    have hh0 : s₁.heap = s.heap := by rw [B.state]; rfl
    have hsz : scr.slots.size = xs.length := by rw [← Array.length_toList, hlist, List.length_map]
    have hval : ∀ j : Nat, j < xs.length → scr.slots[j]? = some (.int (xs.getD j 0)) := fun j hj => by
      rw [← Array.getElem?_toList, hlist]
      simp [hj]
    have hbl : b < s.heap.size := (Array.getElem?_eq_some_iff.mp hcb).1
    have hX : va_X b xs.length (fun j => xs.getD j 0) s s.heap := ⟨scr, hcb, hof, hkn, hsz, hval⟩
    have K : W p l e room_1 s m #[Value.ref b] below meth c s₁.heap [] 0 0 (lw_Z below #[Value.ref b] s) (entryFrame m ([Value.ref b] : List Value).toArray 8) := by
      rw [hh0]
      exact whole_start l hflags hbd ⟨B.exec, B.bytes, B.returns, hml, hown, hts, hX, hbl, B.notSynchronized, hgv⟩
    obtain ⟨t, a1, o, b1, b2, b3⟩ := K s₁ rfl X₀
    exact ⟨t, o, a1, b1, b2, b3⟩
theorem lw_pre_spec {args : Array Value} {s : State} (h : (Jvm.Cond.and given_1 narrow_1).before args s = true) (hr : rest_1_c.before args s = true) : ∃ (b : Addr) (xs : List Int32), lw_P b xs args s := by
  have hs := flat_of_before _ h
  have hq := flat_of_before _ hr
  have hc : (Cond.count 1).before args s = true := hs _ (by decide +kernel)
  have harr : (Cond.arrayOf (.arg 0) .int).before args s = true := hs _ (by decide +kernel)
  have hle : (Cond.le (.length (.arg 0)) (.int 1536)).before args s = true := hs _ (by decide +kernel)
  have hlen : (Cond.isInt (.length (.arg 0))).before args s = true := hq _ (by decide +kernel)
  have hall : (Cond.all (.arg 0) (.isInt (.elem (.arg 0) (.index 0)))).before args s = true := hq _ (by decide +kernel)
  obtain ⟨b, xs, hb, hx⟩ := State.ints_of_pre rfl harr hlen hall
  have hsm : xs.length < 2 ^ 31 := hx.choose_spec.2.2.2
  have hev : (Term.length (.arg 0)).eval args s none [] s = some (.int xs.length.toInt32) := hx.length_eval hb
  have hv := Cond.le_ints hev (show (Term.int 1536).eval args s none [] s = some (.int 1536) from rfl)
  have hd : xs.length.toInt32 ≤ 1536 := by
    simpa [Cond.before, Cond.holds, hv] using hle
  have hN : xs.length ≤ 1536 := (Int32.ofNat_le_ofNat hsm (by decide)).mp (show Int32.ofNat xs.length ≤ Int32.ofNat 1536 from hd)
  exact ⟨b, xs, Cond.one_arg hc (show args[0]? = some (.ref b) from hb), hx, hN, h⟩
theorem lw_comes (l : Launch) (hflags : l.flags = flags0) : Comes l x (Jvm.Cond.code x code maxLocals ret :: tables_1) room_1 (fun tb e args s => Calls_1 tb e args s ∧ rest_1 tb e args s ∧ Pre_1 tb e args s)
    (fun _ _ args s o t => lw_Q args s o t) := by
  intro p e ha hc hk s m args below hf hfit hheap happ hpre
  obtain ⟨b, xs, hP⟩ := lw_pre_spec hpre.2.2 hpre.2.1
  obtain ⟨k, o, h1, h2, h3, hQ⟩ := lw_walk l hflags b xs p e ha hc hk s m args below hf ((Spec.applies_iff_loose hf).mp happ).1 hP trivial
  exact ⟨k, o, h1, h2, h3, hQ⟩
theorem lw_frame {s t : State} {o : Outcome} {args : Array Value} (h : State.butDraws s t lw_cs (fun t1 => Framed s o t1 [] 600000 7302249)) :
    State.butDraws s t [Jvm.Choice.named "NaN.bits"] (fun t1 => Framed s o t1 (fieldLocs frame_1_writes args s ++ arrayLocs frame_1_arrays args s ++ staticLocs frame_1_statics s) 600000 7302249) := h
theorem lw_limb (L : Cond) (hL : ∀ (args : Array Value) (s t : State), L.after args s (.returned (some (.int 1))) t = true) :
    ArmFor flags0 classFile x code maxLocals ret World_1 tables_1 room_1 Calls_1 rest_1 Pre_1
      (fun tb e a s o t => postC L tb e a s o t ∧ State.butDraws s t [Jvm.Choice.named "NaN.bits"] (fun t1 => Framed s o t1 (fieldLocs frame_1_writes a s ++ arrayLocs frame_1_arrays a s ++ staticLocs frame_1_statics s) 600000 7302249)) := by
  intro l hflags _ _ p e ha hc hk s m args below hf hfit hheap happ hpre
  obtain ⟨k, o, h1, h2, h3, rfl, hF⟩ := lw_comes l hflags p e ha hc hk s m args below hf hfit hheap happ hpre
  exact ⟨k, _, h1, h2, h3, hL args s _, lw_frame hF⟩
theorem i_vc : Claimed_1_1 ∧ Claimed_1_2 := ⟨lw_limb limb_1_1 (fun args s t => by simp [limb_1_1, Cond.after, Cond.holds, Cond.value]), lw_limb limb_1_2 (fun args s t => Cond.after_iff.mpr (by
  first | (rw [show limb_1_2 = Cond.eq .result (.int 1) from rfl, Cond.eq_ints (x := 1) (y := 1) rfl rfl]; simp; done) | (simp [limb_1_2, Cond.value, Term.eval]; done)))⟩

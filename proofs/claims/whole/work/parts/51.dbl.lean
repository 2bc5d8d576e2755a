/-! doubles: two answers that are alike compare as equal, or are both no number -/
theorem dd_alike {r q : UInt64} (h : alike64 r q = true) : Fl.NoNaN64 r ↔ Fl.NoNaN64 q := by
  unfold alike64 at h
  rw [Bool.or_eq_true, decide_eq_true_eq, Bool.and_eq_true] at h
  rcases h with h | ⟨h1, h2⟩
  · rw [h]
  · unfold isNaN64 at h1 h2
    rw [decide_eq_true_eq] at h1 h2
    unfold Fl.NoNaN64
    rw [← UInt64.not_lt, ← UInt64.not_lt]
    exact ⟨fun h => absurd h1 h, fun h => absurd h2 h⟩
theorem dd_eq {r q : UInt64} (h : alike64 r q = true) (hn : Fl.NoNaN64 q) : r = q := by
  unfold alike64 at h
  rw [Bool.or_eq_true, decide_eq_true_eq, Bool.and_eq_true] at h
  rcases h with h | ⟨h1, h2⟩
  · exact h
  · unfold isNaN64 at h2
    rw [decide_eq_true_eq] at h2
    unfold Fl.NoNaN64 at hn
    exact absurd h2 (UInt64.not_lt.mpr hn)
theorem dd_cmp0 {x : UInt64} (h : Fl.NoNaN64 x) : Op.cmpValue (FP.dcmp x x) .l = 0 := by
  rw [show FP.dcmp x x = some .eq from FP.Core.dcmp_self (Fl.val64_no.mp h)]; rfl
theorem dd_cmp1 {x y : UInt64} (h : ¬ Fl.NoNaN64 x) : Op.cmpValue (FP.dcmp x y) .l = -1 := by
  have hx : FP.Core.val64 x = .nan := by
    rw [Fl.val64_no] at h
    exact Decidable.not_not.mp h
  rw [show FP.dcmp x y = none from (FP.Core.dcmp_none x y).mpr (Or.inl hx)]; rfl
theorem dd_two {r r1 q : UInt64} (h : alike64 r q = true) (h1 : alike64 r1 q = true) : Op.cmpValue (FP.dcmp r r1) .l = 0 ∨ (¬ Op.cmpValue (FP.dcmp r r1) .l = 0 ∧ ¬ Op.cmpValue (FP.dcmp r r) .l = 0 ∧ ¬ Op.cmpValue (FP.dcmp r1 r1) .l = 0) := by
  by_cases hn : Fl.NoNaN64 q
  · left
    rw [dd_eq h hn, dd_eq h1 hn]
    exact dd_cmp0 hn
  · right
    have a : ¬ Fl.NoNaN64 r := fun z => hn ((dd_alike h).mp z)
    have b : ¬ Fl.NoNaN64 r1 := fun z => hn ((dd_alike h1).mp z)
    refine ⟨?_, ?_, ?_⟩
    · rw [dd_cmp1 a]; decide
    · rw [dd_cmp1 a]; decide
    · rw [dd_cmp1 b]; decide
theorem dd_alikef {r q : UInt32} (h : alike32 r q = true) : (Fl.NoNaN32 q → r = q) ∧ (¬ Fl.NoNaN32 q → ¬ Fl.NoNaN32 r) := by
  unfold alike32 at h
  rw [Bool.or_eq_true, decide_eq_true_eq, Bool.and_eq_true] at h
  rcases h with h | ⟨h1, h2⟩
  · exact ⟨fun _ => h, fun a => by rw [h]; exact a⟩
  · unfold isNaN32 at h1 h2
    rw [decide_eq_true_eq] at h1 h2
    unfold Fl.NoNaN32
    exact ⟨fun a => absurd h2 (UInt32.not_lt.mpr a), fun _ a => absurd h1 (UInt32.not_lt.mpr a)⟩
theorem dd_nan {r : UInt64} (h : ¬ Fl.NoNaN64 r) : isNaN64 r = true := by
  unfold isNaN64
  rw [decide_eq_true_eq]
  unfold Fl.NoNaN64 at h
  exact UInt64.not_le.mp h
/-- a float and what it becomes -/
theorem dd_f2d {x q : UInt32} {r : UInt64} (h : alike32 x q = true) (h1 : alike64 r (FP.f2d x) = true) : alike64 r (FP.f2d q) = true := by
  by_cases hn : Fl.NoNaN32 q
  · rw [(dd_alikef h).1 hn] at h1
    exact h1
  · have a := (dd_alikef h).2 hn
    have b : ¬ Fl.NoNaN64 r := fun z => a (Fl.f2d_in ((dd_alike h1).mp z))
    have c : ¬ Fl.NoNaN64 (FP.f2d q) := fun z => hn (Fl.f2d_in z)
    unfold alike64
    rw [dd_nan b, dd_nan c]
    exact Bool.or_true _
def fm_GD (L : Nat) (xs : Nat → Int32) (lay : List fm_L) (d : Nat) (M : fm_Me) (Post : Option Value → fm_M → Prop) (dv : List (Nat × UInt64)) (pc : Nat) (ls : List (Option Value)) (st : List Value) (mem : fm_M) : Prop :=
  ∀ (p : Program) (l : Launch) (e : Env) (R : Room) (s0 s : State) (m : MethodId) (args : Array Value) (below : List Frame) (meth : Method) (c : Code) (D : va_G) (cI cC : ClassId) (ad : Nat → Nat) (A : Nat → Prop) (cells slots : Nat) (H : Heap) (locs : List Loc) (sl : Array Slot) (Q : State → Prop),
    fm_C d M p R s0 s m args meth c D cI cC ad A cells slots → fm_has ad M.2.2.1 sl ls → va_P D vwCl (fm_W ad cI cC lay mem) H → va_D A (fm_W ad cI cC lay mem) → va_S A s.heap H locs → fm_R lay M Post p l e R s0 m args below meth c D cI cC ad A cells slots Q → fm_E L xs ad A s → (∀ q ∈ dv, sl[q.1]? = some (.val (.double q.2))) →
      W p l e R s m args below meth c H locs cells slots Q (F0 m pc sl (st.map (fm_cv ad)))
theorem gd_in {L : Nat} {xs : Nat → Int32} {lay : List fm_L} {d : Nat} {M : fm_Me} {Post : Option Value → fm_M → Prop} {pc : Nat} {ls : List (Option Value)} {st : List Value} {mem : fm_M} (kk : fm_GD L xs lay d M Post [] pc ls st mem) : fm_GL L xs lay d M Post pc ls st mem := by
  intro p l e R s0 s m args below meth c D cI cC ad A cells slots H locs sl Q C hl hP hD hS hR hE
  exact kk p l e R s0 s m args below meth c D cI cC ad A cells slots H locs sl Q C hl hP hD hS hR hE (fun q h => absurd h List.not_mem_nil)
theorem gd_out {L : Nat} {xs : Nat → Int32} {lay : List fm_L} {d : Nat} {M : fm_Me} {Post : Option Value → fm_M → Prop} {dv : List (Nat × UInt64)} {pc : Nat} {ls : List (Option Value)} {st : List Value} {mem : fm_M} (kk : fm_GL L xs lay d M Post pc ls st mem) : fm_GD L xs lay d M Post dv pc ls st mem := by
  intro p l e R s0 s m args below meth c D cI cC ad A cells slots H locs sl Q C hl hP hD hS hR hE hV
  exact kk p l e R s0 s m args below meth c D cI cC ad A cells slots H locs sl Q C hl hP hD hS hR hE
theorem gd_aload_n {L : Nat} {xs : Nat → Int32} {lay : List fm_L} {d : Nat} {M : fm_Me} {Post : Option Value → fm_M → Prop} {dv : List (Nat × UInt64)} {pc : Nat} {ls : List (Option Value)} {st : List Value} {mem : fm_M} {k : Fin 4} {i : Nat} {x : Nat} (hd : decode M.2.1 pc = .ok (.aload_n k, 1)) (hi : (k : Nat) = i) (hv : ls[i]? = some (some (.ref x))) (kk : fm_GD L xs lay d M Post dv (pc + 1) ls (.ref x :: st) mem) : fm_GD L xs lay d M Post dv pc ls st mem := by
  intro p l e R s0 s m args below meth c D cI cC ad A cells slots H locs sl Q C hl hP hD hS hR hE hV
  exact lv_aload_n C.1 C.2.1 hd hi (hl.2.2 _ _ hv).2 (kk p l e R s0 s m args below meth c D cI cC ad A cells slots H locs sl Q C hl hP hD hS hR hE hV)
theorem gd_dload {L : Nat} {xs : Nat → Int32} {lay : List fm_L} {d : Nat} {M : fm_Me} {Post : Option Value → fm_M → Prop} {dv : List (Nat × UInt64)} {pc : Nat} {ls : List (Option Value)} {st : List Value} {mem : fm_M} {i : Nat} {x : UInt64} (hd : decode M.2.1 pc = .ok (.dload i, 2)) (hi : (i, x) ∈ dv) (kk : fm_GD L xs lay d M Post dv (pc + 2) ls (.double x :: st) mem) : fm_GD L xs lay d M Post dv pc ls st mem := by
  intro p l e R s0 s m args below meth c D cI cC ad A cells slots H locs sl Q C hl hP hD hS hR hE hV
  exact lv_dload C.1 C.2.1 hd (hV _ hi) (kk p l e R s0 s m args below meth c D cI cC ad A cells slots H locs sl Q C hl hP hD hS hR hE hV)
theorem gd_dcmp {L : Nat} {xs : Nat → Int32} {lay : List fm_L} {d : Nat} {M : fm_Me} {Post : Option Value → fm_M → Prop} {dv : List (Nat × UInt64)} {pc : Nat} {ls : List (Option Value)} {st : List Value} {mem : fm_M} {op : CmpOp} {x y : UInt64} (hd : decode M.2.1 pc = .ok (.dcmp op, 1)) (kk : fm_GD L xs lay d M Post dv (pc + 1) ls (.int (Op.cmpValue (FP.dcmp x y) op) :: st) mem) : fm_GD L xs lay d M Post dv pc ls (.double y :: .double x :: st) mem := by
  intro p l e R s0 s m args below meth c D cI cC ad A cells slots H locs sl Q C hl hP hD hS hR hE hV
  exact lv_dcmp C.1 C.2.1 hd (kk p l e R s0 s m args below meth c D cI cC ad A cells slots H locs sl Q C hl hP hD hS hR hE hV)
theorem gd_if_eq {L : Nat} {xs : Nat → Int32} {lay : List fm_L} {d : Nat} {M : fm_Me} {Post : Option Value → fm_M → Prop} {dv : List (Nat × UInt64)} {pc : Nat} {ls : List (Option Value)} {st : List Value} {mem : fm_M} {x : Int32} {off : Int} {tgt : Nat} (hd : decode M.2.1 pc = .ok (.ifCond .eq off, 3)) (ht : (pc : Int) + off = (tgt : Int)) (kt : x = 0 → fm_GD L xs lay d M Post dv tgt ls st mem) (kf : ¬ x = 0 → fm_GD L xs lay d M Post dv (pc + 3) ls st mem) : fm_GD L xs lay d M Post dv pc ls (.int x :: st) mem := by
  intro p l e R s0 s m args below meth c D cI cC ad A cells slots H locs sl Q C hl hP hD hS hR hE hV
  exact lv_if_eq C.1 C.2.1 hd ht (fun z => kt z p l e R s0 s m args below meth c D cI cC ad A cells slots H locs sl Q C hl hP hD hS hR hE hV) (fun z => kf z p l e R s0 s m args below meth c D cI cC ad A cells slots H locs sl Q C hl hP hD hS hR hE hV)
theorem gd_if_ne {L : Nat} {xs : Nat → Int32} {lay : List fm_L} {d : Nat} {M : fm_Me} {Post : Option Value → fm_M → Prop} {dv : List (Nat × UInt64)} {pc : Nat} {ls : List (Option Value)} {st : List Value} {mem : fm_M} {x : Int32} {off : Int} {tgt : Nat} (hd : decode M.2.1 pc = .ok (.ifCond .ne off, 3)) (ht : (pc : Int) + off = (tgt : Int)) (kt : ¬ x = 0 → fm_GD L xs lay d M Post dv tgt ls st mem) (kf : x = 0 → fm_GD L xs lay d M Post dv (pc + 3) ls st mem) : fm_GD L xs lay d M Post dv pc ls (.int x :: st) mem := by
  intro p l e R s0 s m args below meth c D cI cC ad A cells slots H locs sl Q C hl hP hD hS hR hE hV
  exact lv_if_ne C.1 C.2.1 hd ht (fun z => kt z p l e R s0 s m args below meth c D cI cC ad A cells slots H locs sl Q C hl hP hD hS hR hE hV) (fun z => kf z p l e R s0 s m args below meth c D cI cC ad A cells slots H locs sl Q C hl hP hD hS hR hE hV)
theorem gd_goto {L : Nat} {xs : Nat → Int32} {lay : List fm_L} {d : Nat} {M : fm_Me} {Post : Option Value → fm_M → Prop} {dv : List (Nat × UInt64)} {pc : Nat} {ls : List (Option Value)} {st : List Value} {mem : fm_M} {off : Int} {tgt : Nat} (hd : decode M.2.1 pc = .ok (.goto off, 3)) (ht : (pc : Int) + off = (tgt : Int)) (kk : fm_GD L xs lay d M Post dv tgt ls st mem) : fm_GD L xs lay d M Post dv pc ls st mem := by
  intro p l e R s0 s m args below meth c D cI cC ad A cells slots H locs sl Q C hl hP hD hS hR hE hV
  exact lv_goto C.1 C.2.1 hd ht (kk p l e R s0 s m args below meth c D cI cC ad A cells slots H locs sl Q C hl hP hD hS hR hE hV)
theorem gd_f2d {L : Nat} {xs : Nat → Int32} {lay : List fm_L} {d : Nat} {M : fm_Me} {Post : Option Value → fm_M → Prop} {dv : List (Nat × UInt64)} {pc : Nat} {ls : List (Option Value)} {st : List Value} {mem : fm_M} {x : UInt32} (hd : decode M.2.1 pc = .ok (.f2d, 1)) (kk : ∀ r, alike64 r (FP.f2d x) = true → fm_GD L xs lay d M Post dv (pc + 1) ls (.double r :: st) mem) : fm_GD L xs lay d M Post dv pc ls (.float x :: st) mem := by
  intro p l e R s0 s m args below meth c D cI cC ad A cells slots H locs sl Q C hl hP hD hS hR hE hV
  obtain ⟨a1, a2, a3, a4, a5, a6, a7, a8, a9, a10, a11, a12⟩ := C
  obtain ⟨d0, rfl, hd0⟩ := a12
  exact lv_f2d_any hd0 lw_bits a1 a2 hd (fun r d1 hal hd1 => kk r hal p l e R s0 (s0.setDrawn d1) m args below meth c D cI cC ad A cells slots H locs sl Q ⟨a1, a2, a3, a4, a5, a6, dr_words (s := s0) (fun w hw => by have := a7 w hw; rw [Cond.before_setDrawn] at this; exact this) d1, ⟨va_K.moved (u := s0.setDrawn d0) (U := s0.setDrawn d1) (Vm.Alike.refl _) a8.1, fm_N_same (u := s0.setDrawn d0) (U := s0.setDrawn d1) rfl a8.2⟩, fm_X_same (u := s0.setDrawn d0) (U := s0.setDrawn d1) a9 rfl rfl, a10, a11, d1, rfl, hd1⟩ hl hP hD hS hR ⟨hE.1, hE.2.1, hE.2.2⟩ hV)
theorem gd_dstore {L : Nat} {xs : Nat → Int32} {lay : List fm_L} {d : Nat} {M : fm_Me} {Post : Option Value → fm_M → Prop} {dv : List (Nat × UInt64)} {pc : Nat} {ls : List (Option Value)} {st : List Value} {mem : fm_M} {i : Nat} {x : UInt64} (hd : decode M.2.1 pc = .ok (.dstore i, 2)) (hn : i + 1 < M.2.2.1) (h0 : ∀ v, ¬ ls[i]? = some (some v)) (h1 : ∀ v, ¬ ls[i + 1]? = some (some v)) (hz : ∀ q ∈ dv, ¬ q.1 = i ∧ ¬ q.1 = i + 1 ∧ ¬ q.1 + 1 = i) (kk : fm_GD L xs lay d M Post ((i, x) :: dv) (pc + 2) ls st mem) : fm_GD L xs lay d M Post dv pc ls (.double x :: st) mem := by
  intro p l e R s0 s m args below meth c D cI cC ad A cells slots H locs sl Q C hl hP hD hS hR hE hV
  have hh : lv_has sl M.2.2.1 (fm_kn ad ls ++ dv.map (fun q => (q.1, Value.double q.2))) := by
    refine ⟨hl.1, hl.2.1, fun q hq => ?_⟩
    rcases List.mem_append.mp hq with h | h
    · exact (fm_has_kn hl).2.2 q h
    · obtain ⟨q1, hq1, rfl⟩ := List.mem_map.mp h
      exact hV q1 hq1
  refine lv_dstore C.1 C.2.1 hd hh hn rfl (fun sl1 hl1 => kk p l e R s0 s m args below meth c D cI cC ad A cells slots H locs sl1 Q C ⟨hl1.1, hl1.2.1, fun j v hj => ⟨(hl.2.2 j v hj).1, ?_⟩⟩ hP hD hS hR hE (fun q hq => ?_))
  · refine hl1.2.2 (j, fm_cv ad v) (List.mem_cons_of_mem _ (List.mem_filter.mpr ⟨List.mem_append_left _ (fm_kn_in.mpr ⟨v, hj, rfl⟩), ?_⟩))
    have e1 : (j == i) = false := by simp only [beq_eq_false_iff_ne]; exact fun z => h0 v (z ▸ hj)
    have e2 : (j == i + 1) = false := by simp only [beq_eq_false_iff_ne]; exact fun z => h1 v (z ▸ hj)
    have e3 : ((fm_cv ad v).category == 2) = false := by rw [fm_cv_cat, (hl.2.2 j v hj).1]; rfl
    show (!(j == i) && (!(j == i + 1) && !(j + 1 == i && (fm_cv ad v).category == 2))) = true
    rw [e1, e2, e3, Bool.and_false]; rfl
  · rcases List.mem_cons.mp hq with rfl | hq
    · exact hl1.2.2 _ List.mem_cons_self
    · refine hl1.2.2 (q.1, .double q.2) (List.mem_cons_of_mem _ (List.mem_filter.mpr ⟨List.mem_append_right _ (List.mem_map.mpr ⟨q, hq, rfl⟩), ?_⟩))
      obtain ⟨z1, z2, z3⟩ := hz q hq
      have e1 : (q.1 == i) = false := by simp only [beq_eq_false_iff_ne]; exact z1
      have e2 : (q.1 == i + 1) = false := by simp only [beq_eq_false_iff_ne]; exact z2
      have e3 : (q.1 + 1 == i) = false := by simp only [beq_eq_false_iff_ne]; exact z3
      show (!(q.1 == i) && (!(q.1 == i + 1) && !(q.1 + 1 == i && (Value.double q.2).category == 2))) = true
      rw [e1, e2, e3, Bool.false_and]; rfl
theorem gd_callV {L : Nat} {xs : Nat → Int32} {lay : List fm_L} {d : Nat} {M : fm_Me} {Post : Option Value → fm_M → Prop} {dv : List (Nat × UInt64)} {pc : Nat} {ls : List (Option Value)} {st : List Value} {mem : fm_M} {M2 : fm_Me} {d2 n idx : Nat} {As st0 : List Value} {mem1 : fm_M} {PostC : Option Value → fm_M → Prop} {q ci N : Nat} {fl : List (Option (Option Nat))} {C0 : String} {T : u_T} (hd : decode M.2.1 pc = .ok (.invokevirtual idx, 3)) (hcal : fm_Met lay d2 M2 (.ref q :: As) mem PostC) (hdd : d2 + 1 ≤ d) (hce : fm_callee M2 n) (hlk : Cond.methodLink M.2.2.2.2 idx M2.1 ∈ fm_G) (hin : Cond.instanceMethod M2.1 ∈ fm_G) (hsel : Cond.selects C0 M2.1 M2.1 ∈ fm_G) (hc : fm_cls ci C0 T N) (he : lay[q]? = some (.inr (ci, fl))) (hn : As.length = n) (hst : (st.map fun v => v.category).sum ≤ 8) (hs0 : st0 = As.reverse ++ .ref q :: st) (kk : ∀ v mem2, PostC v mem2 → fm_GD L xs lay d M Post dv (pc + 3) ls (v.toList ++ st) mem2) : fm_GD L xs lay d M Post dv pc ls st0 mem := by
  intro p l e R s0 s m args below meth c D cI cC ad A cells slots H locs sl Q C hl hP hD hS hR hE hV
  subst hs0
  have hr := C.2.2.2.2.2.2.2.2.2.1
  have hts := C.2.2.2.2.2.2.1
  have hrun := va_runV_D (cs := lw_cs) (e := e) (R := R) (p := p) (l := l) (args := args) (c := c) (H := H) (locs := locs) (cells := cells) (slots := slots) (below := below) (meth := meth) (rest := st.map (fm_cv ad)) (As := As.map (fm_cv ad)) (g := F0 m pc sl ((As.reverse ++ .ref q :: st).map (fm_cv ad))) (b := ad q) (C := C0) ⟨C.1, C.2.1, C.2.2.1, C.2.2.2.2.1, hts⟩ (hcal l D cI cC ad H.size) ⟨fm_callB hce hts hdd ⟨hr.1, hr.2.1⟩ hlk, hts _ hin, hts _ hsel⟩
    ⟨fm_blind, va_recv C.2.2.2.2.2.2.2.1.1 hP hc.1 (fm_at he), fun U hU hW => fm_pre C.2.2.2.2.2.2.2.1 C.2.2.2.2.2.2.2.2.1 hP hD hS C.2.2.2.2.2.2.2.2.2.2.1 hU hW⟩ rfl (by rw [List.length_map]; exact hn) hl.1 (by show List.map _ _ = _; rw [List.map_append, List.map_reverse]; rfl) (by show 2 * 0 + _ ≤ 8; have := fm_st8 ad hst; omega) hd ⟨hr.2.2.1, hr.2.2.2⟩
  refine fm_back hrun C.2.2.2.2.2.2.2.2.2.2.2 hS (fm_Afree hD hS C.2.2.2.2.2.2.2.2.2.2.1) (fun v mem' H1 locs1 s1 hs1 hvm hhp hw hpost hP1 hS1 => ?_)
  obtain ⟨a1, a2, a3, a4, a5, a6, a7, a8, a9, a10, a11, a12⟩ := C
  have hsame : s.vm.Alike s1.vm := by rw [hvm]; exact Vm.Alike.refl _
  have C1 : fm_C d M p R s0 s1 m args meth c D cI cC ad A cells slots := ⟨a1, a2, a3, a4, by rw [hvm]; exact a5, a6, fun w hw1 => hw w (a7 w hw1), ⟨va_K.moved hsame a8.1, fm_N_same hvm.symm a8.2⟩, fm_X_same a9 hvm.symm hhp.symm, a10, by rw [hhp]; exact a11, hs1⟩
  have key := kk v mem' hpost p l e R s0 s1 m args below meth c D cI cC ad A cells slots H1 locs1 sl Q C1 hl hP1 (fm_D_mem hD) hS1 hR (fm_E_same hE hvm.symm hhp.symm) hV
  have e1 : ((v.toList ++ st).map (fm_cv ad)) = (v.map (fm_cv ad)).toList ++ st.map (fm_cv ad) := by cases v <;> rfl
  rw [e1] at key
  exact key
set_option maxRecDepth 100000 in
set_option maxHeartbeats 4000000 in
theorem lc_31 {Inv : Nat → fm_M → Prop} (ha : ag_meanAge Inv) {L : Nat} {xs : Nat → Int32} {Post : Option Value → fm_M → Prop} {t : Nat} {m : fm_M} {x3 : Int32} (ht : t < 512) (hi : Inv t m) (hk : ∀ m', Inv (t + 1) m' → fm_GL L xs fm_layW 11 m_L_law Post 1060 [some (.ref 4000), some (.ref 0), some (.ref 23), some (.int x3), none, none, none, none] [] m') : fm_GL L xs fm_layW 11 m_L_law Post 937 [some (.ref 4000), some (.ref 0), some (.ref 23), some (.int x3), none, none, none, none] [] m := by
  obtain ⟨q, h1, h2, hi2⟩ := ha t m ht hi
  refine gd_in ?_
  refine gd_aload_n (pc := 937) dL_law_937 rfl rfl ?_
  refine gd_callV (mem1 := m) (pc := 938) (As := []) (st := []) dL_law_938 (c_X6_meanAge _ h1) (by decide) ce_X6_meanAge ml_L_142 in_X6_meanAge se_X6_meanAge cl_X6 rfl rfl (Nat.le_of_ble_eq_true rfl) rfl (fun v m2 hv => ?_)
  obtain ⟨r, rfl, hr, rfl⟩ := hv
  refine gd_dstore (pc := 941) dL_law_941 (by decide) (fun v hv => by cases hv) (fun v hv => by cases hv) (fun q h => absurd h List.not_mem_nil) ?_
  refine gd_aload_n (pc := 943) dL_law_943 rfl rfl ?_
  refine gd_callV (mem1 := m2) (pc := 944) (As := []) (st := []) dL_law_944 (c_X7_meanAge _ h2) (by decide) ce_X7_meanAge ml_L_146 in_X7_meanAge se_X7_meanAge cl_X7 rfl rfl (Nat.le_of_ble_eq_true rfl) rfl (fun v m3 hv => ?_)
  obtain ⟨r1, rfl, hr1, rfl⟩ := hv
  refine gd_dstore (pc := 947) dL_law_947 (by decide) (fun v hv => by cases hv) (fun v hv => by cases hv) (fun q h => ?_) ?_
  · rcases List.mem_cons.mp h with rfl | h
    · exact ⟨(by show ¬ 4 = 6; decide), (by show ¬ 4 = 6 + 1; decide), (by show ¬ 4 + 1 = 6; decide)⟩
    · exact absurd h List.not_mem_nil
  refine gd_dload (pc := 949) (x := r) dL_law_949 (List.mem_cons_of_mem _ List.mem_cons_self) ?_
  refine gd_dload (pc := 951) (x := r1) dL_law_951 List.mem_cons_self ?_
  refine gd_dcmp (pc := 953) dL_law_953 ?_
  rcases dd_two hr hr1 with hc | ⟨hc0, hc1, hc2⟩
  · refine gd_if_eq (pc := 954) (tgt := 975) dL_law_954 (by decide) (fun _ => ?_) (fun z => absurd hc z)
    refine gd_goto (pc := 975) (tgt := 1060) dL_law_975 (by decide) ?_
    exact gd_out (hk _ hi2)
  · refine gd_if_eq (pc := 954) (tgt := 975) dL_law_954 (by decide) (fun z => absurd z hc0) (fun _ => ?_)
    refine gd_dload (pc := 957) (x := r) dL_law_957 (List.mem_cons_of_mem _ List.mem_cons_self) ?_
    refine gd_dload (pc := 959) (x := r) dL_law_959 (List.mem_cons_of_mem _ List.mem_cons_self) ?_
    refine gd_dcmp (pc := 961) dL_law_961 ?_
    refine gd_if_eq (pc := 962) (tgt := 973) dL_law_962 (by decide) (fun z => absurd z hc1) (fun _ => ?_)
    refine gd_dload (pc := 965) (x := r1) dL_law_965 List.mem_cons_self ?_
    refine gd_dload (pc := 967) (x := r1) dL_law_967 List.mem_cons_self ?_
    refine gd_dcmp (pc := 969) dL_law_969 ?_
    refine gd_if_ne (pc := 970) (tgt := 975) dL_law_970 (by decide) (fun _ => ?_) (fun z => absurd z hc2)
    refine gd_goto (pc := 975) (tgt := 1060) dL_law_975 (by decide) ?_
    exact gd_out (hk _ hi2)
set_option maxRecDepth 100000 in
set_option maxHeartbeats 4000000 in
theorem lc_32 {Inv : Nat → fm_M → Prop} (ha : ag_entitledShare Inv) {L : Nat} {xs : Nat → Int32} {Post : Option Value → fm_M → Prop} {t : Nat} {m : fm_M} {x3 : Int32} (ht : t < 512) (hi : Inv t m) (hk : ∀ m', Inv (t + 1) m' → fm_GL L xs fm_layW 11 m_L_law Post 1060 [some (.ref 4000), some (.ref 0), some (.ref 23), some (.int x3), none, none, none, none] [] m') : fm_GL L xs fm_layW 11 m_L_law Post 978 [some (.ref 4000), some (.ref 0), some (.ref 23), some (.int x3), none, none, none, none] [] m := by
  obtain ⟨q, h1, h2, hi2⟩ := ha t m ht hi
  refine gd_in ?_
  refine gd_aload_n (pc := 978) dL_law_978 rfl rfl ?_
  refine gd_callV (mem1 := m) (pc := 979) (As := []) (st := []) dL_law_979 (c_X6_entitledShare _ h1) (by decide) ce_X6_entitledShare ml_L_147 in_X6_entitledShare se_X6_entitledShare cl_X6 rfl rfl (Nat.le_of_ble_eq_true rfl) rfl (fun v m2 hv => ?_)
  obtain ⟨f, rfl, hf, rfl⟩ := hv
  refine gd_f2d (pc := 982) dL_law_982 (fun r hr0 => ?_)
  have hr := dd_f2d hf hr0
  refine gd_dstore (pc := 983) dL_law_983 (by decide) (fun v hv => by cases hv) (fun v hv => by cases hv) (fun q h => absurd h List.not_mem_nil) ?_
  refine gd_aload_n (pc := 985) dL_law_985 rfl rfl ?_
  refine gd_callV (mem1 := m2) (pc := 986) (As := []) (st := []) dL_law_986 (c_X7_entitledShare _ h2) (by decide) ce_X7_entitledShare ml_L_151 in_X7_entitledShare se_X7_entitledShare cl_X7 rfl rfl (Nat.le_of_ble_eq_true rfl) rfl (fun v m3 hv => ?_)
  obtain ⟨f1, rfl, hf1, rfl⟩ := hv
  refine gd_f2d (pc := 989) dL_law_989 (fun r1 hr01 => ?_)
  have hr1 := dd_f2d hf1 hr01
  refine gd_dstore (pc := 990) dL_law_990 (by decide) (fun v hv => by cases hv) (fun v hv => by cases hv) (fun q h => ?_) ?_
  · rcases List.mem_cons.mp h with rfl | h
    · exact ⟨(by show ¬ 4 = 6; decide), (by show ¬ 4 = 6 + 1; decide), (by show ¬ 4 + 1 = 6; decide)⟩
    · exact absurd h List.not_mem_nil
  refine gd_dload (pc := 992) (x := r) dL_law_992 (List.mem_cons_of_mem _ List.mem_cons_self) ?_
  refine gd_dload (pc := 994) (x := r1) dL_law_994 List.mem_cons_self ?_
  refine gd_dcmp (pc := 996) dL_law_996 ?_
  rcases dd_two hr hr1 with hc | ⟨hc0, hc1, hc2⟩
  · refine gd_if_eq (pc := 997) (tgt := 1018) dL_law_997 (by decide) (fun _ => ?_) (fun z => absurd hc z)
    refine gd_goto (pc := 1018) (tgt := 1060) dL_law_1018 (by decide) ?_
    exact gd_out (hk _ hi2)
  · refine gd_if_eq (pc := 997) (tgt := 1018) dL_law_997 (by decide) (fun z => absurd z hc0) (fun _ => ?_)
    refine gd_dload (pc := 1000) (x := r) dL_law_1000 (List.mem_cons_of_mem _ List.mem_cons_self) ?_
    refine gd_dload (pc := 1002) (x := r) dL_law_1002 (List.mem_cons_of_mem _ List.mem_cons_self) ?_
    refine gd_dcmp (pc := 1004) dL_law_1004 ?_
    refine gd_if_eq (pc := 1005) (tgt := 1016) dL_law_1005 (by decide) (fun z => absurd z hc1) (fun _ => ?_)
    refine gd_dload (pc := 1008) (x := r1) dL_law_1008 List.mem_cons_self ?_
    refine gd_dload (pc := 1010) (x := r1) dL_law_1010 List.mem_cons_self ?_
    refine gd_dcmp (pc := 1012) dL_law_1012 ?_
    refine gd_if_ne (pc := 1013) (tgt := 1018) dL_law_1013 (by decide) (fun _ => ?_) (fun z => absurd z hc2)
    refine gd_goto (pc := 1018) (tgt := 1060) dL_law_1018 (by decide) ?_
    exact gd_out (hk _ hi2)

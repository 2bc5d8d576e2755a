/-! the law while its world grows -/
theorem fm_E_ad {L : Nat} {xs : Nat → Int32} {ad ad1 : Nat → Nat} {A : Nat → Prop} {s : State} (h : ∀ i, 1000 ≤ i → ad1 i = ad i) (hE : fm_E L xs ad A s) : fm_E L xs ad1 A s := by
  unfold fm_E
  rw [h 4000 (by omega)]
  exact hE
def fm_RL (M : fm_Me) (mc ms : Nat) (p : Program) (l : Launch) (e : Env) (R : Room) (s0 : State) (m : MethodId) (args : Array Value) (below : List Frame) (meth : Method) (c : Code) (A : Nat → Prop) (Q : State → Prop) : Prop :=
  ∀ (s : State) (H : Heap) (locs : List Loc) (sl : Array Slot) (pc : Nat), fm_dr s0 s → va_S A s.heap H locs → fm_isR M pc (some (.int 1)) → W p l e R s m args below meth c H locs mc ms Q (F0 m pc sl [.int 1])
def fm_Lw (L : Nat) (xs : Nat → Int32) (lay : List fm_L) (d : Nat) (M : fm_Me) (mc ms kc ks : Nat) (pc : Nat) (ls : List (Option Value)) (st : List Value) (mem : fm_M) : Prop :=
  ∀ (p : Program) (l : Launch) (e : Env) (R : Room) (s0 s : State) (m : MethodId) (args : Array Value) (below : List Frame) (meth : Method) (c : Code) (D : va_G) (cI cC : ClassId) (ad : Nat → Nat) (A : Nat → Prop) (H : Heap) (locs : List Loc) (sl : Array Slot) (Q : State → Prop),
    fm_C d M p R s0 s m args meth c D cI cC ad A mc ms → fm_has ad M.2.2.1 sl ls → va_P D vwCl (fm_W ad cI cC lay mem) H → va_D A (fm_W ad cI cC lay mem) → va_S A s.heap H locs → fm_RL M mc ms p l e R s0 m args below meth c A Q → fm_E L xs ad A s →
      W p l e R s m args below meth c H locs kc ks Q (F0 m pc sl (st.map (fm_cv ad)))
theorem lq_go {L : Nat} {xs : Nat → Int32} {lay : List fm_L} {d : Nat} {M : fm_Me} {mc ms kc ks : Nat} {pc : Nat} {ls : List (Option Value)} {st : List Value} {mem : fm_M} (h1 : kc ≤ mc) (h2 : ks ≤ ms) (kk : fl_Go L xs lay d M (fun v _ => v = some (.int 1)) pc ls st mem) : fm_Lw L xs lay d M mc ms kc ks pc ls st mem := by
  intro p l e R s0 s m args below meth c D cI cC ad A H locs sl Q C hl hP hD hS hR hE
  refine W.widen h1 h2 ?_
  refine kk p l e R s0 s m args below meth c D cI cC ad A mc ms H locs sl Q C ⟨hl.1, hl.2.1, fun i v hv => (hl.2.2 i v hv).2⟩ hP hD hS ?_ hE
  intro s1 H1 locs1 sl1 pc1 v mem1 hdr hp hP1 hS1 hret
  subst hp
  exact hR s1 H1 locs1 sl1 pc1 hdr hS1 hret
theorem lq_dup {L : Nat} {xs : Nat → Int32} {lay : List fm_L} {d : Nat} {M : fm_Me} {mc ms kc ks : Nat} {pc : Nat} {ls : List (Option Value)} {st : List Value} {mem : fm_M} {v : Value} (hd : decode M.2.1 pc = .ok (.dup, 1)) (hv : v.category = 1) (kk : fm_Lw L xs lay d M mc ms kc ks (pc + 1) ls (v :: v :: st) mem) : fm_Lw L xs lay d M mc ms kc ks pc ls (v :: st) mem := by
  intro p l e R s0 s m args below meth c D cI cC ad A H locs sl Q C hl hP hD hS hR hE
  exact lv_dup C.1 C.2.1 hd (by rw [fm_cv_cat]; exact hv) (kk p l e R s0 s m args below meth c D cI cC ad A H locs sl Q C hl hP hD hS hR hE)
set_option maxHeartbeats 4000000 in
theorem lq_new {L : Nat} {xs : Nat → Int32} {lay : List fm_L} {d : Nat} {M : fm_Me} {mc ms kc ks : Nat} {pc : Nat} {ls : List (Option Value)} {st : List Value} {mem : fm_M} {ci N idx : Nat} {C0 : String} {T : u_T} (ty : Nat → FieldType) {l2 : List (Option (Option Nat))} {fs : List Value} (hd : decode M.2.1 pc = .ok (.new idx, 3)) (hc : fm_cls ci C0 T N) (hty : ∀ k, k < N → parseFieldDescriptor (T k).2.2.1 = some (ty k)) (hcl : Cond.classLink M.2.2.2.2 idx C0 ∈ fm_G) (hinst : Cond.instantiable C0 N ∈ fm_G) (hini : Cond.initialized C0 ∈ fm_G) (hfs : ∀ ad, fm_fs ad (fun _ => 0) l2 = fs) (hdf : ∀ j, j < N → defaultValue (ty j) = vp_V fs j) (hm : mem lay.length = fun _ => 0) (hclo : fm_clo lay.length lay) (hn : lay.length < 1000) (hol : fm_okl lay.length ls) (hos : fm_oks lay.length st) (h1 : kc + 1 ≤ mc) (h2 : ks + N ≤ ms) (kk : fm_Lw L xs (lay ++ [.inr (ci, l2)]) d M mc ms (kc + 1) (ks + N) (pc + 3) ls (.ref lay.length :: st) mem) : fm_Lw L xs lay d M mc ms kc ks pc ls st mem := by
  intro p l e R s0 s m args below meth c D cI cC ad A H locs sl Q C hl hP hD hS hR hE
  obtain ⟨hc1, hc2, -⟩ := hc
  have hts := C.2.2.2.2.2.2.1
  have hr := C.2.2.2.2.2.2.2.2.2.1
  refine va_new (ci := ci) (fs := fs) C.1 C.2.1 hts hc2 ty hty C.2.2.2.2.1 (hts _ hcl) (hts _ hinst) (hts _ hini) C.2.2.2.2.2.2.2.1.1 hP hD hS C.2.2.2.2.2.2.2.2.2.2.1 hc1 hdf (Nat.le_trans h1 hr.2.2.1) (Nat.le_trans h2 hr.2.2.2) hd (fun q H1 hP1 hD1 hS1 => ?_)
  have hA := fm_ad1_ag (ad := ad) (q := q) hn
  have eW : fm_W (fm_ad1 ad lay.length q) cI cC (lay ++ [.inr (ci, l2)]) mem = fm_W ad cI cC lay mem ++ [(q, .inr (ci, fs))] := by
    rw [fm_W_app, fm_W_ad hclo (Nat.le_refl _) (fun i hi => hA i (Or.inl hi))]
    congr 1
    show [(fm_ad1 ad lay.length q lay.length, Sum.inr (ci, fm_fs (fm_ad1 ad lay.length q) (mem lay.length) l2))] = _
    rw [hm, hfs, show fm_ad1 ad lay.length q lay.length = q from if_pos rfl]
  have key := kk p l e R s0 s m args below meth c D cI cC (fm_ad1 ad lay.length q) A H1 locs sl Q (fm_C_ad (fun i hi => hA i (Or.inr hi)) C) (fm_has_ad hA hol hl) (by rw [eW]; exact hP1) (by rw [eW]; exact hD1) hS1 hR (fm_E_ad (fun i hi => hA i (Or.inr hi)) hE)
  rw [List.map_cons, fm_cv_ad hA hos, show fm_cv (fm_ad1 ad lay.length q) (.ref lay.length) = .ref q from congrArg Value.ref (if_pos rfl)] at key
  exact key
set_option maxHeartbeats 4000000 in
theorem lq_calli {L : Nat} {xs : Nat → Int32} {lay : List fm_L} {d : Nat} {M : fm_Me} {mc ms kc ks : Nat} {pc : Nat} {ls : List (Option Value)} {st : List Value} {mem : fm_M} {M2 : fm_Me} {d2 n idx mc2 ms2 : Nat} {As st0 : List Value} {PostC : List fm_L → fm_M → Prop} {q : Nat} (hd : decode M.2.1 pc = .ok (.invokespecial idx, 3)) (hcal : fm_Nw lay d2 M2 (.ref q :: As) mem PostC mc2 ms2) (hdd : d2 + 1 ≤ d) (hce : fm_callee M2 n) (hret : M2.2.2.2.1 = none) (hlk : Cond.methodLink M.2.2.2.2 idx M2.1 ∈ fm_G) (hin : Cond.instanceMethod M2.1 ∈ fm_G) (hinit : M2.1.name = "<init>") (hn : As.length = n) (hst : (st.map fun v => v.category).sum ≤ 8) (hs0 : st0 = As.reverse ++ .ref q :: st) (hol : fm_okl lay.length ls) (hos : fm_oks lay.length st) (h1 : kc + mc2 ≤ mc) (h2 : ks + ms2 ≤ ms) (kk : ∀ lay2 mem2, PostC lay2 mem2 → fm_Lw L xs lay2 d M mc ms (kc + mc2) (ks + ms2) (pc + 3) ls st mem2) : fm_Lw L xs lay d M mc ms kc ks pc ls st0 mem := by
  intro p l e R s0 s m args below meth c D cI cC ad A H locs sl Q C hl hP hD hS hR hE
  subst hs0
  have hr := C.2.2.2.2.2.2.2.2.2.1
  have hts := C.2.2.2.2.2.2.1
  have hrun := va_runI (e := e) (R := R) (p := p) (l := l) (args := args) (c := c) (H := H) (locs := locs) (cells := kc) (slots := ks) (below := below) (meth := meth) (rest := st.map (fm_cv ad)) (As := As.map (fm_cv ad)) (g := F0 m pc sl ((As.reverse ++ .ref q :: st).map (fm_cv ad))) (b := ad q) ⟨C.1, C.2.1, C.2.2.1, C.2.2.2.2.1, hts⟩ (hcal l D cI cC ad H.size) ⟨fm_callBC hce hret hts hdd ⟨hr.1, hr.2.1⟩ hlk, hinit, hts _ hin⟩
    ⟨fm_blind, fun U hU hW => fm_pre C.2.2.2.2.2.2.2.1 C.2.2.2.2.2.2.2.2.1 hP hD hS C.2.2.2.2.2.2.2.2.2.2.1 hU hW⟩ rfl (by rw [List.length_map]; exact hn) hl.1 (by show List.map _ _ = _; rw [List.map_append, List.map_reverse]; rfl) (by show 2 * 0 + _ ≤ 8; have := fm_st8 ad hst; omega) hd ⟨Nat.le_trans h1 hr.2.2.1, Nat.le_trans h2 hr.2.2.2⟩
  refine fm_backW hrun C.2.2.2.2.2.2.2.2.2.2.2 hS (fm_Afree hD hS C.2.2.2.2.2.2.2.2.2.2.1) (fun lay1 mem1 ad1 H1 locs1 s1 hs1 hvm hhp hw hag hpost hP1 hD1 hS1 => ?_)
  obtain ⟨a1, a2, a3, a4, a5, a6, a7, a8, a9, a10, a11, a12⟩ := C
  have hsame : s.vm.Alike s1.vm := by rw [hvm]; exact Vm.Alike.refl _
  have C1 : fm_C d M p R s0 s1 m args meth c D cI cC ad1 A mc ms := ⟨a1, a2, a3, a4, by rw [hvm]; exact a5, a6, fun w hw1 => hw w (a7 w hw1), ⟨va_K.moved hsame a8.1, fm_N_same hvm.symm a8.2⟩, fm_X_ad (fun i hi => hag i (Or.inr hi)) (fm_X_same a9 hvm.symm hhp.symm), a10, by rw [hhp]; exact a11, hs1⟩
  have key := kk lay1 mem1 hpost p l e R s0 s1 m args below meth c D cI cC ad1 A H1 locs1 sl Q C1 (fm_has_ad hag hol hl) hP1 hD1 hS1 hR (fm_E_ad (fun i hi => hag i (Or.inr hi)) (fm_E_same hE hvm.symm hhp.symm))
  rw [fm_cv_ad hag hos] at key
  exact key
theorem lq_astore_n {L : Nat} {xs : Nat → Int32} {lay : List fm_L} {d : Nat} {M : fm_Me} {mc ms kc ks : Nat} {pc : Nat} {ls : List (Option Value)} {st : List Value} {mem : fm_M} {k : Fin 4} {i : Nat} {x : Nat} (hd : decode M.2.1 pc = .ok (.astore_n k, 1)) (hi : (k : Nat) = i) (hn : i < M.2.2.1) {ls1 : List (Option Value)} (h1 : ls.set i (some (.ref x)) = ls1) (kk : fm_Lw L xs lay d M mc ms kc ks (pc + 1) ls1 st mem) : fm_Lw L xs lay d M mc ms kc ks pc ls (.ref x :: st) mem := by
  intro p l e R s0 s m args below meth c D cI cC ad A H locs sl Q C hl hP hD hS hR hE
  subst h1
  exact lv_astore_n C.1 C.2.1 hd hi (fm_has_kn hl) hn rfl (fun sl1 hl1 => kk p l e R s0 s m args below meth c D cI cC ad A H locs sl1 Q C (fm_has_set hl rfl hl1) hP hD hS hR hE)
set_option maxRecDepth 100000 in
set_option maxHeartbeats 4000000 in
theorem ll_start {L : Nat} {xs : Nat → Int32} (hL : L ≤ 260) : fm_Lw L xs [] 11 m_L_law 600000 7302250 0 0 0 [some (.ref 4000), none, none, none, none, none, none, none, none, none, none, none] [] fs_z := by
  refine lq_new (pc := 0) (ci := 6) (l2 := [some none, some none, some none, some none, some none, some none, some none, some none, some none, none, none, none]) (fs := [.null, .null, .null, .null, .null, .null, .null, .null, .null, .int 0, .int 0, .int 0]) tyX6 dL_law_0 cl_X6 tyX6_ok kw_cL_8 kw_nX6 kw_iX6 (fun _ => rfl) (fun j hj => match j, hj with | 0, _ => rfl | 1, _ => rfl | 2, _ => rfl | 3, _ => rfl | 4, _ => rfl | 5, _ => rfl | 6, _ => rfl | 7, _ => rfl | 8, _ => rfl | 9, _ => rfl | 10, _ => rfl | 11, _ => rfl | j + 12, hj => absurd hj (by omega)) rfl (fm_clo_of rfl) (by decide) ⟨Or.inr (by decide), trivial, trivial, trivial, trivial, trivial, trivial, trivial, trivial, trivial, trivial, trivial, trivial⟩ trivial (by decide) (by decide) ?_
  refine lq_dup (pc := 3) dL_law_3 rfl ?_
  refine lq_calli (pc := 4) (As := []) (q := 0) dL_law_4 k_X6 (by decide) ce_X6_init rfl kw_mL_234 kw_vX6 rfl rfl (Nat.le_of_ble_eq_true rfl) rfl ⟨Or.inr (by decide), trivial, trivial, trivial, trivial, trivial, trivial, trivial, trivial, trivial, trivial, trivial, trivial⟩ ⟨Or.inl (by decide), trivial⟩ (by decide) (by decide) (fun lay2 mem2 hh => ?_)
  obtain ⟨rfl, rfl⟩ := hh
  refine lq_astore_n (pc := 7) (ls1 := [some (.ref 4000), some (.ref 0), none, none, none, none, none, none, none, none, none, none]) dL_law_7 rfl (by decide) rfl ?_
  refine lq_go (by decide) (by decide) ?_
  obtain ⟨m2, h⟩ := lb_law (xs := xs) hL
  exact c_L_law (X := []) fs_m h

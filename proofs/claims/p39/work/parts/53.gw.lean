/-! A WORLD THAT GROWS: constructors. The places keep their numbers, new cells come behind; what is new is zero in the memory from the start -/
def fm_ag (n : Nat) (ad ad1 : Nat → Nat) : Prop := ∀ i, i < n ∨ 1000 ≤ i → ad1 i = ad i
theorem fm_ag_le {n n1 : Nat} {ad ad1 : Nat → Nat} (h : fm_ag n1 ad ad1) (hn : n ≤ n1) : fm_ag n ad ad1 := fun i hi => h i (by omega)
theorem fm_ag_tr {n : Nat} {a b c : Nat → Nat} (h : fm_ag n a b) (h1 : fm_ag n b c) : fm_ag n a c := fun i hi => (h1 i hi).trans (h i hi)
def fm_clo (n : Nat) (lay : List fm_L) : Prop := ∀ (i ci : Nat) (l : List (Option (Option Nat))) (j q : Nat), lay[i]? = some (.inr (ci, l)) → l[j]? = some (some (some q)) → q < n
def fm_clb (n : Nat) (lay : List fm_L) : Bool := lay.all fun e => match e with
  | .inl _ => true
  | .inr x => x.2.all fun f => match f with
    | some (some q) => decide (q < n)
    | _ => true
theorem fm_clo_of {n : Nat} {lay : List fm_L} (h : fm_clb n lay = true) : fm_clo n lay := by
  intro i ci l j q hi hj
  have h1 := List.all_eq_true.mp h _ (List.mem_of_getElem? hi)
  have h2 := List.all_eq_true.mp h1 _ (List.mem_of_getElem? hj)
  exact of_decide_eq_true h2
theorem fm_fv_ad {ad ad1 : Nat → Nat} {f : Nat → Int32} {l : List (Option (Option Nat))} (h : ∀ (j q : Nat), l[j]? = some (some (some q)) → ad1 q = ad q) : fm_fs ad1 f l = fm_fs ad f l := by
  unfold fm_fs
  apply List.ext_getElem?
  intro j
  rw [List.getElem?_mapIdx, List.getElem?_mapIdx]
  cases hq : l[j]? with
  | none => rfl
  | some o =>
    match o, hq with
    | none, _ => rfl
    | some none, _ => rfl
    | some (some q), hq => show some (Value.ref (ad1 q)) = some (Value.ref (ad q)); rw [h j q hq]
theorem fm_W_ad {n : Nat} {ad ad1 : Nat → Nat} {cI cC : ClassId} {lay : List fm_L} {mem : fm_M} (hc : fm_clo n lay) (hn : lay.length ≤ n) (h : ∀ i, i < n → ad1 i = ad i) : fm_W ad1 cI cC lay mem = fm_W ad cI cC lay mem := by
  unfold fm_W
  apply List.ext_getElem?
  intro i
  rw [List.getElem?_mapIdx, List.getElem?_mapIdx]
  cases hq : lay[i]? with
  | none => rfl
  | some e =>
    have hi : i < lay.length := (List.getElem?_eq_some_iff.mp hq).1
    show some _ = some _
    congr 1
    match e, hq with
    | .inl (t, k), _ => show (ad1 i, _) = (ad i, _); rw [h i (by omega)]
    | .inr (ci, l), hq => show (ad1 i, Sum.inr (ci, fm_fs ad1 (mem i) l)) = (ad i, Sum.inr (ci, fm_fs ad (mem i) l)); rw [h i (by omega), fm_fv_ad (fun j q hj => h q (hc i ci l j q hq hj))]
theorem fm_W_app {ad : Nat → Nat} {cI cC : ClassId} {lay : List fm_L} {mem : fm_M} {e : fm_L} : fm_W ad cI cC (lay ++ [e]) mem = fm_W ad cI cC lay mem ++ [fm_e ad cI cC mem lay.length e] := by
  unfold fm_W
  rw [List.mapIdx_append]
  congr 1
  show [fm_e ad cI cC mem (0 + lay.length) e] = _
  rw [Nat.zero_add]
theorem fm_W_ref {ad : Nat → Nat} {cI cC : ClassId} {lay : List fm_L} {mem : fm_M} {q ci k r : Nat} {l2 : List (Option (Option Nat))} (h : lay[q]? = some (.inr (ci, l2))) (hk : k < l2.length) : (fm_W ad cI cC lay mem).set q (ad q, .inr (ci, (fm_fs ad (mem q) l2).set k (.ref (ad r)))) = fm_W ad cI cC (lay.set q (.inr (ci, l2.set k (some (some r))))) mem := by
  have hl : q < lay.length := (List.getElem?_eq_some_iff.mp h).1
  have hz : (fm_fs ad (mem q) l2).set k (.ref (ad r)) = fm_fs ad (mem q) (l2.set k (some (some r))) := by
    unfold fm_fs
    apply List.ext_getElem?
    intro j
    by_cases hj : j = k
    · subst hj
      rw [List.getElem?_set_self (by rw [List.length_mapIdx]; exact hk), List.getElem?_mapIdx, List.getElem?_set_self hk]; rfl
    · rw [List.getElem?_set_ne (Ne.symm hj), List.getElem?_mapIdx, List.getElem?_mapIdx, List.getElem?_set_ne (Ne.symm hj)]
  rw [hz]
  unfold fm_W
  apply List.ext_getElem?
  intro j
  by_cases hj : j = q
  · subst hj
    rw [List.getElem?_set_self (by rw [List.length_mapIdx]; exact hl), List.getElem?_mapIdx, List.getElem?_set_self hl]; rfl
  · rw [List.getElem?_set_ne (Ne.symm hj), List.getElem?_mapIdx, List.getElem?_mapIdx, List.getElem?_set_ne (Ne.symm hj)]
theorem fm_X_ad {ad ad1 : Nat → Nat} {A : Nat → Prop} {U : State} (h : ∀ i, 1000 ≤ i → ad1 i = ad i) (hX : fm_X ad A U) : fm_X ad1 A U := by
  obtain ⟨h1, h2, h3, h4, h5, h6⟩ := hX
  have e1 : (fun i => ad1 (1000 + i)) = fun i => ad (1000 + i) := funext fun i => h _ (by omega)
  have e2 : (fun i => ad1 (2000 + i)) = fun i => ad (2000 + i) := funext fun i => h _ (by omega)
  have e3 : (fun i => Value.ref (ad1 (1000 + (8 + i)))) = fun i => Value.ref (ad (1000 + (8 + i))) := funext fun i => by rw [h _ (by omega)]
  refine ⟨by rw [e1, e2]; exact h1, fun i hi => by rw [h (1000 + i) (by omega)]; exact h2 i hi, h3, by rw [h 3000 (by omega)]; exact h4, by rw [h 3001 (by omega)]; exact h5, ?_⟩
  rw [e3, h 3001 (by omega)]
  exact h6
def fm_okl (n : Nat) : List (Option Value) → Prop
  | [] => True
  | o :: l => (match o with
    | some (.ref q) => q < n ∨ 1000 ≤ q
    | _ => True) ∧ fm_okl n l
def fm_oks (n : Nat) : List Value → Prop
  | [] => True
  | o :: l => (match o with
    | .ref q => q < n ∨ 1000 ≤ q
    | _ => True) ∧ fm_oks n l
theorem fm_cv_ad {n : Nat} {ad ad1 : Nat → Nat} (h : fm_ag n ad ad1) : ∀ {st : List Value}, fm_oks n st → st.map (fm_cv ad1) = st.map (fm_cv ad) := by
  intro st
  induction st with
  | nil => intro _; rfl
  | cons v st ih =>
    intro hs
    show fm_cv ad1 v :: _ = fm_cv ad v :: _
    rw [ih hs.2]
    congr 1
    cases v with
    | ref q => show Value.ref (ad1 q) = Value.ref (ad q); rw [h q hs.1]
    | _ => rfl
theorem fm_okl_at {n : Nat} : ∀ {ls : List (Option Value)} {i q : Nat}, fm_okl n ls → ls[i]? = some (some (.ref q)) → q < n ∨ 1000 ≤ q := by
  intro ls
  induction ls with
  | nil => intro i q _ h; simp at h
  | cons o ls ih =>
    intro i q hs h
    cases i with
    | zero => rw [List.getElem?_cons_zero] at h; cases h; exact hs.1
    | succ i => rw [List.getElem?_cons_succ] at h; exact ih hs.2 h
theorem fm_has_ad {n nL : Nat} {ad ad1 : Nat → Nat} {sl : Array Slot} {ls : List (Option Value)} (h : fm_ag n ad ad1) (hs : fm_okl n ls) (hl : fm_has ad nL sl ls) : fm_has ad1 nL sl ls := by
  refine ⟨hl.1, hl.2.1, fun i v hv => ⟨(hl.2.2 i v hv).1, ?_⟩⟩
  have e : fm_cv ad1 v = fm_cv ad v := by
    cases v with
    | ref q => show Value.ref (ad1 q) = Value.ref (ad q); rw [h q (fm_okl_at hs hv)]
    | _ => rfl
  rw [e]
  exact (hl.2.2 i v hv).2
def fm_Rw (M : fm_Me) (n0 : Nat) (Post : List fm_L → fm_M → Prop) (mc ms : Nat) (p : Program) (l : Launch) (e : Env) (R : Room) (s0 : State) (m : MethodId) (args : Array Value) (below : List Frame) (meth : Method) (c : Code) (D : va_G) (cI cC : ClassId) (ad0 : Nat → Nat) (A : Nat → Prop) (Q : State → Prop) : Prop :=
  ∀ (s : State) (H : Heap) (locs : List Loc) (sl : Array Slot) (pc : Nat) (lay : List fm_L) (mem : fm_M) (ad : Nat → Nat), fm_dr s0 s → fm_ag n0 ad0 ad → Post lay mem → va_P D vwCl (fm_W ad cI cC lay mem) H → va_D A (fm_W ad cI cC lay mem) → va_S A s.heap H locs → fm_isR M pc none → W p l e R s m args below meth c H locs mc ms Q (F0 m pc sl [])
def fm_Gw (n0 : Nat) (lay : List fm_L) (d : Nat) (M : fm_Me) (Post : List fm_L → fm_M → Prop) (mc ms kc ks : Nat) (pc : Nat) (ls : List (Option Value)) (st : List Value) (mem : fm_M) : Prop :=
  ∀ (p : Program) (l : Launch) (e : Env) (R : Room) (s0 s : State) (m : MethodId) (args : Array Value) (below : List Frame) (meth : Method) (c : Code) (D : va_G) (cI cC : ClassId) (ad0 ad : Nat → Nat) (A : Nat → Prop) (H : Heap) (locs : List Loc) (sl : Array Slot) (Q : State → Prop),
    fm_C d M p R s0 s m args meth c D cI cC ad A mc ms → meth.name = "<init>" → fm_ag n0 ad0 ad → fm_has ad M.2.2.1 sl ls → va_P D vwCl (fm_W ad cI cC lay mem) H → va_D A (fm_W ad cI cC lay mem) → va_S A s.heap H locs → fm_Rw M n0 Post mc ms p l e R s0 m args below meth c D cI cC ad0 A Q →
      W p l e R s m args below meth c H locs kc ks Q (F0 m pc sl (st.map (fm_cv ad)))
def fm_rmC (d mc ms : Nat) : Room := { frames := d, cells := mc, slots := ms, locals := 27 * d }
def fm_Qw (D : va_G) (cI cC : ClassId) (ad : Nat → Nat) (n : Nat) (Post : List fm_L → fm_M → Prop) (A : Nat → Prop) : Array Value → State → Outcome → State → Prop := fun _ st oc t => (∃ (lay : List fm_L) (mem : fm_M) (ad1 : Nat → Nat), oc = .returned none ∧ fm_ag n ad ad1 ∧ Post lay mem ∧ va_P D vwCl (fm_W ad1 cI cC lay mem) t.heap ∧ va_D A (fm_W ad1 cI cC lay mem)) ∧ va_F A st t
/-- A CONSTRUCTOR'S CONTRACT -/
def fm_Nw (lay : List fm_L) (d : Nat) (M : fm_Me) (as : List Value) (mem : fm_M) (Post : List fm_L → fm_M → Prop) (mc ms : Nat) : Prop :=
  ∀ (l : Launch) (D : va_G) (cI cC : ClassId) (ad : Nat → Nat) (sz : Nat), Met l M.1 (fm_ws M) (fm_rmC d mc ms) (va_Pc (as.map (fm_cv ad)) (fun U => U.heap.size = sz ∧ fm_At D cI cC ad lay mem (fm_A ad lay.length sz) U)) (fm_Qw D cI cC ad lay.length Post (fm_A ad lay.length sz)) mc ms (fm_A ad lay.length sz)
set_option maxHeartbeats 4000000 in
theorem fm_Nw_of {lay : List fm_L} {d : Nat} {M : fm_Me} {as : List Value} {mem : fm_M} {Post : List fm_L → fm_M → Prop} {mc ms : Nat} {ls : List (Option Value)} (hy : plainName M.1.cls = true) (how : M.2.2.2.2 = M.1.cls) (hinit : M.1.name = "<init>") (hc : ∀ v ∈ as, v.category = 1) (hn : as.length ≤ M.2.2.1) (hls : fm_ent M.2.2.1 as = ls) (body : fm_Gw lay.length lay d M Post mc ms 0 0 0 ls [] mem) : fm_Nw lay d M as mem Post mc ms := by
  subst hls
  intro l D cI cC ad sz
  refine Met.ofW (cc := M.2.1) (maxL := M.2.2.1) (ret := M.2.2.2.1) hy rfl ?_
  intro p e s m args below meth c s₁ B hml hv
  obtain ⟨rfl, hsz, hK, hX, hP, hD⟩ := hv
  have hts := atoms_spec (ws := fm_ws M) B.pre
  have hlocks := B.notSynchronized
  have hin : meth.name = "<init>" := ((name_of_methodNamed B.named B.method).1).trans hinit
  subst hsz
  rw [lg_entry_eq]
  refine body p l e _ s s m _ below meth c D cI cC ad ad (fm_A ad lay.length s.heap.size) s.heap [] _ _ ⟨B.exec, B.bytes, hml, B.returns, by rw [how]; exact findClass_of_methodNamed B.named, hlocks, fun w hw => hts w (List.mem_cons_of_mem _ hw), hK, hX, ⟨Nat.le_refl _, Nat.le_refl _, Nat.le_refl _, Nat.le_refl _⟩, fun q h => Or.inr h, rfl⟩ hin (fun _ _ => rfl) (fm_entry ad hc hn) hP hD va_S.rf ?_
  intro s' H' locs' sl' pc' lay' mem' ad' e1 hag hPost hP' hD' hS' hret
  have e2 : s = s' := Eq.symm e1
  subst e2
  exact W.vret B.exec B.bytes (by rw [B.returns]; exact hret.2) (fun t ht hW => ⟨⟨lay', mem', ad', rfl, hag, hPost, by rw [ht]; exact hP', hD'⟩, hS'.F ht⟩) hS'.2.2 hret.1
theorem gw_iconst {n0 : Nat} {lay : List fm_L} {d : Nat} {M : fm_Me} {Post : List fm_L → fm_M → Prop} {mc ms kc ks : Nat} {pc : Nat} {ls : List (Option Value)} {st : List Value} {mem : fm_M} {n : Int} {v : Int32} (hd : decode M.2.1 pc = .ok (.iconst n, 1)) (hv : Int32.ofInt n = v) (kk : fm_Gw n0 lay d M Post mc ms kc ks (pc + 1) ls (.int v :: st) mem) : fm_Gw n0 lay d M Post mc ms kc ks pc ls st mem := by
  intro p l e R s0 s m args below meth c D cI cC ad0 ad A H locs sl Q C hN hG hl hP hD hS hR
  exact lv_iconst C.1 C.2.1 hd hv (kk p l e R s0 s m args below meth c D cI cC ad0 ad A H locs sl Q C hN hG hl hP hD hS hR)
theorem gw_bipush {n0 : Nat} {lay : List fm_L} {d : Nat} {M : fm_Me} {Post : List fm_L → fm_M → Prop} {mc ms kc ks : Nat} {pc : Nat} {ls : List (Option Value)} {st : List Value} {mem : fm_M} {n : Int} {v : Int32} (hd : decode M.2.1 pc = .ok (.bipush n, 2)) (hv : (Int8.ofInt n).toInt32 = v) (kk : fm_Gw n0 lay d M Post mc ms kc ks (pc + 2) ls (.int v :: st) mem) : fm_Gw n0 lay d M Post mc ms kc ks pc ls st mem := by
  intro p l e R s0 s m args below meth c D cI cC ad0 ad A H locs sl Q C hN hG hl hP hD hS hR
  exact lv_bipush C.1 C.2.1 hd hv (kk p l e R s0 s m args below meth c D cI cC ad0 ad A H locs sl Q C hN hG hl hP hD hS hR)
theorem gw_sipush {n0 : Nat} {lay : List fm_L} {d : Nat} {M : fm_Me} {Post : List fm_L → fm_M → Prop} {mc ms kc ks : Nat} {pc : Nat} {ls : List (Option Value)} {st : List Value} {mem : fm_M} {n : Int} {v : Int32} (hd : decode M.2.1 pc = .ok (.sipush n, 3)) (hv : (Int16.ofInt n).toInt32 = v) (kk : fm_Gw n0 lay d M Post mc ms kc ks (pc + 3) ls (.int v :: st) mem) : fm_Gw n0 lay d M Post mc ms kc ks pc ls st mem := by
  intro p l e R s0 s m args below meth c D cI cC ad0 ad A H locs sl Q C hN hG hl hP hD hS hR
  exact lv_sipush C.1 C.2.1 hd hv (kk p l e R s0 s m args below meth c D cI cC ad0 ad A H locs sl Q C hN hG hl hP hD hS hR)
theorem gw_iload_n {n0 : Nat} {lay : List fm_L} {d : Nat} {M : fm_Me} {Post : List fm_L → fm_M → Prop} {mc ms kc ks : Nat} {pc : Nat} {ls : List (Option Value)} {st : List Value} {mem : fm_M} {k : Fin 4} {i : Nat} {x : Int32} (hd : decode M.2.1 pc = .ok (.iload_n k, 1)) (hi : (k : Nat) = i) (hv : ls[i]? = some (some (.int x))) (kk : fm_Gw n0 lay d M Post mc ms kc ks (pc + 1) ls (.int x :: st) mem) : fm_Gw n0 lay d M Post mc ms kc ks pc ls st mem := by
  intro p l e R s0 s m args below meth c D cI cC ad0 ad A H locs sl Q C hN hG hl hP hD hS hR
  exact lv_iload_n C.1 C.2.1 hd hi (hl.2.2 _ _ hv).2 (kk p l e R s0 s m args below meth c D cI cC ad0 ad A H locs sl Q C hN hG hl hP hD hS hR)
theorem gw_aload_n {n0 : Nat} {lay : List fm_L} {d : Nat} {M : fm_Me} {Post : List fm_L → fm_M → Prop} {mc ms kc ks : Nat} {pc : Nat} {ls : List (Option Value)} {st : List Value} {mem : fm_M} {k : Fin 4} {i : Nat} {x : Nat} (hd : decode M.2.1 pc = .ok (.aload_n k, 1)) (hi : (k : Nat) = i) (hv : ls[i]? = some (some (.ref x))) (kk : fm_Gw n0 lay d M Post mc ms kc ks (pc + 1) ls (.ref x :: st) mem) : fm_Gw n0 lay d M Post mc ms kc ks pc ls st mem := by
  intro p l e R s0 s m args below meth c D cI cC ad0 ad A H locs sl Q C hN hG hl hP hD hS hR
  exact lv_aload_n C.1 C.2.1 hd hi (hl.2.2 _ _ hv).2 (kk p l e R s0 s m args below meth c D cI cC ad0 ad A H locs sl Q C hN hG hl hP hD hS hR)
theorem gw_dup {n0 : Nat} {lay : List fm_L} {d : Nat} {M : fm_Me} {Post : List fm_L → fm_M → Prop} {mc ms kc ks : Nat} {pc : Nat} {ls : List (Option Value)} {st : List Value} {mem : fm_M} {v : Value} (hd : decode M.2.1 pc = .ok (.dup, 1)) (hv : v.category = 1) (kk : fm_Gw n0 lay d M Post mc ms kc ks (pc + 1) ls (v :: v :: st) mem) : fm_Gw n0 lay d M Post mc ms kc ks pc ls (v :: st) mem := by
  intro p l e R s0 s m args below meth c D cI cC ad0 ad A H locs sl Q C hN hG hl hP hD hS hR
  exact lv_dup C.1 C.2.1 hd (by rw [fm_cv_cat]; exact hv) (kk p l e R s0 s m args below meth c D cI cC ad0 ad A H locs sl Q C hN hG hl hP hD hS hR)
theorem gw_go {n0 : Nat} {lay : List fm_L} {d : Nat} {M : fm_Me} {Post : List fm_L → fm_M → Prop} {mc ms kc ks : Nat} {pc : Nat} {ls : List (Option Value)} {st : List Value} {mem : fm_M} (h1 : kc ≤ mc) (h2 : ks ≤ ms) (kk : fm_Go lay d M (fun v m2 => v = none ∧ Post lay m2) pc ls st mem) : fm_Gw n0 lay d M Post mc ms kc ks pc ls st mem := by
  intro p l e R s0 s m args below meth c D cI cC ad0 ad A H locs sl Q C hN hG hl hP hD hS hR
  refine W.widen h1 h2 ?_
  refine kk p l e R s0 s m args below meth c D cI cC ad A mc ms H locs sl Q C hl hP hD hS ?_
  intro s1 H1 locs1 sl1 pc1 v mem1 hdr hp hP1 hS1 hret
  obtain ⟨rfl, hp⟩ := hp
  exact hR s1 H1 locs1 sl1 pc1 lay mem1 ad hdr hG hp hP1 (fm_D_mem hD) hS1 hret
theorem gw_objInit {n0 : Nat} {lay : List fm_L} {d : Nat} {M : fm_Me} {Post : List fm_L → fm_M → Prop} {mc ms kc ks : Nat} {pc : Nat} {ls : List (Option Value)} {st : List Value} {mem : fm_M} {q idx : Nat} (hd : decode M.2.1 pc = .ok (.invokespecial idx, 3)) (hlk : Cond.methodLink M.2.2.2.2 idx objectInit ∈ fm_G) (hin : Cond.instanceMethod objectInit ∈ fm_G) (hcode : Cond.code objectInit ⟨#[0xb1]⟩ 1 none ∈ fm_G) (h1 : 1 ≤ d) (hst : (st.map fun v => v.category).sum ≤ 8) (kk : fm_Gw n0 lay d M Post mc ms kc ks (pc + 3) ls st mem) : fm_Gw n0 lay d M Post mc ms kc ks pc ls (.ref q :: st) mem := by
  intro p l e R s0 s m args below meth c D cI cC ad0 ad A H locs sl Q C hN hG hl hP hD hS hR
  have hts := C.2.2.2.2.2.2.1
  have hr := C.2.2.2.2.2.2.2.2.2.1
  exact W.objInit C.1 C.2.1 C.2.2.2.2.1 (hts _ hlk) (hts _ hin) (hts _ hcode) rfl (by rw [C.2.2.1]; exact hl.1) rfl hd (Nat.le_trans h1 hr.1) (by show 2 * 0 + _ + 12 ≤ _; have := fm_st8 ad hst; have := hr.2.1; omega) (kk p l e R s0 s m args below meth c D cI cC ad0 ad A H locs sl Q C hN hG hl hP hD hS hR)
theorem fm_C_ad {d : Nat} {M : fm_Me} {p : Program} {R : Room} {s0 s : State} {m : MethodId} {args : Array Value} {meth : Method} {c : Code} {D : va_G} {cI cC : ClassId} {ad ad1 : Nat → Nat} {A : Nat → Prop} {mc ms : Nat} (h : ∀ i, 1000 ≤ i → ad1 i = ad i) (C : fm_C d M p R s0 s m args meth c D cI cC ad A mc ms) : fm_C d M p R s0 s m args meth c D cI cC ad1 A mc ms := by
  obtain ⟨a1, a2, a3, a4, a5, a6, a7, a8, a9, a10, a11, a12⟩ := C
  exact ⟨a1, a2, a3, a4, a5, a6, a7, a8, fm_X_ad h a9, a10, a11, a12⟩
def fm_ad1 (ad : Nat → Nat) (n q : Nat) : Nat → Nat := fun i => if i = n then q else ad i
theorem fm_ad1_ag {ad : Nat → Nat} {n q : Nat} (hn : n < 1000) : fm_ag n ad (fm_ad1 ad n q) := fun i hi => if_neg (by omega)
set_option maxHeartbeats 4000000 in
theorem gw_new {n0 : Nat} {lay : List fm_L} {d : Nat} {M : fm_Me} {Post : List fm_L → fm_M → Prop} {mc ms kc ks : Nat} {pc : Nat} {ls : List (Option Value)} {st : List Value} {mem : fm_M} {ci N idx : Nat} {C0 : String} {T : u_T} (ty : Nat → FieldType) {l2 : List (Option (Option Nat))} {fs : List Value} (hd : decode M.2.1 pc = .ok (.new idx, 3)) (hc : fm_cls ci C0 T N) (hty : ∀ k, k < N → parseFieldDescriptor (T k).2.2.1 = some (ty k)) (hcl : Cond.classLink M.2.2.2.2 idx C0 ∈ fm_G) (hinst : Cond.instantiable C0 N ∈ fm_G) (hini : Cond.initialized C0 ∈ fm_G) (hfs : ∀ ad, fm_fs ad (fun _ => 0) l2 = fs) (hdf : ∀ j, j < N → defaultValue (ty j) = vp_V fs j) (hm : mem lay.length = fun _ => 0) (hclo : fm_clo lay.length lay) (hn : lay.length < 1000) (hn0 : n0 ≤ lay.length) (hol : fm_okl lay.length ls) (hos : fm_oks lay.length st) (h1 : kc + 1 ≤ mc) (h2 : ks + N ≤ ms) (kk : fm_Gw n0 (lay ++ [.inr (ci, l2)]) d M Post mc ms (kc + 1) (ks + N) (pc + 3) ls (.ref lay.length :: st) mem) : fm_Gw n0 lay d M Post mc ms kc ks pc ls st mem := by
  intro p l e R s0 s m args below meth c D cI cC ad0 ad A H locs sl Q C hN hG hl hP hD hS hR
  obtain ⟨hc1, hc2, -⟩ := hc
  have hts := C.2.2.2.2.2.2.1
  have hr := C.2.2.2.2.2.2.2.2.2.1
  refine va_new (ci := ci) (fs := fs) C.1 C.2.1 hts hc2 ty hty C.2.2.2.2.1 (hts _ hcl) (hts _ hinst) (hts _ hini) C.2.2.2.2.2.2.2.1.1 hP hD hS C.2.2.2.2.2.2.2.2.2.2.1 hc1 hdf (Nat.le_trans h1 hr.2.2.1) (Nat.le_trans h2 hr.2.2.2) hd (fun q H1 hP1 hD1 hS1 => ?_)
  have hA := fm_ad1_ag (ad := ad) (q := q) hn
  have eW : fm_W (fm_ad1 ad lay.length q) cI cC (lay ++ [.inr (ci, l2)]) mem = fm_W ad cI cC lay mem ++ [(q, .inr (ci, fs))] := by
    rw [fm_W_app, fm_W_ad hclo (Nat.le_refl _) (fun i hi => hA i (Or.inl hi))]
    congr 1
    show [(fm_ad1 ad lay.length q lay.length, Sum.inr (ci, fm_fs (fm_ad1 ad lay.length q) (mem lay.length) l2))] = _
    rw [hm, hfs, show fm_ad1 ad lay.length q lay.length = q from if_pos rfl]
  have key := kk p l e R s0 s m args below meth c D cI cC ad0 (fm_ad1 ad lay.length q) A H1 locs sl Q (fm_C_ad (fun i hi => hA i (Or.inr hi)) C) hN (fm_ag_tr hG (fm_ag_le hA hn0)) (fm_has_ad hA hol hl) (by rw [eW]; exact hP1) (by rw [eW]; exact hD1) hS1 hR
  rw [List.map_cons, fm_cv_ad hA hos, show fm_cv (fm_ad1 ad lay.length q) (.ref lay.length) = .ref q from congrArg Value.ref (if_pos rfl)] at key
  exact key
set_option maxHeartbeats 4000000 in
theorem gw_newI {n0 : Nat} {lay : List fm_L} {d : Nat} {M : fm_Me} {Post : List fm_L → fm_M → Prop} {mc ms kc ks : Nat} {pc : Nat} {ls : List (Option Value)} {st : List Value} {mem : fm_M} {x : Int32} {n : Nat} (hd : decode M.2.1 pc = .ok (.newarray .int, 2)) (harr : Cond.arrayClass .int ∈ fm_G) (hx : ¬ x < 0) (hxn : x.toNatClampNeg = n) (hb : n * 4 ≤ 536870912) (hm : mem lay.length = fun _ => 0) (hclo : fm_clo lay.length lay) (hn : lay.length < 1000) (hn0 : n0 ≤ lay.length) (hol : fm_okl lay.length ls) (hos : fm_oks lay.length st) (h1 : kc + 1 ≤ mc) (h2 : ks + n ≤ ms) (kk : fm_Gw n0 (lay ++ [.inl (0, n)]) d M Post mc ms (kc + 1) (ks + n) (pc + 2) ls (.ref lay.length :: st) mem) : fm_Gw n0 lay d M Post mc ms kc ks pc ls (.int x :: st) mem := by
  intro p l e R s0 s m args below meth c D cI cC ad0 ad A H locs sl Q C hN hG hl hP hD hS hR
  have hts := C.2.2.2.2.2.2.1
  have hr := C.2.2.2.2.2.2.2.2.2.1
  have hK := C.2.2.2.2.2.2.2.1.1
  refine va_newa (atype := .int) (ty := .int) (a0 := (n, .inl (fun _ => 0))) C.1 C.2.1 (hts _ harr) rfl hK hP hD hS C.2.2.2.2.2.2.2.2.2.2.1 (fun _ => rfl) hx hxn hb (Nat.le_trans h1 hr.2.2.1) (Nat.le_trans h2 hr.2.2.2) hd (fun q cA H1 hK1 hP1 hD1 hS1 => ?_)
  have ec : cA = cI := Option.some.inj ((hK1.2 2 (cA, .int) rfl).2.symm.trans (hK.2 0 (cI, .int) rfl).2)
  subst ec
  have hA := fm_ad1_ag (ad := ad) (q := q) hn
  have eW : fm_W (fm_ad1 ad lay.length q) cA cC (lay ++ [.inl (0, n)]) mem = fm_W ad cA cC lay mem ++ [(q, .inl (cA, n, .inl (fun _ => 0)))] := by
    rw [fm_W_app, fm_W_ad hclo (Nat.le_refl _) (fun i hi => hA i (Or.inl hi))]
    congr 1
    show [(fm_ad1 ad lay.length q lay.length, Sum.inl (cA, n, Sum.inl (mem lay.length)))] = _
    rw [hm, show fm_ad1 ad lay.length q lay.length = q from if_pos rfl]
  have key := kk p l e R s0 s m args below meth c D cA cC ad0 (fm_ad1 ad lay.length q) A H1 locs sl Q (fm_C_ad (fun i hi => hA i (Or.inr hi)) C) hN (fm_ag_tr hG (fm_ag_le hA hn0)) (fm_has_ad hA hol hl) (by rw [eW]; exact hP1) (by rw [eW]; exact hD1) hS1 hR
  rw [List.map_cons, fm_cv_ad hA hos, show fm_cv (fm_ad1 ad lay.length q) (.ref lay.length) = .ref q from congrArg Value.ref (if_pos rfl)] at key
  exact key
set_option maxHeartbeats 4000000 in
theorem gw_putF {n0 : Nat} {lay : List fm_L} {d : Nat} {M : fm_Me} {Post : List fm_L → fm_M → Prop} {mc ms kc ks : Nat} {pc : Nat} {ls : List (Option Value)} {st : List Value} {mem : fm_M} {q r ci k idx N : Nat} {l2 : List (Option (Option Nat))} {C0 : String} {T : u_T} (ty : FieldType) {lay1 : List fm_L} (hd : decode M.2.1 pc = .ok (.putfield idx, 3)) (hc : fm_cls ci C0 T N) (he : lay[q]? = some (.inr (ci, l2))) (hk : k < l2.length) (hkN : k < N) (hlink : Cond.fieldLink M.2.2.2.2 idx (T k).1 (T k).2.1 (T k).2.2.1 ∈ fm_G) (hfin : (T k).2.2.2 = true) (hdecl : (T k).1 = M.2.2.2.2) (hpd : parseFieldDescriptor (T k).2.2.1 = some ty) (hnr : ∀ a, narrow ty (.ref a) = .ref a) (hfit : ∀ a, fits ty (.ref a) = true) (h1 : lay.set q (.inr (ci, l2.set k (some (some r)))) = lay1) (kk : fm_Gw n0 lay1 d M Post mc ms kc ks (pc + 3) ls st mem) : fm_Gw n0 lay d M Post mc ms kc ks pc ls (.ref r :: .ref q :: st) mem := by
  intro p l e R s0 s m args below meth c D cI cC ad0 ad A H locs sl Q C hN hG hl hP hD hS hR
  subst h1
  obtain ⟨hc1, hc2, ty0, hc3, hc4⟩ := hc
  have hts := C.2.2.2.2.2.2.1
  refine va_putF (ref := (T k).1) (v := .ref (ad r)) C.1 C.2.1 hts hc2 ty0 hc3 hc4 C.2.2.2.2.1 C.2.2.2.2.2.2.2.1.1 hP hD hS q (fm_at he) hc1 k hkN (hts _ hlink) (fun _ h => h) hfin hN hdecl hpd (hnr _) (hfit _) (by unfold fm_fs; rw [List.length_mapIdx]; exact hk) hd (fun H1 locs1 hP1 hD1 hS1 => ?_)
  have e1 := fm_W_ref (ad := ad) (cI := cI) (cC := cC) (mem := mem) (r := r) he hk
  exact kk p l e R s0 s m args below meth c D cI cC ad0 ad A H1 locs1 sl Q C hN hG hl (by rw [← e1]; exact hP1) (by rw [← e1]; exact hD1) hS1 hR
set_option maxHeartbeats 4000000 in
theorem gw_putN {n0 : Nat} {lay : List fm_L} {d : Nat} {M : fm_Me} {Post : List fm_L → fm_M → Prop} {mc ms kc ks : Nat} {pc : Nat} {ls : List (Option Value)} {st : List Value} {mem : fm_M} {q r ci k idx N : Nat} {l2 : List (Option (Option Nat))} {C0 : String} {T : u_T} (ty : FieldType) {lay1 : List fm_L} (hd : decode M.2.1 pc = .ok (.putfield idx, 3)) (hc : fm_cls ci C0 T N) (he : lay[q]? = some (.inr (ci, l2))) (hk : k < l2.length) (hkN : k < N) (hlink : Cond.fieldLink M.2.2.2.2 idx (T k).1 (T k).2.1 (T k).2.2.1 ∈ fm_G) (hfin : (T k).2.2.2 = false) (hdecl : (T k).1 = M.2.2.2.2) (hpd : parseFieldDescriptor (T k).2.2.1 = some ty) (hnr : ∀ a, narrow ty (.ref a) = .ref a) (hfit : ∀ a, fits ty (.ref a) = true) (h1 : lay.set q (.inr (ci, l2.set k (some (some r)))) = lay1) (kk : fm_Gw n0 lay1 d M Post mc ms kc ks (pc + 3) ls st mem) : fm_Gw n0 lay d M Post mc ms kc ks pc ls (.ref r :: .ref q :: st) mem := by
  intro p l e R s0 s m args below meth c D cI cC ad0 ad A H locs sl Q C hN hG hl hP hD hS hR
  subst h1
  obtain ⟨hc1, hc2, ty0, hc3, hc4⟩ := hc
  have hts := C.2.2.2.2.2.2.1
  refine va_put (ref := (T k).1) (v := .ref (ad r)) C.1 C.2.1 hts hc2 ty0 hc3 hc4 C.2.2.2.2.1 C.2.2.2.2.2.2.2.1.1 hP hD hS q (fm_at he) hc1 k hkN (hts _ hlink) (fun _ h => h) hfin hpd (hnr _) (hfit _) (by unfold fm_fs; rw [List.length_mapIdx]; exact hk) hd (fun H1 locs1 hP1 hD1 hS1 => ?_)
  have e1 := fm_W_ref (ad := ad) (cI := cI) (cC := cC) (mem := mem) (r := r) he hk
  exact kk p l e R s0 s m args below meth c D cI cC ad0 ad A H1 locs1 sl Q C hN hG hl (by rw [← e1]; exact hP1) (by rw [← e1]; exact hD1) hS1 hR
theorem fm_put_eq {mem : fm_M} {q k : Nat} {x : Int32} (h : mem q k = x) : fm_put mem q k x = mem := by
  funext j i
  show (if j = q then upd (mem q) k x else mem j) i = mem j i
  by_cases hj : j = q
  · subst hj
    rw [if_pos rfl]
    by_cases hi : i = k
    · subst hi; simp [upd, h]
    · simp [upd, hi]
  · rw [if_neg hj]
set_option maxHeartbeats 4000000 in
theorem gw_putI {n0 : Nat} {lay : List fm_L} {d : Nat} {M : fm_Me} {Post : List fm_L → fm_M → Prop} {mc ms kc ks : Nat} {pc : Nat} {ls : List (Option Value)} {st : List Value} {mem : fm_M} {q ci k idx N : Nat} {l2 : List (Option (Option Nat))} {C0 : String} {T : u_T} {x : Int32} (ty : FieldType) (hd : decode M.2.1 pc = .ok (.putfield idx, 3)) (hc : fm_cls ci C0 T N) (he : lay[q]? = some (.inr (ci, l2))) (hk : l2[k]? = some none) (hkN : k < N) (hlink : Cond.fieldLink M.2.2.2.2 idx (T k).1 (T k).2.1 (T k).2.2.1 ∈ fm_G) (hfin : (T k).2.2.2 = false) (hpd : parseFieldDescriptor (T k).2.2.1 = some ty) (hnr : narrow ty (.int x) = .int x) (hfit : fits ty (.int x) = true) (hm : mem q k = x) (kk : fm_Gw n0 lay d M Post mc ms kc ks (pc + 3) ls st mem) : fm_Gw n0 lay d M Post mc ms kc ks pc ls (.int x :: .ref q :: st) mem := by
  intro p l e R s0 s m args below meth c D cI cC ad0 ad A H locs sl Q C hN hG hl hP hD hS hR
  obtain ⟨hc1, hc2, ty0, hc3, hc4⟩ := hc
  refine va_put (ref := (T k).1) C.1 C.2.1 C.2.2.2.2.2.2.1 hc2 ty0 hc3 hc4 C.2.2.2.2.1 C.2.2.2.2.2.2.2.1.1 hP hD hS q (fm_at he) hc1 k hkN (C.2.2.2.2.2.2.1 _ hlink) (fun _ h => h) hfin hpd hnr hfit (by unfold fm_fs; rw [List.length_mapIdx]; exact (List.getElem?_eq_some_iff.mp hk).1) hd (fun H1 locs1 hP1 hD1 hS1 => ?_)
  have e1 : (fm_W ad cI cC lay mem).set q (ad q, .inr (ci, (fm_fs ad (mem q) l2).set k (.int x))) = fm_W ad cI cC lay mem := by
    rw [← fm_e_put hk, fm_set he]
    show fm_W ad cI cC lay (fm_put mem q k x) = _
    rw [fm_put_eq hm]
  exact kk p l e R s0 s m args below meth c D cI cC ad0 ad A H1 locs1 sl Q C hN hG hl (by rw [← e1]; exact hP1) hD hS1 hR
theorem fm_backW {n mc2 ms2 : Nat} {PostC : List fm_L → fm_M → Prop} {p : Program} {l : Launch} {e : Env} {R : Room} {s0 s : State} {m : MethodId} {args : Array Value} {below : List Frame} {meth : Method} {c : Code} {D : va_G} {cI cC : ClassId} {ad : Nat → Nat} {A A1 : Nat → Prop} {kc ks : Nat} {H : Heap} {locs : List Loc} {sl : Array Slot} {Q : State → Prop} {pc : Nat} {st0 rest : List Value} {a : Array Value}
    (hr : va_Run p l e R s m args below meth c H locs kc ks mc2 ms2 (F0 m pc sl st0) rest (fm_Qw D cI cC ad n PostC A1 a) A1) (hs : fm_dr s0 s) (hS : va_S A s.heap H locs) (hA : ∀ q, A1 q → A q)
    (kk : ∀ (lay1 : List fm_L) (mem1 : fm_M) (ad1 : Nat → Nat) (H1 : Heap) (locs1 : List Loc) (s1 : State), fm_dr s0 s1 → s1.vm = s.vm → s1.heap = s.heap → (∀ (w : Cond), w.before args s = true → w.before args s1 = true) → fm_ag n ad ad1 → PostC lay1 mem1 → va_P D vwCl (fm_W ad1 cI cC lay1 mem1) H1 → va_D A (fm_W ad1 cI cC lay1 mem1) → va_S A s1.heap H1 locs1 → W p l e R s1 m args below meth c H1 locs1 (kc + mc2) (ks + ms2) Q (F0 m (pc + 3) sl rest)) :
    W p l e R s m args below meth c H locs kc ks Q (F0 m pc sl st0) := by
  intro T hT X
  obtain ⟨v, st₀, t, T', L, h0, X', hL, e1, e2, ⟨⟨lay1, mem1, ad1, hv, hag, hp, hb, hbD⟩, hz, hk⟩, st⟩ := hr T hT X
  cases hv
  rw [h0] at hz hk
  have hs' : s = s0 := hs
  subst hs'
  obtain ⟨t2, a1, b1⟩ := kk lay1 mem1 ad1 T'.heap (locs ++ L) s rfl rfl rfl (fun w hw => hw) hag hp (by rw [e1]; exact hb) (hbD.weaken (fun _ _ _ h => hA _ h))
    ⟨Nat.le_trans hS.1 (by rw [e1]; exact hz), fun q h1 h2 => by rw [e1, hk q (Nat.lt_of_lt_of_le h1 hS.1) (fun z => h2 (hA q z))]; exact hS.2.1 q h1 h2, fun q hq => by
      rcases List.mem_append.mp hq with h | h
      · exact hS.2.2 q h
      · exact hA _ (hL q h)⟩ T' rfl X'
  exact ⟨t2, st t2 a1, b1⟩
theorem fm_callBC {M : fm_Me} {n d2 d idx mc ms : Nat} {own : String} {args : Array Value} {s : State} {R : Room} (h : fm_callee M n) (hret : M.2.2.2.1 = none) (hts : ∀ w ∈ fm_G, w.before args s = true) (hdd : d2 + 1 ≤ d) (hR : d ≤ R.frames ∧ 27 * d ≤ R.locals) (hl : .methodLink own idx M.1 ∈ fm_G) : CallB R s args own idx M.1 M.2.1 M.2.2.1 none (fm_ws M) (fm_rmC d2 mc ms) mc ms n :=
  hret ▸ ⟨rfl, rfl, by show d2 + 1 ≤ _; omega, by have := h.2.2.2.2; show 8 + (M.2.2.1 + 11) + 27 * d2 ≤ _; omega, fm_words h hts, List.mem_cons_self, hts _ h.1, hts _ h.2.1, h.2.2.1, h.2.2.2.1, hts _ hl⟩
theorem fm_callBN {M : fm_Me} {n d2 d idx mc ms : Nat} {own host : String} {args : Array Value} {s : State} {R : Room} (h : fm_callee M n) (hret : M.2.2.2.1 = none) (hts : ∀ w ∈ fm_G, w.before args s = true) (hdd : d2 + 1 ≤ d) (hR : d ≤ R.frames ∧ 27 * d ≤ R.locals) (hl : va_Nw (.methodLinkNest own idx M.1 host) s) (hpd : (parseMethodDescriptor M.1.desc).map (fun d => d.parameters.length) = some n) : va_CN R s args own idx M.1 host M.2.1 M.2.2.1 none (fm_ws M) (fm_rmC d2 mc ms) mc ms n := by
  have e := hret
  refine va_cnB n hts (ws' := fm_G) (fun w hw => ?_) (by unfold fm_ws; rw [e]) rfl rfl hl (hts _ h.2.1) ⟨h.2.2.1.1, h.2.2.1.2, hpd⟩ ⟨by show d2 + 1 ≤ _; omega, by have := h.2.2.2.2; show 8 + (M.2.2.1 + 11) + 27 * d2 ≤ _; omega⟩
  rcases List.mem_cons.mp hw with rfl | hw
  · exact ⟨h.1, fm_good h.1⟩
  · exact ⟨hw, fm_good hw⟩
set_option maxHeartbeats 4000000 in
theorem gw_calli {n0 : Nat} {lay : List fm_L} {d : Nat} {M : fm_Me} {Post : List fm_L → fm_M → Prop} {mc ms kc ks : Nat} {pc : Nat} {ls : List (Option Value)} {st : List Value} {mem : fm_M} {M2 : fm_Me} {d2 n idx mc2 ms2 : Nat} {As st0 : List Value} {PostC : List fm_L → fm_M → Prop} {q : Nat} (hd : decode M.2.1 pc = .ok (.invokespecial idx, 3)) (hcal : fm_Nw lay d2 M2 (.ref q :: As) mem PostC mc2 ms2) (hdd : d2 + 1 ≤ d) (hce : fm_callee M2 n) (hret : M2.2.2.2.1 = none) (hlk : Cond.methodLink M.2.2.2.2 idx M2.1 ∈ fm_G) (hin : Cond.instanceMethod M2.1 ∈ fm_G) (hinit : M2.1.name = "<init>") (hn : As.length = n) (hst : (st.map fun v => v.category).sum ≤ 8) (hs0 : st0 = As.reverse ++ .ref q :: st) (hn0 : n0 ≤ lay.length) (hol : fm_okl lay.length ls) (hos : fm_oks lay.length st) (h1 : kc + mc2 ≤ mc) (h2 : ks + ms2 ≤ ms) (kk : ∀ lay2 mem2, PostC lay2 mem2 → fm_Gw n0 lay2 d M Post mc ms (kc + mc2) (ks + ms2) (pc + 3) ls st mem2) : fm_Gw n0 lay d M Post mc ms kc ks pc ls st0 mem := by
  intro p l e R s0 s m args below meth c D cI cC ad0 ad A H locs sl Q C hN hG hl hP hD hS hR
  subst hs0
  have hr := C.2.2.2.2.2.2.2.2.2.1
  have hts := C.2.2.2.2.2.2.1
  have hrun := va_runI (e := e) (R := R) (p := p) (l := l) (args := args) (c := c) (H := H) (locs := locs) (cells := kc) (slots := ks) (below := below) (meth := meth) (rest := st.map (fm_cv ad)) (As := As.map (fm_cv ad)) (g := F0 m pc sl ((As.reverse ++ .ref q :: st).map (fm_cv ad))) (b := ad q) ⟨C.1, C.2.1, C.2.2.1, C.2.2.2.2.1, hts⟩ (hcal l D cI cC ad H.size) ⟨fm_callBC hce hret hts hdd ⟨hr.1, hr.2.1⟩ hlk, hinit, hts _ hin⟩
    ⟨fm_blind, fun U hU hW => fm_pre C.2.2.2.2.2.2.2.1 C.2.2.2.2.2.2.2.2.1 hP hD hS C.2.2.2.2.2.2.2.2.2.2.1 hU hW⟩ rfl (by rw [List.length_map]; exact hn) hl.1 (by show List.map _ _ = _; rw [List.map_append, List.map_reverse]; rfl) (by show 2 * 0 + _ ≤ 8; have := fm_st8 ad hst; omega) hd ⟨Nat.le_trans h1 hr.2.2.1, Nat.le_trans h2 hr.2.2.2⟩
  refine fm_backW hrun C.2.2.2.2.2.2.2.2.2.2.2 hS (fm_Afree hD hS C.2.2.2.2.2.2.2.2.2.2.1) (fun lay1 mem1 ad1 H1 locs1 s1 hs1 hvm hhp hw hag hpost hP1 hD1 hS1 => ?_)
  obtain ⟨a1, a2, a3, a4, a5, a6, a7, a8, a9, a10, a11, a12⟩ := C
  have hsame : s.vm.Alike s1.vm := by rw [hvm]; exact Vm.Alike.refl _
  have C1 : fm_C d M p R s0 s1 m args meth c D cI cC ad1 A mc ms := ⟨a1, a2, a3, a4, by rw [hvm]; exact a5, a6, fun w hw1 => hw w (a7 w hw1), ⟨va_K.moved hsame a8.1, fm_N_same hvm.symm a8.2⟩, fm_X_ad (fun i hi => hag i (Or.inr hi)) (fm_X_same a9 hvm.symm hhp.symm), a10, by rw [hhp]; exact a11, hs1⟩
  have key := kk lay1 mem1 hpost p l e R s0 s1 m args below meth c D cI cC ad0 ad1 A H1 locs1 sl Q C1 hN (fm_ag_tr hG (fm_ag_le hag hn0)) (fm_has_ad hag hol hl) hP1 hD1 hS1 hR
  rw [fm_cv_ad hag hos] at key
  exact key
set_option maxHeartbeats 4000000 in
theorem gw_callN {n0 : Nat} {lay : List fm_L} {d : Nat} {M : fm_Me} {Post : List fm_L → fm_M → Prop} {mc ms kc ks : Nat} {pc : Nat} {ls : List (Option Value)} {st : List Value} {mem : fm_M} {M2 : fm_Me} {d2 n idx mc2 ms2 : Nat} {As st0 : List Value} {PostC : List fm_L → fm_M → Prop} {q : Nat} (hd : decode M.2.1 pc = .ok (.invokespecial idx, 3)) (hcal : fm_Nw lay d2 M2 (.ref q :: As) mem PostC mc2 ms2) (hdd : d2 + 1 ≤ d) (hce : fm_callee M2 n) (hret : M2.2.2.2.1 = none) (host : String) (hlk : Cond.methodLinkNest M.2.2.2.2 idx M2.1 host ∈ fm_N) (hpd : (parseMethodDescriptor M2.1.desc).map (fun d => d.parameters.length) = some n) (hin : Cond.instanceMethod M2.1 ∈ fm_G) (hinit : M2.1.name = "<init>") (hn : As.length = n) (hst : (st.map fun v => v.category).sum ≤ 8) (hs0 : st0 = As.reverse ++ .ref q :: st) (hn0 : n0 ≤ lay.length) (hol : fm_okl lay.length ls) (hos : fm_oks lay.length st) (h1 : kc + mc2 ≤ mc) (h2 : ks + ms2 ≤ ms) (kk : ∀ lay2 mem2, PostC lay2 mem2 → fm_Gw n0 lay2 d M Post mc ms (kc + mc2) (ks + ms2) (pc + 3) ls st mem2) : fm_Gw n0 lay d M Post mc ms kc ks pc ls st0 mem := by
  intro p l e R s0 s m args below meth c D cI cC ad0 ad A H locs sl Q C hN hG hl hP hD hS hR
  subst hs0
  have hr := C.2.2.2.2.2.2.2.2.2.1
  have hts := C.2.2.2.2.2.2.1
  have hnw := C.2.2.2.2.2.2.2.1.2 _ hlk
  have hrun := va_runIN (e := e) (R := R) (p := p) (l := l) (args := args) (c := c) (H := H) (locs := locs) (cells := kc) (slots := ks) (below := below) (meth := meth) (rest := st.map (fm_cv ad)) (As := As.map (fm_cv ad)) (g := F0 m pc sl ((As.reverse ++ .ref q :: st).map (fm_cv ad))) (b := ad q) ⟨C.1, C.2.1, C.2.2.1, C.2.2.2.2.1, hts⟩ (hcal l D cI cC ad H.size) ⟨fm_callBN hce hret hts hdd ⟨hr.1, hr.2.1⟩ hnw hpd, hinit, hts _ hin⟩
    ⟨fm_blind, fun U hU hW => fm_pre C.2.2.2.2.2.2.2.1 C.2.2.2.2.2.2.2.2.1 hP hD hS C.2.2.2.2.2.2.2.2.2.2.1 hU hW⟩ rfl (by rw [List.length_map]; exact hn) hl.1 (by show List.map _ _ = _; rw [List.map_append, List.map_reverse]; rfl) (by show 2 * 0 + _ ≤ 8; have := fm_st8 ad hst; omega) hd ⟨Nat.le_trans h1 hr.2.2.1, Nat.le_trans h2 hr.2.2.2⟩
  refine fm_backW hrun C.2.2.2.2.2.2.2.2.2.2.2 hS (fm_Afree hD hS C.2.2.2.2.2.2.2.2.2.2.1) (fun lay1 mem1 ad1 H1 locs1 s1 hs1 hvm hhp hw hag hpost hP1 hD1 hS1 => ?_)
  obtain ⟨a1, a2, a3, a4, a5, a6, a7, a8, a9, a10, a11, a12⟩ := C
  have hsame : s.vm.Alike s1.vm := by rw [hvm]; exact Vm.Alike.refl _
  have C1 : fm_C d M p R s0 s1 m args meth c D cI cC ad1 A mc ms := ⟨a1, a2, a3, a4, by rw [hvm]; exact a5, a6, fun w hw1 => hw w (a7 w hw1), ⟨va_K.moved hsame a8.1, fm_N_same hvm.symm a8.2⟩, fm_X_ad (fun i hi => hag i (Or.inr hi)) (fm_X_same a9 hvm.symm hhp.symm), a10, by rw [hhp]; exact a11, hs1⟩
  have key := kk lay1 mem1 hpost p l e R s0 s1 m args below meth c D cI cC ad0 ad1 A H1 locs1 sl Q C1 hN (fm_ag_tr hG (fm_ag_le hag hn0)) (fm_has_ad hag hol hl) hP1 hD1 hS1 hR
  rw [fm_cv_ad hag hos] at key
  exact key

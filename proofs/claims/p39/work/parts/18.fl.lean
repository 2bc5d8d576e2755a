/-! the law's own methods: their judgement and its rows -/
/-! the law's own judgement: as fm_Go, and the script (place 4000) may be read -/
def fm_E (L : Nat) (xs : Nat → Int32) (ad : Nat → Nat) (A : Nat → Prop) (s : State) : Prop := va_X (ad 4000) L xs s s.heap ∧ ad 4000 < s.heap.size ∧ ¬ A (ad 4000)
theorem fm_E_same {L : Nat} {xs : Nat → Int32} {ad : Nat → Nat} {A : Nat → Prop} {u U : State} (h : fm_E L xs ad A u) (hv : u.vm = U.vm) (hh : u.heap = U.heap) : fm_E L xs ad A U := by
  obtain ⟨h1, h2, h3⟩ := h
  have ha : u.vm.Alike U.vm := by rw [hv]; exact Vm.Alike.refl _
  rw [hh] at h1 h2
  exact ⟨h1.moved ha, h2, h3⟩
def fl_has (ad : Nat → Nat) (nL : Nat) (sl : Array Slot) (ls : List (Option Value)) : Prop := sl.size = nL ∧ lv_wf sl ∧ ∀ (i : Nat) (v : Value), ls[i]? = some (some v) → sl[i]? = some (.val (fm_cv ad v))
theorem fl_has_kn {ad : Nat → Nat} {nL : Nat} {sl : Array Slot} {ls : List (Option Value)} (h : fl_has ad nL sl ls) : lv_has sl nL (fm_kn ad ls) := by
  refine ⟨h.1, h.2.1, fun q hq => ?_⟩
  obtain ⟨i, w⟩ := q
  obtain ⟨v, h1, rfl⟩ := fm_kn_in.mp hq
  exact h.2.2 i v h1
/-- no long stands just ahead of place i -/
def fl_ok (ls : List (Option Value)) (i : Nat) : Bool := match i with
  | 0 => true
  | j + 1 => match ls[j]? with
    | some (some v) => !(v.category == 2)
    | _ => true
theorem fl_ok_of {ls : List (Option Value)} {i j : Nat} {v : Value} (h : fl_ok ls i = true) (hj : ls[j]? = some (some v)) (e : j + 1 = i) : (v.category == 2) = false := by
  subst e
  simpa [fl_ok, hj] using h
theorem fl_has_set {ad : Nat → Nat} {nL : Nat} {sl sl' : Array Slot} {ls : List (Option Value)} {i : Nat} {v : Value} (h : fl_has ad nL sl ls) (hok : fl_ok ls i = true) (h' : lv_has sl' nL ((i, fm_cv ad v) :: (fm_kn ad ls).filter (fun q => !(q.1 == i) && !(q.1 + 1 == i && q.2.category == 2)))) : fl_has ad nL sl' (ls.set i (some v)) := by
  refine ⟨h'.1, h'.2.1, fun j w hj => ?_⟩
  rw [List.getElem?_set] at hj
  split at hj
  next e =>
    subst e
    split at hj
    next => cases hj; exact h'.2.2 _ List.mem_cons_self
    next => cases hj
  next e =>
    refine h'.2.2 (j, fm_cv ad w) (List.mem_cons_of_mem _ (List.mem_filter.mpr ⟨fm_kn_in.mpr ⟨w, hj, rfl⟩, ?_⟩))
    have e1 : (j == i) = false := by simp only [beq_eq_false_iff_ne]; exact fun z => e z.symm
    by_cases e3 : j + 1 = i
    · have e2 : ((fm_cv ad w).category == 2) = false := by rw [fm_cv_cat]; exact fl_ok_of hok hj e3
      simp [e1, e2]
    · simp [e1, e3]
theorem fl_has_set2 {ad : Nat → Nat} {nL : Nat} {sl sl' : Array Slot} {ls : List (Option Value)} {i : Nat} {v : Value} (h : fl_has ad nL sl ls) (hok : fl_ok ls i = true) (h' : lv_has sl' nL ((i, fm_cv ad v) :: (fm_kn ad ls).filter (fun q => !(q.1 == i) && (!(q.1 == i + 1) && !(q.1 + 1 == i && q.2.category == 2))))) : fl_has ad nL sl' ((ls.set i (some v)).set (i + 1) none) := by
  refine ⟨h'.1, h'.2.1, fun j w hj => ?_⟩
  rw [List.getElem?_set] at hj
  split at hj
  next e => split at hj <;> cases hj
  next e0 =>
    rw [List.getElem?_set] at hj
    split at hj
    next e =>
      subst e
      split at hj
      next => cases hj; exact h'.2.2 _ List.mem_cons_self
      next => cases hj
    next e =>
      refine h'.2.2 (j, fm_cv ad w) (List.mem_cons_of_mem _ (List.mem_filter.mpr ⟨fm_kn_in.mpr ⟨w, hj, rfl⟩, ?_⟩))
      have e1 : (j == i) = false := by simp only [beq_eq_false_iff_ne]; exact fun z => e z.symm
      have e4 : (j == i + 1) = false := by simp only [beq_eq_false_iff_ne]; exact fun z => e0 z.symm
      by_cases e3 : j + 1 = i
      · have e2 : ((fm_cv ad w).category == 2) = false := by rw [fm_cv_cat]; exact fl_ok_of hok hj e3
        simp [e1, e2, e4]
      · simp [e1, e3, e4]
/-- the machine, at pc of the law's method M with these locals and this stack over this memory, comes to a return with Post -/
def fl_Go (L : Nat) (xs : Nat → Int32) (lay : List fm_L) (d : Nat) (M : fm_Me) (Post : Option Value → fm_M → Prop) (pc : Nat) (ls : List (Option Value)) (st : List Value) (mem : fm_M) : Prop :=
  ∀ (p : Program) (l : Launch) (e : Env) (R : Room) (s0 s : State) (m : MethodId) (args : Array Value) (below : List Frame) (meth : Method) (c : Code) (D : va_G) (cI cC : ClassId) (ad : Nat → Nat) (A : Nat → Prop) (cells slots : Nat) (H : Heap) (locs : List Loc) (sl : Array Slot) (Q : State → Prop),
    fm_C d M p R s0 s m args meth c D cI cC ad A cells slots → fl_has ad M.2.2.1 sl ls → va_P D vwCl (fm_W ad cI cC lay mem) H → va_D A (fm_W ad cI cC lay mem) → va_S A s.heap H locs → fm_R lay M Post p l e R s0 m args below meth c D cI cC ad A cells slots Q → fm_E L xs ad A s →
      W p l e R s m args below meth c H locs cells slots Q (F0 m pc sl (st.map (fm_cv ad)))
def fl_At (L : Nat) (xs : Nat → Int32) (D : va_G) (cI cC : ClassId) (ad : Nat → Nat) (lay : List fm_L) (mem : fm_M) (A : Nat → Prop) (U : State) : Prop := fm_At D cI cC ad lay mem A U ∧ fm_E L xs ad A U
/-- the contract of a method of the law -/
def fl_Met (L : Nat) (xs : Nat → Int32) (lay : List fm_L) (d : Nat) (M : fm_Me) (as : List Value) (mem : fm_M) (Post : Option Value → fm_M → Prop) : Prop :=
  ∀ (l : Launch) (D : va_G) (cI cC : ClassId) (ad : Nat → Nat) (sz : Nat), Met l M.1 (fm_ws M) (fm_rm d) (va_Pc (as.map (fm_cv ad)) (fun U => U.heap.size = sz ∧ fl_At L xs D cI cC ad lay mem (fm_A ad lay.length sz) U)) (fm_Q D cI cC ad lay Post (fm_A ad lay.length sz)) 0 0 (fm_A ad lay.length sz)
set_option maxHeartbeats 4000000 in
theorem fl_Met_of {L : Nat} {xs : Nat → Int32} {lay : List fm_L} {d : Nat} {M : fm_Me} {as : List Value} {mem : fm_M} {Post : Option Value → fm_M → Prop} {ls : List (Option Value)} (hy : plainName M.1.cls = true) (how : M.2.2.2.2 = M.1.cls) (hc : ∀ v ∈ as, v.category = 1) (hn : as.length ≤ M.2.2.1) (hls : fm_ent M.2.2.1 as = ls) (body : fl_Go L xs lay d M Post 0 ls [] mem) : fl_Met L xs lay d M as mem Post := by
  subst hls
  intro l D cI cC ad sz
  refine Met.ofW (cc := M.2.1) (maxL := M.2.2.1) (ret := M.2.2.2.1) hy rfl ?_
  intro p e s m args below meth c s₁ B hml hv
  obtain ⟨rfl, hsz, ⟨hK, hX, hP, hD⟩, hE⟩ := hv
  have hts := atoms_spec (ws := fm_ws M) B.pre
  have hlocks := B.notSynchronized
  subst hsz
  rw [lg_entry_eq]
  have hen := fm_entry ad hc hn
  refine body p l e _ s s m _ below meth c D cI cC ad (fm_A ad lay.length s.heap.size) 0 0 s.heap [] _ _ ⟨B.exec, B.bytes, hml, B.returns, by rw [how]; exact findClass_of_methodNamed B.named, hlocks, fun w hw => hts w (List.mem_cons_of_mem _ hw), hK, hX, ⟨Nat.le_refl _, Nat.le_refl _, Nat.zero_le _, Nat.zero_le _⟩, fun q h => Or.inr h, rfl⟩ ⟨hen.1, hen.2.1, fun i v hv => (hen.2.2 i v hv).2⟩ hP hD va_S.rf ?_ hE
  intro s' H' locs' sl' pc' v mem' e1 hPost hP' hS' hret
  have e2 : s = s' := Eq.symm e1
  subst e2
  have hq : ∀ t : State, t.heap = H' → s.WarmedH t.vm → fm_Q D cI cC ad lay Post (fm_A ad lay.length s.heap.size) (as.map (fm_cv ad)).toArray s (.returned (v.map (fm_cv ad))) t := fun t ht hW => ⟨⟨v, mem', rfl, hPost, by rw [ht]; exact hP'⟩, hS'.F ht⟩
  cases v with
  | none => exact W.vret B.exec B.bytes (by rw [B.returns]; exact hret.2) hq hS'.2.2 hret.1
  | some v =>
    cases v with
    | int x => obtain ⟨h1, ty, h2, h3⟩ := hret; exact W.zret B.exec B.bytes (ty := ty) (by rw [B.returns]; exact h2) h3 hq hS'.2.2 h1
    | ref a => obtain ⟨h1, n, h2⟩ := hret; exact W.aret B.exec B.bytes (rt := .object n) (by rw [B.returns]; exact h2) (Or.inl ⟨n, rfl⟩) (Or.inr ⟨_, rfl⟩) hq hS'.2.2 h1
    | long x => exact W.lret B.exec B.bytes (by rw [B.returns]; exact hret.2) hq hS'.2.2 hret.1
    | _ => exact hret.elim
theorem lo_iconst {L : Nat} {xs : Nat → Int32} {lay : List fm_L} {d : Nat} {M : fm_Me} {Post : Option Value → fm_M → Prop} {pc : Nat} {ls : List (Option Value)} {st : List Value} {mem : fm_M} {n : Int} {v : Int32} (hd : decode M.2.1 pc = .ok (.iconst n, 1)) (hv : Int32.ofInt n = v) (kk : fl_Go L xs lay d M Post (pc + 1) ls (.int v :: st) mem) : fl_Go L xs lay d M Post pc ls st mem := by
  intro p l e R s0 s m args below meth c D cI cC ad A cells slots H locs sl Q C hl hP hD hS hR hE
  exact lv_iconst C.1 C.2.1 hd hv (kk p l e R s0 s m args below meth c D cI cC ad A cells slots H locs sl Q C hl hP hD hS hR hE)
theorem lo_bipush {L : Nat} {xs : Nat → Int32} {lay : List fm_L} {d : Nat} {M : fm_Me} {Post : Option Value → fm_M → Prop} {pc : Nat} {ls : List (Option Value)} {st : List Value} {mem : fm_M} {n : Int} {v : Int32} (hd : decode M.2.1 pc = .ok (.bipush n, 2)) (hv : (Int8.ofInt n).toInt32 = v) (kk : fl_Go L xs lay d M Post (pc + 2) ls (.int v :: st) mem) : fl_Go L xs lay d M Post pc ls st mem := by
  intro p l e R s0 s m args below meth c D cI cC ad A cells slots H locs sl Q C hl hP hD hS hR hE
  exact lv_bipush C.1 C.2.1 hd hv (kk p l e R s0 s m args below meth c D cI cC ad A cells slots H locs sl Q C hl hP hD hS hR hE)
theorem lo_sipush {L : Nat} {xs : Nat → Int32} {lay : List fm_L} {d : Nat} {M : fm_Me} {Post : Option Value → fm_M → Prop} {pc : Nat} {ls : List (Option Value)} {st : List Value} {mem : fm_M} {n : Int} {v : Int32} (hd : decode M.2.1 pc = .ok (.sipush n, 3)) (hv : (Int16.ofInt n).toInt32 = v) (kk : fl_Go L xs lay d M Post (pc + 3) ls (.int v :: st) mem) : fl_Go L xs lay d M Post pc ls st mem := by
  intro p l e R s0 s m args below meth c D cI cC ad A cells slots H locs sl Q C hl hP hD hS hR hE
  exact lv_sipush C.1 C.2.1 hd hv (kk p l e R s0 s m args below meth c D cI cC ad A cells slots H locs sl Q C hl hP hD hS hR hE)
theorem lo_iload_n {L : Nat} {xs : Nat → Int32} {lay : List fm_L} {d : Nat} {M : fm_Me} {Post : Option Value → fm_M → Prop} {pc : Nat} {ls : List (Option Value)} {st : List Value} {mem : fm_M} {k : Fin 4} {i : Nat} {x : Int32} (hd : decode M.2.1 pc = .ok (.iload_n k, 1)) (hi : (k : Nat) = i) (hv : ls[i]? = some (some (.int x))) (kk : fl_Go L xs lay d M Post (pc + 1) ls (.int x :: st) mem) : fl_Go L xs lay d M Post pc ls st mem := by
  intro p l e R s0 s m args below meth c D cI cC ad A cells slots H locs sl Q C hl hP hD hS hR hE
  exact lv_iload_n C.1 C.2.1 hd hi (hl.2.2 _ _ hv) (kk p l e R s0 s m args below meth c D cI cC ad A cells slots H locs sl Q C hl hP hD hS hR hE)
theorem lo_iload {L : Nat} {xs : Nat → Int32} {lay : List fm_L} {d : Nat} {M : fm_Me} {Post : Option Value → fm_M → Prop} {pc : Nat} {ls : List (Option Value)} {st : List Value} {mem : fm_M} {i : Nat} {x : Int32} (hd : decode M.2.1 pc = .ok (.iload i, 2)) (hv : ls[i]? = some (some (.int x))) (kk : fl_Go L xs lay d M Post (pc + 2) ls (.int x :: st) mem) : fl_Go L xs lay d M Post pc ls st mem := by
  intro p l e R s0 s m args below meth c D cI cC ad A cells slots H locs sl Q C hl hP hD hS hR hE
  exact lv_iload C.1 C.2.1 hd (hl.2.2 _ _ hv) (kk p l e R s0 s m args below meth c D cI cC ad A cells slots H locs sl Q C hl hP hD hS hR hE)
theorem lo_aload_n {L : Nat} {xs : Nat → Int32} {lay : List fm_L} {d : Nat} {M : fm_Me} {Post : Option Value → fm_M → Prop} {pc : Nat} {ls : List (Option Value)} {st : List Value} {mem : fm_M} {k : Fin 4} {i : Nat} {x : Nat} (hd : decode M.2.1 pc = .ok (.aload_n k, 1)) (hi : (k : Nat) = i) (hv : ls[i]? = some (some (.ref x))) (kk : fl_Go L xs lay d M Post (pc + 1) ls (.ref x :: st) mem) : fl_Go L xs lay d M Post pc ls st mem := by
  intro p l e R s0 s m args below meth c D cI cC ad A cells slots H locs sl Q C hl hP hD hS hR hE
  exact lv_aload_n C.1 C.2.1 hd hi (hl.2.2 _ _ hv) (kk p l e R s0 s m args below meth c D cI cC ad A cells slots H locs sl Q C hl hP hD hS hR hE)
theorem lo_aload {L : Nat} {xs : Nat → Int32} {lay : List fm_L} {d : Nat} {M : fm_Me} {Post : Option Value → fm_M → Prop} {pc : Nat} {ls : List (Option Value)} {st : List Value} {mem : fm_M} {i : Nat} {x : Nat} (hd : decode M.2.1 pc = .ok (.aload i, 2)) (hv : ls[i]? = some (some (.ref x))) (kk : fl_Go L xs lay d M Post (pc + 2) ls (.ref x :: st) mem) : fl_Go L xs lay d M Post pc ls st mem := by
  intro p l e R s0 s m args below meth c D cI cC ad A cells slots H locs sl Q C hl hP hD hS hR hE
  exact lv_aload C.1 C.2.1 hd (hl.2.2 _ _ hv) (kk p l e R s0 s m args below meth c D cI cC ad A cells slots H locs sl Q C hl hP hD hS hR hE)
theorem lo_iadd {L : Nat} {xs : Nat → Int32} {lay : List fm_L} {d : Nat} {M : fm_Me} {Post : Option Value → fm_M → Prop} {pc : Nat} {ls : List (Option Value)} {st : List Value} {mem : fm_M} {x y : Int32} (hd : decode M.2.1 pc = .ok (.iadd, 1)) (kk : fl_Go L xs lay d M Post (pc + 1) ls (.int (x + y) :: st) mem) : fl_Go L xs lay d M Post pc ls (.int y :: .int x :: st) mem := by
  intro p l e R s0 s m args below meth c D cI cC ad A cells slots H locs sl Q C hl hP hD hS hR hE
  exact lv_iadd C.1 C.2.1 hd (kk p l e R s0 s m args below meth c D cI cC ad A cells slots H locs sl Q C hl hP hD hS hR hE)
theorem lo_isub {L : Nat} {xs : Nat → Int32} {lay : List fm_L} {d : Nat} {M : fm_Me} {Post : Option Value → fm_M → Prop} {pc : Nat} {ls : List (Option Value)} {st : List Value} {mem : fm_M} {x y : Int32} (hd : decode M.2.1 pc = .ok (.isub, 1)) (kk : fl_Go L xs lay d M Post (pc + 1) ls (.int (x - y) :: st) mem) : fl_Go L xs lay d M Post pc ls (.int y :: .int x :: st) mem := by
  intro p l e R s0 s m args below meth c D cI cC ad A cells slots H locs sl Q C hl hP hD hS hR hE
  exact lv_isub C.1 C.2.1 hd (kk p l e R s0 s m args below meth c D cI cC ad A cells slots H locs sl Q C hl hP hD hS hR hE)
theorem lo_imul {L : Nat} {xs : Nat → Int32} {lay : List fm_L} {d : Nat} {M : fm_Me} {Post : Option Value → fm_M → Prop} {pc : Nat} {ls : List (Option Value)} {st : List Value} {mem : fm_M} {x y : Int32} (hd : decode M.2.1 pc = .ok (.imul, 1)) (kk : fl_Go L xs lay d M Post (pc + 1) ls (.int (x * y) :: st) mem) : fl_Go L xs lay d M Post pc ls (.int y :: .int x :: st) mem := by
  intro p l e R s0 s m args below meth c D cI cC ad A cells slots H locs sl Q C hl hP hD hS hR hE
  exact lv_imul C.1 C.2.1 hd (kk p l e R s0 s m args below meth c D cI cC ad A cells slots H locs sl Q C hl hP hD hS hR hE)
theorem lo_iand {L : Nat} {xs : Nat → Int32} {lay : List fm_L} {d : Nat} {M : fm_Me} {Post : Option Value → fm_M → Prop} {pc : Nat} {ls : List (Option Value)} {st : List Value} {mem : fm_M} {x y : Int32} (hd : decode M.2.1 pc = .ok (.iand, 1)) (kk : fl_Go L xs lay d M Post (pc + 1) ls (.int (x &&& y) :: st) mem) : fl_Go L xs lay d M Post pc ls (.int y :: .int x :: st) mem := by
  intro p l e R s0 s m args below meth c D cI cC ad A cells slots H locs sl Q C hl hP hD hS hR hE
  exact lv_iand C.1 C.2.1 hd (kk p l e R s0 s m args below meth c D cI cC ad A cells slots H locs sl Q C hl hP hD hS hR hE)
theorem lo_ishr {L : Nat} {xs : Nat → Int32} {lay : List fm_L} {d : Nat} {M : fm_Me} {Post : Option Value → fm_M → Prop} {pc : Nat} {ls : List (Option Value)} {st : List Value} {mem : fm_M} {x y : Int32} (hd : decode M.2.1 pc = .ok (.ishr, 1)) (kk : fl_Go L xs lay d M Post (pc + 1) ls (.int (x >>> (y &&& 31)) :: st) mem) : fl_Go L xs lay d M Post pc ls (.int y :: .int x :: st) mem := by
  intro p l e R s0 s m args below meth c D cI cC ad A cells slots H locs sl Q C hl hP hD hS hR hE
  exact lv_ishr C.1 C.2.1 hd (kk p l e R s0 s m args below meth c D cI cC ad A cells slots H locs sl Q C hl hP hD hS hR hE)
theorem lo_idiv {L : Nat} {xs : Nat → Int32} {lay : List fm_L} {d : Nat} {M : fm_Me} {Post : Option Value → fm_M → Prop} {pc : Nat} {ls : List (Option Value)} {st : List Value} {mem : fm_M} {x y : Int32} (hd : decode M.2.1 pc = .ok (.idiv, 1)) (hne : ¬ y = 0) (kk : fl_Go L xs lay d M Post (pc + 1) ls (.int (x / y) :: st) mem) : fl_Go L xs lay d M Post pc ls (.int y :: .int x :: st) mem := by
  intro p l e R s0 s m args below meth c D cI cC ad A cells slots H locs sl Q C hl hP hD hS hR hE
  exact lv_idiv C.1 C.2.1 hd hne (kk p l e R s0 s m args below meth c D cI cC ad A cells slots H locs sl Q C hl hP hD hS hR hE)
theorem lo_irem {L : Nat} {xs : Nat → Int32} {lay : List fm_L} {d : Nat} {M : fm_Me} {Post : Option Value → fm_M → Prop} {pc : Nat} {ls : List (Option Value)} {st : List Value} {mem : fm_M} {x y : Int32} (hd : decode M.2.1 pc = .ok (.irem, 1)) (hne : ¬ y = 0) (kk : fl_Go L xs lay d M Post (pc + 1) ls (.int (x - x / y * y) :: st) mem) : fl_Go L xs lay d M Post pc ls (.int y :: .int x :: st) mem := by
  intro p l e R s0 s m args below meth c D cI cC ad A cells slots H locs sl Q C hl hP hD hS hR hE
  exact lv_irem C.1 C.2.1 hd hne (kk p l e R s0 s m args below meth c D cI cC ad A cells slots H locs sl Q C hl hP hD hS hR hE)
theorem lo_pop {L : Nat} {xs : Nat → Int32} {lay : List fm_L} {d : Nat} {M : fm_Me} {Post : Option Value → fm_M → Prop} {pc : Nat} {ls : List (Option Value)} {st : List Value} {mem : fm_M} {v : Value} (hd : decode M.2.1 pc = .ok (.pop, 1)) (hv : v.category = 1) (kk : fl_Go L xs lay d M Post (pc + 1) ls st mem) : fl_Go L xs lay d M Post pc ls (v :: st) mem := by
  intro p l e R s0 s m args below meth c D cI cC ad A cells slots H locs sl Q C hl hP hD hS hR hE
  exact lv_pop C.1 C.2.1 hd (by rw [fm_cv_cat]; exact hv) (kk p l e R s0 s m args below meth c D cI cC ad A cells slots H locs sl Q C hl hP hD hS hR hE)
theorem lo_if_eq {L : Nat} {xs : Nat → Int32} {lay : List fm_L} {d : Nat} {M : fm_Me} {Post : Option Value → fm_M → Prop} {pc : Nat} {ls : List (Option Value)} {st : List Value} {mem : fm_M} {x : Int32} {off : Int} {tgt : Nat} (hd : decode M.2.1 pc = .ok (.ifCond .eq off, 3)) (ht : (pc : Int) + off = (tgt : Int)) (kt : x = 0 → fl_Go L xs lay d M Post tgt ls st mem) (kf : ¬ x = 0 → fl_Go L xs lay d M Post (pc + 3) ls st mem) : fl_Go L xs lay d M Post pc ls (.int x :: st) mem := by
  intro p l e R s0 s m args below meth c D cI cC ad A cells slots H locs sl Q C hl hP hD hS hR hE
  exact lv_if_eq C.1 C.2.1 hd ht (fun z => kt z p l e R s0 s m args below meth c D cI cC ad A cells slots H locs sl Q C hl hP hD hS hR hE) (fun z => kf z p l e R s0 s m args below meth c D cI cC ad A cells slots H locs sl Q C hl hP hD hS hR hE)
theorem lo_if_ne {L : Nat} {xs : Nat → Int32} {lay : List fm_L} {d : Nat} {M : fm_Me} {Post : Option Value → fm_M → Prop} {pc : Nat} {ls : List (Option Value)} {st : List Value} {mem : fm_M} {x : Int32} {off : Int} {tgt : Nat} (hd : decode M.2.1 pc = .ok (.ifCond .ne off, 3)) (ht : (pc : Int) + off = (tgt : Int)) (kt : ¬ x = 0 → fl_Go L xs lay d M Post tgt ls st mem) (kf : x = 0 → fl_Go L xs lay d M Post (pc + 3) ls st mem) : fl_Go L xs lay d M Post pc ls (.int x :: st) mem := by
  intro p l e R s0 s m args below meth c D cI cC ad A cells slots H locs sl Q C hl hP hD hS hR hE
  exact lv_if_ne C.1 C.2.1 hd ht (fun z => kt z p l e R s0 s m args below meth c D cI cC ad A cells slots H locs sl Q C hl hP hD hS hR hE) (fun z => kf z p l e R s0 s m args below meth c D cI cC ad A cells slots H locs sl Q C hl hP hD hS hR hE)
theorem lo_if_lt {L : Nat} {xs : Nat → Int32} {lay : List fm_L} {d : Nat} {M : fm_Me} {Post : Option Value → fm_M → Prop} {pc : Nat} {ls : List (Option Value)} {st : List Value} {mem : fm_M} {x : Int32} {off : Int} {tgt : Nat} (hd : decode M.2.1 pc = .ok (.ifCond .lt off, 3)) (ht : (pc : Int) + off = (tgt : Int)) (kt : x < 0 → fl_Go L xs lay d M Post tgt ls st mem) (kf : ¬ x < 0 → fl_Go L xs lay d M Post (pc + 3) ls st mem) : fl_Go L xs lay d M Post pc ls (.int x :: st) mem := by
  intro p l e R s0 s m args below meth c D cI cC ad A cells slots H locs sl Q C hl hP hD hS hR hE
  exact lv_if_lt C.1 C.2.1 hd ht (fun z => kt z p l e R s0 s m args below meth c D cI cC ad A cells slots H locs sl Q C hl hP hD hS hR hE) (fun z => kf z p l e R s0 s m args below meth c D cI cC ad A cells slots H locs sl Q C hl hP hD hS hR hE)
theorem lo_if_ge {L : Nat} {xs : Nat → Int32} {lay : List fm_L} {d : Nat} {M : fm_Me} {Post : Option Value → fm_M → Prop} {pc : Nat} {ls : List (Option Value)} {st : List Value} {mem : fm_M} {x : Int32} {off : Int} {tgt : Nat} (hd : decode M.2.1 pc = .ok (.ifCond .ge off, 3)) (ht : (pc : Int) + off = (tgt : Int)) (kt : 0 ≤ x → fl_Go L xs lay d M Post tgt ls st mem) (kf : ¬ 0 ≤ x → fl_Go L xs lay d M Post (pc + 3) ls st mem) : fl_Go L xs lay d M Post pc ls (.int x :: st) mem := by
  intro p l e R s0 s m args below meth c D cI cC ad A cells slots H locs sl Q C hl hP hD hS hR hE
  exact lv_if_ge C.1 C.2.1 hd ht (fun z => kt z p l e R s0 s m args below meth c D cI cC ad A cells slots H locs sl Q C hl hP hD hS hR hE) (fun z => kf z p l e R s0 s m args below meth c D cI cC ad A cells slots H locs sl Q C hl hP hD hS hR hE)
theorem lo_if_gt {L : Nat} {xs : Nat → Int32} {lay : List fm_L} {d : Nat} {M : fm_Me} {Post : Option Value → fm_M → Prop} {pc : Nat} {ls : List (Option Value)} {st : List Value} {mem : fm_M} {x : Int32} {off : Int} {tgt : Nat} (hd : decode M.2.1 pc = .ok (.ifCond .gt off, 3)) (ht : (pc : Int) + off = (tgt : Int)) (kt : 0 < x → fl_Go L xs lay d M Post tgt ls st mem) (kf : ¬ 0 < x → fl_Go L xs lay d M Post (pc + 3) ls st mem) : fl_Go L xs lay d M Post pc ls (.int x :: st) mem := by
  intro p l e R s0 s m args below meth c D cI cC ad A cells slots H locs sl Q C hl hP hD hS hR hE
  exact lv_if_gt C.1 C.2.1 hd ht (fun z => kt z p l e R s0 s m args below meth c D cI cC ad A cells slots H locs sl Q C hl hP hD hS hR hE) (fun z => kf z p l e R s0 s m args below meth c D cI cC ad A cells slots H locs sl Q C hl hP hD hS hR hE)
theorem lo_if_le {L : Nat} {xs : Nat → Int32} {lay : List fm_L} {d : Nat} {M : fm_Me} {Post : Option Value → fm_M → Prop} {pc : Nat} {ls : List (Option Value)} {st : List Value} {mem : fm_M} {x : Int32} {off : Int} {tgt : Nat} (hd : decode M.2.1 pc = .ok (.ifCond .le off, 3)) (ht : (pc : Int) + off = (tgt : Int)) (kt : x ≤ 0 → fl_Go L xs lay d M Post tgt ls st mem) (kf : ¬ x ≤ 0 → fl_Go L xs lay d M Post (pc + 3) ls st mem) : fl_Go L xs lay d M Post pc ls (.int x :: st) mem := by
  intro p l e R s0 s m args below meth c D cI cC ad A cells slots H locs sl Q C hl hP hD hS hR hE
  exact lv_if_le C.1 C.2.1 hd ht (fun z => kt z p l e R s0 s m args below meth c D cI cC ad A cells slots H locs sl Q C hl hP hD hS hR hE) (fun z => kf z p l e R s0 s m args below meth c D cI cC ad A cells slots H locs sl Q C hl hP hD hS hR hE)
theorem lo_icmp_eq {L : Nat} {xs : Nat → Int32} {lay : List fm_L} {d : Nat} {M : fm_Me} {Post : Option Value → fm_M → Prop} {pc : Nat} {ls : List (Option Value)} {st : List Value} {mem : fm_M} {x y : Int32} {off : Int} {tgt : Nat} (hd : decode M.2.1 pc = .ok (.if_icmp .eq off, 3)) (ht : (pc : Int) + off = (tgt : Int)) (kt : x = y → fl_Go L xs lay d M Post tgt ls st mem) (kf : ¬ x = y → fl_Go L xs lay d M Post (pc + 3) ls st mem) : fl_Go L xs lay d M Post pc ls (.int y :: .int x :: st) mem := by
  intro p l e R s0 s m args below meth c D cI cC ad A cells slots H locs sl Q C hl hP hD hS hR hE
  exact lv_icmp_eq C.1 C.2.1 hd ht (fun z => kt z p l e R s0 s m args below meth c D cI cC ad A cells slots H locs sl Q C hl hP hD hS hR hE) (fun z => kf z p l e R s0 s m args below meth c D cI cC ad A cells slots H locs sl Q C hl hP hD hS hR hE)
theorem lo_icmp_ne {L : Nat} {xs : Nat → Int32} {lay : List fm_L} {d : Nat} {M : fm_Me} {Post : Option Value → fm_M → Prop} {pc : Nat} {ls : List (Option Value)} {st : List Value} {mem : fm_M} {x y : Int32} {off : Int} {tgt : Nat} (hd : decode M.2.1 pc = .ok (.if_icmp .ne off, 3)) (ht : (pc : Int) + off = (tgt : Int)) (kt : ¬ x = y → fl_Go L xs lay d M Post tgt ls st mem) (kf : x = y → fl_Go L xs lay d M Post (pc + 3) ls st mem) : fl_Go L xs lay d M Post pc ls (.int y :: .int x :: st) mem := by
  intro p l e R s0 s m args below meth c D cI cC ad A cells slots H locs sl Q C hl hP hD hS hR hE
  exact lv_icmp_ne C.1 C.2.1 hd ht (fun z => kt z p l e R s0 s m args below meth c D cI cC ad A cells slots H locs sl Q C hl hP hD hS hR hE) (fun z => kf z p l e R s0 s m args below meth c D cI cC ad A cells slots H locs sl Q C hl hP hD hS hR hE)
theorem lo_icmp_lt {L : Nat} {xs : Nat → Int32} {lay : List fm_L} {d : Nat} {M : fm_Me} {Post : Option Value → fm_M → Prop} {pc : Nat} {ls : List (Option Value)} {st : List Value} {mem : fm_M} {x y : Int32} {off : Int} {tgt : Nat} (hd : decode M.2.1 pc = .ok (.if_icmp .lt off, 3)) (ht : (pc : Int) + off = (tgt : Int)) (kt : x < y → fl_Go L xs lay d M Post tgt ls st mem) (kf : ¬ x < y → fl_Go L xs lay d M Post (pc + 3) ls st mem) : fl_Go L xs lay d M Post pc ls (.int y :: .int x :: st) mem := by
  intro p l e R s0 s m args below meth c D cI cC ad A cells slots H locs sl Q C hl hP hD hS hR hE
  exact lv_icmp_lt C.1 C.2.1 hd ht (fun z => kt z p l e R s0 s m args below meth c D cI cC ad A cells slots H locs sl Q C hl hP hD hS hR hE) (fun z => kf z p l e R s0 s m args below meth c D cI cC ad A cells slots H locs sl Q C hl hP hD hS hR hE)
theorem lo_icmp_ge {L : Nat} {xs : Nat → Int32} {lay : List fm_L} {d : Nat} {M : fm_Me} {Post : Option Value → fm_M → Prop} {pc : Nat} {ls : List (Option Value)} {st : List Value} {mem : fm_M} {x y : Int32} {off : Int} {tgt : Nat} (hd : decode M.2.1 pc = .ok (.if_icmp .ge off, 3)) (ht : (pc : Int) + off = (tgt : Int)) (kt : y ≤ x → fl_Go L xs lay d M Post tgt ls st mem) (kf : ¬ y ≤ x → fl_Go L xs lay d M Post (pc + 3) ls st mem) : fl_Go L xs lay d M Post pc ls (.int y :: .int x :: st) mem := by
  intro p l e R s0 s m args below meth c D cI cC ad A cells slots H locs sl Q C hl hP hD hS hR hE
  exact lv_icmp_ge C.1 C.2.1 hd ht (fun z => kt z p l e R s0 s m args below meth c D cI cC ad A cells slots H locs sl Q C hl hP hD hS hR hE) (fun z => kf z p l e R s0 s m args below meth c D cI cC ad A cells slots H locs sl Q C hl hP hD hS hR hE)
theorem lo_icmp_gt {L : Nat} {xs : Nat → Int32} {lay : List fm_L} {d : Nat} {M : fm_Me} {Post : Option Value → fm_M → Prop} {pc : Nat} {ls : List (Option Value)} {st : List Value} {mem : fm_M} {x y : Int32} {off : Int} {tgt : Nat} (hd : decode M.2.1 pc = .ok (.if_icmp .gt off, 3)) (ht : (pc : Int) + off = (tgt : Int)) (kt : y < x → fl_Go L xs lay d M Post tgt ls st mem) (kf : ¬ y < x → fl_Go L xs lay d M Post (pc + 3) ls st mem) : fl_Go L xs lay d M Post pc ls (.int y :: .int x :: st) mem := by
  intro p l e R s0 s m args below meth c D cI cC ad A cells slots H locs sl Q C hl hP hD hS hR hE
  exact lv_icmp_gt C.1 C.2.1 hd ht (fun z => kt z p l e R s0 s m args below meth c D cI cC ad A cells slots H locs sl Q C hl hP hD hS hR hE) (fun z => kf z p l e R s0 s m args below meth c D cI cC ad A cells slots H locs sl Q C hl hP hD hS hR hE)
theorem lo_icmp_le {L : Nat} {xs : Nat → Int32} {lay : List fm_L} {d : Nat} {M : fm_Me} {Post : Option Value → fm_M → Prop} {pc : Nat} {ls : List (Option Value)} {st : List Value} {mem : fm_M} {x y : Int32} {off : Int} {tgt : Nat} (hd : decode M.2.1 pc = .ok (.if_icmp .le off, 3)) (ht : (pc : Int) + off = (tgt : Int)) (kt : x ≤ y → fl_Go L xs lay d M Post tgt ls st mem) (kf : ¬ x ≤ y → fl_Go L xs lay d M Post (pc + 3) ls st mem) : fl_Go L xs lay d M Post pc ls (.int y :: .int x :: st) mem := by
  intro p l e R s0 s m args below meth c D cI cC ad A cells slots H locs sl Q C hl hP hD hS hR hE
  exact lv_icmp_le C.1 C.2.1 hd ht (fun z => kt z p l e R s0 s m args below meth c D cI cC ad A cells slots H locs sl Q C hl hP hD hS hR hE) (fun z => kf z p l e R s0 s m args below meth c D cI cC ad A cells slots H locs sl Q C hl hP hD hS hR hE)
theorem lo_goto {L : Nat} {xs : Nat → Int32} {lay : List fm_L} {d : Nat} {M : fm_Me} {Post : Option Value → fm_M → Prop} {pc : Nat} {ls : List (Option Value)} {st : List Value} {mem : fm_M} {off : Int} {tgt : Nat} (hd : decode M.2.1 pc = .ok (.goto off, 3)) (ht : (pc : Int) + off = (tgt : Int)) (kk : fl_Go L xs lay d M Post tgt ls st mem) : fl_Go L xs lay d M Post pc ls st mem := by
  intro p l e R s0 s m args below meth c D cI cC ad A cells slots H locs sl Q C hl hP hD hS hR hE
  exact lv_goto C.1 C.2.1 hd ht (kk p l e R s0 s m args below meth c D cI cC ad A cells slots H locs sl Q C hl hP hD hS hR hE)
theorem lo_ret {L : Nat} {xs : Nat → Int32} {lay : List fm_L} {d : Nat} {M : fm_Me} {Post : Option Value → fm_M → Prop} {pc : Nat} {ls : List (Option Value)} {st : List Value} {mem : fm_M} {v : Option Value} (hr : fm_isR M pc v) (hp : Post v mem) (hst : st = v.toList) : fl_Go L xs lay d M Post pc ls st mem := by
  intro p l e R s0 s m args below meth c D cI cC ad A cells slots H locs sl Q C hl hP hD hS hR hE
  subst hst
  have e1 : (v.toList.map (fm_cv ad)) = (v.map (fm_cv ad)).toList := by cases v <;> rfl
  rw [e1]
  exact hR s H locs sl pc v mem C.2.2.2.2.2.2.2.2.2.2.2 hp hP hS hr
theorem lo_iret {L : Nat} {xs : Nat → Int32} {lay : List fm_L} {d : Nat} {M : fm_Me} {Post : Option Value → fm_M → Prop} {pc : Nat} {ls : List (Option Value)} {mem : fm_M} {x : Int32} (ty : FieldType) (hd : decode M.2.1 pc = .ok (.ireturn, 1)) (ht : M.2.2.2.1 = some ty) (hn : narrow ty (.int x) = .int x) (hp : Post (some (.int x)) mem) : fl_Go L xs lay d M Post pc ls [.int x] mem := lo_ret (v := some (.int x)) ⟨hd, ty, ht, hn⟩ hp rfl
theorem lo_callV {L : Nat} {xs : Nat → Int32} {lay : List fm_L} {d : Nat} {M : fm_Me} {Post : Option Value → fm_M → Prop} {pc : Nat} {ls : List (Option Value)} {st : List Value} {mem : fm_M} {M2 : fm_Me} {d2 n idx : Nat} {As st0 : List Value} {mem1 : fm_M} {PostC : Option Value → fm_M → Prop} {q ci N : Nat} {fl : List (Option (Option Nat))} {C0 : String} {T : u_T} (hd : decode M.2.1 pc = .ok (.invokevirtual idx, 3)) (hcal : fm_Met lay d2 M2 (.ref q :: As) mem PostC) (hdd : d2 + 1 ≤ d) (hce : fm_callee M2 n) (hlk : Cond.methodLink M.2.2.2.2 idx M2.1 ∈ fm_G) (hin : Cond.instanceMethod M2.1 ∈ fm_G) (hsel : Cond.selects C0 M2.1 M2.1 ∈ fm_G) (hc : fm_cls ci C0 T N) (he : lay[q]? = some (.inr (ci, fl))) (hn : As.length = n) (hst : (st.map fun v => v.category).sum ≤ 8) (hs0 : st0 = As.reverse ++ .ref q :: st) (kk : ∀ v mem2, PostC v mem2 → fl_Go L xs lay d M Post (pc + 3) ls (v.toList ++ st) mem2) : fl_Go L xs lay d M Post pc ls st0 mem := by
  intro p l e R s0 s m args below meth c D cI cC ad A cells slots H locs sl Q C hl hP hD hS hR hE
  subst hs0
  have hr := C.2.2.2.2.2.2.2.2.2.1
  have hts := C.2.2.2.2.2.2.1
  have hrun := va_runV (e := e) (R := R) (p := p) (l := l) (args := args) (c := c) (H := H) (locs := locs) (cells := cells) (slots := slots) (below := below) (meth := meth) (rest := st.map (fm_cv ad)) (As := As.map (fm_cv ad)) (g := F0 m pc sl ((As.reverse ++ .ref q :: st).map (fm_cv ad))) (b := ad q) (C := C0) ⟨C.1, C.2.1, C.2.2.1, C.2.2.2.2.1, hts⟩ (hcal l D cI cC ad H.size) ⟨fm_callB hce hts hdd ⟨hr.1, hr.2.1⟩ hlk, hts _ hin, hts _ hsel⟩
    ⟨fm_blind, va_recv C.2.2.2.2.2.2.2.1.1 hP hc.1 (fm_at he), fun U hU hW => fm_pre C.2.2.2.2.2.2.2.1 C.2.2.2.2.2.2.2.2.1 hP hD hS C.2.2.2.2.2.2.2.2.2.2.1 hU hW⟩ rfl (by rw [List.length_map]; exact hn) hl.1 (by show List.map _ _ = _; rw [List.map_append, List.map_reverse]; rfl) (by show 2 * 0 + _ ≤ 8; have := fm_st8 ad hst; omega) hd ⟨hr.2.2.1, hr.2.2.2⟩
  refine fm_back hrun C.2.2.2.2.2.2.2.2.2.2.2 hS (fm_Afree hD hS C.2.2.2.2.2.2.2.2.2.2.1) (fun v mem' H1 locs1 s1 hs1 hvm hhp hw hpost hP1 hS1 => ?_)
  obtain ⟨a1, a2, a3, a4, a5, a6, a7, a8, a9, a10, a11, a12⟩ := C
  have hsame : s.vm.Alike s1.vm := by rw [hvm]; exact Vm.Alike.refl _
  have C1 : fm_C d M p R s0 s1 m args meth c D cI cC ad A cells slots := ⟨a1, a2, a3, a4, by rw [hvm]; exact a5, a6, fun w hw1 => hw w (a7 w hw1), ⟨va_K.moved hsame a8.1, fm_N_same hvm.symm a8.2⟩, fm_X_same a9 hvm.symm hhp.symm, a10, by rw [hhp]; exact a11, hs1⟩
  have key := kk v mem' hpost p l e R s0 s1 m args below meth c D cI cC ad A cells slots H1 locs1 sl Q C1 hl hP1 (fm_D_mem hD) hS1 hR (fm_E_same hE hvm.symm hhp.symm)
  have e1 : ((v.toList ++ st).map (fm_cv ad)) = (v.map (fm_cv ad)).toList ++ st.map (fm_cv ad) := by cases v <;> rfl
  rw [e1] at key
  exact key
theorem lo_callT {L : Nat} {xs : Nat → Int32} {lay : List fm_L} {d : Nat} {M : fm_Me} {Post : Option Value → fm_M → Prop} {pc : Nat} {ls : List (Option Value)} {st : List Value} {mem : fm_M} {M2 : fm_Me} {d2 n idx : Nat} {As st0 : List Value} {mem1 : fm_M} {PostC : Option Value → fm_M → Prop} {i : Nat} (hd : decode M.2.1 pc = .ok (.invokevirtual idx, 3)) (hi : i < 16) (hcal : fm_Met lay d2 M2 (.ref (1000 + i) :: As) mem PostC) (hdd : d2 + 1 ≤ d) (hce : fm_callee M2 n) (hlk : Cond.methodLink M.2.2.2.2 idx M2.1 ∈ fm_G) (hin : Cond.instanceMethod M2.1 ∈ fm_G) (hsel : Cond.selects "java/lang/String" M2.1 M2.1 ∈ fm_G) (hn : As.length = n) (hst : (st.map fun v => v.category).sum ≤ 8) (hs0 : st0 = As.reverse ++ .ref (1000 + i) :: st) (kk : ∀ v mem2, PostC v mem2 → fl_Go L xs lay d M Post (pc + 3) ls (v.toList ++ st) mem2) : fl_Go L xs lay d M Post pc ls st0 mem := by
  intro p l e R s0 s m args below meth c D cI cC ad A cells slots H locs sl Q C hl hP hD hS hR hE
  subst hs0
  have hr := C.2.2.2.2.2.2.2.2.2.1
  have hts := C.2.2.2.2.2.2.1
  have hrun := va_runV (e := e) (R := R) (p := p) (l := l) (args := args) (c := c) (H := H) (locs := locs) (cells := cells) (slots := slots) (below := below) (meth := meth) (rest := st.map (fm_cv ad)) (As := As.map (fm_cv ad)) (g := F0 m pc sl ((As.reverse ++ .ref (1000 + i) :: st).map (fm_cv ad))) (b := ad (1000 + i)) (C := "java/lang/String") ⟨C.1, C.2.1, C.2.2.1, C.2.2.2.2.1, hts⟩ (hcal l D cI cC ad H.size) ⟨fm_callB hce hts hdd ⟨hr.1, hr.2.1⟩ hlk, hts _ hin, hts _ hsel⟩
    ⟨fm_blind, vk_recv (adK := fun i => ad (1000 + i)) (i := i) C.2.2.2.2.2.2.2.2.1.1 hi hS, fun U hU hW => fm_pre C.2.2.2.2.2.2.2.1 C.2.2.2.2.2.2.2.2.1 hP hD hS C.2.2.2.2.2.2.2.2.2.2.1 hU hW⟩ rfl (by rw [List.length_map]; exact hn) hl.1 (by show List.map _ _ = _; rw [List.map_append, List.map_reverse]; rfl) (by show 2 * 0 + _ ≤ 8; have := fm_st8 ad hst; omega) hd ⟨hr.2.2.1, hr.2.2.2⟩
  refine fm_back hrun C.2.2.2.2.2.2.2.2.2.2.2 hS (fm_Afree hD hS C.2.2.2.2.2.2.2.2.2.2.1) (fun v mem' H1 locs1 s1 hs1 hvm hhp hw hpost hP1 hS1 => ?_)
  obtain ⟨a1, a2, a3, a4, a5, a6, a7, a8, a9, a10, a11, a12⟩ := C
  have hsame : s.vm.Alike s1.vm := by rw [hvm]; exact Vm.Alike.refl _
  have C1 : fm_C d M p R s0 s1 m args meth c D cI cC ad A cells slots := ⟨a1, a2, a3, a4, by rw [hvm]; exact a5, a6, fun w hw1 => hw w (a7 w hw1), ⟨va_K.moved hsame a8.1, fm_N_same hvm.symm a8.2⟩, fm_X_same a9 hvm.symm hhp.symm, a10, by rw [hhp]; exact a11, hs1⟩
  have key := kk v mem' hpost p l e R s0 s1 m args below meth c D cI cC ad A cells slots H1 locs1 sl Q C1 hl hP1 (fm_D_mem hD) hS1 hR (fm_E_same hE hvm.symm hhp.symm)
  have e1 : ((v.toList ++ st).map (fm_cv ad)) = (v.map (fm_cv ad)).toList ++ st.map (fm_cv ad) := by cases v <;> rfl
  rw [e1] at key
  exact key

theorem lo_drop {L : Nat} {xs : Nat → Int32} {lay : List fm_L} {d : Nat} {M : fm_Me} {Post : Option Value → fm_M → Prop} {pc : Nat} {ls : List (Option Value)} {st : List Value} {mem : fm_M} (i : Nat) {ls1 : List (Option Value)} (h1 : ls.set i none = ls1) (kk : fl_Go L xs lay d M Post pc ls1 st mem) : fl_Go L xs lay d M Post pc ls st mem := by
  intro p l e R s0 s m args below meth c D cI cC ad A cells slots H locs sl Q C hl hP hD hS hR hE
  subst h1
  refine kk p l e R s0 s m args below meth c D cI cC ad A cells slots H locs sl Q C ⟨hl.1, hl.2.1, fun j v hj => hl.2.2 j v ?_⟩ hP hD hS hR hE
  rw [List.getElem?_set] at hj
  split at hj
  next => split at hj <;> cases hj
  next => exact hj
theorem lo_ifb_eq {L : Nat} {xs : Nat → Int32} {lay : List fm_L} {d : Nat} {M : fm_Me} {Post : Option Value → fm_M → Prop} {pc : Nat} {ls : List (Option Value)} {st : List Value} {mem : fm_M} {b : Bool} {off : Int} {tgt : Nat} (hd : decode M.2.1 pc = .ok (.ifCond .eq off, 3)) (ht : (pc : Int) + off = (tgt : Int)) (kt : b = false → fl_Go L xs lay d M Post tgt ls st mem) (kf : b = true → fl_Go L xs lay d M Post (pc + 3) ls st mem) : fl_Go L xs lay d M Post pc ls (.int (fm_b b) :: st) mem := lo_if_eq hd ht (fun z => kt ((fm_b_0 _).mp z)) (fun z => kf (by cases b with | true => rfl | false => exact absurd rfl z))
theorem lo_ifb_ne {L : Nat} {xs : Nat → Int32} {lay : List fm_L} {d : Nat} {M : fm_Me} {Post : Option Value → fm_M → Prop} {pc : Nat} {ls : List (Option Value)} {st : List Value} {mem : fm_M} {b : Bool} {off : Int} {tgt : Nat} (hd : decode M.2.1 pc = .ok (.ifCond .ne off, 3)) (ht : (pc : Int) + off = (tgt : Int)) (kt : b = true → fl_Go L xs lay d M Post tgt ls st mem) (kf : b = false → fl_Go L xs lay d M Post (pc + 3) ls st mem) : fl_Go L xs lay d M Post pc ls (.int (fm_b b) :: st) mem := lo_if_ne hd ht (fun z => kt (by cases b with | true => rfl | false => exact absurd rfl z)) (fun z => kf ((fm_b_0 _).mp z))
theorem lo_tswHit {L : Nat} {xs : Nat → Int32} {lay : List fm_L} {d : Nat} {M : fm_Me} {Post : Option Value → fm_M → Prop} {pc : Nat} {ls : List (Option Value)} {st : List Value} {mem : fm_M} {dflt lo hi : Int} {offs : Array Int} {len : Nat} {x v : Int32} {off : Int} {tgt : Nat} (hd : decode M.2.1 pc = .ok (.tableswitch dflt lo hi offs, len)) (hx : x = v) (h1 : ¬ v.toInt < lo) (h2 : ¬ hi < v.toInt) (ho : offs[(v.toInt - lo).toNat]? = some off) (ht : (pc : Int) + off = (tgt : Int)) (kk : fl_Go L xs lay d M Post tgt ls st mem) : fl_Go L xs lay d M Post pc ls (.int x :: st) mem := by
  intro p l e R s0 s m args below meth c D cI cC ad A cells slots H locs sl Q C hl hP hD hS hR hE
  subst hx
  exact lv_tableIn C.1 C.2.1 hd h1 h2 ho ht (kk p l e R s0 s m args below meth c D cI cC ad A cells slots H locs sl Q C hl hP hD hS hR hE)
theorem lo_tswMiss {L : Nat} {xs : Nat → Int32} {lay : List fm_L} {d : Nat} {M : fm_Me} {Post : Option Value → fm_M → Prop} {pc : Nat} {ls : List (Option Value)} {st : List Value} {mem : fm_M} {dflt lo hi : Int} {offs : Array Int} {len : Nat} {x : Int32} {tgt : Nat} (hd : decode M.2.1 pc = .ok (.tableswitch dflt lo hi offs, len)) (n : Nat) (hn : hi < lo + n) (hm : ∀ j, j < n → ¬ x.toInt = lo + j ∨ offs[j]? = some dflt) (ht : (pc : Int) + dflt = (tgt : Int)) (kk : fl_Go L xs lay d M Post tgt ls st mem) : fl_Go L xs lay d M Post pc ls (.int x :: st) mem := by
  intro p l e R s0 s m args below meth c D cI cC ad A cells slots H locs sl Q C hl hP hD hS hR hE
  by_cases ho : x.toInt < lo ∨ hi < x.toInt
  · exact lv_tableOut C.1 C.2.1 hd ho ht (kk p l e R s0 s m args below meth c D cI cC ad A cells slots H locs sl Q C hl hP hD hS hR hE)
  · have h1 : ¬ x.toInt < lo := fun z => ho (Or.inl z)
    have h2 : ¬ hi < x.toInt := fun z => ho (Or.inr z)
    rcases hm (x.toInt - lo).toNat (by omega) with h | h
    · exact absurd (by omega) h
    · exact lv_tableIn C.1 C.2.1 hd h1 h2 h ht (kk p l e R s0 s m args below meth c D cI cC ad A cells slots H locs sl Q C hl hP hD hS hR hE)
theorem lo_callVi {L : Nat} {xs : Nat → Int32} {lay : List fm_L} {d : Nat} {M : fm_Me} {Post : Option Value → fm_M → Prop} {pc : Nat} {ls : List (Option Value)} {st : List Value} {mem : fm_M} {M2 : fm_Me} {d2 n idx : Nat} {As st0 : List Value} {m2 : fm_M} {r : Int32} {q ci N : Nat} {fl : List (Option (Option Nat))} {C0 : String} {T : u_T} (hd : decode M.2.1 pc = .ok (.invokevirtual idx, 3)) (hcal : fm_Met lay d2 M2 (.ref q :: As) mem (fm_pi r m2)) (hdd : d2 + 1 ≤ d) (hce : fm_callee M2 n) (hlk : Cond.methodLink M.2.2.2.2 idx M2.1 ∈ fm_G) (hin : Cond.instanceMethod M2.1 ∈ fm_G) (hsel : Cond.selects C0 M2.1 M2.1 ∈ fm_G) (hc : fm_cls ci C0 T N) (he : lay[q]? = some (.inr (ci, fl))) (hn : As.length = n) (hst : (st.map fun v => v.category).sum ≤ 8) (hs0 : st0 = As.reverse ++ .ref q :: st) (kk : fl_Go L xs lay d M Post (pc + 3) ls (.int r :: st) m2) : fl_Go L xs lay d M Post pc ls st0 mem := lo_callV (mem1 := mem) hd hcal hdd hce hlk hin hsel hc he hn hst hs0 (fun v mem2 hv => by obtain ⟨rfl, rfl⟩ := hv; exact kk)
theorem lo_callTi {L : Nat} {xs : Nat → Int32} {lay : List fm_L} {d : Nat} {M : fm_Me} {Post : Option Value → fm_M → Prop} {pc : Nat} {ls : List (Option Value)} {st : List Value} {mem : fm_M} {M2 : fm_Me} {d2 n idx : Nat} {As st0 : List Value} {m2 : fm_M} {r : Int32} {i : Nat} (hd : decode M.2.1 pc = .ok (.invokevirtual idx, 3)) (hi : i < 16) (hcal : fm_Met lay d2 M2 (.ref (1000 + i) :: As) mem (fm_pi r m2)) (hdd : d2 + 1 ≤ d) (hce : fm_callee M2 n) (hlk : Cond.methodLink M.2.2.2.2 idx M2.1 ∈ fm_G) (hin : Cond.instanceMethod M2.1 ∈ fm_G) (hsel : Cond.selects "java/lang/String" M2.1 M2.1 ∈ fm_G) (hn : As.length = n) (hst : (st.map fun v => v.category).sum ≤ 8) (hs0 : st0 = As.reverse ++ .ref (1000 + i) :: st) (kk : fl_Go L xs lay d M Post (pc + 3) ls (.int r :: st) m2) : fl_Go L xs lay d M Post pc ls st0 mem := lo_callT (mem1 := mem) hd hi hcal hdd hce hlk hin hsel hn hst hs0 (fun v mem2 hv => by obtain ⟨rfl, rfl⟩ := hv; exact kk)
theorem lo_lconst {L : Nat} {xs : Nat → Int32} {lay : List fm_L} {d : Nat} {M : fm_Me} {Post : Option Value → fm_M → Prop} {pc : Nat} {ls : List (Option Value)} {st : List Value} {mem : fm_M} {n : Fin 2} {v : Int64} (hd : decode M.2.1 pc = .ok (.lconst n, 1)) (hv : Int64.ofNat (n : Nat) = v) (kk : fl_Go L xs lay d M Post (pc + 1) ls (.long v :: st) mem) : fl_Go L xs lay d M Post pc ls st mem := by
  intro p l e R s0 s m args below meth c D cI cC ad A cells slots H locs sl Q C hl hP hD hS hR hE
  exact lv_lconst C.1 C.2.1 hd hv (kk p l e R s0 s m args below meth c D cI cC ad A cells slots H locs sl Q C hl hP hD hS hR hE)
theorem lo_ldc {L : Nat} {xs : Nat → Int32} {lay : List fm_L} {d : Nat} {M : fm_Me} {Post : Option Value → fm_M → Prop} {pc : Nat} {ls : List (Option Value)} {st : List Value} {mem : fm_M} {idx : Nat} {v : Int32} (hd : decode M.2.1 pc = .ok (.ldc idx, 2)) (hc : Cond.constant M.2.2.2.2 idx v ∈ fm_G) (kk : fl_Go L xs lay d M Post (pc + 2) ls (.int v :: st) mem) : fl_Go L xs lay d M Post pc ls st mem := by
  intro p l e R s0 s m args below meth c D cI cC ad A cells slots H locs sl Q C hl hP hD hS hR hE
  exact lv_ldc C.1 C.2.1 C.2.2.2.2.1 (C.2.2.2.2.2.2.1 _ hc) hd (kk p l e R s0 s m args below meth c D cI cC ad A cells slots H locs sl Q C hl hP hD hS hR hE)
theorem lo_ldc2 {L : Nat} {xs : Nat → Int32} {lay : List fm_L} {d : Nat} {M : fm_Me} {Post : Option Value → fm_M → Prop} {pc : Nat} {ls : List (Option Value)} {st : List Value} {mem : fm_M} {idx : Nat} {v : Int64} (hd : decode M.2.1 pc = .ok (.ldc2_w idx, 3)) (hc : Cond.constantLong M.2.2.2.2 idx v ∈ fm_G) (kk : fl_Go L xs lay d M Post (pc + 3) ls (.long v :: st) mem) : fl_Go L xs lay d M Post pc ls st mem := by
  intro p l e R s0 s m args below meth c D cI cC ad A cells slots H locs sl Q C hl hP hD hS hR hE
  exact lv_ldc2 C.1 C.2.1 C.2.2.2.2.1 (C.2.2.2.2.2.2.1 _ hc) hd (kk p l e R s0 s m args below meth c D cI cC ad A cells slots H locs sl Q C hl hP hD hS hR hE)
theorem lo_lload_n {L : Nat} {xs : Nat → Int32} {lay : List fm_L} {d : Nat} {M : fm_Me} {Post : Option Value → fm_M → Prop} {pc : Nat} {ls : List (Option Value)} {st : List Value} {mem : fm_M} {k : Fin 4} {i : Nat} {x : Int64} (hd : decode M.2.1 pc = .ok (.lload_n k, 1)) (hi : (k : Nat) = i) (hv : ls[i]? = some (some (.long x))) (kk : fl_Go L xs lay d M Post (pc + 1) ls (.long x :: st) mem) : fl_Go L xs lay d M Post pc ls st mem := by
  intro p l e R s0 s m args below meth c D cI cC ad A cells slots H locs sl Q C hl hP hD hS hR hE
  exact lv_lload_n C.1 C.2.1 hd hi (hl.2.2 _ _ hv) (kk p l e R s0 s m args below meth c D cI cC ad A cells slots H locs sl Q C hl hP hD hS hR hE)
theorem lo_lload {L : Nat} {xs : Nat → Int32} {lay : List fm_L} {d : Nat} {M : fm_Me} {Post : Option Value → fm_M → Prop} {pc : Nat} {ls : List (Option Value)} {st : List Value} {mem : fm_M} {i : Nat} {x : Int64} (hd : decode M.2.1 pc = .ok (.lload i, 2)) (hv : ls[i]? = some (some (.long x))) (kk : fl_Go L xs lay d M Post (pc + 2) ls (.long x :: st) mem) : fl_Go L xs lay d M Post pc ls st mem := by
  intro p l e R s0 s m args below meth c D cI cC ad A cells slots H locs sl Q C hl hP hD hS hR hE
  exact lv_lload C.1 C.2.1 hd (hl.2.2 _ _ hv) (kk p l e R s0 s m args below meth c D cI cC ad A cells slots H locs sl Q C hl hP hD hS hR hE)
theorem lo_istore_n {L : Nat} {xs : Nat → Int32} {lay : List fm_L} {d : Nat} {M : fm_Me} {Post : Option Value → fm_M → Prop} {pc : Nat} {ls : List (Option Value)} {st : List Value} {mem : fm_M} {k : Fin 4} {i : Nat} {x : Int32} (hd : decode M.2.1 pc = .ok (.istore_n k, 1)) (hi : (k : Nat) = i) (hn : i < M.2.2.1) (hok : fl_ok ls i = true) {ls1 : List (Option Value)} (h1 : ls.set i (some (.int x)) = ls1) (kk : fl_Go L xs lay d M Post (pc + 1) ls1 st mem) : fl_Go L xs lay d M Post pc ls (.int x :: st) mem := by
  intro p l e R s0 s m args below meth c D cI cC ad A cells slots H locs sl Q C hl hP hD hS hR hE
  subst h1
  exact lv_istore_n C.1 C.2.1 hd hi (fl_has_kn hl) hn rfl (fun sl1 hl1 => kk p l e R s0 s m args below meth c D cI cC ad A cells slots H locs sl1 Q C (fl_has_set hl hok hl1) hP hD hS hR hE)
theorem lo_istore {L : Nat} {xs : Nat → Int32} {lay : List fm_L} {d : Nat} {M : fm_Me} {Post : Option Value → fm_M → Prop} {pc : Nat} {ls : List (Option Value)} {st : List Value} {mem : fm_M} {i : Nat} {x : Int32} (hd : decode M.2.1 pc = .ok (.istore i, 2)) (hn : i < M.2.2.1) (hok : fl_ok ls i = true) {ls1 : List (Option Value)} (h1 : ls.set i (some (.int x)) = ls1) (kk : fl_Go L xs lay d M Post (pc + 2) ls1 st mem) : fl_Go L xs lay d M Post pc ls (.int x :: st) mem := by
  intro p l e R s0 s m args below meth c D cI cC ad A cells slots H locs sl Q C hl hP hD hS hR hE
  subst h1
  exact lv_istore C.1 C.2.1 hd (fl_has_kn hl) hn rfl (fun sl1 hl1 => kk p l e R s0 s m args below meth c D cI cC ad A cells slots H locs sl1 Q C (fl_has_set hl hok hl1) hP hD hS hR hE)
theorem lo_astore_n {L : Nat} {xs : Nat → Int32} {lay : List fm_L} {d : Nat} {M : fm_Me} {Post : Option Value → fm_M → Prop} {pc : Nat} {ls : List (Option Value)} {st : List Value} {mem : fm_M} {k : Fin 4} {i : Nat} {x : Nat} (hd : decode M.2.1 pc = .ok (.astore_n k, 1)) (hi : (k : Nat) = i) (hn : i < M.2.2.1) (hok : fl_ok ls i = true) {ls1 : List (Option Value)} (h1 : ls.set i (some (.ref x)) = ls1) (kk : fl_Go L xs lay d M Post (pc + 1) ls1 st mem) : fl_Go L xs lay d M Post pc ls (.ref x :: st) mem := by
  intro p l e R s0 s m args below meth c D cI cC ad A cells slots H locs sl Q C hl hP hD hS hR hE
  subst h1
  exact lv_astore_n C.1 C.2.1 hd hi (fl_has_kn hl) hn rfl (fun sl1 hl1 => kk p l e R s0 s m args below meth c D cI cC ad A cells slots H locs sl1 Q C (fl_has_set hl hok hl1) hP hD hS hR hE)
theorem lo_astore {L : Nat} {xs : Nat → Int32} {lay : List fm_L} {d : Nat} {M : fm_Me} {Post : Option Value → fm_M → Prop} {pc : Nat} {ls : List (Option Value)} {st : List Value} {mem : fm_M} {i : Nat} {x : Nat} (hd : decode M.2.1 pc = .ok (.astore i, 2)) (hn : i < M.2.2.1) (hok : fl_ok ls i = true) {ls1 : List (Option Value)} (h1 : ls.set i (some (.ref x)) = ls1) (kk : fl_Go L xs lay d M Post (pc + 2) ls1 st mem) : fl_Go L xs lay d M Post pc ls (.ref x :: st) mem := by
  intro p l e R s0 s m args below meth c D cI cC ad A cells slots H locs sl Q C hl hP hD hS hR hE
  subst h1
  exact lv_astore C.1 C.2.1 hd (fl_has_kn hl) hn rfl (fun sl1 hl1 => kk p l e R s0 s m args below meth c D cI cC ad A cells slots H locs sl1 Q C (fl_has_set hl hok hl1) hP hD hS hR hE)
theorem lo_lstore_n {L : Nat} {xs : Nat → Int32} {lay : List fm_L} {d : Nat} {M : fm_Me} {Post : Option Value → fm_M → Prop} {pc : Nat} {ls : List (Option Value)} {st : List Value} {mem : fm_M} {k : Fin 4} {i : Nat} {x : Int64} (hd : decode M.2.1 pc = .ok (.lstore_n k, 1)) (hi : (k : Nat) = i) (hn : i + 1 < M.2.2.1) (hok : fl_ok ls i = true) {ls1 : List (Option Value)} (h1 : (ls.set i (some (.long x))).set (i + 1) none = ls1) (kk : fl_Go L xs lay d M Post (pc + 1) ls1 st mem) : fl_Go L xs lay d M Post pc ls (.long x :: st) mem := by
  intro p l e R s0 s m args below meth c D cI cC ad A cells slots H locs sl Q C hl hP hD hS hR hE
  subst h1
  exact lv_lstore_n C.1 C.2.1 hd hi (fl_has_kn hl) hn rfl (fun sl1 hl1 => kk p l e R s0 s m args below meth c D cI cC ad A cells slots H locs sl1 Q C (fl_has_set2 hl hok hl1) hP hD hS hR hE)
theorem lo_lstore {L : Nat} {xs : Nat → Int32} {lay : List fm_L} {d : Nat} {M : fm_Me} {Post : Option Value → fm_M → Prop} {pc : Nat} {ls : List (Option Value)} {st : List Value} {mem : fm_M} {i : Nat} {x : Int64} (hd : decode M.2.1 pc = .ok (.lstore i, 2)) (hn : i + 1 < M.2.2.1) (hok : fl_ok ls i = true) {ls1 : List (Option Value)} (h1 : (ls.set i (some (.long x))).set (i + 1) none = ls1) (kk : fl_Go L xs lay d M Post (pc + 2) ls1 st mem) : fl_Go L xs lay d M Post pc ls (.long x :: st) mem := by
  intro p l e R s0 s m args below meth c D cI cC ad A cells slots H locs sl Q C hl hP hD hS hR hE
  subst h1
  exact lv_lstore C.1 C.2.1 hd (fl_has_kn hl) hn rfl (fun sl1 hl1 => kk p l e R s0 s m args below meth c D cI cC ad A cells slots H locs sl1 Q C (fl_has_set2 hl hok hl1) hP hD hS hR hE)
theorem lo_iinc {L : Nat} {xs : Nat → Int32} {lay : List fm_L} {d : Nat} {M : fm_Me} {Post : Option Value → fm_M → Prop} {pc : Nat} {ls : List (Option Value)} {st : List Value} {mem : fm_M} {i : Nat} {n : Int} {x v : Int32} (hd : decode M.2.1 pc = .ok (.iinc i n, 3)) (hx : ls[i]? = some (some (.int x))) (hv : x + Int32.ofInt n = v) (hn : i < M.2.2.1) (hok : fl_ok ls i = true) {ls1 : List (Option Value)} (h1 : ls.set i (some (.int v)) = ls1) (kk : fl_Go L xs lay d M Post (pc + 3) ls1 st mem) : fl_Go L xs lay d M Post pc ls st mem := by
  intro p l e R s0 s m args below meth c D cI cC ad A cells slots H locs sl Q C hl hP hD hS hR hE
  subst h1
  obtain ⟨k, hk⟩ := List.getElem?_of_mem (fm_kn_in.mpr ⟨_, hx, rfl⟩ : (i, fm_cv ad (.int x)) ∈ fm_kn ad ls)
  exact lv_iinc (k := k) (x := x) C.1 C.2.1 hd (fl_has_kn hl) hk hv hn rfl (fun sl1 hl1 => kk p l e R s0 s m args below meth c D cI cC ad A cells slots H locs sl1 Q C (fl_has_set hl hok hl1) hP hD hS hR hE)
theorem lo_i2l {L : Nat} {xs : Nat → Int32} {lay : List fm_L} {d : Nat} {M : fm_Me} {Post : Option Value → fm_M → Prop} {pc : Nat} {ls : List (Option Value)} {st : List Value} {mem : fm_M} {x : Int32} (hd : decode M.2.1 pc = .ok (.i2l, 1)) (kk : fl_Go L xs lay d M Post (pc + 1) ls (.long x.toInt64 :: st) mem) : fl_Go L xs lay d M Post pc ls (.int x :: st) mem := by
  intro p l e R s0 s m args below meth c D cI cC ad A cells slots H locs sl Q C hl hP hD hS hR hE
  exact lv_i2l C.1 C.2.1 hd rfl (kk p l e R s0 s m args below meth c D cI cC ad A cells slots H locs sl Q C hl hP hD hS hR hE)
theorem lo_l2i {L : Nat} {xs : Nat → Int32} {lay : List fm_L} {d : Nat} {M : fm_Me} {Post : Option Value → fm_M → Prop} {pc : Nat} {ls : List (Option Value)} {st : List Value} {mem : fm_M} {x : Int64} (hd : decode M.2.1 pc = .ok (.l2i, 1)) (kk : fl_Go L xs lay d M Post (pc + 1) ls (.int x.toInt32 :: st) mem) : fl_Go L xs lay d M Post pc ls (.long x :: st) mem := by
  intro p l e R s0 s m args below meth c D cI cC ad A cells slots H locs sl Q C hl hP hD hS hR hE
  exact lv_l2i C.1 C.2.1 hd rfl (kk p l e R s0 s m args below meth c D cI cC ad A cells slots H locs sl Q C hl hP hD hS hR hE)
theorem lo_ladd {L : Nat} {xs : Nat → Int32} {lay : List fm_L} {d : Nat} {M : fm_Me} {Post : Option Value → fm_M → Prop} {pc : Nat} {ls : List (Option Value)} {st : List Value} {mem : fm_M} {x y : Int64} (hd : decode M.2.1 pc = .ok (.ladd, 1)) (kk : fl_Go L xs lay d M Post (pc + 1) ls (.long (x + y) :: st) mem) : fl_Go L xs lay d M Post pc ls (.long y :: .long x :: st) mem := by
  intro p l e R s0 s m args below meth c D cI cC ad A cells slots H locs sl Q C hl hP hD hS hR hE
  exact lv_ladd C.1 C.2.1 hd (kk p l e R s0 s m args below meth c D cI cC ad A cells slots H locs sl Q C hl hP hD hS hR hE)
theorem lo_lsub {L : Nat} {xs : Nat → Int32} {lay : List fm_L} {d : Nat} {M : fm_Me} {Post : Option Value → fm_M → Prop} {pc : Nat} {ls : List (Option Value)} {st : List Value} {mem : fm_M} {x y : Int64} (hd : decode M.2.1 pc = .ok (.lsub, 1)) (kk : fl_Go L xs lay d M Post (pc + 1) ls (.long (x - y) :: st) mem) : fl_Go L xs lay d M Post pc ls (.long y :: .long x :: st) mem := by
  intro p l e R s0 s m args below meth c D cI cC ad A cells slots H locs sl Q C hl hP hD hS hR hE
  exact lv_lsub C.1 C.2.1 hd (kk p l e R s0 s m args below meth c D cI cC ad A cells slots H locs sl Q C hl hP hD hS hR hE)
theorem lo_lmul {L : Nat} {xs : Nat → Int32} {lay : List fm_L} {d : Nat} {M : fm_Me} {Post : Option Value → fm_M → Prop} {pc : Nat} {ls : List (Option Value)} {st : List Value} {mem : fm_M} {x y : Int64} (hd : decode M.2.1 pc = .ok (.lmul, 1)) (kk : fl_Go L xs lay d M Post (pc + 1) ls (.long (x * y) :: st) mem) : fl_Go L xs lay d M Post pc ls (.long y :: .long x :: st) mem := by
  intro p l e R s0 s m args below meth c D cI cC ad A cells slots H locs sl Q C hl hP hD hS hR hE
  exact lv_lmul C.1 C.2.1 hd (kk p l e R s0 s m args below meth c D cI cC ad A cells slots H locs sl Q C hl hP hD hS hR hE)
theorem lo_land {L : Nat} {xs : Nat → Int32} {lay : List fm_L} {d : Nat} {M : fm_Me} {Post : Option Value → fm_M → Prop} {pc : Nat} {ls : List (Option Value)} {st : List Value} {mem : fm_M} {x y : Int64} (hd : decode M.2.1 pc = .ok (.land, 1)) (kk : fl_Go L xs lay d M Post (pc + 1) ls (.long (x &&& y) :: st) mem) : fl_Go L xs lay d M Post pc ls (.long y :: .long x :: st) mem := by
  intro p l e R s0 s m args below meth c D cI cC ad A cells slots H locs sl Q C hl hP hD hS hR hE
  exact lv_land C.1 C.2.1 hd (kk p l e R s0 s m args below meth c D cI cC ad A cells slots H locs sl Q C hl hP hD hS hR hE)
theorem lo_lshr {L : Nat} {xs : Nat → Int32} {lay : List fm_L} {d : Nat} {M : fm_Me} {Post : Option Value → fm_M → Prop} {pc : Nat} {ls : List (Option Value)} {st : List Value} {mem : fm_M} {x : Int64} {y : Int32} (hd : decode M.2.1 pc = .ok (.lshr, 1)) (kk : fl_Go L xs lay d M Post (pc + 1) ls (.long (x >>> (y.toInt64 &&& 63)) :: st) mem) : fl_Go L xs lay d M Post pc ls (.int y :: .long x :: st) mem := by
  intro p l e R s0 s m args below meth c D cI cC ad A cells slots H locs sl Q C hl hP hD hS hR hE
  exact lv_lshr C.1 C.2.1 hd rfl (kk p l e R s0 s m args below meth c D cI cC ad A cells slots H locs sl Q C hl hP hD hS hR hE)
theorem lo_lcmp {L : Nat} {xs : Nat → Int32} {lay : List fm_L} {d : Nat} {M : fm_Me} {Post : Option Value → fm_M → Prop} {pc : Nat} {ls : List (Option Value)} {st : List Value} {mem : fm_M} {x y : Int64} (hd : decode M.2.1 pc = .ok (.lcmp, 1)) (kk : fl_Go L xs lay d M Post (pc + 1) ls (.int (lg_cmp x y) :: st) mem) : fl_Go L xs lay d M Post pc ls (.long y :: .long x :: st) mem := by
  intro p l e R s0 s m args below meth c D cI cC ad A cells slots H locs sl Q C hl hP hD hS hR hE
  exact W.lcmp C.1 C.2.1 hd (kk p l e R s0 s m args below meth c D cI cC ad A cells slots H locs sl Q C hl hP hD hS hR hE)
theorem lo_pop2 {L : Nat} {xs : Nat → Int32} {lay : List fm_L} {d : Nat} {M : fm_Me} {Post : Option Value → fm_M → Prop} {pc : Nat} {ls : List (Option Value)} {st : List Value} {mem : fm_M} {x : Int64} (hd : decode M.2.1 pc = .ok (.pop2, 1)) (kk : fl_Go L xs lay d M Post (pc + 1) ls st mem) : fl_Go L xs lay d M Post pc ls (.long x :: st) mem := by
  intro p l e R s0 s m args below meth c D cI cC ad A cells slots H locs sl Q C hl hP hD hS hR hE
  exact lv_pop2_2 (va := .long x) C.1 C.2.1 hd rfl (kk p l e R s0 s m args below meth c D cI cC ad A cells slots H locs sl Q C hl hP hD hS hR hE)
theorem lo_lret {L : Nat} {xs : Nat → Int32} {lay : List fm_L} {d : Nat} {M : fm_Me} {Post : Option Value → fm_M → Prop} {pc : Nat} {ls : List (Option Value)} {mem : fm_M} {x : Int64} (hd : decode M.2.1 pc = .ok (.lreturn, 1)) (ht : M.2.2.2.1 = some .long) (hp : Post (some (.long x)) mem) : fl_Go L xs lay d M Post pc ls [.long x] mem := lo_ret (v := some (.long x)) ⟨hd, ht⟩ hp rfl
theorem lo_sld {L : Nat} {xs : Nat → Int32} {lay : List fm_L} {d : Nat} {M : fm_Me} {Post : Option Value → fm_M → Prop} {pc : Nat} {ls : List (Option Value)} {st : List Value} {mem : fm_M} {i : Int32} (hd : decode M.2.1 pc = .ok (.iaload, 1)) (hin : vp_in i L) (kk : fl_Go L xs lay d M Post (pc + 1) ls (.int (xs i.toNatClampNeg) :: st) mem) : fl_Go L xs lay d M Post pc ls (.int i :: .ref 4000 :: st) mem := by
  intro p l e R s0 s m args below meth c D cI cC ad A cells slots H locs sl Q C hl hP hD hS hR hE
  exact va_sld C.1 C.2.1 hE.1 hE.2.1 hE.2.2 hS hin hd (kk p l e R s0 s m args below meth c D cI cC ad A cells slots H locs sl Q C hl hP hD hS hR hE)
theorem lo_slen {L : Nat} {xs : Nat → Int32} {lay : List fm_L} {d : Nat} {M : fm_Me} {Post : Option Value → fm_M → Prop} {pc : Nat} {ls : List (Option Value)} {st : List Value} {mem : fm_M} (hd : decode M.2.1 pc = .ok (.arraylength, 1)) (kk : fl_Go L xs lay d M Post (pc + 1) ls (.int (Int32.ofNat L) :: st) mem) : fl_Go L xs lay d M Post pc ls (.ref 4000 :: st) mem := by
  intro p l e R s0 s m args below meth c D cI cC ad A cells slots H locs sl Q C hl hP hD hS hR hE
  exact va_slen C.1 C.2.1 hE.1 hE.2.1 hE.2.2 hS hd (kk p l e R s0 s m args below meth c D cI cC ad A cells slots H locs sl Q C hl hP hD hS hR hE)
theorem lo_getsT {L : Nat} {xs : Nat → Int32} {lay : List fm_L} {d : Nat} {M : fm_Me} {Post : Option Value → fm_M → Prop} {pc : Nat} {ls : List (Option Value)} {st : List Value} {mem : fm_M} {idx : Nat} (hd : decode M.2.1 pc = .ok (.getstatic idx, 3)) (hlink : Cond.fieldLink M.2.2.2.2 idx RL "TEXTS" "[Ljava/lang/String;" ∈ fm_G) (kk : fl_Go L xs lay d M Post (pc + 3) ls (.ref 3001 :: st) mem) : fl_Go L xs lay d M Post pc ls st mem := by
  intro p l e R s0 s m args below meth c D cI cC ad A cells slots H locs sl Q C hl hP hD hS hR hE
  exact va_gets C.1 C.2.1 C.2.2.2.2.2.2.2.2.1.2.2.2.2.1 hS C.2.2.2.2.1 (C.2.2.2.2.2.2.1 _ hlink) (fun _ h => h) hd (kk p l e R s0 s m args below meth c D cI cC ad A cells slots H locs sl Q C hl hP hD hS hR hE)
theorem lo_aaldT {L : Nat} {xs : Nat → Int32} {lay : List fm_L} {d : Nat} {M : fm_Me} {Post : Option Value → fm_M → Prop} {pc : Nat} {ls : List (Option Value)} {st : List Value} {mem : fm_M} {i : Int32} (hd : decode M.2.1 pc = .ok (.aaload, 1)) (hin : vp_in i 8) (kk : fl_Go L xs lay d M Post (pc + 1) ls (.ref (1000 + (8 + i.toNatClampNeg)) :: st) mem) : fl_Go L xs lay d M Post pc ls (.int i :: .ref 3001 :: st) mem := by
  intro p l e R s0 s m args below meth c D cI cC ad A cells slots H locs sl Q C hl hP hD hS hR hE
  exact vb_tq C.1 C.2.1 C.2.2.2.2.2.2.2.2.1.2.2.2.2.2 hS hin rfl hd (kk p l e R s0 s m args below meth c D cI cC ad A cells slots H locs sl Q C hl hP hD hS hR hE)
theorem fl_minS : Cond.static Lib.MathLoose.min_long.x ∈ fm_G := fm_mem 807 (by decide +kernel) (by decide +kernel)
theorem fl_minC : Cond.code Lib.MathLoose.min_long.x Lib.MathLoose.min_long.code 4 (some .long) ∈ fm_G := fm_mem 808 (by decide +kernel) (by decide +kernel)
theorem lo_minl {L : Nat} {xs : Nat → Int32} {lay : List fm_L} {d : Nat} {M : fm_Me} {Post : Option Value → fm_M → Prop} {pc : Nat} {ls : List (Option Value)} {st : List Value} {mem : fm_M} {idx : Nat} {x y : Int64} (hd : decode M.2.1 pc = .ok (.invokestatic idx, 3)) (hlink : Cond.methodLink M.2.2.2.2 idx Lib.MathLoose.min_long.x ∈ fm_G) (hd1 : 1 ≤ d) (hst : (st.map fun v => v.category).sum ≤ 8) (kk : fl_Go L xs lay d M Post (pc + 3) ls (.long (if y < x then y else x) :: st) mem) : fl_Go L xs lay d M Post pc ls (.long y :: .long x :: st) mem := by
  intro p l e R s0 s m args below meth c D cI cC ad A cells slots H locs sl Q C hl hP hD hS hR hE
  have hst2 := fm_st8 ad hst
  have hr := C.2.2.2.2.2.2.2.2.2.1
  exact va_mmin_long C.1 C.2.1 (C.2.2.1.trans hl.1.symm) C.2.2.2.2.1 (C.2.2.2.2.2.2.1 _ hlink) (C.2.2.2.2.2.2.1 _ fl_minS) (C.2.2.2.2.2.2.1 _ fm_minI) (C.2.2.2.2.2.2.1 _ fl_minC) (by omega) (by omega) hr.2.2.1 hr.2.2.2 hd (kk p l e R s0 s m args below meth c D cI cC ad A cells slots H locs sl Q C hl hP hD hS hR hE)
/-- what a callee of the law is -/
def fl_callee (M : fm_Me) (n : Nat) : Prop := .code M.1 M.2.1 M.2.2.1 M.2.2.2.1 ∈ fm_G ∧ .initialized M.1.cls ∈ fm_G ∧ (M.1.cls ≠ "java/lang/invoke/MethodHandle" ∧ M.1.cls ≠ "java/lang/invoke/VarHandle") ∧ (∀ sig, parseMethodDescriptor M.1.desc = some sig → n = sig.parameters.length)
theorem fl_callee_of {M : fm_Me} (n : Nat) (h1 : .code M.1 M.2.1 M.2.2.1 M.2.2.2.1 ∈ fm_G) (h2 : .initialized M.1.cls ∈ fm_G) (h3 : M.1.cls ≠ "java/lang/invoke/MethodHandle" ∧ M.1.cls ≠ "java/lang/invoke/VarHandle") (h4 : (parseMethodDescriptor M.1.desc).map (fun d => d.parameters.length) = some n) : fl_callee M n := ⟨h1, h2, h3, fun sig h => by rw [h] at h4; exact (Option.some.inj h4).symm⟩
theorem fl_words {M : fm_Me} {n : Nat} {args : Array Value} {s : State} (h : fl_callee M n) (hts : ∀ w ∈ fm_G, w.before args s = true) : ∀ w ∈ fm_ws M, ∀ (a' : Array Value) (U : State), s.WarmedH U.vm → w.before a' U = true := by
  refine pay_in hts (fun w hw => ?_)
  rcases List.mem_cons.mp hw with rfl | hw
  · exact ⟨h.1, fm_good h.1⟩
  · exact ⟨hw, fm_good hw⟩
theorem fl_callB {M : fm_Me} {n d' d idx : Nat} {own : String} {args : Array Value} {s : State} {R : Room} (h : fl_callee M n) (hts : ∀ w ∈ fm_G, w.before args s = true) (hdd : d' + 1 ≤ d) (hll : 19 + M.2.2.1 + 27 * d' ≤ 27 * d) (hR : d ≤ R.frames ∧ 27 * d ≤ R.locals) (hl : .methodLink own idx M.1 ∈ fm_G) : CallB R s args own idx M.1 M.2.1 M.2.2.1 M.2.2.2.1 (fm_ws M) (fm_rm d') 0 0 n :=
  ⟨rfl, rfl, by show d' + 1 ≤ _; omega, by show 8 + (M.2.2.1 + 11) + 27 * d' ≤ _; omega, fl_words h hts, List.mem_cons_self, hts _ h.1, hts _ h.2.1, h.2.2.1, h.2.2.2, hts _ hl⟩
theorem fl_blind {L : Nat} {xs : Nat → Int32} {D : va_G} {cI cC : ClassId} {ad : Nat → Nat} {lay : List fm_L} {mem : fm_M} {A : Nat → Prop} {sz : Nat} {as : List Value} : FrameBlind (va_Pc as (fun U => U.heap.size = sz ∧ fl_At L xs D cI cC ad lay mem A U)) := by
  intro a U g mk h
  obtain ⟨h1, h2, ⟨⟨h3, h4⟩, h5, h6, h7⟩, h8⟩ := h
  exact ⟨h1, h2, ⟨⟨va_K.moved (u := U) (U := U.calling g mk a) (Vm.Alike.refl U.vm) h3, fm_N_same (u := U) (U := U.calling g mk a) rfl h4⟩, fm_X_same h5 rfl rfl, h6, h7⟩, fm_E_same h8 rfl rfl⟩
theorem fl_X_at {b L : Nat} {xs : Nat → Int32} {U : State} {H H1 : Heap} (h : va_X b L xs U H) (e : H1[b]? = H[b]?) : va_X b L xs U H1 := by
  obtain ⟨scr, a1, a2, a3, a4, a5⟩ := h
  exact ⟨scr, e.trans a1, a2, a3, a4, a5⟩
theorem fl_pre {L : Nat} {xs : Nat → Int32} {D : va_G} {cI cC : ClassId} {ad : Nat → Nat} {lay : List fm_L} {mem : fm_M} {A : Nat → Prop} {s U : State} {H : Heap} {locs : List Loc} {as : List Value} (hK : fm_K D cI cC s) (hX : fm_X ad A s) (hP : va_P D vwCl (fm_W ad cI cC lay mem) H) (hD : va_D A (fm_W ad cI cC lay mem)) (hS : va_S A s.heap H locs) (hA : ∀ q, s.heap.size ≤ q → A q) (hE : fm_E L xs ad A s) (hU : U.heap = H) (hW : s.WarmedH U.vm) : va_Pc as (fun U => U.heap.size = H.size ∧ fl_At L xs D cI cC ad lay mem (fm_A ad lay.length H.size) U) as.toArray U := by
  obtain ⟨h1, h2, h3⟩ := fm_pre (as := as) hK hX hP hD hS hA hU hW
  refine ⟨h1, h2, h3, ?_⟩
  obtain ⟨b1, b2, b3⟩ := hE
  refine ⟨?_, ?_, fun hh => b3 (fm_Afree hD hS hA _ hh)⟩
  · rw [hU]
    exact (fl_X_at b1 (hS.2.1 _ b2 b3)).moved hW.alike
  · rw [hU]; exact Nat.lt_of_lt_of_le b2 hS.1
theorem lo_callS {L : Nat} {xs : Nat → Int32} {lay : List fm_L} {d : Nat} {M : fm_Me} {Post : Option Value → fm_M → Prop} {pc : Nat} {ls : List (Option Value)} {st : List Value} {mem : fm_M} {M2 : fm_Me} {d2 n idx : Nat} {As st0 : List Value} {mem1 : fm_M} {PostC : Option Value → fm_M → Prop} (hd : decode M.2.1 pc = .ok (.invokestatic idx, 3)) (hcal : fl_Met L xs lay d2 M2 As mem PostC) (hdd : d2 + 1 ≤ d) (hll : 19 + M2.2.2.1 + 27 * d2 ≤ 27 * d) (hce : fl_callee M2 n) (hlk : Cond.methodLink M.2.2.2.2 idx M2.1 ∈ fm_G) (hsta : Cond.static M2.1 ∈ fm_G) (hn : As.length = n) (hst : (st.map fun v => v.category).sum ≤ 8) (hs0 : st0 = As.reverse ++ st) (kk : ∀ v mem2, PostC v mem2 → fl_Go L xs lay d M Post (pc + 3) ls (v.toList ++ st) mem2) : fl_Go L xs lay d M Post pc ls st0 mem := by
  intro p l e R s0 s m args below meth c D cI cC ad A cells slots H locs sl Q C hl hP hD hS hR hE
  subst hs0
  have hr := C.2.2.2.2.2.2.2.2.2.1
  have hts := C.2.2.2.2.2.2.1
  have hrun := va_runS (e := e) (R := R) (p := p) (l := l) (args := args) (c := c) (H := H) (locs := locs) (cells := cells) (slots := slots) (below := below) (meth := meth) (rest := st.map (fm_cv ad)) (As := As.map (fm_cv ad)) (g := F0 m pc sl ((As.reverse ++ st).map (fm_cv ad))) ⟨C.1, C.2.1, C.2.2.1, C.2.2.2.2.1, hts⟩ (hcal l D cI cC ad H.size) ⟨fl_callB hce hts hdd hll ⟨hr.1, hr.2.1⟩ hlk, hts _ hsta⟩
    ⟨fl_blind, fun U hU hW => fl_pre C.2.2.2.2.2.2.2.1 C.2.2.2.2.2.2.2.2.1 hP hD hS C.2.2.2.2.2.2.2.2.2.2.1 hE hU hW⟩ rfl (by rw [List.length_map]; exact hn) hl.1 (by show List.map _ _ = _; rw [List.map_append, List.map_reverse]) (by show 2 * 0 + _ ≤ 8; have := fm_st8 ad hst; omega) hd ⟨hr.2.2.1, hr.2.2.2⟩
  refine fm_back hrun C.2.2.2.2.2.2.2.2.2.2.2 hS (fm_Afree hD hS C.2.2.2.2.2.2.2.2.2.2.1) (fun v mem' H1 locs1 s1 hs1 hvm hhp hw hpost hP1 hS1 => ?_)
  obtain ⟨a1, a2, a3, a4, a5, a6, a7, a8, a9, a10, a11, a12⟩ := C
  have hsame : s.vm.Alike s1.vm := by rw [hvm]; exact Vm.Alike.refl _
  have C1 : fm_C d M p R s0 s1 m args meth c D cI cC ad A cells slots := ⟨a1, a2, a3, a4, by rw [hvm]; exact a5, a6, fun w hw1 => hw w (a7 w hw1), ⟨va_K.moved hsame a8.1, fm_N_same hvm.symm a8.2⟩, fm_X_same a9 hvm.symm hhp.symm, a10, by rw [hhp]; exact a11, hs1⟩
  have key := kk v mem' hpost p l e R s0 s1 m args below meth c D cI cC ad A cells slots H1 locs1 sl Q C1 hl hP1 (fm_D_mem hD) hS1 hR (fm_E_same hE hvm.symm hhp.symm)
  have e1 : ((v.toList ++ st).map (fm_cv ad)) = (v.map (fm_cv ad)).toList ++ st.map (fm_cv ad) := by cases v <;> rfl
  rw [e1] at key
  exact key
abbrev fm_pj (r : Int64) (m : fm_M) : Option Value → fm_M → Prop := fun v m2 => v = some (.long r) ∧ m2 = m
theorem lo_callSi {L : Nat} {xs : Nat → Int32} {lay : List fm_L} {d : Nat} {M : fm_Me} {Post : Option Value → fm_M → Prop} {pc : Nat} {ls : List (Option Value)} {st : List Value} {mem : fm_M} {M2 : fm_Me} {d2 n idx : Nat} {As st0 : List Value} {m2 : fm_M} {r : Int32} (hd : decode M.2.1 pc = .ok (.invokestatic idx, 3)) (hcal : fl_Met L xs lay d2 M2 As mem (fm_pi r m2)) (hdd : d2 + 1 ≤ d) (hll : 19 + M2.2.2.1 + 27 * d2 ≤ 27 * d) (hce : fl_callee M2 n) (hlk : Cond.methodLink M.2.2.2.2 idx M2.1 ∈ fm_G) (hsta : Cond.static M2.1 ∈ fm_G) (hn : As.length = n) (hst : (st.map fun v => v.category).sum ≤ 8) (hs0 : st0 = As.reverse ++ st) (kk : fl_Go L xs lay d M Post (pc + 3) ls (.int r :: st) m2) : fl_Go L xs lay d M Post pc ls st0 mem := lo_callS (mem1 := mem) hd hcal hdd hll hce hlk hsta hn hst hs0 (fun v mem2 hv => by obtain ⟨rfl, rfl⟩ := hv; exact kk)
theorem lo_callSj {L : Nat} {xs : Nat → Int32} {lay : List fm_L} {d : Nat} {M : fm_Me} {Post : Option Value → fm_M → Prop} {pc : Nat} {ls : List (Option Value)} {st : List Value} {mem : fm_M} {M2 : fm_Me} {d2 n idx : Nat} {As st0 : List Value} {m2 : fm_M} {r : Int64} (hd : decode M.2.1 pc = .ok (.invokestatic idx, 3)) (hcal : fl_Met L xs lay d2 M2 As mem (fm_pj r m2)) (hdd : d2 + 1 ≤ d) (hll : 19 + M2.2.2.1 + 27 * d2 ≤ 27 * d) (hce : fl_callee M2 n) (hlk : Cond.methodLink M.2.2.2.2 idx M2.1 ∈ fm_G) (hsta : Cond.static M2.1 ∈ fm_G) (hn : As.length = n) (hst : (st.map fun v => v.category).sum ≤ 8) (hs0 : st0 = As.reverse ++ st) (kk : fl_Go L xs lay d M Post (pc + 3) ls (.long r :: st) m2) : fl_Go L xs lay d M Post pc ls st0 mem := lo_callS (mem1 := mem) hd hcal hdd hll hce hlk hsta hn hst hs0 (fun v mem2 hv => by obtain ⟨rfl, rfl⟩ := hv; exact kk)

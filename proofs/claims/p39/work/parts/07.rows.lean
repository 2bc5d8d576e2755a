theorem fm_minS : Cond.static Lib.Math.min.name ∈ fm_G := fm_mem 207 (by decide +kernel) (by decide +kernel)
theorem fm_minI : Cond.initialized "java/lang/Math" ∈ fm_G := fm_mem 27 (by decide +kernel) (by decide +kernel)
theorem fm_minC : Cond.code Lib.Math.min.name Lib.Math.min.code 2 (some .int) ∈ fm_G := fm_mem 208 (by decide +kernel) (by decide +kernel)
theorem fm_maxS : Cond.static Lib.Math.max.name ∈ fm_G := fm_mem 141 (by decide +kernel) (by decide +kernel)
theorem fm_maxC : Cond.code Lib.Math.max.name Lib.Math.max.code 2 (some .int) ∈ fm_G := fm_mem 142 (by decide +kernel) (by decide +kernel)
theorem fm_cpyN : Cond.native arraycopyName ∈ fm_G := fm_mem 211 (by decide +kernel) (by decide +kernel)
theorem fm_cpyS : Cond.static arraycopyName ∈ fm_G := fm_mem 210 (by decide +kernel) (by decide +kernel)
theorem fm_cpyI : Cond.initialized "java/lang/System" ∈ fm_G := fm_mem 28 (by decide +kernel) (by decide +kernel)
theorem go_iconst {lay : List fm_L} {d : Nat} {M : fm_Me} {Post : Option Value → fm_M → Prop} {pc : Nat} {ls : List (Option Value)} {st : List Value} {mem : fm_M} {n : Int} {v : Int32} (hd : decode M.2.1 pc = .ok (.iconst n, 1)) (hv : Int32.ofInt n = v) (kk : fm_Go lay d M Post (pc + 1) ls (.int v :: st) mem) : fm_Go lay d M Post pc ls st mem := by
  intro p l e R s0 s m args below meth c D cI cC ad A cells slots H locs sl Q C hl hP hD hS hR
  exact lv_iconst C.1 C.2.1 hd hv (kk p l e R s0 s m args below meth c D cI cC ad A cells slots H locs sl Q C hl hP hD hS hR)
theorem go_bipush {lay : List fm_L} {d : Nat} {M : fm_Me} {Post : Option Value → fm_M → Prop} {pc : Nat} {ls : List (Option Value)} {st : List Value} {mem : fm_M} {n : Int} {v : Int32} (hd : decode M.2.1 pc = .ok (.bipush n, 2)) (hv : (Int8.ofInt n).toInt32 = v) (kk : fm_Go lay d M Post (pc + 2) ls (.int v :: st) mem) : fm_Go lay d M Post pc ls st mem := by
  intro p l e R s0 s m args below meth c D cI cC ad A cells slots H locs sl Q C hl hP hD hS hR
  exact lv_bipush C.1 C.2.1 hd hv (kk p l e R s0 s m args below meth c D cI cC ad A cells slots H locs sl Q C hl hP hD hS hR)
theorem go_sipush {lay : List fm_L} {d : Nat} {M : fm_Me} {Post : Option Value → fm_M → Prop} {pc : Nat} {ls : List (Option Value)} {st : List Value} {mem : fm_M} {n : Int} {v : Int32} (hd : decode M.2.1 pc = .ok (.sipush n, 3)) (hv : (Int16.ofInt n).toInt32 = v) (kk : fm_Go lay d M Post (pc + 3) ls (.int v :: st) mem) : fm_Go lay d M Post pc ls st mem := by
  intro p l e R s0 s m args below meth c D cI cC ad A cells slots H locs sl Q C hl hP hD hS hR
  exact lv_sipush C.1 C.2.1 hd hv (kk p l e R s0 s m args below meth c D cI cC ad A cells slots H locs sl Q C hl hP hD hS hR)
theorem go_iload_n {lay : List fm_L} {d : Nat} {M : fm_Me} {Post : Option Value → fm_M → Prop} {pc : Nat} {ls : List (Option Value)} {st : List Value} {mem : fm_M} {k : Fin 4} {i : Nat} {x : Int32} (hd : decode M.2.1 pc = .ok (.iload_n k, 1)) (hi : (k : Nat) = i) (hv : ls[i]? = some (some (.int x))) (kk : fm_Go lay d M Post (pc + 1) ls (.int x :: st) mem) : fm_Go lay d M Post pc ls st mem := by
  intro p l e R s0 s m args below meth c D cI cC ad A cells slots H locs sl Q C hl hP hD hS hR
  exact lv_iload_n C.1 C.2.1 hd hi (hl.2.2 _ _ hv).2 (kk p l e R s0 s m args below meth c D cI cC ad A cells slots H locs sl Q C hl hP hD hS hR)
theorem go_iload {lay : List fm_L} {d : Nat} {M : fm_Me} {Post : Option Value → fm_M → Prop} {pc : Nat} {ls : List (Option Value)} {st : List Value} {mem : fm_M} {i : Nat} {x : Int32} (hd : decode M.2.1 pc = .ok (.iload i, 2)) (hv : ls[i]? = some (some (.int x))) (kk : fm_Go lay d M Post (pc + 2) ls (.int x :: st) mem) : fm_Go lay d M Post pc ls st mem := by
  intro p l e R s0 s m args below meth c D cI cC ad A cells slots H locs sl Q C hl hP hD hS hR
  exact lv_iload C.1 C.2.1 hd (hl.2.2 _ _ hv).2 (kk p l e R s0 s m args below meth c D cI cC ad A cells slots H locs sl Q C hl hP hD hS hR)
theorem go_aload_n {lay : List fm_L} {d : Nat} {M : fm_Me} {Post : Option Value → fm_M → Prop} {pc : Nat} {ls : List (Option Value)} {st : List Value} {mem : fm_M} {k : Fin 4} {i : Nat} {x : Nat} (hd : decode M.2.1 pc = .ok (.aload_n k, 1)) (hi : (k : Nat) = i) (hv : ls[i]? = some (some (.ref x))) (kk : fm_Go lay d M Post (pc + 1) ls (.ref x :: st) mem) : fm_Go lay d M Post pc ls st mem := by
  intro p l e R s0 s m args below meth c D cI cC ad A cells slots H locs sl Q C hl hP hD hS hR
  exact lv_aload_n C.1 C.2.1 hd hi (hl.2.2 _ _ hv).2 (kk p l e R s0 s m args below meth c D cI cC ad A cells slots H locs sl Q C hl hP hD hS hR)
theorem go_aload {lay : List fm_L} {d : Nat} {M : fm_Me} {Post : Option Value → fm_M → Prop} {pc : Nat} {ls : List (Option Value)} {st : List Value} {mem : fm_M} {i : Nat} {x : Nat} (hd : decode M.2.1 pc = .ok (.aload i, 2)) (hv : ls[i]? = some (some (.ref x))) (kk : fm_Go lay d M Post (pc + 2) ls (.ref x :: st) mem) : fm_Go lay d M Post pc ls st mem := by
  intro p l e R s0 s m args below meth c D cI cC ad A cells slots H locs sl Q C hl hP hD hS hR
  exact lv_aload C.1 C.2.1 hd (hl.2.2 _ _ hv).2 (kk p l e R s0 s m args below meth c D cI cC ad A cells slots H locs sl Q C hl hP hD hS hR)
/-- the locals that are known, as the kit's rows take them -/
def fm_kn (ad : Nat → Nat) (ls : List (Option Value)) : List (Nat × Value) := ((List.range ls.length).filterMap (fun i => match ls[i]? with | some (some v) => some (i, fm_cv ad v) | _ => none))
theorem fm_kn_in {ad : Nat → Nat} {ls : List (Option Value)} {i : Nat} {w : Value} : (i, w) ∈ fm_kn ad ls ↔ ∃ v, ls[i]? = some (some v) ∧ w = fm_cv ad v := by
  unfold fm_kn
  rw [List.mem_filterMap]
  constructor
  · rintro ⟨j, hj, h⟩
    cases hq : ls[j]? with
    | none => rw [hq] at h; cases h
    | some o =>
      cases o with
      | none => rw [hq] at h; cases h
      | some v =>
        rw [hq] at h
        cases h
        exact ⟨v, hq, rfl⟩
  · rintro ⟨v, h, rfl⟩
    exact ⟨i, List.mem_range.mpr (List.getElem?_eq_some_iff.mp h).1, by rw [h]⟩
theorem fm_has_kn {ad : Nat → Nat} {nL : Nat} {sl : Array Slot} {ls : List (Option Value)} (h : fm_has ad nL sl ls) : lv_has sl nL (fm_kn ad ls) := by
  refine ⟨h.1, h.2.1, fun q hq => ?_⟩
  obtain ⟨i, w⟩ := q
  obtain ⟨v, h1, rfl⟩ := fm_kn_in.mp hq
  exact (h.2.2 i v h1).2
theorem fm_has_set {ad : Nat → Nat} {nL : Nat} {sl sl' : Array Slot} {ls : List (Option Value)} {i : Nat} {v : Value} (h : fm_has ad nL sl ls) (hv : v.category = 1) (h' : lv_has sl' nL ((i, fm_cv ad v) :: (fm_kn ad ls).filter (fun q => !(q.1 == i) && !(q.1 + 1 == i && q.2.category == 2)))) : fm_has ad nL sl' (ls.set i (some v)) := by
  refine ⟨h'.1, h'.2.1, fun j w hj => ?_⟩
  rw [List.getElem?_set] at hj
  split at hj
  next e =>
    subst e
    split at hj
    next => cases hj; exact ⟨hv, h'.2.2 _ List.mem_cons_self⟩
    next => cases hj
  next e =>
    have h1 := h.2.2 j w hj
    refine ⟨h1.1, h'.2.2 (j, fm_cv ad w) (List.mem_cons_of_mem _ (List.mem_filter.mpr ⟨fm_kn_in.mpr ⟨w, hj, rfl⟩, ?_⟩))⟩
    have e1 : (j == i) = false := by simp only [beq_eq_false_iff_ne]; exact fun z => e z.symm
    have e2 : ((fm_cv ad w).category == 2) = false := by rw [fm_cv_cat, h1.1]; rfl
    simp [e1, e2]
theorem go_istore_n {lay : List fm_L} {d : Nat} {M : fm_Me} {Post : Option Value → fm_M → Prop} {pc : Nat} {ls : List (Option Value)} {st : List Value} {mem : fm_M} {k : Fin 4} {i : Nat} {x : Int32} (hd : decode M.2.1 pc = .ok (.istore_n k, 1)) (hi : (k : Nat) = i) (hn : i < M.2.2.1) {ls1 : List (Option Value)} (h1 : ls.set i (some (.int x)) = ls1) (kk : fm_Go lay d M Post (pc + 1) ls1 st mem) : fm_Go lay d M Post pc ls (.int x :: st) mem := by
  intro p l e R s0 s m args below meth c D cI cC ad A cells slots H locs sl Q C hl hP hD hS hR
  subst h1
  exact lv_istore_n C.1 C.2.1 hd hi (fm_has_kn hl) hn rfl (fun sl1 hl1 => kk p l e R s0 s m args below meth c D cI cC ad A cells slots H locs sl1 Q C (fm_has_set hl rfl hl1) hP hD hS hR)
theorem go_istore {lay : List fm_L} {d : Nat} {M : fm_Me} {Post : Option Value → fm_M → Prop} {pc : Nat} {ls : List (Option Value)} {st : List Value} {mem : fm_M} {i : Nat} {x : Int32} (hd : decode M.2.1 pc = .ok (.istore i, 2)) (hn : i < M.2.2.1) {ls1 : List (Option Value)} (h1 : ls.set i (some (.int x)) = ls1) (kk : fm_Go lay d M Post (pc + 2) ls1 st mem) : fm_Go lay d M Post pc ls (.int x :: st) mem := by
  intro p l e R s0 s m args below meth c D cI cC ad A cells slots H locs sl Q C hl hP hD hS hR
  subst h1
  exact lv_istore C.1 C.2.1 hd (fm_has_kn hl) hn rfl (fun sl1 hl1 => kk p l e R s0 s m args below meth c D cI cC ad A cells slots H locs sl1 Q C (fm_has_set hl rfl hl1) hP hD hS hR)
theorem go_astore_n {lay : List fm_L} {d : Nat} {M : fm_Me} {Post : Option Value → fm_M → Prop} {pc : Nat} {ls : List (Option Value)} {st : List Value} {mem : fm_M} {k : Fin 4} {i : Nat} {x : Nat} (hd : decode M.2.1 pc = .ok (.astore_n k, 1)) (hi : (k : Nat) = i) (hn : i < M.2.2.1) {ls1 : List (Option Value)} (h1 : ls.set i (some (.ref x)) = ls1) (kk : fm_Go lay d M Post (pc + 1) ls1 st mem) : fm_Go lay d M Post pc ls (.ref x :: st) mem := by
  intro p l e R s0 s m args below meth c D cI cC ad A cells slots H locs sl Q C hl hP hD hS hR
  subst h1
  exact lv_astore_n C.1 C.2.1 hd hi (fm_has_kn hl) hn rfl (fun sl1 hl1 => kk p l e R s0 s m args below meth c D cI cC ad A cells slots H locs sl1 Q C (fm_has_set hl rfl hl1) hP hD hS hR)
theorem go_astore {lay : List fm_L} {d : Nat} {M : fm_Me} {Post : Option Value → fm_M → Prop} {pc : Nat} {ls : List (Option Value)} {st : List Value} {mem : fm_M} {i : Nat} {x : Nat} (hd : decode M.2.1 pc = .ok (.astore i, 2)) (hn : i < M.2.2.1) {ls1 : List (Option Value)} (h1 : ls.set i (some (.ref x)) = ls1) (kk : fm_Go lay d M Post (pc + 2) ls1 st mem) : fm_Go lay d M Post pc ls (.ref x :: st) mem := by
  intro p l e R s0 s m args below meth c D cI cC ad A cells slots H locs sl Q C hl hP hD hS hR
  subst h1
  exact lv_astore C.1 C.2.1 hd (fm_has_kn hl) hn rfl (fun sl1 hl1 => kk p l e R s0 s m args below meth c D cI cC ad A cells slots H locs sl1 Q C (fm_has_set hl rfl hl1) hP hD hS hR)
theorem go_iinc {lay : List fm_L} {d : Nat} {M : fm_Me} {Post : Option Value → fm_M → Prop} {pc : Nat} {ls : List (Option Value)} {st : List Value} {mem : fm_M} {i : Nat} {n : Int} {x v : Int32} (hd : decode M.2.1 pc = .ok (.iinc i n, 3)) (hx : ls[i]? = some (some (.int x))) (hv : x + Int32.ofInt n = v) (hn : i < M.2.2.1) {ls1 : List (Option Value)} (h1 : ls.set i (some (.int v)) = ls1) (kk : fm_Go lay d M Post (pc + 3) ls1 st mem) : fm_Go lay d M Post pc ls st mem := by
  intro p l e R s0 s m args below meth c D cI cC ad A cells slots H locs sl Q C hl hP hD hS hR
  subst h1
  obtain ⟨k, hk⟩ := List.getElem?_of_mem (fm_kn_in.mpr ⟨_, hx, rfl⟩ : (i, fm_cv ad (.int x)) ∈ fm_kn ad ls)
  exact lv_iinc (k := k) (x := x) C.1 C.2.1 hd (fm_has_kn hl) hk hv hn rfl (fun sl1 hl1 => kk p l e R s0 s m args below meth c D cI cC ad A cells slots H locs sl1 Q C (fm_has_set hl rfl hl1) hP hD hS hR)
theorem go_iadd {lay : List fm_L} {d : Nat} {M : fm_Me} {Post : Option Value → fm_M → Prop} {pc : Nat} {ls : List (Option Value)} {st : List Value} {mem : fm_M} {x y : Int32} (hd : decode M.2.1 pc = .ok (.iadd, 1)) (kk : fm_Go lay d M Post (pc + 1) ls (.int (x + y) :: st) mem) : fm_Go lay d M Post pc ls (.int y :: .int x :: st) mem := by
  intro p l e R s0 s m args below meth c D cI cC ad A cells slots H locs sl Q C hl hP hD hS hR
  exact lv_iadd C.1 C.2.1 hd (kk p l e R s0 s m args below meth c D cI cC ad A cells slots H locs sl Q C hl hP hD hS hR)
theorem go_isub {lay : List fm_L} {d : Nat} {M : fm_Me} {Post : Option Value → fm_M → Prop} {pc : Nat} {ls : List (Option Value)} {st : List Value} {mem : fm_M} {x y : Int32} (hd : decode M.2.1 pc = .ok (.isub, 1)) (kk : fm_Go lay d M Post (pc + 1) ls (.int (x - y) :: st) mem) : fm_Go lay d M Post pc ls (.int y :: .int x :: st) mem := by
  intro p l e R s0 s m args below meth c D cI cC ad A cells slots H locs sl Q C hl hP hD hS hR
  exact lv_isub C.1 C.2.1 hd (kk p l e R s0 s m args below meth c D cI cC ad A cells slots H locs sl Q C hl hP hD hS hR)
theorem go_imul {lay : List fm_L} {d : Nat} {M : fm_Me} {Post : Option Value → fm_M → Prop} {pc : Nat} {ls : List (Option Value)} {st : List Value} {mem : fm_M} {x y : Int32} (hd : decode M.2.1 pc = .ok (.imul, 1)) (kk : fm_Go lay d M Post (pc + 1) ls (.int (x * y) :: st) mem) : fm_Go lay d M Post pc ls (.int y :: .int x :: st) mem := by
  intro p l e R s0 s m args below meth c D cI cC ad A cells slots H locs sl Q C hl hP hD hS hR
  exact lv_imul C.1 C.2.1 hd (kk p l e R s0 s m args below meth c D cI cC ad A cells slots H locs sl Q C hl hP hD hS hR)
theorem go_iand {lay : List fm_L} {d : Nat} {M : fm_Me} {Post : Option Value → fm_M → Prop} {pc : Nat} {ls : List (Option Value)} {st : List Value} {mem : fm_M} {x y : Int32} (hd : decode M.2.1 pc = .ok (.iand, 1)) (kk : fm_Go lay d M Post (pc + 1) ls (.int (x &&& y) :: st) mem) : fm_Go lay d M Post pc ls (.int y :: .int x :: st) mem := by
  intro p l e R s0 s m args below meth c D cI cC ad A cells slots H locs sl Q C hl hP hD hS hR
  exact lv_iand C.1 C.2.1 hd (kk p l e R s0 s m args below meth c D cI cC ad A cells slots H locs sl Q C hl hP hD hS hR)
theorem go_ior {lay : List fm_L} {d : Nat} {M : fm_Me} {Post : Option Value → fm_M → Prop} {pc : Nat} {ls : List (Option Value)} {st : List Value} {mem : fm_M} {x y : Int32} (hd : decode M.2.1 pc = .ok (.ior, 1)) (kk : fm_Go lay d M Post (pc + 1) ls (.int (x ||| y) :: st) mem) : fm_Go lay d M Post pc ls (.int y :: .int x :: st) mem := by
  intro p l e R s0 s m args below meth c D cI cC ad A cells slots H locs sl Q C hl hP hD hS hR
  exact lv_ior C.1 C.2.1 hd (kk p l e R s0 s m args below meth c D cI cC ad A cells slots H locs sl Q C hl hP hD hS hR)
theorem go_ishl {lay : List fm_L} {d : Nat} {M : fm_Me} {Post : Option Value → fm_M → Prop} {pc : Nat} {ls : List (Option Value)} {st : List Value} {mem : fm_M} {x y : Int32} (hd : decode M.2.1 pc = .ok (.ishl, 1)) (kk : fm_Go lay d M Post (pc + 1) ls (.int (x <<< (y &&& 31)) :: st) mem) : fm_Go lay d M Post pc ls (.int y :: .int x :: st) mem := by
  intro p l e R s0 s m args below meth c D cI cC ad A cells slots H locs sl Q C hl hP hD hS hR
  exact lv_ishl C.1 C.2.1 hd (kk p l e R s0 s m args below meth c D cI cC ad A cells slots H locs sl Q C hl hP hD hS hR)
theorem go_ishr {lay : List fm_L} {d : Nat} {M : fm_Me} {Post : Option Value → fm_M → Prop} {pc : Nat} {ls : List (Option Value)} {st : List Value} {mem : fm_M} {x y : Int32} (hd : decode M.2.1 pc = .ok (.ishr, 1)) (kk : fm_Go lay d M Post (pc + 1) ls (.int (x >>> (y &&& 31)) :: st) mem) : fm_Go lay d M Post pc ls (.int y :: .int x :: st) mem := by
  intro p l e R s0 s m args below meth c D cI cC ad A cells slots H locs sl Q C hl hP hD hS hR
  exact lv_ishr C.1 C.2.1 hd (kk p l e R s0 s m args below meth c D cI cC ad A cells slots H locs sl Q C hl hP hD hS hR)
theorem go_idiv {lay : List fm_L} {d : Nat} {M : fm_Me} {Post : Option Value → fm_M → Prop} {pc : Nat} {ls : List (Option Value)} {st : List Value} {mem : fm_M} {x y : Int32} (hd : decode M.2.1 pc = .ok (.idiv, 1)) (hne : ¬ y = 0) (kk : fm_Go lay d M Post (pc + 1) ls (.int (x / y) :: st) mem) : fm_Go lay d M Post pc ls (.int y :: .int x :: st) mem := by
  intro p l e R s0 s m args below meth c D cI cC ad A cells slots H locs sl Q C hl hP hD hS hR
  exact lv_idiv C.1 C.2.1 hd hne (kk p l e R s0 s m args below meth c D cI cC ad A cells slots H locs sl Q C hl hP hD hS hR)
theorem go_irem {lay : List fm_L} {d : Nat} {M : fm_Me} {Post : Option Value → fm_M → Prop} {pc : Nat} {ls : List (Option Value)} {st : List Value} {mem : fm_M} {x y : Int32} (hd : decode M.2.1 pc = .ok (.irem, 1)) (hne : ¬ y = 0) (kk : fm_Go lay d M Post (pc + 1) ls (.int (x - x / y * y) :: st) mem) : fm_Go lay d M Post pc ls (.int y :: .int x :: st) mem := by
  intro p l e R s0 s m args below meth c D cI cC ad A cells slots H locs sl Q C hl hP hD hS hR
  exact lv_irem C.1 C.2.1 hd hne (kk p l e R s0 s m args below meth c D cI cC ad A cells slots H locs sl Q C hl hP hD hS hR)
theorem go_i2c {lay : List fm_L} {d : Nat} {M : fm_Me} {Post : Option Value → fm_M → Prop} {pc : Nat} {ls : List (Option Value)} {st : List Value} {mem : fm_M} {x : Int32} (hd : decode M.2.1 pc = .ok (.i2c, 1)) (kk : fm_Go lay d M Post (pc + 1) ls (.int (x.toUInt32 % 65536).toInt32 :: st) mem) : fm_Go lay d M Post pc ls (.int x :: st) mem := by
  intro p l e R s0 s m args below meth c D cI cC ad A cells slots H locs sl Q C hl hP hD hS hR
  exact lv_i2c C.1 C.2.1 hd rfl (kk p l e R s0 s m args below meth c D cI cC ad A cells slots H locs sl Q C hl hP hD hS hR)
theorem go_dup {lay : List fm_L} {d : Nat} {M : fm_Me} {Post : Option Value → fm_M → Prop} {pc : Nat} {ls : List (Option Value)} {st : List Value} {mem : fm_M} {v : Value} (hd : decode M.2.1 pc = .ok (.dup, 1)) (hv : v.category = 1) (kk : fm_Go lay d M Post (pc + 1) ls (v :: v :: st) mem) : fm_Go lay d M Post pc ls (v :: st) mem := by
  intro p l e R s0 s m args below meth c D cI cC ad A cells slots H locs sl Q C hl hP hD hS hR
  exact lv_dup C.1 C.2.1 hd (by rw [fm_cv_cat]; exact hv) (kk p l e R s0 s m args below meth c D cI cC ad A cells slots H locs sl Q C hl hP hD hS hR)
theorem go_pop {lay : List fm_L} {d : Nat} {M : fm_Me} {Post : Option Value → fm_M → Prop} {pc : Nat} {ls : List (Option Value)} {st : List Value} {mem : fm_M} {v : Value} (hd : decode M.2.1 pc = .ok (.pop, 1)) (hv : v.category = 1) (kk : fm_Go lay d M Post (pc + 1) ls st mem) : fm_Go lay d M Post pc ls (v :: st) mem := by
  intro p l e R s0 s m args below meth c D cI cC ad A cells slots H locs sl Q C hl hP hD hS hR
  exact lv_pop C.1 C.2.1 hd (by rw [fm_cv_cat]; exact hv) (kk p l e R s0 s m args below meth c D cI cC ad A cells slots H locs sl Q C hl hP hD hS hR)
theorem go_dup2 {lay : List fm_L} {d : Nat} {M : fm_Me} {Post : Option Value → fm_M → Prop} {pc : Nat} {ls : List (Option Value)} {st : List Value} {mem : fm_M} {v w : Value} (hd : decode M.2.1 pc = .ok (.dup2, 1)) (hv : v.category = 1) (hw : w.category = 1) (kk : fm_Go lay d M Post (pc + 1) ls (v :: w :: v :: w :: st) mem) : fm_Go lay d M Post pc ls (v :: w :: st) mem := by
  intro p l e R s0 s m args below meth c D cI cC ad A cells slots H locs sl Q C hl hP hD hS hR
  exact lv_dup2_11 C.1 C.2.1 hd (by rw [fm_cv_cat]; exact hv) (by rw [fm_cv_cat]; exact hw) (kk p l e R s0 s m args below meth c D cI cC ad A cells slots H locs sl Q C hl hP hD hS hR)
theorem go_if_eq {lay : List fm_L} {d : Nat} {M : fm_Me} {Post : Option Value → fm_M → Prop} {pc : Nat} {ls : List (Option Value)} {st : List Value} {mem : fm_M} {x : Int32} {off : Int} {tgt : Nat} (hd : decode M.2.1 pc = .ok (.ifCond .eq off, 3)) (ht : (pc : Int) + off = (tgt : Int)) (kt : x = 0 → fm_Go lay d M Post tgt ls st mem) (kf : ¬ x = 0 → fm_Go lay d M Post (pc + 3) ls st mem) : fm_Go lay d M Post pc ls (.int x :: st) mem := by
  intro p l e R s0 s m args below meth c D cI cC ad A cells slots H locs sl Q C hl hP hD hS hR
  exact lv_if_eq C.1 C.2.1 hd ht (fun z => kt z p l e R s0 s m args below meth c D cI cC ad A cells slots H locs sl Q C hl hP hD hS hR) (fun z => kf z p l e R s0 s m args below meth c D cI cC ad A cells slots H locs sl Q C hl hP hD hS hR)
theorem go_if_ne {lay : List fm_L} {d : Nat} {M : fm_Me} {Post : Option Value → fm_M → Prop} {pc : Nat} {ls : List (Option Value)} {st : List Value} {mem : fm_M} {x : Int32} {off : Int} {tgt : Nat} (hd : decode M.2.1 pc = .ok (.ifCond .ne off, 3)) (ht : (pc : Int) + off = (tgt : Int)) (kt : ¬ x = 0 → fm_Go lay d M Post tgt ls st mem) (kf : x = 0 → fm_Go lay d M Post (pc + 3) ls st mem) : fm_Go lay d M Post pc ls (.int x :: st) mem := by
  intro p l e R s0 s m args below meth c D cI cC ad A cells slots H locs sl Q C hl hP hD hS hR
  exact lv_if_ne C.1 C.2.1 hd ht (fun z => kt z p l e R s0 s m args below meth c D cI cC ad A cells slots H locs sl Q C hl hP hD hS hR) (fun z => kf z p l e R s0 s m args below meth c D cI cC ad A cells slots H locs sl Q C hl hP hD hS hR)
theorem go_if_lt {lay : List fm_L} {d : Nat} {M : fm_Me} {Post : Option Value → fm_M → Prop} {pc : Nat} {ls : List (Option Value)} {st : List Value} {mem : fm_M} {x : Int32} {off : Int} {tgt : Nat} (hd : decode M.2.1 pc = .ok (.ifCond .lt off, 3)) (ht : (pc : Int) + off = (tgt : Int)) (kt : x < 0 → fm_Go lay d M Post tgt ls st mem) (kf : ¬ x < 0 → fm_Go lay d M Post (pc + 3) ls st mem) : fm_Go lay d M Post pc ls (.int x :: st) mem := by
  intro p l e R s0 s m args below meth c D cI cC ad A cells slots H locs sl Q C hl hP hD hS hR
  exact lv_if_lt C.1 C.2.1 hd ht (fun z => kt z p l e R s0 s m args below meth c D cI cC ad A cells slots H locs sl Q C hl hP hD hS hR) (fun z => kf z p l e R s0 s m args below meth c D cI cC ad A cells slots H locs sl Q C hl hP hD hS hR)
theorem go_if_ge {lay : List fm_L} {d : Nat} {M : fm_Me} {Post : Option Value → fm_M → Prop} {pc : Nat} {ls : List (Option Value)} {st : List Value} {mem : fm_M} {x : Int32} {off : Int} {tgt : Nat} (hd : decode M.2.1 pc = .ok (.ifCond .ge off, 3)) (ht : (pc : Int) + off = (tgt : Int)) (kt : 0 ≤ x → fm_Go lay d M Post tgt ls st mem) (kf : ¬ 0 ≤ x → fm_Go lay d M Post (pc + 3) ls st mem) : fm_Go lay d M Post pc ls (.int x :: st) mem := by
  intro p l e R s0 s m args below meth c D cI cC ad A cells slots H locs sl Q C hl hP hD hS hR
  exact lv_if_ge C.1 C.2.1 hd ht (fun z => kt z p l e R s0 s m args below meth c D cI cC ad A cells slots H locs sl Q C hl hP hD hS hR) (fun z => kf z p l e R s0 s m args below meth c D cI cC ad A cells slots H locs sl Q C hl hP hD hS hR)
theorem go_if_gt {lay : List fm_L} {d : Nat} {M : fm_Me} {Post : Option Value → fm_M → Prop} {pc : Nat} {ls : List (Option Value)} {st : List Value} {mem : fm_M} {x : Int32} {off : Int} {tgt : Nat} (hd : decode M.2.1 pc = .ok (.ifCond .gt off, 3)) (ht : (pc : Int) + off = (tgt : Int)) (kt : 0 < x → fm_Go lay d M Post tgt ls st mem) (kf : ¬ 0 < x → fm_Go lay d M Post (pc + 3) ls st mem) : fm_Go lay d M Post pc ls (.int x :: st) mem := by
  intro p l e R s0 s m args below meth c D cI cC ad A cells slots H locs sl Q C hl hP hD hS hR
  exact lv_if_gt C.1 C.2.1 hd ht (fun z => kt z p l e R s0 s m args below meth c D cI cC ad A cells slots H locs sl Q C hl hP hD hS hR) (fun z => kf z p l e R s0 s m args below meth c D cI cC ad A cells slots H locs sl Q C hl hP hD hS hR)
theorem go_if_le {lay : List fm_L} {d : Nat} {M : fm_Me} {Post : Option Value → fm_M → Prop} {pc : Nat} {ls : List (Option Value)} {st : List Value} {mem : fm_M} {x : Int32} {off : Int} {tgt : Nat} (hd : decode M.2.1 pc = .ok (.ifCond .le off, 3)) (ht : (pc : Int) + off = (tgt : Int)) (kt : x ≤ 0 → fm_Go lay d M Post tgt ls st mem) (kf : ¬ x ≤ 0 → fm_Go lay d M Post (pc + 3) ls st mem) : fm_Go lay d M Post pc ls (.int x :: st) mem := by
  intro p l e R s0 s m args below meth c D cI cC ad A cells slots H locs sl Q C hl hP hD hS hR
  exact lv_if_le C.1 C.2.1 hd ht (fun z => kt z p l e R s0 s m args below meth c D cI cC ad A cells slots H locs sl Q C hl hP hD hS hR) (fun z => kf z p l e R s0 s m args below meth c D cI cC ad A cells slots H locs sl Q C hl hP hD hS hR)
theorem go_icmp_eq {lay : List fm_L} {d : Nat} {M : fm_Me} {Post : Option Value → fm_M → Prop} {pc : Nat} {ls : List (Option Value)} {st : List Value} {mem : fm_M} {x y : Int32} {off : Int} {tgt : Nat} (hd : decode M.2.1 pc = .ok (.if_icmp .eq off, 3)) (ht : (pc : Int) + off = (tgt : Int)) (kt : x = y → fm_Go lay d M Post tgt ls st mem) (kf : ¬ x = y → fm_Go lay d M Post (pc + 3) ls st mem) : fm_Go lay d M Post pc ls (.int y :: .int x :: st) mem := by
  intro p l e R s0 s m args below meth c D cI cC ad A cells slots H locs sl Q C hl hP hD hS hR
  exact lv_icmp_eq C.1 C.2.1 hd ht (fun z => kt z p l e R s0 s m args below meth c D cI cC ad A cells slots H locs sl Q C hl hP hD hS hR) (fun z => kf z p l e R s0 s m args below meth c D cI cC ad A cells slots H locs sl Q C hl hP hD hS hR)
theorem go_icmp_ne {lay : List fm_L} {d : Nat} {M : fm_Me} {Post : Option Value → fm_M → Prop} {pc : Nat} {ls : List (Option Value)} {st : List Value} {mem : fm_M} {x y : Int32} {off : Int} {tgt : Nat} (hd : decode M.2.1 pc = .ok (.if_icmp .ne off, 3)) (ht : (pc : Int) + off = (tgt : Int)) (kt : ¬ x = y → fm_Go lay d M Post tgt ls st mem) (kf : x = y → fm_Go lay d M Post (pc + 3) ls st mem) : fm_Go lay d M Post pc ls (.int y :: .int x :: st) mem := by
  intro p l e R s0 s m args below meth c D cI cC ad A cells slots H locs sl Q C hl hP hD hS hR
  exact lv_icmp_ne C.1 C.2.1 hd ht (fun z => kt z p l e R s0 s m args below meth c D cI cC ad A cells slots H locs sl Q C hl hP hD hS hR) (fun z => kf z p l e R s0 s m args below meth c D cI cC ad A cells slots H locs sl Q C hl hP hD hS hR)
theorem go_icmp_lt {lay : List fm_L} {d : Nat} {M : fm_Me} {Post : Option Value → fm_M → Prop} {pc : Nat} {ls : List (Option Value)} {st : List Value} {mem : fm_M} {x y : Int32} {off : Int} {tgt : Nat} (hd : decode M.2.1 pc = .ok (.if_icmp .lt off, 3)) (ht : (pc : Int) + off = (tgt : Int)) (kt : x < y → fm_Go lay d M Post tgt ls st mem) (kf : ¬ x < y → fm_Go lay d M Post (pc + 3) ls st mem) : fm_Go lay d M Post pc ls (.int y :: .int x :: st) mem := by
  intro p l e R s0 s m args below meth c D cI cC ad A cells slots H locs sl Q C hl hP hD hS hR
  exact lv_icmp_lt C.1 C.2.1 hd ht (fun z => kt z p l e R s0 s m args below meth c D cI cC ad A cells slots H locs sl Q C hl hP hD hS hR) (fun z => kf z p l e R s0 s m args below meth c D cI cC ad A cells slots H locs sl Q C hl hP hD hS hR)
theorem go_icmp_ge {lay : List fm_L} {d : Nat} {M : fm_Me} {Post : Option Value → fm_M → Prop} {pc : Nat} {ls : List (Option Value)} {st : List Value} {mem : fm_M} {x y : Int32} {off : Int} {tgt : Nat} (hd : decode M.2.1 pc = .ok (.if_icmp .ge off, 3)) (ht : (pc : Int) + off = (tgt : Int)) (kt : y ≤ x → fm_Go lay d M Post tgt ls st mem) (kf : ¬ y ≤ x → fm_Go lay d M Post (pc + 3) ls st mem) : fm_Go lay d M Post pc ls (.int y :: .int x :: st) mem := by
  intro p l e R s0 s m args below meth c D cI cC ad A cells slots H locs sl Q C hl hP hD hS hR
  exact lv_icmp_ge C.1 C.2.1 hd ht (fun z => kt z p l e R s0 s m args below meth c D cI cC ad A cells slots H locs sl Q C hl hP hD hS hR) (fun z => kf z p l e R s0 s m args below meth c D cI cC ad A cells slots H locs sl Q C hl hP hD hS hR)
theorem go_icmp_gt {lay : List fm_L} {d : Nat} {M : fm_Me} {Post : Option Value → fm_M → Prop} {pc : Nat} {ls : List (Option Value)} {st : List Value} {mem : fm_M} {x y : Int32} {off : Int} {tgt : Nat} (hd : decode M.2.1 pc = .ok (.if_icmp .gt off, 3)) (ht : (pc : Int) + off = (tgt : Int)) (kt : y < x → fm_Go lay d M Post tgt ls st mem) (kf : ¬ y < x → fm_Go lay d M Post (pc + 3) ls st mem) : fm_Go lay d M Post pc ls (.int y :: .int x :: st) mem := by
  intro p l e R s0 s m args below meth c D cI cC ad A cells slots H locs sl Q C hl hP hD hS hR
  exact lv_icmp_gt C.1 C.2.1 hd ht (fun z => kt z p l e R s0 s m args below meth c D cI cC ad A cells slots H locs sl Q C hl hP hD hS hR) (fun z => kf z p l e R s0 s m args below meth c D cI cC ad A cells slots H locs sl Q C hl hP hD hS hR)
theorem go_icmp_le {lay : List fm_L} {d : Nat} {M : fm_Me} {Post : Option Value → fm_M → Prop} {pc : Nat} {ls : List (Option Value)} {st : List Value} {mem : fm_M} {x y : Int32} {off : Int} {tgt : Nat} (hd : decode M.2.1 pc = .ok (.if_icmp .le off, 3)) (ht : (pc : Int) + off = (tgt : Int)) (kt : x ≤ y → fm_Go lay d M Post tgt ls st mem) (kf : ¬ x ≤ y → fm_Go lay d M Post (pc + 3) ls st mem) : fm_Go lay d M Post pc ls (.int y :: .int x :: st) mem := by
  intro p l e R s0 s m args below meth c D cI cC ad A cells slots H locs sl Q C hl hP hD hS hR
  exact lv_icmp_le C.1 C.2.1 hd ht (fun z => kt z p l e R s0 s m args below meth c D cI cC ad A cells slots H locs sl Q C hl hP hD hS hR) (fun z => kf z p l e R s0 s m args below meth c D cI cC ad A cells slots H locs sl Q C hl hP hD hS hR)
theorem go_goto {lay : List fm_L} {d : Nat} {M : fm_Me} {Post : Option Value → fm_M → Prop} {pc : Nat} {ls : List (Option Value)} {st : List Value} {mem : fm_M} {off : Int} {tgt : Nat} (hd : decode M.2.1 pc = .ok (.goto off, 3)) (ht : (pc : Int) + off = (tgt : Int)) (kk : fm_Go lay d M Post tgt ls st mem) : fm_Go lay d M Post pc ls st mem := by
  intro p l e R s0 s m args below meth c D cI cC ad A cells slots H locs sl Q C hl hP hD hS hR
  exact lv_goto C.1 C.2.1 hd ht (kk p l e R s0 s m args below meth c D cI cC ad A cells slots H locs sl Q C hl hP hD hS hR)
theorem go_lookup {lay : List fm_L} {d : Nat} {M : fm_Me} {Post : Option Value → fm_M → Prop} {pc : Nat} {ls : List (Option Value)} {st : List Value} {mem : fm_M} {dflt : Int} {ps : Array (Int × Int)} {len : Nat} {x : Int32} {off : Int} {tgt : Nat} (hd : decode M.2.1 pc = .ok (.lookupswitch dflt ps, len)) (hp : (ps.toList.zip (ps.toList.drop 1)).all (fun (a, next) => a.1 < next.1) = true) (ho : Op.lookupswitch.offset ps.toList dflt x.toInt = off) (ht : (pc : Int) + off = (tgt : Int)) (kk : fm_Go lay d M Post tgt ls st mem) : fm_Go lay d M Post pc ls (.int x :: st) mem := by
  intro p l e R s0 s m args below meth c D cI cC ad A cells slots H locs sl Q C hl hP hD hS hR
  exact lv_lookup C.1 C.2.1 hd hp ho ht (kk p l e R s0 s m args below meth c D cI cC ad A cells slots H locs sl Q C hl hP hD hS hR)
theorem go_tableOut {lay : List fm_L} {d : Nat} {M : fm_Me} {Post : Option Value → fm_M → Prop} {pc : Nat} {ls : List (Option Value)} {st : List Value} {mem : fm_M} {dflt lo hi : Int} {offs : Array Int} {len : Nat} {x : Int32} {tgt : Nat} (hd : decode M.2.1 pc = .ok (.tableswitch dflt lo hi offs, len)) (h : x.toInt < lo ∨ hi < x.toInt) (ht : (pc : Int) + dflt = (tgt : Int)) (kk : fm_Go lay d M Post tgt ls st mem) : fm_Go lay d M Post pc ls (.int x :: st) mem := by
  intro p l e R s0 s m args below meth c D cI cC ad A cells slots H locs sl Q C hl hP hD hS hR
  exact lv_tableOut C.1 C.2.1 hd h ht (kk p l e R s0 s m args below meth c D cI cC ad A cells slots H locs sl Q C hl hP hD hS hR)
theorem go_tableIn {lay : List fm_L} {d : Nat} {M : fm_Me} {Post : Option Value → fm_M → Prop} {pc : Nat} {ls : List (Option Value)} {st : List Value} {mem : fm_M} {dflt lo hi : Int} {offs : Array Int} {len : Nat} {x : Int32} {off : Int} {tgt : Nat} (hd : decode M.2.1 pc = .ok (.tableswitch dflt lo hi offs, len)) (h1 : ¬ x.toInt < lo) (h2 : ¬ hi < x.toInt) (ho : offs[(x.toInt - lo).toNat]? = some off) (ht : (pc : Int) + off = (tgt : Int)) (kk : fm_Go lay d M Post tgt ls st mem) : fm_Go lay d M Post pc ls (.int x :: st) mem := by
  intro p l e R s0 s m args below meth c D cI cC ad A cells slots H locs sl Q C hl hP hD hS hR
  exact lv_tableIn C.1 C.2.1 hd h1 h2 ho ht (kk p l e R s0 s m args below meth c D cI cC ad A cells slots H locs sl Q C hl hP hD hS hR)
/-- a class of the worlds, by its place in vwCl -/
def fm_cls (ci : Nat) (C : String) (T : u_T) (N : Nat) : Prop := vwCl[ci]? = some (C, T, N) ∧ (∀ w ∈ u_ws C T N, w ∈ fm_G) ∧ ∃ ty0 : Nat → FieldType, (∀ k, k < N → parseFieldDescriptor (T k).2.2.1 = some (ty0 k)) ∧ ∀ a, a < N → ∀ b, b < N → a ≠ b → (T a).2.1 ≠ (T b).2.1
theorem go_getI {lay : List fm_L} {d : Nat} {M : fm_Me} {Post : Option Value → fm_M → Prop} {pc : Nat} {ls : List (Option Value)} {st : List Value} {mem : fm_M} {q ci k idx N : Nat} {l2 : List (Option (Option Nat))} {C0 : String} {T : u_T} (hd : decode M.2.1 pc = .ok (.getfield idx, 3)) (hc : fm_cls ci C0 T N) (he : lay[q]? = some (.inr (ci, l2))) (hk : l2[k]? = some (none)) (hkN : k < N) (hlink : Cond.fieldLink M.2.2.2.2 idx (T k).1 (T k).2.1 (T k).2.2.1 ∈ fm_G) (kk : fm_Go lay d M Post (pc + 3) ls (.int (mem q k) :: st) mem) : fm_Go lay d M Post pc ls (.ref q :: st) mem := by
  intro p l e R s0 s m args below meth c D cI cC ad A cells slots H locs sl Q C hl hP hD hS hR
  exact va_get C.1 C.2.1 C.2.2.2.2.2.2.1 hc.2.1 C.2.2.2.2.1 C.2.2.2.2.2.2.2.1.1 hP q (fm_at he) hc.1 k hkN (C.2.2.2.2.2.2.1 _ hlink) (fun _ h => h) (fm_fs_get hk) hd (kk p l e R s0 s m args below meth c D cI cC ad A cells slots H locs sl Q C hl hP hD hS hR)
theorem go_getR {lay : List fm_L} {d : Nat} {M : fm_Me} {Post : Option Value → fm_M → Prop} {pc : Nat} {ls : List (Option Value)} {st : List Value} {mem : fm_M} {q2 : Nat} {q ci k idx N : Nat} {l2 : List (Option (Option Nat))} {C0 : String} {T : u_T} (hd : decode M.2.1 pc = .ok (.getfield idx, 3)) (hc : fm_cls ci C0 T N) (he : lay[q]? = some (.inr (ci, l2))) (hk : l2[k]? = some (some (some q2))) (hkN : k < N) (hlink : Cond.fieldLink M.2.2.2.2 idx (T k).1 (T k).2.1 (T k).2.2.1 ∈ fm_G) (kk : fm_Go lay d M Post (pc + 3) ls (.ref q2 :: st) mem) : fm_Go lay d M Post pc ls (.ref q :: st) mem := by
  intro p l e R s0 s m args below meth c D cI cC ad A cells slots H locs sl Q C hl hP hD hS hR
  exact va_get C.1 C.2.1 C.2.2.2.2.2.2.1 hc.2.1 C.2.2.2.2.1 C.2.2.2.2.2.2.2.1.1 hP q (fm_at he) hc.1 k hkN (C.2.2.2.2.2.2.1 _ hlink) (fun _ h => h) (fm_fs_get hk) hd (kk p l e R s0 s m args below meth c D cI cC ad A cells slots H locs sl Q C hl hP hD hS hR)
theorem go_put {lay : List fm_L} {d : Nat} {M : fm_Me} {Post : Option Value → fm_M → Prop} {pc : Nat} {ls : List (Option Value)} {st : List Value} {mem : fm_M} {q ci k idx N : Nat} {l2 : List (Option (Option Nat))} {C0 : String} {T : u_T} {x : Int32} (ty : FieldType) (hd : decode M.2.1 pc = .ok (.putfield idx, 3)) (hc : fm_cls ci C0 T N) (he : lay[q]? = some (.inr (ci, l2))) (hk : l2[k]? = some none) (hkN : k < N) (hlink : Cond.fieldLink M.2.2.2.2 idx (T k).1 (T k).2.1 (T k).2.2.1 ∈ fm_G) (hfin : (T k).2.2.2 = false) (hpd : parseFieldDescriptor (T k).2.2.1 = some ty) (hnr : narrow ty (.int x) = .int x) (hfit : fits ty (.int x) = true) (kk : fm_Go lay d M Post (pc + 3) ls st (fm_put mem q k x)) : fm_Go lay d M Post pc ls (.int x :: .ref q :: st) mem := by
  intro p l e R s0 s m args below meth c D cI cC ad A cells slots H locs sl Q C hl hP hD hS hR
  obtain ⟨hc1, hc2, ty0, hc3, hc4⟩ := hc
  refine va_put (ref := (T k).1) C.1 C.2.1 C.2.2.2.2.2.2.1 hc2 ty0 hc3 hc4 C.2.2.2.2.1 C.2.2.2.2.2.2.2.1.1 hP hD hS q (fm_at he) hc1 k hkN (C.2.2.2.2.2.2.1 _ hlink) (fun _ h => h) hfin hpd hnr hfit (by unfold fm_fs; rw [List.length_mapIdx]; exact (List.getElem?_eq_some_iff.mp hk).1) hd (fun H1 locs1 hP1 hD1 hS1 => ?_)
  have e1 : (fm_W ad cI cC lay mem).set q (ad q, .inr (ci, (fm_fs ad (mem q) l2).set k (.int x))) = fm_W ad cI cC lay (fm_put mem q k x) := by
    rw [← fm_set he, fm_e_put hk]
  have hP2 : va_P D vwCl (fm_W ad cI cC lay (fm_put mem q k x)) H1 := by rw [← e1]; exact hP1
  exact kk p l e R s0 s m args below meth c D cI cC ad A cells slots H1 locs1 sl Q C hl hP2 (fm_D_mem hD) hS1 hR
theorem go_iald {lay : List fm_L} {d : Nat} {M : fm_Me} {Post : Option Value → fm_M → Prop} {pc : Nat} {ls : List (Option Value)} {st : List Value} {mem : fm_M} {q n : Nat} {i : Int32} (hd : decode M.2.1 pc = .ok (.iaload, 1)) (he : lay[q]? = some (.inl (0, n))) (hin : vp_in i n) (kk : fm_Go lay d M Post (pc + 1) ls (.int (mem q i.toNatClampNeg) :: st) mem) : fm_Go lay d M Post pc ls (.int i :: .ref q :: st) mem := by
  intro p l e R s0 s m args below meth c D cI cC ad A cells slots H locs sl Q C hl hP hD hS hR
  exact va_iald C.1 C.2.1 C.2.2.2.2.2.2.2.1.1 hP q 0 (fm_at he) rfl hin hd (kk p l e R s0 s m args below meth c D cI cC ad A cells slots H locs sl Q C hl hP hD hS hR)
theorem go_iast {lay : List fm_L} {d : Nat} {M : fm_Me} {Post : Option Value → fm_M → Prop} {pc : Nat} {ls : List (Option Value)} {st : List Value} {mem : fm_M} {q n : Nat} {i x : Int32} (hd : decode M.2.1 pc = .ok (.iastore, 1)) (he : lay[q]? = some (.inl (0, n))) (hin : vp_in i n) (kk : fm_Go lay d M Post (pc + 1) ls st (fm_put mem q i.toNatClampNeg x)) : fm_Go lay d M Post pc ls (.int x :: .int i :: .ref q :: st) mem := by
  intro p l e R s0 s m args below meth c D cI cC ad A cells slots H locs sl Q C hl hP hD hS hR
  refine va_iast C.1 C.2.1 C.2.2.2.2.2.2.2.1.1 hP hD hS q 0 (fm_at he) rfl hin hd (fun H1 locs1 hP1 hD1 hS1 => ?_)
  have e1 : (fm_W ad cI cC lay mem).set q (ad q, .inl (if 0 = 0 then cI else cC, n, .inl (upd (mem q) i.toNatClampNeg x))) = fm_W ad cI cC lay (fm_put mem q i.toNatClampNeg x) := by
    rw [← fm_set he, fm_e_arr]
  have hP2 : va_P D vwCl (fm_W ad cI cC lay (fm_put mem q i.toNatClampNeg x)) H1 := by rw [← e1]; exact hP1
  exact kk p l e R s0 s m args below meth c D cI cC ad A cells slots H1 locs1 sl Q C hl hP2 (fm_D_mem hD) hS1 hR
theorem go_alen {lay : List fm_L} {d : Nat} {M : fm_Me} {Post : Option Value → fm_M → Prop} {pc : Nat} {ls : List (Option Value)} {st : List Value} {mem : fm_M} {q t n : Nat} {v : Int32} (hd : decode M.2.1 pc = .ok (.arraylength, 1)) (he : lay[q]? = some (.inl (t, n))) (hv : Int32.ofNat n = v) (kk : fm_Go lay d M Post (pc + 1) ls (.int v :: st) mem) : fm_Go lay d M Post pc ls (.ref q :: st) mem := by
  intro p l e R s0 s m args below meth c D cI cC ad A cells slots H locs sl Q C hl hP hD hS hR
  by_cases ht : t = 0
  · exact va_alen C.1 C.2.1 C.2.2.2.2.2.2.2.1.1 hP q 0 (fm_at he) (by rw [if_pos ht]; rfl) hv hd (kk p l e R s0 s m args below meth c D cI cC ad A cells slots H locs sl Q C hl hP hD hS hR)
  · exact va_alen C.1 C.2.1 C.2.2.2.2.2.2.2.1.1 hP q 1 (fm_at he) (by rw [if_neg ht]; rfl) hv hd (kk p l e R s0 s m args below meth c D cI cC ad A cells slots H locs sl Q C hl hP hD hS hR)
theorem go_min {lay : List fm_L} {d : Nat} {M : fm_Me} {Post : Option Value → fm_M → Prop} {pc : Nat} {ls : List (Option Value)} {st : List Value} {mem : fm_M} {idx : Nat} {x y : Int32} (hd : decode M.2.1 pc = .ok (.invokestatic idx, 3)) (hlink : Cond.methodLink M.2.2.2.2 idx Lib.Math.min.name ∈ fm_G) (hd1 : 1 ≤ d) (hst : (st.map fun v => v.category).sum ≤ 8) (kk : fm_Go lay d M Post (pc + 3) ls (.int (if y < x then y else x) :: st) mem) : fm_Go lay d M Post pc ls (.int y :: .int x :: st) mem := by
  intro p l e R s0 s m args below meth c D cI cC ad A cells slots H locs sl Q C hl hP hD hS hR
  have hst2 : ((st.map (fm_cv ad)).map fun v => v.category).sum ≤ 8 := by rw [List.map_map, show ((fun v : Value => v.category) ∘ fm_cv ad) = (fun v => v.category) from funext (fun v => fm_cv_cat ad v)]; exact hst
  have hr := C.2.2.2.2.2.2.2.2.2.1
  exact va_mmin C.1 C.2.1 (C.2.2.1.trans hl.1.symm) C.2.2.2.2.1 (C.2.2.2.2.2.2.1 _ hlink) (C.2.2.2.2.2.2.1 _ fm_minS) (C.2.2.2.2.2.2.1 _ fm_minI) (C.2.2.2.2.2.2.1 _ fm_minC) (by omega) (by omega) hr.2.2.1 hr.2.2.2 hd (kk p l e R s0 s m args below meth c D cI cC ad A cells slots H locs sl Q C hl hP hD hS hR)
theorem go_max {lay : List fm_L} {d : Nat} {M : fm_Me} {Post : Option Value → fm_M → Prop} {pc : Nat} {ls : List (Option Value)} {st : List Value} {mem : fm_M} {idx : Nat} {x y : Int32} (hd : decode M.2.1 pc = .ok (.invokestatic idx, 3)) (hlink : Cond.methodLink M.2.2.2.2 idx Lib.Math.max.name ∈ fm_G) (hd1 : 1 ≤ d) (hst : (st.map fun v => v.category).sum ≤ 8) (kk : fm_Go lay d M Post (pc + 3) ls (.int (if x < y then y else x) :: st) mem) : fm_Go lay d M Post pc ls (.int y :: .int x :: st) mem := by
  intro p l e R s0 s m args below meth c D cI cC ad A cells slots H locs sl Q C hl hP hD hS hR
  have hst2 : ((st.map (fm_cv ad)).map fun v => v.category).sum ≤ 8 := by rw [List.map_map, show ((fun v : Value => v.category) ∘ fm_cv ad) = (fun v => v.category) from funext (fun v => fm_cv_cat ad v)]; exact hst
  have hr := C.2.2.2.2.2.2.2.2.2.1
  exact va_mmax C.1 C.2.1 (C.2.2.1.trans hl.1.symm) C.2.2.2.2.1 (C.2.2.2.2.2.2.1 _ hlink) (C.2.2.2.2.2.2.1 _ fm_maxS) (C.2.2.2.2.2.2.1 _ fm_minI) (C.2.2.2.2.2.2.1 _ fm_maxC) (by omega) (by omega) hr.2.2.1 hr.2.2.2 hd (kk p l e R s0 s m args below meth c D cI cC ad A cells slots H locs sl Q C hl hP hD hS hR)
theorem go_copy {lay : List fm_L} {d : Nat} {M : fm_Me} {Post : Option Value → fm_M → Prop} {pc : Nat} {ls : List (Option Value)} {st : List Value} {mem : fm_M} {idx q0 q1 n0 n1 : Nat} {sp dp n : Int32} (hd : decode M.2.1 pc = .ok (.invokestatic idx, 3)) (hlink : Cond.methodLink M.2.2.2.2 idx arraycopyName ∈ fm_G) (hd1 : 2 ≤ d) (hst : (st.map fun v => v.category).sum ≤ 8) (he0 : lay[q0]? = some (.inl (0, n0))) (he1 : lay[q1]? = some (.inl (0, n1))) (h1 : ¬ sp < 0) (h2 : ¬ dp < 0) (h3 : ¬ n < 0) (h4 : sp.toNatClampNeg + n.toNatClampNeg ≤ n0) (h5 : dp.toNatClampNeg + n.toNatClampNeg ≤ n1) (kk : fm_Go lay d M Post (pc + 3) ls st (fm_up mem q1 (va_cpy (mem q0) (mem q1) sp.toNatClampNeg dp.toNatClampNeg n.toNatClampNeg))) : fm_Go lay d M Post pc ls (.int n :: .int dp :: .ref q1 :: .int sp :: .ref q0 :: st) mem := by
  intro p l e R s0 s m args below meth c D cI cC ad A cells slots H locs sl Q C hl hP hD hS hR
  have hst2 : ((st.map (fm_cv ad)).map fun v => v.category).sum ≤ 8 := by rw [List.map_map, show ((fun v : Value => v.category) ∘ fm_cv ad) = (fun v => v.category) from funext (fun v => fm_cv_cat ad v)]; exact hst
  have hr := C.2.2.2.2.2.2.2.2.2.1
  have hw : nativeFrameWords "java/lang/System" "arraycopy" 5 ≤ 30 := by decide
  refine va_copyi (ty := .int) C.1 C.2.1 (C.2.2.1.trans hl.1.symm) C.2.2.2.2.1 (C.2.2.2.2.2.2.1 _ hlink) (C.2.2.2.2.2.2.1 _ fm_cpyN) (C.2.2.2.2.2.2.1 _ fm_cpyS) (C.2.2.2.2.2.2.1 _ fm_cpyI) C.2.2.2.2.2.2.2.1.1 hP hD hS q0 q1 0 0 (fm_at he0) (fm_at he1) rfl rfl rfl h1 h2 h3 h4 h5 (fun i _ => rfl) (by omega) (by omega) hd (fun H1 locs1 hP1 hD1 hS1 => ?_)
  have e1 : (fm_W ad cI cC lay mem).set q1 (ad q1, .inl (if 0 = 0 then cI else cC, n1, .inl (va_cpy (mem q0) (mem q1) sp.toNatClampNeg dp.toNatClampNeg n.toNatClampNeg))) = fm_W ad cI cC lay (fm_up mem q1 (va_cpy (mem q0) (mem q1) sp.toNatClampNeg dp.toNatClampNeg n.toNatClampNeg)) := by
    rw [← fm_set he1, fm_e_arr]
  have hP2 : va_P D vwCl (fm_W ad cI cC lay (fm_up mem q1 (va_cpy (mem q0) (mem q1) sp.toNatClampNeg dp.toNatClampNeg n.toNatClampNeg))) H1 := by rw [← e1]; exact hP1
  exact kk p l e R s0 s m args below meth c D cI cC ad A cells slots H1 locs1 sl Q C hl hP2 (fm_D_mem hD) hS1 hR
theorem go_ret {lay : List fm_L} {d : Nat} {M : fm_Me} {Post : Option Value → fm_M → Prop} {pc : Nat} {ls : List (Option Value)} {st : List Value} {mem : fm_M} {v : Option Value} (hr : fm_isR M pc v) (hp : Post v mem) (hst : st = v.toList) : fm_Go lay d M Post pc ls st mem := by
  intro p l e R s0 s m args below meth c D cI cC ad A cells slots H locs sl Q C hl hP hD hS hR
  subst hst
  have e1 : (v.toList.map (fm_cv ad)) = (v.map (fm_cv ad)).toList := by cases v <;> rfl
  rw [e1]
  exact hR s H locs sl pc v mem C.2.2.2.2.2.2.2.2.2.2.2 hp hP hS hr
theorem go_iret {lay : List fm_L} {d : Nat} {M : fm_Me} {Post : Option Value → fm_M → Prop} {pc : Nat} {ls : List (Option Value)} {mem : fm_M} {x : Int32} (ty : FieldType) (hd : decode M.2.1 pc = .ok (.ireturn, 1)) (ht : M.2.2.2.1 = some ty) (hn : narrow ty (.int x) = .int x) (hp : Post (some (.int x)) mem) : fm_Go lay d M Post pc ls [.int x] mem := go_ret (v := some (.int x)) ⟨hd, ty, ht, hn⟩ hp rfl
theorem go_vret {lay : List fm_L} {d : Nat} {M : fm_Me} {Post : Option Value → fm_M → Prop} {pc : Nat} {ls : List (Option Value)} {mem : fm_M} (hd : decode M.2.1 pc = .ok (.return_, 1)) (ht : M.2.2.2.1 = none) (hp : Post none mem) : fm_Go lay d M Post pc ls [] mem := go_ret (v := none) ⟨hd, ht⟩ hp rfl
theorem go_aret {lay : List fm_L} {d : Nat} {M : fm_Me} {Post : Option Value → fm_M → Prop} {pc : Nat} {ls : List (Option Value)} {mem : fm_M} {q : Nat} (n : String) (hd : decode M.2.1 pc = .ok (.areturn, 1)) (ht : M.2.2.2.1 = some (.object n)) (hp : Post (some (.ref q)) mem) : fm_Go lay d M Post pc ls [.ref q] mem := go_ret (v := some (.ref q)) ⟨hd, n, ht⟩ hp rfl
theorem fm_back {lay : List fm_L} {PostC : Option Value → fm_M → Prop} {p : Program} {l : Launch} {e : Env} {R : Room} {s0 s : State} {m : MethodId} {args : Array Value} {below : List Frame} {meth : Method} {c : Code} {D : va_G} {cI cC : ClassId} {ad : Nat → Nat} {A A1 : Nat → Prop} {cells slots : Nat} {H : Heap} {locs : List Loc} {sl : Array Slot} {Q : State → Prop} {pc : Nat} {st0 rest : List Value} {a : Array Value}
    (hr : va_Run p l e R s m args below meth c H locs cells slots 0 0 (F0 m pc sl st0) rest (fm_Q D cI cC ad lay PostC A1 a) A1) (hs : fm_dr s0 s) (hS : va_S A s.heap H locs) (hA : ∀ q, A1 q → A q)
    (kk : ∀ (v : Option Value) (mem' : fm_M) (H1 : Heap) (locs1 : List Loc) (s1 : State), fm_dr s0 s1 → s1.vm = s.vm → s1.heap = s.heap → (∀ (w : Cond), w.before args s = true → w.before args s1 = true) → PostC v mem' → va_P D vwCl (fm_W ad cI cC lay mem') H1 → va_S A s1.heap H1 locs1 → W p l e R s1 m args below meth c H1 locs1 cells slots Q (F0 m (pc + 3) sl ((v.map (fm_cv ad)).toList ++ rest))) :
    W p l e R s m args below meth c H locs cells slots Q (F0 m pc sl st0) := by
  intro T hT X
  obtain ⟨v, st₀, t, T', L, h0, X', hL, e1, e2, ⟨⟨v', mem', hv, hp, hb⟩, hz, hk⟩, st⟩ := hr T hT X
  cases hv
  rw [h0] at hz hk
  have hs' : s = s0 := hs
  subst hs'
  obtain ⟨t2, a1, b1⟩ := kk v' mem' T'.heap (locs ++ L) s rfl rfl rfl (fun w hw => hw) hp (by rw [e1]; exact hb)
    ⟨Nat.le_trans hS.1 (by rw [e1]; exact hz), fun q h1 h2 => by rw [e1, hk q (Nat.lt_of_lt_of_le h1 hS.1) (fun z => h2 (hA q z))]; exact hS.2.1 q h1 h2, fun q hq => by
      rcases List.mem_append.mp hq with h | h
      · exact hS.2.2 q h
      · exact hA _ (hL q h)⟩ T' rfl X'
  exact ⟨t2, st t2 a1, b1⟩
/-- what a callee is: its words, and how many arguments it takes -/
def fm_callee (M : fm_Me) (n : Nat) : Prop := .code M.1 M.2.1 M.2.2.1 M.2.2.2.1 ∈ fm_G ∧ .initialized M.1.cls ∈ fm_G ∧ (M.1.cls ≠ "java/lang/invoke/MethodHandle" ∧ M.1.cls ≠ "java/lang/invoke/VarHandle") ∧ (∀ sig, parseMethodDescriptor M.1.desc = some sig → n = sig.parameters.length) ∧ M.2.2.1 ≤ 8
theorem fm_callee_of {M : fm_Me} (n : Nat) (h1 : .code M.1 M.2.1 M.2.2.1 M.2.2.2.1 ∈ fm_G) (h2 : .initialized M.1.cls ∈ fm_G) (h3 : M.1.cls ≠ "java/lang/invoke/MethodHandle" ∧ M.1.cls ≠ "java/lang/invoke/VarHandle") (h4 : (parseMethodDescriptor M.1.desc).map (fun d => d.parameters.length) = some n) (h5 : M.2.2.1 ≤ 8) : fm_callee M n := ⟨h1, h2, h3, fun sig h => by rw [h] at h4; exact (Option.some.inj h4).symm, h5⟩
theorem fm_words {M : fm_Me} {n : Nat} {args : Array Value} {s : State} (h : fm_callee M n) (hts : ∀ w ∈ fm_G, w.before args s = true) : ∀ w ∈ fm_ws M, ∀ (a' : Array Value) (U : State), s.WarmedH U.vm → w.before a' U = true := by
  refine pay_in hts (fun w hw => ?_)
  rcases List.mem_cons.mp hw with rfl | hw
  · exact ⟨h.1, fm_good h.1⟩
  · exact ⟨hw, fm_good hw⟩
theorem fm_callB {M : fm_Me} {n d' d idx : Nat} {own : String} {args : Array Value} {s : State} {R : Room} (h : fm_callee M n) (hts : ∀ w ∈ fm_G, w.before args s = true) (hdd : d' + 1 ≤ d) (hR : d ≤ R.frames ∧ 27 * d ≤ R.locals) (hl : .methodLink own idx M.1 ∈ fm_G) : CallB R s args own idx M.1 M.2.1 M.2.2.1 M.2.2.2.1 (fm_ws M) (fm_rm d') 0 0 n :=
  ⟨rfl, rfl, by show d' + 1 ≤ _; omega, by have := h.2.2.2.2; show 8 + (M.2.2.1 + 11) + 27 * d' ≤ _; omega, fm_words h hts, List.mem_cons_self, hts _ h.1, hts _ h.2.1, h.2.2.1, h.2.2.2.1, hts _ hl⟩
theorem fm_blind {D : va_G} {cI cC : ClassId} {ad : Nat → Nat} {lay : List fm_L} {mem : fm_M} {A : Nat → Prop} {sz : Nat} {as : List Value} : FrameBlind (va_Pc as (fun U => U.heap.size = sz ∧ fm_At D cI cC ad lay mem A U)) := by
  intro a U g mk h
  obtain ⟨h1, h2, ⟨h3, h4⟩, h5, h6, h7⟩ := h
  exact ⟨h1, h2, ⟨va_K.moved (u := U) (U := U.calling g mk a) (Vm.Alike.refl U.vm) h3, fm_N_same (u := U) (U := U.calling g mk a) rfl h4⟩, fm_X_same h5 rfl rfl, h6, h7⟩
theorem fm_pre {D : va_G} {cI cC : ClassId} {ad : Nat → Nat} {lay : List fm_L} {mem : fm_M} {A : Nat → Prop} {s U : State} {H : Heap} {locs : List Loc} {as : List Value} (hK : fm_K D cI cC s) (hX : fm_X ad A s) (hP : va_P D vwCl (fm_W ad cI cC lay mem) H) (hD : va_D A (fm_W ad cI cC lay mem)) (hS : va_S A s.heap H locs) (hA : ∀ q, s.heap.size ≤ q → A q) (hU : U.heap = H) (hW : s.WarmedH U.vm) : va_Pc as (fun U => U.heap.size = H.size ∧ fm_At D cI cC ad lay mem (fm_A ad lay.length H.size) U) as.toArray U := by
  refine ⟨rfl, by rw [hU], ⟨va_K.moved hW.alike hK.1, fm_N_warm hW hK.2⟩, ?_, by rw [hU]; exact hP, ?_⟩
  · refine fm_X_call hX hU hW hS (fun q hq => ?_)
    rcases hq with ⟨k, hk, rfl⟩ | hq
    · exact (fm_D.mp hD).2 k hk
    · exact hA q (Nat.le_trans hS.1 hq)
  · exact fm_D.mpr ⟨(fm_D.mp hD).1, fun i hi => Or.inl ⟨i, hi, rfl⟩⟩
theorem fm_Afree {ad : Nat → Nat} {cI cC : ClassId} {lay : List fm_L} {mem : fm_M} {A : Nat → Prop} {s : State} {H : Heap} {locs : List Loc} (hD : va_D A (fm_W ad cI cC lay mem)) (hS : va_S A s.heap H locs) (hA : ∀ q, s.heap.size ≤ q → A q) : ∀ q, fm_A ad lay.length H.size q → A q := by
  intro q hq
  rcases hq with ⟨k, hk, rfl⟩ | hq
  · exact (fm_D.mp hD).2 k hk
  · exact hA q (Nat.le_trans hS.1 hq)
theorem fm_st8 (ad : Nat → Nat) {st : List Value} (h : (st.map fun v => v.category).sum ≤ 8) : ((st.map (fm_cv ad)).map fun v => v.category).sum ≤ 8 := by
  rw [List.map_map, show ((fun v : Value => v.category) ∘ fm_cv ad) = (fun v => v.category) from funext (fun v => fm_cv_cat ad v)]
  exact h
theorem go_callV {lay : List fm_L} {d : Nat} {M : fm_Me} {Post : Option Value → fm_M → Prop} {pc : Nat} {ls : List (Option Value)} {st : List Value} {mem : fm_M} {M2 : fm_Me} {d2 n idx : Nat} {As st0 : List Value} {mem1 : fm_M} {PostC : Option Value → fm_M → Prop} {q ci N : Nat} {fl : List (Option (Option Nat))} {C0 : String} {T : u_T} (hd : decode M.2.1 pc = .ok (.invokevirtual idx, 3)) (hcal : fm_Met lay d2 M2 (.ref q :: As) mem PostC) (hdd : d2 + 1 ≤ d) (hce : fm_callee M2 n) (hlk : Cond.methodLink M.2.2.2.2 idx M2.1 ∈ fm_G) (hin : Cond.instanceMethod M2.1 ∈ fm_G) (hsel : Cond.selects C0 M2.1 M2.1 ∈ fm_G) (hc : fm_cls ci C0 T N) (he : lay[q]? = some (.inr (ci, fl))) (hn : As.length = n) (hst : (st.map fun v => v.category).sum ≤ 8) (hs0 : st0 = As.reverse ++ .ref q :: st) (kk : ∀ v mem2, PostC v mem2 → fm_Go lay d M Post (pc + 3) ls (v.toList ++ st) mem2) : fm_Go lay d M Post pc ls st0 mem := by
  intro p l e R s0 s m args below meth c D cI cC ad A cells slots H locs sl Q C hl hP hD hS hR
  subst hs0
  have hr := C.2.2.2.2.2.2.2.2.2.1
  have hts := C.2.2.2.2.2.2.1
  have hrun := va_runV (e := e) (R := R) (p := p) (l := l) (args := args) (c := c) (H := H) (locs := locs) (cells := cells) (slots := slots) (below := below) (meth := meth) (rest := st.map (fm_cv ad)) (As := As.map (fm_cv ad)) (g := F0 m pc sl ((As.reverse ++ .ref q :: st).map (fm_cv ad))) (b := ad q) (C := C0) ⟨C.1, C.2.1, C.2.2.1, C.2.2.2.2.1, hts⟩ (hcal l D cI cC ad H.size) ⟨fm_callB hce hts hdd ⟨hr.1, hr.2.1⟩ hlk, hts _ hin, hts _ hsel⟩
    ⟨fm_blind, va_recv C.2.2.2.2.2.2.2.1.1 hP hc.1 (fm_at he), fun U hU hW => fm_pre C.2.2.2.2.2.2.2.1 C.2.2.2.2.2.2.2.2.1 hP hD hS C.2.2.2.2.2.2.2.2.2.2.1 hU hW⟩ rfl (by rw [List.length_map]; exact hn) hl.1 (by show List.map _ _ = _; rw [List.map_append, List.map_reverse]; rfl) (by show 2 * 0 + _ ≤ 8; have := fm_st8 ad hst; omega) hd ⟨hr.2.2.1, hr.2.2.2⟩
  refine fm_back hrun C.2.2.2.2.2.2.2.2.2.2.2 hS (fm_Afree hD hS C.2.2.2.2.2.2.2.2.2.2.1) (fun v mem' H1 locs1 s1 hs1 hvm hhp hw hpost hP1 hS1 => ?_)
  obtain ⟨a1, a2, a3, a4, a5, a6, a7, a8, a9, a10, a11, a12⟩ := C
  have hsame : s.vm.Alike s1.vm := by rw [hvm]; exact Vm.Alike.refl _
  have C1 : fm_C d M p R s0 s1 m args meth c D cI cC ad A cells slots := ⟨a1, a2, a3, a4, by rw [hvm]; exact a5, a6, fun w hw1 => hw w (a7 w hw1), ⟨va_K.moved hsame a8.1, fm_N_same hvm.symm a8.2⟩, fm_X_same a9 hvm.symm hhp.symm, a10, by rw [hhp]; exact a11, hs1⟩
  have key := kk v mem' hpost p l e R s0 s1 m args below meth c D cI cC ad A cells slots H1 locs1 sl Q C1 hl hP1 (fm_D_mem hD) hS1 hR
  have e1 : ((v.toList ++ st).map (fm_cv ad)) = (v.map (fm_cv ad)).toList ++ st.map (fm_cv ad) := by cases v <;> rfl
  rw [e1] at key
  exact key
theorem go_callS {lay : List fm_L} {d : Nat} {M : fm_Me} {Post : Option Value → fm_M → Prop} {pc : Nat} {ls : List (Option Value)} {st : List Value} {mem : fm_M} {M2 : fm_Me} {d2 n idx : Nat} {As st0 : List Value} {mem1 : fm_M} {PostC : Option Value → fm_M → Prop} (hd : decode M.2.1 pc = .ok (.invokestatic idx, 3)) (hcal : fm_Met lay d2 M2 As mem PostC) (hdd : d2 + 1 ≤ d) (hce : fm_callee M2 n) (hlk : Cond.methodLink M.2.2.2.2 idx M2.1 ∈ fm_G) (hsta : Cond.static M2.1 ∈ fm_G) (hn : As.length = n) (hst : (st.map fun v => v.category).sum ≤ 8) (hs0 : st0 = As.reverse ++ st) (kk : ∀ v mem2, PostC v mem2 → fm_Go lay d M Post (pc + 3) ls (v.toList ++ st) mem2) : fm_Go lay d M Post pc ls st0 mem := by
  intro p l e R s0 s m args below meth c D cI cC ad A cells slots H locs sl Q C hl hP hD hS hR
  subst hs0
  have hr := C.2.2.2.2.2.2.2.2.2.1
  have hts := C.2.2.2.2.2.2.1
  have hrun := va_runS (e := e) (R := R) (p := p) (l := l) (args := args) (c := c) (H := H) (locs := locs) (cells := cells) (slots := slots) (below := below) (meth := meth) (rest := st.map (fm_cv ad)) (As := As.map (fm_cv ad)) (g := F0 m pc sl ((As.reverse ++ st).map (fm_cv ad))) ⟨C.1, C.2.1, C.2.2.1, C.2.2.2.2.1, hts⟩ (hcal l D cI cC ad H.size) ⟨fm_callB hce hts hdd ⟨hr.1, hr.2.1⟩ hlk, hts _ hsta⟩
    ⟨fm_blind, fun U hU hW => fm_pre C.2.2.2.2.2.2.2.1 C.2.2.2.2.2.2.2.2.1 hP hD hS C.2.2.2.2.2.2.2.2.2.2.1 hU hW⟩ rfl (by rw [List.length_map]; exact hn) hl.1 (by show List.map _ _ = _; rw [List.map_append, List.map_reverse]) (by show 2 * 0 + _ ≤ 8; have := fm_st8 ad hst; omega) hd ⟨hr.2.2.1, hr.2.2.2⟩
  refine fm_back hrun C.2.2.2.2.2.2.2.2.2.2.2 hS (fm_Afree hD hS C.2.2.2.2.2.2.2.2.2.2.1) (fun v mem' H1 locs1 s1 hs1 hvm hhp hw hpost hP1 hS1 => ?_)
  obtain ⟨a1, a2, a3, a4, a5, a6, a7, a8, a9, a10, a11, a12⟩ := C
  have hsame : s.vm.Alike s1.vm := by rw [hvm]; exact Vm.Alike.refl _
  have C1 : fm_C d M p R s0 s1 m args meth c D cI cC ad A cells slots := ⟨a1, a2, a3, a4, by rw [hvm]; exact a5, a6, fun w hw1 => hw w (a7 w hw1), ⟨va_K.moved hsame a8.1, fm_N_same hvm.symm a8.2⟩, fm_X_same a9 hvm.symm hhp.symm, a10, by rw [hhp]; exact a11, hs1⟩
  have key := kk v mem' hpost p l e R s0 s1 m args below meth c D cI cC ad A cells slots H1 locs1 sl Q C1 hl hP1 (fm_D_mem hD) hS1 hR
  have e1 : ((v.toList ++ st).map (fm_cv ad)) = (v.map (fm_cv ad)).toList ++ st.map (fm_cv ad) := by cases v <;> rfl
  rw [e1] at key
  exact key
theorem go_callSN {lay : List fm_L} {d : Nat} {M : fm_Me} {Post : Option Value → fm_M → Prop} {pc : Nat} {ls : List (Option Value)} {st : List Value} {mem : fm_M} {M2 : fm_Me} {d2 n idx : Nat} {As st0 : List Value} {mem1 : fm_M} {PostC : Option Value → fm_M → Prop} (host : String) (hd : decode M.2.1 pc = .ok (.invokestatic idx, 3)) (hcal : fm_Met lay d2 M2 As mem PostC) (hdd : d2 + 1 ≤ d) (hce : fm_callee M2 n) (hlk : Cond.methodLinkNest M.2.2.2.2 idx M2.1 host ∈ fm_N) (hsta : Cond.static M2.1 ∈ fm_G) (hn : As.length = n) (hst : (st.map fun v => v.category).sum ≤ 8) (hs0 : st0 = As.reverse ++ st) (kk : ∀ v mem2, PostC v mem2 → fm_Go lay d M Post (pc + 3) ls (v.toList ++ st) mem2) : fm_Go lay d M Post pc ls st0 mem := by
  intro p l e R s0 s m args below meth c D cI cC ad A cells slots H locs sl Q C hl hP hD hS hR
  subst hs0
  have hr := C.2.2.2.2.2.2.2.2.2.1
  have hts := C.2.2.2.2.2.2.1
  have hrun := va_runSN (e := e) (R := R) (p := p) (l := l) (args := args) (c := c) (H := H) (locs := locs) (cells := cells) (slots := slots) (below := below) (meth := meth) (rest := st.map (fm_cv ad)) (As := As.map (fm_cv ad)) (g := F0 m pc sl ((As.reverse ++ st).map (fm_cv ad))) ⟨C.1, C.2.1, C.2.2.1, C.2.2.2.2.1, hts⟩ (hcal l D cI cC ad H.size) ⟨⟨⟨rfl, rfl, by show d2 + 1 ≤ _; omega, by have := hce.2.2.2.2; show 8 + (M2.2.2.1 + 11) + 27 * d2 ≤ _; omega, fm_words hce hts, List.mem_cons_self⟩, hts _ hce.1, hts _ hce.2.1, hce.2.2.1, hce.2.2.2.1, va_Nw.use rfl (C.2.2.2.2.2.2.2.1.2 _ hlk)⟩, hts _ hsta, trivial⟩
    ⟨fm_blind, fun U hU hW => fm_pre C.2.2.2.2.2.2.2.1 C.2.2.2.2.2.2.2.2.1 hP hD hS C.2.2.2.2.2.2.2.2.2.2.1 hU hW⟩ rfl (by rw [List.length_map]; exact hn) hl.1 (by show List.map _ _ = _; rw [List.map_append, List.map_reverse]) (by show 2 * 0 + _ ≤ 8; have := fm_st8 ad hst; omega) hd ⟨hr.2.2.1, hr.2.2.2⟩
  refine fm_back hrun C.2.2.2.2.2.2.2.2.2.2.2 hS (fm_Afree hD hS C.2.2.2.2.2.2.2.2.2.2.1) (fun v mem' H1 locs1 s1 hs1 hvm hhp hw hpost hP1 hS1 => ?_)
  obtain ⟨a1, a2, a3, a4, a5, a6, a7, a8, a9, a10, a11, a12⟩ := C
  have hsame : s.vm.Alike s1.vm := by rw [hvm]; exact Vm.Alike.refl _
  have C1 : fm_C d M p R s0 s1 m args meth c D cI cC ad A cells slots := ⟨a1, a2, a3, a4, by rw [hvm]; exact a5, a6, fun w hw1 => hw w (a7 w hw1), ⟨va_K.moved hsame a8.1, fm_N_same hvm.symm a8.2⟩, fm_X_same a9 hvm.symm hhp.symm, a10, by rw [hhp]; exact a11, hs1⟩
  have key := kk v mem' hpost p l e R s0 s1 m args below meth c D cI cC ad A cells slots H1 locs1 sl Q C1 hl hP1 (fm_D_mem hD) hS1 hR
  have e1 : ((v.toList ++ st).map (fm_cv ad)) = (v.map (fm_cv ad)).toList ++ st.map (fm_cv ad) := by cases v <;> rfl
  rw [e1] at key
  exact key
theorem go_ldcS {lay : List fm_L} {d : Nat} {M : fm_Me} {Post : Option Value → fm_M → Prop} {pc : Nat} {ls : List (Option Value)} {st : List Value} {mem : fm_M} {i idx : Nat} (hd : decode M.2.1 pc = .ok (.ldc idx, 2)) (hM : M.2.2.2.2 = RX2) (hi : i < 8) (hx : fm_cp.getD i 0 = idx) (kk : fm_Go lay d M Post (pc + 2) ls (.ref (1000 + i) :: st) mem) : fm_Go lay d M Post pc ls st mem := by
  intro p l e R s0 s m args below meth c D cI cC ad A cells slots H locs sl Q C hl hP hD hS hR
  have hR1 := C.2.2.2.2.2.2.2.2.1.2.1 i hi
  rw [hx] at hR1
  exact va_ldcS C.1 C.2.1 (by rw [← hM]; exact C.2.2.2.2.1) hR1 hd (kk p l e R s0 s m args below meth c D cI cC ad A cells slots H locs sl Q C hl hP hD hS hR)
theorem go_strval {lay : List fm_L} {d : Nat} {M : fm_Me} {Post : Option Value → fm_M → Prop} {pc : Nat} {ls : List (Option Value)} {st : List Value} {mem : fm_M} {i idx : Nat} (hd : decode M.2.1 pc = .ok (.getfield idx, 3)) (hi : i < 16) (hlink : Cond.fieldLink M.2.2.2.2 idx "java/lang/String" "value" "[B" ∈ fm_G) (kk : fm_Go lay d M Post (pc + 3) ls (.ref (2000 + i) :: st) mem) : fm_Go lay d M Post pc ls (.ref (1000 + i) :: st) mem := by
  intro p l e R s0 s m args below meth c D cI cC ad A cells slots H locs sl Q C hl hP hD hS hR
  exact vk_getf C.1 C.2.1 (C.2.2.2.2.2.2.2.2.1.1.1 i hi).2.2.1 hS C.2.2.2.2.1 (C.2.2.2.2.2.2.1 _ hlink) (fun _ h => h) hd (kk p l e R s0 s m args below meth c D cI cC ad A cells slots H locs sl Q C hl hP hD hS hR)
theorem go_strcod {lay : List fm_L} {d : Nat} {M : fm_Me} {Post : Option Value → fm_M → Prop} {pc : Nat} {ls : List (Option Value)} {st : List Value} {mem : fm_M} {i idx : Nat} (hd : decode M.2.1 pc = .ok (.getfield idx, 3)) (hi : i < 16) (hlink : Cond.fieldLink M.2.2.2.2 idx "java/lang/String" "coder" "B" ∈ fm_G) (kk : fm_Go lay d M Post (pc + 3) ls (.int 0 :: st) mem) : fm_Go lay d M Post pc ls (.ref (1000 + i) :: st) mem := by
  intro p l e R s0 s m args below meth c D cI cC ad A cells slots H locs sl Q C hl hP hD hS hR
  exact vk_getf C.1 C.2.1 (C.2.2.2.2.2.2.2.2.1.1.1 i hi).2.1 hS C.2.2.2.2.1 (C.2.2.2.2.2.2.1 _ hlink) (fun _ h => h) hd (kk p l e R s0 s m args below meth c D cI cC ad A cells slots H locs sl Q C hl hP hD hS hR)
theorem go_stralen {lay : List fm_L} {d : Nat} {M : fm_Me} {Post : Option Value → fm_M → Prop} {pc : Nat} {ls : List (Option Value)} {st : List Value} {mem : fm_M} {i : Nat} (hd : decode M.2.1 pc = .ok (.arraylength, 1)) (hi : i < 16) (kk : fm_Go lay d M Post (pc + 1) ls (.int (Int32.ofNat (fm_len.getD i 0)) :: st) mem) : fm_Go lay d M Post pc ls (.ref (2000 + i) :: st) mem := by
  intro p l e R s0 s m args below meth c D cI cC ad A cells slots H locs sl Q C hl hP hD hS hR
  exact va_tlen C.1 C.2.1 (C.2.2.2.2.2.2.2.2.1.1.1 i hi).2.2.2 hS rfl hd (kk p l e R s0 s m args below meth c D cI cC ad A cells slots H locs sl Q C hl hP hD hS hR)
theorem go_strbald {lay : List fm_L} {d : Nat} {M : fm_Me} {Post : Option Value → fm_M → Prop} {pc : Nat} {ls : List (Option Value)} {st : List Value} {mem : fm_M} {i : Nat} {x : Int32} (hd : decode M.2.1 pc = .ok (.baload, 1)) (hi : i < 16) (hin : vp_in x (fm_len.getD i 0)) (kk : fm_Go lay d M Post (pc + 1) ls (.int ((fm_byt.getD i []).getD x.toNatClampNeg 0) :: st) mem) : fm_Go lay d M Post pc ls (.int x :: .ref (2000 + i) :: st) mem := by
  intro p l e R s0 s m args below meth c D cI cC ad A cells slots H locs sl Q C hl hP hD hS hR
  exact va_tb C.1 C.2.1 (C.2.2.2.2.2.2.2.2.1.1.1 i hi).2.2.2 hS hin rfl hd (kk p l e R s0 s m args below meth c D cI cC ad A cells slots H locs sl Q C hl hP hD hS hR)
theorem go_getsC {lay : List fm_L} {d : Nat} {M : fm_Me} {Post : Option Value → fm_M → Prop} {pc : Nat} {ls : List (Option Value)} {st : List Value} {mem : fm_M} {idx : Nat} (hd : decode M.2.1 pc = .ok (.getstatic idx, 3)) (hlink : Cond.fieldLink M.2.2.2.2 idx "java/lang/String" "COMPACT_STRINGS" "Z" ∈ fm_G) (kk : fm_Go lay d M Post (pc + 3) ls (.int 1 :: st) mem) : fm_Go lay d M Post pc ls st mem := by
  intro p l e R s0 s m args below meth c D cI cC ad A cells slots H locs sl Q C hl hP hD hS hR
  exact va_gets C.1 C.2.1 C.2.2.2.2.2.2.2.2.1.2.2.1 hS C.2.2.2.2.1 (C.2.2.2.2.2.2.1 _ hlink) (fun _ h => h) hd (kk p l e R s0 s m args below meth c D cI cC ad A cells slots H locs sl Q C hl hP hD hS hR)
theorem go_getsF {lay : List fm_L} {d : Nat} {M : fm_Me} {Post : Option Value → fm_M → Prop} {pc : Nat} {ls : List (Option Value)} {st : List Value} {mem : fm_M} {idx : Nat} (hd : decode M.2.1 pc = .ok (.getstatic idx, 3)) (hlink : Cond.fieldLink M.2.2.2.2 idx "jdk/internal/util/Preconditions" "SIOOBE_FORMATTER" "Ljava/util/function/BiFunction;" ∈ fm_G) (kk : ∀ w : Value, w = .null ∨ w = .ref 3000 → fm_Go lay d M Post (pc + 3) ls (w :: st) mem) : fm_Go lay d M Post pc ls st mem := by
  intro p l e R s0 s m args below meth c D cI cC ad A cells slots H locs sl Q C hl hP hD hS hR
  rcases C.2.2.2.2.2.2.2.2.1.2.2.2.1 with hz | hz
  · exact va_gets C.1 C.2.1 hz hS C.2.2.2.2.1 (C.2.2.2.2.2.2.1 _ hlink) (fun _ h => h) hd (kk .null (Or.inl rfl) p l e R s0 s m args below meth c D cI cC ad A cells slots H locs sl Q C hl hP hD hS hR)
  · exact va_gets C.1 C.2.1 hz hS C.2.2.2.2.1 (C.2.2.2.2.2.2.1 _ hlink) (fun _ h => h) hd (kk (.ref 3000) (Or.inr rfl) p l e R s0 s m args below meth c D cI cC ad A cells slots H locs sl Q C hl hP hD hS hR)
theorem go_callT {lay : List fm_L} {d : Nat} {M : fm_Me} {Post : Option Value → fm_M → Prop} {pc : Nat} {ls : List (Option Value)} {st : List Value} {mem : fm_M} {M2 : fm_Me} {d2 n idx : Nat} {As st0 : List Value} {mem1 : fm_M} {PostC : Option Value → fm_M → Prop} {i : Nat} (hd : decode M.2.1 pc = .ok (.invokevirtual idx, 3)) (hi : i < 16) (hcal : fm_Met lay d2 M2 (.ref (1000 + i) :: As) mem PostC) (hdd : d2 + 1 ≤ d) (hce : fm_callee M2 n) (hlk : Cond.methodLink M.2.2.2.2 idx M2.1 ∈ fm_G) (hin : Cond.instanceMethod M2.1 ∈ fm_G) (hsel : Cond.selects "java/lang/String" M2.1 M2.1 ∈ fm_G) (hn : As.length = n) (hst : (st.map fun v => v.category).sum ≤ 8) (hs0 : st0 = As.reverse ++ .ref (1000 + i) :: st) (kk : ∀ v mem2, PostC v mem2 → fm_Go lay d M Post (pc + 3) ls (v.toList ++ st) mem2) : fm_Go lay d M Post pc ls st0 mem := by
  intro p l e R s0 s m args below meth c D cI cC ad A cells slots H locs sl Q C hl hP hD hS hR
  subst hs0
  have hr := C.2.2.2.2.2.2.2.2.2.1
  have hts := C.2.2.2.2.2.2.1
  have hrun := va_runV (e := e) (R := R) (p := p) (l := l) (args := args) (c := c) (H := H) (locs := locs) (cells := cells) (slots := slots) (below := below) (meth := meth) (rest := st.map (fm_cv ad)) (As := As.map (fm_cv ad)) (g := F0 m pc sl ((As.reverse ++ .ref (1000 + i) :: st).map (fm_cv ad))) (b := ad (1000 + i)) (C := "java/lang/String") ⟨C.1, C.2.1, C.2.2.1, C.2.2.2.2.1, hts⟩ (hcal l D cI cC ad H.size) ⟨fm_callB hce hts hdd ⟨hr.1, hr.2.1⟩ hlk, hts _ hin, hts _ hsel⟩
    ⟨fm_blind, vk_recv (adK := fun i => ad (1000 + i)) (i := i) C.2.2.2.2.2.2.2.2.1.1 hi hS, fun U hU hW => fm_pre C.2.2.2.2.2.2.2.1 C.2.2.2.2.2.2.2.2.1 hP hD hS C.2.2.2.2.2.2.2.2.2.2.1 hU hW⟩ rfl (by rw [List.length_map]; exact hn) hl.1 (by show List.map _ _ = _; rw [List.map_append, List.map_reverse]; rfl) (by show 2 * 0 + _ ≤ 8; have := fm_st8 ad hst; omega) hd ⟨hr.2.2.1, hr.2.2.2⟩
  refine fm_back hrun C.2.2.2.2.2.2.2.2.2.2.2 hS (fm_Afree hD hS C.2.2.2.2.2.2.2.2.2.2.1) (fun v mem' H1 locs1 s1 hs1 hvm hhp hw hpost hP1 hS1 => ?_)
  obtain ⟨a1, a2, a3, a4, a5, a6, a7, a8, a9, a10, a11, a12⟩ := C
  have hsame : s.vm.Alike s1.vm := by rw [hvm]; exact Vm.Alike.refl _
  have C1 : fm_C d M p R s0 s1 m args meth c D cI cC ad A cells slots := ⟨a1, a2, a3, a4, by rw [hvm]; exact a5, a6, fun w hw1 => hw w (a7 w hw1), ⟨va_K.moved hsame a8.1, fm_N_same hvm.symm a8.2⟩, fm_X_same a9 hvm.symm hhp.symm, a10, by rw [hhp]; exact a11, hs1⟩
  have key := kk v mem' hpost p l e R s0 s1 m args below meth c D cI cC ad A cells slots H1 locs1 sl Q C1 hl hP1 (fm_D_mem hD) hS1 hR
  have e1 : ((v.toList ++ st).map (fm_cv ad)) = (v.map (fm_cv ad)).toList ++ st.map (fm_cv ad) := by cases v <;> rfl
  rw [e1] at key
  exact key

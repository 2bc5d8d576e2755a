/-! the law's own judgement: as fm_Go, and the script (place 4000) may be read -/
def fm_E (L : Nat) (xs : Nat → Int32) (ad : Nat → Nat) (A : Nat → Prop) (s : State) : Prop := va_X (ad 4000) L xs s s.heap ∧ ad 4000 < s.heap.size ∧ ¬ A (ad 4000)
theorem fm_E_same {L : Nat} {xs : Nat → Int32} {ad : Nat → Nat} {A : Nat → Prop} {u U : State} (h : fm_E L xs ad A u) (hv : u.vm = U.vm) (hh : u.heap = U.heap) : fm_E L xs ad A U := by
  obtain ⟨h1, h2, h3⟩ := h
  have ha : u.vm.Alike U.vm := by rw [hv]; exact Vm.Alike.refl _
  rw [hh] at h1 h2
  exact ⟨h1.moved ha, h2, h3⟩
def fm_GL (L : Nat) (xs : Nat → Int32) (lay : List fm_L) (d : Nat) (M : fm_Me) (Post : Option Value → fm_M → Prop) (pc : Nat) (ls : List (Option Value)) (st : List Value) (mem : fm_M) : Prop :=
  ∀ (p : Program) (l : Launch) (e : Env) (R : Room) (s0 s : State) (m : MethodId) (args : Array Value) (below : List Frame) (meth : Method) (c : Code) (D : va_G) (cI cC : ClassId) (ad : Nat → Nat) (A : Nat → Prop) (cells slots : Nat) (H : Heap) (locs : List Loc) (sl : Array Slot) (Q : State → Prop),
    fm_C d M p R s0 s m args meth c D cI cC ad A cells slots → fm_has ad M.2.2.1 sl ls → va_P D vwCl (fm_W ad cI cC lay mem) H → va_D A (fm_W ad cI cC lay mem) → va_S A s.heap H locs → fm_R lay M Post p l e R s0 m args below meth c D cI cC ad A cells slots Q → fm_E L xs ad A s →
      W p l e R s m args below meth c H locs cells slots Q (F0 m pc sl (st.map (fm_cv ad)))
theorem gl_iconst {L : Nat} {xs : Nat → Int32} {lay : List fm_L} {d : Nat} {M : fm_Me} {Post : Option Value → fm_M → Prop} {pc : Nat} {ls : List (Option Value)} {st : List Value} {mem : fm_M} {n : Int} {v : Int32} (hd : decode M.2.1 pc = .ok (.iconst n, 1)) (hv : Int32.ofInt n = v) (kk : fm_GL L xs lay d M Post (pc + 1) ls (.int v :: st) mem) : fm_GL L xs lay d M Post pc ls st mem := by
  intro p l e R s0 s m args below meth c D cI cC ad A cells slots H locs sl Q C hl hP hD hS hR hE
  exact lv_iconst C.1 C.2.1 hd hv (kk p l e R s0 s m args below meth c D cI cC ad A cells slots H locs sl Q C hl hP hD hS hR hE)
theorem gl_bipush {L : Nat} {xs : Nat → Int32} {lay : List fm_L} {d : Nat} {M : fm_Me} {Post : Option Value → fm_M → Prop} {pc : Nat} {ls : List (Option Value)} {st : List Value} {mem : fm_M} {n : Int} {v : Int32} (hd : decode M.2.1 pc = .ok (.bipush n, 2)) (hv : (Int8.ofInt n).toInt32 = v) (kk : fm_GL L xs lay d M Post (pc + 2) ls (.int v :: st) mem) : fm_GL L xs lay d M Post pc ls st mem := by
  intro p l e R s0 s m args below meth c D cI cC ad A cells slots H locs sl Q C hl hP hD hS hR hE
  exact lv_bipush C.1 C.2.1 hd hv (kk p l e R s0 s m args below meth c D cI cC ad A cells slots H locs sl Q C hl hP hD hS hR hE)
theorem gl_iload_n {L : Nat} {xs : Nat → Int32} {lay : List fm_L} {d : Nat} {M : fm_Me} {Post : Option Value → fm_M → Prop} {pc : Nat} {ls : List (Option Value)} {st : List Value} {mem : fm_M} {k : Fin 4} {i : Nat} {x : Int32} (hd : decode M.2.1 pc = .ok (.iload_n k, 1)) (hi : (k : Nat) = i) (hv : ls[i]? = some (some (.int x))) (kk : fm_GL L xs lay d M Post (pc + 1) ls (.int x :: st) mem) : fm_GL L xs lay d M Post pc ls st mem := by
  intro p l e R s0 s m args below meth c D cI cC ad A cells slots H locs sl Q C hl hP hD hS hR hE
  exact lv_iload_n C.1 C.2.1 hd hi (hl.2.2 _ _ hv).2 (kk p l e R s0 s m args below meth c D cI cC ad A cells slots H locs sl Q C hl hP hD hS hR hE)
theorem gl_aload_n {L : Nat} {xs : Nat → Int32} {lay : List fm_L} {d : Nat} {M : fm_Me} {Post : Option Value → fm_M → Prop} {pc : Nat} {ls : List (Option Value)} {st : List Value} {mem : fm_M} {k : Fin 4} {i : Nat} {x : Nat} (hd : decode M.2.1 pc = .ok (.aload_n k, 1)) (hi : (k : Nat) = i) (hv : ls[i]? = some (some (.ref x))) (kk : fm_GL L xs lay d M Post (pc + 1) ls (.ref x :: st) mem) : fm_GL L xs lay d M Post pc ls st mem := by
  intro p l e R s0 s m args below meth c D cI cC ad A cells slots H locs sl Q C hl hP hD hS hR hE
  exact lv_aload_n C.1 C.2.1 hd hi (hl.2.2 _ _ hv).2 (kk p l e R s0 s m args below meth c D cI cC ad A cells slots H locs sl Q C hl hP hD hS hR hE)
theorem gl_istore_n {L : Nat} {xs : Nat → Int32} {lay : List fm_L} {d : Nat} {M : fm_Me} {Post : Option Value → fm_M → Prop} {pc : Nat} {ls : List (Option Value)} {st : List Value} {mem : fm_M} {k : Fin 4} {i : Nat} {x : Int32} (hd : decode M.2.1 pc = .ok (.istore_n k, 1)) (hi : (k : Nat) = i) (hn : i < M.2.2.1) {ls1 : List (Option Value)} (h1 : ls.set i (some (.int x)) = ls1) (kk : fm_GL L xs lay d M Post (pc + 1) ls1 st mem) : fm_GL L xs lay d M Post pc ls (.int x :: st) mem := by
  intro p l e R s0 s m args below meth c D cI cC ad A cells slots H locs sl Q C hl hP hD hS hR hE
  subst h1
  exact lv_istore_n C.1 C.2.1 hd hi (fm_has_kn hl) hn rfl (fun sl1 hl1 => kk p l e R s0 s m args below meth c D cI cC ad A cells slots H locs sl1 Q C (fm_has_set hl rfl hl1) hP hD hS hR hE)
theorem gl_iinc {L : Nat} {xs : Nat → Int32} {lay : List fm_L} {d : Nat} {M : fm_Me} {Post : Option Value → fm_M → Prop} {pc : Nat} {ls : List (Option Value)} {st : List Value} {mem : fm_M} {i : Nat} {n : Int} {x v : Int32} (hd : decode M.2.1 pc = .ok (.iinc i n, 3)) (hx : ls[i]? = some (some (.int x))) (hv : x + Int32.ofInt n = v) (hn : i < M.2.2.1) {ls1 : List (Option Value)} (h1 : ls.set i (some (.int v)) = ls1) (kk : fm_GL L xs lay d M Post (pc + 3) ls1 st mem) : fm_GL L xs lay d M Post pc ls st mem := by
  intro p l e R s0 s m args below meth c D cI cC ad A cells slots H locs sl Q C hl hP hD hS hR hE
  subst h1
  obtain ⟨k, hk⟩ := List.getElem?_of_mem (fm_kn_in.mpr ⟨_, hx, rfl⟩ : (i, fm_cv ad (.int x)) ∈ fm_kn ad ls)
  exact lv_iinc (k := k) (x := x) C.1 C.2.1 hd (fm_has_kn hl) hk hv hn rfl (fun sl1 hl1 => kk p l e R s0 s m args below meth c D cI cC ad A cells slots H locs sl1 Q C (fm_has_set hl rfl hl1) hP hD hS hR hE)
theorem gl_iadd {L : Nat} {xs : Nat → Int32} {lay : List fm_L} {d : Nat} {M : fm_Me} {Post : Option Value → fm_M → Prop} {pc : Nat} {ls : List (Option Value)} {st : List Value} {mem : fm_M} {x y : Int32} (hd : decode M.2.1 pc = .ok (.iadd, 1)) (kk : fm_GL L xs lay d M Post (pc + 1) ls (.int (x + y) :: st) mem) : fm_GL L xs lay d M Post pc ls (.int y :: .int x :: st) mem := by
  intro p l e R s0 s m args below meth c D cI cC ad A cells slots H locs sl Q C hl hP hD hS hR hE
  exact lv_iadd C.1 C.2.1 hd (kk p l e R s0 s m args below meth c D cI cC ad A cells slots H locs sl Q C hl hP hD hS hR hE)
theorem gl_isub {L : Nat} {xs : Nat → Int32} {lay : List fm_L} {d : Nat} {M : fm_Me} {Post : Option Value → fm_M → Prop} {pc : Nat} {ls : List (Option Value)} {st : List Value} {mem : fm_M} {x y : Int32} (hd : decode M.2.1 pc = .ok (.isub, 1)) (kk : fm_GL L xs lay d M Post (pc + 1) ls (.int (x - y) :: st) mem) : fm_GL L xs lay d M Post pc ls (.int y :: .int x :: st) mem := by
  intro p l e R s0 s m args below meth c D cI cC ad A cells slots H locs sl Q C hl hP hD hS hR hE
  exact lv_isub C.1 C.2.1 hd (kk p l e R s0 s m args below meth c D cI cC ad A cells slots H locs sl Q C hl hP hD hS hR hE)
theorem gl_iand {L : Nat} {xs : Nat → Int32} {lay : List fm_L} {d : Nat} {M : fm_Me} {Post : Option Value → fm_M → Prop} {pc : Nat} {ls : List (Option Value)} {st : List Value} {mem : fm_M} {x y : Int32} (hd : decode M.2.1 pc = .ok (.iand, 1)) (kk : fm_GL L xs lay d M Post (pc + 1) ls (.int (x &&& y) :: st) mem) : fm_GL L xs lay d M Post pc ls (.int y :: .int x :: st) mem := by
  intro p l e R s0 s m args below meth c D cI cC ad A cells slots H locs sl Q C hl hP hD hS hR hE
  exact lv_iand C.1 C.2.1 hd (kk p l e R s0 s m args below meth c D cI cC ad A cells slots H locs sl Q C hl hP hD hS hR hE)
theorem gl_if_eq {L : Nat} {xs : Nat → Int32} {lay : List fm_L} {d : Nat} {M : fm_Me} {Post : Option Value → fm_M → Prop} {pc : Nat} {ls : List (Option Value)} {st : List Value} {mem : fm_M} {x : Int32} {off : Int} {tgt : Nat} (hd : decode M.2.1 pc = .ok (.ifCond .eq off, 3)) (ht : (pc : Int) + off = (tgt : Int)) (kt : x = 0 → fm_GL L xs lay d M Post tgt ls st mem) (kf : ¬ x = 0 → fm_GL L xs lay d M Post (pc + 3) ls st mem) : fm_GL L xs lay d M Post pc ls (.int x :: st) mem := by
  intro p l e R s0 s m args below meth c D cI cC ad A cells slots H locs sl Q C hl hP hD hS hR hE
  exact lv_if_eq C.1 C.2.1 hd ht (fun z => kt z p l e R s0 s m args below meth c D cI cC ad A cells slots H locs sl Q C hl hP hD hS hR hE) (fun z => kf z p l e R s0 s m args below meth c D cI cC ad A cells slots H locs sl Q C hl hP hD hS hR hE)
theorem gl_icmp_eq {L : Nat} {xs : Nat → Int32} {lay : List fm_L} {d : Nat} {M : fm_Me} {Post : Option Value → fm_M → Prop} {pc : Nat} {ls : List (Option Value)} {st : List Value} {mem : fm_M} {x y : Int32} {off : Int} {tgt : Nat} (hd : decode M.2.1 pc = .ok (.if_icmp .eq off, 3)) (ht : (pc : Int) + off = (tgt : Int)) (kt : x = y → fm_GL L xs lay d M Post tgt ls st mem) (kf : ¬ x = y → fm_GL L xs lay d M Post (pc + 3) ls st mem) : fm_GL L xs lay d M Post pc ls (.int y :: .int x :: st) mem := by
  intro p l e R s0 s m args below meth c D cI cC ad A cells slots H locs sl Q C hl hP hD hS hR hE
  exact lv_icmp_eq C.1 C.2.1 hd ht (fun z => kt z p l e R s0 s m args below meth c D cI cC ad A cells slots H locs sl Q C hl hP hD hS hR hE) (fun z => kf z p l e R s0 s m args below meth c D cI cC ad A cells slots H locs sl Q C hl hP hD hS hR hE)
theorem gl_icmp_gt {L : Nat} {xs : Nat → Int32} {lay : List fm_L} {d : Nat} {M : fm_Me} {Post : Option Value → fm_M → Prop} {pc : Nat} {ls : List (Option Value)} {st : List Value} {mem : fm_M} {x y : Int32} {off : Int} {tgt : Nat} (hd : decode M.2.1 pc = .ok (.if_icmp .gt off, 3)) (ht : (pc : Int) + off = (tgt : Int)) (kt : y < x → fm_GL L xs lay d M Post tgt ls st mem) (kf : ¬ y < x → fm_GL L xs lay d M Post (pc + 3) ls st mem) : fm_GL L xs lay d M Post pc ls (.int y :: .int x :: st) mem := by
  intro p l e R s0 s m args below meth c D cI cC ad A cells slots H locs sl Q C hl hP hD hS hR hE
  exact lv_icmp_gt C.1 C.2.1 hd ht (fun z => kt z p l e R s0 s m args below meth c D cI cC ad A cells slots H locs sl Q C hl hP hD hS hR hE) (fun z => kf z p l e R s0 s m args below meth c D cI cC ad A cells slots H locs sl Q C hl hP hD hS hR hE)
theorem gl_goto {L : Nat} {xs : Nat → Int32} {lay : List fm_L} {d : Nat} {M : fm_Me} {Post : Option Value → fm_M → Prop} {pc : Nat} {ls : List (Option Value)} {st : List Value} {mem : fm_M} {off : Int} {tgt : Nat} (hd : decode M.2.1 pc = .ok (.goto off, 3)) (ht : (pc : Int) + off = (tgt : Int)) (kk : fm_GL L xs lay d M Post tgt ls st mem) : fm_GL L xs lay d M Post pc ls st mem := by
  intro p l e R s0 s m args below meth c D cI cC ad A cells slots H locs sl Q C hl hP hD hS hR hE
  exact lv_goto C.1 C.2.1 hd ht (kk p l e R s0 s m args below meth c D cI cC ad A cells slots H locs sl Q C hl hP hD hS hR hE)
theorem gl_ret {L : Nat} {xs : Nat → Int32} {lay : List fm_L} {d : Nat} {M : fm_Me} {Post : Option Value → fm_M → Prop} {pc : Nat} {ls : List (Option Value)} {st : List Value} {mem : fm_M} {v : Option Value} (hr : fm_isR M pc v) (hp : Post v mem) (hst : st = v.toList) : fm_GL L xs lay d M Post pc ls st mem := by
  intro p l e R s0 s m args below meth c D cI cC ad A cells slots H locs sl Q C hl hP hD hS hR hE
  subst hst
  have e1 : (v.toList.map (fm_cv ad)) = (v.map (fm_cv ad)).toList := by cases v <;> rfl
  rw [e1]
  exact hR s H locs sl pc v mem C.2.2.2.2.2.2.2.2.2.2.2 hp hP hS hr
theorem gl_iret {L : Nat} {xs : Nat → Int32} {lay : List fm_L} {d : Nat} {M : fm_Me} {Post : Option Value → fm_M → Prop} {pc : Nat} {ls : List (Option Value)} {mem : fm_M} {x : Int32} (ty : FieldType) (hd : decode M.2.1 pc = .ok (.ireturn, 1)) (ht : M.2.2.2.1 = some ty) (hn : narrow ty (.int x) = .int x) (hp : Post (some (.int x)) mem) : fm_GL L xs lay d M Post pc ls [.int x] mem := gl_ret (v := some (.int x)) ⟨hd, ty, ht, hn⟩ hp rfl
theorem gl_callV {L : Nat} {xs : Nat → Int32} {lay : List fm_L} {d : Nat} {M : fm_Me} {Post : Option Value → fm_M → Prop} {pc : Nat} {ls : List (Option Value)} {st : List Value} {mem : fm_M} {M2 : fm_Me} {d2 n idx : Nat} {As st0 : List Value} {mem1 : fm_M} {PostC : Option Value → fm_M → Prop} {q ci N : Nat} {fl : List (Option (Option Nat))} {C0 : String} {T : u_T} (hd : decode M.2.1 pc = .ok (.invokevirtual idx, 3)) (hcal : fm_Met lay d2 M2 (.ref q :: As) mem PostC) (hdd : d2 + 1 ≤ d) (hce : fm_callee M2 n) (hlk : Cond.methodLink M.2.2.2.2 idx M2.1 ∈ fm_G) (hin : Cond.instanceMethod M2.1 ∈ fm_G) (hsel : Cond.selects C0 M2.1 M2.1 ∈ fm_G) (hc : fm_cls ci C0 T N) (he : lay[q]? = some (.inr (ci, fl))) (hn : As.length = n) (hst : (st.map fun v => v.category).sum ≤ 8) (hs0 : st0 = As.reverse ++ .ref q :: st) (kk : ∀ v mem2, PostC v mem2 → fm_GL L xs lay d M Post (pc + 3) ls (v.toList ++ st) mem2) : fm_GL L xs lay d M Post pc ls st0 mem := by
  intro p l e R s0 s m args below meth c D cI cC ad A cells slots H locs sl Q C hl hP hD hS hR hE
  subst hs0
  have hr := C.2.2.2.2.2.2.2.2.2.1
  have hts := C.2.2.2.2.2.2.1
  have hrun := va_runV_D (cs := lw_cs) (e := e) (R := R) (p := p) (l := l) (args := args) (c := c) (H := H) (locs := locs) (cells := cells) (slots := slots) (below := below) (meth := meth) (rest := st.map (fm_cv ad)) (As := As.map (fm_cv ad)) (g := F0 m pc sl ((As.reverse ++ .ref q :: st).map (fm_cv ad))) (b := ad q) (C := C0) ⟨C.1, C.2.1, C.2.2.1, C.2.2.2.2.1, hts⟩ (hcal l D cI cC ad H.size) ⟨fm_callB hce hts hdd ⟨hr.1, hr.2.1⟩ hlk, hts _ hin, hts _ hsel⟩
    ⟨fm_blind, va_recv C.2.2.2.2.2.2.2.1.1 hP hc.1 (fm_at he), fun U hU hW => fm_pre C.2.2.2.2.2.2.2.1 C.2.2.2.2.2.2.2.2.1 hP hD hS C.2.2.2.2.2.2.2.2.2.2.1 hU hW⟩ rfl (by rw [List.length_map]; exact hn) hl.1 (by show List.map _ _ = _; rw [List.map_append, List.map_reverse]; rfl) (by show 2 * 0 + _ ≤ 8; have := fm_st8 ad hst; omega) hd ⟨hr.2.2.1, hr.2.2.2⟩
  refine fm_back hrun C.2.2.2.2.2.2.2.2.2.2.2 hS (fm_Afree hD hS C.2.2.2.2.2.2.2.2.2.2.1) (fun v mem' H1 locs1 s1 hs1 hvm hhp hw hpost hP1 hS1 => ?_)
  obtain ⟨a1, a2, a3, a4, a5, a6, a7, a8, a9, a10, a11, a12⟩ := C
  have hsame : s.vm.Alike s1.vm := by rw [hvm]; exact Vm.Alike.refl _
  have C1 : fm_C d M p R s0 s1 m args meth c D cI cC ad A cells slots := ⟨a1, a2, a3, a4, by rw [hvm]; exact a5, a6, fun w hw1 => hw w (a7 w hw1), ⟨va_K.moved hsame a8.1, fm_N_same hvm.symm a8.2⟩, fm_X_same a9 hvm.symm hhp.symm, a10, by rw [hhp]; exact a11, hs1⟩
  have key := kk v mem' hpost p l e R s0 s1 m args below meth c D cI cC ad A cells slots H1 locs1 sl Q C1 hl hP1 (fm_D_mem hD) hS1 hR (fm_E_same hE hvm.symm hhp.symm)
  have e1 : ((v.toList ++ st).map (fm_cv ad)) = (v.map (fm_cv ad)).toList ++ st.map (fm_cv ad) := by cases v <;> rfl
  rw [e1] at key
  exact key
theorem gl_drop {L : Nat} {xs : Nat → Int32} {lay : List fm_L} {d : Nat} {M : fm_Me} {Post : Option Value → fm_M → Prop} {pc : Nat} {ls : List (Option Value)} {st : List Value} {mem : fm_M} (i : Nat) {ls1 : List (Option Value)} (h1 : ls.set i none = ls1) (kk : fm_GL L xs lay d M Post pc ls1 st mem) : fm_GL L xs lay d M Post pc ls st mem := by
  intro p l e R s0 s m args below meth c D cI cC ad A cells slots H locs sl Q C hl hP hD hS hR hE
  subst h1
  refine kk p l e R s0 s m args below meth c D cI cC ad A cells slots H locs sl Q C ⟨hl.1, hl.2.1, fun j v hj => hl.2.2 j v ?_⟩ hP hD hS hR hE
  rw [List.getElem?_set] at hj
  split at hj
  next => split at hj <;> cases hj
  next => exact hj
theorem gl_tswHit {L : Nat} {xs : Nat → Int32} {lay : List fm_L} {d : Nat} {M : fm_Me} {Post : Option Value → fm_M → Prop} {pc : Nat} {ls : List (Option Value)} {st : List Value} {mem : fm_M} {dflt lo hi : Int} {offs : Array Int} {len : Nat} {x v : Int32} {off : Int} {tgt : Nat} (hd : decode M.2.1 pc = .ok (.tableswitch dflt lo hi offs, len)) (hx : x = v) (h1 : ¬ v.toInt < lo) (h2 : ¬ hi < v.toInt) (ho : offs[(v.toInt - lo).toNat]? = some off) (ht : (pc : Int) + off = (tgt : Int)) (kk : fm_GL L xs lay d M Post tgt ls st mem) : fm_GL L xs lay d M Post pc ls (.int x :: st) mem := by
  intro p l e R s0 s m args below meth c D cI cC ad A cells slots H locs sl Q C hl hP hD hS hR hE
  subst hx
  exact lv_tableIn C.1 C.2.1 hd h1 h2 ho ht (kk p l e R s0 s m args below meth c D cI cC ad A cells slots H locs sl Q C hl hP hD hS hR hE)
theorem gl_tswMiss {L : Nat} {xs : Nat → Int32} {lay : List fm_L} {d : Nat} {M : fm_Me} {Post : Option Value → fm_M → Prop} {pc : Nat} {ls : List (Option Value)} {st : List Value} {mem : fm_M} {dflt lo hi : Int} {offs : Array Int} {len : Nat} {x : Int32} {tgt : Nat} (hd : decode M.2.1 pc = .ok (.tableswitch dflt lo hi offs, len)) (n : Nat) (hn : hi < lo + n) (hm : ∀ j, j < n → ¬ x.toInt = lo + j ∨ offs[j]? = some dflt) (ht : (pc : Int) + dflt = (tgt : Int)) (kk : fm_GL L xs lay d M Post tgt ls st mem) : fm_GL L xs lay d M Post pc ls (.int x :: st) mem := by
  intro p l e R s0 s m args below meth c D cI cC ad A cells slots H locs sl Q C hl hP hD hS hR hE
  by_cases ho : x.toInt < lo ∨ hi < x.toInt
  · exact lv_tableOut C.1 C.2.1 hd ho ht (kk p l e R s0 s m args below meth c D cI cC ad A cells slots H locs sl Q C hl hP hD hS hR hE)
  · have h1 : ¬ x.toInt < lo := fun z => ho (Or.inl z)
    have h2 : ¬ hi < x.toInt := fun z => ho (Or.inr z)
    rcases hm (x.toInt - lo).toNat (by omega) with h | h
    · exact absurd (by omega) h
    · exact lv_tableIn C.1 C.2.1 hd h1 h2 h ht (kk p l e R s0 s m args below meth c D cI cC ad A cells slots H locs sl Q C hl hP hD hS hR hE)
theorem gl_callVi {L : Nat} {xs : Nat → Int32} {lay : List fm_L} {d : Nat} {M : fm_Me} {Post : Option Value → fm_M → Prop} {pc : Nat} {ls : List (Option Value)} {st : List Value} {mem : fm_M} {M2 : fm_Me} {d2 n idx : Nat} {As st0 : List Value} {m2 : fm_M} {r : Int32} {q ci N : Nat} {fl : List (Option (Option Nat))} {C0 : String} {T : u_T} (hd : decode M.2.1 pc = .ok (.invokevirtual idx, 3)) (hcal : fm_Met lay d2 M2 (.ref q :: As) mem (fm_pi r m2)) (hdd : d2 + 1 ≤ d) (hce : fm_callee M2 n) (hlk : Cond.methodLink M.2.2.2.2 idx M2.1 ∈ fm_G) (hin : Cond.instanceMethod M2.1 ∈ fm_G) (hsel : Cond.selects C0 M2.1 M2.1 ∈ fm_G) (hc : fm_cls ci C0 T N) (he : lay[q]? = some (.inr (ci, fl))) (hn : As.length = n) (hst : (st.map fun v => v.category).sum ≤ 8) (hs0 : st0 = As.reverse ++ .ref q :: st) (kk : fm_GL L xs lay d M Post (pc + 3) ls (.int r :: st) m2) : fm_GL L xs lay d M Post pc ls st0 mem := gl_callV (mem1 := mem) hd hcal hdd hce hlk hin hsel hc he hn hst hs0 (fun v mem2 hv => by obtain ⟨rfl, rfl⟩ := hv; exact kk)
theorem gl_sld {L : Nat} {xs : Nat → Int32} {lay : List fm_L} {d : Nat} {M : fm_Me} {Post : Option Value → fm_M → Prop} {pc : Nat} {ls : List (Option Value)} {st : List Value} {mem : fm_M} {i : Int32} (hd : decode M.2.1 pc = .ok (.iaload, 1)) (hin : vp_in i L) (kk : fm_GL L xs lay d M Post (pc + 1) ls (.int (xs i.toNatClampNeg) :: st) mem) : fm_GL L xs lay d M Post pc ls (.int i :: .ref 4000 :: st) mem := by
  intro p l e R s0 s m args below meth c D cI cC ad A cells slots H locs sl Q C hl hP hD hS hR hE
  exact va_sld C.1 C.2.1 hE.1 hE.2.1 hE.2.2 hS hin hd (kk p l e R s0 s m args below meth c D cI cC ad A cells slots H locs sl Q C hl hP hD hS hR hE)
theorem gl_slen {L : Nat} {xs : Nat → Int32} {lay : List fm_L} {d : Nat} {M : fm_Me} {Post : Option Value → fm_M → Prop} {pc : Nat} {ls : List (Option Value)} {st : List Value} {mem : fm_M} (hd : decode M.2.1 pc = .ok (.arraylength, 1)) (kk : fm_GL L xs lay d M Post (pc + 1) ls (.int (Int32.ofNat L) :: st) mem) : fm_GL L xs lay d M Post pc ls (.ref 4000 :: st) mem := by
  intro p l e R s0 s m args below meth c D cI cC ad A cells slots H locs sl Q C hl hP hD hS hR hE
  exact va_slen C.1 C.2.1 hE.1 hE.2.1 hE.2.2 hS hd (kk p l e R s0 s m args below meth c D cI cC ad A cells slots H locs sl Q C hl hP hD hS hR hE)
abbrev m_L_law : fm_Me := (yL_law, cL_law, 8, some .boolean, RL)
theorem ml_L_13 : Cond.methodLink RL 13 yX6_come ∈ fm_G := fm_mem 249 (by decide +kernel) (by decide +kernel)
theorem ml_L_17 : Cond.methodLink RL 17 yX7_come ∈ fm_G := fm_mem 861 (by decide +kernel) (by decide +kernel)
theorem ml_L_18 : Cond.methodLink RL 18 yX6_withdraw ∈ fm_G := fm_mem 311 (by decide +kernel) (by decide +kernel)
theorem ml_L_22 : Cond.methodLink RL 22 yX7_withdraw ∈ fm_G := fm_mem 896 (by decide +kernel) (by decide +kernel)
theorem ml_L_23 : Cond.methodLink RL 23 yX6_voice ∈ fm_G := fm_mem 342 (by decide +kernel) (by decide +kernel)
theorem ml_L_27 : Cond.methodLink RL 27 yX7_voice ∈ fm_G := fm_mem 924 (by decide +kernel) (by decide +kernel)
theorem ml_L_28 : Cond.methodLink RL 28 yX6_choose ∈ fm_G := fm_mem 354 (by decide +kernel) (by decide +kernel)
theorem ml_L_31 : Cond.methodLink RL 31 yX7_choose ∈ fm_G := fm_mem 944 (by decide +kernel) (by decide +kernel)
theorem ml_L_32 : Cond.methodLink RL 32 yX6_leave ∈ fm_G := fm_mem 375 (by decide +kernel) (by decide +kernel)
theorem ml_L_35 : Cond.methodLink RL 35 yX7_leave ∈ fm_G := fm_mem 971 (by decide +kernel) (by decide +kernel)
theorem ml_L_36 : Cond.methodLink RL 36 yX6_feast ∈ fm_G := fm_mem 387 (by decide +kernel) (by decide +kernel)
theorem ml_L_39 : Cond.methodLink RL 39 yX7_feast ∈ fm_G := fm_mem 983 (by decide +kernel) (by decide +kernel)
theorem ml_L_40 : Cond.methodLink RL 40 yX6_breach ∈ fm_G := fm_mem 404 (by decide +kernel) (by decide +kernel)
theorem ml_L_43 : Cond.methodLink RL 43 yX7_breach ∈ fm_G := fm_mem 995 (by decide +kernel) (by decide +kernel)
theorem ml_L_44 : Cond.methodLink RL 44 yX6_pardon ∈ fm_G := fm_mem 415 (by decide +kernel) (by decide +kernel)
theorem ml_L_47 : Cond.methodLink RL 47 yX7_pardon ∈ fm_G := fm_mem 1007 (by decide +kernel) (by decide +kernel)
theorem ml_L_48 : Cond.methodLink RL 48 yX6_gift ∈ fm_G := fm_mem 423 (by decide +kernel) (by decide +kernel)
theorem ml_L_51 : Cond.methodLink RL 51 yX7_gift ∈ fm_G := fm_mem 1019 (by decide +kernel) (by decide +kernel)
theorem ml_L_52 : Cond.methodLink RL 52 yX6_weeks ∈ fm_G := fm_mem 435 (by decide +kernel) (by decide +kernel)
theorem ml_L_55 : Cond.methodLink RL 55 yX7_weeks ∈ fm_G := fm_mem 1034 (by decide +kernel) (by decide +kernel)
theorem ml_L_56 : Cond.methodLink RL 56 yX6_brotherOf ∈ fm_G := fm_mem 477 (by decide +kernel) (by decide +kernel)
theorem ml_L_59 : Cond.methodLink RL 59 yX7_brotherOf ∈ fm_G := fm_mem 1086 (by decide +kernel) (by decide +kernel)
theorem ml_L_60 : Cond.methodLink RL 60 yX6_broke ∈ fm_G := fm_mem 492 (by decide +kernel) (by decide +kernel)
theorem ml_L_63 : Cond.methodLink RL 63 yX7_broke ∈ fm_G := fm_mem 1098 (by decide +kernel) (by decide +kernel)
theorem ml_L_64 : Cond.methodLink RL 64 yX6_inCell ∈ fm_G := fm_mem 497 (by decide +kernel) (by decide +kernel)
theorem ml_L_67 : Cond.methodLink RL 67 yX7_inCell ∈ fm_G := fm_mem 1102 (by decide +kernel) (by decide +kernel)
theorem ml_L_68 : Cond.methodLink RL 68 yX6_entitled ∈ fm_G := fm_mem 503 (by decide +kernel) (by decide +kernel)
theorem ml_L_72 : Cond.methodLink RL 72 yX7_entitled ∈ fm_G := fm_mem 1106 (by decide +kernel) (by decide +kernel)
theorem ml_L_73 : Cond.methodLink RL 73 yX6_entitledAgain ∈ fm_G := fm_mem 508 (by decide +kernel) (by decide +kernel)
theorem ml_L_76 : Cond.methodLink RL 76 yX7_entitledAgain ∈ fm_G := fm_mem 1110 (by decide +kernel) (by decide +kernel)
theorem ml_L_77 : Cond.methodLink RL 77 yX6_voices ∈ fm_G := fm_mem 512 (by decide +kernel) (by decide +kernel)
theorem ml_L_80 : Cond.methodLink RL 80 yX7_voices ∈ fm_G := fm_mem 1114 (by decide +kernel) (by decide +kernel)
theorem ml_L_81 : Cond.methodLink RL 81 yX6_voicesAgain ∈ fm_G := fm_mem 517 (by decide +kernel) (by decide +kernel)
theorem ml_L_84 : Cond.methodLink RL 84 yX7_voicesAgain ∈ fm_G := fm_mem 1118 (by decide +kernel) (by decide +kernel)
theorem ml_L_85 : Cond.methodLink RL 85 yX6_ranked ∈ fm_G := fm_mem 525 (by decide +kernel) (by decide +kernel)
theorem ml_L_88 : Cond.methodLink RL 88 yX7_ranked ∈ fm_G := fm_mem 1122 (by decide +kernel) (by decide +kernel)
theorem ml_L_89 : Cond.methodLink RL 89 yX6_senior ∈ fm_G := fm_mem 530 (by decide +kernel) (by decide +kernel)
theorem ml_L_92 : Cond.methodLink RL 92 yX7_senior ∈ fm_G := fm_mem 1126 (by decide +kernel) (by decide +kernel)
theorem ml_L_93 : Cond.methodLink RL 93 yX6_shabby ∈ fm_G := fm_mem 538 (by decide +kernel) (by decide +kernel)
theorem ml_L_96 : Cond.methodLink RL 96 yX7_shabby ∈ fm_G := fm_mem 1130 (by decide +kernel) (by decide +kernel)
theorem ml_L_97 : Cond.methodLink RL 97 yX6_nextFeast ∈ fm_G := fm_mem 543 (by decide +kernel) (by decide +kernel)
theorem ml_L_100 : Cond.methodLink RL 100 yX7_nextFeast ∈ fm_G := fm_mem 1134 (by decide +kernel) (by decide +kernel)
theorem ml_L_101 : Cond.methodLink RL 101 yX6_wouldGet ∈ fm_G := fm_mem 548 (by decide +kernel) (by decide +kernel)
theorem ml_L_104 : Cond.methodLink RL 104 yX7_wouldGet ∈ fm_G := fm_mem 1074 (by decide +kernel) (by decide +kernel)
theorem ml_L_105 : Cond.methodLink RL 105 yX6_chestIn ∈ fm_G := fm_mem 553 (by decide +kernel) (by decide +kernel)
theorem ml_L_108 : Cond.methodLink RL 108 yX7_chestIn ∈ fm_G := fm_mem 1082 (by decide +kernel) (by decide +kernel)
theorem ml_L_109 : Cond.methodLink RL 109 yX6_append ∈ fm_G := fm_mem 557 (by decide +kernel) (by decide +kernel)
theorem ml_L_112 : Cond.methodLink RL 112 yX7_append ∈ fm_G := fm_mem 1138 (by decide +kernel) (by decide +kernel)
theorem ml_L_113 : Cond.methodLink RL 113 yX6_run ∈ fm_G := fm_mem 569 (by decide +kernel) (by decide +kernel)
theorem ml_L_116 : Cond.methodLink RL 116 yX7_run ∈ fm_G := fm_mem 1142 (by decide +kernel) (by decide +kernel)
theorem ml_L_117 : Cond.methodLink RL 117 yX6_tell ∈ fm_G := fm_mem 704 (by decide +kernel) (by decide +kernel)
theorem ml_L_120 : Cond.methodLink RL 120 yX7_tell ∈ fm_G := fm_mem 1182 (by decide +kernel) (by decide +kernel)
theorem ml_L_121 : Cond.methodLink RL 121 yX6_tellWaiting ∈ fm_G := fm_mem 717 (by decide +kernel) (by decide +kernel)
theorem ml_L_124 : Cond.methodLink RL 124 yX7_tellWaiting ∈ fm_G := fm_mem 1198 (by decide +kernel) (by decide +kernel)
theorem ml_L_125 : Cond.methodLink RL 125 yX6_character ∈ fm_G := fm_mem 725 (by decide +kernel) (by decide +kernel)
theorem ml_L_128 : Cond.methodLink RL 128 yX7_character ∈ fm_G := fm_mem 1206 (by decide +kernel) (by decide +kernel)
theorem ml_L_129 : Cond.methodLink RL 129 yX6_reason ∈ fm_G := fm_mem 730 (by decide +kernel) (by decide +kernel)
theorem ml_L_133 : Cond.methodLink RL 133 yX7_reason ∈ fm_G := fm_mem 857 (by decide +kernel) (by decide +kernel)
theorem ml_L_134 : Cond.methodLink RL 134 yX6_account ∈ fm_G := fm_mem 734 (by decide +kernel) (by decide +kernel)
theorem ml_L_137 : Cond.methodLink RL 137 yX7_account ∈ fm_G := fm_mem 1210 (by decide +kernel) (by decide +kernel)
theorem ml_L_138 : Cond.methodLink RL 138 yX6_isBalanced ∈ fm_G := fm_mem 748 (by decide +kernel) (by decide +kernel)
theorem ml_L_141 : Cond.methodLink RL 141 yX7_isBalanced ∈ fm_G := fm_mem 1218 (by decide +kernel) (by decide +kernel)
theorem ml_L_142 : Cond.methodLink RL 142 yX6_meanAge ∈ fm_G := fm_mem 756 (by decide +kernel) (by decide +kernel)
theorem ml_L_146 : Cond.methodLink RL 146 yX7_meanAge ∈ fm_G := fm_mem 1226 (by decide +kernel) (by decide +kernel)
theorem ml_L_147 : Cond.methodLink RL 147 yX6_entitledShare ∈ fm_G := fm_mem 760 (by decide +kernel) (by decide +kernel)
theorem ml_L_151 : Cond.methodLink RL 151 yX7_entitledShare ∈ fm_G := fm_mem 1230 (by decide +kernel) (by decide +kernel)
theorem ml_L_152 : Cond.methodLink RL 152 yX6_undo ∈ fm_G := fm_mem 765 (by decide +kernel) (by decide +kernel)
theorem ml_L_155 : Cond.methodLink RL 155 yX7_undo ∈ fm_G := fm_mem 1234 (by decide +kernel) (by decide +kernel)
theorem ml_L_156 : Cond.methodLink RL 156 yX6_save ∈ fm_G := fm_mem 777 (by decide +kernel) (by decide +kernel)
theorem ml_L_159 : Cond.methodLink RL 159 yX7_save ∈ fm_G := fm_mem 1238 (by decide +kernel) (by decide +kernel)
theorem ml_L_160 : Cond.methodLink RL 160 yX6_restore ∈ fm_G := fm_mem 781 (by decide +kernel) (by decide +kernel)
theorem ml_L_163 : Cond.methodLink RL 163 yX7_restore ∈ fm_G := fm_mem 1242 (by decide +kernel) (by decide +kernel)

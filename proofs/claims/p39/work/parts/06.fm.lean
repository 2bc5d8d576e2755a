/-! FLAT MEMORY: the objects that are reached never change in number behind the constructors; each has a place; ints by place and slot -/
abbrev fm_M : Type := Nat → Nat → Int32
/-- a place: an array (kind 0 int, 1 char; length), or an object (class, fields: an int in the memory, null, a place) -/
abbrev fm_L : Type := (Nat × Nat) ⊕ (Nat × List (Option (Option Nat)))
def fm_cv (ad : Nat → Nat) (v : Value) : Value := match v with
  | .ref q => .ref (ad q)
  | v => v
theorem fm_cv_cat (ad : Nat → Nat) (v : Value) : (fm_cv ad v).category = v.category := by cases v <;> rfl
def fm_fv (ad : Nat → Nat) (f : Nat → Int32) (j : Nat) (o : Option (Option Nat)) : Value := match o with
  | none => .int (f j)
  | some none => .null
  | some (some q) => .ref (ad q)
def fm_fs (ad : Nat → Nat) (f : Nat → Int32) (l : List (Option (Option Nat))) : List Value := l.mapIdx (fm_fv ad f)
def fm_e (ad : Nat → Nat) (cI cC : ClassId) (mem : fm_M) (k : Nat) (e : fm_L) : Nat × va_E := match e with
  | .inl (t, n) => (ad k, .inl (if t = 0 then cI else cC, n, .inl (mem k)))
  | .inr (ci, l) => (ad k, .inr (ci, fm_fs ad (mem k) l))
def fm_W (ad : Nat → Nat) (cI cC : ClassId) (lay : List fm_L) (mem : fm_M) : va_W := lay.mapIdx (fm_e ad cI cC mem)
theorem fm_e_1 (ad : Nat → Nat) (cI cC : ClassId) (mem : fm_M) (k : Nat) (e : fm_L) : (fm_e ad cI cC mem k e).1 = ad k := by
  obtain ⟨t, n⟩ | ⟨ci, l⟩ := e <;> rfl
theorem fm_at {ad : Nat → Nat} {cI cC : ClassId} {lay : List fm_L} {mem : fm_M} {k : Nat} {e : fm_L} (h : lay[k]? = some e) : (fm_W ad cI cC lay mem)[k]? = some (fm_e ad cI cC mem k e) := by
  unfold fm_W
  rw [List.getElem?_mapIdx, h]
  rfl
theorem fm_of {ad : Nat → Nat} {cI cC : ClassId} {lay : List fm_L} {mem : fm_M} {k : Nat} {p : Nat × va_E} (h : (fm_W ad cI cC lay mem)[k]? = some p) : ∃ e, lay[k]? = some e ∧ p = fm_e ad cI cC mem k e := by
  unfold fm_W at h
  rw [List.getElem?_mapIdx] at h
  cases hl : lay[k]? with
  | none => rw [hl] at h; cases h
  | some e => rw [hl] at h; exact ⟨e, rfl, (Option.some.inj h).symm⟩
/-- one place is written: the others stay -/
def fm_up (mem : fm_M) (k : Nat) (f : Nat → Int32) : fm_M := fun j => if j = k then f else mem j
abbrev fm_put (mem : fm_M) (k i : Nat) (x : Int32) : fm_M := fm_up mem k (upd (mem k) i x)
theorem fm_up_s (mem : fm_M) (k : Nat) (f : Nat → Int32) : fm_up mem k f k = f := by simp [fm_up]
theorem fm_up_n (mem : fm_M) (k : Nat) (f : Nat → Int32) {j : Nat} (h : j ≠ k) : fm_up mem k f j = mem j := by simp [fm_up, h]
theorem fm_e_n (ad : Nat → Nat) (cI cC : ClassId) (mem mem' : fm_M) (k : Nat) (e : fm_L) (h : mem' k = mem k) : fm_e ad cI cC mem' k e = fm_e ad cI cC mem k e := by
  obtain ⟨t, n⟩ | ⟨ci, l⟩ := e <;> simp only [fm_e, h]
theorem fm_set {ad : Nat → Nat} {cI cC : ClassId} {lay : List fm_L} {mem : fm_M} {k : Nat} {e : fm_L} {f : Nat → Int32} (h : lay[k]? = some e) : (fm_W ad cI cC lay mem).set k (fm_e ad cI cC (fm_up mem k f) k e) = fm_W ad cI cC lay (fm_up mem k f) := by
  have hl : k < lay.length := (List.getElem?_eq_some_iff.mp h).1
  apply List.ext_getElem?
  intro j
  by_cases hj : j = k
  · subst hj
    rw [fm_at h, List.getElem?_set_self (by unfold fm_W; rw [List.length_mapIdx]; exact hl)]
  · rw [List.getElem?_set_ne (Ne.symm hj)]
    unfold fm_W
    rw [List.getElem?_mapIdx, List.getElem?_mapIdx]
    cases hq : lay[j]? with
    | none => rfl
    | some e' =>
      show some _ = some _
      rw [fm_e_n ad cI cC mem (fm_up mem k f) j e' (fm_up_n mem k f hj)]
theorem fm_fs_get {ad : Nat → Nat} {f : Nat → Int32} {l : List (Option (Option Nat))} {k : Nat} {o : Option (Option Nat)} (h : l[k]? = some o) : (fm_fs ad f l)[k]? = some (fm_fv ad f k o) := by
  unfold fm_fs
  rw [List.getElem?_mapIdx, h]
  rfl
theorem fm_fs_set {ad : Nat → Nat} {f : Nat → Int32} {l : List (Option (Option Nat))} {k : Nat} {x : Int32} (h : l[k]? = some none) : (fm_fs ad f l).set k (.int x) = fm_fs ad (upd f k x) l := by
  have hl : k < l.length := (List.getElem?_eq_some_iff.mp h).1
  apply List.ext_getElem?
  intro j
  by_cases hj : j = k
  · subst hj
    rw [fm_fs_get h, List.getElem?_set_self (by unfold fm_fs; rw [List.length_mapIdx]; exact hl)]
    simp [fm_fv, upd]
  · rw [List.getElem?_set_ne (Ne.symm hj)]
    unfold fm_fs
    rw [List.getElem?_mapIdx, List.getElem?_mapIdx]
    cases hq : l[j]? with
    | none => rfl
    | some o =>
      show some _ = some _
      congr 1
      cases o with
      | none => simp [fm_fv, upd, hj]
      | some o => cases o <;> rfl
theorem fm_e_put {ad : Nat → Nat} {cI cC : ClassId} {mem : fm_M} {q ci k : Nat} {l : List (Option (Option Nat))} {x : Int32} (h : l[k]? = some none) : fm_e ad cI cC (fm_put mem q k x) q (.inr (ci, l)) = (ad q, .inr (ci, (fm_fs ad (mem q) l).set k (.int x))) := by
  show (ad q, Sum.inr (ci, fm_fs ad (fm_up mem q (upd (mem q) k x) q) l)) = _
  rw [fm_up_s, fm_fs_set h]
theorem fm_e_arr {ad : Nat → Nat} {cI cC : ClassId} {mem : fm_M} {q t n : Nat} {f : Nat → Int32} : fm_e ad cI cC (fm_up mem q f) q (.inl (t, n)) = (ad q, .inl (if t = 0 then cI else cC, n, .inl f)) := by
  show (ad q, Sum.inl (_, n, Sum.inl (fm_up mem q f q))) = _
  rw [fm_up_s]
/-- the cells' addresses: apart, and in A -/
def fm_ap (ad : Nat → Nat) (n : Nat) : Prop := ∀ i j, i < n → j < n → ad i = ad j → i = j
def fm_A (ad : Nat → Nat) (n sz : Nat) : Nat → Prop := fun q => (∃ k, k < n ∧ q = ad k) ∨ sz ≤ q
theorem fm_D {ad : Nat → Nat} {cI cC : ClassId} {lay : List fm_L} {mem : fm_M} {A : Nat → Prop} : va_D A (fm_W ad cI cC lay mem) ↔ (fm_ap ad lay.length ∧ ∀ i, i < lay.length → A (ad i)) := by
  constructor
  · intro h
    refine ⟨fun i j hi hj e => ?_, fun i hi => ?_⟩
    · obtain ⟨x, hx⟩ : ∃ x, lay[i]? = some x := ⟨lay[i], List.getElem?_eq_getElem hi⟩
      obtain ⟨y, hy⟩ : ∃ y, lay[j]? = some y := ⟨lay[j], List.getElem?_eq_getElem hj⟩
      exact h.1 i j _ _ (fm_at hx) (fm_at hy) (by rw [fm_e_1, fm_e_1]; exact e)
    · obtain ⟨x, hx⟩ : ∃ x, lay[i]? = some x := ⟨lay[i], List.getElem?_eq_getElem hi⟩
      have := h.2 i _ (fm_at (ad := ad) (cI := cI) (cC := cC) (mem := mem) hx)
      rw [fm_e_1] at this
      exact this
  · intro h
    refine ⟨fun i j p q hp hq e => ?_, fun i p hp => ?_⟩
    · obtain ⟨x, hx, rfl⟩ := fm_of hp
      obtain ⟨y, hy, rfl⟩ := fm_of hq
      rw [fm_e_1, fm_e_1] at e
      exact h.1 i j (List.getElem?_eq_some_iff.mp hx).1 (List.getElem?_eq_some_iff.mp hy).1 e
    · obtain ⟨x, hx, rfl⟩ := fm_of hp
      rw [fm_e_1]
      exact h.2 i (List.getElem?_eq_some_iff.mp hx).1
/-! the words -/
def fm_G : List Cond := lw_tbl.filter goodWord
theorem fm_mem {w : Cond} (i : Nat) (h : lw_tbl[i]? = some w) (hg : goodWord w = true) : w ∈ fm_G := List.mem_filter.mpr ⟨List.mem_of_getElem? h, hg⟩
theorem fm_good {w : Cond} (h : w ∈ fm_G) : (w.onTables && w.keeps) = true ∨ ∃ ty, w = .arrayClass ty := good_of_word (List.mem_filter.mp h).2
theorem fm_G_tbl {w : Cond} (h : w ∈ fm_G) : w ∈ lw_tbl := (List.mem_filter.mp h).1
def fm_N : List Cond := [.methodLinkNest "PittanceHouse" 21 ⟨"PittanceHouse$Deeds", "<init>", "()V"⟩ "PittanceHouse", .methodLinkNest "PittanceHouse$Deeds" 20 ⟨"PittanceHouse$Ranks", "<init>", "()V"⟩ "PittanceHouse", .methodLinkNest "PittanceHouse" 28 ⟨"PittanceHouse$Ranks", "<init>", "()V"⟩ "PittanceHouse", .methodLinkNest "PittanceHouse" 35 ⟨"PittanceHouse$History", "<init>", "()V"⟩ "PittanceHouse", .methodLinkNest "PittanceHouse" 42 ⟨"PittanceHouse$Orders", "<init>", "()V"⟩ "PittanceHouse", .methodLinkNest "PittanceHouse$Deeds" 73 ⟨"PittanceHouse", "isCell", "(I)Z"⟩ "PittanceHouse", .methodLinkNest "PittanceHouse$Deeds" 90 ⟨"PittanceHouse", "isRule", "(I)Z"⟩ "PittanceHouse"]
theorem fm_N_warm {s U : State} (hW : s.WarmedH U.vm) (h : ∀ w ∈ fm_N, va_Nw w s) : ∀ w ∈ fm_N, va_Nw w U := by
  unfold fm_N at h ⊢
  simp only [List.forall_mem_cons] at h ⊢
  obtain ⟨h0, h1, h2, h3, h4, h5, h6, -⟩ := h
  exact ⟨va_Nw.warmM hW h0, va_Nw.warmM hW h1, va_Nw.warmM hW h2, va_Nw.warmM hW h3, va_Nw.warmM hW h4, va_Nw.warmM hW h5, va_Nw.warmM hW h6, fun _ h => absurd h List.not_mem_nil⟩
theorem fm_N_same {u U : State} (hv : u.vm = U.vm) (h : ∀ w ∈ fm_N, va_Nw w u) : ∀ w ∈ fm_N, va_Nw w U := by
  have ht : ∀ w ∈ fm_N, w.onTables = true := by decide +kernel
  exact fun w hw => va_Nw.same (ht w hw) hv (h w hw)
def fm_cp : List Nat := [82, 84, 86, 88, 90, 92, 94, 96]
def fm_tx : List String := ["voice ", "choose ", "leave ", "breach ", "pardon ", "feast ", "gift ", "weeks "]
def fm_len : List Nat := [6, 7, 6, 7, 7, 6, 5, 6, 16, 18, 18, 17, 16, 19, 15, 19]
def fm_byt : List (List Int32) := [[118, 111, 105, 99, 101, 32], [99, 104, 111, 111, 115, 101, 32], [108, 101, 97, 118, 101, 32], [98, 114, 101, 97, 99, 104, 32], [112, 97, 114, 100, 111, 110, 32], [102, 101, 97, 115, 116, 32], [103, 105, 102, 116, 32], [119, 101, 101, 107, 115, 32], [99, 104, 111, 111, 115, 101, 32, 48, 59, 119, 101, 101, 107, 115, 32, 51], [118, 111, 105, 99, 101, 32, 48, 32, 51, 59, 99, 104, 111, 111, 115, 101, 32, 52], [98, 114, 101, 97, 99, 104, 32, 49, 32, 50, 59, 119, 101, 101, 107, 115, 32, 49], [102, 101, 97, 115, 116, 32, 51, 32, 53, 59, 119, 101, 101, 107, 115, 32, 56], [103, 105, 102, 116, 32, 52, 48, 59, 99, 104, 111, 111, 115, 101, 32, 50], [98, 114, 101, 97, 99, 104, 32, 48, 32, 48, 59, 112, 97, 114, 100, 111, 110, 32, 48], [108, 101, 97, 118, 101, 32, 49, 59, 119, 101, 101, 107, 115, 32, 50], [118, 111, 105, 99, 101, 32, 49, 32, 52, 59, 118, 111, 105, 99, 101, 32, 48, 32, 52]]
/-- Strings and statics: text i stands at the place 1000 + i -/
def fm_X (ad : Nat → Nat) (A : Nat → Prop) (U : State) : Prop := vk_S 16 fm_len fm_byt (fun i => ad (1000 + i)) (fun i => ad (2000 + i)) A U U.heap ∧ (∀ i, i < 8 → vk_R RX2 (fm_cp.getD i 0) (fm_tx.getD i "") (ad (1000 + i)) U) ∧ va_Z "java/lang/String" "COMPACT_STRINGS" "Z" (.int 1) A U U.heap ∧ (va_Z "jdk/internal/util/Preconditions" "SIOOBE_FORMATTER" "Ljava/util/function/BiFunction;" .null A U U.heap ∨ va_Z "jdk/internal/util/Preconditions" "SIOOBE_FORMATTER" "Ljava/util/function/BiFunction;" (.ref (ad 3000)) A U U.heap) ∧ va_Z RL "TEXTS" "[Ljava/lang/String;" (.ref (ad 3001)) A U U.heap ∧ va_T (.object "java/lang/String") (ad 3001) 8 (fun i => .ref (ad (1000 + (8 + i)))) A U U.heap
theorem fm_X_call {ad : Nat → Nat} {A A1 : Nat → Prop} {s U : State} {H : Heap} {locs : List Loc} (h : fm_X ad A s) (hU : U.heap = H) (hW : s.WarmedH U.vm) (hS : va_S A s.heap H locs) (hA : ∀ q, A1 q → A q) : fm_X ad A1 U := by
  obtain ⟨h1, h2, h3, h4, h5, h6⟩ := h
  refine ⟨?_, fun i hi => (h2 i hi).warm hW, ?_, ?_, ?_, ?_⟩
  · rw [hU]; exact ((h1.kept hS.2.1).narrow hA).moved hW.alike
  · rw [hU]; exact ((h3.kept hS.2.1).narrow hA).moved hW.alike
  · rw [hU]
    rcases h4 with h4 | h4
    · exact Or.inl (((h4.kept hS.2.1).narrow hA).moved hW.alike)
    · exact Or.inr (((h4.kept hS.2.1).narrow hA).moved hW.alike)
  · rw [hU]; exact ((h5.kept hS.2.1).narrow hA).moved hW.alike
  · rw [hU]; exact ((h6.kept hS.2.1).narrow hA).moved hW.alike
theorem fm_X_same {ad : Nat → Nat} {A : Nat → Prop} {u U : State} (h : fm_X ad A u) (hv : u.vm = U.vm) (hh : u.heap = U.heap) : fm_X ad A U := by
  obtain ⟨h1, h2, h3, h4, h5, h6⟩ := h
  have ha : u.vm.Alike U.vm := by rw [hv]; exact Vm.Alike.refl _
  rw [hh] at h1 h3 h4 h5 h6
  exact ⟨h1.moved ha, fun i hi => (h2 i hi).same hv.symm, h3.moved ha, h4.imp (fun h => h.moved ha) (fun h => h.moved ha), h5.moved ha, h6.moved ha⟩
def fm_K (D : va_G) (cI cC : ClassId) (U : State) : Prop := va_K D vwCl [(cI, .int), (cC, .int)] U ∧ ∀ w ∈ fm_N, va_Nw w U
/-- a method: its name, code, locals, what it returns, its class -/
abbrev fm_Me : Type := MethodName × ByteArray × Nat × Option FieldType × String
def fm_ws (M : fm_Me) : List Cond := .code M.1 M.2.1 M.2.2.1 M.2.2.2.1 :: fm_G
def fm_rm (d : Nat) : Room := { frames := d, cells := 0, slots := 0, locals := 27 * d }
def fm_At (D : va_G) (cI cC : ClassId) (ad : Nat → Nat) (lay : List fm_L) (mem : fm_M) (A : Nat → Prop) (U : State) : Prop := fm_K D cI cC U ∧ fm_X ad A U ∧ va_P D vwCl (fm_W ad cI cC lay mem) U.heap ∧ va_D A (fm_W ad cI cC lay mem)
def fm_Q (D : va_G) (cI cC : ClassId) (ad : Nat → Nat) (lay : List fm_L) (Post : Option Value → fm_M → Prop) (A : Nat → Prop) : Array Value → State → Outcome → State → Prop := fun _ st oc t => (∃ (v : Option Value) (mem' : fm_M), oc = .returned (v.map (fm_cv ad)) ∧ Post v mem' ∧ va_P D vwCl (fm_W ad cI cC lay mem') t.heap) ∧ va_F A st t
/-- METHOD M's CONTRACT: called with these arguments over this memory, it returns so that Post -/
def fm_Met (lay : List fm_L) (d : Nat) (M : fm_Me) (as : List Value) (mem : fm_M) (Post : Option Value → fm_M → Prop) : Prop :=
  ∀ (l : Launch) (D : va_G) (cI cC : ClassId) (ad : Nat → Nat) (sz : Nat), Met l M.1 (fm_ws M) (fm_rm d) (va_Pc (as.map (fm_cv ad)) (fun U => U.heap.size = sz ∧ fm_At D cI cC ad lay mem (fm_A ad lay.length sz) U)) (fm_Q D cI cC ad lay Post (fm_A ad lay.length sz)) 0 0 (fm_A ad lay.length sz)
def fm_dr (s0 s : State) : Prop := s = s0
def fm_C (d : Nat) (M : fm_Me) (p : Program) (R : Room) (s0 s : State) (m : MethodId) (args : Array Value) (meth : Method) (c : Code) (D : va_G) (cI cC : ClassId) (ad : Nat → Nat) (A : Nat → Prop) (cells slots : Nat) : Prop :=
  p.tables.exec = Jvm.exec ∧ c.code = M.2.1 ∧ c.maxLocals = M.2.2.1 ∧ meth.sig.returnType = M.2.2.2.1 ∧ s.vm.findClass M.2.2.2.2 = some m.cls ∧ meth.locks = false ∧ (∀ w ∈ fm_G, w.before args s = true) ∧ fm_K D cI cC s ∧ fm_X ad A s ∧ (d ≤ R.frames ∧ 27 * d ≤ R.locals ∧ cells ≤ R.cells ∧ slots ≤ R.slots) ∧ (∀ q, s.heap.size ≤ q → A q) ∧ fm_dr s0 s
def fm_has (ad : Nat → Nat) (nL : Nat) (sl : Array Slot) (ls : List (Option Value)) : Prop := sl.size = nL ∧ lv_wf sl ∧ ∀ (i : Nat) (v : Value), ls[i]? = some (some v) → v.category = 1 ∧ sl[i]? = some (.val (fm_cv ad v))
def fm_isR (M : fm_Me) (pc : Nat) (v : Option Value) : Prop := match v with
  | none => decode M.2.1 pc = .ok (.return_, 1) ∧ M.2.2.2.1 = none
  | some (.int x) => decode M.2.1 pc = .ok (.ireturn, 1) ∧ ∃ ty, M.2.2.2.1 = some ty ∧ narrow ty (.int x) = .int x
  | some (.ref _) => decode M.2.1 pc = .ok (.areturn, 1) ∧ ∃ n, M.2.2.2.1 = some (.object n)
  | some (.long _) => decode M.2.1 pc = .ok (.lreturn, 1) ∧ M.2.2.2.1 = some .long
  | _ => False
def fm_R (lay : List fm_L) (M : fm_Me) (Post : Option Value → fm_M → Prop) (p : Program) (l : Launch) (e : Env) (R : Room) (s0 : State) (m : MethodId) (args : Array Value) (below : List Frame) (meth : Method) (c : Code) (D : va_G) (cI cC : ClassId) (ad : Nat → Nat) (A : Nat → Prop) (cells slots : Nat) (Q : State → Prop) : Prop :=
  ∀ (s : State) (H : Heap) (locs : List Loc) (sl : Array Slot) (pc : Nat) (v : Option Value) (mem : fm_M), fm_dr s0 s → Post v mem → va_P D vwCl (fm_W ad cI cC lay mem) H → va_S A s.heap H locs → fm_isR M pc v → W p l e R s m args below meth c H locs cells slots Q (F0 m pc sl ((v.map (fm_cv ad)).toList))
/-- the machine, at pc of method M with these locals and this stack over this memory, comes to a return with Post -/
def fm_Go (lay : List fm_L) (d : Nat) (M : fm_Me) (Post : Option Value → fm_M → Prop) (pc : Nat) (ls : List (Option Value)) (st : List Value) (mem : fm_M) : Prop :=
  ∀ (p : Program) (l : Launch) (e : Env) (R : Room) (s0 s : State) (m : MethodId) (args : Array Value) (below : List Frame) (meth : Method) (c : Code) (D : va_G) (cI cC : ClassId) (ad : Nat → Nat) (A : Nat → Prop) (cells slots : Nat) (H : Heap) (locs : List Loc) (sl : Array Slot) (Q : State → Prop),
    fm_C d M p R s0 s m args meth c D cI cC ad A cells slots → fm_has ad M.2.2.1 sl ls → va_P D vwCl (fm_W ad cI cC lay mem) H → va_D A (fm_W ad cI cC lay mem) → va_S A s.heap H locs → fm_R lay M Post p l e R s0 m args below meth c D cI cC ad A cells slots Q →
      W p l e R s m args below meth c H locs cells slots Q (F0 m pc sl (st.map (fm_cv ad)))
theorem fm_D_mem {ad : Nat → Nat} {cI cC : ClassId} {lay : List fm_L} {mem mem' : fm_M} {A : Nat → Prop} (h : va_D A (fm_W ad cI cC lay mem)) : va_D A (fm_W ad cI cC lay mem') := fm_D.mpr (fm_D.mp h)
/-- the arguments as locals -/
def fm_ent (n : Nat) (as : List Value) : List (Option Value) := as.map some ++ List.replicate (n - as.length) none
theorem fm_args (ad : Nat → Nat) : ∀ (as : List Value) (k : Nat), (∀ v ∈ as, v.category = 1) → ∀ (i : Nat) (v : Value), as[i]? = some v → (k + i, fm_cv ad v) ∈ lv_args k (as.map (fm_cv ad)) := by
  intro as
  induction as with
  | nil => intro k _ i v h; simp at h
  | cons a as ih =>
    intro k hc i v h
    have ha : ¬ (fm_cv ad a).category = 2 := by rw [fm_cv_cat, hc a List.mem_cons_self]; decide
    show _ ∈ (k, fm_cv ad a) :: lv_args (if (fm_cv ad a).category = 2 then k + 2 else k + 1) (as.map (fm_cv ad))
    rw [if_neg ha]
    cases i with
    | zero => rw [List.getElem?_cons_zero] at h; cases h; exact List.mem_cons_self
    | succ i =>
      rw [List.getElem?_cons_succ] at h
      have := ih (k + 1) (fun v hv => hc v (List.mem_cons_of_mem _ hv)) i v h
      rw [show k + (i + 1) = k + 1 + i by omega]
      exact List.mem_cons_of_mem _ this
theorem fm_sl_len (ad : Nat → Nat) : ∀ (as : List Value), (∀ v ∈ as, v.category = 1) → (lg_sl (as.map (fm_cv ad))).length = as.length := by
  intro as
  induction as with
  | nil => intro _; rfl
  | cons a as ih =>
    intro hc
    have ha : ¬ (fm_cv ad a).category = 2 := by rw [fm_cv_cat, hc a List.mem_cons_self]; decide
    have h1 : lg_sl ((a :: as).map (fm_cv ad)) = [.val (fm_cv ad a)] ++ lg_sl (as.map (fm_cv ad)) := by
      simp only [lg_sl, List.map_cons, List.flatMap_cons, if_neg ha]
    rw [h1, List.length_append, ih (fun v hv => hc v (List.mem_cons_of_mem _ hv))]
    simp; omega
theorem fm_entry (ad : Nat → Nat) {as : List Value} {n : Nat} (hc : ∀ v ∈ as, v.category = 1) (hn : as.length ≤ n) : fm_has ad n ((lg_sl (as.map (fm_cv ad)) ++ List.replicate (n - (lg_sl (as.map (fm_cv ad))).length) Slot.unset).toArray) (fm_ent n as) := by
  have hl := lv_entry (as.map (fm_cv ad)) (n := n) (by rw [fm_sl_len ad as hc]; exact hn)
  refine ⟨hl.1, hl.2.1, fun i v h => ?_⟩
  have h1 : as[i]? = some v := by
    unfold fm_ent at h
    by_cases hi : i < as.length
    · rw [List.getElem?_append_left (by rw [List.length_map]; exact hi), List.getElem?_map] at h
      cases hq : as[i]? with
      | none => rw [hq] at h; cases h
      | some w => rw [hq] at h; cases h; rfl
    · rw [List.getElem?_append_right (by rw [List.length_map]; omega), List.getElem?_replicate] at h
      split at h <;> cases h
  refine ⟨hc v (List.mem_of_getElem? h1), ?_⟩
  have h2 := hl.2.2 _ (fm_args ad as 0 hc i v h1)
  rw [Nat.zero_add] at h2
  exact h2
set_option maxHeartbeats 4000000 in
/-- a method's contract out of the walk of its body -/
theorem fm_Met_of {lay : List fm_L} {d : Nat} {M : fm_Me} {as : List Value} {mem : fm_M} {Post : Option Value → fm_M → Prop} {ls : List (Option Value)} (hy : plainName M.1.cls = true) (how : M.2.2.2.2 = M.1.cls) (hc : ∀ v ∈ as, v.category = 1) (hn : as.length ≤ M.2.2.1) (hls : fm_ent M.2.2.1 as = ls) (body : fm_Go lay d M Post 0 ls [] mem) : fm_Met lay d M as mem Post := by
  subst hls
  intro l D cI cC ad sz
  refine Met.ofW (cc := M.2.1) (maxL := M.2.2.1) (ret := M.2.2.2.1) hy rfl ?_
  intro p e s m args below meth c s₁ B hml hv
  obtain ⟨rfl, hsz, hK, hX, hP, hD⟩ := hv
  have hts := atoms_spec (ws := fm_ws M) B.pre
  have hlocks := B.notSynchronized
  subst hsz
  rw [lg_entry_eq]
  refine body p l e _ s s m _ below meth c D cI cC ad (fm_A ad lay.length s.heap.size) 0 0 s.heap [] _ _ ⟨B.exec, B.bytes, hml, B.returns, by rw [how]; exact findClass_of_methodNamed B.named, hlocks, fun w hw => hts w (List.mem_cons_of_mem _ hw), hK, hX, ⟨Nat.le_refl _, Nat.le_refl _, Nat.zero_le _, Nat.zero_le _⟩, fun q h => Or.inr h, rfl⟩ (fm_entry ad hc hn) hP hD va_S.rf ?_
  intro s' H' locs' sl' pc' v mem' e1 hPost hP' hS' hret
  have e2 : s = s' := Eq.symm e1
  subst e2
  have hq : ∀ t : State, t.heap = H' → s.WarmedH t.vm → fm_Q D cI cC ad lay Post (fm_A ad lay.length s.heap.size) (as.map (fm_cv ad)).toArray s (.returned (v.map (fm_cv ad))) t := fun t ht hW => ⟨⟨v, mem', rfl, hPost, by rw [ht]; exact hP'⟩, hS'.F ht⟩
  cases v with
  | none => exact W.vret B.exec B.bytes (by rw [B.returns]; exact hret.2) hq hS'.2.2 hret.1
  | some v =>
    cases v with
    | int x => obtain ⟨h1, ty, h2, h3⟩ := hret; exact W.zret B.exec B.bytes (ty := ty) (by rw [B.returns]; exact h2) h3 hq hS'.2.2 h1
    | ref a => obtain ⟨h1, n, h2⟩ := hret; exact W.aret B.exec B.bytes (rt := .object n) (by rw [B.returns]; exact h2) (Or.inl ⟨n, rfl⟩) (Or.inr ⟨_, rfl⟩) hq hS'.2.2 h1
    | long x => exact W.lret B.exec B.bytes (by rw [B.returns]; exact hret.2) hq hS'.2.2 hret.1
    | _ => exact hret.elim

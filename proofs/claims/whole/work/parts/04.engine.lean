/-! ===== methods, and what holds at a place of a method =====
ps_M: own class, name, bytes, locals, answer's type, cells and slots that stand for the room, the script (the law's alone) -/
abbrev ps_M : Type := String × MethodName × ByteArray × Nat × Option FieldType × (Nat × Nat) × Option (Nat × (Nat → Int32))
abbrev ps_own (M : ps_M) : String := M.1
abbrev ps_y (M : ps_M) : MethodName := M.2.1
abbrev ps_code (M : ps_M) : ByteArray := M.2.2.1
abbrev ps_maxL (M : ps_M) : Nat := M.2.2.2.1
abbrev ps_ret (M : ps_M) : Option FieldType := M.2.2.2.2.1
abbrev ps_cs (M : ps_M) : Nat := M.2.2.2.2.2.1.1
abbrev ps_ss (M : ps_M) : Nat := M.2.2.2.2.2.1.2
abbrev ps_sc (M : ps_M) : Option (Nat × (Nat → Int32)) := M.2.2.2.2.2.2
abbrev ps_L : Type := List (Option ps_V)
def ps_LR (G : ps_G) (ls : Array Slot) (n : Nat) (L : ps_L) : Prop := ls.size = n ∧ lv_wf ls ∧ ∀ (i : Nat) (v : ps_V), L[i]? = some (some v) → ls[i]? = some (.val (ps_cv G v)) ∧ (ps_cv G v).category = 1 ∧ ps_ok v
def ps_SX (G : ps_G) (s : State) (X : Option (Nat × (Nat → Int32))) : Prop := match X with
  | none => True
  | some q => ¬ ps_A G (G.1 0 0) ∧ G.1 0 0 < s.heap.size ∧ va_X (G.1 0 0) q.1 q.2 s s.heap
/-- links to fields of nest mates: these words aren't carried by a contract's own list -/
def ps_nest (U : State) : Prop := ∀ (a : String) (i : Nat) (b n d h : String), Cond.fieldLinkNest a i b n d h ∈ lw_tbl → va_Nw (.fieldLinkNest a i b n d h) U
def ps_Cx (M : ps_M) (d : Nat) (G : ps_G) (p : Program) (R : Room) (s : State) (m : MethodId) (args : Array Value) (meth : Method) (c : Code) : Prop :=
  p.tables.exec = Jvm.exec ∧ c.code = ps_code M ∧ c.maxLocals = ps_maxL M ∧ meth.sig.returnType = ps_ret M ∧ s.vm.findClass (ps_own M) = some m.cls ∧ (∀ w ∈ lw_tbl, goodWord w = true → w.before args s = true) ∧ meth.locks = false ∧
  (d ≤ R.frames ∧ 40 * d ≤ R.locals ∧ ps_cs M ≤ R.cells ∧ ps_ss M ≤ R.slots) ∧ va_K G.2.1 ps_cls (ps_tys G) s ∧ ps_SX G s (ps_sc M) ∧ ps_nest s
/-- what a place of a method may rely on -/
def ps_I (M : ps_M) (d : Nat) (G : ps_G) (p : Program) (R : Room) (s : State) (m : MethodId) (args : Array Value) (meth : Method) (c : Code) (H : Heap) (locs : List Loc) (ls : Array Slot) (L : ps_L) (st : List ps_V) (σ : ps_S) : Prop :=
  ps_Cx M d G p R s m args meth c ∧ ps_LR G ls (ps_maxL M) L ∧ (∀ v ∈ st, ps_ok v) ∧ va_P G.2.1 ps_cls (ps_ws G σ) H ∧ va_D (ps_A G) (ps_ws G σ) ∧ va_S (ps_A G) s.heap H locs
abbrev ps_F : Type := ps_G → State → Array Value → List Frame → State → Prop
/-- from this place, with these locals, this stack and this memory, the method comes to its end as told -/
def ps_K (M : ps_M) (d : Nat) (F : ps_F) (pc : Nat) (L : ps_L) (st : List ps_V) (σ : ps_S) : Prop :=
  ∀ (G : ps_G) (p : Program) (l : Launch) (e : Env) (R : Room) (s : State) (m : MethodId) (args : Array Value) (below : List Frame) (meth : Method) (c : Code) (H : Heap) (locs : List Loc) (ls : Array Slot),
    ps_I M d G p R s m args meth c H locs ls L st σ → W p l e R s m args below meth c H locs (ps_cs M) (ps_ss M) (F G s args below) (F0 m pc ls (st.map (ps_cv G)))
/-- a method's end: its answer and the memory are as told -/
def ps_Qc (G : ps_G) (Q : Option ps_V → ps_S → Prop) : Array Value → State → Outcome → State → Prop := fun _ st oc t =>
  (∃ (r : Option ps_V) (σ : ps_S), oc = .returned (r.map (ps_cv G)) ∧ (∀ v, r = some v → ps_ok v) ∧ Q r σ ∧ va_P G.2.1 ps_cls (ps_ws G σ) t.heap) ∧ va_F (ps_A G) st t
def ps_QF (Q : Option ps_V → ps_S → Prop) : ps_F := fun G s args below => MQ below (ps_Qc G Q) args s 0 0 (ps_A G)
def ps_words (M : ps_M) : List Cond := .code (ps_y M) (ps_code M) (ps_maxL M) (ps_ret M) :: lw_tbl.filter goodWord
abbrev ps_rm (d : Nat) : Room := { frames := d, cells := 0, slots := 0, locals := 40 * d }
def ps_Pre (G : ps_G) (σ : ps_S) (U : State) : Prop := va_P G.2.1 ps_cls (ps_ws G σ) U.heap ∧ va_K G.2.1 ps_cls (ps_tys G) U ∧ va_D (ps_A G) (ps_ws G σ) ∧ ps_nest U
/-- a method's contract: with these arguments in this memory it ends, within d frames, as told -/
def ps_C (M : ps_M) (d : Nat) (av : List ps_V) (σ : ps_S) (Q : Option ps_V → ps_S → Prop) : Prop :=
  (∀ v ∈ av, ps_ok v) → ∀ (G : ps_G) (l : Launch), Met l (ps_y M) (ps_words M) (ps_rm d) (va_Pc (av.map (ps_cv G)) (ps_Pre G σ)) (ps_Qc G Q) 0 0 (ps_A G)
theorem ps_goodIn {M : ps_M} (h : Cond.code (ps_y M) (ps_code M) (ps_maxL M) (ps_ret M) ∈ lw_tbl) : GoodIn (lw_tbl.filter goodWord) (ps_words M) := by
  intro w hw
  rcases List.mem_cons.mp hw with e | hw
  · subst e
    exact ⟨List.mem_filter.mpr ⟨h, rfl⟩, Or.inl rfl⟩
  · exact ⟨hw, good_of_word (List.mem_filter.mp hw).2⟩
section PSK
variable {M : ps_M} {d pc : Nat} {F : ps_F} {L L' : ps_L} {st : List ps_V} {σ : ps_S}
theorem ps_I.to {G : ps_G} {p : Program} {R : Room} {s : State} {m : MethodId} {args : Array Value} {meth : Method} {c : Code} {H : Heap} {locs : List Loc} {ls : Array Slot} {st' : List ps_V} (h : ps_I M d G p R s m args meth c H locs ls L st σ) (hs : ∀ v ∈ st', ps_ok v) : ps_I M d G p R s m args meth c H locs ls L st' σ :=
  ⟨h.1, h.2.1, hs, h.2.2.2⟩
theorem ps_ok_i {x : Int32} (h : ∀ v ∈ st, ps_ok v) : ∀ v ∈ ((.inl x : ps_V) :: st), ps_ok v := fun v hv => by
  rcases List.mem_cons.mp hv with e | q
  · subst e; exact trivial
  · exact h v q
theorem ps_ok_l {x : Int64} (h : ∀ v ∈ st, ps_ok v) : ∀ v ∈ ((.inr (.inl x) : ps_V) :: st), ps_ok v := fun v hv => by
  rcases List.mem_cons.mp hv with e | q
  · subst e; exact trivial
  · exact h v q
theorem ps_ok_c {v0 : ps_V} (h0 : ps_ok v0) (h : ∀ v ∈ st, ps_ok v) : ∀ v ∈ (v0 :: st), ps_ok v := fun v hv => by
  rcases List.mem_cons.mp hv with e | q
  · subst e; exact h0
  · exact h v q
theorem ps_ok_t {v0 : ps_V} (h : ∀ v ∈ (v0 :: st), ps_ok v) : ∀ v ∈ st, ps_ok v := fun v hv => h v (List.mem_cons_of_mem _ hv)
theorem ps_ok_t2 {v0 v1 : ps_V} (h : ∀ v ∈ (v0 :: v1 :: st), ps_ok v) : ∀ v ∈ st, ps_ok v := ps_ok_t (ps_ok_t h)
-- constants
theorem ps_iconst {n : Int} {x : Int32} (hd : decode (ps_code M) pc = .ok (.iconst n, 1)) (hv : Int32.ofInt n = x) (k : ps_K M d F (pc + 1) L (.inl x :: st) σ) : ps_K M d F pc L st σ :=
  fun G p l e R s m args below meth c H locs ls hI => lv_iconst hI.1.1 hI.1.2.1 hd hv (k G p l e R s m args below meth c H locs ls (hI.to (ps_ok_i hI.2.2.1)))
theorem ps_bipush {n : Int} {x : Int32} (hd : decode (ps_code M) pc = .ok (.bipush n, 2)) (hv : (Int8.ofInt n).toInt32 = x) (k : ps_K M d F (pc + 2) L (.inl x :: st) σ) : ps_K M d F pc L st σ :=
  fun G p l e R s m args below meth c H locs ls hI => lv_bipush hI.1.1 hI.1.2.1 hd hv (k G p l e R s m args below meth c H locs ls (hI.to (ps_ok_i hI.2.2.1)))
theorem ps_sipush {n : Int} {x : Int32} (hd : decode (ps_code M) pc = .ok (.sipush n, 3)) (hv : (Int16.ofInt n).toInt32 = x) (k : ps_K M d F (pc + 3) L (.inl x :: st) σ) : ps_K M d F pc L st σ :=
  fun G p l e R s m args below meth c H locs ls hI => lv_sipush hI.1.1 hI.1.2.1 hd hv (k G p l e R s m args below meth c H locs ls (hI.to (ps_ok_i hI.2.2.1)))
theorem ps_ldc {index : Nat} {x : Int32} (hd : decode (ps_code M) pc = .ok (.ldc index, 2)) (hw : Cond.constant (ps_own M) index x ∈ lw_tbl) (k : ps_K M d F (pc + 2) L (.inl x :: st) σ) : ps_K M d F pc L st σ :=
  fun G p l e R s m args below meth c H locs ls hI => lv_ldc hI.1.1 hI.1.2.1 hI.1.2.2.2.2.1 (hI.1.2.2.2.2.2.1 _ hw rfl) hd (k G p l e R s m args below meth c H locs ls (hI.to (ps_ok_i hI.2.2.1)))
theorem ps_ldcw {index : Nat} {x : Int32} (hd : decode (ps_code M) pc = .ok (.ldc_w index, 3)) (hw : Cond.constant (ps_own M) index x ∈ lw_tbl) (k : ps_K M d F (pc + 3) L (.inl x :: st) σ) : ps_K M d F pc L st σ :=
  fun G p l e R s m args below meth c H locs ls hI => lv_ldcw hI.1.1 hI.1.2.1 hI.1.2.2.2.2.1 (hI.1.2.2.2.2.2.1 _ hw rfl) hd (k G p l e R s m args below meth c H locs ls (hI.to (ps_ok_i hI.2.2.1)))
theorem ps_ldc2 {index : Nat} {x : Int64} (hd : decode (ps_code M) pc = .ok (.ldc2_w index, 3)) (hw : Cond.constantLong (ps_own M) index x ∈ lw_tbl) (k : ps_K M d F (pc + 3) L (.inr (.inl x) :: st) σ) : ps_K M d F pc L st σ :=
  fun G p l e R s m args below meth c H locs ls hI => lv_ldc2 hI.1.1 hI.1.2.1 hI.1.2.2.2.2.1 (hI.1.2.2.2.2.2.1 _ hw rfl) hd (k G p l e R s m args below meth c H locs ls (hI.to (ps_ok_l hI.2.2.1)))
theorem ps_lconst {n : Fin 2} {x : Int64} (hd : decode (ps_code M) pc = .ok (.lconst n, 1)) (hv : Int64.ofNat (n : Nat) = x) (k : ps_K M d F (pc + 1) L (.inr (.inl x) :: st) σ) : ps_K M d F pc L st σ :=
  fun G p l e R s m args below meth c H locs ls hI => lv_lconst hI.1.1 hI.1.2.1 hd hv (k G p l e R s m args below meth c H locs ls (hI.to (ps_ok_l hI.2.2.1)))
theorem ps_i2l {x : Int32} (hd : decode (ps_code M) pc = .ok (.i2l, 1)) (k : ps_K M d F (pc + 1) L (.inr (.inl x.toInt64) :: st) σ) : ps_K M d F pc L (.inl x :: st) σ :=
  fun G p l e R s m args below meth c H locs ls hI => lv_i2l hI.1.1 hI.1.2.1 hd rfl (k G p l e R s m args below meth c H locs ls (hI.to (ps_ok_l (ps_ok_t hI.2.2.1))))
-- locals
theorem ps_iload_n {n : Fin 4} {i : Nat} {x : Int32} (hd : decode (ps_code M) pc = .ok (.iload_n n, 1)) (hi : (n : Nat) = i) (hl : L[i]? = some (some (.inl x))) (k : ps_K M d F (pc + 1) L (.inl x :: st) σ) : ps_K M d F pc L st σ :=
  fun G p l e R s m args below meth c H locs ls hI => lv_iload_n hI.1.1 hI.1.2.1 hd hi (hI.2.1.2.2 i _ hl).1 (k G p l e R s m args below meth c H locs ls (hI.to (ps_ok_i hI.2.2.1)))
theorem ps_iload {i : Nat} {x : Int32} (hd : decode (ps_code M) pc = .ok (.iload i, 2)) (hl : L[i]? = some (some (.inl x))) (k : ps_K M d F (pc + 2) L (.inl x :: st) σ) : ps_K M d F pc L st σ :=
  fun G p l e R s m args below meth c H locs ls hI => lv_iload hI.1.1 hI.1.2.1 hd (hI.2.1.2.2 i _ hl).1 (k G p l e R s m args below meth c H locs ls (hI.to (ps_ok_i hI.2.2.1)))
theorem ps_aload_n {n : Fin 4} {i : Nat} {q : Nat × Nat} (hd : decode (ps_code M) pc = .ok (.aload_n n, 1)) (hi : (n : Nat) = i) (hl : L[i]? = some (some (.inr (.inr q)))) (k : ps_K M d F (pc + 1) L (.inr (.inr q) :: st) σ) : ps_K M d F pc L st σ :=
  fun G p l e R s m args below meth c H locs ls hI => lv_aload_n hI.1.1 hI.1.2.1 hd hi (hI.2.1.2.2 i _ hl).1 (k G p l e R s m args below meth c H locs ls (hI.to (ps_ok_c (hI.2.1.2.2 i _ hl).2.2 hI.2.2.1)))
theorem ps_LR_set {G : ps_G} {ls ls' : Array Slot} {n i : Nat} {v : ps_V} (h : ps_LR G ls n L) (hc : (ps_cv G v).category = 1) (ho : ps_ok v) (hl : L.set i (some v) = L') {w : Value} (hw : w = ps_cv G v)
    (h' : lv_has ls' n ((i, w) :: (((List.range n).filterMap (fun j => match L[j]? with | some (some u) => some (j, ps_cv G u) | _ => none)).filter (fun q => !(q.1 == i) && !(q.1 + 1 == i && q.2.category == 2))))) : ps_LR G ls' n L' := by
  subst hl
  subst hw
  refine ⟨h'.1, h'.2.1, fun j u hj => ?_⟩
  by_cases e : i = j
  · subst e
    have hlt : i < L.length := by
      have := (List.getElem?_eq_some_iff.mp hj).1
      rwa [List.length_set] at this
    rw [List.getElem?_set_self hlt] at hj
    cases hj
    exact ⟨h'.2.2 (i, ps_cv G v) List.mem_cons_self, hc, ho⟩
  · rw [List.getElem?_set_ne e] at hj
    obtain ⟨g1, g2, g3⟩ := h.2.2 j u hj
    refine ⟨h'.2.2 (j, ps_cv G u) (List.mem_cons_of_mem _ (List.mem_filter.mpr ⟨List.mem_filterMap.mpr ⟨j, List.mem_range.mpr ?_, ?_⟩, ?_⟩)), g2, g3⟩
    · rw [← h.1]
      exact lv_lt g1
    · simp [hj]
    · have e2 : j ≠ i := fun q => e q.symm
      simp [g2, e2]
theorem ps_LR_has {G : ps_G} {ls : Array Slot} {n : Nat} (h : ps_LR G ls n L) : lv_has ls n ((List.range n).filterMap (fun j => match L[j]? with | some (some u) => some (j, ps_cv G u) | _ => none)) := by
  refine ⟨h.1, h.2.1, fun q hq => ?_⟩
  obtain ⟨j, -, hj⟩ := List.mem_filterMap.mp hq
  cases hL : L[j]? with
  | none => rw [hL] at hj; cases hj
  | some o =>
    cases o with
    | none => rw [hL] at hj; cases hj
    | some u =>
      rw [hL] at hj
      cases hj
      exact (h.2.2 j u hL).1
theorem ps_istore_n {n : Fin 4} {i : Nat} {x : Int32} (hd : decode (ps_code M) pc = .ok (.istore_n n, 1)) (hi : (n : Nat) = i) (hn : i < ps_maxL M) (hl : L.set i (some (.inl x)) = L') (k : ps_K M d F (pc + 1) L' st σ) : ps_K M d F pc L (.inl x :: st) σ :=
  fun G p l e R s m args below meth c H locs ls hI => lv_istore_n hI.1.1 hI.1.2.1 hd hi (ps_LR_has hI.2.1) hn rfl (fun ls' h' => k G p l e R s m args below meth c H locs ls' ⟨hI.1, ps_LR_set (v := .inl x) hI.2.1 rfl trivial hl rfl h', ps_ok_t hI.2.2.1, hI.2.2.2⟩)
theorem ps_istore {i : Nat} {x : Int32} (hd : decode (ps_code M) pc = .ok (.istore i, 2)) (hn : i < ps_maxL M) (hl : L.set i (some (.inl x)) = L') (k : ps_K M d F (pc + 2) L' st σ) : ps_K M d F pc L (.inl x :: st) σ :=
  fun G p l e R s m args below meth c H locs ls hI => lv_istore hI.1.1 hI.1.2.1 hd (ps_LR_has hI.2.1) hn rfl (fun ls' h' => k G p l e R s m args below meth c H locs ls' ⟨hI.1, ps_LR_set (v := .inl x) hI.2.1 rfl trivial hl rfl h', ps_ok_t hI.2.2.1, hI.2.2.2⟩)
theorem ps_astore_n {n : Fin 4} {i : Nat} {q : Nat × Nat} (hd : decode (ps_code M) pc = .ok (.astore_n n, 1)) (hi : (n : Nat) = i) (hn : i < ps_maxL M) (hl : L.set i (some (.inr (.inr q))) = L') (k : ps_K M d F (pc + 1) L' st σ) : ps_K M d F pc L (.inr (.inr q) :: st) σ :=
  fun G p l e R s m args below meth c H locs ls hI => lv_astore_n hI.1.1 hI.1.2.1 hd hi (ps_LR_has hI.2.1) hn rfl (fun ls' h' => k G p l e R s m args below meth c H locs ls' ⟨hI.1, ps_LR_set (v := .inr (.inr q)) hI.2.1 rfl (hI.2.2.1 _ List.mem_cons_self) hl rfl h', ps_ok_t hI.2.2.1, hI.2.2.2⟩)
theorem ps_iinc {i : Nat} {n : Int} {x y : Int32} (hd : decode (ps_code M) pc = .ok (.iinc i n, 3)) (hx : L[i]? = some (some (.inl x))) (hn : i < ps_maxL M) (hv : Int32.ofInt n = y) (hl : L.set i (some (.inl (x + y))) = L') (k : ps_K M d F (pc + 3) L' st σ) : ps_K M d F pc L st σ :=
  fun G p l e R s m args below meth c H locs ls hI => by
    obtain ⟨k0, hk0⟩ := List.getElem?_of_mem (show ((i, Value.int x) : Nat × Value) ∈ ((List.range (ps_maxL M)).filterMap (fun j => match L[j]? with | some (some u) => some (j, ps_cv G u) | _ => none)) from List.mem_filterMap.mpr ⟨i, List.mem_range.mpr hn, by rw [hx]; rfl⟩)
    exact lv_iinc hI.1.1 hI.1.2.1 hd (ps_LR_has hI.2.1) hk0 rfl hn rfl (fun ls' h' => k G p l e R s m args below meth c H locs ls' ⟨hI.1, ps_LR_set (v := .inl (x + y)) hI.2.1 rfl trivial hl (by rw [← hv]; rfl) h', hI.2.2⟩)
-- arithmetic
theorem ps_iadd {x y : Int32} (hd : decode (ps_code M) pc = .ok (.iadd, 1)) (k : ps_K M d F (pc + 1) L (.inl (x + y) :: st) σ) : ps_K M d F pc L (.inl y :: .inl x :: st) σ :=
  fun G p l e R s m args below meth c H locs ls hI => lv_iadd hI.1.1 hI.1.2.1 hd (k G p l e R s m args below meth c H locs ls (hI.to (ps_ok_i (ps_ok_t2 hI.2.2.1))))
theorem ps_isub {x y : Int32} (hd : decode (ps_code M) pc = .ok (.isub, 1)) (k : ps_K M d F (pc + 1) L (.inl (x - y) :: st) σ) : ps_K M d F pc L (.inl y :: .inl x :: st) σ :=
  fun G p l e R s m args below meth c H locs ls hI => lv_isub hI.1.1 hI.1.2.1 hd (k G p l e R s m args below meth c H locs ls (hI.to (ps_ok_i (ps_ok_t2 hI.2.2.1))))
theorem ps_imul {x y : Int32} (hd : decode (ps_code M) pc = .ok (.imul, 1)) (k : ps_K M d F (pc + 1) L (.inl (x * y) :: st) σ) : ps_K M d F pc L (.inl y :: .inl x :: st) σ :=
  fun G p l e R s m args below meth c H locs ls hI => lv_imul hI.1.1 hI.1.2.1 hd (k G p l e R s m args below meth c H locs ls (hI.to (ps_ok_i (ps_ok_t2 hI.2.2.1))))
theorem ps_iand {x y : Int32} (hd : decode (ps_code M) pc = .ok (.iand, 1)) (k : ps_K M d F (pc + 1) L (.inl (x &&& y) :: st) σ) : ps_K M d F pc L (.inl y :: .inl x :: st) σ :=
  fun G p l e R s m args below meth c H locs ls hI => lv_iand hI.1.1 hI.1.2.1 hd (k G p l e R s m args below meth c H locs ls (hI.to (ps_ok_i (ps_ok_t2 hI.2.2.1))))
theorem ps_ior {x y : Int32} (hd : decode (ps_code M) pc = .ok (.ior, 1)) (k : ps_K M d F (pc + 1) L (.inl (x ||| y) :: st) σ) : ps_K M d F pc L (.inl y :: .inl x :: st) σ :=
  fun G p l e R s m args below meth c H locs ls hI => lv_ior hI.1.1 hI.1.2.1 hd (k G p l e R s m args below meth c H locs ls (hI.to (ps_ok_i (ps_ok_t2 hI.2.2.1))))
theorem ps_ixor {x y : Int32} (hd : decode (ps_code M) pc = .ok (.ixor, 1)) (k : ps_K M d F (pc + 1) L (.inl (x ^^^ y) :: st) σ) : ps_K M d F pc L (.inl y :: .inl x :: st) σ :=
  fun G p l e R s m args below meth c H locs ls hI => lv_ixor hI.1.1 hI.1.2.1 hd (k G p l e R s m args below meth c H locs ls (hI.to (ps_ok_i (ps_ok_t2 hI.2.2.1))))
end PSK

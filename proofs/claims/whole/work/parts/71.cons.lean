/-! ===== constructors: what holds while objects are made =====
A world here is the kit's list of cells. cs_K: from this place, with these locals, this stack, this world, so many cells and slots made, the method comes to its end as told. -/
abbrev cs_G : Type := va_G × (Nat → ClassId)
def cs_tys (g : cs_G) : List (ClassId × FieldType) := [(g.2 0, .int), (g.2 1, .boolean), (g.2 2, .array .int), (g.2 3, .object "PressSheets$Forme")]
def cs_nm (U : State) : Prop := ∀ (a : String) (i : Nat) (y : MethodName) (h : String), Cond.methodLinkNest a i y h ∈ lw_tbl → va_Nw (.methodLinkNest a i y h) U
def cs_B (g : cs_G) (U : State) : Prop := va_K g.1 ps_cls (cs_tys g) U ∧ ps_nest U ∧ cs_nm U ∧ va_AO "PressSheets$Forme" U ∧ va_AOA .int U
theorem cs_B.warm {g : cs_G} {s U : State} (hW : s.WarmedH U.vm) (h : cs_B g s) : cs_B g U := ⟨va_K.moved hW.alike h.1, ps_nest_warm hW h.2.1, fun a i y x hw => va_Nw.warmM hW (h.2.2.1 a i y x hw), h.2.2.2.1.moved hW.alike, h.2.2.2.2.moved hW.alike⟩
def cs_I (M : ps_M) (d : Nat) (g : cs_G) (A : Nat → Prop) (p : Program) (R : Room) (s : State) (m : MethodId) (args : Array Value) (meth : Method) (c : Code) (H : Heap) (locs : List Loc) (ws : va_W) : Prop :=
  (p.tables.exec = Jvm.exec ∧ c.code = ps_code M ∧ c.maxLocals = ps_maxL M ∧ meth.sig.returnType = ps_ret M ∧ s.vm.findClass (ps_own M) = some m.cls ∧ (∀ w ∈ lw_tbl, goodWord w = true → w.before args s = true) ∧ meth.locks = false ∧
    (d ≤ R.frames ∧ 40 * d ≤ R.locals ∧ ps_cs M ≤ R.cells ∧ ps_ss M ≤ R.slots) ∧ cs_B g s ∧ ((ps_y M).name = "<init>" → meth.name = "<init>")) ∧
  va_P g.1 ps_cls ws H ∧ va_D A ws ∧ va_S A s.heap H locs ∧ ∀ q, s.heap.size ≤ q → A q
def cs_K (M : ps_M) (d : Nat) (g : cs_G) (A : State → Nat → Prop) (F : State → Array Value → List Frame → State → Prop) (pc : Nat) (L : List (Nat × Value)) (st : List Value) (ws : va_W) (cells slots : Nat) : Prop :=
  ∀ (p : Program) (l : Launch) (e : Env) (R : Room) (s : State) (m : MethodId) (args : Array Value) (below : List Frame) (meth : Method) (c : Code) (H : Heap) (locs : List Loc) (ls : Array Slot),
    cs_I M d g (A s) p R s m args meth c H locs ws → lv_has ls (ps_maxL M) L → W p l e R s m args below meth c H locs cells slots (F s args below) (F0 m pc ls st)
def cs_QF (g : cs_G) (M : ps_M) (ws0 : va_W) (Post : va_W → Prop) : State → Array Value → List Frame → State → Prop := fun s args below =>
  MQ below (va_Qv Post (fun ws t => va_P g.1 ps_cls ws t.heap ∧ va_D (va_A ws0 s.heap.size) ws) (va_A ws0 s.heap.size)) args s (ps_cs M) (ps_ss M) (va_A ws0 s.heap.size)
abbrev cs_A (ws0 : va_W) : State → Nat → Prop := fun s => va_A ws0 s.heap.size
abbrev cs_rm (M : ps_M) (d : Nat) : Room := { frames := d, cells := ps_cs M, slots := ps_ss M, locals := 40 * d }
def cs_Pre (g : cs_G) (ws0 : va_W) (sz : Nat) (U : State) : Prop := U.heap.size = sz ∧ va_P g.1 ps_cls ws0 U.heap ∧ cs_B g U ∧ va_D (fun _ => True) ws0
/-- a contract: from the world ws0 of the cells that it is given, it comes to a world as told, of these and of new cells -/
def cs_C (M : ps_M) (d : Nat) (g : cs_G) (av : List Value) (ws0 : va_W) (Post : va_W → Prop) : Prop :=
  ∀ (sz : Nat) (l : Launch), Met l (ps_y M) (ps_words M) (cs_rm M d) (va_Pc av (cs_Pre g ws0 sz)) (va_Qv Post (fun ws t => va_P g.1 ps_cls ws t.heap ∧ va_D (va_A ws0 sz) ws) (va_A ws0 sz)) (ps_cs M) (ps_ss M) (va_A ws0 sz)
theorem cs_blind {g : cs_G} {ws0 : va_W} {sz : Nat} (av : List Value) : FrameBlind (va_Pc av (cs_Pre g ws0 sz)) := by
  intro a U g' mk q
  obtain ⟨q0, q1, q2, q3, q4⟩ := q
  refine ⟨q0, q1, q2, ⟨va_K.moved (u := U) (U := U.calling g' mk a) (Vm.Alike.refl U.vm) q3.1, ?_, ?_, q3.2.2.2.1.moved (u := U) (U := U.calling g' mk a) (Vm.Alike.refl U.vm), q3.2.2.2.2.moved (u := U) (U := U.calling g' mk a) (Vm.Alike.refl U.vm)⟩, q4⟩
  · intro x i b n d' h hw
    exact va_Nw.same (w := .fieldLinkNest x i b n d' h) rfl (show U.vm = (U.calling g' mk a).vm from rfl) (q3.2.1 x i b n d' h hw)
  · intro x i y h hw
    exact va_Nw.same (w := .methodLinkNest x i y h) rfl (show U.vm = (U.calling g' mk a).vm from rfl) (q3.2.2.1 x i y h hw)
section CS
variable {M M2 : ps_M} {d pc : Nat} {g : cs_G} {A : State → Nat → Prop} {F : State → Array Value → List Frame → State → Prop} {L L' : List (Nat × Value)} {st : List Value} {ws : va_W} {cells slots : Nat}
theorem cs_iconst {n : Int} {v : Int32} (hd : decode (ps_code M) pc = .ok (.iconst n, 1)) (hv : Int32.ofInt n = v) (k : cs_K M d g A F (pc + 1) L (.int v :: st) ws cells slots) : cs_K M d g A F pc L st ws cells slots :=
  fun p l e R s m args below meth c H locs ls hI hl => lv_iconst hI.1.1 hI.1.2.1 hd hv (k p l e R s m args below meth c H locs ls hI hl)
theorem cs_bipush {n : Int} {v : Int32} (hd : decode (ps_code M) pc = .ok (.bipush n, 2)) (hv : (Int8.ofInt n).toInt32 = v) (k : cs_K M d g A F (pc + 2) L (.int v :: st) ws cells slots) : cs_K M d g A F pc L st ws cells slots :=
  fun p l e R s m args below meth c H locs ls hI hl => lv_bipush hI.1.1 hI.1.2.1 hd hv (k p l e R s m args below meth c H locs ls hI hl)
theorem cs_sipush {n : Int} {v : Int32} (hd : decode (ps_code M) pc = .ok (.sipush n, 3)) (hv : (Int16.ofInt n).toInt32 = v) (k : cs_K M d g A F (pc + 3) L (.int v :: st) ws cells slots) : cs_K M d g A F pc L st ws cells slots :=
  fun p l e R s m args below meth c H locs ls hI hl => lv_sipush hI.1.1 hI.1.2.1 hd hv (k p l e R s m args below meth c H locs ls hI hl)
theorem cs_ldc {index : Nat} {v : Int32} (hd : decode (ps_code M) pc = .ok (.ldc index, 2)) (hw : Cond.constant (ps_own M) index v ∈ lw_tbl) (k : cs_K M d g A F (pc + 2) L (.int v :: st) ws cells slots) : cs_K M d g A F pc L st ws cells slots :=
  fun p l e R s m args below meth c H locs ls hI hl => lv_ldc hI.1.1 hI.1.2.1 hI.1.2.2.2.2.1 (hI.1.2.2.2.2.2.1 _ hw rfl) hd (k p l e R s m args below meth c H locs ls hI hl)
theorem cs_aload {n : Fin 4} {i x : Nat} (j : Nat) (hd : decode (ps_code M) pc = .ok (.aload_n n, 1)) (hi : (n : Nat) = i) (hj : L[j]? = some (i, .ref x)) (k : cs_K M d g A F (pc + 1) L (.ref x :: st) ws cells slots) : cs_K M d g A F pc L st ws cells slots :=
  fun p l e R s m args below meth c H locs ls hI hl => lv_aload_n hI.1.1 hI.1.2.1 hd hi (lv_at hl j hj) (k p l e R s m args below meth c H locs ls hI hl)
theorem cs_iload {n : Fin 4} {i : Nat} {x : Int32} (j : Nat) (hd : decode (ps_code M) pc = .ok (.iload_n n, 1)) (hi : (n : Nat) = i) (hj : L[j]? = some (i, .int x)) (k : cs_K M d g A F (pc + 1) L (.int x :: st) ws cells slots) : cs_K M d g A F pc L st ws cells slots :=
  fun p l e R s m args below meth c H locs ls hI hl => lv_iload_n hI.1.1 hI.1.2.1 hd hi (lv_at hl j hj) (k p l e R s m args below meth c H locs ls hI hl)
theorem cs_istore {n : Fin 4} {i : Nat} {x : Int32} (hd : decode (ps_code M) pc = .ok (.istore_n n, 1)) (hi : (n : Nat) = i) (hn : i < ps_maxL M) (hL : (i, Value.int x) :: L.filter (fun q => !(q.1 == i) && !(q.1 + 1 == i && q.2.category == 2)) = L') (k : cs_K M d g A F (pc + 1) L' st ws cells slots) : cs_K M d g A F pc L (.int x :: st) ws cells slots :=
  fun p l e R s m args below meth c H locs ls hI hl => lv_istore_n hI.1.1 hI.1.2.1 hd hi hl hn hL (fun ls' h' => k p l e R s m args below meth c H locs ls' hI h')
theorem cs_astore {n : Fin 4} {i : Nat} {x : Nat} (hd : decode (ps_code M) pc = .ok (.astore_n n, 1)) (hi : (n : Nat) = i) (hn : i < ps_maxL M) (hL : (i, Value.ref x) :: L.filter (fun q => !(q.1 == i) && !(q.1 + 1 == i && q.2.category == 2)) = L') (k : cs_K M d g A F (pc + 1) L' st ws cells slots) : cs_K M d g A F pc L (.ref x :: st) ws cells slots :=
  fun p l e R s m args below meth c H locs ls hI hl => lv_astore_n hI.1.1 hI.1.2.1 hd hi hl hn hL (fun ls' h' => k p l e R s m args below meth c H locs ls' hI h')
theorem cs_iinc {i : Nat} {n : Int} {x v : Int32} (j : Nat) (hd : decode (ps_code M) pc = .ok (.iinc i n, 3)) (hj : L[j]? = some (i, .int x)) (hv : x + Int32.ofInt n = v) (hn : i < ps_maxL M) (hL : (i, Value.int v) :: L.filter (fun q => !(q.1 == i) && !(q.1 + 1 == i && q.2.category == 2)) = L') (k : cs_K M d g A F (pc + 3) L' st ws cells slots) : cs_K M d g A F pc L st ws cells slots :=
  fun p l e R s m args below meth c H locs ls hI hl => lv_iinc hI.1.1 hI.1.2.1 hd hl hj hv hn hL (fun ls' h' => k p l e R s m args below meth c H locs ls' hI h')
theorem cs_dup {x : Nat} (hd : decode (ps_code M) pc = .ok (.dup, 1)) (k : cs_K M d g A F (pc + 1) L (.ref x :: .ref x :: st) ws cells slots) : cs_K M d g A F pc L (.ref x :: st) ws cells slots :=
  fun p l e R s m args below meth c H locs ls hI hl => lv_dup hI.1.1 hI.1.2.1 hd rfl (k p l e R s m args below meth c H locs ls hI hl)
theorem cs_ge {x y : Int32} {off : Int} {tgt : Nat} (hd : decode (ps_code M) pc = .ok (.if_icmp .ge off, 3)) (ht : (pc : Int) + off = (tgt : Int)) (kt : y ≤ x → cs_K M d g A F tgt L st ws cells slots) (kf : ¬ y ≤ x → cs_K M d g A F (pc + 3) L st ws cells slots) : cs_K M d g A F pc L (.int y :: .int x :: st) ws cells slots :=
  fun p l e R s m args below meth c H locs ls hI hl => lv_icmp_ge hI.1.1 hI.1.2.1 hd ht (fun q => kt q p l e R s m args below meth c H locs ls hI hl) (fun q => kf q p l e R s m args below meth c H locs ls hI hl)
theorem cs_goto {off : Int} {tgt : Nat} (hd : decode (ps_code M) pc = .ok (.goto off, 3)) (ht : (pc : Int) + off = (tgt : Int)) (k : cs_K M d g A F tgt L st ws cells slots) : cs_K M d g A F pc L st ws cells slots :=
  fun p l e R s m args below meth c H locs ls hI hl => lv_goto hI.1.1 hI.1.2.1 hd ht (k p l e R s m args below meth c H locs ls hI hl)
theorem cs_objInit {idx a : Nat} (hd : decode (ps_code M) pc = .ok (.invokespecial idx, 3)) (hlk : Cond.methodLink (ps_own M) idx objectInit ∈ lw_tbl) (hst : (st.map fun v => v.category).sum ≤ 8) (k : cs_K M (d + 1) g A F (pc + 3) L st ws cells slots) : cs_K M (d + 1) g A F pc L (.ref a :: st) ws cells slots := by
  intro p l e R s m args below meth c H locs ls hI hl
  have hR := hI.1.2.2.2.2.2.2.2.1
  have hro : 2 * (F0 m pc ls (.ref a :: st)).monitorRoom + (st.map fun v => v.category).sum ≤ 8 := lv_room hst
  refine W.objInit hI.1.1 hI.1.2.1 hI.1.2.2.2.2.1 (hI.1.2.2.2.2.2.1 _ hlk rfl) (hI.1.2.2.2.2.2.1 (.instanceMethod objectInit) (by decide +kernel) rfl) (hI.1.2.2.2.2.2.1 (.code objectInit ⟨#[0xb1]⟩ 1 none) (by decide +kernel) rfl) rfl (by rw [hI.1.2.2.1]; exact hl.1) rfl hd (by have := hR.1; omega) (by have := hR.2.1; omega) ?_
  exact W.eq (g2 := F0 m (pc + 3) ls st) rfl (k p l e R s m args below meth c H locs ls hI hl)
-- fields
theorem cs_get {index ci k a : Nat} {fs : List Value} {v : Value} (q0 : Nat) (hd : decode (ps_code M) pc = .ok (.getfield index, 3)) (hf : ps_fl (ps_own M) index ci k) (he : ws[q0]? = some (a, .inr (ci, fs))) (hv : fs[k]? = some v) (kk : cs_K M d g A F (pc + 3) L (v :: st) ws cells slots) : cs_K M d g A F pc L (.ref a :: st) ws cells slots := by
  intro p l e R s m args below meth c H locs ls hI hl
  obtain ⟨r, hr, hkr, hw⟩ := hf
  have hts : ∀ w ∈ u_ws r.1 r.2.1 r.2.2, w.before args s = true := fun w hw => hI.1.2.2.2.2.2.1 w (ps_lays ci r hr w hw).1 (ps_lays ci r hr w hw).2
  have kk2 := kk p l e R s m args below meth c H locs ls hI hl
  rcases hw with hw | ⟨host, hw⟩
  · exact va_get (own := ps_own M) (ref := (r.2.1 k).1) (C := r.1) (T := r.2.1) (N := r.2.2) hI.1.1 hI.1.2.1 hts (fun _ h => h) hI.1.2.2.2.2.1 hI.1.2.2.2.2.2.2.2.2.1.1 hI.2.1 q0 he hr k hkr (hI.1.2.2.2.2.2.1 _ hw rfl) (fun _ h => h) hv hd kk2
  · exact va_getN (own := ps_own M) (ref := (r.2.1 k).1) (C := r.1) (host := host) (T := r.2.1) (N := r.2.2) hI.1.1 hI.1.2.1 hts (fun _ h => h) hI.1.2.2.2.2.1 hI.1.2.2.2.2.2.2.2.2.1.1 hI.2.1 q0 he hr k hkr (va_Nw.use rfl (hI.1.2.2.2.2.2.2.2.2.1.2.1 _ _ _ _ _ _ hw)) (fun _ h => h) hv hd kk2
theorem cs_putI {index ci k a : Nat} {fs : List Value} {x : Int32} (q0 : Nat) (hd : decode (ps_code M) pc = .ok (.putfield index, 3)) (hf : ps_fp (ps_own M) index ci k .int) (he : ws[q0]? = some (a, .inr (ci, fs))) (hk : k < fs.length) (kk : cs_K M d g A F (pc + 3) L st (ws.set q0 (a, .inr (ci, fs.set k (.int x)))) cells slots) : cs_K M d g A F pc L (.int x :: .ref a :: st) ws cells slots := by
  intro p l e R s m args below meth c H locs ls hI hl
  obtain ⟨r, hr, hkr, hfin, hty, hw⟩ := hf
  have hts : ∀ w ∈ u_ws r.1 r.2.1 r.2.2, w.before args s = true := fun w hw => hI.1.2.2.2.2.2.1 w (ps_lays ci r hr w hw).1 (ps_lays ci r hr w hw).2
  obtain ⟨⟨ty0, hty0⟩, hnm⟩ := ps_names ci r hr
  have fin := fun (H1 : Heap) (locs1 : List Loc) (h1 : va_P g.1 ps_cls (ws.set q0 (a, .inr (ci, fs.set k (.int x)))) H1) (h2 : va_D (A s) (ws.set q0 (a, .inr (ci, fs.set k (.int x))))) (h3 : va_S (A s) s.heap H1 locs1) => kk p l e R s m args below meth c H1 locs1 ls ⟨hI.1, h1, h2, h3, hI.2.2.2.2⟩ hl
  rcases hw with hw | ⟨host, hw⟩
  · exact va_put (own := ps_own M) (ref := (r.2.1 k).1) (C := r.1) (T := r.2.1) (N := r.2.2) hI.1.1 hI.1.2.1 hts (fun _ h => h) ty0 hty0 hnm hI.1.2.2.2.2.1 hI.1.2.2.2.2.2.2.2.2.1.1 hI.2.1 hI.2.2.1 hI.2.2.2.1 q0 he hr k hkr (hI.1.2.2.2.2.2.1 _ hw rfl) (fun _ h => h) hfin hty rfl rfl hk hd fin
  · exact va_putN (own := ps_own M) (ref := (r.2.1 k).1) (C := r.1) (host := host) (T := r.2.1) (N := r.2.2) hI.1.1 hI.1.2.1 hts (fun _ h => h) ty0 hty0 hnm hI.1.2.2.2.2.1 hI.1.2.2.2.2.2.2.2.2.1.1 hI.2.1 hI.2.2.1 hI.2.2.2.1 q0 he hr k hkr (va_Nw.use rfl (hI.1.2.2.2.2.2.2.2.2.1.2.1 _ _ _ _ _ _ hw)) (fun _ h => h) hfin hty rfl rfl hk hd fin
/-- a final field of a reference, in a constructor -/
def cs_fF (own : String) (index ci k : Nat) : Prop := ∃ (r : vw_C) (ty : FieldType), ps_cls[ci]? = some r ∧ k < r.2.2 ∧ (r.2.1 k).2.2.2 = true ∧ (r.2.1 k).1 = own ∧ parseFieldDescriptor (r.2.1 k).2.2.1 = some ty ∧ (∀ q : Nat, narrow ty (.ref q) = .ref q ∧ fits ty (.ref q) = true) ∧ Cond.fieldLink own index (r.2.1 k).1 (r.2.1 k).2.1 (r.2.1 k).2.2.1 ∈ lw_tbl
theorem cs_putF {index ci k a x : Nat} {fs : List Value} (q0 : Nat) (hin : (ps_y M).name = "<init>") (hd : decode (ps_code M) pc = .ok (.putfield index, 3)) (hf : cs_fF (ps_own M) index ci k) (he : ws[q0]? = some (a, .inr (ci, fs))) (hk : k < fs.length) (kk : cs_K M d g A F (pc + 3) L st (ws.set q0 (a, .inr (ci, fs.set k (.ref x)))) cells slots) : cs_K M d g A F pc L (.ref x :: .ref a :: st) ws cells slots := by
  intro p l e R s m args below meth c H locs ls hI hl
  obtain ⟨r, ty, hr, hkr, hfin, hdc, hty, hnf, hw⟩ := hf
  have hts : ∀ w ∈ u_ws r.1 r.2.1 r.2.2, w.before args s = true := fun w hw => hI.1.2.2.2.2.2.1 w (ps_lays ci r hr w hw).1 (ps_lays ci r hr w hw).2
  obtain ⟨⟨ty0, hty0⟩, hnm⟩ := ps_names ci r hr
  exact va_putF (own := ps_own M) (ref := (r.2.1 k).1) (C := r.1) (T := r.2.1) (N := r.2.2) hI.1.1 hI.1.2.1 hts (fun _ h => h) ty0 hty0 hnm hI.1.2.2.2.2.1 hI.1.2.2.2.2.2.2.2.2.1.1 hI.2.1 hI.2.2.1 hI.2.2.2.1 q0 he hr k hkr (hI.1.2.2.2.2.2.1 _ hw rfl) (fun _ h => h) hfin (hI.1.2.2.2.2.2.2.2.2.2 hin) hdc hty (hnf x).1 (hnf x).2 hk hd (fun H1 locs1 h1 h2 h3 => kk p l e R s m args below meth c H1 locs1 ls ⟨hI.1, h1, h2, h3, hI.2.2.2.2⟩ hl)
-- arrays
theorem cs_newI {n : Int32} {N : Nat} (hd : decode (ps_code M) pc = .ok (.newarray .int, 2)) (hn : ¬ n < 0) (hN : n.toNatClampNeg = N) (hb : N ≤ 1000000) (hc : cells + 1 ≤ ps_cs M) (hs : slots + N ≤ ps_ss M) (kk : ∀ q, cs_K M d g A F (pc + 2) L (.ref q :: st) (ws ++ [(q, .inl (g.2 0, N, .inl (fun _ => 0)))]) (cells + 1) (slots + N)) : cs_K M d g A F pc L (.int n :: st) ws cells slots := by
  intro p l e R s m args below meth c H locs ls hI hl
  have hR := hI.1.2.2.2.2.2.2.2.1
  have hK := hI.1.2.2.2.2.2.2.2.2.1.1
  refine va_newa (atype := .int) (ty := .int) (N' := N) (a0 := (N, .inl (fun _ => 0))) hI.1.1 hI.1.2.1 (hI.1.2.2.2.2.2.1 (.arrayClass .int) (by decide +kernel) rfl) rfl hK hI.2.1 hI.2.2.1 hI.2.2.2.1 hI.2.2.2.2 (fun _ => rfl) hn hN (Nat.le_trans (Nat.mul_le_mul_right 4 hb) (by decide)) (by have := hR.2.2.1; omega) (by have := hR.2.2.2; omega) hd (fun q cA H1 hK1 hP1 hD1 hS1 => ?_)
  have e1 : s.vm.findClass ("[" ++ FieldType.int.toString) = some cA := (hK1.2 4 (cA, .int) rfl).2
  have e2 : s.vm.findClass ("[" ++ FieldType.int.toString) = some (g.2 0) := (hK.2 0 (g.2 0, .int) rfl).2
  obtain rfl : g.2 0 = cA := Option.some.inj (e2.symm.trans e1)
  exact kk q p l e R s m args below meth c H1 locs ls ⟨hI.1, hP1, hD1, hS1, hI.2.2.2.2⟩ hl
theorem cs_newZ {n : Int32} {N : Nat} (hd : decode (ps_code M) pc = .ok (.newarray .boolean, 2)) (hn : ¬ n < 0) (hN : n.toNatClampNeg = N) (hb : N ≤ 1000000) (hc : cells + 1 ≤ ps_cs M) (hs : slots + N ≤ ps_ss M) (kk : ∀ q, cs_K M d g A F (pc + 2) L (.ref q :: st) (ws ++ [(q, .inl (g.2 1, N, .inl (fun _ => 0)))]) (cells + 1) (slots + N)) : cs_K M d g A F pc L (.int n :: st) ws cells slots := by
  intro p l e R s m args below meth c H locs ls hI hl
  have hR := hI.1.2.2.2.2.2.2.2.1
  have hK := hI.1.2.2.2.2.2.2.2.2.1.1
  refine va_newa (atype := .boolean) (ty := .boolean) (N' := N) (a0 := (N, .inl (fun _ => 0))) hI.1.1 hI.1.2.1 (hI.1.2.2.2.2.2.1 (.arrayClass .boolean) (by decide +kernel) rfl) rfl hK hI.2.1 hI.2.2.1 hI.2.2.2.1 hI.2.2.2.2 (fun _ => rfl) hn hN (Nat.le_trans (Nat.mul_le_mul_right 1 hb) (by decide)) (by have := hR.2.2.1; omega) (by have := hR.2.2.2; omega) hd (fun q cA H1 hK1 hP1 hD1 hS1 => ?_)
  have e1 : s.vm.findClass ("[" ++ FieldType.boolean.toString) = some cA := (hK1.2 4 (cA, .boolean) rfl).2
  have e2 : s.vm.findClass ("[" ++ FieldType.boolean.toString) = some (g.2 1) := (hK.2 1 (g.2 1, .boolean) rfl).2
  obtain rfl : g.2 1 = cA := Option.some.inj (e2.symm.trans e1)
  exact kk q p l e R s m args below meth c H1 locs ls ⟨hI.1, hP1, hD1, hS1, hI.2.2.2.2⟩ hl
abbrev cs_rf (N : Nat) (r : Nat → Nat) : Nat → Option Nat := fun i => if i < N then some (r i) else none
abbrev cs_rows (g : cs_G) (N K : Nat) (r : Nat → Nat) (f : Nat → Nat → Int32) : va_W := (List.range N).map (fun i => (r i, .inl (g.2 0, K, .inl (f i))))
theorem cs_mna {index : Nat} {n k : Int32} {N K : Nat} (hd : decode (ps_code M) pc = .ok (.multianewarray index 2, 4)) (hlk : Cond.classLink (ps_own M) index "[[I" ∈ lw_tbl) (hn : ¬ n < 0) (hk : ¬ k < 0) (hN : n.toNatClampNeg = N) (hK' : k.toNatClampNeg = K) (hb1 : N ≤ 1000000) (hb2 : K ≤ 1000000) (hc : cells + 1 + N ≤ ps_cs M) (hs : slots + N + N * K ≤ ps_ss M)
    (kk : ∀ (q : Nat) (r : Nat → Nat), cs_K M d g A F (pc + 4) L (.ref q :: st) ((ws ++ [(q, .inl (g.2 2, N, .inr (.inr (.inr (.inr (cs_rf N r))))))]) ++ cs_rows g N K r (fun _ _ => 0)) (cells + 1 + N) (slots + N + N * K)) : cs_K M d g A F pc L (.int k :: .int n :: st) ws cells slots := by
  intro p l e R s m args below meth c H locs ls hI hl
  have hR := hI.1.2.2.2.2.2.2.2.1
  have hK := hI.1.2.2.2.2.2.2.2.2.1.1
  have e0 : ws ++ va_pl [] (fun _ => .inl (g.2 0, 0, .inl (fun _ => 0))) = ws := List.append_nil ws
  refine va_mna (X := ws) (L := []) (f := fun _ => .inl (g.2 0, 0, .inl (fun _ => 0))) (ty := .int) (cy := g.2 0) (z := (K, .inl (fun _ => 0))) (tys := cs_tys g) (D := g.1) (cl := ps_cls) (A := A s) (H0 := s.heap) hI.1.1 hI.1.2.1 hI.1.2.2.2.2.1 (hI.1.2.2.2.2.2.1 _ hlk rfl) hI.1.2.2.2.2.2.2.2.2.1.2.2.2.2 (hI.1.2.2.2.2.2.1 (.arrayClass .int) (by decide +kernel) rfl) (hK.2 0 (g.2 0, .int) rfl).2 hK (by rw [e0]; exact hI.2.1) (by rw [e0]; exact hI.2.2.1) hI.2.2.2.1 hI.2.2.2.2 hn hk hN hK' (by omega) (by show K * 4 ≤ _; omega) (by omega) rfl rfl (by have := hR.2.2.1; omega) (by have := hR.2.2.2; omega) ?_ hd (fun q r cA H1 _ _ hK1 hP1 hD1 hS1 => ?_)
  · intro c'
    show ({ cls := c', slots := Array.replicate K (.int 0), vm := .none } : Cell) = _
    rw [arrV_new]
    rfl
  · have e1 : s.vm.findClass ("[" ++ (FieldType.array .int).toString) = some cA := (hK1.2 4 (cA, .array .int) rfl).2
    have e2 : s.vm.findClass ("[" ++ (FieldType.array .int).toString) = some (g.2 2) := (hK.2 2 (g.2 2, .array .int) rfl).2
    obtain rfl : g.2 2 = cA := Option.some.inj (e2.symm.trans e1)
    have er : va_pl ([] ++ (List.range N).map r) (vr_up (fun _ => .inl (g.2 0, 0, .inl (fun _ => 0))) ((List.range N).map r) (.inl (g.2 0, K, .inl (fun _ => 0)))) = cs_rows g N K r (fun _ _ => 0) := by
      rw [← vr_rows (L := []) (fun a _ h => by cases h)]
      show [] ++ ((List.range N).map r).map _ = _
      rw [List.nil_append, List.map_map]
      rfl
    rw [er] at hP1 hD1
    exact kk q r p l e R s m args below meth c H1 locs ls ⟨hI.1, hP1, hD1, hS1, hI.2.2.2.2⟩ hl
theorem cs_aald {a N : Nat} {r : Nat → Nat} {j : Int32} (q0 : Nat) (hd : decode (ps_code M) pc = .ok (.aaload, 1)) (he : ws[q0]? = some (a, .inl (g.2 2, N, .inr (.inr (.inr (.inr (cs_rf N r))))))) (hin : vp_in j N) (kk : cs_K M d g A F (pc + 1) L (.ref (r j.toNatClampNeg) :: st) ws cells slots) : cs_K M d g A F pc L (.int j :: .ref a :: st) ws cells slots := by
  intro p l e R s m args below meth c H locs ls hI hl
  have hlt : j.toNatClampNeg < N := Nat.not_le.mp fun q => hin (Or.inr q)
  have hK := hI.1.2.2.2.2.2.2.2.2.1.1
  exact W.aald (v := .ref (r j.toNatClampNeg)) (ty := .array .int) hI.1.1 hI.1.2.1 (hI.2.1 q0 _ he) ((hK.2 2 _ rfl).1 N _) rfl (fun q => by cases q) (by show ¬ (j < 0 ∨ (arrV _ _ _).slots.size ≤ _); rw [arrV_size]; exact hin) (by show (arrV _ _ _).slots[_]? = _; rw [arrV_read _ _ hlt]; simp [va_rf, cs_rf, hlt]) rfl rfl hd (kk p l e R s m args below meth c H locs ls hI hl)
theorem cs_iast {a N : Nat} {f : Nat → Int32} {j x : Int32} (q0 : Nat) (hd : decode (ps_code M) pc = .ok (.iastore, 1)) (he : ws[q0]? = some (a, .inl (g.2 0, N, .inl f))) (hin : vp_in j N) (kk : cs_K M d g A F (pc + 1) L st (ws.set q0 (a, .inl (g.2 0, N, .inl (upd f j.toNatClampNeg x)))) cells slots) : cs_K M d g A F pc L (.int x :: .int j :: .ref a :: st) ws cells slots := by
  intro p l e R s m args below meth c H locs ls hI hl
  exact va_iast hI.1.1 hI.1.2.1 hI.1.2.2.2.2.2.2.2.2.1.1 hI.2.1 hI.2.2.1 hI.2.2.2.1 q0 0 he rfl hin hd (fun H1 locs1 h1 h2 h3 => kk p l e R s m args below meth c H1 locs1 ls ⟨hI.1, h1, h2, h3, hI.2.2.2.2⟩ hl)
theorem cs_alen {a N : Nat} {f : Nat → Int32} (q0 : Nat) (hd : decode (ps_code M) pc = .ok (.arraylength, 1)) (he : ws[q0]? = some (a, .inl (g.2 0, N, .inl f))) (kk : cs_K M d g A F (pc + 1) L (.int (Int32.ofNat N) :: st) ws cells slots) : cs_K M d g A F pc L (.ref a :: st) ws cells slots := by
  intro p l e R s m args below meth c H locs ls hI hl
  exact va_alen hI.1.1 hI.1.2.1 hI.1.2.2.2.2.2.2.2.2.1.1 hI.2.1 q0 0 he (ty := .int) rfl rfl hd (kk p l e R s m args below meth c H locs ls hI hl)
theorem cs_anew {index : Nat} {n : Int32} {N : Nat} (hd : decode (ps_code M) pc = .ok (.anewarray index, 3)) (hlk : Cond.classLink (ps_own M) index "PressSheets$Forme" ∈ lw_tbl) (hn : ¬ n < 0) (hN : n.toNatClampNeg = N) (hb : N ≤ 1000000) (hc : cells + 1 ≤ ps_cs M) (hs : slots + N ≤ ps_ss M) (kk : ∀ q, cs_K M d g A F (pc + 3) L (.ref q :: st) (ws ++ [(q, .inl (g.2 3, N, .inr (.inr (.inr (.inr (fun _ => none))))))]) (cells + 1) (slots + N)) : cs_K M d g A F pc L (.int n :: st) ws cells slots := by
  intro p l e R s m args below meth c H locs ls hI hl
  have hR := hI.1.2.2.2.2.2.2.2.1
  have hK := hI.1.2.2.2.2.2.2.2.2.1.1
  refine va_newq (C := "PressSheets$Forme") hI.1.1 hI.1.2.1 hI.1.2.2.2.2.1 (hI.1.2.2.2.2.2.1 _ hlk rfl) hI.1.2.2.2.2.2.2.2.2.1.2.2.2.1 hK hI.2.1 hI.2.2.1 hI.2.2.2.1 hI.2.2.2.2 hn hN (by omega) (by have := hR.2.2.1; omega) (by have := hR.2.2.2; omega) hd (fun q cA H1 hK1 hP1 hD1 hS1 => ?_)
  obtain ⟨_, _, _, _, _, e1⟩ := (hK1.2 4 (cA, .object "PressSheets$Forme") rfl).2
  obtain ⟨_, _, _, _, _, e2⟩ := (hK.2 3 (g.2 3, .object "PressSheets$Forme") rfl).2
  obtain rfl : g.2 3 = cA := Option.some.inj (e2.symm.trans e1)
  exact kk q p l e R s m args below meth c H1 locs ls ⟨hI.1, hP1, hD1, hS1, hI.2.2.2.2⟩ hl
theorem cs_aast {a N v : Nat} {f : Nat → Option Nat} {vs : List Value} {j : Int32} (q0 qk : Nat) (hd : decode (ps_code M) pc = .ok (.aastore, 1)) (he : ws[q0]? = some (a, .inl (g.2 3, N, .inr (.inr (.inr (.inr f)))))) (hv : ws[qk]? = some (v, .inr (0, vs))) (hin : vp_in j N) (kk : cs_K M d g A F (pc + 1) L st (ws.set q0 (a, .inl (g.2 3, N, .inr (.inr (.inr (.inr (va_up f j.toNatClampNeg (some v)))))))) cells slots) : cs_K M d g A F pc L (.ref v :: .int j :: .ref a :: st) ws cells slots := by
  intro p l e R s m args below meth c H locs ls hI hl
  exact va_astq hI.1.1 hI.1.2.1 hI.1.2.2.2.2.2.2.2.2.1.1 hI.2.1 hI.2.2.1 hI.2.2.2.1 q0 3 qk 0 he (r := (RX0, TX0, 12)) rfl hv rfl hin hd (fun H1 locs1 h1 h2 h3 => kk p l e R s m args below meth c H1 locs1 ls ⟨hI.1, h1, h2, h3, hI.2.2.2.2⟩ hl)
-- objects
/-- what a 'new' of the class ci needs of the tables; fs: its fields at first -/
def cs_nw (own : String) (index ci : Nat) (fs : List Value) : Prop := ∃ (r : vw_C) (ty : Nat → FieldType), ps_cls[ci]? = some r ∧ Cond.classLink own index r.1 ∈ lw_tbl ∧ Cond.instantiable r.1 r.2.2 ∈ lw_tbl ∧ Cond.initialized r.1 ∈ lw_tbl ∧ (∀ k, k < r.2.2 → parseFieldDescriptor (r.2.1 k).2.2.1 = some (ty k)) ∧ r.2.2 ≤ 29 ∧ ∀ j, j < r.2.2 → defaultValue (ty j) = vp_V fs j
theorem cs_new {index ci : Nat} {fs : List Value} (hd : decode (ps_code M) pc = .ok (.new index, 3)) (hw : cs_nw (ps_own M) index ci fs) (hc : cells + 1 ≤ ps_cs M) (hs : slots + 29 ≤ ps_ss M) (kk : ∀ q, cs_K M d g A F (pc + 3) L (.ref q :: st) (ws ++ [(q, .inr (ci, fs))]) (cells + 1) (slots + 29)) : cs_K M d g A F pc L st ws cells slots := by
  intro p l e R s m args below meth c H locs ls hI hl
  have hR := hI.1.2.2.2.2.2.2.2.1
  obtain ⟨r, ty, hr, w1, w2, w3, hty, h29, hfs⟩ := hw
  have hts : ∀ w ∈ u_ws r.1 r.2.1 r.2.2, w.before args s = true := fun w hw => hI.1.2.2.2.2.2.1 w (ps_lays ci r hr w hw).1 (ps_lays ci r hr w hw).2
  exact va_new (C := r.1) (T := r.2.1) (N := r.2.2) hI.1.1 hI.1.2.1 hts (fun _ h => h) ty hty hI.1.2.2.2.2.1 (hI.1.2.2.2.2.2.1 _ w1 rfl) (hI.1.2.2.2.2.2.1 _ w2 rfl) (hI.1.2.2.2.2.2.1 _ w3 rfl) hI.1.2.2.2.2.2.2.2.2.1.1 hI.2.1 hI.2.2.1 hI.2.2.2.1 hI.2.2.2.2 hr hfs (by have := hR.2.2.1; omega) (by have := hR.2.2.2; omega) hd (fun q H1 h1 h2 h3 => W.widen (k := cells + 1) (n := slots + 29) (Nat.le_refl _) (by omega) (kk q p l e R s m args below meth c H1 locs ls ⟨hI.1, h1, h2, h3, hI.2.2.2.2⟩ hl))
-- the end of a method that answers nothing
theorem cs_vret {ws0 : va_W} {Post : va_W → Prop} (hd : decode (ps_code M) pc = .ok (.return_, 1)) (hr : ps_ret M = none) (hc : cells ≤ ps_cs M) (hs : slots ≤ ps_ss M) (hq : Post ws) : cs_K M d g (cs_A ws0) (cs_QF g M ws0 Post) pc L [] ws cells slots := by
  intro p l e R s m args below meth c H locs ls hI hl
  refine W.widen (k := ps_cs M) (n := ps_ss M) hc hs ?_
  exact W.vret hI.1.1 hI.1.2.1 (hI.1.2.2.2.1.trans hr) (fun t ht hW => ⟨⟨ws, rfl, hq, by rw [ht]; exact hI.2.1, hI.2.2.1⟩, hI.2.2.2.1.F ht⟩) hI.2.2.2.1.2.2 hd (hI.1.2.2.2.2.2.2.1)
theorem cs_enter {av : List Value} {ws0 : va_W} {Post : va_W → Prop} (hy : plainName (ps_y M).cls = true) (ho : (ps_y M).cls = ps_own M) (hle : (lg_sl av).length ≤ ps_maxL M) (k : cs_K M d g (cs_A ws0) (cs_QF g M ws0 Post) 0 (lv_args 0 av) [] ws0 0 0) : cs_C M d g av ws0 Post := by
  intro sz l
  refine Met.ofW (cc := ps_code M) (maxL := ps_maxL M) (ret := ps_ret M) hy rfl ?_
  intro p e s m args below meth c s₁ B hml hv
  obtain ⟨rfl, rfl, hP, hB, hD⟩ := hv
  have hts := atoms_spec (ws := ps_words M) B.pre
  have hown : s.vm.findClass (ps_y M).cls = some m.cls := findClass_of_methodNamed B.named
  rw [ho] at hown
  rw [lg_entry_eq]
  exact k p l e (headSpec (ps_words M) (cs_rm M d)).room s m av.toArray below meth c s.heap [] _ ⟨⟨B.exec, B.bytes, hml, B.returns, hown, fun w hw hg => hts w (List.mem_cons_of_mem _ (List.mem_filter.mpr ⟨hw, hg⟩)), B.notSynchronized, ⟨Nat.le_refl _, Nat.le_refl _, Nat.le_refl _, Nat.le_refl _⟩, hB, fun h => (name_of_methodNamed B.named B.method).1.trans h⟩, hP, hD.self, va_S.rf, fun q h => Or.inr h⟩ (lv_entry av hle)
end CS

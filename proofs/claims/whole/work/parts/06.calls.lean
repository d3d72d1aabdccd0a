/-! ===== the rules: calls, returns, a method's entry, the script ===== -/
section PSC
variable {M M2 : ps_M} {d pc : Nat} {F : ps_F} {L L' : ps_L} {st : List ps_V} {σ : ps_S}
theorem ps_nest_warm {s U : State} (hW : s.WarmedH U.vm) (h : ps_nest s) : ps_nest U := fun a i b n d x hw => va_Nw.warmF hW (h a i b n d x hw)
theorem ps_Pre_blind {G : ps_G} (av : List Value) : FrameBlind (va_Pc av (ps_Pre G σ)) := by
  intro a U g mk q
  obtain ⟨q0, q1, q2, q3, q4⟩ := q
  refine ⟨q0, ?_, va_K.moved (u := U) (U := U.calling g mk a) (Vm.Alike.refl U.vm) q2, q3, ?_⟩
  · exact q1
  · intro x i b n d' h hw
    exact va_Nw.same (w := .fieldLinkNest x i b n d' h) rfl (show U.vm = (U.calling g mk a).vm from rfl) (q4 x i b n d' h hw)
/-- what a call of M2 at this entry of the pool needs of the tables -/
def ps_cB (own : String) (index : Nat) (M2 : ps_M) (n : Nat) : Prop :=
  Cond.methodLink own index (ps_y M2) ∈ lw_tbl ∧ Cond.initialized (ps_y M2).cls ∈ lw_tbl ∧ Cond.code (ps_y M2) (ps_code M2) (ps_maxL M2) (ps_ret M2) ∈ lw_tbl ∧
  ((ps_y M2).cls ≠ "java/lang/invoke/MethodHandle" ∧ (ps_y M2).cls ≠ "java/lang/invoke/VarHandle") ∧ (parseMethodDescriptor (ps_y M2).desc).map (fun d => d.parameters.length) = some n ∧ ps_maxL M2 ≤ 21
def ps_cV (own : String) (index : Nat) (M2 : ps_M) (n ci : Nat) : Prop :=
  ps_cB own index M2 n ∧ Cond.instanceMethod (ps_y M2) ∈ lw_tbl ∧ Cond.selects (ps_y M2).cls (ps_y M2) (ps_y M2) ∈ lw_tbl ∧ ∃ r : vw_C, ps_cls[ci]? = some r ∧ r.1 = (ps_y M2).cls
def ps_cS (own : String) (index : Nat) (M2 : ps_M) (n : Nat) : Prop := ps_cB own index M2 n ∧ Cond.static (ps_y M2) ∈ lw_tbl
theorem ps_callB {G : ps_G} {p : Program} {R : Room} {s : State} {m : MethodId} {args : Array Value} {meth : Method} {c : Code} {H : Heap} {locs : List Loc} {ls : Array Slot} {index n : Nat} (hI : ps_I M (d + 1) G p R s m args meth c H locs ls L st σ) (hc : ps_cB (ps_own M) index M2 n) :
    CallB R s args (ps_own M) index (ps_y M2) (ps_code M2) (ps_maxL M2) (ps_ret M2) (ps_words M2) (ps_rm d) 0 0 n := by
  obtain ⟨h1, h2, h3, h4, h5, h6⟩ := hc
  have ht : ∀ w ∈ lw_tbl.filter goodWord, w.before args s = true := fun w hw => hI.1.2.2.2.2.2.1 w (List.mem_filter.mp hw).1 (List.mem_filter.mp hw).2
  have hr := hI.1.2.2.2.2.2.2.2.1
  refine callB_of (Ts := lw_tbl.filter goodWord) n ht (ps_goodIn h3) rfl rfl rfl (hI.1.2.2.2.2.2.1 _ h2 rfl) (hI.1.2.2.2.2.2.1 _ h1 rfl) ⟨h4.1, h4.2, h5⟩ ⟨hr.1, ?_⟩
  show 8 + (ps_maxL M2 + 11) + 40 * d ≤ R.locals
  have := hr.2.1
  omega
theorem ps_fix {G : ps_G} {p : Program} {R : Room} {s : State} {m : MethodId} {args : Array Value} {meth : Method} {c : Code} {H : Heap} {locs : List Loc} {ls : Array Slot} (hI : ps_I M d G p R s m args meth c H locs ls L st σ) : CallFix p m c (ps_code M) (ps_maxL M) s args (lw_tbl.filter goodWord) (ps_own M) :=
  ⟨hI.1.1, hI.1.2.1, hI.1.2.2.1, hI.1.2.2.2.2.1, fun w hw => hI.1.2.2.2.2.2.1 w (List.mem_filter.mp hw).1 (List.mem_filter.mp hw).2⟩
theorem ps_go {G : ps_G} {p : Program} {l : Launch} {e : Env} {R : Room} {s : State} {m : MethodId} {args : Array Value} {below : List Frame} {meth : Method} {c : Code} {H : Heap} {locs : List Loc} {ls : Array Slot} {st0 rest : List Value} {a : Array Value} {Q : Option ps_V → ps_S → Prop} {Z : State → Prop} {cs ss : Nat}
    (hr : va_Run p l e R s m args below meth c H locs cs ss 0 0 (F0 m pc ls st0) rest (ps_Qc G Q a) (ps_A G)) (hS : va_S (ps_A G) s.heap H locs)
    (kk : ∀ (r : Option ps_V) (σ' : ps_S) (H1 : Heap) (locs1 : List Loc), (∀ v, r = some v → ps_ok v) → Q r σ' → va_P G.2.1 ps_cls (ps_ws G σ') H1 → va_S (ps_A G) s.heap H1 locs1 → W p l e R s m args below meth c H1 locs1 cs ss Z (F0 m (pc + 3) ls ((r.map (ps_cv G)).toList ++ rest))) : W p l e R s m args below meth c H locs cs ss Z (F0 m pc ls st0) := by
  intro T hT X
  obtain ⟨v, st₀, t, T', Lc, h0, X', hL, e1, e2, ⟨⟨r, σ', hv, hok, hq, hP⟩, hz, hk⟩, st⟩ := hr T hT X
  cases hv
  rw [h0] at hz hk
  obtain ⟨t2, a1, b1⟩ := kk r σ' T'.heap (locs ++ Lc) hok hq (by rw [e1]; exact hP)
    ⟨Nat.le_trans hS.1 (by rw [e1]; exact hz), fun q h1 h2 => by rw [e1, hk q (Nat.lt_of_lt_of_le h1 hS.1) h2]; exact hS.2.1 q h1 h2, fun q hq => by
      rcases List.mem_append.mp hq with h | h
      · exact hS.2.2 q h
      · exact hL q h⟩ T' rfl X'
  exact ⟨t2, st t2 a1, b1⟩
theorem ps_after {G : ps_G} {p : Program} {l : Launch} {e : Env} {R : Room} {s : State} {m : MethodId} {args : Array Value} {below : List Frame} {meth : Method} {c : Code} {H : Heap} {locs : List Loc} {ls : Array Slot} (hI : ps_I M d G p R s m args meth c H locs ls L st σ) {rest : List ps_V} (hrest : ∀ v ∈ rest, ps_ok v)
    {r : Option ps_V} {σ' : ps_S} {H1 : Heap} {locs1 : List Loc} (hok : ∀ v, r = some v → ps_ok v) (hP : va_P G.2.1 ps_cls (ps_ws G σ') H1) (hS : va_S (ps_A G) s.heap H1 locs1) (k : ps_K M d F (pc + 3) L (r.toList ++ rest) σ') : W p l e R s m args below meth c H1 locs1 (ps_cs M) (ps_ss M) (F G s args below) (F0 m (pc + 3) ls ((r.map (ps_cv G)).toList ++ rest.map (ps_cv G))) := by
  have h := k G p l e R s m args below meth c H1 locs1 ls ⟨hI.1, hI.2.1, fun v hv => ?_, hP, ps_D_of hI.2.2.2.2.1, hS⟩
  · cases r with
    | none => exact h
    | some v => exact h
  · rcases List.mem_append.mp hv with hv | hv
    · cases r with
      | none => cases hv
      | some w => exact hok v (by simp at hv; rw [hv])
    · exact hrest v hv
/-- a method of an object -/
theorem ps_callV {index n ci f i : Nat} {fs : List (Option Nat)} {av rest : List ps_V} (hd : decode (ps_code M) pc = .ok (.invokevirtual index, 3)) (hc : ps_cV (ps_own M) index M2 n ci) (hs : (ps_sh f).2 = .inl (ci, fs)) (hn : av.length = n) (hst : st = av.reverse ++ .inr (.inr (f, i)) :: rest) (hrm : ∀ G : ps_G, ((rest.map (ps_cv G)).map fun v => v.category).sum ≤ 8)
    (k : ps_C M2 d (.inr (.inr (f, i)) :: av) σ (fun r σ' => ps_K M (d + 1) F (pc + 3) L (r.toList ++ rest) σ')) : ps_K M (d + 1) F pc L st σ := by
  subst hst
  intro G p l e R s m args below meth c H locs ls hI
  obtain ⟨hcb, hin, hse, rC, hrC, hrn⟩ := hc
  have hcB := ps_callB (M2 := M2) hI hcb
  have hoks := hI.2.2.1
  have hor : ps_ok (.inr (.inr (f, i))) := hoks _ (List.mem_append_right _ List.mem_cons_self)
  have hav : ∀ v ∈ ((.inr (.inr (f, i)) : ps_V) :: av), ps_ok v := fun v hv => by
    rcases List.mem_cons.mp hv with h | h
    · subst h; exact hor
    · exact hoks v (List.mem_append_left _ (List.mem_reverse.mpr h))
  have hrest : ∀ v ∈ rest, ps_ok v := fun v hv => hoks v (List.mem_append_right _ (List.mem_cons_of_mem _ hv))
  have hM := k hav G l
  obtain ⟨q0, -, hq⟩ := ps_at_obj (G := G) σ hs hor
  have hrecv := va_recv hI.1.2.2.2.2.2.2.2.2.1 hI.2.2.2.1 hrC hq
  rw [hrn] at hrecv
  have hR := hI.1.2.2.2.2.2.2.2.1
  refine ps_go (va_runV (b := G.1 f i) (As := av.map (ps_cv G)) (rest := rest.map (ps_cv G)) (ps_fix hI) hM ⟨hcB, hI.1.2.2.2.2.2.1 _ hin rfl, hI.1.2.2.2.2.2.1 _ hse rfl⟩ ⟨ps_Pre_blind _, hrecv, fun U hU hW => ⟨rfl, by rw [hU]; exact hI.2.2.2.1, va_K.moved hW.alike hI.1.2.2.2.2.2.2.2.2.1, hI.2.2.2.2.1, ps_nest_warm hW hI.1.2.2.2.2.2.2.2.2.2.2⟩⟩ rfl (by rw [List.length_map]; exact hn) hI.2.1.1 (by simp [ps_cv]) (lv_room (hrm G)) hd ⟨by rw [Nat.add_zero]; exact hR.2.2.1, by rw [Nat.add_zero]; exact hR.2.2.2⟩) hI.2.2.2.2.2 (fun r σ' H1 locs1 hok hq hP hS => ps_after hI hrest hok hP hS hq)
/-- a static method -/
theorem ps_callS {index n : Nat} {av rest : List ps_V} (hd : decode (ps_code M) pc = .ok (.invokestatic index, 3)) (hc : ps_cS (ps_own M) index M2 n) (hn : av.length = n) (hst : st = av.reverse ++ rest) (hrm : ∀ G : ps_G, ((rest.map (ps_cv G)).map fun v => v.category).sum ≤ 8)
    (k : ps_C M2 d av σ (fun r σ' => ps_K M (d + 1) F (pc + 3) L (r.toList ++ rest) σ')) : ps_K M (d + 1) F pc L st σ := by
  subst hst
  intro G p l e R s m args below meth c H locs ls hI
  obtain ⟨hcb, hst⟩ := hc
  have hcB := ps_callB (M2 := M2) hI hcb
  have hoks := hI.2.2.1
  have hav : ∀ v ∈ av, ps_ok v := fun v h => hoks v (List.mem_append_left _ (List.mem_reverse.mpr h))
  have hrest : ∀ v ∈ rest, ps_ok v := fun v hv => hoks v (List.mem_append_right _ hv)
  have hM := k hav G l
  have hR := hI.1.2.2.2.2.2.2.2.1
  refine ps_go (va_runS (As := av.map (ps_cv G)) (rest := rest.map (ps_cv G)) (ps_fix hI) hM ⟨hcB, hI.1.2.2.2.2.2.1 _ hst rfl⟩ ⟨ps_Pre_blind _, fun U hU hW => ⟨rfl, by rw [hU]; exact hI.2.2.2.1, va_K.moved hW.alike hI.1.2.2.2.2.2.2.2.2.1, hI.2.2.2.2.1, ps_nest_warm hW hI.1.2.2.2.2.2.2.2.2.2.2⟩⟩ rfl (by rw [List.length_map]; exact hn) hI.2.1.1 (by simp) (lv_room (hrm G)) hd ⟨by rw [Nat.add_zero]; exact hR.2.2.1, by rw [Nat.add_zero]; exact hR.2.2.2⟩) hI.2.2.2.2.2 (fun r σ' H1 locs1 hok hq hP hS => ps_after hI hrest hok hP hS hq)
-- returns
theorem ps_iretT {x : Int32} {ty : FieldType} {Q : Option ps_V → ps_S → Prop} (hd : decode (ps_code M) pc = .ok (.ireturn, 1)) (hr : ps_ret M = some ty) (h0 : ps_cs M = 0 ∧ ps_ss M = 0) (hn : narrow ty (.int x) = .int x) (hq : Q (some (.inl x)) σ) : ps_K M d (ps_QF Q) pc L [.inl x] σ := by
  intro G p l e R s m args below meth c H locs ls hI
  rw [h0.1, h0.2]
  exact W.zret (v := x) hI.1.1 hI.1.2.1 (hI.1.2.2.2.1.trans hr) hn (fun t ht hW => ⟨⟨some (.inl x), σ, rfl, fun v hv => by cases hv; exact trivial, hq, by rw [ht]; exact hI.2.2.2.1⟩, hI.2.2.2.2.2.F ht⟩) hI.2.2.2.2.2.2.2 hd (hI.1.2.2.2.2.2.2.1)
theorem ps_iret {x : Int32} {Q : Option ps_V → ps_S → Prop} (hd : decode (ps_code M) pc = .ok (.ireturn, 1)) (hr : ps_ret M = some .int) (h0 : ps_cs M = 0 ∧ ps_ss M = 0) (hq : Q (some (.inl x)) σ) : ps_K M d (ps_QF Q) pc L [.inl x] σ := ps_iretT hd hr h0 rfl hq
theorem ps_zret {x : Int32} {Q : Option ps_V → ps_S → Prop} (hd : decode (ps_code M) pc = .ok (.ireturn, 1)) (hr : ps_ret M = some .boolean) (h0 : ps_cs M = 0 ∧ ps_ss M = 0) (hx : x = 0 ∨ x = 1) (hq : Q (some (.inl x)) σ) : ps_K M d (ps_QF Q) pc L [.inl x] σ := ps_iretT hd hr h0 (ps_bit_n hx) hq
theorem ps_vret {Q : Option ps_V → ps_S → Prop} (hd : decode (ps_code M) pc = .ok (.return_, 1)) (hr : ps_ret M = none) (h0 : ps_cs M = 0 ∧ ps_ss M = 0) (hq : Q none σ) : ps_K M d (ps_QF Q) pc L [] σ := by
  intro G p l e R s m args below meth c H locs ls hI
  rw [h0.1, h0.2]
  exact W.vret hI.1.1 hI.1.2.1 (hI.1.2.2.2.1.trans hr) (fun t ht hW => ⟨⟨none, σ, rfl, fun v hv => (by cases hv), hq, by rw [ht]; exact hI.2.2.2.1⟩, hI.2.2.2.2.2.F ht⟩) hI.2.2.2.2.2.2.2 hd (hI.1.2.2.2.2.2.2.1)
theorem ps_aret {q : Nat × Nat} {C : String} {Q : Option ps_V → ps_S → Prop} (hd : decode (ps_code M) pc = .ok (.areturn, 1)) (hr : ps_ret M = some (.object C)) (h0 : ps_cs M = 0 ∧ ps_ss M = 0) (hq : Q (some (.inr (.inr q))) σ) : ps_K M d (ps_QF Q) pc L [.inr (.inr q)] σ := by
  intro G p l e R s m args below meth c H locs ls hI
  rw [h0.1, h0.2]
  exact W.aret (v := .ref (G.1 q.1 q.2)) hI.1.1 hI.1.2.1 (hI.1.2.2.2.1.trans hr) (Or.inl ⟨C, rfl⟩) (Or.inr ⟨_, rfl⟩) (fun t ht hW => ⟨⟨some (.inr (.inr q)), σ, rfl, fun v hv => by cases hv; exact hI.2.2.1 _ List.mem_cons_self, hq, by rw [ht]; exact hI.2.2.2.1⟩, hI.2.2.2.2.2.F ht⟩) hI.2.2.2.2.2.2.2 hd (hI.1.2.2.2.2.2.2.1)
-- entry
def ps_c1 (v : ps_V) : Bool := match v with
  | .inr (.inl _) => false
  | _ => true
theorem ps_cat1 {G : ps_G} {v : ps_V} (h : ps_c1 v = true) : (ps_cv G v).category = 1 := by
  match v, h with
  | .inl _, _ => rfl
  | .inr (.inr _), _ => rfl
theorem ps_enter {av : List ps_V} {Q : Option ps_V → ps_S → Prop} (hy : plainName (ps_y M).cls = true) (ho : (ps_y M).cls = ps_own M) (h0 : ps_cs M = 0 ∧ ps_ss M = 0 ∧ ps_sc M = none) (hc : av.all ps_c1 = true) (hl : av.length ≤ ps_maxL M) (k : ps_K M d (ps_QF Q) 0 (av.map some ++ List.replicate (ps_maxL M - av.length) none) [] σ) : ps_C M d av σ Q := by
  intro hav G l
  refine Met.ofW (cc := ps_code M) (maxL := ps_maxL M) (ret := ps_ret M) hy rfl ?_
  intro p e s m args below meth c s₁ B hml hv
  obtain ⟨rfl, hP, hK, hD, hN⟩ := hv
  have hts := atoms_spec (ws := ps_words M) B.pre
  have hown : s.vm.findClass (ps_y M).cls = some m.cls := findClass_of_methodNamed B.named
  rw [ho] at hown
  have hcat : ∀ v ∈ av.map (ps_cv G), v.category = 1 := fun v hv => by
    obtain ⟨u, hu, rfl⟩ := List.mem_map.mp hv
    exact ps_cat1 (List.all_eq_true.mp hc u hu)
  have hsl : ∀ vs : List Value, (∀ v ∈ vs, v.category = 1) → lg_sl vs = vs.map Slot.val := by
    intro vs
    induction vs with
    | nil => intro _; rfl
    | cons v t ih =>
      intro h
      have h1 := h v List.mem_cons_self
      have h2 := ih (fun w hw => h w (List.mem_cons_of_mem _ hw))
      show (if v.category = 2 then [Slot.val v, .second] else [.val v]) ++ lg_sl t = _
      rw [h2, h1]
      rfl
  have hle : (lg_sl (av.map (ps_cv G))).length ≤ ps_maxL M := by rw [hsl _ hcat]; simpa using hl
  have hlv := lv_entry (av.map (ps_cv G)) (n := ps_maxL M) hle
  have hls : (lg_sl (av.map (ps_cv G)) ++ List.replicate (ps_maxL M - (lg_sl (av.map (ps_cv G))).length) Slot.unset).toArray = ((av.map (fun v => Slot.val (ps_cv G v))) ++ List.replicate (ps_maxL M - av.length) Slot.unset).toArray := by
    rw [hsl _ hcat]
    simp [List.map_map]
  rw [lg_entry_eq]
  rw [hls] at hlv ⊢
  have hk := k G p l e (headSpec (ps_words M) (ps_rm d)).room s m ((av.map (ps_cv G)).toArray) below meth c s.heap [] ((av.map (fun v => Slot.val (ps_cv G v))) ++ List.replicate (ps_maxL M - av.length) Slot.unset).toArray
    ⟨⟨B.exec, B.bytes, hml, B.returns, hown, fun w hw hg => hts w (List.mem_cons_of_mem _ (List.mem_filter.mpr ⟨hw, hg⟩)), B.notSynchronized, ⟨Nat.le_refl _, Nat.le_refl _, by rw [h0.1]; exact Nat.zero_le _, by rw [h0.2.1]; exact Nat.zero_le _⟩, hK, by rw [h0.2.2]; exact trivial, hN⟩, ⟨hlv.1, hlv.2.1, fun i v hv => ?_⟩, fun v hv => (by cases hv), hP, hD, va_S.rf⟩
  · rw [h0.1, h0.2.1] at hk
    exact hk
  · rcases Nat.lt_or_ge i av.length with q | q
    · rw [List.getElem?_append_left (by simpa using q), List.getElem?_map] at hv
      have hvi : av[i]? = some v := by
        cases hh : av[i]? with
        | none => rw [hh] at hv; cases hv
        | some w => rw [hh] at hv; cases hv; rfl
      have hmem := List.mem_of_getElem? hvi
      refine ⟨?_, ps_cat1 (List.all_eq_true.mp hc v hmem), hav v hmem⟩
      rw [List.getElem?_toArray, List.getElem?_append_left (by simpa using q), List.getElem?_map, hvi]
      rfl
    · rw [List.getElem?_append_right (by simpa using q)] at hv
      have := List.mem_of_getElem? hv
      exact absurd (List.eq_of_mem_replicate this) (by simp)
-- a contract's end may be weakened, and its depth grown
theorem ps_C.imp {av : List ps_V} {Q Q' : Option ps_V → ps_S → Prop} (h : ∀ r σ', Q r σ' → Q' r σ') (k : ps_C M d av σ Q) : ps_C M d av σ Q' := by
  intro hav G l p e ha hcas hck s m args below hf happ hpre hx
  obtain ⟨t, o, h1, h2, h3, ⟨⟨⟨r, σ', a1, a2, a3, a4⟩, a5⟩, h5⟩⟩ := k hav G l p e ha hcas hck s m args below hf happ hpre hx
  exact ⟨t, o, h1, h2, h3, ⟨⟨⟨r, σ', a1, a2, h r σ' a3, a4⟩, a5⟩, h5⟩⟩
-- the script
theorem ps_sld {n : Nat} {xs : Nat → Int32} {j : Int32} (hd : decode (ps_code M) pc = .ok (.iaload, 1)) (hs : ps_sc M = some (n, xs)) (hin : vp_in j n) (k : ps_K M d F (pc + 1) L (.inl (xs j.toNatClampNeg) :: st) σ) : ps_K M d F pc L (.inl j :: .inr (.inr (0, 0)) :: st) σ := by
  intro G p l e R s m args below meth c H locs ls hI
  have hX := hI.1.2.2.2.2.2.2.2.2.2.1
  rw [hs] at hX
  exact va_sld hI.1.1 hI.1.2.1 hX.2.2 hX.2.1 hX.1 hI.2.2.2.2.2 hin hd (k G p l e R s m args below meth c H locs ls (hI.to (ps_ok_i (ps_ok_t2 hI.2.2.1))))
theorem ps_slen {n : Nat} {xs : Nat → Int32} (hd : decode (ps_code M) pc = .ok (.arraylength, 1)) (hs : ps_sc M = some (n, xs)) (k : ps_K M d F (pc + 1) L (.inl (Int32.ofNat n) :: st) σ) : ps_K M d F pc L (.inr (.inr (0, 0)) :: st) σ := by
  intro G p l e R s m args below meth c H locs ls hI
  have hX := hI.1.2.2.2.2.2.2.2.2.2.1
  rw [hs] at hX
  exact va_slen hI.1.1 hI.1.2.1 hX.2.2 hX.2.1 hX.1 hI.2.2.2.2.2 hd (k G p l e R s m args below meth c H locs ls (hI.to (ps_ok_i (ps_ok_t hI.2.2.1))))
-- System.arraycopy of a whole int array
theorem ps_copy {f g n index : Nat} {x : Int32} (hd : decode (ps_code M) pc = .ok (.invokestatic index, 3)) (hl : Cond.methodLink (ps_own M) index arraycopyName ∈ lw_tbl) (hf : (ps_sh f).2 = .inr (0, n, none)) (hg : (ps_sh g).2 = .inr (0, n, none)) (hn : n ≠ 0) (hx : x.toNatClampNeg = n ∧ ¬ x < 0) {i j : Nat}
    (k : ps_K M (d + 1) F (pc + 3) L [] (fun f' k' j' => if f' = g ∧ k' = j ∧ j' < n then σ f i j' else σ f' k' j')) : ps_K M (d + 1) F pc L [.inl x, .inl 0, .inr (.inr (g, j)), .inl 0, .inr (.inr (f, i))] σ := by
  intro G p l e R s m args below meth c H locs ls hI
  obtain ⟨q0, hq1, hq⟩ := ps_at_arr (G := G) σ hf hn (hI.2.2.1 (.inr (.inr (f, i))) (by simp))
  obtain ⟨q2, hq3, hq4⟩ := ps_at_arr (G := G) σ hg hn (hI.2.2.1 (.inr (.inr (g, j))) (by simp))
  have hR := hI.1.2.2.2.2.2.2.2.1
  refine va_copyi (sp := 0) (dp := 0) (n := x) hI.1.1 hI.1.2.1 (hI.1.2.2.1.trans hI.2.1.1.symm) hI.1.2.2.2.2.1 (hI.1.2.2.2.2.2.1 _ hl rfl) (hI.1.2.2.2.2.2.1 (.native arraycopyName) (by decide +kernel) (by decide +kernel)) (hI.1.2.2.2.2.2.1 (.static arraycopyName) (by decide +kernel) rfl) (hI.1.2.2.2.2.2.1 (.initialized "java/lang/System") (by decide +kernel) rfl) hI.1.2.2.2.2.2.2.2.2.1 hI.2.2.2.1 hI.2.2.2.2.1 hI.2.2.2.2.2 q0 q2 0 0 (ty := .int) hq hq4 rfl rfl rfl (by decide) (by decide) hx.2 (by rw [hx.1]; show 0 + n ≤ n; omega) (by rw [hx.1]; show 0 + n ≤ n; omega) (fun _ _ => rfl) (by have := hR.1; omega) ?_ hd ?_
  · have h1 := hR.2.1
    have h2 : ((([] : List Value)).map fun v => v.category).sum + (nativeFrameWords "java/lang/System" "arraycopy" 5 + 11) ≤ 40 := by decide +kernel
    exact Nat.le_trans h2 (by omega)
  · intro H1 locs1 h1 h2 h3
    have hset : (ps_ws G σ).set q2 (G.1 g j, .inl (G.2.2 0, n, .inl (va_cpy (σ f i) (σ g j) (0 : Int32).toNatClampNeg (0 : Int32).toNatClampNeg x.toNatClampNeg))) = ps_ws G (fun f' k' j' => if f' = g ∧ k' = j ∧ j' < n then σ f i j' else σ f' k' j') := by
      apply List.ext_getElem?
      intro i'
      by_cases hi : i' = q2
      · subst hi
        rw [ps_ws_at hq3, ps_E_arr hg, List.getElem?_set_self (by rw [ps_ws_len]; exact (List.getElem?_eq_some_iff.mp hq3).1)]
        congr 6
        funext j'
        rw [hx.1]
        show va_cpy (σ f i) (σ g j) 0 0 n j' = _
        by_cases h : j' < n
        · simp [va_cpy, h]
        · simp [va_cpy, h]
      · rw [List.getElem?_set_ne (fun q => hi q.symm)]
        unfold ps_ws
        rw [List.getElem?_map, List.getElem?_map]
        cases hq9 : ps_cells[i']? with
        | none => rfl
        | some q =>
          have hne : ¬ (q.1 = g ∧ q.2 = j) := by
            rintro ⟨e1, e2⟩
            have e3 : q = (g, j) := by rw [← e1, ← e2]
            subst e3
            exact hi ((List.getElem?_inj (List.getElem?_eq_some_iff.mp hq9).1 ps_nodup).mp (hq9.trans hq3.symm))
          show some (G.1 q.1 q.2, ps_E G q (σ q.1 q.2)) = some (G.1 q.1 q.2, ps_E G q (fun j' => if q.1 = g ∧ q.2 = j ∧ j' < n then σ f i j' else σ q.1 q.2 j'))
          have e9 : (fun j' => if q.1 = g ∧ q.2 = j ∧ j' < n then σ f i j' else σ q.1 q.2 j') = σ q.1 q.2 := by
            funext j'
            rw [if_neg (fun z => hne ⟨z.1, z.2.1⟩)]
          rw [e9]
    rw [hset] at h1 h2
    exact k G p l e R s m args below meth c H1 locs1 ls ⟨hI.1, hI.2.1, fun v hv => (by cases hv), h1, h2, h3⟩
end PSC

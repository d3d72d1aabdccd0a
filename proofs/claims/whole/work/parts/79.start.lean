/-! ===== the law from its entry ===== -/
theorem cs_nw.inst {own : String} {index ci : Nat} {fs : List Value} {r : vw_C} (h : cs_nw own index ci fs) (hr : ps_cls[ci]? = some r) : Cond.instantiable r.1 r.2.2 ∈ lw_tbl := by
  obtain ⟨r', ty, h1, -, h2, -⟩ := h
  obtain rfl : r' = r := Option.some.inj (h1.symm.trans hr)
  exact h2
theorem ps_inst : ∀ (k : Nat) (r : vw_C), ps_cls[k]? = some r → Cond.instantiable r.1 r.2.2 ∈ lw_tbl
  | 0, _, h => nwX7_9.inst h
  | 1, _, h => nwX7_44.inst h
  | 2, _, h => nwX7_51.inst h
  | 3, _, h => nwX7_23.inst h
  | 4, _, h => nwX7_37.inst h
  | 5, _, h => nwX7_16.inst h
  | 6, _, h => nwX7_30.inst h
  | 7, _, h => nwL_7.inst h
  | 8, _, h => nwL_10.inst h
  | k + 9, _, h => by
    have hl : k + 9 < 9 := (List.getElem?_eq_some_iff.mp h).1
    omega
theorem cs_B_of {s : State} {args : Array Value} (hts : ∀ w ∈ lw_tbl, w.before args s = true) : ∃ g : cs_G, cs_B g s := by
  have hK : ∀ (k : Nat) (r : vw_C), ps_cls[k]? = some r → ∃ (cC : ClassId) (iS : Nat → Nat), u_Kn s r.1 r.2.1 r.2.2 cC iS := fun k r hr =>
    u_known (n := r.2.2) hts (fun w hw => (ps_lays k r hr w hw).1) (hts _ (ps_inst k r hr))
  obtain ⟨c0, i0, -⟩ := hK 0 _ rfl
  have hK2 : ∀ k : Nat, ∃ P : ClassId × (Nat → Nat), ∀ r : vw_C, ps_cls[k]? = some r → u_Kn s r.1 r.2.1 r.2.2 P.1 P.2 := fun k => by
    cases hk : ps_cls[k]? with
    | none => exact ⟨(c0, i0), fun r h => by cases h⟩
    | some r =>
      obtain ⟨cC, iS, h⟩ := hK k r hk
      exact ⟨(cC, iS), fun r' h' => by cases h'; exact h⟩
  obtain ⟨f, hf⟩ := Classical.axiomOfChoice hK2
  obtain ⟨cI, kI, mI, i1, i2, i3⟩ := Cond.arrayClass_spec (hts (.arrayClass .int) (by decide +kernel))
  obtain ⟨cZ, kZ, mZ, z1, z2, z3⟩ := Cond.arrayClass_spec (hts (.arrayClass .boolean) (by decide +kernel))
  obtain ⟨mA, cA, kA, -, a2, a3, a4⟩ := Cond.arrayOver_specA (hts (.arrayOver (.array .int)) (by decide +kernel))
  obtain ⟨mF, cF, kF, h1, -, h3, h4, h5⟩ := Cond.arrayOver_spec (hts (.arrayOver (.object "PressSheets$Forme")) (by decide +kernel))
  refine ⟨((fun k => (f k).1, fun k => (f k).2), fun j => match j with | 0 => cI | 1 => cZ | 2 => cA | _ => cF), ⟨fun k r hr => hf k r hr, fun k q hq => ?_⟩, fun a i b n d h hw => va_Nw.of rfl (hts _ hw), fun a i y h hw => va_Nw.of rfl (hts _ hw), va_AO.of (A := args) (hts _ (by decide +kernel)), va_AOA.of (A := args) (hts _ (by decide +kernel))⟩
  match k, hq with
  | 0, hq => cases hq; exact ⟨fun n z => ⟨(fun k h => by cases h), kI, i2, mI, i3⟩, i1⟩
  | 1, hq => cases hq; exact ⟨fun n z => ⟨(fun k h => by cases h), kZ, z2, mZ, z3⟩, z1⟩
  | 2, hq => cases hq; exact ⟨fun n z => ⟨(fun k h => by cases h), kA, a2, mA, a3⟩, a4⟩
  | 3, hq => cases hq; exact ⟨fun n z => ⟨(fun k h => by cases h), kF, h3, mF, h4⟩, kF, mF, h3, h4, h1, h5⟩
  | k + 4, hq =>
    have hl : k + 4 < 4 := (List.getElem?_eq_some_iff.mp hq).1
    omega
/-- where the law ends, if the script lies as it should -/
def lsF (b n : Nat) (xs : Nat → Int32) : State → Array Value → List Frame → State → Prop := fun s args below t => (va_X b n xs s s.heap ∧ b < s.heap.size) → lw_Z below args s t
abbrev lsA : State → Nat → Prop := fun s q => s.heap.size ≤ q
theorem lc_tail {n : Nat} {xs : Nat → Int32} {g : cs_G} {A : Nat → Nat → Nat} {ws : va_W} {cells slots : Nat} (hn : n ≤ 2560) (hw : ws = lc_all.map (lc_w (A, g))) (hc : cells ≤ 1000) (hs : slots ≤ 100000) : cs_K (mL n xs) 31 g lsA (lsF (A 0 0) n xs) 16 [(2, .ref (A 50 0)), (1, .ref (A 1 0)), (0, .ref (A 0 0))] [] ws cells slots := by
  intro p l e R s m args below meth c H locs ls hI hl
  by_cases hX : va_X (A 0 0) n xs s s.heap ∧ A 0 0 < s.heap.size
  · have hAA : ∀ a, ps_A (A, g) a → s.heap.size ≤ a := lc_A hw hI.2.2.1
    refine va_forget (fun q hq => hI.2.2.2.1.2.2 q hq) ?_
    refine W.widen (k := 1000) (n := 100000) hc hs ?_
    have hloc : ps_LR (A, g) ls 4 [some (.inr (.inr (0, 0))), some ps_x, some ps_m, none] := by
      refine ⟨hl.1, hl.2.1, fun i v hv => ?_⟩
      match i, hv with
      | 0, hv => cases hv; exact ⟨hl.2.2 (0, .ref (A 0 0)) (by simp), rfl, Or.inr rfl⟩
      | 1, hv => cases hv; exact ⟨hl.2.2 (1, .ref (A 1 0)) (by simp), rfl, Or.inl (by decide +kernel)⟩
      | 2, hv => cases hv; exact ⟨hl.2.2 (2, .ref (A 50 0)) (by simp), rfl, Or.inl (by decide +kernel)⟩
      | 3, hv => cases hv
      | k + 4, hv =>
        have h4 : k + 4 < 4 := (List.getElem?_eq_some_iff.mp hv).1
        omega
    have hS := hI.2.2.2.1
    have hI' : ps_I (mL n xs) 31 (A, g) p R s m args meth c H [] ls [some (.inr (.inr (0, 0))), some ps_x, some ps_m, none] [] σ0 :=
      ⟨⟨hI.1.1, hI.1.2.1, hI.1.2.2.1, hI.1.2.2.2.1, hI.1.2.2.2.2.1, hI.1.2.2.2.2.2.1, hI.1.2.2.2.2.2.2.1, hI.1.2.2.2.2.2.2.2.1, hI.1.2.2.2.2.2.2.2.2.1.1, ⟨fun hz => absurd (hAA _ hz) (Nat.not_le.mpr hX.2), hX.2, hX.1⟩, hI.1.2.2.2.2.2.2.2.2.1.2.1⟩, hloc, fun v hv => absurd hv List.not_mem_nil, lc_P (G := (A, g)) hw hI.2.1, lc_D (G := (A, g)) hw hI.2.2.1, ⟨hS.1, fun q hq _ => hS.2.1 q hq (Nat.not_le.mpr hq), fun l hl => by cases hl⟩⟩
    have h := lw_begin (n := n) (xs := xs) (d := 0) hn INV_first (A, g) p l e R s m args below meth c H [] ls hI'
    intro T hT X
    obtain ⟨t, a1, b1⟩ := h T hT X
    exact ⟨t, a1, fun _ => b1 hAA⟩
  · intro T hT X
    exact ⟨_, Steps.refl _, fun z => absurd z hX⟩
theorem lw_tS : okL [(0, .new 7, 3), (3, .dup, 1), (4, .invokespecial 9, 3), (7, .astore_n 1, 1), (8, .new 10, 3), (11, .dup, 1), (12, .invokespecial 12, 3), (15, .astore_n 2, 1)] := by unfold okL; decide +kernel
theorem lw_tSa {pc : Nat} {i : Instr} {n : Nat} (k : Nat) (h : ([(0, .new 7, 3), (3, .dup, 1), (4, .invokespecial 9, 3), (7, .astore_n 1, 1), (8, .new 10, 3), (11, .dup, 1), (12, .invokespecial 12, 3), (15, .astore_n 2, 1)] : List (Nat × Instr × Nat))[k]? = some (pc, i, n)) : decode code pc = .ok (i, n) := lw_tS (pc, i, n) (List.mem_of_getElem? h)
set_option maxHeartbeats 4000000 in
set_option maxRecDepth 100000 in
theorem lc_start {n b : Nat} {xs : Nat → Int32} {g : cs_G} (hn : n ≤ 2560) : cs_K (mL n xs) 31 g lsA (lsF b n xs) 0 [(0, .ref b)] [] [] 0 0 := by
  refine cs_new (M := mL n xs) (index := 7) (lw_tSa 0 rfl) nwL_7 (Nat.le_of_ble_eq_true rfl) (Nat.le_of_ble_eq_true rfl) (fun h0 => ?_)
  refine cs_dup (M := mL n xs) (lw_tSa 1 rfl) ?_
  refine cs_callI (M := mL n xs) (d := 30) (M2 := mX7_init) (wr := []) (Post := cs_Post7 g h0) (lw_tSa 2 rfl) ctL_9 (Nat.le_of_ble_eq_true rfl) (Nat.le_of_ble_eq_true rfl) (Nat.le_of_ble_eq_true rfl) (kX7_init (d := 27)) (fun w1 hw1 => ?_)
  obtain ⟨qf, ad, a5, a3, a6, a4, a1, a2, rfl⟩ := hw1
  refine cs_astore (M := mL n xs) (i := 1) (L' := [(1, .ref h0), (0, .ref b)]) (lw_tSa 3 rfl) rfl (Nat.le_of_ble_eq_true rfl) rfl ?_
  refine cs_new (M := mL n xs) (index := 10) (lw_tSa 4 rfl) nwL_10 (Nat.le_of_ble_eq_true rfl) (Nat.le_of_ble_eq_true rfl) (fun q8 => ?_)
  refine cs_dup (M := mL n xs) (lw_tSa 5 rfl) ?_
  refine cs_callI (M := mL n xs) (d := 30) (M2 := mX8_init) (Post := cs_Post lcX8 50 g q8) (lw_tSa 6 rfl) ctL_12 (Nat.le_of_ble_eq_true rfl) (Nat.le_of_ble_eq_true rfl) (Nat.le_of_ble_eq_true rfl) (kX8_init (d := 28)) (fun w8 hw8 => ?_)
  obtain ⟨a8, rfl, rfl⟩ := hw8
  refine cs_astore (M := mL n xs) (i := 2) (L' := [(2, .ref (a8 50 0)), (1, .ref h0), (0, .ref b)]) (lw_tSa 7 rfl) rfl (Nat.le_of_ble_eq_true rfl) rfl ?_
  exact lc_tail (A := lc_ad b h0 qf ad a5 a3 a6 a4 a1 a2 a8) hn lc_world (Nat.le_of_ble_eq_true rfl) (Nat.le_of_ble_eq_true rfl)
/-- from the entry, for every script of at most 2560 ints, the law comes to its end with true -/
theorem whole_start {p : Program} {e : Env} {s : State} {m : MethodId} {below : List Frame} {meth : Method} {c : Code} (l : Launch) {b L : Nat} {xs : Nat → Int32} (hL : L ≤ 2560) (C0 : lw_At p s m meth c b L xs) : W p l e room_1 s m #[Value.ref b] below meth c s.heap [] 0 0 (lw_Z below #[Value.ref b] s) (entryFrame m ([Value.ref b] : List Value).toArray 4) := by
  obtain ⟨hx, hb, hr, hml, hown, hts, hX, hbl, hlocks, hgv⟩ := id C0
  obtain ⟨g, hB⟩ := cs_B_of hts
  have hl := lv_entry ([.ref b]) (n := 4) (Nat.le_of_ble_eq_true rfl)
  rw [lg_entry_eq]
  have h := lc_start (n := L) (b := b) (xs := xs) (g := g) hL p l e room_1 s m #[Value.ref b] below meth c s.heap [] _ ⟨⟨hx, hb, hml, hr, hown, fun w hw _ => hts w hw, hlocks, ⟨Nat.le_of_ble_eq_true rfl, Nat.le_of_ble_eq_true rfl, Nat.le_of_ble_eq_true rfl, Nat.le_of_ble_eq_true rfl⟩, hB, fun h => absurd h (show ¬ x.name = "<init>" by decide +kernel)⟩, fun k q h => by simp at h, ⟨fun i j p q h => by simp at h, fun k q h => by simp at h⟩, va_S.rf, fun q h => h⟩ hl
  intro T hT X
  obtain ⟨t, a1, b1⟩ := h T hT X
  exact ⟨t, a1, b1 ⟨hX, hbl⟩⟩

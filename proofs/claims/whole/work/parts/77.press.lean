/-! ===== PressSheets(): six formes, and the six others ===== -/
def frB7 (g : cs_G) (ad : Nat → Nat → Nat → Nat) : Nat → va_W
  | 0 => []
  | j + 1 => frB7 g ad j ++ cs_blk lcX0 g (ad j)
theorem frB7_congr {g : cs_G} {ad ad' : Nat → Nat → Nat → Nat} : ∀ j, (∀ i, i < j → ad i = ad' i) → frB7 g ad j = frB7 g ad' j
  | 0, _ => rfl
  | j + 1, h => by
    show frB7 g ad j ++ cs_blk lcX0 g (ad j) = frB7 g ad' j ++ cs_blk lcX0 g (ad' j)
    rw [frB7_congr j (fun i hi => h i (by omega)), h j (by omega)]
abbrev wX7 (g : cs_G) (h0 qf : Nat) (ad : Nat → Nat → Nat → Nat) (j : Nat) : va_W := (h0, .inr (7, [.ref qf, .null, .null, .null, .null, .null, .null])) :: (qf, .inl (g.2 3, 6, .inr (.inr (.inr (.inr (fun i => if i < j then some (ad i 3 0) else none)))))) :: frB7 g ad j
def cs_Post7 (g : cs_G) (h0 : Nat) (ws : va_W) : Prop := ∃ (qf : Nat) (ad : Nat → Nat → Nat → Nat) (a5 a3 a6 a4 a1 a2 : Nat → Nat → Nat), ws = (h0, .inr (7, [.ref qf, .ref (a5 11 0), .ref (a3 15 0), .ref (a6 19 0), .ref (a4 24 0), .ref (a1 30 0), .ref (a2 36 0)])) :: (((((((((qf, .inl (g.2 3, 6, .inr (.inr (.inr (.inr (fun i => if i < 6 then some (ad i 3 0) else none)))))) :: frB7 g ad 6)) ++ cs_blk lcX5 g a5) ++ cs_blk lcX3 g a3) ++ cs_blk lcX6 g a6) ++ cs_blk lcX4 g a4) ++ cs_blk lcX1 g a1) ++ cs_blk lcX2 g a2)
theorem cs_sub {M M2 : ps_M} {d pc : Nat} {g : cs_G} {A : State → Nat → Prop} {F : State → Array Value → List Frame → State → Prop} {L : List (Nat × Value)} {cells slots h0 index cidx pidx ci k f0 : Nat} {fs fs2 : List Value} {LC : List (Nat × Nat)} {X : va_W} (hin : (ps_y M).name = "<init>") (jL : Nat) (hL : L[jL]? = some (0, .ref h0)) (d0 : decode (ps_code M) pc = .ok (.aload_n 0, 1)) (d1 : decode (ps_code M) (pc + 1) = .ok (.new index, 3)) (hw : cs_nw (ps_own M) index ci fs2) (d2 : decode (ps_code M) (pc + 4) = .ok (.dup, 1)) (d3 : decode (ps_code M) (pc + 5) = .ok (.invokespecial cidx, 3)) (hc : cs_cI (ps_own M) cidx M2) (d4 : decode (ps_code M) (pc + 8) = .ok (.putfield pidx, 3)) (hf : cs_fF (ps_own M) pidx 7 k) (hk : k < fs.length) (hcl : cells + 1 + ps_cs M2 ≤ ps_cs M) (hsl : slots + 29 + ps_ss M2 ≤ ps_ss M) (hC : ∀ q, cs_C M2 d g [.ref q] [(q, .inr (ci, fs2))] (cs_Post LC f0 g q))
    (kk : ∀ ad : Nat → Nat → Nat, cs_K M (d + 1) g A F (pc + 11) L [] ((h0, .inr (7, fs.set k (.ref (ad f0 0)))) :: (X ++ cs_blk LC g ad)) (cells + 1 + ps_cs M2) (slots + 29 + ps_ss M2)) : cs_K M (d + 1) g A F pc L [] ((h0, .inr (7, fs)) :: X) cells slots := by
  refine cs_aload jL d0 rfl hL ?_
  refine cs_new d1 hw (by omega) (by omega) (fun q => ?_)
  refine cs_dup d2 ?_
  refine cs_callI d3 hc (Nat.le_of_ble_eq_true rfl) hcl hsl (hC q) (fun w1 hw1 => ?_)
  obtain ⟨ad, rfl, rfl⟩ := hw1
  exact cs_putF 0 hin d4 hf rfl hk (kk ad)
set_option maxHeartbeats 4000000 in
set_option maxRecDepth 100000 in
theorem cs_formes {d : Nat} {g : cs_G} {A : State → Nat → Prop} {F : State → Array Value → List Frame → State → Prop} {h0 qf : Nat} (kk : ∀ ad, cs_K mX7_init (d + 3) g A F 40 [(1, .int (nI 6)), (0, .ref h0)] [] (wX7 g h0 qf ad 6) 127 1380) : ∀ (t j : Nat) (ad : Nat → Nat → Nat → Nat), j + t = 6 → cs_K mX7_init (d + 3) g A F 15 [(1, .int (nI j)), (0, .ref h0)] [] (wX7 g h0 qf ad j) (1 + 21 * j) (6 + 229 * j)
  | 0, j, ad, hj => by
    obtain rfl : j = 6 := by omega
    refine cs_iload 0 (ps_at tX7_init_ok 8 rfl) rfl rfl ?_
    refine cs_bipush (v := nI 6) (ps_at tX7_init_ok 9 rfl) (by decide) ?_
    exact cs_ge (tgt := 40) (ps_at tX7_init_ok 10 rfl) (by decide) (fun _ => kk ad) (lpX (by decide))
  | t + 1, j, ad, hj => by
    have hj0 : j < 6 := by omega
    refine cs_iload 0 (ps_at tX7_init_ok 8 rfl) rfl rfl ?_
    refine cs_bipush (v := nI 6) (ps_at tX7_init_ok 9 rfl) (by decide) ?_
    refine cs_ge (tgt := 40) (ps_at tX7_init_ok 10 rfl) (by decide) (lpN hj0 (by decide)) (fun _ => ?_)
    refine cs_aload 1 (ps_at tX7_init_ok 11 rfl) rfl rfl ?_
    refine cs_get 0 (ps_at tX7_init_ok 12 rfl) flX7_11 rfl rfl ?_
    refine cs_iload 0 (ps_at tX7_init_ok 13 rfl) rfl rfl ?_
    refine cs_new (ps_at tX7_init_ok 14 rfl) nwX7_9 (by show 1 + 21 * j + 1 ≤ 300; omega) (by show 6 + 229 * j + 29 ≤ 9000; omega) (fun q => ?_)
    refine cs_dup (ps_at tX7_init_ok 15 rfl) ?_
    refine cs_callI (wr := wX7 g h0 qf ad j) (ps_at tX7_init_ok 16 rfl) ctX7_15 (Nat.le_of_ble_eq_true rfl) (by show 1 + 21 * j + 1 + 20 ≤ 300; omega) (by show 6 + 229 * j + 29 + 200 ≤ 9000; omega) (kX0_init (d := d)) (fun w1 hw1 => ?_)
    obtain ⟨a1, rfl, rfl⟩ := hw1
    refine cs_aast 1 (wX7 g h0 qf ad j).length (ps_at tX7_init_ok 17 rfl) rfl (vs := [some 4, some 6, some 7, some 8, some 9, none, none, none, some 10, none, none, none].mapIdx (ps_fld (a1, g) (σ0 3 0) 0)) (by rw [List.getElem?_append_right (Nat.le_refl _), Nat.sub_self]; rfl) (vp_in_nI hj0 (by decide)) ?_
    rw [nI_clamp (by omega)]
    refine cs_iinc (v := nI (j + 1)) 0 (ps_at tX7_init_ok 18 rfl) rfl (nI_1 j) (by decide) rfl ?_
    refine cs_goto (tgt := 15) (ps_at tX7_init_ok 19 rfl) (by decide) ?_
    have e1 : va_up (fun i => if i < j then some (ad i 3 0) else none) j (some (a1 3 0)) = fun i => if i < j + 1 then some ((if i = j then a1 else ad i) 3 0) else none := by
      funext i
      unfold va_up
      by_cases c : i = j
      · rw [if_pos c, if_pos (by omega), if_pos c]
      · rw [if_neg c, if_neg c]
        show (if i < j then some (ad i 3 0) else none) = _
        by_cases c2 : i < j
        · rw [if_pos c2, if_pos (by omega)]
        · rw [if_neg c2, if_neg (by omega)]
    have e2 : frB7 g ad j ++ cs_blk lcX0 g a1 = frB7 g (fun i => if i = j then a1 else ad i) (j + 1) := by
      show _ = frB7 g (fun i => if i = j then a1 else ad i) j ++ cs_blk lcX0 g (if j = j then a1 else ad j)
      rw [if_pos rfl, frB7_congr j (ad := ad) (ad' := fun i => if i = j then a1 else ad i) (fun i hi => by rw [if_neg (by omega)])]
    have h := cs_formes kk t (j + 1) (fun i => if i = j then a1 else ad i) (by omega)
    rw [show 1 + 21 * (j + 1) = 1 + 21 * j + 1 + 20 by omega, show 6 + 229 * (j + 1) = 6 + 229 * j + 29 + 200 by omega] at h
    unfold wX7 at h
    rw [← e1, ← e2] at h
    exact h
set_option maxHeartbeats 4000000 in
set_option maxRecDepth 100000 in
theorem kX7_init {d : Nat} {g : cs_G} {h0 : Nat} : cs_C mX7_init (d + 3) g [.ref h0] [(h0, .inr (7, [.null, .null, .null, .null, .null, .null, .null]))] (cs_Post7 g h0) := by
  refine cs_enter (by decide) rfl (Nat.le_of_ble_eq_true rfl) ?_
  refine cs_aload 0 (ps_at tX7_init_ok 0 rfl) rfl rfl ?_
  refine cs_objInit (ps_at tX7_init_ok 1 rfl) obX7_3 (Nat.zero_le _) ?_
  refine cs_aload 0 (ps_at tX7_init_ok 2 rfl) rfl rfl ?_
  refine cs_bipush (v := 6) (ps_at tX7_init_ok 3 rfl) (by decide) ?_
  refine cs_anew (N := 6) (ps_at tX7_init_ok 4 rfl) cqX7_9 (by decide) (by decide) (by decide) (by decide) (by decide) (fun qf => ?_)
  refine cs_putF 0 rfl (ps_at tX7_init_ok 5 rfl) cfX7_11 rfl (Nat.le_of_ble_eq_true rfl) ?_
  refine cs_iconst (v := 0) (ps_at tX7_init_ok 6 rfl) (by decide) ?_
  refine cs_istore (L' := [(1, .int 0), (0, .ref h0)]) (ps_at tX7_init_ok 7 rfl) rfl (by decide) rfl ?_
  have e0 : (fun i : Nat => if i < 0 then some ((fun _ _ _ => 0 : Nat → Nat → Nat → Nat) i 3 0) else none) = fun _ => none := by funext i; rw [if_neg (by omega)]
  have h := cs_formes (d := d) (g := g) (A := cs_A [(h0, .inr (7, [.null, .null, .null, .null, .null, .null, .null]))]) (F := cs_QF g mX7_init [(h0, .inr (7, [.null, .null, .null, .null, .null, .null, .null]))] (cs_Post7 g h0)) (h0 := h0) (qf := qf) (fun ad => ?_) 6 0 (fun _ _ _ => 0) rfl
  · unfold wX7 at h
    rw [e0] at h
    exact h
  · refine cs_sub (M2 := mX5_init) (d := d + 2) (k := 1) (f0 := 11) (LC := lcX5) rfl 1 rfl (ps_at tX7_init_ok 20 rfl) (ps_at tX7_init_ok 21 rfl) nwX7_16 (ps_at tX7_init_ok 22 rfl) (ps_at tX7_init_ok 23 rfl) ctX7_18 (ps_at tX7_init_ok 24 rfl) cfX7_19 (Nat.le_of_ble_eq_true rfl) (by decide) (by decide) (fun q => kX5_init (d := d)) (fun a5 => ?_)
    refine cs_sub (M2 := mX3_init) (d := d + 2) (k := 2) (f0 := 15) (LC := lcX3) rfl 1 rfl (ps_at tX7_init_ok 25 rfl) (ps_at tX7_init_ok 26 rfl) nwX7_23 (ps_at tX7_init_ok 27 rfl) (ps_at tX7_init_ok 28 rfl) ctX7_25 (ps_at tX7_init_ok 29 rfl) cfX7_26 (Nat.le_of_ble_eq_true rfl) (by decide) (by decide) (fun q => kX3_init (d := d)) (fun a3 => ?_)
    refine cs_sub (M2 := mX6_init) (d := d + 2) (k := 3) (f0 := 19) (LC := lcX6) rfl 1 rfl (ps_at tX7_init_ok 30 rfl) (ps_at tX7_init_ok 31 rfl) nwX7_30 (ps_at tX7_init_ok 32 rfl) (ps_at tX7_init_ok 33 rfl) ctX7_32 (ps_at tX7_init_ok 34 rfl) cfX7_33 (Nat.le_of_ble_eq_true rfl) (by decide) (by decide) (fun q => kX6_init (d := d)) (fun a6 => ?_)
    refine cs_sub (M2 := mX4_init) (d := d + 2) (k := 4) (f0 := 24) (LC := lcX4) rfl 1 rfl (ps_at tX7_init_ok 35 rfl) (ps_at tX7_init_ok 36 rfl) nwX7_37 (ps_at tX7_init_ok 37 rfl) (ps_at tX7_init_ok 38 rfl) ctX7_39 (ps_at tX7_init_ok 39 rfl) cfX7_40 (Nat.le_of_ble_eq_true rfl) (by decide) (by decide) (fun q => kX4_init (d := d)) (fun a4 => ?_)
    refine cs_sub (M2 := mX1_init) (d := d + 2) (k := 5) (f0 := 30) (LC := lcX1) rfl 1 rfl (ps_at tX7_init_ok 40 rfl) (ps_at tX7_init_ok 41 rfl) nwX7_44 (ps_at tX7_init_ok 42 rfl) (ps_at tX7_init_ok 43 rfl) ctX7_46 (ps_at tX7_init_ok 44 rfl) cfX7_47 (Nat.le_of_ble_eq_true rfl) (by decide) (by decide) (fun q => kX1_init (d := d)) (fun a1 => ?_)
    refine cs_sub (M2 := mX2_init) (d := d + 2) (k := 6) (f0 := 36) (LC := lcX2) rfl 1 rfl (ps_at tX7_init_ok 45 rfl) (ps_at tX7_init_ok 46 rfl) nwX7_51 (ps_at tX7_init_ok 47 rfl) (ps_at tX7_init_ok 48 rfl) ctX7_53 (ps_at tX7_init_ok 49 rfl) cfX7_54 (Nat.le_of_ble_eq_true rfl) (by decide) (by decide) (fun q => kX2_init (d := d)) (fun a2 => ?_)
    exact cs_vret (ps_at tX7_init_ok 50 rfl) rfl (by decide) (by decide) ⟨qf, ad, a5, a3, a6, a4, a1, a2, rfl⟩

/-! ===== printed by wip/whole/cons8.py: the reference's constructor, by steps that don't open the rest of the world ===== -/
section CS8
variable {M : ps_M} {d pc : Nat} {g : cs_G} {A : State → Nat → Prop} {F : State → Array Value → List Frame → State → Prop} {L : List (Nat × Value)} {X : va_W} {cells slots : Nat}
theorem cs_mkI {h0 ci k N index jL pl : Nat} {fs : List Value} {n : Int32} (hin : (ps_y M).name = "<init>") (hL : L[jL]? = some (0, .ref h0)) (d0 : decode (ps_code M) pc = .ok (.aload_n 0, 1)) (push : ∀ (st : List Value) (ws : va_W), cs_K M d g A F (pc + 1 + pl) L (.int n :: st) ws cells slots → cs_K M d g A F (pc + 1) L st ws cells slots) (d2 : decode (ps_code M) (pc + 1 + pl) = .ok (.newarray .int, 2)) (hn : ¬ n < 0) (hN : n.toNatClampNeg = N) (hb : N ≤ 1000000) (hc : cells + 1 ≤ ps_cs M) (hs : slots + N ≤ ps_ss M) (d3 : decode (ps_code M) (pc + 1 + pl + 2) = .ok (.putfield index, 3)) (hf : cs_fF (ps_own M) index ci k) (hk : k < fs.length)
    (kk : ∀ q, cs_K M d g A F (pc + 1 + pl + 2 + 3) L [] ((h0, .inr (ci, fs.set k (.ref q))) :: (X ++ [(q, .inl (g.2 0, N, .inl (fun _ => 0)))])) (cells + 1) (slots + N)) : cs_K M d g A F pc L [] ((h0, .inr (ci, fs)) :: X) cells slots := by
  refine cs_aload jL d0 rfl hL ?_
  refine push _ _ ?_
  refine cs_newI d2 hn hN hb hc hs (fun q => ?_)
  exact cs_putF 0 hin d3 hf rfl hk (kk q)
theorem cs_mkZ {h0 ci k N index jL pl : Nat} {fs : List Value} {n : Int32} (hin : (ps_y M).name = "<init>") (hL : L[jL]? = some (0, .ref h0)) (d0 : decode (ps_code M) pc = .ok (.aload_n 0, 1)) (push : ∀ (st : List Value) (ws : va_W), cs_K M d g A F (pc + 1 + pl) L (.int n :: st) ws cells slots → cs_K M d g A F (pc + 1) L st ws cells slots) (d2 : decode (ps_code M) (pc + 1 + pl) = .ok (.newarray .boolean, 2)) (hn : ¬ n < 0) (hN : n.toNatClampNeg = N) (hb : N ≤ 1000000) (hc : cells + 1 ≤ ps_cs M) (hs : slots + N ≤ ps_ss M) (d3 : decode (ps_code M) (pc + 1 + pl + 2) = .ok (.putfield index, 3)) (hf : cs_fF (ps_own M) index ci k) (hk : k < fs.length)
    (kk : ∀ q, cs_K M d g A F (pc + 1 + pl + 2 + 3) L [] ((h0, .inr (ci, fs.set k (.ref q))) :: (X ++ [(q, .inl (g.2 1, N, .inl (fun _ => 0)))])) (cells + 1) (slots + N)) : cs_K M d g A F pc L [] ((h0, .inr (ci, fs)) :: X) cells slots := by
  refine cs_aload jL d0 rfl hL ?_
  refine push _ _ ?_
  refine cs_newZ d2 hn hN hb hc hs (fun q => ?_)
  exact cs_putF 0 hin d3 hf rfl hk (kk q)
theorem cs_mkV {h0 ci k index jL : Nat} {fs : List Value} {n : Int} {v : Int32} (hL : L[jL]? = some (0, .ref h0)) (d0 : decode (ps_code M) pc = .ok (.aload_n 0, 1)) (d1 : decode (ps_code M) (pc + 1) = .ok (.iconst n, 1)) (hv : Int32.ofInt n = v) (d2 : decode (ps_code M) (pc + 1 + 1) = .ok (.putfield index, 3)) (hf : ps_fp (ps_own M) index ci k .int) (hk : k < fs.length)
    (kk : cs_K M d g A F (pc + 1 + 1 + 3) L [] ((h0, .inr (ci, fs.set k (.int v))) :: X) cells slots) : cs_K M d g A F pc L [] ((h0, .inr (ci, fs)) :: X) cells slots := by
  refine cs_aload jL d0 rfl hL ?_
  refine cs_iconst d1 hv ?_
  exact cs_putI 0 d2 hf rfl hk kk
end CS8
/-- mapIdx, so that it opens step by step -/
def lc_mi (G : ps_G) (φ : Nat → Int32) (k : Nat) : Nat → List (Option Nat) → List Value
  | _, [] => []
  | j, t :: ts => ps_fld G φ k j t :: lc_mi G φ k (j + 1) ts
theorem lc_mi_eq {G : ps_G} {φ : Nat → Int32} {k : Nat} : ∀ (fs : List (Option Nat)) (j : Nat), fs.mapIdx (fun i => ps_fld G φ k (i + j)) = lc_mi G φ k j fs
  | [], _ => List.mapIdx_nil
  | t :: ts, j => by
    rw [List.mapIdx_cons]
    show ps_fld G φ k (0 + j) t :: ts.mapIdx (fun i => ps_fld G φ k (i + 1 + j)) = ps_fld G φ k j t :: lc_mi G φ k (j + 1) ts
    have e : (fun i => ps_fld G φ k (i + 1 + j)) = fun i => ps_fld G φ k (i + (j + 1)) := by
      funext i
      rw [Nat.add_assoc, Nat.add_comm 1 j]
    rw [Nat.zero_add, e, lc_mi_eq ts (j + 1)]
theorem lc_mi0 {G : ps_G} {φ : Nat → Int32} {k : Nat} {fs : List (Option Nat)} : fs.mapIdx (ps_fld G φ k) = lc_mi G φ k 0 fs := lc_mi_eq fs 0
theorem lcX8_eq : lcX8 = [(50, 0), (51, 0), (53, 0), (54, 0), (55, 0), (56, 0), (57, 0), (58, 0), (59, 0), (60, 0), (61, 0), (62, 0), (63, 0), (65, 0), (66, 0), (67, 0), (68, 0), (69, 0), (70, 0), (74, 0), (75, 0), (77, 0), (78, 0), (79, 0)] := by decide +kernel
def cs_b1 (g : cs_G) (ad : Nat → Nat → Nat) (q : Nat × Nat) : Nat × va_E := (ad q.1 q.2, ps_E (ad, g) q (σ0 q.1 q.2))
set_option maxHeartbeats 4000000 in
theorem lc8_fin {g : cs_G} {ad : Nat → Nat → Nat} : cs_blk lcX8 g ad = [(ad 50 0, .inr (8, [.ref (ad 51 0), .int 0, .ref (ad 53 0), .ref (ad 54 0), .ref (ad 55 0), .ref (ad 56 0), .ref (ad 57 0), .ref (ad 58 0), .ref (ad 59 0), .ref (ad 60 0), .ref (ad 61 0), .ref (ad 62 0), .ref (ad 63 0), .int 2, .ref (ad 65 0), .ref (ad 66 0), .ref (ad 67 0), .ref (ad 68 0), .ref (ad 69 0), .ref (ad 70 0), .int 4, .int 2, .int 4, .ref (ad 74 0), .ref (ad 75 0), .int 3, .ref (ad 77 0), .ref (ad 78 0), .ref (ad 79 0)])), (ad 51 0, .inl (g.2 0, 324, .inl (fun t => if t < 324 then -900009 else 0))), (ad 53 0, .inl (g.2 0, 9, .inl (fun _ => 0))), (ad 54 0, .inl (g.2 0, 9, .inl (fun _ => 0))), (ad 55 0, .inl (g.2 0, 512, .inl (fun _ => 0))), (ad 56 0, .inl (g.2 0, 512, .inl (fun _ => 0))), (ad 57 0, .inl (g.2 0, 512, .inl (fun _ => 0))), (ad 58 0, .inl (g.2 1, 486, .inl (fun _ => 0))), (ad 59 0, .inl (g.2 0, 9, .inl (fun _ => 0))), (ad 60 0, .inl (g.2 0, 81, .inl (fun _ => 0))), (ad 61 0, .inl (g.2 0, 4608, .inl (fun _ => 0))), (ad 62 0, .inl (g.2 0, 4608, .inl (fun _ => 0))), (ad 63 0, .inl (g.2 0, 96, .inl (fun t => if t < 96 then -900009 else 0))), (ad 65 0, .inl (g.2 0, 6, .inl (fun _ => 0))), (ad 66 0, .inl (g.2 0, 6, .inl (fun _ => 0))), (ad 67 0, .inl (g.2 0, 6, .inl (fun _ => 0))), (ad 68 0, .inl (g.2 0, 6, .inl (fun _ => 0))), (ad 69 0, .inl (g.2 0, 72, .inl (fun _ => 0))), (ad 70 0, .inl (g.2 0, 72, .inl (fun t => if t < 72 then -900009 else 0))), (ad 74 0, .inl (g.2 0, 24, .inl (fun t => if t < 24 then -900009 else 0))), (ad 75 0, .inl (g.2 0, 144, .inl (fun _ => 0))), (ad 77 0, .inl (g.2 0, 52, .inl (fun _ => 0))), (ad 78 0, .inl (g.2 0, 52, .inl (fun _ => 0))), (ad 79 0, .inl (g.2 0, 48, .inl (fun _ => 0)))] := by
  have F50 : cs_b1 g ad (50, 0) = (ad 50 0, .inr (8, [.ref (ad 51 0), .int 0, .ref (ad 53 0), .ref (ad 54 0), .ref (ad 55 0), .ref (ad 56 0), .ref (ad 57 0), .ref (ad 58 0), .ref (ad 59 0), .ref (ad 60 0), .ref (ad 61 0), .ref (ad 62 0), .ref (ad 63 0), .int 2, .ref (ad 65 0), .ref (ad 66 0), .ref (ad 67 0), .ref (ad 68 0), .ref (ad 69 0), .ref (ad 70 0), .int 4, .int 2, .int 4, .ref (ad 74 0), .ref (ad 75 0), .int 3, .ref (ad 77 0), .ref (ad 78 0), .ref (ad 79 0)])) := by
    show (ad 50 0, ps_E (ad, g) (50, 0) (σ0 50 0)) = _
    rw [ps_E_obj sh_50, lc_mi0]
    rfl
  have F51 : cs_b1 g ad (51, 0) = (ad 51 0, .inl (g.2 0, 324, .inl (fun t => if t < 324 then -900009 else 0))) := by
    show (ad 51 0, ps_E (ad, g) (51, 0) (σ0 51 0)) = _
    rw [ps_E_arr sh_51]
    rfl
  have F53 : cs_b1 g ad (53, 0) = (ad 53 0, .inl (g.2 0, 9, .inl (fun _ => 0))) := by
    show (ad 53 0, ps_E (ad, g) (53, 0) (σ0 53 0)) = _
    rw [ps_E_arr sh_53]
    rfl
  have F54 : cs_b1 g ad (54, 0) = (ad 54 0, .inl (g.2 0, 9, .inl (fun _ => 0))) := by
    show (ad 54 0, ps_E (ad, g) (54, 0) (σ0 54 0)) = _
    rw [ps_E_arr sh_54]
    rfl
  have F55 : cs_b1 g ad (55, 0) = (ad 55 0, .inl (g.2 0, 512, .inl (fun _ => 0))) := by
    show (ad 55 0, ps_E (ad, g) (55, 0) (σ0 55 0)) = _
    rw [ps_E_arr sh_55]
    rfl
  have F56 : cs_b1 g ad (56, 0) = (ad 56 0, .inl (g.2 0, 512, .inl (fun _ => 0))) := by
    show (ad 56 0, ps_E (ad, g) (56, 0) (σ0 56 0)) = _
    rw [ps_E_arr sh_56]
    rfl
  have F57 : cs_b1 g ad (57, 0) = (ad 57 0, .inl (g.2 0, 512, .inl (fun _ => 0))) := by
    show (ad 57 0, ps_E (ad, g) (57, 0) (σ0 57 0)) = _
    rw [ps_E_arr sh_57]
    rfl
  have F58 : cs_b1 g ad (58, 0) = (ad 58 0, .inl (g.2 1, 486, .inl (fun _ => 0))) := by
    show (ad 58 0, ps_E (ad, g) (58, 0) (σ0 58 0)) = _
    rw [ps_E_arr sh_58]
    rfl
  have F59 : cs_b1 g ad (59, 0) = (ad 59 0, .inl (g.2 0, 9, .inl (fun _ => 0))) := by
    show (ad 59 0, ps_E (ad, g) (59, 0) (σ0 59 0)) = _
    rw [ps_E_arr sh_59]
    rfl
  have F60 : cs_b1 g ad (60, 0) = (ad 60 0, .inl (g.2 0, 81, .inl (fun _ => 0))) := by
    show (ad 60 0, ps_E (ad, g) (60, 0) (σ0 60 0)) = _
    rw [ps_E_arr sh_60]
    rfl
  have F61 : cs_b1 g ad (61, 0) = (ad 61 0, .inl (g.2 0, 4608, .inl (fun _ => 0))) := by
    show (ad 61 0, ps_E (ad, g) (61, 0) (σ0 61 0)) = _
    rw [ps_E_arr sh_61]
    rfl
  have F62 : cs_b1 g ad (62, 0) = (ad 62 0, .inl (g.2 0, 4608, .inl (fun _ => 0))) := by
    show (ad 62 0, ps_E (ad, g) (62, 0) (σ0 62 0)) = _
    rw [ps_E_arr sh_62]
    rfl
  have F63 : cs_b1 g ad (63, 0) = (ad 63 0, .inl (g.2 0, 96, .inl (fun t => if t < 96 then -900009 else 0))) := by
    show (ad 63 0, ps_E (ad, g) (63, 0) (σ0 63 0)) = _
    rw [ps_E_arr sh_63]
    rfl
  have F65 : cs_b1 g ad (65, 0) = (ad 65 0, .inl (g.2 0, 6, .inl (fun _ => 0))) := by
    show (ad 65 0, ps_E (ad, g) (65, 0) (σ0 65 0)) = _
    rw [ps_E_arr sh_65]
    rfl
  have F66 : cs_b1 g ad (66, 0) = (ad 66 0, .inl (g.2 0, 6, .inl (fun _ => 0))) := by
    show (ad 66 0, ps_E (ad, g) (66, 0) (σ0 66 0)) = _
    rw [ps_E_arr sh_66]
    rfl
  have F67 : cs_b1 g ad (67, 0) = (ad 67 0, .inl (g.2 0, 6, .inl (fun _ => 0))) := by
    show (ad 67 0, ps_E (ad, g) (67, 0) (σ0 67 0)) = _
    rw [ps_E_arr sh_67]
    rfl
  have F68 : cs_b1 g ad (68, 0) = (ad 68 0, .inl (g.2 0, 6, .inl (fun _ => 0))) := by
    show (ad 68 0, ps_E (ad, g) (68, 0) (σ0 68 0)) = _
    rw [ps_E_arr sh_68]
    rfl
  have F69 : cs_b1 g ad (69, 0) = (ad 69 0, .inl (g.2 0, 72, .inl (fun _ => 0))) := by
    show (ad 69 0, ps_E (ad, g) (69, 0) (σ0 69 0)) = _
    rw [ps_E_arr sh_69]
    rfl
  have F70 : cs_b1 g ad (70, 0) = (ad 70 0, .inl (g.2 0, 72, .inl (fun t => if t < 72 then -900009 else 0))) := by
    show (ad 70 0, ps_E (ad, g) (70, 0) (σ0 70 0)) = _
    rw [ps_E_arr sh_70]
    rfl
  have F74 : cs_b1 g ad (74, 0) = (ad 74 0, .inl (g.2 0, 24, .inl (fun t => if t < 24 then -900009 else 0))) := by
    show (ad 74 0, ps_E (ad, g) (74, 0) (σ0 74 0)) = _
    rw [ps_E_arr sh_74]
    rfl
  have F75 : cs_b1 g ad (75, 0) = (ad 75 0, .inl (g.2 0, 144, .inl (fun _ => 0))) := by
    show (ad 75 0, ps_E (ad, g) (75, 0) (σ0 75 0)) = _
    rw [ps_E_arr sh_75]
    rfl
  have F77 : cs_b1 g ad (77, 0) = (ad 77 0, .inl (g.2 0, 52, .inl (fun _ => 0))) := by
    show (ad 77 0, ps_E (ad, g) (77, 0) (σ0 77 0)) = _
    rw [ps_E_arr sh_77]
    rfl
  have F78 : cs_b1 g ad (78, 0) = (ad 78 0, .inl (g.2 0, 52, .inl (fun _ => 0))) := by
    show (ad 78 0, ps_E (ad, g) (78, 0) (σ0 78 0)) = _
    rw [ps_E_arr sh_78]
    rfl
  have F79 : cs_b1 g ad (79, 0) = (ad 79 0, .inl (g.2 0, 48, .inl (fun _ => 0))) := by
    show (ad 79 0, ps_E (ad, g) (79, 0) (σ0 79 0)) = _
    rw [ps_E_arr sh_79]
    rfl
  rw [lcX8_eq]
  show [cs_b1 g ad (50, 0), cs_b1 g ad (51, 0), cs_b1 g ad (53, 0), cs_b1 g ad (54, 0), cs_b1 g ad (55, 0), cs_b1 g ad (56, 0), cs_b1 g ad (57, 0), cs_b1 g ad (58, 0), cs_b1 g ad (59, 0), cs_b1 g ad (60, 0), cs_b1 g ad (61, 0), cs_b1 g ad (62, 0), cs_b1 g ad (63, 0), cs_b1 g ad (65, 0), cs_b1 g ad (66, 0), cs_b1 g ad (67, 0), cs_b1 g ad (68, 0), cs_b1 g ad (69, 0), cs_b1 g ad (70, 0), cs_b1 g ad (74, 0), cs_b1 g ad (75, 0), cs_b1 g ad (77, 0), cs_b1 g ad (78, 0), cs_b1 g ad (79, 0)] = _
  rw [F50, F51, F53, F54, F55, F56, F57, F58, F59, F60, F61, F62, F63, F65, F66, F67, F68, F69, F70, F74, F75, F77, F78, F79]
set_option maxHeartbeats 20000000 in
set_option maxRecDepth 100000 in
theorem kX8_init {d : Nat} {g : cs_G} {h0 : Nat} : cs_C mX8_init (d + 2) g [.ref h0] [(h0, .inr (8, [.null, .int 0, .null, .null, .null, .null, .null, .null, .null, .null, .null, .null, .null, .int 0, .null, .null, .null, .null, .null, .null, .int 0, .int 0, .int 0, .null, .null, .int 0, .null, .null, .null]))] (cs_Post lcX8 50 g h0) := by
  refine cs_enter (by decide) rfl (Nat.le_of_ble_eq_true rfl) ?_
  refine cs_aload 0 (ps_at tX8_init_ok 0 rfl) rfl rfl ?_
  refine cs_objInit (ps_at tX8_init_ok 1 rfl) obX8_1 (Nat.zero_le _) ?_
  refine cs_mkI (jL := 0) (N := 324) (pl := 3) rfl rfl (ps_at tX8_init_ok 2 rfl) (fun st ws k => cs_sipush (v := 324) (ps_at tX8_init_ok 3 rfl) (by decide) k) (ps_at tX8_init_ok 4 rfl) (by decide) (by decide) (by decide) (by decide) (by decide) (ps_at tX8_init_ok 5 rfl) cfX8_7 (Nat.le_of_ble_eq_true rfl) (fun q1 => ?_)
  show cs_K mX8_init (d + 2) g _ _ 13 _ _ ((h0, .inr (8, [.ref q1, .int 0, .null, .null, .null, .null, .null, .null, .null, .null, .null, .null, .null, .int 0, .null, .null, .null, .null, .null, .null, .int 0, .int 0, .int 0, .null, .null, .int 0, .null, .null, .null])) :: _) 1 324
  refine cs_mkI (jL := 0) (N := 9) (pl := 2) rfl rfl (ps_at tX8_init_ok 6 rfl) (fun st ws k => cs_bipush (v := 9) (ps_at tX8_init_ok 7 rfl) (by decide) k) (ps_at tX8_init_ok 8 rfl) (by decide) (by decide) (by decide) (by decide) (by decide) (ps_at tX8_init_ok 9 rfl) cfX8_13 (Nat.le_of_ble_eq_true rfl) (fun q2 => ?_)
  show cs_K mX8_init (d + 2) g _ _ 21 _ _ ((h0, .inr (8, [.ref q1, .int 0, .ref q2, .null, .null, .null, .null, .null, .null, .null, .null, .null, .null, .int 0, .null, .null, .null, .null, .null, .null, .int 0, .int 0, .int 0, .null, .null, .int 0, .null, .null, .null])) :: _) 2 333
  refine cs_mkI (jL := 0) (N := 9) (pl := 2) rfl rfl (ps_at tX8_init_ok 10 rfl) (fun st ws k => cs_bipush (v := 9) (ps_at tX8_init_ok 11 rfl) (by decide) k) (ps_at tX8_init_ok 12 rfl) (by decide) (by decide) (by decide) (by decide) (by decide) (ps_at tX8_init_ok 13 rfl) cfX8_16 (Nat.le_of_ble_eq_true rfl) (fun q3 => ?_)
  show cs_K mX8_init (d + 2) g _ _ 29 _ _ ((h0, .inr (8, [.ref q1, .int 0, .ref q2, .ref q3, .null, .null, .null, .null, .null, .null, .null, .null, .null, .int 0, .null, .null, .null, .null, .null, .null, .int 0, .int 0, .int 0, .null, .null, .int 0, .null, .null, .null])) :: _) 3 342
  refine cs_mkI (jL := 0) (N := 512) (pl := 3) rfl rfl (ps_at tX8_init_ok 14 rfl) (fun st ws k => cs_sipush (v := 512) (ps_at tX8_init_ok 15 rfl) (by decide) k) (ps_at tX8_init_ok 16 rfl) (by decide) (by decide) (by decide) (by decide) (by decide) (ps_at tX8_init_ok 17 rfl) cfX8_19 (Nat.le_of_ble_eq_true rfl) (fun q4 => ?_)
  show cs_K mX8_init (d + 2) g _ _ 38 _ _ ((h0, .inr (8, [.ref q1, .int 0, .ref q2, .ref q3, .ref q4, .null, .null, .null, .null, .null, .null, .null, .null, .int 0, .null, .null, .null, .null, .null, .null, .int 0, .int 0, .int 0, .null, .null, .int 0, .null, .null, .null])) :: _) 4 854
  refine cs_mkI (jL := 0) (N := 512) (pl := 3) rfl rfl (ps_at tX8_init_ok 18 rfl) (fun st ws k => cs_sipush (v := 512) (ps_at tX8_init_ok 19 rfl) (by decide) k) (ps_at tX8_init_ok 20 rfl) (by decide) (by decide) (by decide) (by decide) (by decide) (ps_at tX8_init_ok 21 rfl) cfX8_22 (Nat.le_of_ble_eq_true rfl) (fun q5 => ?_)
  show cs_K mX8_init (d + 2) g _ _ 47 _ _ ((h0, .inr (8, [.ref q1, .int 0, .ref q2, .ref q3, .ref q4, .ref q5, .null, .null, .null, .null, .null, .null, .null, .int 0, .null, .null, .null, .null, .null, .null, .int 0, .int 0, .int 0, .null, .null, .int 0, .null, .null, .null])) :: _) 5 1366
  refine cs_mkI (jL := 0) (N := 512) (pl := 3) rfl rfl (ps_at tX8_init_ok 22 rfl) (fun st ws k => cs_sipush (v := 512) (ps_at tX8_init_ok 23 rfl) (by decide) k) (ps_at tX8_init_ok 24 rfl) (by decide) (by decide) (by decide) (by decide) (by decide) (ps_at tX8_init_ok 25 rfl) cfX8_25 (Nat.le_of_ble_eq_true rfl) (fun q6 => ?_)
  show cs_K mX8_init (d + 2) g _ _ 56 _ _ ((h0, .inr (8, [.ref q1, .int 0, .ref q2, .ref q3, .ref q4, .ref q5, .ref q6, .null, .null, .null, .null, .null, .null, .int 0, .null, .null, .null, .null, .null, .null, .int 0, .int 0, .int 0, .null, .null, .int 0, .null, .null, .null])) :: _) 6 1878
  refine cs_mkZ (jL := 0) (N := 486) (pl := 3) rfl rfl (ps_at tX8_init_ok 26 rfl) (fun st ws k => cs_sipush (v := 486) (ps_at tX8_init_ok 27 rfl) (by decide) k) (ps_at tX8_init_ok 28 rfl) (by decide) (by decide) (by decide) (by decide) (by decide) (ps_at tX8_init_ok 29 rfl) cfX8_28 (Nat.le_of_ble_eq_true rfl) (fun q7 => ?_)
  show cs_K mX8_init (d + 2) g _ _ 65 _ _ ((h0, .inr (8, [.ref q1, .int 0, .ref q2, .ref q3, .ref q4, .ref q5, .ref q6, .ref q7, .null, .null, .null, .null, .null, .int 0, .null, .null, .null, .null, .null, .null, .int 0, .int 0, .int 0, .null, .null, .int 0, .null, .null, .null])) :: _) 7 2364
  refine cs_mkI (jL := 0) (N := 9) (pl := 2) rfl rfl (ps_at tX8_init_ok 30 rfl) (fun st ws k => cs_bipush (v := 9) (ps_at tX8_init_ok 31 rfl) (by decide) k) (ps_at tX8_init_ok 32 rfl) (by decide) (by decide) (by decide) (by decide) (by decide) (ps_at tX8_init_ok 33 rfl) cfX8_32 (Nat.le_of_ble_eq_true rfl) (fun q8 => ?_)
  show cs_K mX8_init (d + 2) g _ _ 73 _ _ ((h0, .inr (8, [.ref q1, .int 0, .ref q2, .ref q3, .ref q4, .ref q5, .ref q6, .ref q7, .ref q8, .null, .null, .null, .null, .int 0, .null, .null, .null, .null, .null, .null, .int 0, .int 0, .int 0, .null, .null, .int 0, .null, .null, .null])) :: _) 8 2373
  refine cs_mkI (jL := 0) (N := 81) (pl := 2) rfl rfl (ps_at tX8_init_ok 34 rfl) (fun st ws k => cs_bipush (v := 81) (ps_at tX8_init_ok 35 rfl) (by decide) k) (ps_at tX8_init_ok 36 rfl) (by decide) (by decide) (by decide) (by decide) (by decide) (ps_at tX8_init_ok 37 rfl) cfX8_35 (Nat.le_of_ble_eq_true rfl) (fun q9 => ?_)
  show cs_K mX8_init (d + 2) g _ _ 81 _ _ ((h0, .inr (8, [.ref q1, .int 0, .ref q2, .ref q3, .ref q4, .ref q5, .ref q6, .ref q7, .ref q8, .ref q9, .null, .null, .null, .int 0, .null, .null, .null, .null, .null, .null, .int 0, .int 0, .int 0, .null, .null, .int 0, .null, .null, .null])) :: _) 9 2454
  refine cs_mkI (jL := 0) (N := 4608) (pl := 3) rfl rfl (ps_at tX8_init_ok 38 rfl) (fun st ws k => cs_sipush (v := 4608) (ps_at tX8_init_ok 39 rfl) (by decide) k) (ps_at tX8_init_ok 40 rfl) (by decide) (by decide) (by decide) (by decide) (by decide) (ps_at tX8_init_ok 41 rfl) cfX8_38 (Nat.le_of_ble_eq_true rfl) (fun q10 => ?_)
  show cs_K mX8_init (d + 2) g _ _ 90 _ _ ((h0, .inr (8, [.ref q1, .int 0, .ref q2, .ref q3, .ref q4, .ref q5, .ref q6, .ref q7, .ref q8, .ref q9, .ref q10, .null, .null, .int 0, .null, .null, .null, .null, .null, .null, .int 0, .int 0, .int 0, .null, .null, .int 0, .null, .null, .null])) :: _) 10 7062
  refine cs_mkI (jL := 0) (N := 4608) (pl := 3) rfl rfl (ps_at tX8_init_ok 42 rfl) (fun st ws k => cs_sipush (v := 4608) (ps_at tX8_init_ok 43 rfl) (by decide) k) (ps_at tX8_init_ok 44 rfl) (by decide) (by decide) (by decide) (by decide) (by decide) (ps_at tX8_init_ok 45 rfl) cfX8_41 (Nat.le_of_ble_eq_true rfl) (fun q11 => ?_)
  show cs_K mX8_init (d + 2) g _ _ 99 _ _ ((h0, .inr (8, [.ref q1, .int 0, .ref q2, .ref q3, .ref q4, .ref q5, .ref q6, .ref q7, .ref q8, .ref q9, .ref q10, .ref q11, .null, .int 0, .null, .null, .null, .null, .null, .null, .int 0, .int 0, .int 0, .null, .null, .int 0, .null, .null, .null])) :: _) 11 11670
  refine cs_mkI (jL := 0) (N := 96) (pl := 2) rfl rfl (ps_at tX8_init_ok 46 rfl) (fun st ws k => cs_bipush (v := 96) (ps_at tX8_init_ok 47 rfl) (by decide) k) (ps_at tX8_init_ok 48 rfl) (by decide) (by decide) (by decide) (by decide) (by decide) (ps_at tX8_init_ok 49 rfl) cfX8_44 (Nat.le_of_ble_eq_true rfl) (fun q12 => ?_)
  show cs_K mX8_init (d + 2) g _ _ 107 _ _ ((h0, .inr (8, [.ref q1, .int 0, .ref q2, .ref q3, .ref q4, .ref q5, .ref q6, .ref q7, .ref q8, .ref q9, .ref q10, .ref q11, .ref q12, .int 0, .null, .null, .null, .null, .null, .null, .int 0, .int 0, .int 0, .null, .null, .int 0, .null, .null, .null])) :: _) 12 11766
  refine cs_mkV (jL := 0) (v := 2) rfl (ps_at tX8_init_ok 50 rfl) (ps_at tX8_init_ok 51 rfl) (by decide) (ps_at tX8_init_ok 52 rfl) fpX8_47 (Nat.le_of_ble_eq_true rfl) ?_
  show cs_K mX8_init (d + 2) g _ _ 112 _ _ ((h0, .inr (8, [.ref q1, .int 0, .ref q2, .ref q3, .ref q4, .ref q5, .ref q6, .ref q7, .ref q8, .ref q9, .ref q10, .ref q11, .ref q12, .int 2, .null, .null, .null, .null, .null, .null, .int 0, .int 0, .int 0, .null, .null, .int 0, .null, .null, .null])) :: _) 12 11766
  refine cs_mkI (jL := 0) (N := 6) (pl := 2) rfl rfl (ps_at tX8_init_ok 53 rfl) (fun st ws k => cs_bipush (v := 6) (ps_at tX8_init_ok 54 rfl) (by decide) k) (ps_at tX8_init_ok 55 rfl) (by decide) (by decide) (by decide) (by decide) (by decide) (ps_at tX8_init_ok 56 rfl) cfX8_51 (Nat.le_of_ble_eq_true rfl) (fun q13 => ?_)
  show cs_K mX8_init (d + 2) g _ _ 120 _ _ ((h0, .inr (8, [.ref q1, .int 0, .ref q2, .ref q3, .ref q4, .ref q5, .ref q6, .ref q7, .ref q8, .ref q9, .ref q10, .ref q11, .ref q12, .int 2, .ref q13, .null, .null, .null, .null, .null, .int 0, .int 0, .int 0, .null, .null, .int 0, .null, .null, .null])) :: _) 13 11772
  refine cs_mkI (jL := 0) (N := 6) (pl := 2) rfl rfl (ps_at tX8_init_ok 57 rfl) (fun st ws k => cs_bipush (v := 6) (ps_at tX8_init_ok 58 rfl) (by decide) k) (ps_at tX8_init_ok 59 rfl) (by decide) (by decide) (by decide) (by decide) (by decide) (ps_at tX8_init_ok 60 rfl) cfX8_54 (Nat.le_of_ble_eq_true rfl) (fun q14 => ?_)
  show cs_K mX8_init (d + 2) g _ _ 128 _ _ ((h0, .inr (8, [.ref q1, .int 0, .ref q2, .ref q3, .ref q4, .ref q5, .ref q6, .ref q7, .ref q8, .ref q9, .ref q10, .ref q11, .ref q12, .int 2, .ref q13, .ref q14, .null, .null, .null, .null, .int 0, .int 0, .int 0, .null, .null, .int 0, .null, .null, .null])) :: _) 14 11778
  refine cs_mkI (jL := 0) (N := 6) (pl := 2) rfl rfl (ps_at tX8_init_ok 61 rfl) (fun st ws k => cs_bipush (v := 6) (ps_at tX8_init_ok 62 rfl) (by decide) k) (ps_at tX8_init_ok 63 rfl) (by decide) (by decide) (by decide) (by decide) (by decide) (ps_at tX8_init_ok 64 rfl) cfX8_57 (Nat.le_of_ble_eq_true rfl) (fun q15 => ?_)
  show cs_K mX8_init (d + 2) g _ _ 136 _ _ ((h0, .inr (8, [.ref q1, .int 0, .ref q2, .ref q3, .ref q4, .ref q5, .ref q6, .ref q7, .ref q8, .ref q9, .ref q10, .ref q11, .ref q12, .int 2, .ref q13, .ref q14, .ref q15, .null, .null, .null, .int 0, .int 0, .int 0, .null, .null, .int 0, .null, .null, .null])) :: _) 15 11784
  refine cs_mkI (jL := 0) (N := 6) (pl := 2) rfl rfl (ps_at tX8_init_ok 65 rfl) (fun st ws k => cs_bipush (v := 6) (ps_at tX8_init_ok 66 rfl) (by decide) k) (ps_at tX8_init_ok 67 rfl) (by decide) (by decide) (by decide) (by decide) (by decide) (ps_at tX8_init_ok 68 rfl) cfX8_60 (Nat.le_of_ble_eq_true rfl) (fun q16 => ?_)
  show cs_K mX8_init (d + 2) g _ _ 144 _ _ ((h0, .inr (8, [.ref q1, .int 0, .ref q2, .ref q3, .ref q4, .ref q5, .ref q6, .ref q7, .ref q8, .ref q9, .ref q10, .ref q11, .ref q12, .int 2, .ref q13, .ref q14, .ref q15, .ref q16, .null, .null, .int 0, .int 0, .int 0, .null, .null, .int 0, .null, .null, .null])) :: _) 16 11790
  refine cs_mkI (jL := 0) (N := 72) (pl := 2) rfl rfl (ps_at tX8_init_ok 69 rfl) (fun st ws k => cs_bipush (v := 72) (ps_at tX8_init_ok 70 rfl) (by decide) k) (ps_at tX8_init_ok 71 rfl) (by decide) (by decide) (by decide) (by decide) (by decide) (ps_at tX8_init_ok 72 rfl) cfX8_63 (Nat.le_of_ble_eq_true rfl) (fun q17 => ?_)
  show cs_K mX8_init (d + 2) g _ _ 152 _ _ ((h0, .inr (8, [.ref q1, .int 0, .ref q2, .ref q3, .ref q4, .ref q5, .ref q6, .ref q7, .ref q8, .ref q9, .ref q10, .ref q11, .ref q12, .int 2, .ref q13, .ref q14, .ref q15, .ref q16, .ref q17, .null, .int 0, .int 0, .int 0, .null, .null, .int 0, .null, .null, .null])) :: _) 17 11862
  refine cs_mkI (jL := 0) (N := 72) (pl := 2) rfl rfl (ps_at tX8_init_ok 73 rfl) (fun st ws k => cs_bipush (v := 72) (ps_at tX8_init_ok 74 rfl) (by decide) k) (ps_at tX8_init_ok 75 rfl) (by decide) (by decide) (by decide) (by decide) (by decide) (ps_at tX8_init_ok 76 rfl) cfX8_66 (Nat.le_of_ble_eq_true rfl) (fun q18 => ?_)
  show cs_K mX8_init (d + 2) g _ _ 160 _ _ ((h0, .inr (8, [.ref q1, .int 0, .ref q2, .ref q3, .ref q4, .ref q5, .ref q6, .ref q7, .ref q8, .ref q9, .ref q10, .ref q11, .ref q12, .int 2, .ref q13, .ref q14, .ref q15, .ref q16, .ref q17, .ref q18, .int 0, .int 0, .int 0, .null, .null, .int 0, .null, .null, .null])) :: _) 18 11934
  refine cs_mkV (jL := 0) (v := 4) rfl (ps_at tX8_init_ok 77 rfl) (ps_at tX8_init_ok 78 rfl) (by decide) (ps_at tX8_init_ok 79 rfl) fpX8_69 (Nat.le_of_ble_eq_true rfl) ?_
  show cs_K mX8_init (d + 2) g _ _ 165 _ _ ((h0, .inr (8, [.ref q1, .int 0, .ref q2, .ref q3, .ref q4, .ref q5, .ref q6, .ref q7, .ref q8, .ref q9, .ref q10, .ref q11, .ref q12, .int 2, .ref q13, .ref q14, .ref q15, .ref q16, .ref q17, .ref q18, .int 4, .int 0, .int 0, .null, .null, .int 0, .null, .null, .null])) :: _) 18 11934
  refine cs_mkV (jL := 0) (v := 2) rfl (ps_at tX8_init_ok 80 rfl) (ps_at tX8_init_ok 81 rfl) (by decide) (ps_at tX8_init_ok 82 rfl) fpX8_72 (Nat.le_of_ble_eq_true rfl) ?_
  show cs_K mX8_init (d + 2) g _ _ 170 _ _ ((h0, .inr (8, [.ref q1, .int 0, .ref q2, .ref q3, .ref q4, .ref q5, .ref q6, .ref q7, .ref q8, .ref q9, .ref q10, .ref q11, .ref q12, .int 2, .ref q13, .ref q14, .ref q15, .ref q16, .ref q17, .ref q18, .int 4, .int 2, .int 0, .null, .null, .int 0, .null, .null, .null])) :: _) 18 11934
  refine cs_mkV (jL := 0) (v := 4) rfl (ps_at tX8_init_ok 83 rfl) (ps_at tX8_init_ok 84 rfl) (by decide) (ps_at tX8_init_ok 85 rfl) fpX8_75 (Nat.le_of_ble_eq_true rfl) ?_
  show cs_K mX8_init (d + 2) g _ _ 175 _ _ ((h0, .inr (8, [.ref q1, .int 0, .ref q2, .ref q3, .ref q4, .ref q5, .ref q6, .ref q7, .ref q8, .ref q9, .ref q10, .ref q11, .ref q12, .int 2, .ref q13, .ref q14, .ref q15, .ref q16, .ref q17, .ref q18, .int 4, .int 2, .int 4, .null, .null, .int 0, .null, .null, .null])) :: _) 18 11934
  refine cs_mkI (jL := 0) (N := 24) (pl := 2) rfl rfl (ps_at tX8_init_ok 86 rfl) (fun st ws k => cs_bipush (v := 24) (ps_at tX8_init_ok 87 rfl) (by decide) k) (ps_at tX8_init_ok 88 rfl) (by decide) (by decide) (by decide) (by decide) (by decide) (ps_at tX8_init_ok 89 rfl) cfX8_78 (Nat.le_of_ble_eq_true rfl) (fun q19 => ?_)
  show cs_K mX8_init (d + 2) g _ _ 183 _ _ ((h0, .inr (8, [.ref q1, .int 0, .ref q2, .ref q3, .ref q4, .ref q5, .ref q6, .ref q7, .ref q8, .ref q9, .ref q10, .ref q11, .ref q12, .int 2, .ref q13, .ref q14, .ref q15, .ref q16, .ref q17, .ref q18, .int 4, .int 2, .int 4, .ref q19, .null, .int 0, .null, .null, .null])) :: _) 19 11958
  refine cs_mkI (jL := 0) (N := 144) (pl := 3) rfl rfl (ps_at tX8_init_ok 90 rfl) (fun st ws k => cs_sipush (v := 144) (ps_at tX8_init_ok 91 rfl) (by decide) k) (ps_at tX8_init_ok 92 rfl) (by decide) (by decide) (by decide) (by decide) (by decide) (ps_at tX8_init_ok 93 rfl) cfX8_81 (Nat.le_of_ble_eq_true rfl) (fun q20 => ?_)
  show cs_K mX8_init (d + 2) g _ _ 192 _ _ ((h0, .inr (8, [.ref q1, .int 0, .ref q2, .ref q3, .ref q4, .ref q5, .ref q6, .ref q7, .ref q8, .ref q9, .ref q10, .ref q11, .ref q12, .int 2, .ref q13, .ref q14, .ref q15, .ref q16, .ref q17, .ref q18, .int 4, .int 2, .int 4, .ref q19, .ref q20, .int 0, .null, .null, .null])) :: _) 20 12102
  refine cs_mkV (jL := 0) (v := 3) rfl (ps_at tX8_init_ok 94 rfl) (ps_at tX8_init_ok 95 rfl) (by decide) (ps_at tX8_init_ok 96 rfl) fpX8_84 (Nat.le_of_ble_eq_true rfl) ?_
  show cs_K mX8_init (d + 2) g _ _ 197 _ _ ((h0, .inr (8, [.ref q1, .int 0, .ref q2, .ref q3, .ref q4, .ref q5, .ref q6, .ref q7, .ref q8, .ref q9, .ref q10, .ref q11, .ref q12, .int 2, .ref q13, .ref q14, .ref q15, .ref q16, .ref q17, .ref q18, .int 4, .int 2, .int 4, .ref q19, .ref q20, .int 3, .null, .null, .null])) :: _) 20 12102
  refine cs_mkI (jL := 0) (N := 52) (pl := 2) rfl rfl (ps_at tX8_init_ok 97 rfl) (fun st ws k => cs_bipush (v := 52) (ps_at tX8_init_ok 98 rfl) (by decide) k) (ps_at tX8_init_ok 99 rfl) (by decide) (by decide) (by decide) (by decide) (by decide) (ps_at tX8_init_ok 100 rfl) cfX8_87 (Nat.le_of_ble_eq_true rfl) (fun q21 => ?_)
  show cs_K mX8_init (d + 2) g _ _ 205 _ _ ((h0, .inr (8, [.ref q1, .int 0, .ref q2, .ref q3, .ref q4, .ref q5, .ref q6, .ref q7, .ref q8, .ref q9, .ref q10, .ref q11, .ref q12, .int 2, .ref q13, .ref q14, .ref q15, .ref q16, .ref q17, .ref q18, .int 4, .int 2, .int 4, .ref q19, .ref q20, .int 3, .ref q21, .null, .null])) :: _) 21 12154
  refine cs_mkI (jL := 0) (N := 52) (pl := 2) rfl rfl (ps_at tX8_init_ok 101 rfl) (fun st ws k => cs_bipush (v := 52) (ps_at tX8_init_ok 102 rfl) (by decide) k) (ps_at tX8_init_ok 103 rfl) (by decide) (by decide) (by decide) (by decide) (by decide) (ps_at tX8_init_ok 104 rfl) cfX8_90 (Nat.le_of_ble_eq_true rfl) (fun q22 => ?_)
  show cs_K mX8_init (d + 2) g _ _ 213 _ _ ((h0, .inr (8, [.ref q1, .int 0, .ref q2, .ref q3, .ref q4, .ref q5, .ref q6, .ref q7, .ref q8, .ref q9, .ref q10, .ref q11, .ref q12, .int 2, .ref q13, .ref q14, .ref q15, .ref q16, .ref q17, .ref q18, .int 4, .int 2, .int 4, .ref q19, .ref q20, .int 3, .ref q21, .ref q22, .null])) :: _) 22 12206
  refine cs_mkI (jL := 0) (N := 48) (pl := 2) rfl rfl (ps_at tX8_init_ok 105 rfl) (fun st ws k => cs_bipush (v := 48) (ps_at tX8_init_ok 106 rfl) (by decide) k) (ps_at tX8_init_ok 107 rfl) (by decide) (by decide) (by decide) (by decide) (by decide) (ps_at tX8_init_ok 108 rfl) cfX8_93 (Nat.le_of_ble_eq_true rfl) (fun q23 => ?_)
  simp only [List.nil_append, List.append_assoc, List.cons_append]
  show cs_K mX8_init (d + 2) g _ _ 221 _ _ ((h0, .inr (8, [.ref q1, .int 0, .ref q2, .ref q3, .ref q4, .ref q5, .ref q6, .ref q7, .ref q8, .ref q9, .ref q10, .ref q11, .ref q12, .int 2, .ref q13, .ref q14, .ref q15, .ref q16, .ref q17, .ref q18, .int 4, .int 2, .int 4, .ref q19, .ref q20, .int 3, .ref q21, .ref q22, .ref q23])) :: [(q1, .inl (g.2 0, 324, .inl (fun _ => 0))), (q2, .inl (g.2 0, 9, .inl (fun _ => 0))), (q3, .inl (g.2 0, 9, .inl (fun _ => 0))), (q4, .inl (g.2 0, 512, .inl (fun _ => 0))), (q5, .inl (g.2 0, 512, .inl (fun _ => 0))), (q6, .inl (g.2 0, 512, .inl (fun _ => 0))), (q7, .inl (g.2 1, 486, .inl (fun _ => 0))), (q8, .inl (g.2 0, 9, .inl (fun _ => 0))), (q9, .inl (g.2 0, 81, .inl (fun _ => 0))), (q10, .inl (g.2 0, 4608, .inl (fun _ => 0))), (q11, .inl (g.2 0, 4608, .inl (fun _ => 0))), (q12, .inl (g.2 0, 96, .inl (fun _ => 0))), (q13, .inl (g.2 0, 6, .inl (fun _ => 0))), (q14, .inl (g.2 0, 6, .inl (fun _ => 0))), (q15, .inl (g.2 0, 6, .inl (fun _ => 0))), (q16, .inl (g.2 0, 6, .inl (fun _ => 0))), (q17, .inl (g.2 0, 72, .inl (fun _ => 0))), (q18, .inl (g.2 0, 72, .inl (fun _ => 0))), (q19, .inl (g.2 0, 24, .inl (fun _ => 0))), (q20, .inl (g.2 0, 144, .inl (fun _ => 0))), (q21, .inl (g.2 0, 52, .inl (fun _ => 0))), (q22, .inl (g.2 0, 52, .inl (fun _ => 0))), (q23, .inl (g.2 0, 48, .inl (fun _ => 0)))]) 23 12254
  refine cs_iconst (v := 0) (ps_at tX8_init_ok 109 rfl) (by decide) ?_
  refine cs_istore (L' := [(1, .int 0), (0, .ref h0)]) (ps_at tX8_init_ok 110 rfl) rfl (by decide) rfl ?_
  refine cs_rowLoop (M := mX8_init) (d := d + 2) (g := g) (cells := 23) (slots := 12254) (hp := 223) (pl := 3) (N := 324) (end_ := 244) (a := q1) (q0 := 1) (by decide) (by decide) (by decide) (ps_at tX8_init_ok 111 rfl) (fun L st ws k => cs_sipush (v := nI 324) (ps_at tX8_init_ok 112 rfl) (by decide) k) (ps_at tX8_init_ok 113 rfl) (by decide) (ps_at tX8_init_ok 114 rfl) (ps_at tX8_init_ok 115 rfl) flX8_7 (ps_at tX8_init_ok 116 rfl) (ps_at tX8_init_ok 117 rfl) cnX8_96 (ps_at tX8_init_ok 118 rfl) (ps_at tX8_init_ok 119 rfl) (ps_at tX8_init_ok 120 rfl) (by decide) rfl rfl rfl ?_
  refine cs_loc (L' := [(0, .ref h0)]) (fun q hq => List.mem_cons_of_mem _ hq) ?_
  show cs_K mX8_init (d + 2) g _ _ 244 _ _ ((h0, .inr (8, [.ref q1, .int 0, .ref q2, .ref q3, .ref q4, .ref q5, .ref q6, .ref q7, .ref q8, .ref q9, .ref q10, .ref q11, .ref q12, .int 2, .ref q13, .ref q14, .ref q15, .ref q16, .ref q17, .ref q18, .int 4, .int 2, .int 4, .ref q19, .ref q20, .int 3, .ref q21, .ref q22, .ref q23])) :: [(q1, .inl (g.2 0, 324, .inl (fun t => if t < 324 then -900009 else 0))), (q2, .inl (g.2 0, 9, .inl (fun _ => 0))), (q3, .inl (g.2 0, 9, .inl (fun _ => 0))), (q4, .inl (g.2 0, 512, .inl (fun _ => 0))), (q5, .inl (g.2 0, 512, .inl (fun _ => 0))), (q6, .inl (g.2 0, 512, .inl (fun _ => 0))), (q7, .inl (g.2 1, 486, .inl (fun _ => 0))), (q8, .inl (g.2 0, 9, .inl (fun _ => 0))), (q9, .inl (g.2 0, 81, .inl (fun _ => 0))), (q10, .inl (g.2 0, 4608, .inl (fun _ => 0))), (q11, .inl (g.2 0, 4608, .inl (fun _ => 0))), (q12, .inl (g.2 0, 96, .inl (fun _ => 0))), (q13, .inl (g.2 0, 6, .inl (fun _ => 0))), (q14, .inl (g.2 0, 6, .inl (fun _ => 0))), (q15, .inl (g.2 0, 6, .inl (fun _ => 0))), (q16, .inl (g.2 0, 6, .inl (fun _ => 0))), (q17, .inl (g.2 0, 72, .inl (fun _ => 0))), (q18, .inl (g.2 0, 72, .inl (fun _ => 0))), (q19, .inl (g.2 0, 24, .inl (fun _ => 0))), (q20, .inl (g.2 0, 144, .inl (fun _ => 0))), (q21, .inl (g.2 0, 52, .inl (fun _ => 0))), (q22, .inl (g.2 0, 52, .inl (fun _ => 0))), (q23, .inl (g.2 0, 48, .inl (fun _ => 0)))]) 23 12254
  refine cs_iconst (v := 0) (ps_at tX8_init_ok 121 rfl) (by decide) ?_
  refine cs_istore (L' := [(1, .int 0), (0, .ref h0)]) (ps_at tX8_init_ok 122 rfl) rfl (by decide) rfl ?_
  refine cs_rowLoop (M := mX8_init) (d := d + 2) (g := g) (cells := 23) (slots := 12254) (hp := 246) (pl := 2) (N := 96) (end_ := 266) (a := q12) (q0 := 12) (by decide) (by decide) (by decide) (ps_at tX8_init_ok 123 rfl) (fun L st ws k => cs_bipush (v := nI 96) (ps_at tX8_init_ok 124 rfl) (by decide) k) (ps_at tX8_init_ok 125 rfl) (by decide) (ps_at tX8_init_ok 126 rfl) (ps_at tX8_init_ok 127 rfl) flX8_44 (ps_at tX8_init_ok 128 rfl) (ps_at tX8_init_ok 129 rfl) cnX8_96 (ps_at tX8_init_ok 130 rfl) (ps_at tX8_init_ok 131 rfl) (ps_at tX8_init_ok 132 rfl) (by decide) rfl rfl rfl ?_
  refine cs_loc (L' := [(0, .ref h0)]) (fun q hq => List.mem_cons_of_mem _ hq) ?_
  show cs_K mX8_init (d + 2) g _ _ 266 _ _ ((h0, .inr (8, [.ref q1, .int 0, .ref q2, .ref q3, .ref q4, .ref q5, .ref q6, .ref q7, .ref q8, .ref q9, .ref q10, .ref q11, .ref q12, .int 2, .ref q13, .ref q14, .ref q15, .ref q16, .ref q17, .ref q18, .int 4, .int 2, .int 4, .ref q19, .ref q20, .int 3, .ref q21, .ref q22, .ref q23])) :: [(q1, .inl (g.2 0, 324, .inl (fun t => if t < 324 then -900009 else 0))), (q2, .inl (g.2 0, 9, .inl (fun _ => 0))), (q3, .inl (g.2 0, 9, .inl (fun _ => 0))), (q4, .inl (g.2 0, 512, .inl (fun _ => 0))), (q5, .inl (g.2 0, 512, .inl (fun _ => 0))), (q6, .inl (g.2 0, 512, .inl (fun _ => 0))), (q7, .inl (g.2 1, 486, .inl (fun _ => 0))), (q8, .inl (g.2 0, 9, .inl (fun _ => 0))), (q9, .inl (g.2 0, 81, .inl (fun _ => 0))), (q10, .inl (g.2 0, 4608, .inl (fun _ => 0))), (q11, .inl (g.2 0, 4608, .inl (fun _ => 0))), (q12, .inl (g.2 0, 96, .inl (fun t => if t < 96 then -900009 else 0))), (q13, .inl (g.2 0, 6, .inl (fun _ => 0))), (q14, .inl (g.2 0, 6, .inl (fun _ => 0))), (q15, .inl (g.2 0, 6, .inl (fun _ => 0))), (q16, .inl (g.2 0, 6, .inl (fun _ => 0))), (q17, .inl (g.2 0, 72, .inl (fun _ => 0))), (q18, .inl (g.2 0, 72, .inl (fun _ => 0))), (q19, .inl (g.2 0, 24, .inl (fun _ => 0))), (q20, .inl (g.2 0, 144, .inl (fun _ => 0))), (q21, .inl (g.2 0, 52, .inl (fun _ => 0))), (q22, .inl (g.2 0, 52, .inl (fun _ => 0))), (q23, .inl (g.2 0, 48, .inl (fun _ => 0)))]) 23 12254
  refine cs_iconst (v := 0) (ps_at tX8_init_ok 133 rfl) (by decide) ?_
  refine cs_istore (L' := [(1, .int 0), (0, .ref h0)]) (ps_at tX8_init_ok 134 rfl) rfl (by decide) rfl ?_
  refine cs_rowLoop (M := mX8_init) (d := d + 2) (g := g) (cells := 23) (slots := 12254) (hp := 268) (pl := 2) (N := 72) (end_ := 288) (a := q18) (q0 := 18) (by decide) (by decide) (by decide) (ps_at tX8_init_ok 135 rfl) (fun L st ws k => cs_bipush (v := nI 72) (ps_at tX8_init_ok 136 rfl) (by decide) k) (ps_at tX8_init_ok 137 rfl) (by decide) (ps_at tX8_init_ok 138 rfl) (ps_at tX8_init_ok 139 rfl) flX8_66 (ps_at tX8_init_ok 140 rfl) (ps_at tX8_init_ok 141 rfl) cnX8_96 (ps_at tX8_init_ok 142 rfl) (ps_at tX8_init_ok 143 rfl) (ps_at tX8_init_ok 144 rfl) (by decide) rfl rfl rfl ?_
  refine cs_loc (L' := [(0, .ref h0)]) (fun q hq => List.mem_cons_of_mem _ hq) ?_
  show cs_K mX8_init (d + 2) g _ _ 288 _ _ ((h0, .inr (8, [.ref q1, .int 0, .ref q2, .ref q3, .ref q4, .ref q5, .ref q6, .ref q7, .ref q8, .ref q9, .ref q10, .ref q11, .ref q12, .int 2, .ref q13, .ref q14, .ref q15, .ref q16, .ref q17, .ref q18, .int 4, .int 2, .int 4, .ref q19, .ref q20, .int 3, .ref q21, .ref q22, .ref q23])) :: [(q1, .inl (g.2 0, 324, .inl (fun t => if t < 324 then -900009 else 0))), (q2, .inl (g.2 0, 9, .inl (fun _ => 0))), (q3, .inl (g.2 0, 9, .inl (fun _ => 0))), (q4, .inl (g.2 0, 512, .inl (fun _ => 0))), (q5, .inl (g.2 0, 512, .inl (fun _ => 0))), (q6, .inl (g.2 0, 512, .inl (fun _ => 0))), (q7, .inl (g.2 1, 486, .inl (fun _ => 0))), (q8, .inl (g.2 0, 9, .inl (fun _ => 0))), (q9, .inl (g.2 0, 81, .inl (fun _ => 0))), (q10, .inl (g.2 0, 4608, .inl (fun _ => 0))), (q11, .inl (g.2 0, 4608, .inl (fun _ => 0))), (q12, .inl (g.2 0, 96, .inl (fun t => if t < 96 then -900009 else 0))), (q13, .inl (g.2 0, 6, .inl (fun _ => 0))), (q14, .inl (g.2 0, 6, .inl (fun _ => 0))), (q15, .inl (g.2 0, 6, .inl (fun _ => 0))), (q16, .inl (g.2 0, 6, .inl (fun _ => 0))), (q17, .inl (g.2 0, 72, .inl (fun _ => 0))), (q18, .inl (g.2 0, 72, .inl (fun t => if t < 72 then -900009 else 0))), (q19, .inl (g.2 0, 24, .inl (fun _ => 0))), (q20, .inl (g.2 0, 144, .inl (fun _ => 0))), (q21, .inl (g.2 0, 52, .inl (fun _ => 0))), (q22, .inl (g.2 0, 52, .inl (fun _ => 0))), (q23, .inl (g.2 0, 48, .inl (fun _ => 0)))]) 23 12254
  refine cs_iconst (v := 0) (ps_at tX8_init_ok 145 rfl) (by decide) ?_
  refine cs_istore (L' := [(1, .int 0), (0, .ref h0)]) (ps_at tX8_init_ok 146 rfl) rfl (by decide) rfl ?_
  refine cs_rowLoop (M := mX8_init) (d := d + 2) (g := g) (cells := 23) (slots := 12254) (hp := 290) (pl := 2) (N := 24) (end_ := 310) (a := q19) (q0 := 19) (by decide) (by decide) (by decide) (ps_at tX8_init_ok 147 rfl) (fun L st ws k => cs_bipush (v := nI 24) (ps_at tX8_init_ok 148 rfl) (by decide) k) (ps_at tX8_init_ok 149 rfl) (by decide) (ps_at tX8_init_ok 150 rfl) (ps_at tX8_init_ok 151 rfl) flX8_78 (ps_at tX8_init_ok 152 rfl) (ps_at tX8_init_ok 153 rfl) cnX8_96 (ps_at tX8_init_ok 154 rfl) (ps_at tX8_init_ok 155 rfl) (ps_at tX8_init_ok 156 rfl) (by decide) rfl rfl rfl ?_
  refine cs_loc (L' := [(0, .ref h0)]) (fun q hq => List.mem_cons_of_mem _ hq) ?_
  show cs_K mX8_init (d + 2) g _ _ 310 _ _ ((h0, .inr (8, [.ref q1, .int 0, .ref q2, .ref q3, .ref q4, .ref q5, .ref q6, .ref q7, .ref q8, .ref q9, .ref q10, .ref q11, .ref q12, .int 2, .ref q13, .ref q14, .ref q15, .ref q16, .ref q17, .ref q18, .int 4, .int 2, .int 4, .ref q19, .ref q20, .int 3, .ref q21, .ref q22, .ref q23])) :: [(q1, .inl (g.2 0, 324, .inl (fun t => if t < 324 then -900009 else 0))), (q2, .inl (g.2 0, 9, .inl (fun _ => 0))), (q3, .inl (g.2 0, 9, .inl (fun _ => 0))), (q4, .inl (g.2 0, 512, .inl (fun _ => 0))), (q5, .inl (g.2 0, 512, .inl (fun _ => 0))), (q6, .inl (g.2 0, 512, .inl (fun _ => 0))), (q7, .inl (g.2 1, 486, .inl (fun _ => 0))), (q8, .inl (g.2 0, 9, .inl (fun _ => 0))), (q9, .inl (g.2 0, 81, .inl (fun _ => 0))), (q10, .inl (g.2 0, 4608, .inl (fun _ => 0))), (q11, .inl (g.2 0, 4608, .inl (fun _ => 0))), (q12, .inl (g.2 0, 96, .inl (fun t => if t < 96 then -900009 else 0))), (q13, .inl (g.2 0, 6, .inl (fun _ => 0))), (q14, .inl (g.2 0, 6, .inl (fun _ => 0))), (q15, .inl (g.2 0, 6, .inl (fun _ => 0))), (q16, .inl (g.2 0, 6, .inl (fun _ => 0))), (q17, .inl (g.2 0, 72, .inl (fun _ => 0))), (q18, .inl (g.2 0, 72, .inl (fun t => if t < 72 then -900009 else 0))), (q19, .inl (g.2 0, 24, .inl (fun t => if t < 24 then -900009 else 0))), (q20, .inl (g.2 0, 144, .inl (fun _ => 0))), (q21, .inl (g.2 0, 52, .inl (fun _ => 0))), (q22, .inl (g.2 0, 52, .inl (fun _ => 0))), (q23, .inl (g.2 0, 48, .inl (fun _ => 0)))]) 23 12254
  refine cs_vret (ps_at tX8_init_ok 157 rfl) rfl (by decide) (by decide) ?_
  refine ⟨fun f k => if f = 50 then h0 else if f = 51 then q1 else if f = 53 then q2 else if f = 54 then q3 else if f = 55 then q4 else if f = 56 then q5 else if f = 57 then q6 else if f = 58 then q7 else if f = 59 then q8 else if f = 60 then q9 else if f = 61 then q10 else if f = 62 then q11 else if f = 63 then q12 else if f = 65 then q13 else if f = 66 then q14 else if f = 67 then q15 else if f = 68 then q16 else if f = 69 then q17 else if f = 70 then q18 else if f = 74 then q19 else if f = 75 then q20 else if f = 77 then q21 else if f = 78 then q22 else if f = 79 then q23 else 0, rfl, ?_⟩
  rw [lc8_fin]
  rfl

/-! ===== the claim out of one walk (the kit's skeleton, its words) ===== -/
def R_law : String := "PressSheetsLaw"
def lw_P (b : Addr) (xs : List Int32) (args : Array Value) (s : State) : Prop := args = #[.ref b] ∧ s.IntsAt b xs ∧ xs.length ≤ 2560 ∧ (Jvm.Cond.and given_1 narrow_1).before args s = true
def lw_Q (_ : Array Value) (s : State) (o : Outcome) (t : State) : Prop := o = .returned (some (.int 1)) ∧ Framed s o t [] 600000 7302250
def lw_Z (below : List Frame) (a : Array Value) (s : State) : State → Prop := fun t => ∃ o, t.status = .running ∧ Ended t below o ∧ lw_Q a s o t
/-- the law's own end, with 1 on the stack, nothing written that was there before, its room as the claim has it -/
theorem lw_ret {p : Program} {l : Launch} {e : Env} {s : State} {m : MethodId} {below : List Frame} {meth : Method} {c : Code} {b : Nat} (hx : p.tables.exec = Jvm.exec) (hb : c.code = code) (hr : meth.sig.returnType = ret) (hlocks : meth.locks = false) {pc : Nat} {H : Heap} {ls : Array Slot} (hdg : decode code pc = .ok (.ireturn, 1)) : W p l e room_1 s m #[Value.ref b] below meth c H [] 600000 7302250 (lw_Z below #[Value.ref b] s) (F0 m pc ls [.int 1]) := by
  intro T hT X
  obtain ⟨fs, hret, hrun, hended, hW, hframe⟩ := X.leave (v := some (.int 1)) (hlocks := hlocks) (fun h => by rw [hr] at h; cases h)
  have hmeth' : T.vm.method? m = some meth := X.method'
  refine ⟨T.setFrames fs, ?_, .returned (some (.int 1)), hrun, hended, rfl, ⟨_, rfl⟩, hW, hframe⟩
  jvm_step X.here [X.here.top, hx, hb, hdg, hmeth', hr, ret, narrow_b1]
  (try refine ⟨rfl, ?_⟩); (try refine ⟨rfl, ?_⟩)
  first | (intro acts; rw [hret _ acts rfl rfl rfl]) | rw [hret _ _ rfl rfl rfl]
  exact Steps.refl _
/-- what holds at the law's entry: the machine, the code, the tables' words (any of lw_tbl by 'hts w (by decide +kernel)'), the script of L ints xs at the cell b, what the Statement gives of the start (any of its parts by flat_of_before) -/
def lw_At (p : Program) (s : State) (m : MethodId) (meth : Method) (c : Code) (b L : Nat) (xs : Nat → Int32) : Prop :=
  p.tables.exec = Jvm.exec ∧ c.code = code ∧ meth.sig.returnType = ret ∧ c.maxLocals = 4 ∧ s.vm.findClass R_law = some m.cls ∧ (∀ w ∈ lw_tbl, w.before #[Value.ref b] s = true) ∧ va_X b L xs s s.heap ∧ b < s.heap.size ∧ meth.locks = false ∧ (Jvm.Cond.and given_1 narrow_1).before #[Value.ref b] s = true
/-- the law's own end in any room -/
theorem lw_end {p : Program} {l : Launch} {e : Env} {R : Room} {s : State} {m : MethodId} {args : Array Value} {below : List Frame} {meth : Method} {c : Code} (hx : p.tables.exec = Jvm.exec) (hb : c.code = code) (hr : meth.sig.returnType = ret) (hlocks : meth.locks = false) {pc : Nat} {H : Heap} {ls : Array Slot} (hdg : decode code pc = .ok (.ireturn, 1)) : W p l e R s m args below meth c H [] 600000 7302250 (lw_Z below args s) (F0 m pc ls [.int 1]) := by
  intro T hT X
  obtain ⟨fs, hret, hrun, hended, hW, hframe⟩ := X.leave (v := some (.int 1)) (hlocks := hlocks) (fun h => by rw [hr] at h; cases h)
  have hmeth' : T.vm.method? m = some meth := X.method'
  refine ⟨T.setFrames fs, ?_, .returned (some (.int 1)), hrun, hended, rfl, ⟨_, rfl⟩, hW, hframe⟩
  jvm_step X.here [X.here.top, hx, hb, hdg, hmeth', hr, ret, narrow_b1]
  (try refine ⟨rfl, ?_⟩); (try refine ⟨rfl, ?_⟩)
  first | (intro acts; rw [hret _ acts rfl rfl rfl]) | rw [hret _ _ rfl rfl rfl]
  exact Steps.refl _
/-! ===== the law's own walk ===== -/
abbrev mL (n : Nat) (xs : Nat → Int32) : ps_M := (RL, x, code, 4, ret, (1000, 100000), some (n, xs))
abbrev LwL (i : Nat) : ps_L := [some (.inr (.inr (0, 0))), some ps_x, some ps_m, some (.inl (nI i))]
def argL (pc j : Nat) : List (Nat × Instr × Nat) := [(pc, .aload_n 0, 1), (pc + 1, .iload_n 3, 1), (pc + 2, .iconst (j : Int), 1), (pc + 3, .iadd, 1), (pc + 4, .iaload, 1)]
def argsL : Nat → Nat → Nat → List (Nat × Instr × Nat)
  | _, _, 0 => []
  | pc, j, a + 1 => argL pc j ++ argsL (pc + 5) (j + 1) a
def boolL (pc : Nat) : List (Nat × Instr × Nat) := [(pc, .ifCond .eq 7, 3), (pc + 3, .iconst 1, 1), (pc + 4, .goto 4, 3), (pc + 7, .iconst 0, 1)]
def okL (t : List (Nat × Instr × Nat)) : Prop := ∀ q ∈ t, decode code q.1 = .ok (q.2.1, q.2.2)
def avL (xs : Nat → Int32) (i : Nat) : Nat → Nat → List ps_V
  | _, 0 => []
  | j, a + 1 => .inl (xs (i + j)) :: avL xs i (j + 1) a
def bz (v : Int32) : Int32 := if v = 0 then 0 else 1
theorem bz_01 (v : Int32) : bz v = 0 ∨ bz v = 1 := by unfold bz; split <;> simp
theorem ic5 : ∀ j : Nat, j < 5 → Int32.ofInt (j : Int) = nI j := by decide
theorem neg5 : ∀ n : Nat, n < 5 → (nI n - 5).toInt < 0 := by decide
def tgtL (k : Nat) : Nat := [196, 249, 292, 315, 348, 391, 424, 493, 536, 559, 582, 615, 658, 701, 734, 767, 780, 803, 826, 859, 902, 915, 948, 971, 1014, 1037, 1070, 1129, 1162, 1205, 1258, 1281, 1314, 1327, 1350, 1373, 1386].getD k 0
theorem swT : ∀ k : Nat, k < 37 → (#[164, 217, 260, 283, 316, 359, 392, 461, 504, 527, 550, 583, 626, 669, 702, 735, 748, 771, 794, 827, 870, 883, 916, 939, 982, 1005, 1038, 1097, 1130, 1173, 1226, 1249, 1282, 1295, 1318, 1341, 1354] : Array Int)[k]? = some ((tgtL k : Int) - 32) := by decide
theorem avL_snoc (xs : Nat → Int32) (i : Nat) : ∀ (a j : Nat), avL xs i j (a + 1) = avL xs i j a ++ [.inl (xs (i + (j + a)))]
  | 0, j => rfl
  | a + 1, j => by
    show .inl (xs (i + j)) :: avL xs i (j + 1) (a + 1) = .inl (xs (i + j)) :: (avL xs i (j + 1) a ++ [.inl (xs (i + (j + (a + 1))))])
    rw [avL_snoc xs i a (j + 1), show j + 1 + a = j + (a + 1) from by omega]
section LW
variable {n : Nat} {xs : Nat → Int32} {d : Nat} {F : ps_F} {σ : ps_S} {i : Nat} {st : List ps_V}
theorem lw_arg {pc j : Nat} (h : okL (argL pc j)) (hj : j < 5) (hi : i + j < n) (hn : n ≤ 2560) (k : ps_K (mL n xs) d F (pc + 5) (LwL i) (.inl (xs (i + j)) :: st) σ) : ps_K (mL n xs) d F pc (LwL i) st σ := by
  refine ps_aload_n (n := 0) (i := 0) (h (pc, .aload_n 0, 1) (by simp [argL])) rfl rfl ?_
  refine ps_iload_n (n := 3) (i := 3) (h (pc + 1, .iload_n 3, 1) (by simp [argL])) rfl rfl ?_
  refine ps_iconst (x := nI j) (h (pc + 2, .iconst (j : Int), 1) (by simp [argL])) (ic5 j hj) ?_
  refine ps_iadd (h (pc + 3, .iadd, 1) (by simp [argL])) ?_
  rw [nI_add]
  refine ps_sld (n := n) (xs := xs) (h (pc + 4, .iaload, 1) (by simp [argL])) rfl (vp_in_nI hi (by omega)) ?_
  rw [nI_clamp (by omega)]
  exact k
theorem lw_args (hn : n ≤ 2560) : ∀ (a pc j : Nat) (st : List ps_V) (σ : ps_S), okL (argsL pc j a) → j + a ≤ 5 → i + j + a ≤ n → ps_K (mL n xs) d F (pc + 5 * a) (LwL i) ((avL xs i j a).reverse ++ st) σ → ps_K (mL n xs) d F pc (LwL i) st σ
  | 0, pc, j, st, σ, _, _, _, k => k
  | a + 1, pc, j, st, σ, h, h1, h2, k => by
    refine lw_arg (j := j) (fun q hq => h q (List.mem_append_left _ hq)) (by omega) (by omega) hn ?_
    refine lw_args hn a (pc + 5) (j + 1) _ σ (fun q hq => h q (List.mem_append_right _ hq)) (by omega) (by omega) ?_
    have e : (avL xs i j (a + 1)).reverse ++ st = (avL xs i (j + 1) a).reverse ++ (.inl (xs (i + j)) :: st) := by
      show ((.inl (xs (i + j)) : ps_V) :: avL xs i (j + 1) a).reverse ++ st = _
      rw [List.reverse_cons, List.append_assoc]
      rfl
    rw [e, show pc + 5 * (a + 1) = pc + 5 + 5 * a from by omega] at k
    exact k
theorem lw_bool {pc : Nat} {v : Int32} (h : okL (boolL pc)) (k : ps_K (mL n xs) d F (pc + 8) (LwL i) (.inl (bz v) :: st) σ) : ps_K (mL n xs) d F pc (LwL i) (.inl v :: st) σ := by
  refine ps_if_eq (tgt := pc + 7) (h (pc, .ifCond .eq 7, 3) (by simp [boolL])) (by omega) (fun c => ?_) (fun c => ?_)
  · refine ps_iconst (x := 0) (h (pc + 7, .iconst 0, 1) (by simp [boolL])) (by decide) ?_
    unfold bz at k
    rw [if_pos c] at k
    exact k
  · refine ps_iconst (x := 1) (h (pc + 3, .iconst 1, 1) (by simp [boolL])) (by decide) ?_
    refine ps_goto (tgt := pc + 8) (h (pc + 4, .goto 4, 3) (by simp [boolL])) (by omega) ?_
    unfold bz at k
    rw [if_neg c] at k
    exact k
theorem lw_argsB (hn : n ≤ 2560) {pc a : Nat} (h : okL (argsL pc 1 (a + 1))) (hb : okL (boolL (pc + 5 * (a + 1)))) (h1 : 1 + (a + 1) ≤ 5) (h2 : i + 1 + (a + 1) ≤ n) (k : ps_K (mL n xs) d F (pc + 5 * (a + 1) + 8) (LwL i) ((avL xs i 1 a ++ [(.inl (bz (xs (i + (a + 1)))) : ps_V)]).reverse ++ st) σ) : ps_K (mL n xs) d F pc (LwL i) st σ := by
  refine lw_args hn (a + 1) pc 1 st σ h h1 h2 ?_
  rw [avL_snoc, List.reverse_append, show 1 + a = a + 1 from by omega]
  rw [List.reverse_append] at k
  exact lw_bool hb k
theorem lw_case {pc p1 p2 ix im a : Nat} {off : Int} {av : List ps_V} {Mx Mm : ps_M} (ha : av.length = a) (d0 : okL [(pc, .aload_n 1, 1), (p1, .invokevirtual ix, 3), (p1 + 3, .aload_n 2, 1), (p2, .invokevirtual im, 3), (p2 + 3, .if_icmp .eq off, 3)]) (ht : ((p2 + 3 : Nat) : Int) + off = ((1409 : Nat) : Int)) (cx : ps_cV RL ix Mx a 7) (cm : ps_cV RL im Mm a 8)
    (push1 : ∀ (st : List ps_V) (σ : ps_S), ps_K (mL n xs) (d + 31) F p1 (LwL i) (av.reverse ++ st) σ → ps_K (mL n xs) (d + 31) F (pc + 1) (LwL i) st σ)
    (push2 : ∀ (st : List ps_V) (σ : ps_S), ps_K (mL n xs) (d + 31) F p2 (LwL i) (av.reverse ++ st) σ → ps_K (mL n xs) (d + 31) F (p1 + 4) (LwL i) st σ)
    (k : prD Mx Mm d av σ (fun ρ => ps_K (mL n xs) (d + 31) F 1409 (LwL i) [] ρ)) : ps_K (mL n xs) (d + 31) F pc (LwL i) [] σ := by
  refine ps_aload_n (n := 1) (i := 1) (d0 (pc, .aload_n 1, 1) (by simp)) rfl rfl ?_
  refine push1 _ _ ?_
  refine ps_callV (d := d + 30) (M2 := Mx) (av := av) (rest := []) (f := 1) (i := 0) (d0 (p1, .invokevirtual ix, 3) (by simp)) cx sh_1 ha rfl (fun _ => Nat.le_of_ble_eq_true rfl) ?_
  refine ps_C.imp ?_ k
  rintro _ σ1 ⟨r, rfl, k1⟩
  refine ps_aload_n (n := 2) (i := 2) (d0 (p1 + 3, .aload_n 2, 1) (by simp)) rfl rfl ?_
  refine push2 _ _ ?_
  refine ps_callV (d := d + 30) (M2 := Mm) (av := av) (rest := [.inl r]) (f := 50) (i := 0) (d0 (p2, .invokevirtual im, 3) (by simp)) cm sh_50 ha rfl (fun _ => Nat.le_of_ble_eq_true rfl) ?_
  refine ps_C.imp ?_ k1
  rintro _ σ2 ⟨r', rfl, e, k2⟩
  subst e
  exact ps_icmp_eq (tgt := 1409) (d0 (p2 + 3, .if_icmp .eq off, 3) (by simp)) ht (fun _ => k2) (fun c => absurd rfl c)
theorem lw_t0 : okL [(16, .iconst 0, 1), (17, .istore_n 3, 1), (18, .iload_n 3, 1), (19, .aload_n 0, 1), (20, .arraylength, 1), (21, .iconst 5, 1), (22, .isub, 1), (23, .if_icmp .gt 1392, 3), (26, .aload_n 0, 1), (27, .iload_n 3, 1), (28, .iaload, 1), (29, .bipush 63, 2), (31, .iand, 1), (32, .tableswitch 1377 0 36 #[164, 217, 260, 283, 316, 359, 392, 461, 504, 527, 550, 583, 626, 669, 702, 735, 748, 771, 794, 827, 870, 883, 916, 939, 982, 1005, 1038, 1097, 1130, 1173, 1226, 1249, 1282, 1295, 1318, 1341, 1354], 164), (1409, .iinc 3 5, 3), (1412, .goto (-1394), 3), (1415, .iconst 1, 1), (1416, .ireturn, 1)] := by unfold okL; decide +kernel
theorem lw_head (hn : n ≤ 2560) (hi : i ≤ n) (k1 : i + 5 ≤ n → ps_K (mL n xs) d F 26 (LwL i) [] σ) (k2 : ps_K (mL n xs) d F 1415 (LwL i) [] σ) : ps_K (mL n xs) d F 18 (LwL i) [] σ := by
  refine ps_iload_n (n := 3) (i := 3) (lw_t0 (18, .iload_n 3, 1) (by simp)) rfl rfl ?_
  refine ps_aload_n (n := 0) (i := 0) (lw_t0 (19, .aload_n 0, 1) (by simp)) rfl rfl ?_
  refine ps_slen (n := n) (xs := xs) (lw_t0 (20, .arraylength, 1) (by simp)) rfl ?_
  refine ps_iconst (x := 5) (lw_t0 (21, .iconst 5, 1) (by simp)) (by decide) ?_
  refine ps_isub (lw_t0 (22, .isub, 1) (by simp)) ?_
  refine ps_icmp_gt (tgt := 1415) (lw_t0 (23, .if_icmp .gt 1392, 3) (by simp)) (by decide) (fun _ => k2) (fun c => k1 ?_)
  by_cases q : 5 ≤ n
  · rw [show Int32.ofNat n - 5 = nI (n - 5) from nI_sub (a := n) (b := 5) q] at c
    have : ¬ n - 5 < i := fun z => c (nI_lt z (by omega))
    omega
  · exfalso
    apply c
    have h1 : (Int32.ofNat n - 5).toInt < 0 := neg5 n (by omega)
    have h2 : (nI i).toInt = (i : Int) := nI_toInt (by omega)
    rw [Int32.lt_iff_toInt_lt, h2]
    omega
theorem lw_sw (hn : n ≤ 2560) (hi : i + 5 ≤ n) (kd : ps_K (mL n xs) d F 1409 (LwL i) [] σ) (ks : ∀ k, k < 37 → ps_K (mL n xs) d F (tgtL k) (LwL i) [] σ) : ps_K (mL n xs) d F 26 (LwL i) [] σ := by
  refine ps_aload_n (n := 0) (i := 0) (lw_t0 (26, .aload_n 0, 1) (by simp)) rfl rfl ?_
  refine ps_iload_n (n := 3) (i := 3) (lw_t0 (27, .iload_n 3, 1) (by simp)) rfl rfl ?_
  refine ps_sld (n := n) (xs := xs) (lw_t0 (28, .iaload, 1) (by simp)) rfl (vp_in_nI (by omega) (by omega)) ?_
  refine ps_bipush (x := 63) (lw_t0 (29, .bipush 63, 2) (by simp)) (by decide) ?_
  refine ps_iand (lw_t0 (31, .iand, 1) (by simp)) ?_
  generalize xs (nI i).toNatClampNeg &&& 63 = v
  by_cases c : v.toInt < 0 ∨ 36 < v.toInt
  · exact ps_tabOut (tgt := 1409) (lw_t0 (32, .tableswitch 1377 0 36 #[164, 217, 260, 283, 316, 359, 392, 461, 504, 527, 550, 583, 626, 669, 702, 735, 748, 771, 794, 827, 870, 883, 916, 939, 982, 1005, 1038, 1097, 1130, 1173, 1226, 1249, 1282, 1295, 1318, 1341, 1354], 164) (by simp)) c (by decide) kd
  · obtain ⟨k, -, hk, rfl⟩ := num_of (v := v) (lo := 0) (hi := 36) (by omega) (by omega)
    have hv : (nI k).toInt = (k : Int) := nI_toInt (by omega)
    refine ps_tabIn (tgt := tgtL k) (off := (tgtL k : Int) - 32) (lw_t0 (32, .tableswitch 1377 0 36 #[164, 217, 260, 283, 316, 359, 392, 461, 504, 527, 550, 583, 626, 669, 702, 735, 748, 771, 794, 827, 870, 883, 916, 939, 982, 1005, 1038, 1097, 1130, 1173, 1226, 1249, 1282, 1295, 1318, 1341, 1354], 164) (by simp)) (fun z => c (Or.inl z)) (fun z => c (Or.inr z)) ?_ (by omega) (ks k (by omega))
    rw [hv, show ((k : Int) - 0).toNat = k from by omega]
    exact swT k (by omega)
theorem lw_next (hn : n ≤ 2560) (hi : i + 5 ≤ n) (k : ps_K (mL n xs) d F 18 (LwL (i + 5)) [] σ) : ps_K (mL n xs) d F 1409 (LwL i) [] σ := by
  refine ps_iinc (i := 3) (y := 5) (L' := LwL (i + 5)) (lw_t0 (1409, .iinc 3 5, 3) (by simp)) rfl (show 3 < 4 from by decide) (by decide) ?_ ?_
  · show [some (.inr (.inr (0, 0))), some ps_x, some ps_m, some (.inl (nI i + 5))] = LwL (i + 5)
    rw [show nI i + 5 = nI (i + 5) from nI_add i 5]
  · exact ps_goto (tgt := 18) (lw_t0 (1412, .goto (-1394), 3) (by simp)) (by decide) k
/-- where the law ends: with true, if its cells are new -/
def lwF : ps_F := fun G s args below t => (∀ a, ps_A G a → s.heap.size ≤ a) → lw_Z below args s t
theorem lw_fin : ps_K (mL n xs) d lwF 1415 (LwL i) [] σ := by
  refine ps_iconst (x := 1) (lw_t0 (1415, .iconst 1, 1) (by simp)) (by decide) ?_
  intro G p l e R s m args below meth c H locs ls hI
  by_cases hA : ∀ a, ps_A G a → s.heap.size ≤ a
  · show W p l e R s m args below meth c H locs 1000 100000 (lwF G s args below) (F0 m 1416 ls [.int 1])
    refine va_forget (fun q hq => hA _ (hI.2.2.2.2.2.2.2 q hq)) ?_
    refine W.widen (k := 600000) (n := 7302250) (by decide) (by decide) ?_
    intro T hT X
    obtain ⟨t, a1, b1⟩ := lw_end (args := args) (R := R) hI.1.1 hI.1.2.1 hI.1.2.2.2.1 hI.1.2.2.2.2.2.2.1 (lw_t0 (1416, .ireturn, 1) (by simp)) T hT X
    exact ⟨t, a1, fun _ => b1⟩
  · intro T hT X
    exact ⟨_, Steps.refl _, fun h => absurd h hA⟩
end LW

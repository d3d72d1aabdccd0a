/-! ===== printed by wip/whole/gen.py: block rows ===== -/
abbrev kX3_leastCost_0 (d : Nat) (Q : Option ps_V → ps_S → Prop) (i1 : Nat) (σ : ps_S) : Prop := ps_K mX3_leastCost (d + 1) (ps_QF Q) 0 [some (.inr (.inr (15, 0))), some (.inr (.inr (3, i1)))] [] σ
abbrev kX3_leastCost_5 (d : Nat) (Q : Option ps_V → ps_S → Prop) (i1 : Nat) (σ : ps_S) : Prop := ps_K mX3_leastCost (d + 1) (ps_QF Q) 5 [none, some (.inr (.inr (3, i1)))] [] σ
theorem bX3_leastCost_0 {d : Nat} {Q : Option ps_V → ps_S → Prop} {i1 : Nat} {σ : ps_S} (h1 : ps_C mX3_makeOrders d [.inr (.inr (15, 0)), .inr (.inr (3, i1))] σ (ps_rv (fun σ1 => kX3_leastCost_5 d Q i1 σ1))) : kX3_leastCost_0 d Q i1 σ := by
  refine ps_aload_n (ps_at tX3_leastCost_ok 0 rfl) rfl rfl ?_
  refine ps_aload_n (ps_at tX3_leastCost_ok 1 rfl) rfl rfl ?_
  refine ps_callV (M2 := mX3_makeOrders) (av := [.inr (.inr (3, i1))]) (rest := []) (ps_at tX3_leastCost_ok 2 rfl) cvX3_21 sh_15 rfl rfl (fun _ => Nat.le_of_ble_eq_true rfl) ?_
  refine ps_C.imp ?_ (h1)
  rintro _ σ1 ⟨rfl, hx⟩
  exact ps_forget (L' := [none, some (.inr (.inr (3, i1)))]) (And.intro rfl trivial) hx
theorem bX3_leastCost_5 {d : Nat} {Q : Option ps_V → ps_S → Prop} {i1 : Nat} {σ : ps_S} (h1 : Q (some (.inl (σ 3 i1 9))) σ) : kX3_leastCost_5 d Q i1 σ := by
  refine ps_aload_n (ps_at tX3_leastCost_ok 3 rfl) rfl rfl ?_
  refine ps_getI (ps_at tX3_leastCost_ok 4 rfl) flX3_25 sh_3 rfl ?_
  exact ps_iret (ps_at tX3_leastCost_ok 5 rfl) rfl ⟨rfl, rfl⟩ (h1)
theorem eX3_leastCost {d : Nat} {Q : Option ps_V → ps_S → Prop} {i1 : Nat} {σ : ps_S} (h : kX3_leastCost_0 d Q i1 σ) : ps_C mX3_leastCost (d + 1) [.inr (.inr (15, 0)), .inr (.inr (3, i1))] σ Q := ps_enter (by decide) rfl ⟨rfl, rfl, rfl⟩ rfl (Nat.le_of_ble_eq_true rfl) h
abbrev kX3_leastWays_0 (d : Nat) (Q : Option ps_V → ps_S → Prop) (i1 : Nat) (σ : ps_S) : Prop := ps_K mX3_leastWays (d + 1) (ps_QF Q) 0 [some (.inr (.inr (15, 0))), some (.inr (.inr (3, i1)))] [] σ
abbrev kX3_leastWays_5 (d : Nat) (Q : Option ps_V → ps_S → Prop) (i1 : Nat) (σ : ps_S) : Prop := ps_K mX3_leastWays (d + 1) (ps_QF Q) 5 [none, some (.inr (.inr (3, i1)))] [] σ
theorem bX3_leastWays_0 {d : Nat} {Q : Option ps_V → ps_S → Prop} {i1 : Nat} {σ : ps_S} (h1 : ps_C mX3_makeOrders d [.inr (.inr (15, 0)), .inr (.inr (3, i1))] σ (ps_rv (fun σ1 => kX3_leastWays_5 d Q i1 σ1))) : kX3_leastWays_0 d Q i1 σ := by
  refine ps_aload_n (ps_at tX3_leastWays_ok 0 rfl) rfl rfl ?_
  refine ps_aload_n (ps_at tX3_leastWays_ok 1 rfl) rfl rfl ?_
  refine ps_callV (M2 := mX3_makeOrders) (av := [.inr (.inr (3, i1))]) (rest := []) (ps_at tX3_leastWays_ok 2 rfl) cvX3_21 sh_15 rfl rfl (fun _ => Nat.le_of_ble_eq_true rfl) ?_
  refine ps_C.imp ?_ (h1)
  rintro _ σ1 ⟨rfl, hx⟩
  exact ps_forget (L' := [none, some (.inr (.inr (3, i1)))]) (And.intro rfl trivial) hx
theorem bX3_leastWays_5 {d : Nat} {Q : Option ps_V → ps_S → Prop} {i1 : Nat} {σ : ps_S} (h1 : Q (some (.inl (σ 3 i1 10))) σ) : kX3_leastWays_5 d Q i1 σ := by
  refine ps_aload_n (ps_at tX3_leastWays_ok 3 rfl) rfl rfl ?_
  refine ps_getI (ps_at tX3_leastWays_ok 4 rfl) flX3_31 sh_3 rfl ?_
  exact ps_iret (ps_at tX3_leastWays_ok 5 rfl) rfl ⟨rfl, rfl⟩ (h1)
theorem eX3_leastWays {d : Nat} {Q : Option ps_V → ps_S → Prop} {i1 : Nat} {σ : ps_S} (h : kX3_leastWays_0 d Q i1 σ) : ps_C mX3_leastWays (d + 1) [.inr (.inr (15, 0)), .inr (.inr (3, i1))] σ Q := ps_enter (by decide) rfl ⟨rfl, rfl, rfl⟩ rfl (Nat.le_of_ble_eq_true rfl) h
abbrev kX3_stateAt_0 (d : Nat) (Q : Option ps_V → ps_S → Prop) (i1 : Nat) (v2 : Int32) (σ : ps_S) : Prop := ps_K mX3_stateAt (d + 1) (ps_QF Q) 0 [some (.inr (.inr (15, 0))), some (.inr (.inr (3, i1))), some (.inl v2)] [] σ
abbrev kX3_stateAt_5 (d : Nat) (Q : Option ps_V → ps_S → Prop) (i1 : Nat) (v2 : Int32) (σ : ps_S) : Prop := ps_K mX3_stateAt (d + 1) (ps_QF Q) 5 [none, some (.inr (.inr (3, i1))), some (.inl v2)] [] σ
theorem bX3_stateAt_0 {d : Nat} {Q : Option ps_V → ps_S → Prop} {i1 : Nat} {v2 : Int32} {σ : ps_S} (h1 : ps_C mX3_makeOrders d [.inr (.inr (15, 0)), .inr (.inr (3, i1))] σ (ps_rv (fun σ1 => kX3_stateAt_5 d Q i1 v2 σ1))) : kX3_stateAt_0 d Q i1 v2 σ := by
  refine ps_aload_n (ps_at tX3_stateAt_ok 0 rfl) rfl rfl ?_
  refine ps_aload_n (ps_at tX3_stateAt_ok 1 rfl) rfl rfl ?_
  refine ps_callV (M2 := mX3_makeOrders) (av := [.inr (.inr (3, i1))]) (rest := []) (ps_at tX3_stateAt_ok 2 rfl) cvX3_21 sh_15 rfl rfl (fun _ => Nat.le_of_ble_eq_true rfl) ?_
  refine ps_C.imp ?_ (h1)
  rintro _ σ1 ⟨rfl, hx⟩
  exact ps_forget (L' := [none, some (.inr (.inr (3, i1))), some (.inl v2)]) (And.intro rfl (And.intro rfl trivial)) hx
theorem bX3_stateAt_5 {d : Nat} {Q : Option ps_V → ps_S → Prop} {i1 : Nat} {v2 : Int32} {σ : ps_S} (h1 : vp_in v2 9) (h2 : Q (some (.inl (σ 10 i1 v2.toNatClampNeg))) σ) : kX3_stateAt_5 d Q i1 v2 σ := by
  refine ps_aload_n (ps_at tX3_stateAt_ok 3 rfl) rfl rfl ?_
  refine ps_getR (ps_at tX3_stateAt_ok 4 rfl) flX3_34 sh_3 rfl ?_
  refine ps_iload_n (ps_at tX3_stateAt_ok 5 rfl) rfl rfl ?_
  refine ps_iald (ps_at tX3_stateAt_ok 6 rfl) sh_10 (h1) ?_
  exact ps_iret (ps_at tX3_stateAt_ok 7 rfl) rfl ⟨rfl, rfl⟩ (h2)
theorem eX3_stateAt {d : Nat} {Q : Option ps_V → ps_S → Prop} {i1 : Nat} {v2 : Int32} {σ : ps_S} (h : kX3_stateAt_0 d Q i1 v2 σ) : ps_C mX3_stateAt (d + 1) [.inr (.inr (15, 0)), .inr (.inr (3, i1)), .inl v2] σ Q := ps_enter (by decide) rfl ⟨rfl, rfl, rfl⟩ rfl (Nat.le_of_ble_eq_true rfl) h
abbrev kX3_waysWith_0 (d : Nat) (Q : Option ps_V → ps_S → Prop) (i1 : Nat) (v2 : Int32) (v3 : Int32) (σ : ps_S) : Prop := ps_K mX3_waysWith (d + 1) (ps_QF Q) 0 [some (.inr (.inr (15, 0))), some (.inr (.inr (3, i1))), some (.inl v2), some (.inl v3), none] [] σ
abbrev kX3_waysWith_5 (d : Nat) (Q : Option ps_V → ps_S → Prop) (i1 : Nat) (v2 : Int32) (v3 : Int32) (σ : ps_S) : Prop := ps_K mX3_waysWith (d + 1) (ps_QF Q) 5 [some (.inr (.inr (15, 0))), some (.inr (.inr (3, i1))), some (.inl v2), some (.inl v3), none] [] σ
abbrev kX3_waysWith_21 (d : Nat) (Q : Option ps_V → ps_S → Prop) (i1 : Nat) (v2 : Int32) (v3 : Int32) (σ : ps_S) : Prop := ps_K mX3_waysWith (d + 1) (ps_QF Q) 21 [some (.inr (.inr (15, 0))), some (.inr (.inr (3, i1))), some (.inl v2), some (.inl v3), none] [] σ
abbrev kX3_waysWith_37 (d : Nat) (Q : Option ps_V → ps_S → Prop) (i1 : Nat) (s0 : Int32) (σ : ps_S) : Prop := ps_K mX3_waysWith (d + 1) (ps_QF Q) 37 [none, some (.inr (.inr (3, i1))), none, none, none] [.inl s0] σ
theorem bX3_waysWith_0 {d : Nat} {Q : Option ps_V → ps_S → Prop} {i1 : Nat} {v2 : Int32} {v3 : Int32} {σ : ps_S} (h1 : ps_C mX3_makeOrders d [.inr (.inr (15, 0)), .inr (.inr (3, i1))] σ (ps_rv (fun σ1 => kX3_waysWith_5 d Q i1 v2 v3 σ1))) : kX3_waysWith_0 d Q i1 v2 v3 σ := by
  refine ps_aload_n (ps_at tX3_waysWith_ok 0 rfl) rfl rfl ?_
  refine ps_aload_n (ps_at tX3_waysWith_ok 1 rfl) rfl rfl ?_
  refine ps_callV (M2 := mX3_makeOrders) (av := [.inr (.inr (3, i1))]) (rest := []) (ps_at tX3_waysWith_ok 2 rfl) cvX3_21 sh_15 rfl rfl (fun _ => Nat.le_of_ble_eq_true rfl) ?_
  refine ps_C.imp ?_ (h1)
  rintro _ σ1 ⟨rfl, hx⟩
  exact hx
theorem bX3_waysWith_5 {d : Nat} {Q : Option ps_V → ps_S → Prop} {i1 : Nat} {v2 : Int32} {v3 : Int32} {σ : ps_S} (h1 : ¬ (σ 3 i1 9) = (-900009) → ps_C mX3_takeStates d [.inr (.inr (15, 0)), .inr (.inr (3, i1))] σ (ps_rv (fun σ1 => kX3_waysWith_21 d Q i1 v2 v3 σ1))) (h2 : (σ 3 i1 9) = (-900009) → Q (some (.inl 0)) σ) : kX3_waysWith_5 d Q i1 v2 v3 σ := by
  refine ps_aload_n (ps_at tX3_waysWith_ok 3 rfl) rfl rfl ?_
  refine ps_getI (ps_at tX3_waysWith_ok 4 rfl) flX3_25 sh_3 rfl ?_
  refine ps_ldc (ps_at tX3_waysWith_ok 5 rfl) cnX3_37 ?_
  refine ps_icmp_ne (tgt := 16) (ps_at tX3_waysWith_ok 6 rfl) (by decide) (fun c0 => ?_) (fun c0 => ?_)
  · skip
    refine ps_aload_n (ps_at tX3_waysWith_ok 9 rfl) rfl rfl ?_
    refine ps_aload_n (ps_at tX3_waysWith_ok 10 rfl) rfl rfl ?_
    refine ps_callV (M2 := mX3_takeStates) (av := [.inr (.inr (3, i1))]) (rest := []) (ps_at tX3_waysWith_ok 11 rfl) cvX3_38 sh_15 rfl rfl (fun _ => Nat.le_of_ble_eq_true rfl) ?_
    refine ps_C.imp ?_ (h1 c0)
    rintro _ σ1 ⟨rfl, hx⟩
    exact hx
  · skip
    refine ps_iconst (x := 0) (ps_at tX3_waysWith_ok 7 rfl) (by decide) ?_
    exact ps_iret (ps_at tX3_waysWith_ok 8 rfl) rfl ⟨rfl, rfl⟩ (h2 c0)
theorem bX3_waysWith_21 {d : Nat} {Q : Option ps_V → ps_S → Prop} {i1 : Nat} {v2 : Int32} {v3 : Int32} {σ : ps_S} (h1 : vp_in v3 9) (h2 : ps_C mX3_findRests d [.inr (.inr (15, 0))] (ps_up σ 18 0 v3.toNatClampNeg ((σ 18 0 v3.toNatClampNeg) ||| ((1 : Int32) <<< (v2 &&& 31)))) (ps_ri (fun x σ1 => kX3_waysWith_37 d Q i1 x σ1))) : kX3_waysWith_21 d Q i1 v2 v3 σ := by
  refine ps_aload_n (ps_at tX3_waysWith_ok 12 rfl) rfl rfl ?_
  refine ps_getR (ps_at tX3_waysWith_ok 13 rfl) flX3_18 sh_15 rfl ?_
  refine ps_iload_n (ps_at tX3_waysWith_ok 14 rfl) rfl rfl ?_
  refine ps_dup2 (ps_at tX3_waysWith_ok 15 rfl) ?_
  refine ps_iald (ps_at tX3_waysWith_ok 16 rfl) sh_18 (h1) ?_
  refine ps_iconst (x := 1) (ps_at tX3_waysWith_ok 17 rfl) (by decide) ?_
  refine ps_iload_n (ps_at tX3_waysWith_ok 18 rfl) rfl rfl ?_
  refine ps_ishl (ps_at tX3_waysWith_ok 19 rfl) ?_
  refine ps_ior (ps_at tX3_waysWith_ok 20 rfl) ?_
  refine ps_iast (ps_at tX3_waysWith_ok 21 rfl) sh_18 (h1) ?_
  refine ps_aload_n (ps_at tX3_waysWith_ok 22 rfl) rfl rfl ?_
  refine ps_callV (M2 := mX3_findRests) (av := []) (rest := []) (ps_at tX3_waysWith_ok 23 rfl) cvX3_41 sh_15 rfl rfl (fun _ => Nat.le_of_ble_eq_true rfl) ?_
  refine ps_C.imp ?_ (h2)
  rintro _ σ1 ⟨x, rfl, hx⟩
  exact ps_forget (L' := [none, some (.inr (.inr (3, i1))), none, none, none]) (And.intro rfl trivial) hx
theorem bX3_waysWith_37 {d : Nat} {Q : Option ps_V → ps_S → Prop} {i1 : Nat} {s0 : Int32} {σ : ps_S} (h1 : s0 = (-1) → Q (some (.inl 0)) σ) (h2 : ¬ s0 = (-1) → ¬ (s0 / 1048576) = (σ 3 i1 9) → Q (some (.inl 0)) σ) (h3 : ¬ s0 = (-1) → (s0 / 1048576) = (σ 3 i1 9) → Q (some (.inl (s0 - s0 / 1048576 * 1048576))) σ) : kX3_waysWith_37 d Q i1 s0 σ := by
  refine ps_istore (L' := [none, some (.inr (.inr (3, i1))), none, none, some (.inl s0)]) (ps_at tX3_waysWith_ok 24 rfl) (by decide) rfl ?_
  refine ps_iload (ps_at tX3_waysWith_ok 25 rfl) rfl ?_
  refine ps_iconst (x := (-1)) (ps_at tX3_waysWith_ok 26 rfl) (by decide) ?_
  refine ps_icmp_eq (tgt := 65) (ps_at tX3_waysWith_ok 27 rfl) (by decide) (fun c0 => ?_) (fun c0 => ?_)
  · skip
    refine ps_iconst (x := 0) (ps_at tX3_waysWith_ok 38 rfl) (by decide) ?_
    exact ps_iret (ps_at tX3_waysWith_ok 39 rfl) rfl ⟨rfl, rfl⟩ (h1 c0)
  · skip
    refine ps_iload (ps_at tX3_waysWith_ok 28 rfl) rfl ?_
    refine ps_ldc (ps_at tX3_waysWith_ok 29 rfl) cnX3_45 ?_
    refine ps_idiv (ps_at tX3_waysWith_ok 30 rfl) (by decide) ?_
    refine ps_aload_n (ps_at tX3_waysWith_ok 31 rfl) rfl rfl ?_
    refine ps_getI (ps_at tX3_waysWith_ok 32 rfl) flX3_25 sh_3 rfl ?_
    refine ps_icmp_ne (tgt := 65) (ps_at tX3_waysWith_ok 33 rfl) (by decide) (fun c1 => ?_) (fun c1 => ?_)
    · skip
      refine ps_iconst (x := 0) (ps_at tX3_waysWith_ok 38 rfl) (by decide) ?_
      exact ps_iret (ps_at tX3_waysWith_ok 39 rfl) rfl ⟨rfl, rfl⟩ (h2 c0 c1)
    · skip
      refine ps_iload (ps_at tX3_waysWith_ok 34 rfl) rfl ?_
      refine ps_ldc (ps_at tX3_waysWith_ok 35 rfl) cnX3_45 ?_
      refine ps_irem (ps_at tX3_waysWith_ok 36 rfl) (by decide) ?_
      refine ps_goto (tgt := 66) (ps_at tX3_waysWith_ok 37 rfl) (by decide) ?_
      exact ps_iret (ps_at tX3_waysWith_ok 39 rfl) rfl ⟨rfl, rfl⟩ (h3 c0 c1)
theorem eX3_waysWith {d : Nat} {Q : Option ps_V → ps_S → Prop} {i1 : Nat} {v2 : Int32} {v3 : Int32} {σ : ps_S} (h : kX3_waysWith_0 d Q i1 v2 v3 σ) : ps_C mX3_waysWith (d + 1) [.inr (.inr (15, 0)), .inr (.inr (3, i1)), .inl v2, .inl v3] σ Q := ps_enter (by decide) rfl ⟨rfl, rfl, rfl⟩ rfl (Nat.le_of_ble_eq_true rfl) h
abbrev kX3_makeOrders_0 (d : Nat) (Q : Option ps_V → ps_S → Prop) (i1 : Nat) (σ : ps_S) : Prop := ps_K mX3_makeOrders (d + 1) (ps_QF Q) 0 [some (.inr (.inr (15, 0))), some (.inr (.inr (3, i1))), none] [] σ
abbrev kX3_makeOrders_13 (d : Nat) (Q : Option ps_V → ps_S → Prop) (i1 : Nat) (σ : ps_S) : Prop := ps_K mX3_makeOrders (d + 1) (ps_QF Q) 13 [some (.inr (.inr (15, 0))), some (.inr (.inr (3, i1))), none] [] σ
abbrev kX3_makeOrders_17 (d : Nat) (Q : Option ps_V → ps_S → Prop) (i1 : Nat) (s0 : Int32) (σ : ps_S) : Prop := ps_K mX3_makeOrders (d + 1) (ps_QF Q) 17 [some (.inr (.inr (15, 0))), some (.inr (.inr (3, i1))), none] [.inl s0] σ
abbrev kX3_makeOrders_33 (d : Nat) (Q : Option ps_V → ps_S → Prop) (i1 : Nat) (v2 : Int32) (s0 : Int32) (j1 : Nat) (σ : ps_S) : Prop := ps_K mX3_makeOrders (d + 1) (ps_QF Q) 33 [some (.inr (.inr (15, 0))), some (.inr (.inr (3, i1))), some (.inl v2)] [.inl s0, .inr (.inr (3, j1))] σ
abbrev kX3_makeOrders_50 (d : Nat) (Q : Option ps_V → ps_S → Prop) (i1 : Nat) (v2 : Int32) (s0 : Int32) (j1 : Nat) (σ : ps_S) : Prop := ps_K mX3_makeOrders (d + 1) (ps_QF Q) 50 [some (.inr (.inr (15, 0))), some (.inr (.inr (3, i1))), some (.inl v2)] [.inl s0, .inr (.inr (3, j1))] σ
abbrev kX3_makeOrders_62 (d : Nat) (Q : Option ps_V → ps_S → Prop) (i1 : Nat) (v2 : Int32) (σ : ps_S) : Prop := ps_K mX3_makeOrders (d + 1) (ps_QF Q) 62 [some (.inr (.inr (15, 0))), some (.inr (.inr (3, i1))), some (.inl v2)] [] σ
abbrev kX3_makeOrders_79 (d : Nat) (Q : Option ps_V → ps_S → Prop) (i1 : Nat) (σ : ps_S) : Prop := ps_K mX3_makeOrders (d + 1) (ps_QF Q) 79 [none, some (.inr (.inr (3, i1))), none] [] σ
theorem bX3_makeOrders_0 {d : Nat} {Q : Option ps_V → ps_S → Prop} {i1 : Nat} {σ : ps_S} (h1 : (σ 3 i1 11) = 0 → ps_C mX3_takeStates d [.inr (.inr (15, 0)), .inr (.inr (3, i1))] σ (ps_rv (fun σ1 => kX3_makeOrders_13 d Q i1 σ1))) (h2 : ¬ (σ 3 i1 11) = 0 → Q none σ) : kX3_makeOrders_0 d Q i1 σ := by
  refine ps_aload_n (ps_at tX3_makeOrders_ok 0 rfl) rfl rfl ?_
  refine ps_getI (ps_at tX3_makeOrders_ok 1 rfl) flX3_46 sh_3 rfl ?_
  refine ps_if_eq (tgt := 8) (ps_at tX3_makeOrders_ok 2 rfl) (by decide) (fun c0 => ?_) (fun c0 => ?_)
  · skip
    refine ps_aload_n (ps_at tX3_makeOrders_ok 4 rfl) rfl rfl ?_
    refine ps_aload_n (ps_at tX3_makeOrders_ok 5 rfl) rfl rfl ?_
    refine ps_callV (M2 := mX3_takeStates) (av := [.inr (.inr (3, i1))]) (rest := []) (ps_at tX3_makeOrders_ok 6 rfl) cvX3_38 sh_15 rfl rfl (fun _ => Nat.le_of_ble_eq_true rfl) ?_
    refine ps_C.imp ?_ (h1 c0)
    rintro _ σ1 ⟨rfl, hx⟩
    exact hx
  · skip
    exact ps_vret (ps_at tX3_makeOrders_ok 3 rfl) rfl ⟨rfl, rfl⟩ (h2 c0)
theorem bX3_makeOrders_13 {d : Nat} {Q : Option ps_V → ps_S → Prop} {i1 : Nat} {σ : ps_S} (h1 : ps_C mX3_findRests d [.inr (.inr (15, 0))] σ (ps_ri (fun x σ1 => kX3_makeOrders_17 d Q i1 x σ1))) : kX3_makeOrders_13 d Q i1 σ := by
  refine ps_aload_n (ps_at tX3_makeOrders_ok 7 rfl) rfl rfl ?_
  refine ps_callV (M2 := mX3_findRests) (av := []) (rest := []) (ps_at tX3_makeOrders_ok 8 rfl) cvX3_41 sh_15 rfl rfl (fun _ => Nat.le_of_ble_eq_true rfl) ?_
  refine ps_C.imp ?_ (h1)
  rintro _ σ1 ⟨x, rfl, hx⟩
  exact hx
theorem bX3_makeOrders_17 {d : Nat} {Q : Option ps_V → ps_S → Prop} {i1 : Nat} {s0 : Int32} {σ : ps_S} (h1 : ¬ s0 = (-1) → kX3_makeOrders_33 d Q i1 s0 (s0 / 1048576) i1 σ) (h2 : s0 = (-1) → kX3_makeOrders_33 d Q i1 s0 (-900009) i1 σ) : kX3_makeOrders_17 d Q i1 s0 σ := by
  refine ps_istore_n (L' := [some (.inr (.inr (15, 0))), some (.inr (.inr (3, i1))), some (.inl s0)]) (ps_at tX3_makeOrders_ok 9 rfl) rfl (by decide) rfl ?_
  refine ps_aload_n (ps_at tX3_makeOrders_ok 10 rfl) rfl rfl ?_
  refine ps_iload_n (ps_at tX3_makeOrders_ok 11 rfl) rfl rfl ?_
  refine ps_iconst (x := (-1)) (ps_at tX3_makeOrders_ok 12 rfl) (by decide) ?_
  refine ps_icmp_ne (tgt := 29) (ps_at tX3_makeOrders_ok 13 rfl) (by decide) (fun c0 => ?_) (fun c0 => ?_)
  · skip
    refine ps_iload_n (ps_at tX3_makeOrders_ok 16 rfl) rfl rfl ?_
    refine ps_ldc (ps_at tX3_makeOrders_ok 17 rfl) cnX3_45 ?_
    refine ps_idiv (ps_at tX3_makeOrders_ok 18 rfl) (by decide) ?_
    exact h1 c0
  · skip
    refine ps_ldc (ps_at tX3_makeOrders_ok 14 rfl) cnX3_37 ?_
    refine ps_goto (tgt := 33) (ps_at tX3_makeOrders_ok 15 rfl) (by decide) ?_
    exact h2 c0
theorem bX3_makeOrders_33 {d : Nat} {Q : Option ps_V → ps_S → Prop} {i1 : Nat} {v2 : Int32} {s0 : Int32} {j1 : Nat} {σ : ps_S} (h1 : ¬ v2 = (-1) → kX3_makeOrders_50 d Q i1 v2 (v2 - v2 / 1048576 * 1048576) i1 (ps_up σ 3 j1 9 s0)) (h2 : v2 = (-1) → kX3_makeOrders_50 d Q i1 v2 0 i1 (ps_up σ 3 j1 9 s0)) : kX3_makeOrders_33 d Q i1 v2 s0 j1 σ := by
  refine ps_putI (ps_at tX3_makeOrders_ok 19 rfl) fpX3_25 sh_3 rfl ?_
  refine ps_aload_n (ps_at tX3_makeOrders_ok 20 rfl) rfl rfl ?_
  refine ps_iload_n (ps_at tX3_makeOrders_ok 21 rfl) rfl rfl ?_
  refine ps_iconst (x := (-1)) (ps_at tX3_makeOrders_ok 22 rfl) (by decide) ?_
  refine ps_icmp_ne (tgt := 46) (ps_at tX3_makeOrders_ok 23 rfl) (by decide) (fun c0 => ?_) (fun c0 => ?_)
  · skip
    refine ps_iload_n (ps_at tX3_makeOrders_ok 26 rfl) rfl rfl ?_
    refine ps_ldc (ps_at tX3_makeOrders_ok 27 rfl) cnX3_45 ?_
    refine ps_irem (ps_at tX3_makeOrders_ok 28 rfl) (by decide) ?_
    exact h1 c0
  · skip
    refine ps_iconst (x := 0) (ps_at tX3_makeOrders_ok 24 rfl) (by decide) ?_
    refine ps_goto (tgt := 50) (ps_at tX3_makeOrders_ok 25 rfl) (by decide) ?_
    exact h2 c0
theorem bX3_makeOrders_50 {d : Nat} {Q : Option ps_V → ps_S → Prop} {i1 : Nat} {v2 : Int32} {s0 : Int32} {j1 : Nat} {σ : ps_S} (h1 : ps_C mJ7_fill_53178 d [.inr (.inr (10, i1)), .inl (-900009)] (ps_up σ 3 j1 10 s0) (ps_rv (fun σ1 => kX3_makeOrders_62 d Q i1 v2 σ1))) : kX3_makeOrders_50 d Q i1 v2 s0 j1 σ := by
  refine ps_putI (ps_at tX3_makeOrders_ok 29 rfl) fpX3_31 sh_3 rfl ?_
  refine ps_aload_n (ps_at tX3_makeOrders_ok 30 rfl) rfl rfl ?_
  refine ps_getR (ps_at tX3_makeOrders_ok 31 rfl) flX3_34 sh_3 rfl ?_
  refine ps_ldc (ps_at tX3_makeOrders_ok 32 rfl) cnX3_37 ?_
  refine ps_callS (M2 := mJ7_fill_53178) (av := [.inr (.inr (10, i1)), .inl (-900009)]) (rest := []) (ps_at tX3_makeOrders_ok 33 rfl) csX3_50 rfl rfl (fun _ => Nat.le_of_ble_eq_true rfl) ?_
  refine ps_C.imp ?_ (h1)
  rintro _ σ1 ⟨rfl, hx⟩
  exact hx
theorem bX3_makeOrders_62 {d : Nat} {Q : Option ps_V → ps_S → Prop} {i1 : Nat} {v2 : Int32} {σ : ps_S} (h1 : v2 = (-1) → Q none (ps_up σ 3 i1 11 1)) (h2 : ¬ v2 = (-1) → ps_C mX3_walkFirst d [.inr (.inr (15, 0)), .inr (.inr (10, i1)), .inl (σ 3 i1 9)] σ (ps_rv (fun σ1 => kX3_makeOrders_79 d Q i1 σ1))) : kX3_makeOrders_62 d Q i1 v2 σ := by
  refine ps_iload_n (ps_at tX3_makeOrders_ok 34 rfl) rfl rfl ?_
  refine ps_iconst (x := (-1)) (ps_at tX3_makeOrders_ok 35 rfl) (by decide) ?_
  refine ps_icmp_eq (tgt := 79) (ps_at tX3_makeOrders_ok 36 rfl) (by decide) (fun c0 => ?_) (fun c0 => ?_)
  · skip
    refine ps_aload_n (ps_at tX3_makeOrders_ok 43 rfl) rfl rfl ?_
    refine ps_iconst (x := 1) (ps_at tX3_makeOrders_ok 44 rfl) (by decide) ?_
    refine ps_putZ (ps_at tX3_makeOrders_ok 45 rfl) fpX3_46 sh_3 rfl (Or.inr rfl) ?_
    exact ps_vret (ps_at tX3_makeOrders_ok 46 rfl) rfl ⟨rfl, rfl⟩ (h1 c0)
  · skip
    refine ps_aload_n (ps_at tX3_makeOrders_ok 37 rfl) rfl rfl ?_
    refine ps_aload_n (ps_at tX3_makeOrders_ok 38 rfl) rfl rfl ?_
    refine ps_getR (ps_at tX3_makeOrders_ok 39 rfl) flX3_34 sh_3 rfl ?_
    refine ps_aload_n (ps_at tX3_makeOrders_ok 40 rfl) rfl rfl ?_
    refine ps_getI (ps_at tX3_makeOrders_ok 41 rfl) flX3_25 sh_3 rfl ?_
    refine ps_callV (M2 := mX3_walkFirst) (av := [.inr (.inr (10, i1)), .inl (σ 3 i1 9)]) (rest := []) (ps_at tX3_makeOrders_ok 42 rfl) cvX3_56 sh_15 rfl rfl (fun _ => Nat.le_of_ble_eq_true rfl) ?_
    refine ps_C.imp ?_ (h2 c0)
    rintro _ σ1 ⟨rfl, hx⟩
    exact ps_forget (L' := [none, some (.inr (.inr (3, i1))), none]) (And.intro rfl trivial) hx
theorem bX3_makeOrders_79 {d : Nat} {Q : Option ps_V → ps_S → Prop} {i1 : Nat} {σ : ps_S} (h1 : Q none (ps_up σ 3 i1 11 1)) : kX3_makeOrders_79 d Q i1 σ := by
  refine ps_aload_n (ps_at tX3_makeOrders_ok 43 rfl) rfl rfl ?_
  refine ps_iconst (x := 1) (ps_at tX3_makeOrders_ok 44 rfl) (by decide) ?_
  refine ps_putZ (ps_at tX3_makeOrders_ok 45 rfl) fpX3_46 sh_3 rfl (Or.inr rfl) ?_
  exact ps_vret (ps_at tX3_makeOrders_ok 46 rfl) rfl ⟨rfl, rfl⟩ (h1)
theorem eX3_makeOrders {d : Nat} {Q : Option ps_V → ps_S → Prop} {i1 : Nat} {σ : ps_S} (h : kX3_makeOrders_0 d Q i1 σ) : ps_C mX3_makeOrders (d + 1) [.inr (.inr (15, 0)), .inr (.inr (3, i1))] σ Q := ps_enter (by decide) rfl ⟨rfl, rfl, rfl⟩ rfl (Nat.le_of_ble_eq_true rfl) h
abbrev kX3_takeStates_0 (d : Nat) (Q : Option ps_V → ps_S → Prop) (i1 : Nat) (σ : ps_S) : Prop := ps_K mX3_takeStates (d + 2) (ps_QF Q) 0 [some (.inr (.inr (15, 0))), some (.inr (.inr (3, i1))), none, none, none] [] σ
abbrev kX3_takeStates_10 (d : Nat) (Q : Option ps_V → ps_S → Prop) (i1 : Nat) (v2 : Int32) (σ : ps_S) : Prop := ps_K mX3_takeStates (d + 2) (ps_QF Q) 10 [some (.inr (.inr (15, 0))), some (.inr (.inr (3, i1))), some (.inl v2), none, none] [] σ
abbrev kX3_takeStates_31 (d : Nat) (Q : Option ps_V → ps_S → Prop) (i1 : Nat) (v2 : Int32) (v3 : Int32) (σ : ps_S) : Prop := ps_K mX3_takeStates (d + 2) (ps_QF Q) 31 [some (.inr (.inr (15, 0))), some (.inr (.inr (3, i1))), some (.inl v2), some (.inl v3), none] [] σ
theorem bX3_takeStates_0 {d : Nat} {Q : Option ps_V → ps_S → Prop} {i1 : Nat} {σ : ps_S} (h1 : kX3_takeStates_10 d Q i1 0 (ps_up σ 15 0 3 (σ 3 i1 6))) : kX3_takeStates_0 d Q i1 σ := by
  refine ps_aload_n (ps_at tX3_takeStates_ok 0 rfl) rfl rfl ?_
  refine ps_aload_n (ps_at tX3_takeStates_ok 1 rfl) rfl rfl ?_
  refine ps_getI (ps_at tX3_takeStates_ok 2 rfl) flX3_59 sh_3 rfl ?_
  refine ps_putI (ps_at tX3_takeStates_ok 3 rfl) fpX3_62 sh_15 rfl ?_
  refine ps_iconst (x := 0) (ps_at tX3_takeStates_ok 4 rfl) (by decide) ?_
  refine ps_istore_n (L' := [some (.inr (.inr (15, 0))), some (.inr (.inr (3, i1))), some (.inl 0), none, none]) (ps_at tX3_takeStates_ok 5 rfl) rfl (by decide) rfl ?_
  exact h1
theorem bX3_takeStates_10 {d : Nat} {Q : Option ps_V → ps_S → Prop} {i1 : Nat} {v2 : Int32} {σ : ps_S} (h1 : (σ 15 0 3) ≤ v2 → Q none σ) (h2 : ¬ (σ 15 0 3) ≤ v2 → vp_in v2 9) (h3 : ¬ (σ 15 0 3) ≤ v2 → kX3_takeStates_31 d Q i1 v2 0 (ps_up σ 18 0 v2.toNatClampNeg (sAh σ i1 v2))) : kX3_takeStates_10 d Q i1 v2 σ := by
  refine ps_iload_n (ps_at tX3_takeStates_ok 6 rfl) rfl rfl ?_
  refine ps_aload_n (ps_at tX3_takeStates_ok 7 rfl) rfl rfl ?_
  refine ps_getI (ps_at tX3_takeStates_ok 8 rfl) flX3_62 sh_15 rfl ?_
  refine ps_icmp_ge (tgt := 82) (ps_at tX3_takeStates_ok 9 rfl) (by decide) (fun c0 => ?_) (fun c0 => ?_)
  · skip
    exact ps_vret (ps_at tX3_takeStates_ok 49 rfl) rfl ⟨rfl, rfl⟩ (h1 c0)
  · skip
    refine ps_aload_n (ps_at tX3_takeStates_ok 10 rfl) rfl rfl ?_
    refine ps_getR (ps_at tX3_takeStates_ok 11 rfl) flX3_18 sh_15 rfl ?_
    refine ps_iload_n (ps_at tX3_takeStates_ok 12 rfl) rfl rfl ?_
    refine ps_aload_n (ps_at tX3_takeStates_ok 13 rfl) rfl rfl ?_
    refine ps_iload_n (ps_at tX3_takeStates_ok 14 rfl) rfl rfl ?_
    refine ps_callV (M2 := mX0_statesAhead) (av := [.inl v2]) (rest := [.inl v2, .inr (.inr (18, 0))]) (ps_at tX3_takeStates_ok 15 rfl) cvX3_65 sh_3 rfl rfl (fun _ => Nat.le_of_ble_eq_true rfl) (pX0_statesAhead (h2 c0) ?_)
    refine ps_iast (ps_at tX3_takeStates_ok 16 rfl) sh_18 (h2 c0) ?_
    refine ps_iconst (x := 0) (ps_at tX3_takeStates_ok 17 rfl) (by decide) ?_
    refine ps_istore_n (L' := [some (.inr (.inr (15, 0))), some (.inr (.inr (3, i1))), some (.inl v2), some (.inl 0), none]) (ps_at tX3_takeStates_ok 18 rfl) rfl (by decide) rfl ?_
    exact h3 c0
theorem bX3_takeStates_31 {d : Nat} {Q : Option ps_V → ps_S → Prop} {i1 : Nat} {v2 : Int32} {v3 : Int32} {σ : ps_S} (h1 : v2 ≤ v3 → kX3_takeStates_10 d Q i1 (v2 + 1) σ) (h2 : ¬ v2 ≤ v3 → vp_in ((v2 * 9) + v3) 81) (h3 : ¬ v2 ≤ v3 → vp_in ((v3 * 9) + v2) 81) (h4 : ¬ v2 ≤ v3 → kX3_takeStates_31 d Q i1 v2 (v3 + 1) (ps_up (ps_up σ 17 0 ((v2 * 9) + v3).toNatClampNeg (nI (cntN 6 (fun p => ¬ jbUn (sGl σ i1 v2 p) (sGl σ i1 v3 p) = 0)))) 17 0 ((v3 * 9) + v2).toNatClampNeg (nI (cntN 6 (fun p => ¬ jbUn (sGl σ i1 v2 p) (sGl σ i1 v3 p) = 0))))) : kX3_takeStates_31 d Q i1 v2 v3 σ := by
  refine ps_iload_n (ps_at tX3_takeStates_ok 19 rfl) rfl rfl ?_
  refine ps_iload_n (ps_at tX3_takeStates_ok 20 rfl) rfl rfl ?_
  refine ps_icmp_ge (tgt := 76) (ps_at tX3_takeStates_ok 21 rfl) (by decide) (fun c0 => ?_) (fun c0 => ?_)
  · skip
    refine ps_iinc (L' := [some (.inr (.inr (15, 0))), some (.inr (.inr (3, i1))), some (.inl (v2 + 1)), some (.inl v3), none]) (y := 1) (ps_at tX3_takeStates_ok 47 rfl) rfl (by decide) (by decide) rfl ?_
    refine ps_goto (tgt := 10) (ps_at tX3_takeStates_ok 48 rfl) (by decide) ?_
    refine ps_forget (L' := [some (.inr (.inr (15, 0))), some (.inr (.inr (3, i1))), some (.inl (v2 + 1)), none, none]) (And.intro rfl (And.intro rfl (And.intro rfl trivial))) ?_
    exact h1 c0
  · skip
    refine ps_aload_n (ps_at tX3_takeStates_ok 22 rfl) rfl rfl ?_
    refine ps_iload_n (ps_at tX3_takeStates_ok 23 rfl) rfl rfl ?_
    refine ps_iload_n (ps_at tX3_takeStates_ok 24 rfl) rfl rfl ?_
    refine ps_callV (M2 := mX0_unlikePlaces) (av := [.inl v2, .inl v3]) (rest := []) (ps_at tX3_takeStates_ok 25 rfl) cvX3_69 sh_3 rfl rfl (fun _ => Nat.le_of_ble_eq_true rfl) (pX0_unlikePlaces ?_)
    refine ps_istore (L' := [some (.inr (.inr (15, 0))), some (.inr (.inr (3, i1))), some (.inl v2), some (.inl v3), some (.inl (nI (cntN 6 (fun p => ¬ jbUn (sGl σ i1 v2 p) (sGl σ i1 v3 p) = 0))))]) (ps_at tX3_takeStates_ok 26 rfl) (by decide) rfl ?_
    refine ps_aload_n (ps_at tX3_takeStates_ok 27 rfl) rfl rfl ?_
    refine ps_getR (ps_at tX3_takeStates_ok 28 rfl) flX3_15 sh_15 rfl ?_
    refine ps_iload_n (ps_at tX3_takeStates_ok 29 rfl) rfl rfl ?_
    refine ps_bipush (x := 9) (ps_at tX3_takeStates_ok 30 rfl) (by decide) ?_
    refine ps_imul (ps_at tX3_takeStates_ok 31 rfl) ?_
    refine ps_iload_n (ps_at tX3_takeStates_ok 32 rfl) rfl rfl ?_
    refine ps_iadd (ps_at tX3_takeStates_ok 33 rfl) ?_
    refine ps_iload (ps_at tX3_takeStates_ok 34 rfl) rfl ?_
    refine ps_iast (ps_at tX3_takeStates_ok 35 rfl) sh_17 (h2 c0) ?_
    refine ps_aload_n (ps_at tX3_takeStates_ok 36 rfl) rfl rfl ?_
    refine ps_getR (ps_at tX3_takeStates_ok 37 rfl) flX3_15 sh_15 rfl ?_
    refine ps_iload_n (ps_at tX3_takeStates_ok 38 rfl) rfl rfl ?_
    refine ps_bipush (x := 9) (ps_at tX3_takeStates_ok 39 rfl) (by decide) ?_
    refine ps_imul (ps_at tX3_takeStates_ok 40 rfl) ?_
    refine ps_iload_n (ps_at tX3_takeStates_ok 41 rfl) rfl rfl ?_
    refine ps_iadd (ps_at tX3_takeStates_ok 42 rfl) ?_
    refine ps_iload (ps_at tX3_takeStates_ok 43 rfl) rfl ?_
    refine ps_iast (ps_at tX3_takeStates_ok 44 rfl) sh_17 (h3 c0) ?_
    refine ps_iinc (L' := [some (.inr (.inr (15, 0))), some (.inr (.inr (3, i1))), some (.inl v2), some (.inl (v3 + 1)), some (.inl (nI (cntN 6 (fun p => ¬ jbUn (sGl σ i1 v2 p) (sGl σ i1 v3 p) = 0))))]) (y := 1) (ps_at tX3_takeStates_ok 45 rfl) rfl (by decide) (by decide) rfl ?_
    refine ps_goto (tgt := 31) (ps_at tX3_takeStates_ok 46 rfl) (by decide) ?_
    refine ps_forget (L' := [some (.inr (.inr (15, 0))), some (.inr (.inr (3, i1))), some (.inl v2), some (.inl (v3 + 1)), none]) (And.intro rfl (And.intro rfl (And.intro rfl (And.intro rfl trivial)))) ?_
    exact h4 c0
theorem eX3_takeStates {d : Nat} {Q : Option ps_V → ps_S → Prop} {i1 : Nat} {σ : ps_S} (h : kX3_takeStates_0 d Q i1 σ) : ps_C mX3_takeStates (d + 2) [.inr (.inr (15, 0)), .inr (.inr (3, i1))] σ Q := ps_enter (by decide) rfl ⟨rfl, rfl, rfl⟩ rfl (Nat.le_of_ble_eq_true rfl) h
abbrev kX3_findRests_0 (d : Nat) (Q : Option ps_V → ps_S → Prop)  (σ : ps_S) : Prop := ps_K mX3_findRests (d + 1) (ps_QF Q) 0 [some (.inr (.inr (15, 0))), none, none, none] [] σ
abbrev kX3_findRests_11 (d : Nat) (Q : Option ps_V → ps_S → Prop) (v1 : Int32) (v2 : Int32) (σ : ps_S) : Prop := ps_K mX3_findRests (d + 1) (ps_QF Q) 11 [some (.inr (.inr (15, 0))), some (.inl v1), some (.inl v2), none] [] σ
abbrev kX3_findRests_86 (d : Nat) (Q : Option ps_V → ps_S → Prop) (s0 : Int32) (σ : ps_S) : Prop := ps_K mX3_findRests (d + 1) (ps_QF Q) 86 [none, none, none, none] [.inl s0] σ
abbrev kX3_findRests_17 (d : Nat) (Q : Option ps_V → ps_S → Prop) (v1 : Int32) (v2 : Int32) (v3 : Int32) (σ : ps_S) : Prop := ps_K mX3_findRests (d + 1) (ps_QF Q) 17 [some (.inr (.inr (15, 0))), some (.inl v1), some (.inl v2), some (.inl v3)] [] σ
abbrev kX3_findRests_58 (d : Nat) (Q : Option ps_V → ps_S → Prop) (v1 : Int32) (v2 : Int32) (v3 : Int32) (s0 : Int32) (s1 : Int32) (σ : ps_S) : Prop := ps_K mX3_findRests (d + 1) (ps_QF Q) 58 [some (.inr (.inr (15, 0))), some (.inl v1), some (.inl v2), some (.inl v3)] [.inl s0, .inl s1, .inr (.inr (16, 0))] σ
theorem bX3_findRests_0 {d : Nat} {Q : Option ps_V → ps_S → Prop}  {σ : ps_S} (h1 : kX3_findRests_11 d Q (((1 : Int32) <<< ((σ 15 0 3) &&& 31)) - 1) (((1 : Int32) <<< ((σ 15 0 3) &&& 31)) - 1) σ) : kX3_findRests_0 d Q σ := by
  refine ps_iconst (x := 1) (ps_at tX3_findRests_ok 0 rfl) (by decide) ?_
  refine ps_aload_n (ps_at tX3_findRests_ok 1 rfl) rfl rfl ?_
  refine ps_getI (ps_at tX3_findRests_ok 2 rfl) flX3_62 sh_15 rfl ?_
  refine ps_ishl (ps_at tX3_findRests_ok 3 rfl) ?_
  refine ps_iconst (x := 1) (ps_at tX3_findRests_ok 4 rfl) (by decide) ?_
  refine ps_isub (ps_at tX3_findRests_ok 5 rfl) ?_
  refine ps_istore_n (L' := [some (.inr (.inr (15, 0))), some (.inl (((1 : Int32) <<< ((σ 15 0 3) &&& 31)) - 1)), none, none]) (ps_at tX3_findRests_ok 6 rfl) rfl (by decide) rfl ?_
  refine ps_iload_n (ps_at tX3_findRests_ok 7 rfl) rfl rfl ?_
  refine ps_istore_n (L' := [some (.inr (.inr (15, 0))), some (.inl (((1 : Int32) <<< ((σ 15 0 3) &&& 31)) - 1)), some (.inl (((1 : Int32) <<< ((σ 15 0 3) &&& 31)) - 1)), none]) (ps_at tX3_findRests_ok 8 rfl) rfl (by decide) rfl ?_
  exact h1
theorem bX3_findRests_11 {d : Nat} {Q : Option ps_V → ps_S → Prop} {v1 : Int32} {v2 : Int32} {σ : ps_S} (h1 : v2 ≤ 0 → ¬ v1 = 0 → ps_C mX3_restBehind d [.inr (.inr (15, 0)), .inl 0, .inl (-900009)] σ (ps_ri (fun x σ1 => kX3_findRests_86 d Q x σ1))) (h2 : v2 ≤ 0 → v1 = 0 → kX3_findRests_86 d Q 1 σ) (h3 : ¬ v2 ≤ 0 → kX3_findRests_17 d Q v1 v2 0 σ) : kX3_findRests_11 d Q v1 v2 σ := by
  refine ps_iload_n (ps_at tX3_findRests_ok 9 rfl) rfl rfl ?_
  refine ps_if_le (tgt := 71) (ps_at tX3_findRests_ok 10 rfl) (by decide) (fun c0 => ?_) (fun c0 => ?_)
  · skip
    refine ps_iload_n (ps_at tX3_findRests_ok 44 rfl) rfl rfl ?_
    refine ps_if_ne (tgt := 79) (ps_at tX3_findRests_ok 45 rfl) (by decide) (fun c1 => ?_) (fun c1 => ?_)
    · skip
      refine ps_aload_n (ps_at tX3_findRests_ok 48 rfl) rfl rfl ?_
      refine ps_iconst (x := 0) (ps_at tX3_findRests_ok 49 rfl) (by decide) ?_
      refine ps_ldc (ps_at tX3_findRests_ok 50 rfl) cnX3_37 ?_
      refine ps_callV (M2 := mX3_restBehind) (av := [.inl 0, .inl (-900009)]) (rest := []) (ps_at tX3_findRests_ok 51 rfl) cvX3_73 sh_15 rfl rfl (fun _ => Nat.le_of_ble_eq_true rfl) ?_
      refine ps_C.imp ?_ (h1 c0 c1)
      rintro _ σ1 ⟨x, rfl, hx⟩
      exact ps_forget (L' := [none, none, none, none]) trivial hx
    · skip
      refine ps_iconst (x := 1) (ps_at tX3_findRests_ok 46 rfl) (by decide) ?_
      refine ps_goto (tgt := 86) (ps_at tX3_findRests_ok 47 rfl) (by decide) ?_
      refine ps_forget (L' := [none, none, none, none]) trivial ?_
      exact h2 c0 c1
  · skip
    refine ps_iconst (x := 0) (ps_at tX3_findRests_ok 11 rfl) (by decide) ?_
    refine ps_istore_n (L' := [some (.inr (.inr (15, 0))), some (.inl v1), some (.inl v2), some (.inl 0)]) (ps_at tX3_findRests_ok 12 rfl) rfl (by decide) rfl ?_
    exact h3 c0
theorem bX3_findRests_86 {d : Nat} {Q : Option ps_V → ps_S → Prop} {s0 : Int32} {σ : ps_S} (h1 : Q (some (.inl s0)) σ) : kX3_findRests_86 d Q s0 σ := by
  exact ps_iret (ps_at tX3_findRests_ok 52 rfl) rfl ⟨rfl, rfl⟩ (h1)
theorem bX3_findRests_17 {d : Nat} {Q : Option ps_V → ps_S → Prop} {v1 : Int32} {v2 : Int32} {v3 : Int32} {σ : ps_S} (h1 : (σ 15 0 3) ≤ v3 → kX3_findRests_11 d Q v1 (v2 + (-1)) σ) (h2 : ¬ (σ 15 0 3) ≤ v3 → ((v2 >>> (v3 &&& 31)) &&& 1) = 0 → kX3_findRests_17 d Q v1 v2 (v3 + 1) σ) (h3 : ¬ (σ 15 0 3) ≤ v3 → ¬ ((v2 >>> (v3 &&& 31)) &&& 1) = 0 → ¬ v2 = v1 → ps_C mX3_restBehind d [.inr (.inr (15, 0)), .inl v2, .inl v3] σ (ps_ri (fun x σ1 => kX3_findRests_58 d Q v1 v2 v3 x ((v2 * 9) + v3) σ1))) (h4 : ¬ (σ 15 0 3) ≤ v3 → ¬ ((v2 >>> (v3 &&& 31)) &&& 1) = 0 → v2 = v1 → kX3_findRests_58 d Q v1 v2 v3 1 ((v2 * 9) + v3) σ) : kX3_findRests_17 d Q v1 v2 v3 σ := by
  refine ps_iload_n (ps_at tX3_findRests_ok 13 rfl) rfl rfl ?_
  refine ps_aload_n (ps_at tX3_findRests_ok 14 rfl) rfl rfl ?_
  refine ps_getI (ps_at tX3_findRests_ok 15 rfl) flX3_62 sh_15 rfl ?_
  refine ps_icmp_ge (tgt := 65) (ps_at tX3_findRests_ok 16 rfl) (by decide) (fun c0 => ?_) (fun c0 => ?_)
  · skip
    refine ps_iinc (L' := [some (.inr (.inr (15, 0))), some (.inl v1), some (.inl (v2 + (-1))), some (.inl v3)]) (y := (-1)) (ps_at tX3_findRests_ok 42 rfl) rfl (by decide) (by decide) rfl ?_
    refine ps_goto (tgt := 11) (ps_at tX3_findRests_ok 43 rfl) (by decide) ?_
    refine ps_forget (L' := [some (.inr (.inr (15, 0))), some (.inl v1), some (.inl (v2 + (-1))), none]) (And.intro rfl (And.intro rfl (And.intro rfl trivial))) ?_
    exact h1 c0
  · skip
    refine ps_iload_n (ps_at tX3_findRests_ok 17 rfl) rfl rfl ?_
    refine ps_iload_n (ps_at tX3_findRests_ok 18 rfl) rfl rfl ?_
    refine ps_ishr (ps_at tX3_findRests_ok 19 rfl) ?_
    refine ps_iconst (x := 1) (ps_at tX3_findRests_ok 20 rfl) (by decide) ?_
    refine ps_iand (ps_at tX3_findRests_ok 21 rfl) ?_
    refine ps_if_eq (tgt := 59) (ps_at tX3_findRests_ok 22 rfl) (by decide) (fun c1 => ?_) (fun c1 => ?_)
    · skip
      refine ps_iinc (L' := [some (.inr (.inr (15, 0))), some (.inl v1), some (.inl v2), some (.inl (v3 + 1))]) (y := 1) (ps_at tX3_findRests_ok 40 rfl) rfl (by decide) (by decide) rfl ?_
      refine ps_goto (tgt := 17) (ps_at tX3_findRests_ok 41 rfl) (by decide) ?_
      exact h2 c0 c1
    · skip
      refine ps_aload_n (ps_at tX3_findRests_ok 23 rfl) rfl rfl ?_
      refine ps_getR (ps_at tX3_findRests_ok 24 rfl) flX3_9 sh_15 rfl ?_
      refine ps_iload_n (ps_at tX3_findRests_ok 25 rfl) rfl rfl ?_
      refine ps_bipush (x := 9) (ps_at tX3_findRests_ok 26 rfl) (by decide) ?_
      refine ps_imul (ps_at tX3_findRests_ok 27 rfl) ?_
      refine ps_iload_n (ps_at tX3_findRests_ok 28 rfl) rfl rfl ?_
      refine ps_iadd (ps_at tX3_findRests_ok 29 rfl) ?_
      refine ps_iload_n (ps_at tX3_findRests_ok 30 rfl) rfl rfl ?_
      refine ps_iload_n (ps_at tX3_findRests_ok 31 rfl) rfl rfl ?_
      refine ps_icmp_ne (tgt := 52) (ps_at tX3_findRests_ok 32 rfl) (by decide) (fun c2 => ?_) (fun c2 => ?_)
      · skip
        refine ps_aload_n (ps_at tX3_findRests_ok 35 rfl) rfl rfl ?_
        refine ps_iload_n (ps_at tX3_findRests_ok 36 rfl) rfl rfl ?_
        refine ps_iload_n (ps_at tX3_findRests_ok 37 rfl) rfl rfl ?_
        refine ps_callV (M2 := mX3_restBehind) (av := [.inl v2, .inl v3]) (rest := [.inl ((v2 * 9) + v3), .inr (.inr (16, 0))]) (ps_at tX3_findRests_ok 38 rfl) cvX3_73 sh_15 rfl rfl (fun _ => Nat.le_of_ble_eq_true rfl) ?_
        refine ps_C.imp ?_ (h3 c0 c1 c2)
        rintro _ σ1 ⟨x, rfl, hx⟩
        exact hx
      · skip
        refine ps_iconst (x := 1) (ps_at tX3_findRests_ok 33 rfl) (by decide) ?_
        refine ps_goto (tgt := 58) (ps_at tX3_findRests_ok 34 rfl) (by decide) ?_
        exact h4 c0 c1 c2
theorem bX3_findRests_58 {d : Nat} {Q : Option ps_V → ps_S → Prop} {v1 : Int32} {v2 : Int32} {v3 : Int32} {s0 : Int32} {s1 : Int32} {σ : ps_S} (h1 : vp_in s1 4608) (h2 : kX3_findRests_17 d Q v1 v2 (v3 + 1) (ps_up σ 16 0 s1.toNatClampNeg s0)) : kX3_findRests_58 d Q v1 v2 v3 s0 s1 σ := by
  refine ps_iast (ps_at tX3_findRests_ok 39 rfl) sh_16 (h1) ?_
  refine ps_iinc (L' := [some (.inr (.inr (15, 0))), some (.inl v1), some (.inl v2), some (.inl (v3 + 1))]) (y := 1) (ps_at tX3_findRests_ok 40 rfl) rfl (by decide) (by decide) rfl ?_
  refine ps_goto (tgt := 17) (ps_at tX3_findRests_ok 41 rfl) (by decide) ?_
  exact h2
theorem eX3_findRests {d : Nat} {Q : Option ps_V → ps_S → Prop}  {σ : ps_S} (h : kX3_findRests_0 d Q σ) : ps_C mX3_findRests (d + 1) [.inr (.inr (15, 0))] σ Q := ps_enter (by decide) rfl ⟨rfl, rfl, rfl⟩ rfl (Nat.le_of_ble_eq_true rfl) h
abbrev kX3_restBehind_0 (d : Nat) (Q : Option ps_V → ps_S → Prop) (v1 : Int32) (v2 : Int32) (σ : ps_S) : Prop := ps_K mX3_restBehind (d + 2) (ps_QF Q) 0 [some (.inr (.inr (15, 0))), some (.inl v1), some (.inl v2), none, none] [] σ
abbrev kX3_restBehind_5 (d : Nat) (Q : Option ps_V → ps_S → Prop) (v1 : Int32) (v2 : Int32) (v3 : Int32) (v4 : Int32) (σ : ps_S) : Prop := ps_K mX3_restBehind (d + 2) (ps_QF Q) 5 [some (.inr (.inr (15, 0))), some (.inl v1), some (.inl v2), some (.inl v3), some (.inl v4)] [] σ
theorem bX3_restBehind_0 {d : Nat} {Q : Option ps_V → ps_S → Prop} {v1 : Int32} {v2 : Int32} {σ : ps_S} (h1 : kX3_restBehind_5 d Q v1 v2 (-1) 0 σ) : kX3_restBehind_0 d Q v1 v2 σ := by
  refine ps_iconst (x := (-1)) (ps_at tX3_restBehind_ok 0 rfl) (by decide) ?_
  refine ps_istore_n (L' := [some (.inr (.inr (15, 0))), some (.inl v1), some (.inl v2), some (.inl (-1)), none]) (ps_at tX3_restBehind_ok 1 rfl) rfl (by decide) rfl ?_
  refine ps_iconst (x := 0) (ps_at tX3_restBehind_ok 2 rfl) (by decide) ?_
  refine ps_istore (L' := [some (.inr (.inr (15, 0))), some (.inl v1), some (.inl v2), some (.inl (-1)), some (.inl 0)]) (ps_at tX3_restBehind_ok 3 rfl) (by decide) rfl ?_
  exact h1
theorem bX3_restBehind_5 {d : Nat} {Q : Option ps_V → ps_S → Prop} {v1 : Int32} {v2 : Int32} {v3 : Int32} {v4 : Int32} {σ : ps_S} (h1 : (σ 15 0 3) ≤ v4 → Q (some (.inl v3)) σ) (h2 : ¬ (σ 15 0 3) ≤ v4 → ((v1 >>> (v4 &&& 31)) &&& 1) = 0 → vp_in v4 9) (h3 : ¬ (σ 15 0 3) ≤ v4 → (jX3_mayCome σ v1 v4) = 0 → kX3_restBehind_5 d Q v1 v2 v3 (v4 + 1) σ) (h4 : ¬ (σ 15 0 3) ≤ v4 → ¬ (jX3_mayCome σ v1 v4) = 0 → vp_in (((v1 ||| ((1 : Int32) <<< (v4 &&& 31))) * 9) + v4) 4608) (h5 : ¬ (σ 15 0 3) ≤ v4 → ¬ (jX3_mayCome σ v1 v4) = 0 → ¬ (σ 16 0 (((v1 ||| ((1 : Int32) <<< (v4 &&& 31))) * 9) + v4).toNatClampNeg) = (-1) → ¬ v2 = (-900009) → vp_in ((v2 * 9) + v4) 81) (h6 : ¬ (σ 15 0 3) ≤ v4 → ¬ (jX3_mayCome σ v1 v4) = 0 → kX3_restBehind_5 d Q v1 v2 (jX3_join σ v3 (jX3_restThrough σ v1 v2 v4)) (v4 + 1) σ) : kX3_restBehind_5 d Q v1 v2 v3 v4 σ := by
  refine ps_iload (ps_at tX3_restBehind_ok 4 rfl) rfl ?_
  refine ps_aload_n (ps_at tX3_restBehind_ok 5 rfl) rfl rfl ?_
  refine ps_getI (ps_at tX3_restBehind_ok 6 rfl) flX3_62 sh_15 rfl ?_
  refine ps_icmp_ge (tgt := 43) (ps_at tX3_restBehind_ok 7 rfl) (by decide) (fun c0 => ?_) (fun c0 => ?_)
  · skip
    refine ps_iload_n (ps_at tX3_restBehind_ok 23 rfl) rfl rfl ?_
    exact ps_iret (ps_at tX3_restBehind_ok 24 rfl) rfl ⟨rfl, rfl⟩ (h1 c0)
  · skip
    refine ps_aload_n (ps_at tX3_restBehind_ok 8 rfl) rfl rfl ?_
    refine ps_iload_n (ps_at tX3_restBehind_ok 9 rfl) rfl rfl ?_
    refine ps_iload (ps_at tX3_restBehind_ok 10 rfl) rfl ?_
    refine ps_callV (M2 := mX3_mayCome) (av := [.inl v1, .inl v4]) (rest := []) (ps_at tX3_restBehind_ok 11 rfl) cvX3_76 sh_15 rfl rfl (fun _ => Nat.le_of_ble_eq_true rfl) (pX3_mayCome (h2 c0) ?_)
    refine ps_if_eq (tgt := 37) (ps_at tX3_restBehind_ok 12 rfl) (by decide) (fun c1 => ?_) (fun c1 => ?_)
    · skip
      refine ps_iinc (L' := [some (.inr (.inr (15, 0))), some (.inl v1), some (.inl v2), some (.inl v3), some (.inl (v4 + 1))]) (y := 1) (ps_at tX3_restBehind_ok 21 rfl) rfl (by decide) (by decide) rfl ?_
      refine ps_goto (tgt := 5) (ps_at tX3_restBehind_ok 22 rfl) (by decide) ?_
      exact h3 c0 c1
    · skip
      refine ps_iload_n (ps_at tX3_restBehind_ok 13 rfl) rfl rfl ?_
      refine ps_aload_n (ps_at tX3_restBehind_ok 14 rfl) rfl rfl ?_
      refine ps_iload_n (ps_at tX3_restBehind_ok 15 rfl) rfl rfl ?_
      refine ps_iload_n (ps_at tX3_restBehind_ok 16 rfl) rfl rfl ?_
      refine ps_iload (ps_at tX3_restBehind_ok 17 rfl) rfl ?_
      refine ps_callV (M2 := mX3_restThrough) (av := [.inl v1, .inl v2, .inl v4]) (rest := [.inl v3]) (ps_at tX3_restBehind_ok 18 rfl) cvX3_80 sh_15 rfl rfl (fun _ => Nat.le_of_ble_eq_true rfl) (pX3_restThrough (h4 c0 c1) (h5 c0 c1) ?_)
      refine ps_callS (M2 := mX3_join) (av := [.inl v3, .inl (jX3_restThrough σ v1 v2 v4)]) (rest := []) (ps_at tX3_restBehind_ok 19 rfl) csX3_84 rfl rfl (fun _ => Nat.le_of_ble_eq_true rfl) (pX3_join ?_)
      refine ps_istore_n (L' := [some (.inr (.inr (15, 0))), some (.inl v1), some (.inl v2), some (.inl (jX3_join σ v3 (jX3_restThrough σ v1 v2 v4))), some (.inl v4)]) (ps_at tX3_restBehind_ok 20 rfl) rfl (by decide) rfl ?_
      refine ps_iinc (L' := [some (.inr (.inr (15, 0))), some (.inl v1), some (.inl v2), some (.inl (jX3_join σ v3 (jX3_restThrough σ v1 v2 v4))), some (.inl (v4 + 1))]) (y := 1) (ps_at tX3_restBehind_ok 21 rfl) rfl (by decide) (by decide) rfl ?_
      refine ps_goto (tgt := 5) (ps_at tX3_restBehind_ok 22 rfl) (by decide) ?_
      exact h6 c0 c1
theorem eX3_restBehind {d : Nat} {Q : Option ps_V → ps_S → Prop} {v1 : Int32} {v2 : Int32} {σ : ps_S} (h : kX3_restBehind_0 d Q v1 v2 σ) : ps_C mX3_restBehind (d + 2) [.inr (.inr (15, 0)), .inl v1, .inl v2] σ Q := ps_enter (by decide) rfl ⟨rfl, rfl, rfl⟩ rfl (Nat.le_of_ble_eq_true rfl) h
abbrev kX3_walkFirst_0 (d : Nat) (Q : Option ps_V → ps_S → Prop) (i1 : Nat) (v2 : Int32) (σ : ps_S) : Prop := ps_K mX3_walkFirst (d + 1) (ps_QF Q) 0 [some (.inr (.inr (15, 0))), some (.inr (.inr (10, i1))), some (.inl v2), none, none, none, none, none] [] σ
abbrev kX3_walkFirst_12 (d : Nat) (Q : Option ps_V → ps_S → Prop) (i1 : Nat) (v3 : Int32) (v4 : Int32) (v5 : Int32) (v6 : Int32) (σ : ps_S) : Prop := ps_K mX3_walkFirst (d + 1) (ps_QF Q) 12 [some (.inr (.inr (15, 0))), some (.inr (.inr (10, i1))), none, some (.inl v3), some (.inl v4), some (.inl v5), some (.inl v6), none] [] σ
abbrev kX3_walkFirst_30 (d : Nat) (Q : Option ps_V → ps_S → Prop) (i1 : Nat) (v3 : Int32) (v4 : Int32) (v5 : Int32) (v6 : Int32) (s0 : Int32) (σ : ps_S) : Prop := ps_K mX3_walkFirst (d + 1) (ps_QF Q) 30 [some (.inr (.inr (15, 0))), some (.inr (.inr (10, i1))), none, some (.inl v3), some (.inl v4), some (.inl v5), some (.inl v6), none] [.inl s0] σ
abbrev kX3_walkFirst_72 (d : Nat) (Q : Option ps_V → ps_S → Prop) (i1 : Nat) (v3 : Int32) (v6 : Int32) (v7 : Int32) (s0 : Int32) (s1 : Int32) (σ : ps_S) : Prop := ps_K mX3_walkFirst (d + 1) (ps_QF Q) 72 [some (.inr (.inr (15, 0))), some (.inr (.inr (10, i1))), none, some (.inl v3), none, none, some (.inl v6), some (.inl v7)] [.inl s0, .inl s1] σ
theorem bX3_walkFirst_0 {d : Nat} {Q : Option ps_V → ps_S → Prop} {i1 : Nat} {v2 : Int32} {σ : ps_S} (h1 : kX3_walkFirst_12 d Q i1 0 (-900009) v2 0 σ) : kX3_walkFirst_0 d Q i1 v2 σ := by
  refine ps_iconst (x := 0) (ps_at tX3_walkFirst_ok 0 rfl) (by decide) ?_
  refine ps_istore_n (L' := [some (.inr (.inr (15, 0))), some (.inr (.inr (10, i1))), some (.inl v2), some (.inl 0), none, none, none, none]) (ps_at tX3_walkFirst_ok 1 rfl) rfl (by decide) rfl ?_
  refine ps_ldc (ps_at tX3_walkFirst_ok 2 rfl) cnX3_37 ?_
  refine ps_istore (L' := [some (.inr (.inr (15, 0))), some (.inr (.inr (10, i1))), some (.inl v2), some (.inl 0), some (.inl (-900009)), none, none, none]) (ps_at tX3_walkFirst_ok 3 rfl) (by decide) rfl ?_
  refine ps_iload_n (ps_at tX3_walkFirst_ok 4 rfl) rfl rfl ?_
  refine ps_istore (L' := [some (.inr (.inr (15, 0))), some (.inr (.inr (10, i1))), some (.inl v2), some (.inl 0), some (.inl (-900009)), some (.inl v2), none, none]) (ps_at tX3_walkFirst_ok 5 rfl) (by decide) rfl ?_
  refine ps_iconst (x := 0) (ps_at tX3_walkFirst_ok 6 rfl) (by decide) ?_
  refine ps_istore (L' := [some (.inr (.inr (15, 0))), some (.inr (.inr (10, i1))), some (.inl v2), some (.inl 0), some (.inl (-900009)), some (.inl v2), some (.inl 0), none]) (ps_at tX3_walkFirst_ok 7 rfl) (by decide) rfl ?_
  refine ps_forget (L' := [some (.inr (.inr (15, 0))), some (.inr (.inr (10, i1))), none, some (.inl 0), some (.inl (-900009)), some (.inl v2), some (.inl 0), none]) (And.intro rfl (And.intro rfl (And.intro rfl (And.intro rfl (And.intro rfl (And.intro rfl trivial)))))) ?_
  exact h1
theorem bX3_walkFirst_12 {d : Nat} {Q : Option ps_V → ps_S → Prop} {i1 : Nat} {v3 : Int32} {v4 : Int32} {v5 : Int32} {v6 : Int32} {σ : ps_S} (h1 : (σ 15 0 3) ≤ v6 → Q none σ) (h2 : ¬ (σ 15 0 3) ≤ v6 → ps_C mX3_leastNext d [.inr (.inr (15, 0)), .inl v3, .inl v4, .inl v5] σ (ps_ri (fun x σ1 => kX3_walkFirst_30 d Q i1 v3 v4 v5 v6 x σ1))) : kX3_walkFirst_12 d Q i1 v3 v4 v5 v6 σ := by
  refine ps_iload (ps_at tX3_walkFirst_ok 8 rfl) rfl ?_
  refine ps_aload_n (ps_at tX3_walkFirst_ok 9 rfl) rfl rfl ?_
  refine ps_getI (ps_at tX3_walkFirst_ok 10 rfl) flX3_62 sh_15 rfl ?_
  refine ps_icmp_ge (tgt := 92) (ps_at tX3_walkFirst_ok 11 rfl) (by decide) (fun c0 => ?_) (fun c0 => ?_)
  · skip
    exact ps_vret (ps_at tX3_walkFirst_ok 52 rfl) rfl ⟨rfl, rfl⟩ (h1 c0)
  · skip
    refine ps_aload_n (ps_at tX3_walkFirst_ok 12 rfl) rfl rfl ?_
    refine ps_iload_n (ps_at tX3_walkFirst_ok 13 rfl) rfl rfl ?_
    refine ps_iload (ps_at tX3_walkFirst_ok 14 rfl) rfl ?_
    refine ps_iload (ps_at tX3_walkFirst_ok 15 rfl) rfl ?_
    refine ps_callV (M2 := mX3_leastNext) (av := [.inl v3, .inl v4, .inl v5]) (rest := []) (ps_at tX3_walkFirst_ok 16 rfl) cvX3_95 sh_15 rfl rfl (fun _ => Nat.le_of_ble_eq_true rfl) ?_
    refine ps_C.imp ?_ (h2 c0)
    rintro _ σ1 ⟨x, rfl, hx⟩
    exact hx
theorem bX3_walkFirst_30 {d : Nat} {Q : Option ps_V → ps_S → Prop} {i1 : Nat} {v3 : Int32} {v4 : Int32} {v5 : Int32} {v6 : Int32} {s0 : Int32} {σ : ps_S} (h1 : ¬ s0 = (-900009) → vp_in v6 9) (h2 : ¬ s0 = (-900009) → ¬ v4 = (-900009) → vp_in ((v4 * 9) + s0) 81) (h3 : ¬ s0 = (-900009) → ¬ v4 = (-900009) → kX3_walkFirst_72 d Q i1 v3 v6 s0 ((ps_up σ 10 i1 v6.toNatClampNeg s0) 17 0 ((v4 * 9) + s0).toNatClampNeg) v5 (ps_up σ 10 i1 v6.toNatClampNeg s0)) (h4 : ¬ s0 = (-900009) → v4 = (-900009) → kX3_walkFirst_72 d Q i1 v3 v6 s0 0 v5 (ps_up σ 10 i1 v6.toNatClampNeg s0)) (h5 : s0 = (-900009) → Q none σ) : kX3_walkFirst_30 d Q i1 v3 v4 v5 v6 s0 σ := by
  refine ps_istore (L' := [some (.inr (.inr (15, 0))), some (.inr (.inr (10, i1))), none, some (.inl v3), some (.inl v4), some (.inl v5), some (.inl v6), some (.inl s0)]) (ps_at tX3_walkFirst_ok 17 rfl) (by decide) rfl ?_
  refine ps_iload (ps_at tX3_walkFirst_ok 18 rfl) rfl ?_
  refine ps_ldc (ps_at tX3_walkFirst_ok 19 rfl) cnX3_37 ?_
  refine ps_icmp_ne (tgt := 40) (ps_at tX3_walkFirst_ok 20 rfl) (by decide) (fun c0 => ?_) (fun c0 => ?_)
  · skip
    refine ps_aload_n (ps_at tX3_walkFirst_ok 22 rfl) rfl rfl ?_
    refine ps_iload (ps_at tX3_walkFirst_ok 23 rfl) rfl ?_
    refine ps_iload (ps_at tX3_walkFirst_ok 24 rfl) rfl ?_
    refine ps_iast (ps_at tX3_walkFirst_ok 25 rfl) sh_10 (h1 c0) ?_
    refine ps_iload (ps_at tX3_walkFirst_ok 26 rfl) rfl ?_
    refine ps_iload (ps_at tX3_walkFirst_ok 27 rfl) rfl ?_
    refine ps_ldc (ps_at tX3_walkFirst_ok 28 rfl) cnX3_37 ?_
    refine ps_icmp_ne (tgt := 59) (ps_at tX3_walkFirst_ok 29 rfl) (by decide) (fun c1 => ?_) (fun c1 => ?_)
    · skip
      refine ps_aload_n (ps_at tX3_walkFirst_ok 32 rfl) rfl rfl ?_
      refine ps_getR (ps_at tX3_walkFirst_ok 33 rfl) flX3_15 sh_15 rfl ?_
      refine ps_iload (ps_at tX3_walkFirst_ok 34 rfl) rfl ?_
      refine ps_bipush (x := 9) (ps_at tX3_walkFirst_ok 35 rfl) (by decide) ?_
      refine ps_imul (ps_at tX3_walkFirst_ok 36 rfl) ?_
      refine ps_iload (ps_at tX3_walkFirst_ok 37 rfl) rfl ?_
      refine ps_iadd (ps_at tX3_walkFirst_ok 38 rfl) ?_
      refine ps_iald (ps_at tX3_walkFirst_ok 39 rfl) sh_17 (h2 c0 c1) ?_
      refine ps_forget (L' := [some (.inr (.inr (15, 0))), some (.inr (.inr (10, i1))), none, some (.inl v3), none, none, some (.inl v6), some (.inl s0)]) (And.intro rfl (And.intro rfl (And.intro rfl (And.intro rfl (And.intro rfl trivial))))) ?_
      exact h3 c0 c1
    · skip
      refine ps_iconst (x := 0) (ps_at tX3_walkFirst_ok 30 rfl) (by decide) ?_
      refine ps_goto (tgt := 72) (ps_at tX3_walkFirst_ok 31 rfl) (by decide) ?_
      refine ps_forget (L' := [some (.inr (.inr (15, 0))), some (.inr (.inr (10, i1))), none, some (.inl v3), none, none, some (.inl v6), some (.inl s0)]) (And.intro rfl (And.intro rfl (And.intro rfl (And.intro rfl (And.intro rfl trivial))))) ?_
      exact h4 c0 c1
  · skip
    exact ps_vret (ps_at tX3_walkFirst_ok 21 rfl) rfl ⟨rfl, rfl⟩ (h5 c0)
theorem bX3_walkFirst_72 {d : Nat} {Q : Option ps_V → ps_S → Prop} {i1 : Nat} {v3 : Int32} {v6 : Int32} {v7 : Int32} {s0 : Int32} {s1 : Int32} {σ : ps_S} (h1 : kX3_walkFirst_12 d Q i1 (v3 ||| ((1 : Int32) <<< (v7 &&& 31))) v7 (s1 - s0) (v6 + 1) σ) : kX3_walkFirst_72 d Q i1 v3 v6 v7 s0 s1 σ := by
  refine ps_isub (ps_at tX3_walkFirst_ok 40 rfl) ?_
  refine ps_istore (L' := [some (.inr (.inr (15, 0))), some (.inr (.inr (10, i1))), none, some (.inl v3), none, some (.inl (s1 - s0)), some (.inl v6), some (.inl v7)]) (ps_at tX3_walkFirst_ok 41 rfl) (by decide) rfl ?_
  refine ps_iload_n (ps_at tX3_walkFirst_ok 42 rfl) rfl rfl ?_
  refine ps_iconst (x := 1) (ps_at tX3_walkFirst_ok 43 rfl) (by decide) ?_
  refine ps_iload (ps_at tX3_walkFirst_ok 44 rfl) rfl ?_
  refine ps_ishl (ps_at tX3_walkFirst_ok 45 rfl) ?_
  refine ps_ior (ps_at tX3_walkFirst_ok 46 rfl) ?_
  refine ps_istore_n (L' := [some (.inr (.inr (15, 0))), some (.inr (.inr (10, i1))), none, some (.inl (v3 ||| ((1 : Int32) <<< (v7 &&& 31)))), none, some (.inl (s1 - s0)), some (.inl v6), some (.inl v7)]) (ps_at tX3_walkFirst_ok 47 rfl) rfl (by decide) rfl ?_
  refine ps_iload (ps_at tX3_walkFirst_ok 48 rfl) rfl ?_
  refine ps_istore (L' := [some (.inr (.inr (15, 0))), some (.inr (.inr (10, i1))), none, some (.inl (v3 ||| ((1 : Int32) <<< (v7 &&& 31)))), some (.inl v7), some (.inl (s1 - s0)), some (.inl v6), some (.inl v7)]) (ps_at tX3_walkFirst_ok 49 rfl) (by decide) rfl ?_
  refine ps_iinc (L' := [some (.inr (.inr (15, 0))), some (.inr (.inr (10, i1))), none, some (.inl (v3 ||| ((1 : Int32) <<< (v7 &&& 31)))), some (.inl v7), some (.inl (s1 - s0)), some (.inl (v6 + 1)), some (.inl v7)]) (y := 1) (ps_at tX3_walkFirst_ok 50 rfl) rfl (by decide) (by decide) rfl ?_
  refine ps_goto (tgt := 12) (ps_at tX3_walkFirst_ok 51 rfl) (by decide) ?_
  refine ps_forget (L' := [some (.inr (.inr (15, 0))), some (.inr (.inr (10, i1))), none, some (.inl (v3 ||| ((1 : Int32) <<< (v7 &&& 31)))), some (.inl v7), some (.inl (s1 - s0)), some (.inl (v6 + 1)), none]) (And.intro rfl (And.intro rfl (And.intro rfl (And.intro rfl (And.intro rfl (And.intro rfl trivial)))))) ?_
  exact h1
theorem eX3_walkFirst {d : Nat} {Q : Option ps_V → ps_S → Prop} {i1 : Nat} {v2 : Int32} {σ : ps_S} (h : kX3_walkFirst_0 d Q i1 v2 σ) : ps_C mX3_walkFirst (d + 1) [.inr (.inr (15, 0)), .inr (.inr (10, i1)), .inl v2] σ Q := ps_enter (by decide) rfl ⟨rfl, rfl, rfl⟩ rfl (Nat.le_of_ble_eq_true rfl) h
abbrev kX3_leastNext_0 (d : Nat) (Q : Option ps_V → ps_S → Prop) (v1 : Int32) (v2 : Int32) (v3 : Int32) (σ : ps_S) : Prop := ps_K mX3_leastNext (d + 1) (ps_QF Q) 0 [some (.inr (.inr (15, 0))), some (.inl v1), some (.inl v2), some (.inl v3), none, none] [] σ
abbrev kX3_leastNext_3 (d : Nat) (Q : Option ps_V → ps_S → Prop) (v1 : Int32) (v2 : Int32) (v3 : Int32) (v4 : Int32) (σ : ps_S) : Prop := ps_K mX3_leastNext (d + 1) (ps_QF Q) 3 [some (.inr (.inr (15, 0))), some (.inl v1), some (.inl v2), some (.inl v3), some (.inl v4), none] [] σ
abbrev kX3_leastNext_34 (d : Nat) (Q : Option ps_V → ps_S → Prop) (v1 : Int32) (v2 : Int32) (v3 : Int32) (v4 : Int32) (s0 : Int32) (σ : ps_S) : Prop := ps_K mX3_leastNext (d + 1) (ps_QF Q) 34 [some (.inr (.inr (15, 0))), some (.inl v1), some (.inl v2), some (.inl v3), some (.inl v4), none] [.inl s0] σ
theorem bX3_leastNext_0 {d : Nat} {Q : Option ps_V → ps_S → Prop} {v1 : Int32} {v2 : Int32} {v3 : Int32} {σ : ps_S} (h1 : kX3_leastNext_3 d Q v1 v2 v3 0 σ) : kX3_leastNext_0 d Q v1 v2 v3 σ := by
  refine ps_iconst (x := 0) (ps_at tX3_leastNext_ok 0 rfl) (by decide) ?_
  refine ps_istore (L' := [some (.inr (.inr (15, 0))), some (.inl v1), some (.inl v2), some (.inl v3), some (.inl 0), none]) (ps_at tX3_leastNext_ok 1 rfl) (by decide) rfl ?_
  exact h1
theorem bX3_leastNext_3 {d : Nat} {Q : Option ps_V → ps_S → Prop} {v1 : Int32} {v2 : Int32} {v3 : Int32} {v4 : Int32} {σ : ps_S} (h1 : (σ 15 0 3) ≤ v4 → Q (some (.inl (-900009))) σ) (h2 : ¬ (σ 15 0 3) ≤ v4 → ((v1 >>> (v4 &&& 31)) &&& 1) = 0 → vp_in v4 9) (h3 : ¬ (σ 15 0 3) ≤ v4 → (jX3_mayCome σ v1 v4) = 0 → kX3_leastNext_34 d Q v1 v2 v3 v4 (-1) σ) (h4 : ¬ (σ 15 0 3) ≤ v4 → ¬ (jX3_mayCome σ v1 v4) = 0 → vp_in (((v1 ||| ((1 : Int32) <<< (v4 &&& 31))) * 9) + v4) 4608) (h5 : ¬ (σ 15 0 3) ≤ v4 → ¬ (jX3_mayCome σ v1 v4) = 0 → ¬ (σ 16 0 (((v1 ||| ((1 : Int32) <<< (v4 &&& 31))) * 9) + v4).toNatClampNeg) = (-1) → ¬ v2 = (-900009) → vp_in ((v2 * 9) + v4) 81) (h6 : ¬ (σ 15 0 3) ≤ v4 → ¬ (jX3_mayCome σ v1 v4) = 0 → kX3_leastNext_34 d Q v1 v2 v3 v4 (jX3_restThrough σ v1 v2 v4) σ) : kX3_leastNext_3 d Q v1 v2 v3 v4 σ := by
  refine ps_iload (ps_at tX3_leastNext_ok 2 rfl) rfl ?_
  refine ps_aload_n (ps_at tX3_leastNext_ok 3 rfl) rfl rfl ?_
  refine ps_getI (ps_at tX3_leastNext_ok 4 rfl) flX3_62 sh_15 rfl ?_
  refine ps_icmp_ge (tgt := 60) (ps_at tX3_leastNext_ok 5 rfl) (by decide) (fun c0 => ?_) (fun c0 => ?_)
  · skip
    refine ps_ldc (ps_at tX3_leastNext_ok 31 rfl) cnX3_37 ?_
    exact ps_iret (ps_at tX3_leastNext_ok 32 rfl) rfl ⟨rfl, rfl⟩ (h1 c0)
  · skip
    refine ps_aload_n (ps_at tX3_leastNext_ok 6 rfl) rfl rfl ?_
    refine ps_iload_n (ps_at tX3_leastNext_ok 7 rfl) rfl rfl ?_
    refine ps_iload (ps_at tX3_leastNext_ok 8 rfl) rfl ?_
    refine ps_callV (M2 := mX3_mayCome) (av := [.inl v1, .inl v4]) (rest := []) (ps_at tX3_leastNext_ok 9 rfl) cvX3_76 sh_15 rfl rfl (fun _ => Nat.le_of_ble_eq_true rfl) (pX3_mayCome (h2 c0) ?_)
    refine ps_if_eq (tgt := 33) (ps_at tX3_leastNext_ok 10 rfl) (by decide) (fun c1 => ?_) (fun c1 => ?_)
    · skip
      refine ps_iconst (x := (-1)) (ps_at tX3_leastNext_ok 17 rfl) (by decide) ?_
      exact h3 c0 c1
    · skip
      refine ps_aload_n (ps_at tX3_leastNext_ok 11 rfl) rfl rfl ?_
      refine ps_iload_n (ps_at tX3_leastNext_ok 12 rfl) rfl rfl ?_
      refine ps_iload_n (ps_at tX3_leastNext_ok 13 rfl) rfl rfl ?_
      refine ps_iload (ps_at tX3_leastNext_ok 14 rfl) rfl ?_
      refine ps_callV (M2 := mX3_restThrough) (av := [.inl v1, .inl v2, .inl v4]) (rest := []) (ps_at tX3_leastNext_ok 15 rfl) cvX3_80 sh_15 rfl rfl (fun _ => Nat.le_of_ble_eq_true rfl) (pX3_restThrough (h4 c0 c1) (h5 c0 c1) ?_)
      refine ps_goto (tgt := 34) (ps_at tX3_leastNext_ok 16 rfl) (by decide) ?_
      exact h6 c0 c1
theorem bX3_leastNext_34 {d : Nat} {Q : Option ps_V → ps_S → Prop} {v1 : Int32} {v2 : Int32} {v3 : Int32} {v4 : Int32} {s0 : Int32} {σ : ps_S} (h1 : s0 = (-1) → kX3_leastNext_3 d Q v1 v2 v3 (v4 + 1) σ) (h2 : ¬ s0 = (-1) → ¬ (s0 / 1048576) = v3 → kX3_leastNext_3 d Q v1 v2 v3 (v4 + 1) σ) (h3 : ¬ s0 = (-1) → (s0 / 1048576) = v3 → Q (some (.inl v4)) σ) : kX3_leastNext_34 d Q v1 v2 v3 v4 s0 σ := by
  refine ps_istore (L' := [some (.inr (.inr (15, 0))), some (.inl v1), some (.inl v2), some (.inl v3), some (.inl v4), some (.inl s0)]) (ps_at tX3_leastNext_ok 18 rfl) (by decide) rfl ?_
  refine ps_iload (ps_at tX3_leastNext_ok 19 rfl) rfl ?_
  refine ps_iconst (x := (-1)) (ps_at tX3_leastNext_ok 20 rfl) (by decide) ?_
  refine ps_icmp_eq (tgt := 54) (ps_at tX3_leastNext_ok 21 rfl) (by decide) (fun c0 => ?_) (fun c0 => ?_)
  · skip
    refine ps_iinc (L' := [some (.inr (.inr (15, 0))), some (.inl v1), some (.inl v2), some (.inl v3), some (.inl (v4 + 1)), some (.inl s0)]) (y := 1) (ps_at tX3_leastNext_ok 29 rfl) rfl (by decide) (by decide) rfl ?_
    refine ps_goto (tgt := 3) (ps_at tX3_leastNext_ok 30 rfl) (by decide) ?_
    refine ps_forget (L' := [some (.inr (.inr (15, 0))), some (.inl v1), some (.inl v2), some (.inl v3), some (.inl (v4 + 1)), none]) (And.intro rfl (And.intro rfl (And.intro rfl (And.intro rfl (And.intro rfl trivial))))) ?_
    exact h1 c0
  · skip
    refine ps_iload (ps_at tX3_leastNext_ok 22 rfl) rfl ?_
    refine ps_ldc (ps_at tX3_leastNext_ok 23 rfl) cnX3_45 ?_
    refine ps_idiv (ps_at tX3_leastNext_ok 24 rfl) (by decide) ?_
    refine ps_iload_n (ps_at tX3_leastNext_ok 25 rfl) rfl rfl ?_
    refine ps_icmp_ne (tgt := 54) (ps_at tX3_leastNext_ok 26 rfl) (by decide) (fun c1 => ?_) (fun c1 => ?_)
    · skip
      refine ps_iinc (L' := [some (.inr (.inr (15, 0))), some (.inl v1), some (.inl v2), some (.inl v3), some (.inl (v4 + 1)), some (.inl s0)]) (y := 1) (ps_at tX3_leastNext_ok 29 rfl) rfl (by decide) (by decide) rfl ?_
      refine ps_goto (tgt := 3) (ps_at tX3_leastNext_ok 30 rfl) (by decide) ?_
      refine ps_forget (L' := [some (.inr (.inr (15, 0))), some (.inl v1), some (.inl v2), some (.inl v3), some (.inl (v4 + 1)), none]) (And.intro rfl (And.intro rfl (And.intro rfl (And.intro rfl (And.intro rfl trivial))))) ?_
      exact h2 c0 c1
    · skip
      refine ps_iload (ps_at tX3_leastNext_ok 27 rfl) rfl ?_
      exact ps_iret (ps_at tX3_leastNext_ok 28 rfl) rfl ⟨rfl, rfl⟩ (h3 c0 c1)
theorem eX3_leastNext {d : Nat} {Q : Option ps_V → ps_S → Prop} {v1 : Int32} {v2 : Int32} {v3 : Int32} {σ : ps_S} (h : kX3_leastNext_0 d Q v1 v2 v3 σ) : ps_C mX3_leastNext (d + 1) [.inr (.inr (15, 0)), .inl v1, .inl v2, .inl v3] σ Q := ps_enter (by decide) rfl ⟨rfl, rfl, rfl⟩ rfl (Nat.le_of_ble_eq_true rfl) h

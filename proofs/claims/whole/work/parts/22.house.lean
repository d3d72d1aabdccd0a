/-! ===== printed by wip/whole/gen.py: block rows ===== -/
abbrev kX2_putHouse_0 (d : Nat) (Q : Option ps_V → ps_S → Prop) (v1 : Int32) (v2 : Int32) (σ : ps_S) : Prop := ps_K mX2_putHouse d (ps_QF Q) 0 [some (.inr (.inr (36, 0))), some (.inl v1), some (.inl v2), none] [] σ
theorem bX2_putHouse_0 {d : Nat} {Q : Option ps_V → ps_S → Prop} {v1 : Int32} {v2 : Int32} {σ : ps_S} (h1 : Q (some (.inl (σ 36 0 2))) (ps_up (ps_up (ps_up σ 36 0 2 v1) 36 0 3 v2) 36 0 10 0)) : kX2_putHouse_0 d Q v1 v2 σ := by
  refine ps_aload_n (ps_at tX2_putHouse_ok 0 rfl) rfl rfl ?_
  refine ps_getI (ps_at tX2_putHouse_ok 1 rfl) flX2_19 sh_36 rfl ?_
  refine ps_istore_n (L' := [some (.inr (.inr (36, 0))), some (.inl v1), some (.inl v2), some (.inl (σ 36 0 2))]) (ps_at tX2_putHouse_ok 2 rfl) rfl (by decide) rfl ?_
  refine ps_aload_n (ps_at tX2_putHouse_ok 3 rfl) rfl rfl ?_
  refine ps_iload_n (ps_at tX2_putHouse_ok 4 rfl) rfl rfl ?_
  refine ps_putI (ps_at tX2_putHouse_ok 5 rfl) fpX2_19 sh_36 rfl ?_
  refine ps_aload_n (ps_at tX2_putHouse_ok 6 rfl) rfl rfl ?_
  refine ps_iload_n (ps_at tX2_putHouse_ok 7 rfl) rfl rfl ?_
  refine ps_putI (ps_at tX2_putHouse_ok 8 rfl) fpX2_23 sh_36 rfl ?_
  refine ps_aload_n (ps_at tX2_putHouse_ok 9 rfl) rfl rfl ?_
  refine ps_iconst (x := 0) (ps_at tX2_putHouse_ok 10 rfl) (by decide) ?_
  refine ps_putZ (ps_at tX2_putHouse_ok 11 rfl) fpX2_48 sh_36 rfl (Or.inl rfl) ?_
  refine ps_iload_n (ps_at tX2_putHouse_ok 12 rfl) rfl rfl ?_
  exact ps_iret (ps_at tX2_putHouse_ok 13 rfl) rfl ⟨rfl, rfl⟩ (h1)
theorem eX2_putHouse {d : Nat} {Q : Option ps_V → ps_S → Prop} {v1 : Int32} {v2 : Int32} {σ : ps_S} (h : kX2_putHouse_0 d Q v1 v2 σ) : ps_C mX2_putHouse d [.inr (.inr (36, 0)), .inl v1, .inl v2] σ Q := ps_enter (by decide) rfl ⟨rfl, rfl, rfl⟩ rfl (Nat.le_of_ble_eq_true rfl) h
abbrev kX2_putHabit_0 (d : Nat) (Q : Option ps_V → ps_S → Prop) (v1 : Int32) (v2 : Int32) (v3 : Int32) (σ : ps_S) : Prop := ps_K mX2_putHabit d (ps_QF Q) 0 [some (.inr (.inr (36, 0))), some (.inl v1), some (.inl v2), some (.inl v3), none] [] σ
theorem bX2_putHabit_0 {d : Nat} {Q : Option ps_V → ps_S → Prop} {v1 : Int32} {v2 : Int32} {v3 : Int32} {σ : ps_S} (h1 : vp_in v1 4) (h2 : vp_in v2 6) (h3 : Q (some (.inl (σ 38 v1.toNatClampNeg v2.toNatClampNeg))) (ps_up (ps_up σ 38 v1.toNatClampNeg v2.toNatClampNeg v3) 36 0 10 0)) : kX2_putHabit_0 d Q v1 v2 v3 σ := by
  refine ps_aload_n (ps_at tX2_putHabit_ok 0 rfl) rfl rfl ?_
  refine ps_getR (ps_at tX2_putHabit_ok 1 rfl) flX2_11 sh_36 rfl ?_
  refine ps_iload_n (ps_at tX2_putHabit_ok 2 rfl) rfl rfl ?_
  refine ps_aald0 (ps_at tX2_putHabit_ok 3 rfl) sh_37 (Or.inl rfl) (h1) ?_
  refine ps_iload_n (ps_at tX2_putHabit_ok 4 rfl) rfl rfl ?_
  refine ps_iald (ps_at tX2_putHabit_ok 5 rfl) sh_38 (h2) ?_
  refine ps_istore (L' := [some (.inr (.inr (36, 0))), some (.inl v1), some (.inl v2), some (.inl v3), some (.inl (σ 38 v1.toNatClampNeg v2.toNatClampNeg))]) (ps_at tX2_putHabit_ok 6 rfl) (by decide) rfl ?_
  refine ps_aload_n (ps_at tX2_putHabit_ok 7 rfl) rfl rfl ?_
  refine ps_getR (ps_at tX2_putHabit_ok 8 rfl) flX2_11 sh_36 rfl ?_
  refine ps_iload_n (ps_at tX2_putHabit_ok 9 rfl) rfl rfl ?_
  refine ps_aald0 (ps_at tX2_putHabit_ok 10 rfl) sh_37 (Or.inl rfl) (h1) ?_
  refine ps_iload_n (ps_at tX2_putHabit_ok 11 rfl) rfl rfl ?_
  refine ps_iload_n (ps_at tX2_putHabit_ok 12 rfl) rfl rfl ?_
  refine ps_iast (ps_at tX2_putHabit_ok 13 rfl) sh_38 (h2) ?_
  refine ps_aload_n (ps_at tX2_putHabit_ok 14 rfl) rfl rfl ?_
  refine ps_iconst (x := 0) (ps_at tX2_putHabit_ok 15 rfl) (by decide) ?_
  refine ps_putZ (ps_at tX2_putHabit_ok 16 rfl) fpX2_48 sh_36 rfl (Or.inl rfl) ?_
  refine ps_iload (ps_at tX2_putHabit_ok 17 rfl) rfl ?_
  exact ps_iret (ps_at tX2_putHabit_ok 18 rfl) rfl ⟨rfl, rfl⟩ (h3)
theorem eX2_putHabit {d : Nat} {Q : Option ps_V → ps_S → Prop} {v1 : Int32} {v2 : Int32} {v3 : Int32} {σ : ps_S} (h : kX2_putHabit_0 d Q v1 v2 v3 σ) : ps_C mX2_putHabit d [.inr (.inr (36, 0)), .inl v1, .inl v2, .inl v3] σ Q := ps_enter (by decide) rfl ⟨rfl, rfl, rfl⟩ rfl (Nat.le_of_ble_eq_true rfl) h
abbrev kX2_putTimes_0 (d : Nat) (Q : Option ps_V → ps_S → Prop) (v1 : Int32) (v2 : Int32) (v3 : Int32) (v4 : Int32) (σ : ps_S) : Prop := ps_K mX2_putTimes d (ps_QF Q) 0 [some (.inr (.inr (36, 0))), some (.inl v1), some (.inl v2), some (.inl v3), some (.inl v4), none] [] σ
theorem bX2_putTimes_0 {d : Nat} {Q : Option ps_V → ps_S → Prop} {v1 : Int32} {v2 : Int32} {v3 : Int32} {v4 : Int32} {σ : ps_S} (h1 : vp_in v1 12) (h2 : vp_in ((v2 * 2) + v3) 12) (h3 : Q (some (.inl (σ 40 v1.toNatClampNeg ((v2 * 2) + v3).toNatClampNeg))) (ps_up (ps_up σ 40 v1.toNatClampNeg ((v2 * 2) + v3).toNatClampNeg v4) 36 0 10 0)) : kX2_putTimes_0 d Q v1 v2 v3 v4 σ := by
  refine ps_aload_n (ps_at tX2_putTimes_ok 0 rfl) rfl rfl ?_
  refine ps_getR (ps_at tX2_putTimes_ok 1 rfl) flX2_16 sh_36 rfl ?_
  refine ps_iload_n (ps_at tX2_putTimes_ok 2 rfl) rfl rfl ?_
  refine ps_aald0 (ps_at tX2_putTimes_ok 3 rfl) sh_39 (Or.inl rfl) (h1) ?_
  refine ps_iload_n (ps_at tX2_putTimes_ok 4 rfl) rfl rfl ?_
  refine ps_iconst (x := 2) (ps_at tX2_putTimes_ok 5 rfl) (by decide) ?_
  refine ps_imul (ps_at tX2_putTimes_ok 6 rfl) ?_
  refine ps_iload_n (ps_at tX2_putTimes_ok 7 rfl) rfl rfl ?_
  refine ps_iadd (ps_at tX2_putTimes_ok 8 rfl) ?_
  refine ps_iald (ps_at tX2_putTimes_ok 9 rfl) sh_40 (h2) ?_
  refine ps_istore (L' := [some (.inr (.inr (36, 0))), some (.inl v1), some (.inl v2), some (.inl v3), some (.inl v4), some (.inl (σ 40 v1.toNatClampNeg ((v2 * 2) + v3).toNatClampNeg))]) (ps_at tX2_putTimes_ok 10 rfl) (by decide) rfl ?_
  refine ps_aload_n (ps_at tX2_putTimes_ok 11 rfl) rfl rfl ?_
  refine ps_getR (ps_at tX2_putTimes_ok 12 rfl) flX2_16 sh_36 rfl ?_
  refine ps_iload_n (ps_at tX2_putTimes_ok 13 rfl) rfl rfl ?_
  refine ps_aald0 (ps_at tX2_putTimes_ok 14 rfl) sh_39 (Or.inl rfl) (h1) ?_
  refine ps_iload_n (ps_at tX2_putTimes_ok 15 rfl) rfl rfl ?_
  refine ps_iconst (x := 2) (ps_at tX2_putTimes_ok 16 rfl) (by decide) ?_
  refine ps_imul (ps_at tX2_putTimes_ok 17 rfl) ?_
  refine ps_iload_n (ps_at tX2_putTimes_ok 18 rfl) rfl rfl ?_
  refine ps_iadd (ps_at tX2_putTimes_ok 19 rfl) ?_
  refine ps_iload (ps_at tX2_putTimes_ok 20 rfl) rfl ?_
  refine ps_iast (ps_at tX2_putTimes_ok 21 rfl) sh_40 (h2) ?_
  refine ps_aload_n (ps_at tX2_putTimes_ok 22 rfl) rfl rfl ?_
  refine ps_iconst (x := 0) (ps_at tX2_putTimes_ok 23 rfl) (by decide) ?_
  refine ps_putZ (ps_at tX2_putTimes_ok 24 rfl) fpX2_48 sh_36 rfl (Or.inl rfl) ?_
  refine ps_iload (ps_at tX2_putTimes_ok 25 rfl) rfl ?_
  exact ps_iret (ps_at tX2_putTimes_ok 26 rfl) rfl ⟨rfl, rfl⟩ (h3)
theorem eX2_putTimes {d : Nat} {Q : Option ps_V → ps_S → Prop} {v1 : Int32} {v2 : Int32} {v3 : Int32} {v4 : Int32} {σ : ps_S} (h : kX2_putTimes_0 d Q v1 v2 v3 v4 σ) : ps_C mX2_putTimes d [.inr (.inr (36, 0)), .inl v1, .inl v2, .inl v3, .inl v4] σ Q := ps_enter (by decide) rfl ⟨rfl, rfl, rfl⟩ rfl (Nat.le_of_ble_eq_true rfl) h
abbrev kX2_putChange_0 (d : Nat) (Q : Option ps_V → ps_S → Prop) (v1 : Int32) (σ : ps_S) : Prop := ps_K mX2_putChange d (ps_QF Q) 0 [some (.inr (.inr (36, 0))), some (.inl v1), none] [] σ
theorem bX2_putChange_0 {d : Nat} {Q : Option ps_V → ps_S → Prop} {v1 : Int32} {σ : ps_S} (h1 : Q (some (.inl (σ 36 0 4))) (ps_up (ps_up σ 36 0 4 v1) 36 0 10 0)) : kX2_putChange_0 d Q v1 σ := by
  refine ps_aload_n (ps_at tX2_putChange_ok 0 rfl) rfl rfl ?_
  refine ps_getI (ps_at tX2_putChange_ok 1 rfl) flX2_26 sh_36 rfl ?_
  refine ps_istore_n (L' := [some (.inr (.inr (36, 0))), some (.inl v1), some (.inl (σ 36 0 4))]) (ps_at tX2_putChange_ok 2 rfl) rfl (by decide) rfl ?_
  refine ps_aload_n (ps_at tX2_putChange_ok 3 rfl) rfl rfl ?_
  refine ps_iload_n (ps_at tX2_putChange_ok 4 rfl) rfl rfl ?_
  refine ps_putI (ps_at tX2_putChange_ok 5 rfl) fpX2_26 sh_36 rfl ?_
  refine ps_aload_n (ps_at tX2_putChange_ok 6 rfl) rfl rfl ?_
  refine ps_iconst (x := 0) (ps_at tX2_putChange_ok 7 rfl) (by decide) ?_
  refine ps_putZ (ps_at tX2_putChange_ok 8 rfl) fpX2_48 sh_36 rfl (Or.inl rfl) ?_
  refine ps_iload_n (ps_at tX2_putChange_ok 9 rfl) rfl rfl ?_
  exact ps_iret (ps_at tX2_putChange_ok 10 rfl) rfl ⟨rfl, rfl⟩ (h1)
theorem eX2_putChange {d : Nat} {Q : Option ps_V → ps_S → Prop} {v1 : Int32} {σ : ps_S} (h : kX2_putChange_0 d Q v1 σ) : ps_C mX2_putChange d [.inr (.inr (36, 0)), .inl v1] σ Q := ps_enter (by decide) rfl ⟨rfl, rfl, rfl⟩ rfl (Nat.le_of_ble_eq_true rfl) h
abbrev kX2_bestCost_0 (d : Nat) (Q : Option ps_V → ps_S → Prop)  (σ : ps_S) : Prop := ps_K mX2_bestCost (d + 1) (ps_QF Q) 0 [some (.inr (.inr (36, 0)))] [] σ
abbrev kX2_bestCost_4 (d : Nat) (Q : Option ps_V → ps_S → Prop)  (σ : ps_S) : Prop := ps_K mX2_bestCost (d + 1) (ps_QF Q) 4 [some (.inr (.inr (36, 0)))] [] σ
theorem bX2_bestCost_0 {d : Nat} {Q : Option ps_V → ps_S → Prop}  {σ : ps_S} (h1 : ps_C mX2_solve d [.inr (.inr (36, 0))] σ (ps_rv (fun σ1 => kX2_bestCost_4 d Q σ1))) : kX2_bestCost_0 d Q σ := by
  refine ps_aload_n (ps_at tX2_bestCost_ok 0 rfl) rfl rfl ?_
  refine ps_callV (M2 := mX2_solve) (av := []) (rest := []) (ps_at tX2_bestCost_ok 1 rfl) cvX2_52 sh_36 rfl rfl (fun _ => Nat.le_of_ble_eq_true rfl) ?_
  refine ps_C.imp ?_ (h1)
  rintro _ σ1 ⟨rfl, hx⟩
  exact hx
theorem bX2_bestCost_4 {d : Nat} {Q : Option ps_V → ps_S → Prop}  {σ : ps_S} (h1 : Q (some (.inl (σ 36 0 9))) σ) : kX2_bestCost_4 d Q σ := by
  refine ps_aload_n (ps_at tX2_bestCost_ok 2 rfl) rfl rfl ?_
  refine ps_getI (ps_at tX2_bestCost_ok 3 rfl) flX2_55 sh_36 rfl ?_
  exact ps_iret (ps_at tX2_bestCost_ok 4 rfl) rfl ⟨rfl, rfl⟩ (h1)
theorem eX2_bestCost {d : Nat} {Q : Option ps_V → ps_S → Prop}  {σ : ps_S} (h : kX2_bestCost_0 d Q σ) : ps_C mX2_bestCost (d + 1) [.inr (.inr (36, 0))] σ Q := ps_enter (by decide) rfl ⟨rfl, rfl, rfl⟩ rfl (Nat.le_of_ble_eq_true rfl) h
abbrev kX2_bestWays_0 (d : Nat) (Q : Option ps_V → ps_S → Prop)  (σ : ps_S) : Prop := ps_K mX2_bestWays (d + 1) (ps_QF Q) 0 [some (.inr (.inr (36, 0))), none, none] [] σ
abbrev kX2_bestWays_4 (d : Nat) (Q : Option ps_V → ps_S → Prop)  (σ : ps_S) : Prop := ps_K mX2_bestWays (d + 1) (ps_QF Q) 4 [some (.inr (.inr (36, 0))), none, none] [] σ
abbrev kX2_bestWays_8 (d : Nat) (Q : Option ps_V → ps_S → Prop) (v1 : Int32) (v2 : Int32) (σ : ps_S) : Prop := ps_K mX2_bestWays (d + 1) (ps_QF Q) 8 [some (.inr (.inr (36, 0))), some (.inl v1), some (.inl v2)] [] σ
theorem bX2_bestWays_0 {d : Nat} {Q : Option ps_V → ps_S → Prop}  {σ : ps_S} (h1 : ps_C mX2_solve d [.inr (.inr (36, 0))] σ (ps_rv (fun σ1 => kX2_bestWays_4 d Q σ1))) : kX2_bestWays_0 d Q σ := by
  refine ps_aload_n (ps_at tX2_bestWays_ok 0 rfl) rfl rfl ?_
  refine ps_callV (M2 := mX2_solve) (av := []) (rest := []) (ps_at tX2_bestWays_ok 1 rfl) cvX2_52 sh_36 rfl rfl (fun _ => Nat.le_of_ble_eq_true rfl) ?_
  refine ps_C.imp ?_ (h1)
  rintro _ σ1 ⟨rfl, hx⟩
  exact hx
theorem bX2_bestWays_4 {d : Nat} {Q : Option ps_V → ps_S → Prop}  {σ : ps_S} (h1 : kX2_bestWays_8 d Q 0 0 σ) : kX2_bestWays_4 d Q σ := by
  refine ps_iconst (x := 0) (ps_at tX2_bestWays_ok 2 rfl) (by decide) ?_
  refine ps_istore_n (L' := [some (.inr (.inr (36, 0))), some (.inl 0), none]) (ps_at tX2_bestWays_ok 3 rfl) rfl (by decide) rfl ?_
  refine ps_iconst (x := 0) (ps_at tX2_bestWays_ok 4 rfl) (by decide) ?_
  refine ps_istore_n (L' := [some (.inr (.inr (36, 0))), some (.inl 0), some (.inl 0)]) (ps_at tX2_bestWays_ok 5 rfl) rfl (by decide) rfl ?_
  exact h1
theorem bX2_bestWays_8 {d : Nat} {Q : Option ps_V → ps_S → Prop} {v1 : Int32} {v2 : Int32} {σ : ps_S} (h1 : (σ 36 0 2) ≤ v2 → Q (some (.inl v1)) σ) (h2 : ¬ (σ 36 0 2) ≤ v2 → vp_in 0 12) (h3 : ¬ (σ 36 0 2) ≤ v2 → vp_in v2 4) (h4 : ¬ (σ 36 0 2) ≤ v2 → (jX2_isBest σ 0 v2) = 0 → kX2_bestWays_8 d Q v1 (v2 + 1) σ) (h5 : ¬ (σ 36 0 2) ≤ v2 → ¬ (jX2_isBest σ 0 v2) = 0 → kX2_bestWays_8 d Q (v1 + (σ 48 ((0 : Int32).toNatClampNeg) v2.toNatClampNeg)) (v2 + 1) σ) : kX2_bestWays_8 d Q v1 v2 σ := by
  refine ps_iload_n (ps_at tX2_bestWays_ok 6 rfl) rfl rfl ?_
  refine ps_aload_n (ps_at tX2_bestWays_ok 7 rfl) rfl rfl ?_
  refine ps_getI (ps_at tX2_bestWays_ok 8 rfl) flX2_19 sh_36 rfl ?_
  refine ps_icmp_ge (tgt := 42) (ps_at tX2_bestWays_ok 9 rfl) (by decide) (fun c0 => ?_) (fun c0 => ?_)
  · skip
    refine ps_iload_n (ps_at tX2_bestWays_ok 26 rfl) rfl rfl ?_
    exact ps_iret (ps_at tX2_bestWays_ok 27 rfl) rfl ⟨rfl, rfl⟩ (h1 c0)
  · skip
    refine ps_aload_n (ps_at tX2_bestWays_ok 10 rfl) rfl rfl ?_
    refine ps_iconst (x := 0) (ps_at tX2_bestWays_ok 11 rfl) (by decide) ?_
    refine ps_iload_n (ps_at tX2_bestWays_ok 12 rfl) rfl rfl ?_
    refine ps_callV (M2 := mX2_isBest) (av := [.inl 0, .inl v2]) (rest := []) (ps_at tX2_bestWays_ok 13 rfl) cvX2_58 sh_36 rfl rfl (fun _ => Nat.le_of_ble_eq_true rfl) (pX2_isBest (h2 c0) (h3 c0) ?_)
    refine ps_if_eq (tgt := 36) (ps_at tX2_bestWays_ok 14 rfl) (by decide) (fun c1 => ?_) (fun c1 => ?_)
    · skip
      refine ps_iinc (L' := [some (.inr (.inr (36, 0))), some (.inl v1), some (.inl (v2 + 1))]) (y := 1) (ps_at tX2_bestWays_ok 24 rfl) rfl (by decide) (by decide) rfl ?_
      refine ps_goto (tgt := 8) (ps_at tX2_bestWays_ok 25 rfl) (by decide) ?_
      exact h4 c0 c1
    · skip
      refine ps_iload_n (ps_at tX2_bestWays_ok 15 rfl) rfl rfl ?_
      refine ps_aload_n (ps_at tX2_bestWays_ok 16 rfl) rfl rfl ?_
      refine ps_getR (ps_at tX2_bestWays_ok 17 rfl) flX2_38 sh_36 rfl ?_
      refine ps_iconst (x := 0) (ps_at tX2_bestWays_ok 18 rfl) (by decide) ?_
      refine ps_aald0 (ps_at tX2_bestWays_ok 19 rfl) sh_47 (Or.inl rfl) (h2 c0) ?_
      refine ps_iload_n (ps_at tX2_bestWays_ok 20 rfl) rfl rfl ?_
      refine ps_iald (ps_at tX2_bestWays_ok 21 rfl) sh_48 (h3 c0) ?_
      refine ps_iadd (ps_at tX2_bestWays_ok 22 rfl) ?_
      refine ps_istore_n (L' := [some (.inr (.inr (36, 0))), some (.inl (v1 + (σ 48 ((0 : Int32).toNatClampNeg) v2.toNatClampNeg))), some (.inl v2)]) (ps_at tX2_bestWays_ok 23 rfl) rfl (by decide) rfl ?_
      refine ps_iinc (L' := [some (.inr (.inr (36, 0))), some (.inl (v1 + (σ 48 ((0 : Int32).toNatClampNeg) v2.toNatClampNeg))), some (.inl (v2 + 1))]) (y := 1) (ps_at tX2_bestWays_ok 24 rfl) rfl (by decide) (by decide) rfl ?_
      refine ps_goto (tgt := 8) (ps_at tX2_bestWays_ok 25 rfl) (by decide) ?_
      exact h5 c0 c1
theorem eX2_bestWays {d : Nat} {Q : Option ps_V → ps_S → Prop}  {σ : ps_S} (h : kX2_bestWays_0 d Q σ) : ps_C mX2_bestWays (d + 1) [.inr (.inr (36, 0))] σ Q := ps_enter (by decide) rfl ⟨rfl, rfl, rfl⟩ rfl (Nat.le_of_ble_eq_true rfl) h
abbrev kX2_bestMen_0 (d : Nat) (Q : Option ps_V → ps_S → Prop) (v1 : Int32) (σ : ps_S) : Prop := ps_K mX2_bestMen (d + 1) (ps_QF Q) 0 [some (.inr (.inr (36, 0))), some (.inl v1), none, none] [] σ
abbrev kX2_bestMen_4 (d : Nat) (Q : Option ps_V → ps_S → Prop) (v1 : Int32) (σ : ps_S) : Prop := ps_K mX2_bestMen (d + 1) (ps_QF Q) 4 [some (.inr (.inr (36, 0))), some (.inl v1), none, none] [] σ
abbrev kX2_bestMen_8 (d : Nat) (Q : Option ps_V → ps_S → Prop) (v1 : Int32) (v2 : Int32) (v3 : Int32) (σ : ps_S) : Prop := ps_K mX2_bestMen (d + 1) (ps_QF Q) 8 [some (.inr (.inr (36, 0))), some (.inl v1), some (.inl v2), some (.inl v3)] [] σ
theorem bX2_bestMen_0 {d : Nat} {Q : Option ps_V → ps_S → Prop} {v1 : Int32} {σ : ps_S} (h1 : ps_C mX2_solve d [.inr (.inr (36, 0))] σ (ps_rv (fun σ1 => kX2_bestMen_4 d Q v1 σ1))) : kX2_bestMen_0 d Q v1 σ := by
  refine ps_aload_n (ps_at tX2_bestMen_ok 0 rfl) rfl rfl ?_
  refine ps_callV (M2 := mX2_solve) (av := []) (rest := []) (ps_at tX2_bestMen_ok 1 rfl) cvX2_52 sh_36 rfl rfl (fun _ => Nat.le_of_ble_eq_true rfl) ?_
  refine ps_C.imp ?_ (h1)
  rintro _ σ1 ⟨rfl, hx⟩
  exact hx
theorem bX2_bestMen_4 {d : Nat} {Q : Option ps_V → ps_S → Prop} {v1 : Int32} {σ : ps_S} (h1 : kX2_bestMen_8 d Q v1 0 0 σ) : kX2_bestMen_4 d Q v1 σ := by
  refine ps_iconst (x := 0) (ps_at tX2_bestMen_ok 2 rfl) (by decide) ?_
  refine ps_istore_n (L' := [some (.inr (.inr (36, 0))), some (.inl v1), some (.inl 0), none]) (ps_at tX2_bestMen_ok 3 rfl) rfl (by decide) rfl ?_
  refine ps_iconst (x := 0) (ps_at tX2_bestMen_ok 4 rfl) (by decide) ?_
  refine ps_istore_n (L' := [some (.inr (.inr (36, 0))), some (.inl v1), some (.inl 0), some (.inl 0)]) (ps_at tX2_bestMen_ok 5 rfl) rfl (by decide) rfl ?_
  exact h1
theorem bX2_bestMen_8 {d : Nat} {Q : Option ps_V → ps_S → Prop} {v1 : Int32} {v2 : Int32} {v3 : Int32} {σ : ps_S} (h1 : (σ 36 0 2) ≤ v3 → Q (some (.inl v2)) σ) (h2 : ¬ (σ 36 0 2) ≤ v3 → vp_in v1 12) (h3 : ¬ (σ 36 0 2) ≤ v3 → vp_in v3 4) (h4 : ¬ (σ 36 0 2) ≤ v3 → (jX2_isBest σ v1 v3) = 0 → kX2_bestMen_8 d Q v1 v2 (v3 + 1) σ) (h5 : ¬ (σ 36 0 2) ≤ v3 → ¬ (jX2_isBest σ v1 v3) = 0 → kX2_bestMen_8 d Q v1 (v2 + 1) (v3 + 1) σ) : kX2_bestMen_8 d Q v1 v2 v3 σ := by
  refine ps_iload_n (ps_at tX2_bestMen_ok 6 rfl) rfl rfl ?_
  refine ps_aload_n (ps_at tX2_bestMen_ok 7 rfl) rfl rfl ?_
  refine ps_getI (ps_at tX2_bestMen_ok 8 rfl) flX2_19 sh_36 rfl ?_
  refine ps_icmp_ge (tgt := 34) (ps_at tX2_bestMen_ok 9 rfl) (by decide) (fun c0 => ?_) (fun c0 => ?_)
  · skip
    refine ps_iload_n (ps_at tX2_bestMen_ok 18 rfl) rfl rfl ?_
    exact ps_iret (ps_at tX2_bestMen_ok 19 rfl) rfl ⟨rfl, rfl⟩ (h1 c0)
  · skip
    refine ps_aload_n (ps_at tX2_bestMen_ok 10 rfl) rfl rfl ?_
    refine ps_iload_n (ps_at tX2_bestMen_ok 11 rfl) rfl rfl ?_
    refine ps_iload_n (ps_at tX2_bestMen_ok 12 rfl) rfl rfl ?_
    refine ps_callV (M2 := mX2_isBest) (av := [.inl v1, .inl v3]) (rest := []) (ps_at tX2_bestMen_ok 13 rfl) cvX2_58 sh_36 rfl rfl (fun _ => Nat.le_of_ble_eq_true rfl) (pX2_isBest (h2 c0) (h3 c0) ?_)
    refine ps_if_eq (tgt := 28) (ps_at tX2_bestMen_ok 14 rfl) (by decide) (fun c1 => ?_) (fun c1 => ?_)
    · skip
      refine ps_iinc (L' := [some (.inr (.inr (36, 0))), some (.inl v1), some (.inl v2), some (.inl (v3 + 1))]) (y := 1) (ps_at tX2_bestMen_ok 16 rfl) rfl (by decide) (by decide) rfl ?_
      refine ps_goto (tgt := 8) (ps_at tX2_bestMen_ok 17 rfl) (by decide) ?_
      exact h4 c0 c1
    · skip
      refine ps_iinc (L' := [some (.inr (.inr (36, 0))), some (.inl v1), some (.inl (v2 + 1)), some (.inl v3)]) (y := 1) (ps_at tX2_bestMen_ok 15 rfl) rfl (by decide) (by decide) rfl ?_
      refine ps_iinc (L' := [some (.inr (.inr (36, 0))), some (.inl v1), some (.inl (v2 + 1)), some (.inl (v3 + 1))]) (y := 1) (ps_at tX2_bestMen_ok 16 rfl) rfl (by decide) (by decide) rfl ?_
      refine ps_goto (tgt := 8) (ps_at tX2_bestMen_ok 17 rfl) (by decide) ?_
      exact h5 c0 c1
theorem eX2_bestMen {d : Nat} {Q : Option ps_V → ps_S → Prop} {v1 : Int32} {σ : ps_S} (h : kX2_bestMen_0 d Q v1 σ) : ps_C mX2_bestMen (d + 1) [.inr (.inr (36, 0)), .inl v1] σ Q := ps_enter (by decide) rfl ⟨rfl, rfl, rfl⟩ rfl (Nat.le_of_ble_eq_true rfl) h
abbrev kX2_firstMan_0 (d : Nat) (Q : Option ps_V → ps_S → Prop) (v1 : Int32) (σ : ps_S) : Prop := ps_K mX2_firstMan (d + 1) (ps_QF Q) 0 [some (.inr (.inr (36, 0))), some (.inl v1), none, none] [] σ
abbrev kX2_firstMan_4 (d : Nat) (Q : Option ps_V → ps_S → Prop) (v1 : Int32) (σ : ps_S) : Prop := ps_K mX2_firstMan (d + 1) (ps_QF Q) 4 [some (.inr (.inr (36, 0))), some (.inl v1), none, none] [] σ
abbrev kX2_firstMan_8 (d : Nat) (Q : Option ps_V → ps_S → Prop) (v1 : Int32) (s0 : Int32) (σ : ps_S) : Prop := ps_K mX2_firstMan (d + 1) (ps_QF Q) 8 [some (.inr (.inr (36, 0))), some (.inl v1), none, none] [.inl s0] σ
abbrev kX2_firstMan_11 (d : Nat) (Q : Option ps_V → ps_S → Prop) (v1 : Int32) (v2 : Int32) (v3 : Int32) (σ : ps_S) : Prop := ps_K mX2_firstMan (d + 1) (ps_QF Q) 11 [some (.inr (.inr (36, 0))), some (.inl v1), some (.inl v2), some (.inl v3)] [] σ
abbrev kX2_firstMan_22 (d : Nat) (Q : Option ps_V → ps_S → Prop) (v1 : Int32) (v3 : Int32) (s0 : Int32) (σ : ps_S) : Prop := ps_K mX2_firstMan (d + 1) (ps_QF Q) 22 [some (.inr (.inr (36, 0))), some (.inl v1), none, some (.inl v3)] [.inl s0] σ
theorem bX2_firstMan_0 {d : Nat} {Q : Option ps_V → ps_S → Prop} {v1 : Int32} {σ : ps_S} (h1 : ps_C mX2_solve d [.inr (.inr (36, 0))] σ (ps_rv (fun σ1 => kX2_firstMan_4 d Q v1 σ1))) : kX2_firstMan_0 d Q v1 σ := by
  refine ps_aload_n (ps_at tX2_firstMan_ok 0 rfl) rfl rfl ?_
  refine ps_callV (M2 := mX2_solve) (av := []) (rest := []) (ps_at tX2_firstMan_ok 1 rfl) cvX2_52 sh_36 rfl rfl (fun _ => Nat.le_of_ble_eq_true rfl) ?_
  refine ps_C.imp ?_ (h1)
  rintro _ σ1 ⟨rfl, hx⟩
  exact hx
theorem bX2_firstMan_4 {d : Nat} {Q : Option ps_V → ps_S → Prop} {v1 : Int32} {σ : ps_S} (h1 : ps_C mX2_leastBestMan d [.inr (.inr (36, 0))] σ (ps_ri (fun x σ1 => kX2_firstMan_8 d Q v1 x σ1))) : kX2_firstMan_4 d Q v1 σ := by
  refine ps_aload_n (ps_at tX2_firstMan_ok 2 rfl) rfl rfl ?_
  refine ps_callV (M2 := mX2_leastBestMan) (av := []) (rest := []) (ps_at tX2_firstMan_ok 3 rfl) cvX2_62 sh_36 rfl rfl (fun _ => Nat.le_of_ble_eq_true rfl) ?_
  refine ps_C.imp ?_ (h1)
  rintro _ σ1 ⟨x, rfl, hx⟩
  exact hx
theorem bX2_firstMan_8 {d : Nat} {Q : Option ps_V → ps_S → Prop} {v1 : Int32} {s0 : Int32} {σ : ps_S} (h1 : kX2_firstMan_11 d Q v1 s0 0 σ) : kX2_firstMan_8 d Q v1 s0 σ := by
  refine ps_istore_n (L' := [some (.inr (.inr (36, 0))), some (.inl v1), some (.inl s0), none]) (ps_at tX2_firstMan_ok 4 rfl) rfl (by decide) rfl ?_
  refine ps_iconst (x := 0) (ps_at tX2_firstMan_ok 5 rfl) (by decide) ?_
  refine ps_istore_n (L' := [some (.inr (.inr (36, 0))), some (.inl v1), some (.inl s0), some (.inl 0)]) (ps_at tX2_firstMan_ok 6 rfl) rfl (by decide) rfl ?_
  exact h1
theorem bX2_firstMan_11 {d : Nat} {Q : Option ps_V → ps_S → Prop} {v1 : Int32} {v2 : Int32} {v3 : Int32} {σ : ps_S} (h1 : v1 ≤ v3 → Q (some (.inl v2)) σ) (h2 : ¬ v1 ≤ v3 → ps_C mX2_nextMan d [.inr (.inr (36, 0)), .inl v3, .inl v2] σ (ps_ri (fun x σ1 => kX2_firstMan_22 d Q v1 v3 x σ1))) : kX2_firstMan_11 d Q v1 v2 v3 σ := by
  refine ps_iload_n (ps_at tX2_firstMan_ok 7 rfl) rfl rfl ?_
  refine ps_iload_n (ps_at tX2_firstMan_ok 8 rfl) rfl rfl ?_
  refine ps_icmp_ge (tgt := 29) (ps_at tX2_firstMan_ok 9 rfl) (by decide) (fun c0 => ?_) (fun c0 => ?_)
  · skip
    refine ps_iload_n (ps_at tX2_firstMan_ok 17 rfl) rfl rfl ?_
    exact ps_iret (ps_at tX2_firstMan_ok 18 rfl) rfl ⟨rfl, rfl⟩ (h1 c0)
  · skip
    refine ps_aload_n (ps_at tX2_firstMan_ok 10 rfl) rfl rfl ?_
    refine ps_iload_n (ps_at tX2_firstMan_ok 11 rfl) rfl rfl ?_
    refine ps_iload_n (ps_at tX2_firstMan_ok 12 rfl) rfl rfl ?_
    refine ps_callV (M2 := mX2_nextMan) (av := [.inl v3, .inl v2]) (rest := []) (ps_at tX2_firstMan_ok 13 rfl) cvX2_66 sh_36 rfl rfl (fun _ => Nat.le_of_ble_eq_true rfl) ?_
    refine ps_C.imp ?_ (h2 c0)
    rintro _ σ1 ⟨x, rfl, hx⟩
    exact ps_forget (L' := [some (.inr (.inr (36, 0))), some (.inl v1), none, some (.inl v3)]) (And.intro rfl (And.intro rfl (And.intro rfl trivial))) hx
theorem bX2_firstMan_22 {d : Nat} {Q : Option ps_V → ps_S → Prop} {v1 : Int32} {v3 : Int32} {s0 : Int32} {σ : ps_S} (h1 : kX2_firstMan_11 d Q v1 s0 (v3 + 1) σ) : kX2_firstMan_22 d Q v1 v3 s0 σ := by
  refine ps_istore_n (L' := [some (.inr (.inr (36, 0))), some (.inl v1), some (.inl s0), some (.inl v3)]) (ps_at tX2_firstMan_ok 14 rfl) rfl (by decide) rfl ?_
  refine ps_iinc (L' := [some (.inr (.inr (36, 0))), some (.inl v1), some (.inl s0), some (.inl (v3 + 1))]) (y := 1) (ps_at tX2_firstMan_ok 15 rfl) rfl (by decide) (by decide) rfl ?_
  refine ps_goto (tgt := 11) (ps_at tX2_firstMan_ok 16 rfl) (by decide) ?_
  exact h1
theorem eX2_firstMan {d : Nat} {Q : Option ps_V → ps_S → Prop} {v1 : Int32} {σ : ps_S} (h : kX2_firstMan_0 d Q v1 σ) : ps_C mX2_firstMan (d + 1) [.inr (.inr (36, 0)), .inl v1] σ Q := ps_enter (by decide) rfl ⟨rfl, rfl, rfl⟩ rfl (Nat.le_of_ble_eq_true rfl) h
abbrev kX2_leastBestMan_0 (d : Nat) (Q : Option ps_V → ps_S → Prop)  (σ : ps_S) : Prop := ps_K mX2_leastBestMan (d + 1) (ps_QF Q) 0 [some (.inr (.inr (36, 0))), none] [] σ
abbrev kX2_leastBestMan_2 (d : Nat) (Q : Option ps_V → ps_S → Prop) (v1 : Int32) (σ : ps_S) : Prop := ps_K mX2_leastBestMan (d + 1) (ps_QF Q) 2 [some (.inr (.inr (36, 0))), some (.inl v1)] [] σ
theorem bX2_leastBestMan_0 {d : Nat} {Q : Option ps_V → ps_S → Prop}  {σ : ps_S} (h1 : kX2_leastBestMan_2 d Q 0 σ) : kX2_leastBestMan_0 d Q σ := by
  refine ps_iconst (x := 0) (ps_at tX2_leastBestMan_ok 0 rfl) (by decide) ?_
  refine ps_istore_n (L' := [some (.inr (.inr (36, 0))), some (.inl 0)]) (ps_at tX2_leastBestMan_ok 1 rfl) rfl (by decide) rfl ?_
  exact h1
theorem bX2_leastBestMan_2 {d : Nat} {Q : Option ps_V → ps_S → Prop} {v1 : Int32} {σ : ps_S} (h1 : ((σ 36 0 2) - 1) ≤ v1 → Q (some (.inl ((σ 36 0 2) - 1))) σ) (h2 : ¬ ((σ 36 0 2) - 1) ≤ v1 → vp_in 0 12) (h3 : ¬ ((σ 36 0 2) - 1) ≤ v1 → vp_in v1 4) (h4 : ¬ ((σ 36 0 2) - 1) ≤ v1 → (jX2_isBest σ 0 v1) = 0 → kX2_leastBestMan_2 d Q (v1 + 1) σ) (h5 : ¬ ((σ 36 0 2) - 1) ≤ v1 → ¬ (jX2_isBest σ 0 v1) = 0 → Q (some (.inl v1)) σ) : kX2_leastBestMan_2 d Q v1 σ := by
  refine ps_iload_n (ps_at tX2_leastBestMan_ok 2 rfl) rfl rfl ?_
  refine ps_aload_n (ps_at tX2_leastBestMan_ok 3 rfl) rfl rfl ?_
  refine ps_getI (ps_at tX2_leastBestMan_ok 4 rfl) flX2_19 sh_36 rfl ?_
  refine ps_iconst (x := 1) (ps_at tX2_leastBestMan_ok 5 rfl) (by decide) ?_
  refine ps_isub (ps_at tX2_leastBestMan_ok 6 rfl) ?_
  refine ps_icmp_ge (tgt := 29) (ps_at tX2_leastBestMan_ok 7 rfl) (by decide) (fun c0 => ?_) (fun c0 => ?_)
  · skip
    refine ps_aload_n (ps_at tX2_leastBestMan_ok 17 rfl) rfl rfl ?_
    refine ps_getI (ps_at tX2_leastBestMan_ok 18 rfl) flX2_19 sh_36 rfl ?_
    refine ps_iconst (x := 1) (ps_at tX2_leastBestMan_ok 19 rfl) (by decide) ?_
    refine ps_isub (ps_at tX2_leastBestMan_ok 20 rfl) ?_
    exact ps_iret (ps_at tX2_leastBestMan_ok 21 rfl) rfl ⟨rfl, rfl⟩ (h1 c0)
  · skip
    refine ps_aload_n (ps_at tX2_leastBestMan_ok 8 rfl) rfl rfl ?_
    refine ps_iconst (x := 0) (ps_at tX2_leastBestMan_ok 9 rfl) (by decide) ?_
    refine ps_iload_n (ps_at tX2_leastBestMan_ok 10 rfl) rfl rfl ?_
    refine ps_callV (M2 := mX2_isBest) (av := [.inl 0, .inl v1]) (rest := []) (ps_at tX2_leastBestMan_ok 11 rfl) cvX2_58 sh_36 rfl rfl (fun _ => Nat.le_of_ble_eq_true rfl) (pX2_isBest (h2 c0) (h3 c0) ?_)
    refine ps_if_eq (tgt := 23) (ps_at tX2_leastBestMan_ok 12 rfl) (by decide) (fun c1 => ?_) (fun c1 => ?_)
    · skip
      refine ps_iinc (L' := [some (.inr (.inr (36, 0))), some (.inl (v1 + 1))]) (y := 1) (ps_at tX2_leastBestMan_ok 15 rfl) rfl (by decide) (by decide) rfl ?_
      refine ps_goto (tgt := 2) (ps_at tX2_leastBestMan_ok 16 rfl) (by decide) ?_
      exact h4 c0 c1
    · skip
      refine ps_iload_n (ps_at tX2_leastBestMan_ok 13 rfl) rfl rfl ?_
      exact ps_iret (ps_at tX2_leastBestMan_ok 14 rfl) rfl ⟨rfl, rfl⟩ (h5 c0 c1)
theorem eX2_leastBestMan {d : Nat} {Q : Option ps_V → ps_S → Prop}  {σ : ps_S} (h : kX2_leastBestMan_0 d Q σ) : ps_C mX2_leastBestMan (d + 1) [.inr (.inr (36, 0))] σ Q := ps_enter (by decide) rfl ⟨rfl, rfl, rfl⟩ rfl (Nat.le_of_ble_eq_true rfl) h
abbrev kX2_nextMan_0 (d : Nat) (Q : Option ps_V → ps_S → Prop) (v1 : Int32) (v2 : Int32) (σ : ps_S) : Prop := ps_K mX2_nextMan (d + 2) (ps_QF Q) 0 [some (.inr (.inr (36, 0))), some (.inl v1), some (.inl v2), none] [] σ
abbrev kX2_nextMan_2 (d : Nat) (Q : Option ps_V → ps_S → Prop) (v1 : Int32) (v2 : Int32) (v3 : Int32) (σ : ps_S) : Prop := ps_K mX2_nextMan (d + 2) (ps_QF Q) 2 [some (.inr (.inr (36, 0))), some (.inl v1), some (.inl v2), some (.inl v3)] [] σ
theorem bX2_nextMan_0 {d : Nat} {Q : Option ps_V → ps_S → Prop} {v1 : Int32} {v2 : Int32} {σ : ps_S} (h1 : kX2_nextMan_2 d Q v1 v2 0 σ) : kX2_nextMan_0 d Q v1 v2 σ := by
  refine ps_iconst (x := 0) (ps_at tX2_nextMan_ok 0 rfl) (by decide) ?_
  refine ps_istore_n (L' := [some (.inr (.inr (36, 0))), some (.inl v1), some (.inl v2), some (.inl 0)]) (ps_at tX2_nextMan_ok 1 rfl) rfl (by decide) rfl ?_
  exact h1
theorem bX2_nextMan_2 {d : Nat} {Q : Option ps_V → ps_S → Prop} {v1 : Int32} {v2 : Int32} {v3 : Int32} {σ : ps_S} (h1 : ((σ 36 0 2) - 1) ≤ v3 → Q (some (.inl ((σ 36 0 2) - 1))) σ) (h2 : ¬ ((σ 36 0 2) - 1) ≤ v3 → vp_in (v1 + 1) 12) (h3 : ¬ ((σ 36 0 2) - 1) ≤ v3 → vp_in v3 4) (h4 : ¬ ((σ 36 0 2) - 1) ≤ v3 → vp_in v1 12) (h5 : ¬ ((σ 36 0 2) - 1) ≤ v3 → vp_in v2 4) (h6 : ¬ ((σ 36 0 2) - 1) ≤ v3 → ¬ (jX2_costThrough σ v1 v2 v3) = (σ 46 v1.toNatClampNeg v2.toNatClampNeg) → kX2_nextMan_2 d Q v1 v2 (v3 + 1) σ) (h7 : ¬ ((σ 36 0 2) - 1) ≤ v3 → (jX2_costThrough σ v1 v2 v3) = (σ 46 v1.toNatClampNeg v2.toNatClampNeg) → Q (some (.inl v3)) σ) : kX2_nextMan_2 d Q v1 v2 v3 σ := by
  refine ps_iload_n (ps_at tX2_nextMan_ok 2 rfl) rfl rfl ?_
  refine ps_aload_n (ps_at tX2_nextMan_ok 3 rfl) rfl rfl ?_
  refine ps_getI (ps_at tX2_nextMan_ok 4 rfl) flX2_19 sh_36 rfl ?_
  refine ps_iconst (x := 1) (ps_at tX2_nextMan_ok 5 rfl) (by decide) ?_
  refine ps_isub (ps_at tX2_nextMan_ok 6 rfl) ?_
  refine ps_icmp_ge (tgt := 38) (ps_at tX2_nextMan_ok 7 rfl) (by decide) (fun c0 => ?_) (fun c0 => ?_)
  · skip
    refine ps_aload_n (ps_at tX2_nextMan_ok 24 rfl) rfl rfl ?_
    refine ps_getI (ps_at tX2_nextMan_ok 25 rfl) flX2_19 sh_36 rfl ?_
    refine ps_iconst (x := 1) (ps_at tX2_nextMan_ok 26 rfl) (by decide) ?_
    refine ps_isub (ps_at tX2_nextMan_ok 27 rfl) ?_
    exact ps_iret (ps_at tX2_nextMan_ok 28 rfl) rfl ⟨rfl, rfl⟩ (h1 c0)
  · skip
    refine ps_aload_n (ps_at tX2_nextMan_ok 8 rfl) rfl rfl ?_
    refine ps_iload_n (ps_at tX2_nextMan_ok 9 rfl) rfl rfl ?_
    refine ps_iload_n (ps_at tX2_nextMan_ok 10 rfl) rfl rfl ?_
    refine ps_iload_n (ps_at tX2_nextMan_ok 11 rfl) rfl rfl ?_
    refine ps_callV (M2 := mX2_costThrough) (av := [.inl v1, .inl v2, .inl v3]) (rest := []) (ps_at tX2_nextMan_ok 12 rfl) cvX2_70 sh_36 rfl rfl (fun _ => Nat.le_of_ble_eq_true rfl) (pX2_costThrough (h2 c0) (h3 c0) ?_)
    refine ps_aload_n (ps_at tX2_nextMan_ok 13 rfl) rfl rfl ?_
    refine ps_getR (ps_at tX2_nextMan_ok 14 rfl) flX2_35 sh_36 rfl ?_
    refine ps_iload_n (ps_at tX2_nextMan_ok 15 rfl) rfl rfl ?_
    refine ps_aald0 (ps_at tX2_nextMan_ok 16 rfl) sh_45 (Or.inl rfl) (h4 c0) ?_
    refine ps_iload_n (ps_at tX2_nextMan_ok 17 rfl) rfl rfl ?_
    refine ps_iald (ps_at tX2_nextMan_ok 18 rfl) sh_46 (h5 c0) ?_
    refine ps_icmp_ne (tgt := 32) (ps_at tX2_nextMan_ok 19 rfl) (by decide) (fun c1 => ?_) (fun c1 => ?_)
    · skip
      refine ps_iinc (L' := [some (.inr (.inr (36, 0))), some (.inl v1), some (.inl v2), some (.inl (v3 + 1))]) (y := 1) (ps_at tX2_nextMan_ok 22 rfl) rfl (by decide) (by decide) rfl ?_
      refine ps_goto (tgt := 2) (ps_at tX2_nextMan_ok 23 rfl) (by decide) ?_
      exact h6 c0 c1
    · skip
      refine ps_iload_n (ps_at tX2_nextMan_ok 20 rfl) rfl rfl ?_
      exact ps_iret (ps_at tX2_nextMan_ok 21 rfl) rfl ⟨rfl, rfl⟩ (h7 c0 c1)
theorem eX2_nextMan {d : Nat} {Q : Option ps_V → ps_S → Prop} {v1 : Int32} {v2 : Int32} {σ : ps_S} (h : kX2_nextMan_0 d Q v1 v2 σ) : ps_C mX2_nextMan (d + 2) [.inr (.inr (36, 0)), .inl v1, .inl v2] σ Q := ps_enter (by decide) rfl ⟨rfl, rfl, rfl⟩ rfl (Nat.le_of_ble_eq_true rfl) h
abbrev kX2_solve_0 (d : Nat) (Q : Option ps_V → ps_S → Prop)  (σ : ps_S) : Prop := ps_K mX2_solve (d + 1) (ps_QF Q) 0 [some (.inr (.inr (36, 0))), none, none] [] σ
abbrev kX2_solve_10 (d : Nat) (Q : Option ps_V → ps_S → Prop) (v1 : Int32) (σ : ps_S) : Prop := ps_K mX2_solve (d + 1) (ps_QF Q) 10 [some (.inr (.inr (36, 0))), some (.inl v1), none] [] σ
abbrev kX2_solve_92 (d : Nat) (Q : Option ps_V → ps_S → Prop) (v1 : Int32) (σ : ps_S) : Prop := ps_K mX2_solve (d + 1) (ps_QF Q) 92 [some (.inr (.inr (36, 0))), some (.inl v1), none] [] σ
abbrev kX2_solve_20 (d : Nat) (Q : Option ps_V → ps_S → Prop) (v1 : Int32) (v2 : Int32) (σ : ps_S) : Prop := ps_K mX2_solve (d + 1) (ps_QF Q) 20 [some (.inr (.inr (36, 0))), some (.inl v1), some (.inl v2)] [] σ
abbrev kX2_solve_135 (d : Nat) (Q : Option ps_V → ps_S → Prop) (s0 : Int32) (σ : ps_S) : Prop := ps_K mX2_solve (d + 1) (ps_QF Q) 135 [some (.inr (.inr (36, 0))), none, none] [.inl s0, .inr (.inr (36, 0))] σ
abbrev kX2_solve_98 (d : Nat) (Q : Option ps_V → ps_S → Prop) (v1 : Int32) (v2 : Int32) (σ : ps_S) : Prop := ps_K mX2_solve (d + 1) (ps_QF Q) 98 [some (.inr (.inr (36, 0))), some (.inl v1), some (.inl v2)] [] σ
abbrev kX2_solve_71 (d : Nat) (Q : Option ps_V → ps_S → Prop) (v1 : Int32) (v2 : Int32) (s0 : Int32) (s1 : Int32) (s2 : Int32) (j3 : Nat) (σ : ps_S) : Prop := ps_K mX2_solve (d + 1) (ps_QF Q) 71 [some (.inr (.inr (36, 0))), some (.inl v1), some (.inl v2)] [.inl s0, .inl s1, .inl s2, .inr (.inr (44, j3))] σ
abbrev kX2_solve_112 (d : Nat) (Q : Option ps_V → ps_S → Prop) (v1 : Int32) (v2 : Int32) (σ : ps_S) : Prop := ps_K mX2_solve (d + 1) (ps_QF Q) 112 [some (.inr (.inr (36, 0))), some (.inl v1), some (.inl v2)] [] σ
theorem bX2_solve_0 {d : Nat} {Q : Option ps_V → ps_S → Prop}  {σ : ps_S} (h1 : (σ 36 0 10) = 0 → kX2_solve_10 d Q 0 σ) (h2 : ¬ (σ 36 0 10) = 0 → Q none σ) : kX2_solve_0 d Q σ := by
  refine ps_aload_n (ps_at tX2_solve_ok 0 rfl) rfl rfl ?_
  refine ps_getI (ps_at tX2_solve_ok 1 rfl) flX2_48 sh_36 rfl ?_
  refine ps_if_eq (tgt := 8) (ps_at tX2_solve_ok 2 rfl) (by decide) (fun c0 => ?_) (fun c0 => ?_)
  · skip
    refine ps_iconst (x := 0) (ps_at tX2_solve_ok 4 rfl) (by decide) ?_
    refine ps_istore_n (L' := [some (.inr (.inr (36, 0))), some (.inl 0), none]) (ps_at tX2_solve_ok 5 rfl) rfl (by decide) rfl ?_
    exact h1 c0
  · skip
    exact ps_vret (ps_at tX2_solve_ok 3 rfl) rfl ⟨rfl, rfl⟩ (h2 c0)
theorem bX2_solve_10 {d : Nat} {Q : Option ps_V → ps_S → Prop} {v1 : Int32} {σ : ps_S} (h1 : (σ 36 0 3) ≤ v1 → kX2_solve_92 d Q ((σ 36 0 3) - 1) σ) (h2 : ¬ (σ 36 0 3) ≤ v1 → kX2_solve_20 d Q v1 0 σ) : kX2_solve_10 d Q v1 σ := by
  refine ps_iload_n (ps_at tX2_solve_ok 6 rfl) rfl rfl ?_
  refine ps_aload_n (ps_at tX2_solve_ok 7 rfl) rfl rfl ?_
  refine ps_getI (ps_at tX2_solve_ok 8 rfl) flX2_23 sh_36 rfl ?_
  refine ps_icmp_ge (tgt := 85) (ps_at tX2_solve_ok 9 rfl) (by decide) (fun c0 => ?_) (fun c0 => ?_)
  · skip
    refine ps_aload_n (ps_at tX2_solve_ok 51 rfl) rfl rfl ?_
    refine ps_getI (ps_at tX2_solve_ok 52 rfl) flX2_23 sh_36 rfl ?_
    refine ps_iconst (x := 1) (ps_at tX2_solve_ok 53 rfl) (by decide) ?_
    refine ps_isub (ps_at tX2_solve_ok 54 rfl) ?_
    refine ps_istore_n (L' := [some (.inr (.inr (36, 0))), some (.inl ((σ 36 0 3) - 1)), none]) (ps_at tX2_solve_ok 55 rfl) rfl (by decide) rfl ?_
    exact h1 c0
  · skip
    refine ps_iconst (x := 0) (ps_at tX2_solve_ok 10 rfl) (by decide) ?_
    refine ps_istore_n (L' := [some (.inr (.inr (36, 0))), some (.inl v1), some (.inl 0)]) (ps_at tX2_solve_ok 11 rfl) rfl (by decide) rfl ?_
    exact h2 c0
theorem bX2_solve_92 {d : Nat} {Q : Option ps_V → ps_S → Prop} {v1 : Int32} {σ : ps_S} (h1 : v1 < 0 → ps_C mX2_leastUpTo d [.inr (.inr (36, 0)), .inl ((σ 36 0 3) - 1)] σ (ps_ri (fun x σ1 => kX2_solve_135 d Q x σ1))) (h2 : ¬ v1 < 0 → kX2_solve_98 d Q v1 0 σ) : kX2_solve_92 d Q v1 σ := by
  refine ps_iload_n (ps_at tX2_solve_ok 56 rfl) rfl rfl ?_
  refine ps_if_lt (tgt := 124) (ps_at tX2_solve_ok 57 rfl) (by decide) (fun c0 => ?_) (fun c0 => ?_)
  · skip
    refine ps_aload_n (ps_at tX2_solve_ok 72 rfl) rfl rfl ?_
    refine ps_aload_n (ps_at tX2_solve_ok 73 rfl) rfl rfl ?_
    refine ps_aload_n (ps_at tX2_solve_ok 74 rfl) rfl rfl ?_
    refine ps_getI (ps_at tX2_solve_ok 75 rfl) flX2_23 sh_36 rfl ?_
    refine ps_iconst (x := 1) (ps_at tX2_solve_ok 76 rfl) (by decide) ?_
    refine ps_isub (ps_at tX2_solve_ok 77 rfl) ?_
    refine ps_callV (M2 := mX2_leastUpTo) (av := [.inl ((σ 36 0 3) - 1)]) (rest := [.inr (.inr (36, 0))]) (ps_at tX2_solve_ok 78 rfl) cvX2_87 sh_36 rfl rfl (fun _ => Nat.le_of_ble_eq_true rfl) ?_
    refine ps_C.imp ?_ (h1 c0)
    rintro _ σ1 ⟨x, rfl, hx⟩
    exact ps_forget (L' := [some (.inr (.inr (36, 0))), none, none]) (And.intro rfl trivial) hx
  · skip
    refine ps_iconst (x := 0) (ps_at tX2_solve_ok 58 rfl) (by decide) ?_
    refine ps_istore_n (L' := [some (.inr (.inr (36, 0))), some (.inl v1), some (.inl 0)]) (ps_at tX2_solve_ok 59 rfl) rfl (by decide) rfl ?_
    exact h2 c0
theorem bX2_solve_20 {d : Nat} {Q : Option ps_V → ps_S → Prop} {v1 : Int32} {v2 : Int32} {σ : ps_S} (h1 : (σ 36 0 2) ≤ v2 → kX2_solve_10 d Q (v1 + 1) σ) (h2 : ¬ (σ 36 0 2) ≤ v2 → vp_in v1 12) (h3 : ¬ (σ 36 0 2) ≤ v2 → vp_in v2 4) (h4 : ¬ (σ 36 0 2) ≤ v2 → ¬ v1 = 0 → ps_C mX2_costAhead d [.inr (.inr (36, 0)), .inl v1, .inl v2] (ps_up σ 42 v1.toNatClampNeg v2.toNatClampNeg (sWa σ v1.toNatClampNeg v2.toNatClampNeg)) (ps_ri (fun x σ1 => kX2_solve_71 d Q v1 v2 x ((ps_up σ 42 v1.toNatClampNeg v2.toNatClampNeg (sWa σ v1.toNatClampNeg v2.toNatClampNeg)) 42 v1.toNatClampNeg v2.toNatClampNeg) v2 v1.toNatClampNeg σ1))) (h5 : ¬ (σ 36 0 2) ≤ v2 → v1 = 0 → kX2_solve_71 d Q v1 v2 0 ((ps_up σ 42 v1.toNatClampNeg v2.toNatClampNeg (sWa σ v1.toNatClampNeg v2.toNatClampNeg)) 42 v1.toNatClampNeg v2.toNatClampNeg) v2 v1.toNatClampNeg (ps_up σ 42 v1.toNatClampNeg v2.toNatClampNeg (sWa σ v1.toNatClampNeg v2.toNatClampNeg))) : kX2_solve_20 d Q v1 v2 σ := by
  refine ps_iload_n (ps_at tX2_solve_ok 12 rfl) rfl rfl ?_
  refine ps_aload_n (ps_at tX2_solve_ok 13 rfl) rfl rfl ?_
  refine ps_getI (ps_at tX2_solve_ok 14 rfl) flX2_19 sh_36 rfl ?_
  refine ps_icmp_ge (tgt := 79) (ps_at tX2_solve_ok 15 rfl) (by decide) (fun c0 => ?_) (fun c0 => ?_)
  · skip
    refine ps_iinc (L' := [some (.inr (.inr (36, 0))), some (.inl (v1 + 1)), some (.inl v2)]) (y := 1) (ps_at tX2_solve_ok 49 rfl) rfl (by decide) (by decide) rfl ?_
    refine ps_goto (tgt := 10) (ps_at tX2_solve_ok 50 rfl) (by decide) ?_
    refine ps_forget (L' := [some (.inr (.inr (36, 0))), some (.inl (v1 + 1)), none]) (And.intro rfl (And.intro rfl trivial)) ?_
    exact h1 c0
  · skip
    refine ps_aload_n (ps_at tX2_solve_ok 16 rfl) rfl rfl ?_
    refine ps_getR (ps_at tX2_solve_ok 17 rfl) flX2_29 sh_36 rfl ?_
    refine ps_iload_n (ps_at tX2_solve_ok 18 rfl) rfl rfl ?_
    refine ps_aald0 (ps_at tX2_solve_ok 19 rfl) sh_41 (Or.inl rfl) (h2 c0) ?_
    refine ps_iload_n (ps_at tX2_solve_ok 20 rfl) rfl rfl ?_
    refine ps_aload_n (ps_at tX2_solve_ok 21 rfl) rfl rfl ?_
    refine ps_iload_n (ps_at tX2_solve_ok 22 rfl) rfl rfl ?_
    refine ps_iload_n (ps_at tX2_solve_ok 23 rfl) rfl rfl ?_
    refine ps_callV (M2 := mX2_wordsAgainst) (av := [.inl v1, .inl v2]) (rest := [.inl v2, .inr (.inr (42, v1.toNatClampNeg))]) (ps_at tX2_solve_ok 24 rfl) cvX2_77 sh_36 rfl rfl (fun _ => Nat.le_of_ble_eq_true rfl) (pX2_wordsAgainst (h2 c0) (h3 c0) ?_)
    refine ps_iast (ps_at tX2_solve_ok 25 rfl) sh_42 (h3 c0) ?_
    refine ps_aload_n (ps_at tX2_solve_ok 26 rfl) rfl rfl ?_
    refine ps_getR (ps_at tX2_solve_ok 27 rfl) flX2_32 sh_36 rfl ?_
    refine ps_iload_n (ps_at tX2_solve_ok 28 rfl) rfl rfl ?_
    refine ps_aald0 (ps_at tX2_solve_ok 29 rfl) sh_43 (Or.inl rfl) (h2 c0) ?_
    refine ps_iload_n (ps_at tX2_solve_ok 30 rfl) rfl rfl ?_
    refine ps_aload_n (ps_at tX2_solve_ok 31 rfl) rfl rfl ?_
    refine ps_getR (ps_at tX2_solve_ok 32 rfl) flX2_29 sh_36 rfl ?_
    refine ps_iload_n (ps_at tX2_solve_ok 33 rfl) rfl rfl ?_
    refine ps_aald0 (ps_at tX2_solve_ok 34 rfl) sh_41 (Or.inl rfl) (h2 c0) ?_
    refine ps_iload_n (ps_at tX2_solve_ok 35 rfl) rfl rfl ?_
    refine ps_iald (ps_at tX2_solve_ok 36 rfl) sh_42 (h3 c0) ?_
    refine ps_iload_n (ps_at tX2_solve_ok 37 rfl) rfl rfl ?_
    refine ps_if_ne (tgt := 65) (ps_at tX2_solve_ok 38 rfl) (by decide) (fun c1 => ?_) (fun c1 => ?_)
    · skip
      refine ps_aload_n (ps_at tX2_solve_ok 41 rfl) rfl rfl ?_
      refine ps_iload_n (ps_at tX2_solve_ok 42 rfl) rfl rfl ?_
      refine ps_iload_n (ps_at tX2_solve_ok 43 rfl) rfl rfl ?_
      refine ps_callV (M2 := mX2_costAhead) (av := [.inl v1, .inl v2]) (rest := [.inl ((ps_up σ 42 v1.toNatClampNeg v2.toNatClampNeg (sWa σ v1.toNatClampNeg v2.toNatClampNeg)) 42 v1.toNatClampNeg v2.toNatClampNeg), .inl v2, .inr (.inr (44, v1.toNatClampNeg))]) (ps_at tX2_solve_ok 44 rfl) cvX2_80 sh_36 rfl rfl (fun _ => Nat.le_of_ble_eq_true rfl) ?_
      refine ps_C.imp ?_ (h4 c0 c1)
      rintro _ σ1 ⟨x, rfl, hx⟩
      exact hx
    · skip
      refine ps_iconst (x := 0) (ps_at tX2_solve_ok 39 rfl) (by decide) ?_
      refine ps_goto (tgt := 71) (ps_at tX2_solve_ok 40 rfl) (by decide) ?_
      exact h5 c0 c1
theorem bX2_solve_135 {d : Nat} {Q : Option ps_V → ps_S → Prop} {s0 : Int32} {σ : ps_S} (h1 : Q none (ps_up (ps_up σ 36 0 9 s0) 36 0 10 1)) : kX2_solve_135 d Q s0 σ := by
  refine ps_putI (ps_at tX2_solve_ok 79 rfl) fpX2_55 sh_36 rfl ?_
  refine ps_aload_n (ps_at tX2_solve_ok 80 rfl) rfl rfl ?_
  refine ps_iconst (x := 1) (ps_at tX2_solve_ok 81 rfl) (by decide) ?_
  refine ps_putZ (ps_at tX2_solve_ok 82 rfl) fpX2_48 sh_36 rfl (Or.inr rfl) ?_
  exact ps_vret (ps_at tX2_solve_ok 83 rfl) rfl ⟨rfl, rfl⟩ (h1)
theorem bX2_solve_98 {d : Nat} {Q : Option ps_V → ps_S → Prop} {v1 : Int32} {v2 : Int32} {σ : ps_S} (h1 : (σ 36 0 2) ≤ v2 → kX2_solve_92 d Q (v1 + (-1)) σ) (h2 : ¬ (σ 36 0 2) ≤ v2 → ps_C mX2_lookBehind d [.inr (.inr (36, 0)), .inl v1, .inl v2] σ (ps_rv (fun σ1 => kX2_solve_112 d Q v1 v2 σ1))) : kX2_solve_98 d Q v1 v2 σ := by
  refine ps_iload_n (ps_at tX2_solve_ok 60 rfl) rfl rfl ?_
  refine ps_aload_n (ps_at tX2_solve_ok 61 rfl) rfl rfl ?_
  refine ps_getI (ps_at tX2_solve_ok 62 rfl) flX2_19 sh_36 rfl ?_
  refine ps_icmp_ge (tgt := 118) (ps_at tX2_solve_ok 63 rfl) (by decide) (fun c0 => ?_) (fun c0 => ?_)
  · skip
    refine ps_iinc (L' := [some (.inr (.inr (36, 0))), some (.inl (v1 + (-1))), some (.inl v2)]) (y := (-1)) (ps_at tX2_solve_ok 70 rfl) rfl (by decide) (by decide) rfl ?_
    refine ps_goto (tgt := 92) (ps_at tX2_solve_ok 71 rfl) (by decide) ?_
    refine ps_forget (L' := [some (.inr (.inr (36, 0))), some (.inl (v1 + (-1))), none]) (And.intro rfl (And.intro rfl trivial)) ?_
    exact h1 c0
  · skip
    refine ps_aload_n (ps_at tX2_solve_ok 64 rfl) rfl rfl ?_
    refine ps_iload_n (ps_at tX2_solve_ok 65 rfl) rfl rfl ?_
    refine ps_iload_n (ps_at tX2_solve_ok 66 rfl) rfl rfl ?_
    refine ps_callV (M2 := mX2_lookBehind) (av := [.inl v1, .inl v2]) (rest := []) (ps_at tX2_solve_ok 67 rfl) cvX2_83 sh_36 rfl rfl (fun _ => Nat.le_of_ble_eq_true rfl) ?_
    refine ps_C.imp ?_ (h2 c0)
    rintro _ σ1 ⟨rfl, hx⟩
    exact hx
theorem bX2_solve_71 {d : Nat} {Q : Option ps_V → ps_S → Prop} {v1 : Int32} {v2 : Int32} {s0 : Int32} {s1 : Int32} {s2 : Int32} {j3 : Nat} {σ : ps_S} (h1 : vp_in s2 4) (h2 : kX2_solve_20 d Q v1 (v2 + 1) (ps_up σ 44 j3 s2.toNatClampNeg (s1 + s0))) : kX2_solve_71 d Q v1 v2 s0 s1 s2 j3 σ := by
  refine ps_iadd (ps_at tX2_solve_ok 45 rfl) ?_
  refine ps_iast (ps_at tX2_solve_ok 46 rfl) sh_44 (h1) ?_
  refine ps_iinc (L' := [some (.inr (.inr (36, 0))), some (.inl v1), some (.inl (v2 + 1))]) (y := 1) (ps_at tX2_solve_ok 47 rfl) rfl (by decide) (by decide) rfl ?_
  refine ps_goto (tgt := 20) (ps_at tX2_solve_ok 48 rfl) (by decide) ?_
  exact h2
theorem bX2_solve_112 {d : Nat} {Q : Option ps_V → ps_S → Prop} {v1 : Int32} {v2 : Int32} {σ : ps_S} (h1 : kX2_solve_98 d Q v1 (v2 + 1) σ) : kX2_solve_112 d Q v1 v2 σ := by
  refine ps_iinc (L' := [some (.inr (.inr (36, 0))), some (.inl v1), some (.inl (v2 + 1))]) (y := 1) (ps_at tX2_solve_ok 68 rfl) rfl (by decide) (by decide) rfl ?_
  refine ps_goto (tgt := 98) (ps_at tX2_solve_ok 69 rfl) (by decide) ?_
  exact h1
theorem eX2_solve {d : Nat} {Q : Option ps_V → ps_S → Prop}  {σ : ps_S} (h : kX2_solve_0 d Q σ) : ps_C mX2_solve (d + 1) [.inr (.inr (36, 0))] σ Q := ps_enter (by decide) rfl ⟨rfl, rfl, rfl⟩ rfl (Nat.le_of_ble_eq_true rfl) h
abbrev kX2_costAhead_0 (d : Nat) (Q : Option ps_V → ps_S → Prop) (v1 : Int32) (v2 : Int32) (σ : ps_S) : Prop := ps_K mX2_costAhead (d + 1) (ps_QF Q) 0 [some (.inr (.inr (36, 0))), some (.inl v1), some (.inl v2), none, none] [] σ
abbrev kX2_costAhead_14 (d : Nat) (Q : Option ps_V → ps_S → Prop) (v1 : Int32) (v2 : Int32) (v3 : Int32) (v4 : Int32) (σ : ps_S) : Prop := ps_K mX2_costAhead (d + 1) (ps_QF Q) 14 [some (.inr (.inr (36, 0))), some (.inl v1), some (.inl v2), some (.inl v3), some (.inl v4)] [] σ
theorem bX2_costAhead_0 {d : Nat} {Q : Option ps_V → ps_S → Prop} {v1 : Int32} {v2 : Int32} {σ : ps_S} (h1 : vp_in (v1 - 1) 12) (h2 : vp_in v2 4) (h3 : kX2_costAhead_14 d Q v1 v2 (σ 44 ((v1 - 1).toNatClampNeg) v2.toNatClampNeg) 0 σ) : kX2_costAhead_0 d Q v1 v2 σ := by
  refine ps_aload_n (ps_at tX2_costAhead_ok 0 rfl) rfl rfl ?_
  refine ps_getR (ps_at tX2_costAhead_ok 1 rfl) flX2_32 sh_36 rfl ?_
  refine ps_iload_n (ps_at tX2_costAhead_ok 2 rfl) rfl rfl ?_
  refine ps_iconst (x := 1) (ps_at tX2_costAhead_ok 3 rfl) (by decide) ?_
  refine ps_isub (ps_at tX2_costAhead_ok 4 rfl) ?_
  refine ps_aald0 (ps_at tX2_costAhead_ok 5 rfl) sh_43 (Or.inl rfl) (h1) ?_
  refine ps_iload_n (ps_at tX2_costAhead_ok 6 rfl) rfl rfl ?_
  refine ps_iald (ps_at tX2_costAhead_ok 7 rfl) sh_44 (h2) ?_
  refine ps_istore_n (L' := [some (.inr (.inr (36, 0))), some (.inl v1), some (.inl v2), some (.inl (σ 44 ((v1 - 1).toNatClampNeg) v2.toNatClampNeg)), none]) (ps_at tX2_costAhead_ok 8 rfl) rfl (by decide) rfl ?_
  refine ps_iconst (x := 0) (ps_at tX2_costAhead_ok 9 rfl) (by decide) ?_
  refine ps_istore (L' := [some (.inr (.inr (36, 0))), some (.inl v1), some (.inl v2), some (.inl (σ 44 ((v1 - 1).toNatClampNeg) v2.toNatClampNeg)), some (.inl 0)]) (ps_at tX2_costAhead_ok 10 rfl) (by decide) rfl ?_
  exact h3
theorem bX2_costAhead_14 {d : Nat} {Q : Option ps_V → ps_S → Prop} {v1 : Int32} {v2 : Int32} {v3 : Int32} {v4 : Int32} {σ : ps_S} (h1 : (σ 36 0 2) ≤ v4 → Q (some (.inl v3)) σ) (h2 : ¬ (σ 36 0 2) ≤ v4 → vp_in (v1 - 1) 12) (h3 : ¬ (σ 36 0 2) ≤ v4 → vp_in v4 4) (h4 : ¬ (σ 36 0 2) ≤ v4 → kX2_costAhead_14 d Q v1 v2 (jbMin v3 ((σ 44 ((v1 - 1).toNatClampNeg) v4.toNatClampNeg) + (jX2_changeOf σ v4 v2))) (v4 + 1) σ) : kX2_costAhead_14 d Q v1 v2 v3 v4 σ := by
  refine ps_iload (ps_at tX2_costAhead_ok 11 rfl) rfl ?_
  refine ps_aload_n (ps_at tX2_costAhead_ok 12 rfl) rfl rfl ?_
  refine ps_getI (ps_at tX2_costAhead_ok 13 rfl) flX2_19 sh_36 rfl ?_
  refine ps_icmp_ge (tgt := 53) (ps_at tX2_costAhead_ok 14 rfl) (by decide) (fun c0 => ?_) (fun c0 => ?_)
  · skip
    refine ps_iload_n (ps_at tX2_costAhead_ok 33 rfl) rfl rfl ?_
    exact ps_iret (ps_at tX2_costAhead_ok 34 rfl) rfl ⟨rfl, rfl⟩ (h1 c0)
  · skip
    refine ps_iload_n (ps_at tX2_costAhead_ok 15 rfl) rfl rfl ?_
    refine ps_aload_n (ps_at tX2_costAhead_ok 16 rfl) rfl rfl ?_
    refine ps_getR (ps_at tX2_costAhead_ok 17 rfl) flX2_32 sh_36 rfl ?_
    refine ps_iload_n (ps_at tX2_costAhead_ok 18 rfl) rfl rfl ?_
    refine ps_iconst (x := 1) (ps_at tX2_costAhead_ok 19 rfl) (by decide) ?_
    refine ps_isub (ps_at tX2_costAhead_ok 20 rfl) ?_
    refine ps_aald0 (ps_at tX2_costAhead_ok 21 rfl) sh_43 (Or.inl rfl) (h2 c0) ?_
    refine ps_iload (ps_at tX2_costAhead_ok 22 rfl) rfl ?_
    refine ps_iald (ps_at tX2_costAhead_ok 23 rfl) sh_44 (h3 c0) ?_
    refine ps_aload_n (ps_at tX2_costAhead_ok 24 rfl) rfl rfl ?_
    refine ps_iload (ps_at tX2_costAhead_ok 25 rfl) rfl ?_
    refine ps_iload_n (ps_at tX2_costAhead_ok 26 rfl) rfl rfl ?_
    refine ps_callV (M2 := mX2_changeOf) (av := [.inl v4, .inl v2]) (rest := [.inl (σ 44 ((v1 - 1).toNatClampNeg) v4.toNatClampNeg), .inl v3]) (ps_at tX2_costAhead_ok 27 rfl) cvX2_74 sh_36 rfl rfl (fun _ => Nat.le_of_ble_eq_true rfl) (pX2_changeOf ?_)
    refine ps_iadd (ps_at tX2_costAhead_ok 28 rfl) ?_
    refine ps_mmin (ps_at tX2_costAhead_ok 29 rfl) cmX2_91 (fun _ => Nat.le_of_ble_eq_true rfl) ?_
    refine ps_istore_n (L' := [some (.inr (.inr (36, 0))), some (.inl v1), some (.inl v2), some (.inl (jbMin v3 ((σ 44 ((v1 - 1).toNatClampNeg) v4.toNatClampNeg) + (jX2_changeOf σ v4 v2)))), some (.inl v4)]) (ps_at tX2_costAhead_ok 30 rfl) rfl (by decide) rfl ?_
    refine ps_iinc (L' := [some (.inr (.inr (36, 0))), some (.inl v1), some (.inl v2), some (.inl (jbMin v3 ((σ 44 ((v1 - 1).toNatClampNeg) v4.toNatClampNeg) + (jX2_changeOf σ v4 v2)))), some (.inl (v4 + 1))]) (y := 1) (ps_at tX2_costAhead_ok 31 rfl) rfl (by decide) (by decide) rfl ?_
    refine ps_goto (tgt := 14) (ps_at tX2_costAhead_ok 32 rfl) (by decide) ?_
    exact h4 c0
theorem eX2_costAhead {d : Nat} {Q : Option ps_V → ps_S → Prop} {v1 : Int32} {v2 : Int32} {σ : ps_S} (h : kX2_costAhead_0 d Q v1 v2 σ) : ps_C mX2_costAhead (d + 1) [.inr (.inr (36, 0)), .inl v1, .inl v2] σ Q := ps_enter (by decide) rfl ⟨rfl, rfl, rfl⟩ rfl (Nat.le_of_ble_eq_true rfl) h
abbrev kX2_lookBehind_0 (d : Nat) (Q : Option ps_V → ps_S → Prop) (v1 : Int32) (v2 : Int32) (σ : ps_S) : Prop := ps_K mX2_lookBehind (d + 2) (ps_QF Q) 0 [some (.inr (.inr (36, 0))), some (.inl v1), some (.inl v2), none, none, none] [] σ
abbrev kX2_lookBehind_40 (d : Nat) (Q : Option ps_V → ps_S → Prop) (v1 : Int32) (v2 : Int32) (v3 : Int32) (v4 : Int32) (σ : ps_S) : Prop := ps_K mX2_lookBehind (d + 2) (ps_QF Q) 40 [some (.inr (.inr (36, 0))), some (.inl v1), some (.inl v2), some (.inl v3), some (.inl v4), none] [] σ
abbrev kX2_lookBehind_74 (d : Nat) (Q : Option ps_V → ps_S → Prop) (v1 : Int32) (v2 : Int32) (v3 : Int32) (v4 : Int32) (v5 : Int32) (σ : ps_S) : Prop := ps_K mX2_lookBehind (d + 2) (ps_QF Q) 74 [some (.inr (.inr (36, 0))), some (.inl v1), some (.inl v2), some (.inl v3), some (.inl v4), some (.inl v5)] [] σ
theorem bX2_lookBehind_0 {d : Nat} {Q : Option ps_V → ps_S → Prop} {v1 : Int32} {v2 : Int32} {σ : ps_S} (h1 : ¬ v1 = ((σ 36 0 3) - 1) → vp_in (v1 + 1) 12) (h2 : ¬ v1 = ((σ 36 0 3) - 1) → vp_in v2 4) (h3 : ¬ v1 = ((σ 36 0 3) - 1) → kX2_lookBehind_40 d Q v1 v2 (jX2_costThrough σ v1 v2 v2) 0 σ) (h4 : v1 = ((σ 36 0 3) - 1) → vp_in v1 12) (h5 : v1 = ((σ 36 0 3) - 1) → vp_in v2 4) (h6 : v1 = ((σ 36 0 3) - 1) → Q none (ps_up (ps_up σ 46 v1.toNatClampNeg v2.toNatClampNeg 0) 48 v1.toNatClampNeg v2.toNatClampNeg 1)) : kX2_lookBehind_0 d Q v1 v2 σ := by
  refine ps_iload_n (ps_at tX2_lookBehind_ok 0 rfl) rfl rfl ?_
  refine ps_aload_n (ps_at tX2_lookBehind_ok 1 rfl) rfl rfl ?_
  refine ps_getI (ps_at tX2_lookBehind_ok 2 rfl) flX2_23 sh_36 rfl ?_
  refine ps_iconst (x := 1) (ps_at tX2_lookBehind_ok 3 rfl) (by decide) ?_
  refine ps_isub (ps_at tX2_lookBehind_ok 4 rfl) ?_
  refine ps_icmp_ne (tgt := 29) (ps_at tX2_lookBehind_ok 5 rfl) (by decide) (fun c0 => ?_) (fun c0 => ?_)
  · skip
    refine ps_aload_n (ps_at tX2_lookBehind_ok 21 rfl) rfl rfl ?_
    refine ps_iload_n (ps_at tX2_lookBehind_ok 22 rfl) rfl rfl ?_
    refine ps_iload_n (ps_at tX2_lookBehind_ok 23 rfl) rfl rfl ?_
    refine ps_iload_n (ps_at tX2_lookBehind_ok 24 rfl) rfl rfl ?_
    refine ps_callV (M2 := mX2_costThrough) (av := [.inl v1, .inl v2, .inl v2]) (rest := []) (ps_at tX2_lookBehind_ok 25 rfl) cvX2_70 sh_36 rfl rfl (fun _ => Nat.le_of_ble_eq_true rfl) (pX2_costThrough (h1 c0) (h2 c0) ?_)
    refine ps_istore_n (L' := [some (.inr (.inr (36, 0))), some (.inl v1), some (.inl v2), some (.inl (jX2_costThrough σ v1 v2 v2)), none, none]) (ps_at tX2_lookBehind_ok 26 rfl) rfl (by decide) rfl ?_
    refine ps_iconst (x := 0) (ps_at tX2_lookBehind_ok 27 rfl) (by decide) ?_
    refine ps_istore (L' := [some (.inr (.inr (36, 0))), some (.inl v1), some (.inl v2), some (.inl (jX2_costThrough σ v1 v2 v2)), some (.inl 0), none]) (ps_at tX2_lookBehind_ok 28 rfl) (by decide) rfl ?_
    exact h3 c0
  · skip
    refine ps_aload_n (ps_at tX2_lookBehind_ok 6 rfl) rfl rfl ?_
    refine ps_getR (ps_at tX2_lookBehind_ok 7 rfl) flX2_35 sh_36 rfl ?_
    refine ps_iload_n (ps_at tX2_lookBehind_ok 8 rfl) rfl rfl ?_
    refine ps_aald0 (ps_at tX2_lookBehind_ok 9 rfl) sh_45 (Or.inl rfl) (h4 c0) ?_
    refine ps_iload_n (ps_at tX2_lookBehind_ok 10 rfl) rfl rfl ?_
    refine ps_iconst (x := 0) (ps_at tX2_lookBehind_ok 11 rfl) (by decide) ?_
    refine ps_iast (ps_at tX2_lookBehind_ok 12 rfl) sh_46 (h5 c0) ?_
    refine ps_aload_n (ps_at tX2_lookBehind_ok 13 rfl) rfl rfl ?_
    refine ps_getR (ps_at tX2_lookBehind_ok 14 rfl) flX2_38 sh_36 rfl ?_
    refine ps_iload_n (ps_at tX2_lookBehind_ok 15 rfl) rfl rfl ?_
    refine ps_aald0 (ps_at tX2_lookBehind_ok 16 rfl) sh_47 (Or.inl rfl) (h4 c0) ?_
    refine ps_iload_n (ps_at tX2_lookBehind_ok 17 rfl) rfl rfl ?_
    refine ps_iconst (x := 1) (ps_at tX2_lookBehind_ok 18 rfl) (by decide) ?_
    refine ps_iast (ps_at tX2_lookBehind_ok 19 rfl) sh_48 (h5 c0) ?_
    exact ps_vret (ps_at tX2_lookBehind_ok 20 rfl) rfl ⟨rfl, rfl⟩ (h6 c0)
theorem bX2_lookBehind_40 {d : Nat} {Q : Option ps_V → ps_S → Prop} {v1 : Int32} {v2 : Int32} {v3 : Int32} {v4 : Int32} {σ : ps_S} (h1 : (σ 36 0 2) ≤ v4 → kX2_lookBehind_74 d Q v1 v2 v3 0 0 σ) (h2 : ¬ (σ 36 0 2) ≤ v4 → vp_in (v1 + 1) 12) (h3 : ¬ (σ 36 0 2) ≤ v4 → vp_in v4 4) (h4 : ¬ (σ 36 0 2) ≤ v4 → kX2_lookBehind_40 d Q v1 v2 (jbMin v3 (jX2_costThrough σ v1 v2 v4)) (v4 + 1) σ) : kX2_lookBehind_40 d Q v1 v2 v3 v4 σ := by
  refine ps_iload (ps_at tX2_lookBehind_ok 29 rfl) rfl ?_
  refine ps_aload_n (ps_at tX2_lookBehind_ok 30 rfl) rfl rfl ?_
  refine ps_getI (ps_at tX2_lookBehind_ok 31 rfl) flX2_19 sh_36 rfl ?_
  refine ps_icmp_ge (tgt := 68) (ps_at tX2_lookBehind_ok 32 rfl) (by decide) (fun c0 => ?_) (fun c0 => ?_)
  · skip
    refine ps_iconst (x := 0) (ps_at tX2_lookBehind_ok 43 rfl) (by decide) ?_
    refine ps_istore (L' := [some (.inr (.inr (36, 0))), some (.inl v1), some (.inl v2), some (.inl v3), some (.inl 0), none]) (ps_at tX2_lookBehind_ok 44 rfl) (by decide) rfl ?_
    refine ps_iconst (x := 0) (ps_at tX2_lookBehind_ok 45 rfl) (by decide) ?_
    refine ps_istore (L' := [some (.inr (.inr (36, 0))), some (.inl v1), some (.inl v2), some (.inl v3), some (.inl 0), some (.inl 0)]) (ps_at tX2_lookBehind_ok 46 rfl) (by decide) rfl ?_
    exact h1 c0
  · skip
    refine ps_iload_n (ps_at tX2_lookBehind_ok 33 rfl) rfl rfl ?_
    refine ps_aload_n (ps_at tX2_lookBehind_ok 34 rfl) rfl rfl ?_
    refine ps_iload_n (ps_at tX2_lookBehind_ok 35 rfl) rfl rfl ?_
    refine ps_iload_n (ps_at tX2_lookBehind_ok 36 rfl) rfl rfl ?_
    refine ps_iload (ps_at tX2_lookBehind_ok 37 rfl) rfl ?_
    refine ps_callV (M2 := mX2_costThrough) (av := [.inl v1, .inl v2, .inl v4]) (rest := [.inl v3]) (ps_at tX2_lookBehind_ok 38 rfl) cvX2_70 sh_36 rfl rfl (fun _ => Nat.le_of_ble_eq_true rfl) (pX2_costThrough (h2 c0) (h3 c0) ?_)
    refine ps_mmin (ps_at tX2_lookBehind_ok 39 rfl) cmX2_91 (fun _ => Nat.le_of_ble_eq_true rfl) ?_
    refine ps_istore_n (L' := [some (.inr (.inr (36, 0))), some (.inl v1), some (.inl v2), some (.inl (jbMin v3 (jX2_costThrough σ v1 v2 v4))), some (.inl v4), none]) (ps_at tX2_lookBehind_ok 40 rfl) rfl (by decide) rfl ?_
    refine ps_iinc (L' := [some (.inr (.inr (36, 0))), some (.inl v1), some (.inl v2), some (.inl (jbMin v3 (jX2_costThrough σ v1 v2 v4))), some (.inl (v4 + 1)), none]) (y := 1) (ps_at tX2_lookBehind_ok 41 rfl) rfl (by decide) (by decide) rfl ?_
    refine ps_goto (tgt := 40) (ps_at tX2_lookBehind_ok 42 rfl) (by decide) ?_
    exact h4 c0
theorem bX2_lookBehind_74 {d : Nat} {Q : Option ps_V → ps_S → Prop} {v1 : Int32} {v2 : Int32} {v3 : Int32} {v4 : Int32} {v5 : Int32} {σ : ps_S} (h1 : (σ 36 0 2) ≤ v5 → vp_in v1 12) (h2 : (σ 36 0 2) ≤ v5 → vp_in v2 4) (h3 : (σ 36 0 2) ≤ v5 → Q none (ps_up (ps_up σ 46 v1.toNatClampNeg v2.toNatClampNeg v3) 48 v1.toNatClampNeg v2.toNatClampNeg v4)) (h4 : ¬ (σ 36 0 2) ≤ v5 → vp_in (v1 + 1) 12) (h5 : ¬ (σ 36 0 2) ≤ v5 → vp_in v5 4) (h6 : ¬ (σ 36 0 2) ≤ v5 → ¬ (jX2_costThrough σ v1 v2 v5) = v3 → kX2_lookBehind_74 d Q v1 v2 v3 v4 (v5 + 1) σ) (h7 : ¬ (σ 36 0 2) ≤ v5 → (jX2_costThrough σ v1 v2 v5) = v3 → kX2_lookBehind_74 d Q v1 v2 v3 (v4 + (σ 48 ((v1 + 1).toNatClampNeg) v5.toNatClampNeg)) (v5 + 1) σ) : kX2_lookBehind_74 d Q v1 v2 v3 v4 v5 σ := by
  refine ps_iload (ps_at tX2_lookBehind_ok 47 rfl) rfl ?_
  refine ps_aload_n (ps_at tX2_lookBehind_ok 48 rfl) rfl rfl ?_
  refine ps_getI (ps_at tX2_lookBehind_ok 49 rfl) flX2_19 sh_36 rfl ?_
  refine ps_icmp_ge (tgt := 117) (ps_at tX2_lookBehind_ok 50 rfl) (by decide) (fun c0 => ?_) (fun c0 => ?_)
  · skip
    refine ps_aload_n (ps_at tX2_lookBehind_ok 71 rfl) rfl rfl ?_
    refine ps_getR (ps_at tX2_lookBehind_ok 72 rfl) flX2_35 sh_36 rfl ?_
    refine ps_iload_n (ps_at tX2_lookBehind_ok 73 rfl) rfl rfl ?_
    refine ps_aald0 (ps_at tX2_lookBehind_ok 74 rfl) sh_45 (Or.inl rfl) (h1 c0) ?_
    refine ps_iload_n (ps_at tX2_lookBehind_ok 75 rfl) rfl rfl ?_
    refine ps_iload_n (ps_at tX2_lookBehind_ok 76 rfl) rfl rfl ?_
    refine ps_iast (ps_at tX2_lookBehind_ok 77 rfl) sh_46 (h2 c0) ?_
    refine ps_aload_n (ps_at tX2_lookBehind_ok 78 rfl) rfl rfl ?_
    refine ps_getR (ps_at tX2_lookBehind_ok 79 rfl) flX2_38 sh_36 rfl ?_
    refine ps_iload_n (ps_at tX2_lookBehind_ok 80 rfl) rfl rfl ?_
    refine ps_aald0 (ps_at tX2_lookBehind_ok 81 rfl) sh_47 (Or.inl rfl) (h1 c0) ?_
    refine ps_iload_n (ps_at tX2_lookBehind_ok 82 rfl) rfl rfl ?_
    refine ps_iload (ps_at tX2_lookBehind_ok 83 rfl) rfl ?_
    refine ps_iast (ps_at tX2_lookBehind_ok 84 rfl) sh_48 (h2 c0) ?_
    exact ps_vret (ps_at tX2_lookBehind_ok 85 rfl) rfl ⟨rfl, rfl⟩ (h3 c0)
  · skip
    refine ps_aload_n (ps_at tX2_lookBehind_ok 51 rfl) rfl rfl ?_
    refine ps_iload_n (ps_at tX2_lookBehind_ok 52 rfl) rfl rfl ?_
    refine ps_iload_n (ps_at tX2_lookBehind_ok 53 rfl) rfl rfl ?_
    refine ps_iload (ps_at tX2_lookBehind_ok 54 rfl) rfl ?_
    refine ps_callV (M2 := mX2_costThrough) (av := [.inl v1, .inl v2, .inl v5]) (rest := []) (ps_at tX2_lookBehind_ok 55 rfl) cvX2_70 sh_36 rfl rfl (fun _ => Nat.le_of_ble_eq_true rfl) (pX2_costThrough (h4 c0) (h5 c0) ?_)
    refine ps_iload_n (ps_at tX2_lookBehind_ok 56 rfl) rfl rfl ?_
    refine ps_icmp_ne (tgt := 111) (ps_at tX2_lookBehind_ok 57 rfl) (by decide) (fun c1 => ?_) (fun c1 => ?_)
    · skip
      refine ps_iinc (L' := [some (.inr (.inr (36, 0))), some (.inl v1), some (.inl v2), some (.inl v3), some (.inl v4), some (.inl (v5 + 1))]) (y := 1) (ps_at tX2_lookBehind_ok 69 rfl) rfl (by decide) (by decide) rfl ?_
      refine ps_goto (tgt := 74) (ps_at tX2_lookBehind_ok 70 rfl) (by decide) ?_
      exact h6 c0 c1
    · skip
      refine ps_iload (ps_at tX2_lookBehind_ok 58 rfl) rfl ?_
      refine ps_aload_n (ps_at tX2_lookBehind_ok 59 rfl) rfl rfl ?_
      refine ps_getR (ps_at tX2_lookBehind_ok 60 rfl) flX2_38 sh_36 rfl ?_
      refine ps_iload_n (ps_at tX2_lookBehind_ok 61 rfl) rfl rfl ?_
      refine ps_iconst (x := 1) (ps_at tX2_lookBehind_ok 62 rfl) (by decide) ?_
      refine ps_iadd (ps_at tX2_lookBehind_ok 63 rfl) ?_
      refine ps_aald0 (ps_at tX2_lookBehind_ok 64 rfl) sh_47 (Or.inl rfl) (h4 c0) ?_
      refine ps_iload (ps_at tX2_lookBehind_ok 65 rfl) rfl ?_
      refine ps_iald (ps_at tX2_lookBehind_ok 66 rfl) sh_48 (h5 c0) ?_
      refine ps_iadd (ps_at tX2_lookBehind_ok 67 rfl) ?_
      refine ps_istore (L' := [some (.inr (.inr (36, 0))), some (.inl v1), some (.inl v2), some (.inl v3), some (.inl (v4 + (σ 48 ((v1 + 1).toNatClampNeg) v5.toNatClampNeg))), some (.inl v5)]) (ps_at tX2_lookBehind_ok 68 rfl) (by decide) rfl ?_
      refine ps_iinc (L' := [some (.inr (.inr (36, 0))), some (.inl v1), some (.inl v2), some (.inl v3), some (.inl (v4 + (σ 48 ((v1 + 1).toNatClampNeg) v5.toNatClampNeg))), some (.inl (v5 + 1))]) (y := 1) (ps_at tX2_lookBehind_ok 69 rfl) rfl (by decide) (by decide) rfl ?_
      refine ps_goto (tgt := 74) (ps_at tX2_lookBehind_ok 70 rfl) (by decide) ?_
      exact h7 c0 c1
theorem eX2_lookBehind {d : Nat} {Q : Option ps_V → ps_S → Prop} {v1 : Int32} {v2 : Int32} {σ : ps_S} (h : kX2_lookBehind_0 d Q v1 v2 σ) : ps_C mX2_lookBehind (d + 2) [.inr (.inr (36, 0)), .inl v1, .inl v2] σ Q := ps_enter (by decide) rfl ⟨rfl, rfl, rfl⟩ rfl (Nat.le_of_ble_eq_true rfl) h
abbrev kX2_leastUpTo_0 (d : Nat) (Q : Option ps_V → ps_S → Prop) (v1 : Int32) (σ : ps_S) : Prop := ps_K mX2_leastUpTo (d + 1) (ps_QF Q) 0 [some (.inr (.inr (36, 0))), some (.inl v1), none, none] [] σ
abbrev kX2_leastUpTo_11 (d : Nat) (Q : Option ps_V → ps_S → Prop) (v1 : Int32) (v2 : Int32) (v3 : Int32) (σ : ps_S) : Prop := ps_K mX2_leastUpTo (d + 1) (ps_QF Q) 11 [some (.inr (.inr (36, 0))), some (.inl v1), some (.inl v2), some (.inl v3)] [] σ
theorem bX2_leastUpTo_0 {d : Nat} {Q : Option ps_V → ps_S → Prop} {v1 : Int32} {σ : ps_S} (h1 : vp_in v1 12) (h2 : vp_in 0 4) (h3 : kX2_leastUpTo_11 d Q v1 (σ 44 v1.toNatClampNeg (0 : Int32).toNatClampNeg) 1 σ) : kX2_leastUpTo_0 d Q v1 σ := by
  refine ps_aload_n (ps_at tX2_leastUpTo_ok 0 rfl) rfl rfl ?_
  refine ps_getR (ps_at tX2_leastUpTo_ok 1 rfl) flX2_32 sh_36 rfl ?_
  refine ps_iload_n (ps_at tX2_leastUpTo_ok 2 rfl) rfl rfl ?_
  refine ps_aald0 (ps_at tX2_leastUpTo_ok 3 rfl) sh_43 (Or.inl rfl) (h1) ?_
  refine ps_iconst (x := 0) (ps_at tX2_leastUpTo_ok 4 rfl) (by decide) ?_
  refine ps_iald (ps_at tX2_leastUpTo_ok 5 rfl) sh_44 (h2) ?_
  refine ps_istore_n (L' := [some (.inr (.inr (36, 0))), some (.inl v1), some (.inl (σ 44 v1.toNatClampNeg (0 : Int32).toNatClampNeg)), none]) (ps_at tX2_leastUpTo_ok 6 rfl) rfl (by decide) rfl ?_
  refine ps_iconst (x := 1) (ps_at tX2_leastUpTo_ok 7 rfl) (by decide) ?_
  refine ps_istore_n (L' := [some (.inr (.inr (36, 0))), some (.inl v1), some (.inl (σ 44 v1.toNatClampNeg (0 : Int32).toNatClampNeg)), some (.inl 1)]) (ps_at tX2_leastUpTo_ok 8 rfl) rfl (by decide) rfl ?_
  exact h3
theorem bX2_leastUpTo_11 {d : Nat} {Q : Option ps_V → ps_S → Prop} {v1 : Int32} {v2 : Int32} {v3 : Int32} {σ : ps_S} (h1 : (σ 36 0 2) ≤ v3 → Q (some (.inl v2)) σ) (h2 : ¬ (σ 36 0 2) ≤ v3 → vp_in v1 12) (h3 : ¬ (σ 36 0 2) ≤ v3 → vp_in v3 4) (h4 : ¬ (σ 36 0 2) ≤ v3 → kX2_leastUpTo_11 d Q v1 (jbMin v2 (σ 44 v1.toNatClampNeg v3.toNatClampNeg)) (v3 + 1) σ) : kX2_leastUpTo_11 d Q v1 v2 v3 σ := by
  refine ps_iload_n (ps_at tX2_leastUpTo_ok 9 rfl) rfl rfl ?_
  refine ps_aload_n (ps_at tX2_leastUpTo_ok 10 rfl) rfl rfl ?_
  refine ps_getI (ps_at tX2_leastUpTo_ok 11 rfl) flX2_19 sh_36 rfl ?_
  refine ps_icmp_ge (tgt := 38) (ps_at tX2_leastUpTo_ok 12 rfl) (by decide) (fun c0 => ?_) (fun c0 => ?_)
  · skip
    refine ps_iload_n (ps_at tX2_leastUpTo_ok 24 rfl) rfl rfl ?_
    exact ps_iret (ps_at tX2_leastUpTo_ok 25 rfl) rfl ⟨rfl, rfl⟩ (h1 c0)
  · skip
    refine ps_iload_n (ps_at tX2_leastUpTo_ok 13 rfl) rfl rfl ?_
    refine ps_aload_n (ps_at tX2_leastUpTo_ok 14 rfl) rfl rfl ?_
    refine ps_getR (ps_at tX2_leastUpTo_ok 15 rfl) flX2_32 sh_36 rfl ?_
    refine ps_iload_n (ps_at tX2_leastUpTo_ok 16 rfl) rfl rfl ?_
    refine ps_aald0 (ps_at tX2_leastUpTo_ok 17 rfl) sh_43 (Or.inl rfl) (h2 c0) ?_
    refine ps_iload_n (ps_at tX2_leastUpTo_ok 18 rfl) rfl rfl ?_
    refine ps_iald (ps_at tX2_leastUpTo_ok 19 rfl) sh_44 (h3 c0) ?_
    refine ps_mmin (ps_at tX2_leastUpTo_ok 20 rfl) cmX2_91 (fun _ => Nat.le_of_ble_eq_true rfl) ?_
    refine ps_istore_n (L' := [some (.inr (.inr (36, 0))), some (.inl v1), some (.inl (jbMin v2 (σ 44 v1.toNatClampNeg v3.toNatClampNeg))), some (.inl v3)]) (ps_at tX2_leastUpTo_ok 21 rfl) rfl (by decide) rfl ?_
    refine ps_iinc (L' := [some (.inr (.inr (36, 0))), some (.inl v1), some (.inl (jbMin v2 (σ 44 v1.toNatClampNeg v3.toNatClampNeg))), some (.inl (v3 + 1))]) (y := 1) (ps_at tX2_leastUpTo_ok 22 rfl) rfl (by decide) (by decide) rfl ?_
    refine ps_goto (tgt := 11) (ps_at tX2_leastUpTo_ok 23 rfl) (by decide) ?_
    exact h4 c0
theorem eX2_leastUpTo {d : Nat} {Q : Option ps_V → ps_S → Prop} {v1 : Int32} {σ : ps_S} (h : kX2_leastUpTo_0 d Q v1 σ) : ps_C mX2_leastUpTo (d + 1) [.inr (.inr (36, 0)), .inl v1] σ Q := ps_enter (by decide) rfl ⟨rfl, rfl, rfl⟩ rfl (Nat.le_of_ble_eq_true rfl) h

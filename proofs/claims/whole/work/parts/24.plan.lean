/-! ===== printed by wip/whole/gen.py: block rows ===== -/
abbrev kX4_forget_0 (d : Nat) (Q : Option ps_V → ps_S → Prop)  (σ : ps_S) : Prop := ps_K mX4_forget d (ps_QF Q) 0 [some (.inr (.inr (24, 0)))] [] σ
theorem bX4_forget_0 {d : Nat} {Q : Option ps_V → ps_S → Prop}  {σ : ps_S} (h1 : Q none (ps_up σ 24 0 6 0)) : kX4_forget_0 d Q σ := by
  refine ps_aload_n (ps_at tX4_forget_ok 0 rfl) rfl rfl ?_
  refine ps_iconst (x := 0) (ps_at tX4_forget_ok 1 rfl) (by decide) ?_
  refine ps_putI (ps_at tX4_forget_ok 2 rfl) fpX4_31 sh_24 rfl ?_
  exact ps_vret (ps_at tX4_forget_ok 3 rfl) rfl ⟨rfl, rfl⟩ (h1)
theorem eX4_forget {d : Nat} {Q : Option ps_V → ps_S → Prop}  {σ : ps_S} (h : kX4_forget_0 d Q σ) : ps_C mX4_forget d [.inr (.inr (24, 0))] σ Q := ps_enter (by decide) rfl ⟨rfl, rfl, rfl⟩ rfl (Nat.le_of_ble_eq_true rfl) h
abbrev kX4_putPresses_0 (d : Nat) (Q : Option ps_V → ps_S → Prop) (v1 : Int32) (σ : ps_S) : Prop := ps_K mX4_putPresses (d + 1) (ps_QF Q) 0 [some (.inr (.inr (24, 0))), some (.inl v1), none] [] σ
abbrev kX4_putPresses_14 (d : Nat) (Q : Option ps_V → ps_S → Prop) (v2 : Int32) (σ : ps_S) : Prop := ps_K mX4_putPresses (d + 1) (ps_QF Q) 14 [none, none, some (.inl v2)] [] σ
theorem bX4_putPresses_0 {d : Nat} {Q : Option ps_V → ps_S → Prop} {v1 : Int32} {σ : ps_S} (h1 : ps_C mX4_forget d [.inr (.inr (24, 0))] (ps_up σ 24 0 5 v1) (ps_rv (fun σ1 => kX4_putPresses_14 d Q (σ 24 0 5) σ1))) : kX4_putPresses_0 d Q v1 σ := by
  refine ps_aload_n (ps_at tX4_putPresses_ok 0 rfl) rfl rfl ?_
  refine ps_getI (ps_at tX4_putPresses_ok 1 rfl) flX4_27 sh_24 rfl ?_
  refine ps_istore_n (L' := [some (.inr (.inr (24, 0))), some (.inl v1), some (.inl (σ 24 0 5))]) (ps_at tX4_putPresses_ok 2 rfl) rfl (by decide) rfl ?_
  refine ps_aload_n (ps_at tX4_putPresses_ok 3 rfl) rfl rfl ?_
  refine ps_iload_n (ps_at tX4_putPresses_ok 4 rfl) rfl rfl ?_
  refine ps_putI (ps_at tX4_putPresses_ok 5 rfl) fpX4_27 sh_24 rfl ?_
  refine ps_aload_n (ps_at tX4_putPresses_ok 6 rfl) rfl rfl ?_
  refine ps_callV (M2 := mX4_forget) (av := []) (rest := []) (ps_at tX4_putPresses_ok 7 rfl) cvX4_34 sh_24 rfl rfl (fun _ => Nat.le_of_ble_eq_true rfl) ?_
  refine ps_C.imp ?_ (h1)
  rintro _ σ1 ⟨rfl, hx⟩
  exact ps_forget (L' := [none, none, some (.inl (σ 24 0 5))]) (And.intro rfl trivial) hx
theorem bX4_putPresses_14 {d : Nat} {Q : Option ps_V → ps_S → Prop} {v2 : Int32} {σ : ps_S} (h1 : Q (some (.inl v2)) σ) : kX4_putPresses_14 d Q v2 σ := by
  refine ps_iload_n (ps_at tX4_putPresses_ok 8 rfl) rfl rfl ?_
  exact ps_iret (ps_at tX4_putPresses_ok 9 rfl) rfl ⟨rfl, rfl⟩ (h1)
theorem eX4_putPresses {d : Nat} {Q : Option ps_V → ps_S → Prop} {v1 : Int32} {σ : ps_S} (h : kX4_putPresses_0 d Q v1 σ) : ps_C mX4_putPresses (d + 1) [.inr (.inr (24, 0)), .inl v1] σ Q := ps_enter (by decide) rfl ⟨rfl, rfl, rfl⟩ rfl (Nat.le_of_ble_eq_true rfl) h
abbrev kX4_planCount_0 (d : Nat) (Q : Option ps_V → ps_S → Prop) (v2 : Int32) (v3 : Int32) (σ : ps_S) : Prop := ps_K mX4_planCount (d + 1) (ps_QF Q) 0 [some (.inr (.inr (24, 0))), some (.inr (.inr (19, 0))), some (.inl v2), some (.inl v3), none] [] σ
abbrev kX4_planCount_6 (d : Nat) (Q : Option ps_V → ps_S → Prop) (v2 : Int32) (σ : ps_S) : Prop := ps_K mX4_planCount (d + 1) (ps_QF Q) 6 [some (.inr (.inr (24, 0))), some (.inr (.inr (19, 0))), some (.inl v2), none, none] [] σ
abbrev kX4_planCount_14 (d : Nat) (Q : Option ps_V → ps_S → Prop) (v2 : Int32) (σ : ps_S) : Prop := ps_K mX4_planCount (d + 1) (ps_QF Q) 14 [some (.inr (.inr (24, 0))), some (.inr (.inr (19, 0))), some (.inl v2), none, none] [] σ
abbrev kX4_planCount_24 (d : Nat) (Q : Option ps_V → ps_S → Prop) (v2 : Int32) (v4 : Int32) (σ : ps_S) : Prop := ps_K mX4_planCount (d + 1) (ps_QF Q) 24 [some (.inr (.inr (24, 0))), some (.inr (.inr (19, 0))), some (.inl v2), none, some (.inl v4)] [] σ
abbrev kX4_planCount_38 (d : Nat) (Q : Option ps_V → ps_S → Prop) (v2 : Int32) (v4 : Int32) (σ : ps_S) : Prop := ps_K mX4_planCount (d + 1) (ps_QF Q) 38 [some (.inr (.inr (24, 0))), some (.inr (.inr (19, 0))), some (.inl v2), none, some (.inl v4)] [] σ
theorem bX4_planCount_0 {d : Nat} {Q : Option ps_V → ps_S → Prop} {v2 : Int32} {v3 : Int32} {σ : ps_S} (h1 : ps_C mX4_weighSets d [.inr (.inr (24, 0)), .inr (.inr (19, 0)), .inl v3] σ (ps_rv (fun σ1 => kX4_planCount_6 d Q v2 σ1))) : kX4_planCount_0 d Q v2 v3 σ := by
  refine ps_aload_n (ps_at tX4_planCount_ok 0 rfl) rfl rfl ?_
  refine ps_aload_n (ps_at tX4_planCount_ok 1 rfl) rfl rfl ?_
  refine ps_iload_n (ps_at tX4_planCount_ok 2 rfl) rfl rfl ?_
  refine ps_callV (M2 := mX4_weighSets) (av := [.inr (.inr (19, 0)), .inl v3]) (rest := []) (ps_at tX4_planCount_ok 3 rfl) cvX4_37 sh_24 rfl rfl (fun _ => Nat.le_of_ble_eq_true rfl) ?_
  refine ps_C.imp ?_ (h1)
  rintro _ σ1 ⟨rfl, hx⟩
  exact ps_forget (L' := [some (.inr (.inr (24, 0))), some (.inr (.inr (19, 0))), some (.inl v2), none, none]) (And.intro rfl (And.intro rfl (And.intro rfl trivial))) hx
theorem bX4_planCount_6 {d : Nat} {Q : Option ps_V → ps_S → Prop} {v2 : Int32} {σ : ps_S} (h1 : ps_C mJ7_fill_53178 d [.inr (.inr (27, 0)), .inl 0] σ (ps_rv (fun σ1 => kX4_planCount_14 d Q v2 σ1))) : kX4_planCount_6 d Q v2 σ := by
  refine ps_aload_n (ps_at tX4_planCount_ok 4 rfl) rfl rfl ?_
  refine ps_getR (ps_at tX4_planCount_ok 5 rfl) flX4_18 sh_24 rfl ?_
  refine ps_iconst (x := 0) (ps_at tX4_planCount_ok 6 rfl) (by decide) ?_
  refine ps_callS (M2 := mJ7_fill_53178) (av := [.inr (.inr (27, 0)), .inl 0]) (rest := []) (ps_at tX4_planCount_ok 7 rfl) csX4_41 rfl rfl (fun _ => Nat.le_of_ble_eq_true rfl) ?_
  refine ps_C.imp ?_ (h1)
  rintro _ σ1 ⟨rfl, hx⟩
  exact hx
theorem bX4_planCount_14 {d : Nat} {Q : Option ps_V → ps_S → Prop} {v2 : Int32} {σ : ps_S} (h1 : vp_in 0 64) (h2 : kX4_planCount_24 d Q v2 0 (ps_up σ 27 0 (0 : Int32).toNatClampNeg 1)) : kX4_planCount_14 d Q v2 σ := by
  refine ps_aload_n (ps_at tX4_planCount_ok 8 rfl) rfl rfl ?_
  refine ps_getR (ps_at tX4_planCount_ok 9 rfl) flX4_18 sh_24 rfl ?_
  refine ps_iconst (x := 0) (ps_at tX4_planCount_ok 10 rfl) (by decide) ?_
  refine ps_iconst (x := 1) (ps_at tX4_planCount_ok 11 rfl) (by decide) ?_
  refine ps_iast (ps_at tX4_planCount_ok 12 rfl) sh_27 (h1) ?_
  refine ps_iconst (x := 0) (ps_at tX4_planCount_ok 13 rfl) (by decide) ?_
  refine ps_istore (L' := [some (.inr (.inr (24, 0))), some (.inr (.inr (19, 0))), some (.inl v2), none, some (.inl 0)]) (ps_at tX4_planCount_ok 14 rfl) (by decide) rfl ?_
  exact h2
theorem bX4_planCount_24 {d : Nat} {Q : Option ps_V → ps_S → Prop} {v2 : Int32} {v4 : Int32} {σ : ps_S} (h1 : v2 ≤ v4 → vp_in (σ 19 0 3) 64) (h2 : v2 ≤ v4 → Q (some (.inl (σ 27 0 (σ 19 0 3).toNatClampNeg))) σ) (h3 : ¬ v2 ≤ v4 → ps_C mX4_addDay d [.inr (.inr (24, 0)), .inl (σ 19 0 3)] σ (ps_rv (fun σ1 => kX4_planCount_38 d Q v2 v4 σ1))) : kX4_planCount_24 d Q v2 v4 σ := by
  refine ps_iload (ps_at tX4_planCount_ok 15 rfl) rfl ?_
  refine ps_iload_n (ps_at tX4_planCount_ok 16 rfl) rfl rfl ?_
  refine ps_icmp_ge (tgt := 44) (ps_at tX4_planCount_ok 17 rfl) (by decide) (fun c0 => ?_) (fun c0 => ?_)
  · skip
    refine ps_aload_n (ps_at tX4_planCount_ok 24 rfl) rfl rfl ?_
    refine ps_getR (ps_at tX4_planCount_ok 25 rfl) flX4_18 sh_24 rfl ?_
    refine ps_aload_n (ps_at tX4_planCount_ok 26 rfl) rfl rfl ?_
    refine ps_getI (ps_at tX4_planCount_ok 27 rfl) flX4_47 sh_19 rfl ?_
    refine ps_iald (ps_at tX4_planCount_ok 28 rfl) sh_27 (h1 c0) ?_
    exact ps_iret (ps_at tX4_planCount_ok 29 rfl) rfl ⟨rfl, rfl⟩ (h2 c0)
  · skip
    refine ps_aload_n (ps_at tX4_planCount_ok 18 rfl) rfl rfl ?_
    refine ps_aload_n (ps_at tX4_planCount_ok 19 rfl) rfl rfl ?_
    refine ps_getI (ps_at tX4_planCount_ok 20 rfl) flX4_47 sh_19 rfl ?_
    refine ps_callV (M2 := mX4_addDay) (av := [.inl (σ 19 0 3)]) (rest := []) (ps_at tX4_planCount_ok 21 rfl) cvX4_52 sh_24 rfl rfl (fun _ => Nat.le_of_ble_eq_true rfl) ?_
    refine ps_C.imp ?_ (h3 c0)
    rintro _ σ1 ⟨rfl, hx⟩
    exact hx
theorem bX4_planCount_38 {d : Nat} {Q : Option ps_V → ps_S → Prop} {v2 : Int32} {v4 : Int32} {σ : ps_S} (h1 : kX4_planCount_24 d Q v2 (v4 + 1) σ) : kX4_planCount_38 d Q v2 v4 σ := by
  refine ps_iinc (L' := [some (.inr (.inr (24, 0))), some (.inr (.inr (19, 0))), some (.inl v2), none, some (.inl (v4 + 1))]) (y := 1) (ps_at tX4_planCount_ok 22 rfl) rfl (by decide) (by decide) rfl ?_
  refine ps_goto (tgt := 24) (ps_at tX4_planCount_ok 23 rfl) (by decide) ?_
  exact h1
theorem eX4_planCount {d : Nat} {Q : Option ps_V → ps_S → Prop} {v2 : Int32} {v3 : Int32} {σ : ps_S} (h : kX4_planCount_0 d Q v2 v3 σ) : ps_C mX4_planCount (d + 1) [.inr (.inr (24, 0)), .inr (.inr (19, 0)), .inl v2, .inl v3] σ Q := ps_enter (by decide) rfl ⟨rfl, rfl, rfl⟩ rfl (Nat.le_of_ble_eq_true rfl) h
abbrev kX4_weighSets_0 (d : Nat) (Q : Option ps_V → ps_S → Prop) (v2 : Int32) (σ : ps_S) : Prop := ps_K mX4_weighSets (d + 1) (ps_QF Q) 0 [some (.inr (.inr (24, 0))), some (.inr (.inr (19, 0))), some (.inl v2), none, none, none] [] σ
abbrev kX4_weighSets_2 (d : Nat) (Q : Option ps_V → ps_S → Prop) (v2 : Int32) (v3 : Int32) (σ : ps_S) : Prop := ps_K mX4_weighSets (d + 1) (ps_QF Q) 2 [some (.inr (.inr (24, 0))), some (.inr (.inr (19, 0))), some (.inl v2), some (.inl v3), none, none] [] σ
abbrev kX4_weighSets_24 (d : Nat) (Q : Option ps_V → ps_S → Prop) (v2 : Int32) (v3 : Int32) (σ : ps_S) : Prop := ps_K mX4_weighSets (d + 1) (ps_QF Q) 24 [some (.inr (.inr (24, 0))), some (.inr (.inr (19, 0))), some (.inl v2), some (.inl v3), none, none] [] σ
abbrev kX4_weighSets_29 (d : Nat) (Q : Option ps_V → ps_S → Prop) (v2 : Int32) (v3 : Int32) (s0 : Int32) (σ : ps_S) : Prop := ps_K mX4_weighSets (d + 1) (ps_QF Q) 29 [some (.inr (.inr (24, 0))), some (.inr (.inr (19, 0))), some (.inl v2), some (.inl v3), none, none] [.inl s0] σ
abbrev kX4_weighSets_54 (d : Nat) (Q : Option ps_V → ps_S → Prop) (v2 : Int32) (v3 : Int32) (s0 : Int32) (σ : ps_S) : Prop := ps_K mX4_weighSets (d + 1) (ps_QF Q) 54 [some (.inr (.inr (24, 0))), some (.inr (.inr (19, 0))), some (.inl v2), some (.inl v3), none, none] [.inl s0, .inr (.inr (25, 0))] σ
abbrev kX4_weighSets_47 (d : Nat) (Q : Option ps_V → ps_S → Prop) (v2 : Int32) (v3 : Int32) (s0 : Int32) (s1 : Int32) (σ : ps_S) : Prop := ps_K mX4_weighSets (d + 1) (ps_QF Q) 47 [some (.inr (.inr (24, 0))), some (.inr (.inr (19, 0))), some (.inl v2), some (.inl v3), none, none] [.inl s0, .inl s1, .inr (.inr (25, 0))] σ
abbrev kX4_weighSets_55 (d : Nat) (Q : Option ps_V → ps_S → Prop) (v2 : Int32) (v3 : Int32) (s0 : Int32) (s1 : Int32) (σ : ps_S) : Prop := ps_K mX4_weighSets (d + 1) (ps_QF Q) 55 [some (.inr (.inr (24, 0))), some (.inr (.inr (19, 0))), some (.inl v2), some (.inl v3), none, none] [.inl s0, .inl s1, .inr (.inr (25, 0))] σ
abbrev kX4_weighSets_66 (d : Nat) (Q : Option ps_V → ps_S → Prop) (v2 : Int32) (v3 : Int32) (s0 : Int32) (s1 : Int32) (σ : ps_S) : Prop := ps_K mX4_weighSets (d + 1) (ps_QF Q) 66 [some (.inr (.inr (24, 0))), some (.inr (.inr (19, 0))), some (.inl v2), some (.inl v3), none, none] [.inl s0, .inl s1, .inr (.inr (26, 0))] σ
theorem bX4_weighSets_0 {d : Nat} {Q : Option ps_V → ps_S → Prop} {v2 : Int32} {σ : ps_S} (h1 : kX4_weighSets_2 d Q v2 0 σ) : kX4_weighSets_0 d Q v2 σ := by
  refine ps_iconst (x := 0) (ps_at tX4_weighSets_ok 0 rfl) (by decide) ?_
  refine ps_istore_n (L' := [some (.inr (.inr (24, 0))), some (.inr (.inr (19, 0))), some (.inl v2), some (.inl 0), none, none]) (ps_at tX4_weighSets_ok 1 rfl) rfl (by decide) rfl ?_
  exact h1
theorem bX4_weighSets_2 {d : Nat} {Q : Option ps_V → ps_S → Prop} {v2 : Int32} {v3 : Int32} {σ : ps_S} (h1 : 64 ≤ v3 → Q none σ) (h2 : ¬ 64 ≤ v3 → (v3 &&& v2) = 0 → kX4_weighSets_24 d Q v2 v3 σ) (h3 : ¬ 64 ≤ v3 → ¬ (v3 &&& v2) = 0 → ¬ (v3 &&& v2) = v2 → kX4_weighSets_29 d Q v2 v3 0 σ) (h4 : ¬ 64 ≤ v3 → ¬ (v3 &&& v2) = 0 → (v3 &&& v2) = v2 → kX4_weighSets_24 d Q v2 v3 σ) : kX4_weighSets_2 d Q v2 v3 σ := by
  refine ps_iload_n (ps_at tX4_weighSets_ok 2 rfl) rfl rfl ?_
  refine ps_bipush (x := 64) (ps_at tX4_weighSets_ok 3 rfl) (by decide) ?_
  refine ps_icmp_ge (tgt := 73) (ps_at tX4_weighSets_ok 4 rfl) (by decide) (fun c0 => ?_) (fun c0 => ?_)
  · skip
    exact ps_vret (ps_at tX4_weighSets_ok 41 rfl) rfl ⟨rfl, rfl⟩ (h1 c0)
  · skip
    refine ps_iload_n (ps_at tX4_weighSets_ok 5 rfl) rfl rfl ?_
    refine ps_iload_n (ps_at tX4_weighSets_ok 6 rfl) rfl rfl ?_
    refine ps_iand (ps_at tX4_weighSets_ok 7 rfl) ?_
    refine ps_istore (L' := [some (.inr (.inr (24, 0))), some (.inr (.inr (19, 0))), some (.inl v2), some (.inl v3), some (.inl (v3 &&& v2)), none]) (ps_at tX4_weighSets_ok 8 rfl) (by decide) rfl ?_
    refine ps_iload (ps_at tX4_weighSets_ok 9 rfl) rfl ?_
    refine ps_if_eq (tgt := 24) (ps_at tX4_weighSets_ok 10 rfl) (by decide) (fun c1 => ?_) (fun c1 => ?_)
    · skip
      refine ps_forget (L' := [some (.inr (.inr (24, 0))), some (.inr (.inr (19, 0))), some (.inl v2), some (.inl v3), none, none]) (And.intro rfl (And.intro rfl (And.intro rfl (And.intro rfl trivial)))) ?_
      exact h2 c0 c1
    · skip
      refine ps_iload (ps_at tX4_weighSets_ok 11 rfl) rfl ?_
      refine ps_iload_n (ps_at tX4_weighSets_ok 12 rfl) rfl rfl ?_
      refine ps_icmp_ne (tgt := 28) (ps_at tX4_weighSets_ok 13 rfl) (by decide) (fun c2 => ?_) (fun c2 => ?_)
      · skip
        refine ps_iconst (x := 0) (ps_at tX4_weighSets_ok 16 rfl) (by decide) ?_
        refine ps_forget (L' := [some (.inr (.inr (24, 0))), some (.inr (.inr (19, 0))), some (.inl v2), some (.inl v3), none, none]) (And.intro rfl (And.intro rfl (And.intro rfl (And.intro rfl trivial)))) ?_
        exact h3 c0 c1 c2
      · skip
        refine ps_forget (L' := [some (.inr (.inr (24, 0))), some (.inr (.inr (19, 0))), some (.inl v2), some (.inl v3), none, none]) (And.intro rfl (And.intro rfl (And.intro rfl (And.intro rfl trivial)))) ?_
        exact h4 c0 c1 c2
theorem bX4_weighSets_24 {d : Nat} {Q : Option ps_V → ps_S → Prop} {v2 : Int32} {v3 : Int32} {σ : ps_S} (h1 : kX4_weighSets_29 d Q v2 v3 1 σ) : kX4_weighSets_24 d Q v2 v3 σ := by
  refine ps_iconst (x := 1) (ps_at tX4_weighSets_ok 14 rfl) (by decide) ?_
  refine ps_goto (tgt := 29) (ps_at tX4_weighSets_ok 15 rfl) (by decide) ?_
  exact h1
theorem bX4_weighSets_29 {d : Nat} {Q : Option ps_V → ps_S → Prop} {v2 : Int32} {v3 : Int32} {s0 : Int32} {σ : ps_S} (h1 : s0 = 0 → kX4_weighSets_54 d Q v2 v3 v3 σ) (h2 : ¬ s0 = 0 → ps_C mX4_canLie d [.inr (.inr (24, 0)), .inr (.inr (19, 0)), .inl v3] σ (ps_ri (fun x σ1 => kX4_weighSets_47 d Q v2 v3 x v3 σ1))) : kX4_weighSets_29 d Q v2 v3 s0 σ := by
  refine ps_istore (L' := [some (.inr (.inr (24, 0))), some (.inr (.inr (19, 0))), some (.inl v2), some (.inl v3), none, some (.inl s0)]) (ps_at tX4_weighSets_ok 17 rfl) (by decide) rfl ?_
  refine ps_aload_n (ps_at tX4_weighSets_ok 18 rfl) rfl rfl ?_
  refine ps_getR (ps_at tX4_weighSets_ok 19 rfl) flX4_9 sh_24 rfl ?_
  refine ps_iload_n (ps_at tX4_weighSets_ok 20 rfl) rfl rfl ?_
  refine ps_iload (ps_at tX4_weighSets_ok 21 rfl) rfl ?_
  refine ps_if_eq (tgt := 54) (ps_at tX4_weighSets_ok 22 rfl) (by decide) (fun c0 => ?_) (fun c0 => ?_)
  · skip
    refine ps_forget (L' := [some (.inr (.inr (24, 0))), some (.inr (.inr (19, 0))), some (.inl v2), some (.inl v3), none, none]) (And.intro rfl (And.intro rfl (And.intro rfl (And.intro rfl trivial)))) ?_
    exact h1 c0
  · skip
    refine ps_aload_n (ps_at tX4_weighSets_ok 23 rfl) rfl rfl ?_
    refine ps_aload_n (ps_at tX4_weighSets_ok 24 rfl) rfl rfl ?_
    refine ps_iload_n (ps_at tX4_weighSets_ok 25 rfl) rfl rfl ?_
    refine ps_callV (M2 := mX4_canLie) (av := [.inr (.inr (19, 0)), .inl v3]) (rest := [.inl v3, .inr (.inr (25, 0))]) (ps_at tX4_weighSets_ok 26 rfl) cvX4_56 sh_24 rfl rfl (fun _ => Nat.le_of_ble_eq_true rfl) ?_
    refine ps_C.imp ?_ (h2 c0)
    rintro _ σ1 ⟨x, rfl, hx⟩
    exact ps_forget (L' := [some (.inr (.inr (24, 0))), some (.inr (.inr (19, 0))), some (.inl v2), some (.inl v3), none, none]) (And.intro rfl (And.intro rfl (And.intro rfl (And.intro rfl trivial)))) hx
theorem bX4_weighSets_54 {d : Nat} {Q : Option ps_V → ps_S → Prop} {v2 : Int32} {v3 : Int32} {s0 : Int32} {σ : ps_S} (h1 : kX4_weighSets_55 d Q v2 v3 0 s0 σ) : kX4_weighSets_54 d Q v2 v3 s0 σ := by
  refine ps_iconst (x := 0) (ps_at tX4_weighSets_ok 30 rfl) (by decide) ?_
  exact h1
theorem bX4_weighSets_47 {d : Nat} {Q : Option ps_V → ps_S → Prop} {v2 : Int32} {v3 : Int32} {s0 : Int32} {s1 : Int32} {σ : ps_S} (h1 : s0 = 0 → kX4_weighSets_54 d Q v2 v3 s1 σ) (h2 : ¬ s0 = 0 → kX4_weighSets_55 d Q v2 v3 1 s1 σ) : kX4_weighSets_47 d Q v2 v3 s0 s1 σ := by
  refine ps_if_eq (tgt := 54) (ps_at tX4_weighSets_ok 27 rfl) (by decide) (fun c0 => ?_) (fun c0 => ?_)
  · skip
    exact h1 c0
  · skip
    refine ps_iconst (x := 1) (ps_at tX4_weighSets_ok 28 rfl) (by decide) ?_
    refine ps_goto (tgt := 55) (ps_at tX4_weighSets_ok 29 rfl) (by decide) ?_
    exact h2 c0
theorem bX4_weighSets_55 {d : Nat} {Q : Option ps_V → ps_S → Prop} {v2 : Int32} {v3 : Int32} {s0 : Int32} {s1 : Int32} {σ : ps_S} (h1 : vp_in s1 64) (h2 : ps_C mX4_formesAhead d [.inr (.inr (19, 0)), .inl v3] (ps_up σ 25 0 s1.toNatClampNeg s0) (ps_ri (fun x σ1 => kX4_weighSets_66 d Q v2 v3 x v3 σ1))) : kX4_weighSets_55 d Q v2 v3 s0 s1 σ := by
  refine ps_iast (ps_at tX4_weighSets_ok 31 rfl) sh_25 (h1) ?_
  refine ps_aload_n (ps_at tX4_weighSets_ok 32 rfl) rfl rfl ?_
  refine ps_getR (ps_at tX4_weighSets_ok 33 rfl) flX4_15 sh_24 rfl ?_
  refine ps_iload_n (ps_at tX4_weighSets_ok 34 rfl) rfl rfl ?_
  refine ps_aload_n (ps_at tX4_weighSets_ok 35 rfl) rfl rfl ?_
  refine ps_iload_n (ps_at tX4_weighSets_ok 36 rfl) rfl rfl ?_
  refine ps_callS (M2 := mX4_formesAhead) (av := [.inr (.inr (19, 0)), .inl v3]) (rest := [.inl v3, .inr (.inr (26, 0))]) (ps_at tX4_weighSets_ok 37 rfl) csX4_60 rfl rfl (fun _ => Nat.le_of_ble_eq_true rfl) ?_
  refine ps_C.imp ?_ (h2)
  rintro _ σ1 ⟨x, rfl, hx⟩
  exact hx
theorem bX4_weighSets_66 {d : Nat} {Q : Option ps_V → ps_S → Prop} {v2 : Int32} {v3 : Int32} {s0 : Int32} {s1 : Int32} {σ : ps_S} (h1 : vp_in s1 64) (h2 : kX4_weighSets_2 d Q v2 (v3 + 1) (ps_up σ 26 0 s1.toNatClampNeg s0)) : kX4_weighSets_66 d Q v2 v3 s0 s1 σ := by
  refine ps_iast (ps_at tX4_weighSets_ok 38 rfl) sh_26 (h1) ?_
  refine ps_iinc (L' := [some (.inr (.inr (24, 0))), some (.inr (.inr (19, 0))), some (.inl v2), some (.inl (v3 + 1)), none, none]) (y := 1) (ps_at tX4_weighSets_ok 39 rfl) rfl (by decide) (by decide) rfl ?_
  refine ps_goto (tgt := 2) (ps_at tX4_weighSets_ok 40 rfl) (by decide) ?_
  exact h2
theorem eX4_weighSets {d : Nat} {Q : Option ps_V → ps_S → Prop} {v2 : Int32} {σ : ps_S} (h : kX4_weighSets_0 d Q v2 σ) : ps_C mX4_weighSets (d + 1) [.inr (.inr (24, 0)), .inr (.inr (19, 0)), .inl v2] σ Q := ps_enter (by decide) rfl ⟨rfl, rfl, rfl⟩ rfl (Nat.le_of_ble_eq_true rfl) h
abbrev kX4_canLie_0 (d : Nat) (Q : Option ps_V → ps_S → Prop) (v2 : Int32) (σ : ps_S) : Prop := ps_K mX4_canLie (d + 1) (ps_QF Q) 0 [some (.inr (.inr (24, 0))), some (.inr (.inr (19, 0))), some (.inl v2), none, none] [] σ
abbrev kX4_canLie_15 (d : Nat) (Q : Option ps_V → ps_S → Prop) (v2 : Int32) (v3 : Int32) (σ : ps_S) : Prop := ps_K mX4_canLie (d + 1) (ps_QF Q) 15 [none, some (.inr (.inr (19, 0))), some (.inl v2), some (.inl v3), none] [] σ
theorem bX4_canLie_0 {d : Nat} {Q : Option ps_V → ps_S → Prop} {v2 : Int32} {σ : ps_S} (h1 : (jbPop v2) ≤ (σ 24 0 5) → kX4_canLie_15 d Q v2 0 σ) (h2 : ¬ (jbPop v2) ≤ (σ 24 0 5) → Q (some (.inl 0)) σ) : kX4_canLie_0 d Q v2 σ := by
  refine ps_iload_n (ps_at tX4_canLie_ok 0 rfl) rfl rfl ?_
  refine ps_callS (M2 := mJ6_bitCount_0f7a4) (av := [.inl v2]) (rest := []) (ps_at tX4_canLie_ok 1 rfl) csX4_64 rfl rfl (fun _ => Nat.le_of_ble_eq_true rfl) (pJ6_bitCount_0f7a4 ?_)
  refine ps_aload_n (ps_at tX4_canLie_ok 2 rfl) rfl rfl ?_
  refine ps_getI (ps_at tX4_canLie_ok 3 rfl) flX4_27 sh_24 rfl ?_
  refine ps_icmp_le (tgt := 13) (ps_at tX4_canLie_ok 4 rfl) (by decide) (fun c0 => ?_) (fun c0 => ?_)
  · skip
    refine ps_iconst (x := 0) (ps_at tX4_canLie_ok 7 rfl) (by decide) ?_
    refine ps_istore_n (L' := [some (.inr (.inr (24, 0))), some (.inr (.inr (19, 0))), some (.inl v2), some (.inl 0), none]) (ps_at tX4_canLie_ok 8 rfl) rfl (by decide) rfl ?_
    refine ps_forget (L' := [none, some (.inr (.inr (19, 0))), some (.inl v2), some (.inl 0), none]) (And.intro rfl (And.intro rfl (And.intro rfl trivial))) ?_
    exact h1 c0
  · skip
    refine ps_iconst (x := 0) (ps_at tX4_canLie_ok 5 rfl) (by decide) ?_
    exact ps_zret (ps_at tX4_canLie_ok 6 rfl) rfl ⟨rfl, rfl⟩ (Or.inl rfl) (h2 c0)
theorem bX4_canLie_15 {d : Nat} {Q : Option ps_V → ps_S → Prop} {v2 : Int32} {v3 : Int32} {σ : ps_S} (h1 : 6 ≤ v3 → Q (some (.inl 1)) σ) (h2 : ¬ 6 ≤ v3 → (v2 &&& (((1 : Int32) <<< (v3 &&& 31)) ^^^ (-1))) = v2 → kX4_canLie_15 d Q v2 (v3 + 1) σ) (h3 : ¬ 6 ≤ v3 → ¬ (v2 &&& (((1 : Int32) <<< (v3 &&& 31)) ^^^ (-1))) = v2 → vp_in v3 6) (h4 : ¬ 6 ≤ v3 → ¬ (v2 &&& (((1 : Int32) <<< (v3 &&& 31)) ^^^ (-1))) = v2 → ((σ 22 0 v3.toNatClampNeg) &&& (v2 &&& (((1 : Int32) <<< (v3 &&& 31)) ^^^ (-1)))) = 0 → kX4_canLie_15 d Q v2 (v3 + 1) σ) (h5 : ¬ 6 ≤ v3 → ¬ (v2 &&& (((1 : Int32) <<< (v3 &&& 31)) ^^^ (-1))) = v2 → ¬ ((σ 22 0 v3.toNatClampNeg) &&& (v2 &&& (((1 : Int32) <<< (v3 &&& 31)) ^^^ (-1)))) = 0 → Q (some (.inl 0)) σ) : kX4_canLie_15 d Q v2 v3 σ := by
  refine ps_iload_n (ps_at tX4_canLie_ok 9 rfl) rfl rfl ?_
  refine ps_bipush (x := 6) (ps_at tX4_canLie_ok 10 rfl) (by decide) ?_
  refine ps_icmp_ge (tgt := 56) (ps_at tX4_canLie_ok 11 rfl) (by decide) (fun c0 => ?_) (fun c0 => ?_)
  · skip
    refine ps_iconst (x := 1) (ps_at tX4_canLie_ok 34 rfl) (by decide) ?_
    exact ps_zret (ps_at tX4_canLie_ok 35 rfl) rfl ⟨rfl, rfl⟩ (Or.inr rfl) (h1 c0)
  · skip
    refine ps_iload_n (ps_at tX4_canLie_ok 12 rfl) rfl rfl ?_
    refine ps_iconst (x := 1) (ps_at tX4_canLie_ok 13 rfl) (by decide) ?_
    refine ps_iload_n (ps_at tX4_canLie_ok 14 rfl) rfl rfl ?_
    refine ps_ishl (ps_at tX4_canLie_ok 15 rfl) ?_
    refine ps_iconst (x := (-1)) (ps_at tX4_canLie_ok 16 rfl) (by decide) ?_
    refine ps_ixor (ps_at tX4_canLie_ok 17 rfl) ?_
    refine ps_iand (ps_at tX4_canLie_ok 18 rfl) ?_
    refine ps_istore (L' := [none, some (.inr (.inr (19, 0))), some (.inl v2), some (.inl v3), some (.inl (v2 &&& (((1 : Int32) <<< (v3 &&& 31)) ^^^ (-1))))]) (ps_at tX4_canLie_ok 19 rfl) (by decide) rfl ?_
    refine ps_iload (ps_at tX4_canLie_ok 20 rfl) rfl ?_
    refine ps_iload_n (ps_at tX4_canLie_ok 21 rfl) rfl rfl ?_
    refine ps_icmp_eq (tgt := 50) (ps_at tX4_canLie_ok 22 rfl) (by decide) (fun c1 => ?_) (fun c1 => ?_)
    · skip
      refine ps_iinc (L' := [none, some (.inr (.inr (19, 0))), some (.inl v2), some (.inl (v3 + 1)), some (.inl (v2 &&& (((1 : Int32) <<< (v3 &&& 31)) ^^^ (-1))))]) (y := 1) (ps_at tX4_canLie_ok 32 rfl) rfl (by decide) (by decide) rfl ?_
      refine ps_goto (tgt := 15) (ps_at tX4_canLie_ok 33 rfl) (by decide) ?_
      refine ps_forget (L' := [none, some (.inr (.inr (19, 0))), some (.inl v2), some (.inl (v3 + 1)), none]) (And.intro rfl (And.intro rfl (And.intro rfl trivial))) ?_
      exact h2 c0 c1
    · skip
      refine ps_aload_n (ps_at tX4_canLie_ok 23 rfl) rfl rfl ?_
      refine ps_getR (ps_at tX4_canLie_ok 24 rfl) flX4_70 sh_19 rfl ?_
      refine ps_iload_n (ps_at tX4_canLie_ok 25 rfl) rfl rfl ?_
      refine ps_iald (ps_at tX4_canLie_ok 26 rfl) sh_22 (h3 c0 c1) ?_
      refine ps_iload (ps_at tX4_canLie_ok 27 rfl) rfl ?_
      refine ps_iand (ps_at tX4_canLie_ok 28 rfl) ?_
      refine ps_if_eq (tgt := 50) (ps_at tX4_canLie_ok 29 rfl) (by decide) (fun c2 => ?_) (fun c2 => ?_)
      · skip
        refine ps_iinc (L' := [none, some (.inr (.inr (19, 0))), some (.inl v2), some (.inl (v3 + 1)), some (.inl (v2 &&& (((1 : Int32) <<< (v3 &&& 31)) ^^^ (-1))))]) (y := 1) (ps_at tX4_canLie_ok 32 rfl) rfl (by decide) (by decide) rfl ?_
        refine ps_goto (tgt := 15) (ps_at tX4_canLie_ok 33 rfl) (by decide) ?_
        refine ps_forget (L' := [none, some (.inr (.inr (19, 0))), some (.inl v2), some (.inl (v3 + 1)), none]) (And.intro rfl (And.intro rfl (And.intro rfl trivial))) ?_
        exact h4 c0 c1 c2
      · skip
        refine ps_iconst (x := 0) (ps_at tX4_canLie_ok 30 rfl) (by decide) ?_
        exact ps_zret (ps_at tX4_canLie_ok 31 rfl) rfl ⟨rfl, rfl⟩ (Or.inl rfl) (h5 c0 c1 c2)
theorem eX4_canLie {d : Nat} {Q : Option ps_V → ps_S → Prop} {v2 : Int32} {σ : ps_S} (h : kX4_canLie_0 d Q v2 σ) : ps_C mX4_canLie (d + 1) [.inr (.inr (24, 0)), .inr (.inr (19, 0)), .inl v2] σ Q := ps_enter (by decide) rfl ⟨rfl, rfl, rfl⟩ rfl (Nat.le_of_ble_eq_true rfl) h
abbrev kX4_formesAhead_0 (d : Nat) (Q : Option ps_V → ps_S → Prop) (v1 : Int32) (σ : ps_S) : Prop := ps_K mX4_formesAhead d (ps_QF Q) 0 [some (.inr (.inr (19, 0))), some (.inl v1), none, none] [] σ
abbrev kX4_formesAhead_4 (d : Nat) (Q : Option ps_V → ps_S → Prop) (v1 : Int32) (v2 : Int32) (v3 : Int32) (σ : ps_S) : Prop := ps_K mX4_formesAhead d (ps_QF Q) 4 [some (.inr (.inr (19, 0))), some (.inl v1), some (.inl v2), some (.inl v3)] [] σ
theorem bX4_formesAhead_0 {d : Nat} {Q : Option ps_V → ps_S → Prop} {v1 : Int32} {σ : ps_S} (h1 : kX4_formesAhead_4 d Q v1 0 0 σ) : kX4_formesAhead_0 d Q v1 σ := by
  refine ps_iconst (x := 0) (ps_at tX4_formesAhead_ok 0 rfl) (by decide) ?_
  refine ps_istore_n (L' := [some (.inr (.inr (19, 0))), some (.inl v1), some (.inl 0), none]) (ps_at tX4_formesAhead_ok 1 rfl) rfl (by decide) rfl ?_
  refine ps_iconst (x := 0) (ps_at tX4_formesAhead_ok 2 rfl) (by decide) ?_
  refine ps_istore_n (L' := [some (.inr (.inr (19, 0))), some (.inl v1), some (.inl 0), some (.inl 0)]) (ps_at tX4_formesAhead_ok 3 rfl) rfl (by decide) rfl ?_
  exact h1
theorem bX4_formesAhead_4 {d : Nat} {Q : Option ps_V → ps_S → Prop} {v1 : Int32} {v2 : Int32} {v3 : Int32} {σ : ps_S} (h1 : 6 ≤ v3 → Q (some (.inl v2)) σ) (h2 : ¬ 6 ≤ v3 → vp_in v3 6) (h3 : ¬ 6 ≤ v3 → ((σ 23 0 v3.toNatClampNeg) &&& v1) = 0 → kX4_formesAhead_4 d Q v1 v2 (v3 + 1) σ) (h4 : ¬ 6 ≤ v3 → ¬ ((σ 23 0 v3.toNatClampNeg) &&& v1) = 0 → kX4_formesAhead_4 d Q v1 (v2 ||| ((1 : Int32) <<< (v3 &&& 31))) (v3 + 1) σ) : kX4_formesAhead_4 d Q v1 v2 v3 σ := by
  refine ps_iload_n (ps_at tX4_formesAhead_ok 4 rfl) rfl rfl ?_
  refine ps_bipush (x := 6) (ps_at tX4_formesAhead_ok 5 rfl) (by decide) ?_
  refine ps_icmp_ge (tgt := 33) (ps_at tX4_formesAhead_ok 6 rfl) (by decide) (fun c0 => ?_) (fun c0 => ?_)
  · skip
    refine ps_iload_n (ps_at tX4_formesAhead_ok 22 rfl) rfl rfl ?_
    exact ps_iret (ps_at tX4_formesAhead_ok 23 rfl) rfl ⟨rfl, rfl⟩ (h1 c0)
  · skip
    refine ps_aload_n (ps_at tX4_formesAhead_ok 7 rfl) rfl rfl ?_
    refine ps_getR (ps_at tX4_formesAhead_ok 8 rfl) flX4_73 sh_19 rfl ?_
    refine ps_iload_n (ps_at tX4_formesAhead_ok 9 rfl) rfl rfl ?_
    refine ps_iald (ps_at tX4_formesAhead_ok 10 rfl) sh_23 (h2 c0) ?_
    refine ps_iload_n (ps_at tX4_formesAhead_ok 11 rfl) rfl rfl ?_
    refine ps_iand (ps_at tX4_formesAhead_ok 12 rfl) ?_
    refine ps_if_eq (tgt := 27) (ps_at tX4_formesAhead_ok 13 rfl) (by decide) (fun c1 => ?_) (fun c1 => ?_)
    · skip
      refine ps_iinc (L' := [some (.inr (.inr (19, 0))), some (.inl v1), some (.inl v2), some (.inl (v3 + 1))]) (y := 1) (ps_at tX4_formesAhead_ok 20 rfl) rfl (by decide) (by decide) rfl ?_
      refine ps_goto (tgt := 4) (ps_at tX4_formesAhead_ok 21 rfl) (by decide) ?_
      exact h3 c0 c1
    · skip
      refine ps_iload_n (ps_at tX4_formesAhead_ok 14 rfl) rfl rfl ?_
      refine ps_iconst (x := 1) (ps_at tX4_formesAhead_ok 15 rfl) (by decide) ?_
      refine ps_iload_n (ps_at tX4_formesAhead_ok 16 rfl) rfl rfl ?_
      refine ps_ishl (ps_at tX4_formesAhead_ok 17 rfl) ?_
      refine ps_ior (ps_at tX4_formesAhead_ok 18 rfl) ?_
      refine ps_istore_n (L' := [some (.inr (.inr (19, 0))), some (.inl v1), some (.inl (v2 ||| ((1 : Int32) <<< (v3 &&& 31)))), some (.inl v3)]) (ps_at tX4_formesAhead_ok 19 rfl) rfl (by decide) rfl ?_
      refine ps_iinc (L' := [some (.inr (.inr (19, 0))), some (.inl v1), some (.inl (v2 ||| ((1 : Int32) <<< (v3 &&& 31)))), some (.inl (v3 + 1))]) (y := 1) (ps_at tX4_formesAhead_ok 20 rfl) rfl (by decide) (by decide) rfl ?_
      refine ps_goto (tgt := 4) (ps_at tX4_formesAhead_ok 21 rfl) (by decide) ?_
      exact h4 c0 c1
theorem eX4_formesAhead {d : Nat} {Q : Option ps_V → ps_S → Prop} {v1 : Int32} {σ : ps_S} (h : kX4_formesAhead_0 d Q v1 σ) : ps_C mX4_formesAhead d [.inr (.inr (19, 0)), .inl v1] σ Q := ps_enter (by decide) rfl ⟨rfl, rfl, rfl⟩ rfl (Nat.le_of_ble_eq_true rfl) h
abbrev kX4_addDay_0 (d : Nat) (Q : Option ps_V → ps_S → Prop) (v1 : Int32) (σ : ps_S) : Prop := ps_K mX4_addDay d (ps_QF Q) 0 [some (.inr (.inr (24, 0))), some (.inl v1), none, none, none] [] σ
abbrev kX4_addDay_2 (d : Nat) (Q : Option ps_V → ps_S → Prop) (v1 : Int32) (v2 : Int32) (σ : ps_S) : Prop := ps_K mX4_addDay d (ps_QF Q) 2 [some (.inr (.inr (24, 0))), some (.inl v1), some (.inl v2), none, none] [] σ
abbrev kX4_addDay_16 (d : Nat) (Q : Option ps_V → ps_S → Prop) (v1 : Int32) (v2 : Int32) (v3 : Int32) (v4 : Int32) (σ : ps_S) : Prop := ps_K mX4_addDay d (ps_QF Q) 16 [some (.inr (.inr (24, 0))), some (.inl v1), some (.inl v2), some (.inl v3), some (.inl v4)] [] σ
theorem bX4_addDay_0 {d : Nat} {Q : Option ps_V → ps_S → Prop} {v1 : Int32} {σ : ps_S} (h1 : kX4_addDay_2 d Q v1 v1 σ) : kX4_addDay_0 d Q v1 σ := by
  refine ps_iload_n (ps_at tX4_addDay_ok 0 rfl) rfl rfl ?_
  refine ps_istore_n (L' := [some (.inr (.inr (24, 0))), some (.inl v1), some (.inl v1), none, none]) (ps_at tX4_addDay_ok 1 rfl) rfl (by decide) rfl ?_
  exact h1
theorem bX4_addDay_2 {d : Nat} {Q : Option ps_V → ps_S → Prop} {v1 : Int32} {v2 : Int32} {σ : ps_S} (h1 : v2 ≤ 0 → Q none σ) (h2 : ¬ v2 ≤ 0 → vp_in v2 64) (h3 : ¬ v2 ≤ 0 → kX4_addDay_16 d Q v1 v2 (σ 27 0 v2.toNatClampNeg) v2 σ) : kX4_addDay_2 d Q v1 v2 σ := by
  refine ps_iload_n (ps_at tX4_addDay_ok 2 rfl) rfl rfl ?_
  refine ps_if_le (tgt := 87) (ps_at tX4_addDay_ok 3 rfl) (by decide) (fun c0 => ?_) (fun c0 => ?_)
  · skip
    exact ps_vret (ps_at tX4_addDay_ok 57 rfl) rfl ⟨rfl, rfl⟩ (h1 c0)
  · skip
    refine ps_aload_n (ps_at tX4_addDay_ok 4 rfl) rfl rfl ?_
    refine ps_getR (ps_at tX4_addDay_ok 5 rfl) flX4_18 sh_24 rfl ?_
    refine ps_iload_n (ps_at tX4_addDay_ok 6 rfl) rfl rfl ?_
    refine ps_iald (ps_at tX4_addDay_ok 7 rfl) sh_27 (h2 c0) ?_
    refine ps_istore_n (L' := [some (.inr (.inr (24, 0))), some (.inl v1), some (.inl v2), some (.inl (σ 27 0 v2.toNatClampNeg)), none]) (ps_at tX4_addDay_ok 8 rfl) rfl (by decide) rfl ?_
    refine ps_iload_n (ps_at tX4_addDay_ok 9 rfl) rfl rfl ?_
    refine ps_istore (L' := [some (.inr (.inr (24, 0))), some (.inl v1), some (.inl v2), some (.inl (σ 27 0 v2.toNatClampNeg)), some (.inl v2)]) (ps_at tX4_addDay_ok 10 rfl) (by decide) rfl ?_
    exact h3 c0
theorem bX4_addDay_16 {d : Nat} {Q : Option ps_V → ps_S → Prop} {v1 : Int32} {v2 : Int32} {v3 : Int32} {v4 : Int32} {σ : ps_S} (h1 : v4 ≤ 0 → vp_in v2 64) (h2 : v4 ≤ 0 → kX4_addDay_2 d Q v1 ((v2 - 1) &&& v1) (ps_up σ 27 0 v2.toNatClampNeg v3)) (h3 : ¬ v4 ≤ 0 → vp_in v4 64) (h4 : ¬ v4 ≤ 0 → (σ 25 0 v4.toNatClampNeg) = 0 → kX4_addDay_16 d Q v1 v2 v3 ((v4 - 1) &&& v2) σ) (h5 : ¬ v4 ≤ 0 → ¬ (σ 25 0 v4.toNatClampNeg) = 0 → ¬ ((σ 26 0 v4.toNatClampNeg) &&& ((v2 ^^^ v4) ^^^ (-1))) = 0 → kX4_addDay_16 d Q v1 v2 v3 ((v4 - 1) &&& v2) σ) (h6 : ¬ v4 ≤ 0 → ¬ (σ 25 0 v4.toNatClampNeg) = 0 → ((σ 26 0 v4.toNatClampNeg) &&& ((v2 ^^^ v4) ^^^ (-1))) = 0 → vp_in (v2 ^^^ v4) 64) (h7 : ¬ v4 ≤ 0 → ¬ (σ 25 0 v4.toNatClampNeg) = 0 → ((σ 26 0 v4.toNatClampNeg) &&& ((v2 ^^^ v4) ^^^ (-1))) = 0 → kX4_addDay_16 d Q v1 v2 (v3 + (σ 27 0 (v2 ^^^ v4).toNatClampNeg)) ((v4 - 1) &&& v2) σ) : kX4_addDay_16 d Q v1 v2 v3 v4 σ := by
  refine ps_iload (ps_at tX4_addDay_ok 11 rfl) rfl ?_
  refine ps_if_le (tgt := 71) (ps_at tX4_addDay_ok 12 rfl) (by decide) (fun c0 => ?_) (fun c0 => ?_)
  · skip
    refine ps_aload_n (ps_at tX4_addDay_ok 45 rfl) rfl rfl ?_
    refine ps_getR (ps_at tX4_addDay_ok 46 rfl) flX4_18 sh_24 rfl ?_
    refine ps_iload_n (ps_at tX4_addDay_ok 47 rfl) rfl rfl ?_
    refine ps_iload_n (ps_at tX4_addDay_ok 48 rfl) rfl rfl ?_
    refine ps_iast (ps_at tX4_addDay_ok 49 rfl) sh_27 (h1 c0) ?_
    refine ps_iload_n (ps_at tX4_addDay_ok 50 rfl) rfl rfl ?_
    refine ps_iconst (x := 1) (ps_at tX4_addDay_ok 51 rfl) (by decide) ?_
    refine ps_isub (ps_at tX4_addDay_ok 52 rfl) ?_
    refine ps_iload_n (ps_at tX4_addDay_ok 53 rfl) rfl rfl ?_
    refine ps_iand (ps_at tX4_addDay_ok 54 rfl) ?_
    refine ps_istore_n (L' := [some (.inr (.inr (24, 0))), some (.inl v1), some (.inl ((v2 - 1) &&& v1)), some (.inl v3), some (.inl v4)]) (ps_at tX4_addDay_ok 55 rfl) rfl (by decide) rfl ?_
    refine ps_goto (tgt := 2) (ps_at tX4_addDay_ok 56 rfl) (by decide) ?_
    refine ps_forget (L' := [some (.inr (.inr (24, 0))), some (.inl v1), some (.inl ((v2 - 1) &&& v1)), none, none]) (And.intro rfl (And.intro rfl (And.intro rfl trivial))) ?_
    exact h2 c0
  · skip
    refine ps_aload_n (ps_at tX4_addDay_ok 13 rfl) rfl rfl ?_
    refine ps_getR (ps_at tX4_addDay_ok 14 rfl) flX4_9 sh_24 rfl ?_
    refine ps_iload (ps_at tX4_addDay_ok 15 rfl) rfl ?_
    refine ps_iald (ps_at tX4_addDay_ok 16 rfl) sh_25 (h3 c0) ?_
    refine ps_if_eq (tgt := 60) (ps_at tX4_addDay_ok 17 rfl) (by decide) (fun c1 => ?_) (fun c1 => ?_)
    · skip
      refine ps_iload (ps_at tX4_addDay_ok 38 rfl) rfl ?_
      refine ps_iconst (x := 1) (ps_at tX4_addDay_ok 39 rfl) (by decide) ?_
      refine ps_isub (ps_at tX4_addDay_ok 40 rfl) ?_
      refine ps_iload_n (ps_at tX4_addDay_ok 41 rfl) rfl rfl ?_
      refine ps_iand (ps_at tX4_addDay_ok 42 rfl) ?_
      refine ps_istore (L' := [some (.inr (.inr (24, 0))), some (.inl v1), some (.inl v2), some (.inl v3), some (.inl ((v4 - 1) &&& v2))]) (ps_at tX4_addDay_ok 43 rfl) (by decide) rfl ?_
      refine ps_goto (tgt := 16) (ps_at tX4_addDay_ok 44 rfl) (by decide) ?_
      exact h4 c0 c1
    · skip
      refine ps_aload_n (ps_at tX4_addDay_ok 18 rfl) rfl rfl ?_
      refine ps_getR (ps_at tX4_addDay_ok 19 rfl) flX4_15 sh_24 rfl ?_
      refine ps_iload (ps_at tX4_addDay_ok 20 rfl) rfl ?_
      refine ps_iald (ps_at tX4_addDay_ok 21 rfl) sh_26 (h3 c0) ?_
      refine ps_iload_n (ps_at tX4_addDay_ok 22 rfl) rfl rfl ?_
      refine ps_iload (ps_at tX4_addDay_ok 23 rfl) rfl ?_
      refine ps_ixor (ps_at tX4_addDay_ok 24 rfl) ?_
      refine ps_iconst (x := (-1)) (ps_at tX4_addDay_ok 25 rfl) (by decide) ?_
      refine ps_ixor (ps_at tX4_addDay_ok 26 rfl) ?_
      refine ps_iand (ps_at tX4_addDay_ok 27 rfl) ?_
      refine ps_if_ne (tgt := 60) (ps_at tX4_addDay_ok 28 rfl) (by decide) (fun c2 => ?_) (fun c2 => ?_)
      · skip
        refine ps_iload (ps_at tX4_addDay_ok 38 rfl) rfl ?_
        refine ps_iconst (x := 1) (ps_at tX4_addDay_ok 39 rfl) (by decide) ?_
        refine ps_isub (ps_at tX4_addDay_ok 40 rfl) ?_
        refine ps_iload_n (ps_at tX4_addDay_ok 41 rfl) rfl rfl ?_
        refine ps_iand (ps_at tX4_addDay_ok 42 rfl) ?_
        refine ps_istore (L' := [some (.inr (.inr (24, 0))), some (.inl v1), some (.inl v2), some (.inl v3), some (.inl ((v4 - 1) &&& v2))]) (ps_at tX4_addDay_ok 43 rfl) (by decide) rfl ?_
        refine ps_goto (tgt := 16) (ps_at tX4_addDay_ok 44 rfl) (by decide) ?_
        exact h5 c0 c1 c2
      · skip
        refine ps_iload_n (ps_at tX4_addDay_ok 29 rfl) rfl rfl ?_
        refine ps_aload_n (ps_at tX4_addDay_ok 30 rfl) rfl rfl ?_
        refine ps_getR (ps_at tX4_addDay_ok 31 rfl) flX4_18 sh_24 rfl ?_
        refine ps_iload_n (ps_at tX4_addDay_ok 32 rfl) rfl rfl ?_
        refine ps_iload (ps_at tX4_addDay_ok 33 rfl) rfl ?_
        refine ps_ixor (ps_at tX4_addDay_ok 34 rfl) ?_
        refine ps_iald (ps_at tX4_addDay_ok 35 rfl) sh_27 (h6 c0 c1 c2) ?_
        refine ps_iadd (ps_at tX4_addDay_ok 36 rfl) ?_
        refine ps_istore_n (L' := [some (.inr (.inr (24, 0))), some (.inl v1), some (.inl v2), some (.inl (v3 + (σ 27 0 (v2 ^^^ v4).toNatClampNeg))), some (.inl v4)]) (ps_at tX4_addDay_ok 37 rfl) rfl (by decide) rfl ?_
        refine ps_iload (ps_at tX4_addDay_ok 38 rfl) rfl ?_
        refine ps_iconst (x := 1) (ps_at tX4_addDay_ok 39 rfl) (by decide) ?_
        refine ps_isub (ps_at tX4_addDay_ok 40 rfl) ?_
        refine ps_iload_n (ps_at tX4_addDay_ok 41 rfl) rfl rfl ?_
        refine ps_iand (ps_at tX4_addDay_ok 42 rfl) ?_
        refine ps_istore (L' := [some (.inr (.inr (24, 0))), some (.inl v1), some (.inl v2), some (.inl (v3 + (σ 27 0 (v2 ^^^ v4).toNatClampNeg))), some (.inl ((v4 - 1) &&& v2))]) (ps_at tX4_addDay_ok 43 rfl) (by decide) rfl ?_
        refine ps_goto (tgt := 16) (ps_at tX4_addDay_ok 44 rfl) (by decide) ?_
        exact h7 c0 c1 c2
theorem eX4_addDay {d : Nat} {Q : Option ps_V → ps_S → Prop} {v1 : Int32} {σ : ps_S} (h : kX4_addDay_0 d Q v1 σ) : ps_C mX4_addDay d [.inr (.inr (24, 0)), .inl v1] σ Q := ps_enter (by decide) rfl ⟨rfl, rfl, rfl⟩ rfl (Nat.le_of_ble_eq_true rfl) h
abbrev kX4_dayInFirst_0 (d : Nat) (Q : Option ps_V → ps_S → Prop) (v2 : Int32) (v3 : Int32) (σ : ps_S) : Prop := ps_K mX4_dayInFirst (d + 1) (ps_QF Q) 0 [some (.inr (.inr (24, 0))), some (.inr (.inr (19, 0))), some (.inl v2), some (.inl v3)] [] σ
abbrev kX4_dayInFirst_14 (d : Nat) (Q : Option ps_V → ps_S → Prop) (v2 : Int32) (v3 : Int32) (σ : ps_S) : Prop := ps_K mX4_dayInFirst (d + 1) (ps_QF Q) 14 [some (.inr (.inr (24, 0))), none, some (.inl v2), some (.inl v3)] [] σ
theorem bX4_dayInFirst_0 {d : Nat} {Q : Option ps_V → ps_S → Prop} {v2 : Int32} {v3 : Int32} {σ : ps_S} (h1 : (σ 24 0 6) = v2 → vp_in v3 6) (h2 : (σ 24 0 6) = v2 → Q (some (.inl (σ 28 0 v3.toNatClampNeg))) σ) (h3 : ¬ (σ 24 0 6) = v2 → ps_C mX4_makeFirst d [.inr (.inr (24, 0)), .inr (.inr (19, 0)), .inl v2] σ (ps_rv (fun σ1 => kX4_dayInFirst_14 d Q v2 v3 σ1))) : kX4_dayInFirst_0 d Q v2 v3 σ := by
  refine ps_aload_n (ps_at tX4_dayInFirst_ok 0 rfl) rfl rfl ?_
  refine ps_getI (ps_at tX4_dayInFirst_ok 1 rfl) flX4_31 sh_24 rfl ?_
  refine ps_iload_n (ps_at tX4_dayInFirst_ok 2 rfl) rfl rfl ?_
  refine ps_icmp_eq (tgt := 19) (ps_at tX4_dayInFirst_ok 3 rfl) (by decide) (fun c0 => ?_) (fun c0 => ?_)
  · skip
    refine ps_aload_n (ps_at tX4_dayInFirst_ok 11 rfl) rfl rfl ?_
    refine ps_getR (ps_at tX4_dayInFirst_ok 12 rfl) flX4_21 sh_24 rfl ?_
    refine ps_iload_n (ps_at tX4_dayInFirst_ok 13 rfl) rfl rfl ?_
    refine ps_iald (ps_at tX4_dayInFirst_ok 14 rfl) sh_28 (h1 c0) ?_
    exact ps_iret (ps_at tX4_dayInFirst_ok 15 rfl) rfl ⟨rfl, rfl⟩ (h2 c0)
  · skip
    refine ps_aload_n (ps_at tX4_dayInFirst_ok 4 rfl) rfl rfl ?_
    refine ps_aload_n (ps_at tX4_dayInFirst_ok 5 rfl) rfl rfl ?_
    refine ps_iload_n (ps_at tX4_dayInFirst_ok 6 rfl) rfl rfl ?_
    refine ps_callV (M2 := mX4_makeFirst) (av := [.inr (.inr (19, 0)), .inl v2]) (rest := []) (ps_at tX4_dayInFirst_ok 7 rfl) cvX4_76 sh_24 rfl rfl (fun _ => Nat.le_of_ble_eq_true rfl) ?_
    refine ps_C.imp ?_ (h3 c0)
    rintro _ σ1 ⟨rfl, hx⟩
    exact ps_forget (L' := [some (.inr (.inr (24, 0))), none, some (.inl v2), some (.inl v3)]) (And.intro rfl (And.intro rfl (And.intro rfl trivial))) hx
theorem bX4_dayInFirst_14 {d : Nat} {Q : Option ps_V → ps_S → Prop} {v2 : Int32} {v3 : Int32} {σ : ps_S} (h1 : vp_in v3 6) (h2 : Q (some (.inl ((ps_up σ 24 0 6 v2) 28 0 v3.toNatClampNeg))) (ps_up σ 24 0 6 v2)) : kX4_dayInFirst_14 d Q v2 v3 σ := by
  refine ps_aload_n (ps_at tX4_dayInFirst_ok 8 rfl) rfl rfl ?_
  refine ps_iload_n (ps_at tX4_dayInFirst_ok 9 rfl) rfl rfl ?_
  refine ps_putI (ps_at tX4_dayInFirst_ok 10 rfl) fpX4_31 sh_24 rfl ?_
  refine ps_aload_n (ps_at tX4_dayInFirst_ok 11 rfl) rfl rfl ?_
  refine ps_getR (ps_at tX4_dayInFirst_ok 12 rfl) flX4_21 sh_24 rfl ?_
  refine ps_iload_n (ps_at tX4_dayInFirst_ok 13 rfl) rfl rfl ?_
  refine ps_iald (ps_at tX4_dayInFirst_ok 14 rfl) sh_28 (h1) ?_
  exact ps_iret (ps_at tX4_dayInFirst_ok 15 rfl) rfl ⟨rfl, rfl⟩ (h2)
theorem eX4_dayInFirst {d : Nat} {Q : Option ps_V → ps_S → Prop} {v2 : Int32} {v3 : Int32} {σ : ps_S} (h : kX4_dayInFirst_0 d Q v2 v3 σ) : ps_C mX4_dayInFirst (d + 1) [.inr (.inr (24, 0)), .inr (.inr (19, 0)), .inl v2, .inl v3] σ Q := ps_enter (by decide) rfl ⟨rfl, rfl, rfl⟩ rfl (Nat.le_of_ble_eq_true rfl) h
abbrev kX4_makeFirst_0 (d : Nat) (Q : Option ps_V → ps_S → Prop) (v2 : Int32) (σ : ps_S) : Prop := ps_K mX4_makeFirst (d + 1) (ps_QF Q) 0 [some (.inr (.inr (24, 0))), some (.inr (.inr (19, 0))), some (.inl v2)] [] σ
abbrev kX4_makeFirst_8 (d : Nat) (Q : Option ps_V → ps_S → Prop) (v2 : Int32) (σ : ps_S) : Prop := ps_K mX4_makeFirst (d + 1) (ps_QF Q) 8 [some (.inr (.inr (24, 0))), some (.inr (.inr (19, 0))), some (.inl v2)] [] σ
abbrev kX4_makeFirst_17 (d : Nat) (Q : Option ps_V → ps_S → Prop) (v2 : Int32) (σ : ps_S) : Prop := ps_K mX4_makeFirst (d + 1) (ps_QF Q) 17 [some (.inr (.inr (24, 0))), some (.inr (.inr (19, 0))), some (.inl v2)] [] σ
abbrev kX4_makeFirst_34 (d : Nat) (Q : Option ps_V → ps_S → Prop)  (σ : ps_S) : Prop := ps_K mX4_makeFirst (d + 1) (ps_QF Q) 34 [some (.inr (.inr (24, 0))), none, none] [] σ
abbrev kX4_makeFirst_31 (d : Nat) (Q : Option ps_V → ps_S → Prop) (s0 : Int32) (σ : ps_S) : Prop := ps_K mX4_makeFirst (d + 1) (ps_QF Q) 31 [some (.inr (.inr (24, 0))), none, none] [.inl s0] σ
abbrev kX4_makeFirst_43 (d : Nat) (Q : Option ps_V → ps_S → Prop)  (σ : ps_S) : Prop := ps_K mX4_makeFirst (d + 1) (ps_QF Q) 43 [none, none, none] [] σ
theorem bX4_makeFirst_0 {d : Nat} {Q : Option ps_V → ps_S → Prop} {v2 : Int32} {σ : ps_S} (h1 : ps_C mJ7_fill_53178 d [.inr (.inr (29, 0)), .inl 0] σ (ps_rv (fun σ1 => kX4_makeFirst_8 d Q v2 σ1))) : kX4_makeFirst_0 d Q v2 σ := by
  refine ps_aload_n (ps_at tX4_makeFirst_ok 0 rfl) rfl rfl ?_
  refine ps_getR (ps_at tX4_makeFirst_ok 1 rfl) flX4_24 sh_24 rfl ?_
  refine ps_iconst (x := 0) (ps_at tX4_makeFirst_ok 2 rfl) (by decide) ?_
  refine ps_callS (M2 := mJ7_fill_53178) (av := [.inr (.inr (29, 0)), .inl 0]) (rest := []) (ps_at tX4_makeFirst_ok 3 rfl) csX4_41 rfl rfl (fun _ => Nat.le_of_ble_eq_true rfl) ?_
  refine ps_C.imp ?_ (h1)
  rintro _ σ1 ⟨rfl, hx⟩
  exact hx
theorem bX4_makeFirst_8 {d : Nat} {Q : Option ps_V → ps_S → Prop} {v2 : Int32} {σ : ps_S} (h1 : ps_C mJ7_fill_53178 d [.inr (.inr (28, 0)), .inl (-900009)] σ (ps_rv (fun σ1 => kX4_makeFirst_17 d Q v2 σ1))) : kX4_makeFirst_8 d Q v2 σ := by
  refine ps_aload_n (ps_at tX4_makeFirst_ok 4 rfl) rfl rfl ?_
  refine ps_getR (ps_at tX4_makeFirst_ok 5 rfl) flX4_21 sh_24 rfl ?_
  refine ps_ldc (ps_at tX4_makeFirst_ok 6 rfl) cnX4_79 ?_
  refine ps_callS (M2 := mJ7_fill_53178) (av := [.inr (.inr (28, 0)), .inl (-900009)]) (rest := []) (ps_at tX4_makeFirst_ok 7 rfl) csX4_41 rfl rfl (fun _ => Nat.le_of_ble_eq_true rfl) ?_
  refine ps_C.imp ?_ (h1)
  rintro _ σ1 ⟨rfl, hx⟩
  exact hx
theorem bX4_makeFirst_17 {d : Nat} {Q : Option ps_V → ps_S → Prop} {v2 : Int32} {σ : ps_S} (h1 : 0 < (jSum 6 (fun f => (σ 23 0 f >>> (nI f &&& 31)) &&& 1)) → kX4_makeFirst_34 d Q σ) (h2 : ¬ 0 < (jSum 6 (fun f => (σ 23 0 f >>> (nI f &&& 31)) &&& 1)) → ps_C mX4_lay d [.inr (.inr (24, 0)), .inr (.inr (19, 0)), .inl 0, .inl v2] σ (ps_ri (fun x σ1 => kX4_makeFirst_31 d Q x σ1))) : kX4_makeFirst_17 d Q v2 σ := by
  refine ps_aload_n (ps_at tX4_makeFirst_ok 8 rfl) rfl rfl ?_
  refine ps_callV (M2 := mX6_ringSize) (av := []) (rest := []) (ps_at tX4_makeFirst_ok 9 rfl) cvX4_80 sh_19 rfl rfl (fun _ => Nat.le_of_ble_eq_true rfl) (pX6_ringSize ?_)
  refine ps_if_gt (tgt := 34) (ps_at tX4_makeFirst_ok 10 rfl) (by decide) (fun c0 => ?_) (fun c0 => ?_)
  · skip
    refine ps_forget (L' := [some (.inr (.inr (24, 0))), none, none]) (And.intro rfl trivial) ?_
    exact h1 c0
  · skip
    refine ps_aload_n (ps_at tX4_makeFirst_ok 11 rfl) rfl rfl ?_
    refine ps_aload_n (ps_at tX4_makeFirst_ok 12 rfl) rfl rfl ?_
    refine ps_iconst (x := 0) (ps_at tX4_makeFirst_ok 13 rfl) (by decide) ?_
    refine ps_iload_n (ps_at tX4_makeFirst_ok 14 rfl) rfl rfl ?_
    refine ps_callS (M2 := mX4_lay) (av := [.inr (.inr (24, 0)), .inr (.inr (19, 0)), .inl 0, .inl v2]) (rest := []) (ps_at tX4_makeFirst_ok 15 rfl) csX4_84 rfl rfl (fun _ => Nat.le_of_ble_eq_true rfl) ?_
    refine ps_C.imp ?_ (h2 c0)
    rintro _ σ1 ⟨x, rfl, hx⟩
    exact ps_forget (L' := [some (.inr (.inr (24, 0))), none, none]) (And.intro rfl trivial) hx
theorem bX4_makeFirst_34 {d : Nat} {Q : Option ps_V → ps_S → Prop}  {σ : ps_S} (h1 : ps_C mJ7_fill_53178 d [.inr (.inr (28, 0)), .inl (-900009)] σ (ps_rv (fun σ1 => kX4_makeFirst_43 d Q σ1))) : kX4_makeFirst_34 d Q σ := by
  refine ps_aload_n (ps_at tX4_makeFirst_ok 17 rfl) rfl rfl ?_
  refine ps_getR (ps_at tX4_makeFirst_ok 18 rfl) flX4_21 sh_24 rfl ?_
  refine ps_ldc (ps_at tX4_makeFirst_ok 19 rfl) cnX4_79 ?_
  refine ps_callS (M2 := mJ7_fill_53178) (av := [.inr (.inr (28, 0)), .inl (-900009)]) (rest := []) (ps_at tX4_makeFirst_ok 20 rfl) csX4_41 rfl rfl (fun _ => Nat.le_of_ble_eq_true rfl) ?_
  refine ps_C.imp ?_ (h1)
  rintro _ σ1 ⟨rfl, hx⟩
  exact ps_forget (L' := [none, none, none]) trivial hx
theorem bX4_makeFirst_31 {d : Nat} {Q : Option ps_V → ps_S → Prop} {s0 : Int32} {σ : ps_S} (h1 : ¬ s0 = 0 → kX4_makeFirst_43 d Q σ) (h2 : s0 = 0 → kX4_makeFirst_34 d Q σ) : kX4_makeFirst_31 d Q s0 σ := by
  refine ps_if_ne (tgt := 43) (ps_at tX4_makeFirst_ok 16 rfl) (by decide) (fun c0 => ?_) (fun c0 => ?_)
  · skip
    refine ps_forget (L' := [none, none, none]) trivial ?_
    exact h1 c0
  · skip
    exact h2 c0
theorem bX4_makeFirst_43 {d : Nat} {Q : Option ps_V → ps_S → Prop}  {σ : ps_S} (h1 : Q none σ) : kX4_makeFirst_43 d Q σ := by
  exact ps_vret (ps_at tX4_makeFirst_ok 21 rfl) rfl ⟨rfl, rfl⟩ (h1)
theorem eX4_makeFirst {d : Nat} {Q : Option ps_V → ps_S → Prop} {v2 : Int32} {σ : ps_S} (h : kX4_makeFirst_0 d Q v2 σ) : ps_C mX4_makeFirst (d + 1) [.inr (.inr (24, 0)), .inr (.inr (19, 0)), .inl v2] σ Q := ps_enter (by decide) rfl ⟨rfl, rfl, rfl⟩ rfl (Nat.le_of_ble_eq_true rfl) h
abbrev kX4_lay_0 (d : Nat) (Q : Option ps_V → ps_S → Prop) (v2 : Int32) (v3 : Int32) (σ : ps_S) : Prop := ps_K mX4_lay (d + 2) (ps_QF Q) 0 [some (.inr (.inr (24, 0))), some (.inr (.inr (19, 0))), some (.inl v2), some (.inl v3), none] [] σ
abbrev kX4_lay_29 (d : Nat) (Q : Option ps_V → ps_S → Prop) (v2 : Int32) (v3 : Int32) (v4 : Int32) (σ : ps_S) : Prop := ps_K mX4_lay (d + 2) (ps_QF Q) 29 [some (.inr (.inr (24, 0))), some (.inr (.inr (19, 0))), some (.inl v2), some (.inl v3), some (.inl v4)] [] σ
abbrev kX4_lay_25 (d : Nat) (Q : Option ps_V → ps_S → Prop) (s0 : Int32) (σ : ps_S) : Prop := ps_K mX4_lay (d + 2) (ps_QF Q) 25 [none, none, none, none, none] [.inl s0] σ
abbrev kX4_lay_54 (d : Nat) (Q : Option ps_V → ps_S → Prop) (v2 : Int32) (v3 : Int32) (v4 : Int32) (s0 : Int32) (σ : ps_S) : Prop := ps_K mX4_lay (d + 2) (ps_QF Q) 54 [some (.inr (.inr (24, 0))), some (.inr (.inr (19, 0))), some (.inl v2), some (.inl v3), some (.inl v4)] [.inl s0] σ
abbrev kX4_lay_87 (d : Nat) (Q : Option ps_V → ps_S → Prop) (v2 : Int32) (v3 : Int32) (v4 : Int32) (s0 : Int32) (σ : ps_S) : Prop := ps_K mX4_lay (d + 2) (ps_QF Q) 87 [some (.inr (.inr (24, 0))), some (.inr (.inr (19, 0))), some (.inl v2), some (.inl v3), some (.inl v4)] [.inl s0] σ
theorem bX4_lay_0 {d : Nat} {Q : Option ps_V → ps_S → Prop} {v2 : Int32} {v3 : Int32} {σ : ps_S} (h1 : v2 < 6 → ¬ (jX6_isTold σ v2) = 0 → kX4_lay_29 d Q v2 v3 0 σ) (h2 : v2 < 6 → (jX6_isTold σ v2) = 0 → ps_C mX4_lay (d + 1) [.inr (.inr (24, 0)), .inr (.inr (19, 0)), .inl (v2 + 1), .inl v3] σ (ps_ri (fun x σ1 => kX4_lay_25 d Q x σ1))) (h3 : ¬ v2 < 6 → Q (some (.inl 1)) σ) : kX4_lay_0 d Q v2 v3 σ := by
  refine ps_iload_n (ps_at tX4_lay_ok 0 rfl) rfl rfl ?_
  refine ps_bipush (x := 6) (ps_at tX4_lay_ok 1 rfl) (by decide) ?_
  refine ps_icmp_lt (tgt := 8) (ps_at tX4_lay_ok 2 rfl) (by decide) (fun c0 => ?_) (fun c0 => ?_)
  · skip
    refine ps_aload_n (ps_at tX4_lay_ok 5 rfl) rfl rfl ?_
    refine ps_iload_n (ps_at tX4_lay_ok 6 rfl) rfl rfl ?_
    refine ps_callV (M2 := mX6_isTold) (av := [.inl v2]) (rest := []) (ps_at tX4_lay_ok 7 rfl) cvX4_88 sh_19 rfl rfl (fun _ => Nat.le_of_ble_eq_true rfl) (pX6_isTold ?_)
    refine ps_if_ne (tgt := 26) (ps_at tX4_lay_ok 8 rfl) (by decide) (fun c1 => ?_) (fun c1 => ?_)
    · skip
      refine ps_iconst (x := 0) (ps_at tX4_lay_ok 17 rfl) (by decide) ?_
      refine ps_istore (L' := [some (.inr (.inr (24, 0))), some (.inr (.inr (19, 0))), some (.inl v2), some (.inl v3), some (.inl 0)]) (ps_at tX4_lay_ok 18 rfl) (by decide) rfl ?_
      exact h1 c0 c1
    · skip
      refine ps_aload_n (ps_at tX4_lay_ok 9 rfl) rfl rfl ?_
      refine ps_aload_n (ps_at tX4_lay_ok 10 rfl) rfl rfl ?_
      refine ps_iload_n (ps_at tX4_lay_ok 11 rfl) rfl rfl ?_
      refine ps_iconst (x := 1) (ps_at tX4_lay_ok 12 rfl) (by decide) ?_
      refine ps_iadd (ps_at tX4_lay_ok 13 rfl) ?_
      refine ps_iload_n (ps_at tX4_lay_ok 14 rfl) rfl rfl ?_
      refine ps_callS (M2 := mX4_lay) (av := [.inr (.inr (24, 0)), .inr (.inr (19, 0)), .inl (v2 + 1), .inl v3]) (rest := []) (ps_at tX4_lay_ok 15 rfl) csX4_84 rfl rfl (fun _ => Nat.le_of_ble_eq_true rfl) ?_
      refine ps_C.imp ?_ (h2 c0 c1)
      rintro _ σ1 ⟨x, rfl, hx⟩
      exact ps_forget (L' := [none, none, none, none, none]) trivial hx
  · skip
    refine ps_iconst (x := 1) (ps_at tX4_lay_ok 3 rfl) (by decide) ?_
    exact ps_zret (ps_at tX4_lay_ok 4 rfl) rfl ⟨rfl, rfl⟩ (Or.inr rfl) (h3 c0)
theorem bX4_lay_29 {d : Nat} {Q : Option ps_V → ps_S → Prop} {v2 : Int32} {v3 : Int32} {v4 : Int32} {σ : ps_S} (h1 : v3 ≤ v4 → Q (some (.inl 0)) σ) (h2 : ¬ v3 ≤ v4 → vp_in v4 6) (h3 : ¬ v3 ≤ v4 → ¬ (σ 24 0 5) ≤ (jbPop (σ 29 0 v4.toNatClampNeg)) → vp_in v2 6) (h4 : ¬ v3 ≤ v4 → (jX4_hasRoom σ v2 v4) = 0 → kX4_lay_29 d Q v2 v3 (v4 + 1) σ) (h5 : ¬ v3 ≤ v4 → ¬ (jX4_hasRoom σ v2 v4) = 0 → ps_C mX4_keepsTurn (d + 1) [.inr (.inr (24, 0)), .inr (.inr (19, 0)), .inl v2, .inl v4] σ (ps_ri (fun x σ1 => kX4_lay_54 d Q v2 v3 v4 x σ1))) : kX4_lay_29 d Q v2 v3 v4 σ := by
  refine ps_iload (ps_at tX4_lay_ok 19 rfl) rfl ?_
  refine ps_iload_n (ps_at tX4_lay_ok 20 rfl) rfl rfl ?_
  refine ps_icmp_ge (tgt := 113) (ps_at tX4_lay_ok 21 rfl) (by decide) (fun c0 => ?_) (fun c0 => ?_)
  · skip
    refine ps_iconst (x := 0) (ps_at tX4_lay_ok 73 rfl) (by decide) ?_
    exact ps_zret (ps_at tX4_lay_ok 74 rfl) rfl ⟨rfl, rfl⟩ (Or.inl rfl) (h1 c0)
  · skip
    refine ps_aload_n (ps_at tX4_lay_ok 22 rfl) rfl rfl ?_
    refine ps_aload_n (ps_at tX4_lay_ok 23 rfl) rfl rfl ?_
    refine ps_iload_n (ps_at tX4_lay_ok 24 rfl) rfl rfl ?_
    refine ps_iload (ps_at tX4_lay_ok 25 rfl) rfl ?_
    refine ps_callV (M2 := mX4_hasRoom) (av := [.inr (.inr (19, 0)), .inl v2, .inl v4]) (rest := []) (ps_at tX4_lay_ok 26 rfl) cvX4_92 sh_24 rfl rfl (fun _ => Nat.le_of_ble_eq_true rfl) (pX4_hasRoom (h2 c0) (h3 c0) ?_)
    refine ps_if_eq (tgt := 107) (ps_at tX4_lay_ok 27 rfl) (by decide) (fun c1 => ?_) (fun c1 => ?_)
    · skip
      refine ps_iinc (L' := [some (.inr (.inr (24, 0))), some (.inr (.inr (19, 0))), some (.inl v2), some (.inl v3), some (.inl (v4 + 1))]) (y := 1) (ps_at tX4_lay_ok 71 rfl) rfl (by decide) (by decide) rfl ?_
      refine ps_goto (tgt := 29) (ps_at tX4_lay_ok 72 rfl) (by decide) ?_
      exact h4 c0 c1
    · skip
      refine ps_aload_n (ps_at tX4_lay_ok 28 rfl) rfl rfl ?_
      refine ps_aload_n (ps_at tX4_lay_ok 29 rfl) rfl rfl ?_
      refine ps_iload_n (ps_at tX4_lay_ok 30 rfl) rfl rfl ?_
      refine ps_iload (ps_at tX4_lay_ok 31 rfl) rfl ?_
      refine ps_callV (M2 := mX4_keepsTurn) (av := [.inr (.inr (19, 0)), .inl v2, .inl v4]) (rest := []) (ps_at tX4_lay_ok 32 rfl) cvX4_96 sh_24 rfl rfl (fun _ => Nat.le_of_ble_eq_true rfl) ?_
      refine ps_C.imp ?_ (h5 c0 c1)
      rintro _ σ1 ⟨x, rfl, hx⟩
      exact hx
theorem bX4_lay_25 {d : Nat} {Q : Option ps_V → ps_S → Prop} {s0 : Int32} {σ : ps_S} (h1 : (s0 = 0 ∨ s0 = 1)) (h2 : Q (some (.inl s0)) σ) : kX4_lay_25 d Q s0 σ := by
  exact ps_zret (ps_at tX4_lay_ok 16 rfl) rfl ⟨rfl, rfl⟩ (h1) (h2)
theorem bX4_lay_54 {d : Nat} {Q : Option ps_V → ps_S → Prop} {v2 : Int32} {v3 : Int32} {v4 : Int32} {s0 : Int32} {σ : ps_S} (h1 : s0 = 0 → kX4_lay_29 d Q v2 v3 (v4 + 1) σ) (h2 : ¬ s0 = 0 → vp_in v4 6) (h3 : ¬ s0 = 0 → vp_in v2 6) (h4 : ¬ s0 = 0 → ps_C mX4_lay (d + 1) [.inr (.inr (24, 0)), .inr (.inr (19, 0)), .inl (v2 + 1), .inl v3] (ps_up (ps_up σ 29 0 v4.toNatClampNeg ((σ 29 0 v4.toNatClampNeg) ||| ((1 : Int32) <<< (v2 &&& 31)))) 28 0 v2.toNatClampNeg v4) (ps_ri (fun x σ1 => kX4_lay_87 d Q v2 v3 v4 x σ1))) : kX4_lay_54 d Q v2 v3 v4 s0 σ := by
  refine ps_if_eq (tgt := 107) (ps_at tX4_lay_ok 33 rfl) (by decide) (fun c0 => ?_) (fun c0 => ?_)
  · skip
    refine ps_iinc (L' := [some (.inr (.inr (24, 0))), some (.inr (.inr (19, 0))), some (.inl v2), some (.inl v3), some (.inl (v4 + 1))]) (y := 1) (ps_at tX4_lay_ok 71 rfl) rfl (by decide) (by decide) rfl ?_
    refine ps_goto (tgt := 29) (ps_at tX4_lay_ok 72 rfl) (by decide) ?_
    exact h1 c0
  · skip
    refine ps_aload_n (ps_at tX4_lay_ok 34 rfl) rfl rfl ?_
    refine ps_getR (ps_at tX4_lay_ok 35 rfl) flX4_24 sh_24 rfl ?_
    refine ps_iload (ps_at tX4_lay_ok 36 rfl) rfl ?_
    refine ps_dup2 (ps_at tX4_lay_ok 37 rfl) ?_
    refine ps_iald (ps_at tX4_lay_ok 38 rfl) sh_29 (h2 c0) ?_
    refine ps_iconst (x := 1) (ps_at tX4_lay_ok 39 rfl) (by decide) ?_
    refine ps_iload_n (ps_at tX4_lay_ok 40 rfl) rfl rfl ?_
    refine ps_ishl (ps_at tX4_lay_ok 41 rfl) ?_
    refine ps_ior (ps_at tX4_lay_ok 42 rfl) ?_
    refine ps_iast (ps_at tX4_lay_ok 43 rfl) sh_29 (h2 c0) ?_
    refine ps_aload_n (ps_at tX4_lay_ok 44 rfl) rfl rfl ?_
    refine ps_getR (ps_at tX4_lay_ok 45 rfl) flX4_21 sh_24 rfl ?_
    refine ps_iload_n (ps_at tX4_lay_ok 46 rfl) rfl rfl ?_
    refine ps_iload (ps_at tX4_lay_ok 47 rfl) rfl ?_
    refine ps_iast (ps_at tX4_lay_ok 48 rfl) sh_28 (h3 c0) ?_
    refine ps_aload_n (ps_at tX4_lay_ok 49 rfl) rfl rfl ?_
    refine ps_aload_n (ps_at tX4_lay_ok 50 rfl) rfl rfl ?_
    refine ps_iload_n (ps_at tX4_lay_ok 51 rfl) rfl rfl ?_
    refine ps_iconst (x := 1) (ps_at tX4_lay_ok 52 rfl) (by decide) ?_
    refine ps_iadd (ps_at tX4_lay_ok 53 rfl) ?_
    refine ps_iload_n (ps_at tX4_lay_ok 54 rfl) rfl rfl ?_
    refine ps_callS (M2 := mX4_lay) (av := [.inr (.inr (24, 0)), .inr (.inr (19, 0)), .inl (v2 + 1), .inl v3]) (rest := []) (ps_at tX4_lay_ok 55 rfl) csX4_84 rfl rfl (fun _ => Nat.le_of_ble_eq_true rfl) ?_
    refine ps_C.imp ?_ (h4 c0)
    rintro _ σ1 ⟨x, rfl, hx⟩
    exact hx
theorem bX4_lay_87 {d : Nat} {Q : Option ps_V → ps_S → Prop} {v2 : Int32} {v3 : Int32} {v4 : Int32} {s0 : Int32} {σ : ps_S} (h1 : s0 = 0 → vp_in v4 6) (h2 : s0 = 0 → kX4_lay_29 d Q v2 v3 (v4 + 1) (ps_up σ 29 0 v4.toNatClampNeg ((σ 29 0 v4.toNatClampNeg) &&& (((1 : Int32) <<< (v2 &&& 31)) ^^^ (-1))))) (h3 : ¬ s0 = 0 → Q (some (.inl 1)) σ) : kX4_lay_87 d Q v2 v3 v4 s0 σ := by
  refine ps_if_eq (tgt := 92) (ps_at tX4_lay_ok 56 rfl) (by decide) (fun c0 => ?_) (fun c0 => ?_)
  · skip
    refine ps_aload_n (ps_at tX4_lay_ok 59 rfl) rfl rfl ?_
    refine ps_getR (ps_at tX4_lay_ok 60 rfl) flX4_24 sh_24 rfl ?_
    refine ps_iload (ps_at tX4_lay_ok 61 rfl) rfl ?_
    refine ps_dup2 (ps_at tX4_lay_ok 62 rfl) ?_
    refine ps_iald (ps_at tX4_lay_ok 63 rfl) sh_29 (h1 c0) ?_
    refine ps_iconst (x := 1) (ps_at tX4_lay_ok 64 rfl) (by decide) ?_
    refine ps_iload_n (ps_at tX4_lay_ok 65 rfl) rfl rfl ?_
    refine ps_ishl (ps_at tX4_lay_ok 66 rfl) ?_
    refine ps_iconst (x := (-1)) (ps_at tX4_lay_ok 67 rfl) (by decide) ?_
    refine ps_ixor (ps_at tX4_lay_ok 68 rfl) ?_
    refine ps_iand (ps_at tX4_lay_ok 69 rfl) ?_
    refine ps_iast (ps_at tX4_lay_ok 70 rfl) sh_29 (h1 c0) ?_
    refine ps_iinc (L' := [some (.inr (.inr (24, 0))), some (.inr (.inr (19, 0))), some (.inl v2), some (.inl v3), some (.inl (v4 + 1))]) (y := 1) (ps_at tX4_lay_ok 71 rfl) rfl (by decide) (by decide) rfl ?_
    refine ps_goto (tgt := 29) (ps_at tX4_lay_ok 72 rfl) (by decide) ?_
    exact h2 c0
  · skip
    refine ps_iconst (x := 1) (ps_at tX4_lay_ok 57 rfl) (by decide) ?_
    exact ps_zret (ps_at tX4_lay_ok 58 rfl) rfl ⟨rfl, rfl⟩ (Or.inr rfl) (h3 c0)
theorem eX4_lay {d : Nat} {Q : Option ps_V → ps_S → Prop} {v2 : Int32} {v3 : Int32} {σ : ps_S} (h : kX4_lay_0 d Q v2 v3 σ) : ps_C mX4_lay (d + 2) [.inr (.inr (24, 0)), .inr (.inr (19, 0)), .inl v2, .inl v3] σ Q := ps_enter (by decide) rfl ⟨rfl, rfl, rfl⟩ rfl (Nat.le_of_ble_eq_true rfl) h
abbrev kX4_keepsTurn_0 (d : Nat) (Q : Option ps_V → ps_S → Prop) (v2 : Int32) (v3 : Int32) (σ : ps_S) : Prop := ps_K mX4_keepsTurn d (ps_QF Q) 0 [some (.inr (.inr (24, 0))), some (.inr (.inr (19, 0))), some (.inl v2), some (.inl v3), none, none, none] [] σ
abbrev kX4_keepsTurn_3 (d : Nat) (Q : Option ps_V → ps_S → Prop) (v2 : Int32) (v3 : Int32) (v4 : Int32) (σ : ps_S) : Prop := ps_K mX4_keepsTurn d (ps_QF Q) 3 [some (.inr (.inr (24, 0))), some (.inr (.inr (19, 0))), some (.inl v2), some (.inl v3), some (.inl v4), none, none] [] σ
abbrev kX4_keepsTurn_28 (d : Nat) (Q : Option ps_V → ps_S → Prop) (v2 : Int32) (v3 : Int32) (v4 : Int32) (s0 : Int32) (σ : ps_S) : Prop := ps_K mX4_keepsTurn d (ps_QF Q) 28 [some (.inr (.inr (24, 0))), some (.inr (.inr (19, 0))), some (.inl v2), some (.inl v3), some (.inl v4), none, none] [.inl s0] σ
abbrev kX4_keepsTurn_49 (d : Nat) (Q : Option ps_V → ps_S → Prop) (v2 : Int32) (v3 : Int32) (v4 : Int32) (v5 : Int32) (s0 : Int32) (σ : ps_S) : Prop := ps_K mX4_keepsTurn d (ps_QF Q) 49 [some (.inr (.inr (24, 0))), some (.inr (.inr (19, 0))), some (.inl v2), some (.inl v3), some (.inl v4), some (.inl v5), none] [.inl s0] σ
abbrev kX4_keepsTurn_67 (d : Nat) (Q : Option ps_V → ps_S → Prop) (v2 : Int32) (v3 : Int32) (v4 : Int32) (v6 : Int32) (σ : ps_S) : Prop := ps_K mX4_keepsTurn d (ps_QF Q) 67 [some (.inr (.inr (24, 0))), some (.inr (.inr (19, 0))), some (.inl v2), some (.inl v3), some (.inl v4), none, some (.inl v6)] [] σ
theorem bX4_keepsTurn_0 {d : Nat} {Q : Option ps_V → ps_S → Prop} {v2 : Int32} {v3 : Int32} {σ : ps_S} (h1 : kX4_keepsTurn_3 d Q v2 v3 0 σ) : kX4_keepsTurn_0 d Q v2 v3 σ := by
  refine ps_iconst (x := 0) (ps_at tX4_keepsTurn_ok 0 rfl) (by decide) ?_
  refine ps_istore (L' := [some (.inr (.inr (24, 0))), some (.inr (.inr (19, 0))), some (.inl v2), some (.inl v3), some (.inl 0), none, none]) (ps_at tX4_keepsTurn_ok 1 rfl) (by decide) rfl ?_
  exact h1
theorem bX4_keepsTurn_3 {d : Nat} {Q : Option ps_V → ps_S → Prop} {v2 : Int32} {v3 : Int32} {v4 : Int32} {σ : ps_S} (h1 : v2 ≤ v4 → Q (some (.inl 1)) σ) (h2 : ¬ v2 ≤ v4 → vp_in v4 6) (h3 : ¬ v2 ≤ v4 → (((σ 23 0 v4.toNatClampNeg) >>> (v2 &&& 31)) &&& 1) = 0 → kX4_keepsTurn_28 d Q v2 v3 v4 0 σ) (h4 : ¬ v2 ≤ v4 → ¬ (((σ 23 0 v4.toNatClampNeg) >>> (v2 &&& 31)) &&& 1) = 0 → kX4_keepsTurn_28 d Q v2 v3 v4 1 σ) : kX4_keepsTurn_3 d Q v2 v3 v4 σ := by
  refine ps_iload (ps_at tX4_keepsTurn_ok 2 rfl) rfl ?_
  refine ps_iload_n (ps_at tX4_keepsTurn_ok 3 rfl) rfl rfl ?_
  refine ps_icmp_ge (tgt := 91) (ps_at tX4_keepsTurn_ok 4 rfl) (by decide) (fun c0 => ?_) (fun c0 => ?_)
  · skip
    refine ps_iconst (x := 1) (ps_at tX4_keepsTurn_ok 51 rfl) (by decide) ?_
    exact ps_zret (ps_at tX4_keepsTurn_ok 52 rfl) rfl ⟨rfl, rfl⟩ (Or.inr rfl) (h1 c0)
  · skip
    refine ps_aload_n (ps_at tX4_keepsTurn_ok 5 rfl) rfl rfl ?_
    refine ps_getR (ps_at tX4_keepsTurn_ok 6 rfl) flX4_73 sh_19 rfl ?_
    refine ps_iload (ps_at tX4_keepsTurn_ok 7 rfl) rfl ?_
    refine ps_iald (ps_at tX4_keepsTurn_ok 8 rfl) sh_23 (h2 c0) ?_
    refine ps_iload_n (ps_at tX4_keepsTurn_ok 9 rfl) rfl rfl ?_
    refine ps_ishr (ps_at tX4_keepsTurn_ok 10 rfl) ?_
    refine ps_iconst (x := 1) (ps_at tX4_keepsTurn_ok 11 rfl) (by decide) ?_
    refine ps_iand (ps_at tX4_keepsTurn_ok 12 rfl) ?_
    refine ps_if_eq (tgt := 27) (ps_at tX4_keepsTurn_ok 13 rfl) (by decide) (fun c1 => ?_) (fun c1 => ?_)
    · skip
      refine ps_iconst (x := 0) (ps_at tX4_keepsTurn_ok 16 rfl) (by decide) ?_
      exact h3 c0 c1
    · skip
      refine ps_iconst (x := 1) (ps_at tX4_keepsTurn_ok 14 rfl) (by decide) ?_
      refine ps_goto (tgt := 28) (ps_at tX4_keepsTurn_ok 15 rfl) (by decide) ?_
      exact h4 c0 c1
theorem bX4_keepsTurn_28 {d : Nat} {Q : Option ps_V → ps_S → Prop} {v2 : Int32} {v3 : Int32} {v4 : Int32} {s0 : Int32} {σ : ps_S} (h1 : vp_in v2 6) (h2 : (((σ 23 0 v2.toNatClampNeg) >>> (v4 &&& 31)) &&& 1) = 0 → kX4_keepsTurn_49 d Q v2 v3 v4 s0 0 σ) (h3 : ¬ (((σ 23 0 v2.toNatClampNeg) >>> (v4 &&& 31)) &&& 1) = 0 → kX4_keepsTurn_49 d Q v2 v3 v4 s0 1 σ) : kX4_keepsTurn_28 d Q v2 v3 v4 s0 σ := by
  refine ps_istore (L' := [some (.inr (.inr (24, 0))), some (.inr (.inr (19, 0))), some (.inl v2), some (.inl v3), some (.inl v4), some (.inl s0), none]) (ps_at tX4_keepsTurn_ok 17 rfl) (by decide) rfl ?_
  refine ps_aload_n (ps_at tX4_keepsTurn_ok 18 rfl) rfl rfl ?_
  refine ps_getR (ps_at tX4_keepsTurn_ok 19 rfl) flX4_73 sh_19 rfl ?_
  refine ps_iload_n (ps_at tX4_keepsTurn_ok 20 rfl) rfl rfl ?_
  refine ps_iald (ps_at tX4_keepsTurn_ok 21 rfl) sh_23 (h1) ?_
  refine ps_iload (ps_at tX4_keepsTurn_ok 22 rfl) rfl ?_
  refine ps_ishr (ps_at tX4_keepsTurn_ok 23 rfl) ?_
  refine ps_iconst (x := 1) (ps_at tX4_keepsTurn_ok 24 rfl) (by decide) ?_
  refine ps_iand (ps_at tX4_keepsTurn_ok 25 rfl) ?_
  refine ps_if_eq (tgt := 48) (ps_at tX4_keepsTurn_ok 26 rfl) (by decide) (fun c0 => ?_) (fun c0 => ?_)
  · skip
    refine ps_iconst (x := 0) (ps_at tX4_keepsTurn_ok 29 rfl) (by decide) ?_
    exact h2 c0
  · skip
    refine ps_iconst (x := 1) (ps_at tX4_keepsTurn_ok 27 rfl) (by decide) ?_
    refine ps_goto (tgt := 49) (ps_at tX4_keepsTurn_ok 28 rfl) (by decide) ?_
    exact h3 c0
theorem bX4_keepsTurn_49 {d : Nat} {Q : Option ps_V → ps_S → Prop} {v2 : Int32} {v3 : Int32} {v4 : Int32} {v5 : Int32} {s0 : Int32} {σ : ps_S} (h1 : v5 = 0 → kX4_keepsTurn_67 d Q v2 v3 v4 s0 σ) (h2 : ¬ v5 = 0 → vp_in v4 6) (h3 : ¬ v5 = 0 → v3 ≤ (σ 28 0 v4.toNatClampNeg) → Q (some (.inl 0)) σ) (h4 : ¬ v5 = 0 → ¬ v3 ≤ (σ 28 0 v4.toNatClampNeg) → kX4_keepsTurn_67 d Q v2 v3 v4 s0 σ) : kX4_keepsTurn_49 d Q v2 v3 v4 v5 s0 σ := by
  refine ps_istore (L' := [some (.inr (.inr (24, 0))), some (.inr (.inr (19, 0))), some (.inl v2), some (.inl v3), some (.inl v4), some (.inl v5), some (.inl s0)]) (ps_at tX4_keepsTurn_ok 30 rfl) (by decide) rfl ?_
  refine ps_iload (ps_at tX4_keepsTurn_ok 31 rfl) rfl ?_
  refine ps_if_eq (tgt := 67) (ps_at tX4_keepsTurn_ok 32 rfl) (by decide) (fun c0 => ?_) (fun c0 => ?_)
  · skip
    refine ps_forget (L' := [some (.inr (.inr (24, 0))), some (.inr (.inr (19, 0))), some (.inl v2), some (.inl v3), some (.inl v4), none, some (.inl s0)]) (And.intro rfl (And.intro rfl (And.intro rfl (And.intro rfl (And.intro rfl (And.intro rfl trivial)))))) ?_
    exact h1 c0
  · skip
    refine ps_aload_n (ps_at tX4_keepsTurn_ok 33 rfl) rfl rfl ?_
    refine ps_getR (ps_at tX4_keepsTurn_ok 34 rfl) flX4_21 sh_24 rfl ?_
    refine ps_iload (ps_at tX4_keepsTurn_ok 35 rfl) rfl ?_
    refine ps_iald (ps_at tX4_keepsTurn_ok 36 rfl) sh_28 (h2 c0) ?_
    refine ps_iload_n (ps_at tX4_keepsTurn_ok 37 rfl) rfl rfl ?_
    refine ps_icmp_ge (tgt := 83) (ps_at tX4_keepsTurn_ok 38 rfl) (by decide) (fun c1 => ?_) (fun c1 => ?_)
    · skip
      refine ps_iconst (x := 0) (ps_at tX4_keepsTurn_ok 47 rfl) (by decide) ?_
      exact ps_zret (ps_at tX4_keepsTurn_ok 48 rfl) rfl ⟨rfl, rfl⟩ (Or.inl rfl) (h3 c0 c1)
    · skip
      refine ps_forget (L' := [some (.inr (.inr (24, 0))), some (.inr (.inr (19, 0))), some (.inl v2), some (.inl v3), some (.inl v4), none, some (.inl s0)]) (And.intro rfl (And.intro rfl (And.intro rfl (And.intro rfl (And.intro rfl (And.intro rfl trivial)))))) ?_
      exact h4 c0 c1
theorem bX4_keepsTurn_67 {d : Nat} {Q : Option ps_V → ps_S → Prop} {v2 : Int32} {v3 : Int32} {v4 : Int32} {v6 : Int32} {σ : ps_S} (h1 : v6 = 0 → kX4_keepsTurn_3 d Q v2 v3 (v4 + 1) σ) (h2 : ¬ v6 = 0 → vp_in v4 6) (h3 : ¬ v6 = 0 → v3 < (σ 28 0 v4.toNatClampNeg) → kX4_keepsTurn_3 d Q v2 v3 (v4 + 1) σ) (h4 : ¬ v6 = 0 → ¬ v3 < (σ 28 0 v4.toNatClampNeg) → Q (some (.inl 0)) σ) : kX4_keepsTurn_67 d Q v2 v3 v4 v6 σ := by
  refine ps_iload (ps_at tX4_keepsTurn_ok 39 rfl) rfl ?_
  refine ps_if_eq (tgt := 85) (ps_at tX4_keepsTurn_ok 40 rfl) (by decide) (fun c0 => ?_) (fun c0 => ?_)
  · skip
    refine ps_iinc (L' := [some (.inr (.inr (24, 0))), some (.inr (.inr (19, 0))), some (.inl v2), some (.inl v3), some (.inl (v4 + 1)), none, some (.inl v6)]) (y := 1) (ps_at tX4_keepsTurn_ok 49 rfl) rfl (by decide) (by decide) rfl ?_
    refine ps_goto (tgt := 3) (ps_at tX4_keepsTurn_ok 50 rfl) (by decide) ?_
    refine ps_forget (L' := [some (.inr (.inr (24, 0))), some (.inr (.inr (19, 0))), some (.inl v2), some (.inl v3), some (.inl (v4 + 1)), none, none]) (And.intro rfl (And.intro rfl (And.intro rfl (And.intro rfl (And.intro rfl trivial))))) ?_
    exact h1 c0
  · skip
    refine ps_aload_n (ps_at tX4_keepsTurn_ok 41 rfl) rfl rfl ?_
    refine ps_getR (ps_at tX4_keepsTurn_ok 42 rfl) flX4_21 sh_24 rfl ?_
    refine ps_iload (ps_at tX4_keepsTurn_ok 43 rfl) rfl ?_
    refine ps_iald (ps_at tX4_keepsTurn_ok 44 rfl) sh_28 (h2 c0) ?_
    refine ps_iload_n (ps_at tX4_keepsTurn_ok 45 rfl) rfl rfl ?_
    refine ps_icmp_gt (tgt := 85) (ps_at tX4_keepsTurn_ok 46 rfl) (by decide) (fun c1 => ?_) (fun c1 => ?_)
    · skip
      refine ps_iinc (L' := [some (.inr (.inr (24, 0))), some (.inr (.inr (19, 0))), some (.inl v2), some (.inl v3), some (.inl (v4 + 1)), none, some (.inl v6)]) (y := 1) (ps_at tX4_keepsTurn_ok 49 rfl) rfl (by decide) (by decide) rfl ?_
      refine ps_goto (tgt := 3) (ps_at tX4_keepsTurn_ok 50 rfl) (by decide) ?_
      refine ps_forget (L' := [some (.inr (.inr (24, 0))), some (.inr (.inr (19, 0))), some (.inl v2), some (.inl v3), some (.inl (v4 + 1)), none, none]) (And.intro rfl (And.intro rfl (And.intro rfl (And.intro rfl (And.intro rfl trivial))))) ?_
      exact h3 c0 c1
    · skip
      refine ps_iconst (x := 0) (ps_at tX4_keepsTurn_ok 47 rfl) (by decide) ?_
      exact ps_zret (ps_at tX4_keepsTurn_ok 48 rfl) rfl ⟨rfl, rfl⟩ (Or.inl rfl) (h4 c0 c1)
theorem eX4_keepsTurn {d : Nat} {Q : Option ps_V → ps_S → Prop} {v2 : Int32} {v3 : Int32} {σ : ps_S} (h : kX4_keepsTurn_0 d Q v2 v3 σ) : ps_C mX4_keepsTurn d [.inr (.inr (24, 0)), .inr (.inr (19, 0)), .inl v2, .inl v3] σ Q := ps_enter (by decide) rfl ⟨rfl, rfl, rfl⟩ rfl (Nat.le_of_ble_eq_true rfl) h

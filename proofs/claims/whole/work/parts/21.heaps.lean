/-! ===== printed by wip/whole/gen.py: block rows ===== -/
abbrev kX1_addSheet_0 (d : Nat) (Q : Option ps_V → ps_S → Prop) (v1 : Int32) (v2 : Int32) (σ : ps_S) : Prop := ps_K mX1_addSheet d (ps_QF Q) 0 [some (.inr (.inr (30, 0))), some (.inl v1), some (.inl v2)] [] σ
theorem bX1_addSheet_0 {d : Nat} {Q : Option ps_V → ps_S → Prop} {v1 : Int32} {v2 : Int32} {σ : ps_S} (h1 : vp_in v1 6) (h2 : vp_in (σ 33 0 v1.toNatClampNeg) 12) (h3 : Q (some (.inl ((ps_up (ps_up σ 32 v1.toNatClampNeg (σ 33 0 v1.toNatClampNeg).toNatClampNeg v2) 33 0 v1.toNatClampNeg (((ps_up σ 32 v1.toNatClampNeg (σ 33 0 v1.toNatClampNeg).toNatClampNeg v2) 33 0 v1.toNatClampNeg) + 1)) 33 0 v1.toNatClampNeg))) (ps_up (ps_up σ 32 v1.toNatClampNeg (σ 33 0 v1.toNatClampNeg).toNatClampNeg v2) 33 0 v1.toNatClampNeg (((ps_up σ 32 v1.toNatClampNeg (σ 33 0 v1.toNatClampNeg).toNatClampNeg v2) 33 0 v1.toNatClampNeg) + 1))) : kX1_addSheet_0 d Q v1 v2 σ := by
  refine ps_aload_n (ps_at tX1_addSheet_ok 0 rfl) rfl rfl ?_
  refine ps_getR (ps_at tX1_addSheet_ok 1 rfl) flX1_11 sh_30 rfl ?_
  refine ps_iload_n (ps_at tX1_addSheet_ok 2 rfl) rfl rfl ?_
  refine ps_aald0 (ps_at tX1_addSheet_ok 3 rfl) sh_31 (Or.inl rfl) (h1) ?_
  refine ps_aload_n (ps_at tX1_addSheet_ok 4 rfl) rfl rfl ?_
  refine ps_getR (ps_at tX1_addSheet_ok 5 rfl) flX1_16 sh_30 rfl ?_
  refine ps_iload_n (ps_at tX1_addSheet_ok 6 rfl) rfl rfl ?_
  refine ps_iald (ps_at tX1_addSheet_ok 7 rfl) sh_33 (h1) ?_
  refine ps_iload_n (ps_at tX1_addSheet_ok 8 rfl) rfl rfl ?_
  refine ps_iast (ps_at tX1_addSheet_ok 9 rfl) sh_32 (h2) ?_
  refine ps_aload_n (ps_at tX1_addSheet_ok 10 rfl) rfl rfl ?_
  refine ps_getR (ps_at tX1_addSheet_ok 11 rfl) flX1_16 sh_30 rfl ?_
  refine ps_iload_n (ps_at tX1_addSheet_ok 12 rfl) rfl rfl ?_
  refine ps_dup2 (ps_at tX1_addSheet_ok 13 rfl) ?_
  refine ps_iald (ps_at tX1_addSheet_ok 14 rfl) sh_33 (h1) ?_
  refine ps_iconst (x := 1) (ps_at tX1_addSheet_ok 15 rfl) (by decide) ?_
  refine ps_iadd (ps_at tX1_addSheet_ok 16 rfl) ?_
  refine ps_iast (ps_at tX1_addSheet_ok 17 rfl) sh_33 (h1) ?_
  refine ps_aload_n (ps_at tX1_addSheet_ok 18 rfl) rfl rfl ?_
  refine ps_getR (ps_at tX1_addSheet_ok 19 rfl) flX1_16 sh_30 rfl ?_
  refine ps_iload_n (ps_at tX1_addSheet_ok 20 rfl) rfl rfl ?_
  refine ps_iald (ps_at tX1_addSheet_ok 21 rfl) sh_33 (h1) ?_
  exact ps_iret (ps_at tX1_addSheet_ok 22 rfl) rfl ⟨rfl, rfl⟩ (h3)
theorem eX1_addSheet {d : Nat} {Q : Option ps_V → ps_S → Prop} {v1 : Int32} {v2 : Int32} {σ : ps_S} (h : kX1_addSheet_0 d Q v1 v2 σ) : ps_C mX1_addSheet d [.inr (.inr (30, 0)), .inl v1, .inl v2] σ Q := ps_enter (by decide) rfl ⟨rfl, rfl, rfl⟩ rfl (Nat.le_of_ble_eq_true rfl) h
abbrev kX1_putSize_0 (d : Nat) (Q : Option ps_V → ps_S → Prop) (v1 : Int32) (σ : ps_S) : Prop := ps_K mX1_putSize d (ps_QF Q) 0 [some (.inr (.inr (30, 0))), some (.inl v1), none] [] σ
theorem bX1_putSize_0 {d : Nat} {Q : Option ps_V → ps_S → Prop} {v1 : Int32} {σ : ps_S} (h1 : Q (some (.inl (σ 30 0 3))) (ps_up σ 30 0 3 v1)) : kX1_putSize_0 d Q v1 σ := by
  refine ps_aload_n (ps_at tX1_putSize_ok 0 rfl) rfl rfl ?_
  refine ps_getI (ps_at tX1_putSize_ok 1 rfl) flX1_23 sh_30 rfl ?_
  refine ps_istore_n (L' := [some (.inr (.inr (30, 0))), some (.inl v1), some (.inl (σ 30 0 3))]) (ps_at tX1_putSize_ok 2 rfl) rfl (by decide) rfl ?_
  refine ps_aload_n (ps_at tX1_putSize_ok 3 rfl) rfl rfl ?_
  refine ps_iload_n (ps_at tX1_putSize_ok 4 rfl) rfl rfl ?_
  refine ps_putI (ps_at tX1_putSize_ok 5 rfl) fpX1_23 sh_30 rfl ?_
  refine ps_iload_n (ps_at tX1_putSize_ok 6 rfl) rfl rfl ?_
  exact ps_iret (ps_at tX1_putSize_ok 7 rfl) rfl ⟨rfl, rfl⟩ (h1)
theorem eX1_putSize {d : Nat} {Q : Option ps_V → ps_S → Prop} {v1 : Int32} {σ : ps_S} (h : kX1_putSize_0 d Q v1 σ) : ps_C mX1_putSize d [.inr (.inr (30, 0)), .inl v1] σ Q := ps_enter (by decide) rfl ⟨rfl, rfl, rfl⟩ rfl (Nat.le_of_ble_eq_true rfl) h
abbrev kX1_putSeen_0 (d : Nat) (Q : Option ps_V → ps_S → Prop) (v1 : Int32) (v2 : Int32) (v3 : Int32) (σ : ps_S) : Prop := ps_K mX1_putSeen d (ps_QF Q) 0 [some (.inr (.inr (30, 0))), some (.inl v1), some (.inl v2), some (.inl v3), none] [] σ
theorem bX1_putSeen_0 {d : Nat} {Q : Option ps_V → ps_S → Prop} {v1 : Int32} {v2 : Int32} {v3 : Int32} {σ : ps_S} (h1 : vp_in v1 6) (h2 : vp_in v2 12) (h3 : Q (some (.inl (σ 35 v1.toNatClampNeg v2.toNatClampNeg))) (ps_up σ 35 v1.toNatClampNeg v2.toNatClampNeg v3)) : kX1_putSeen_0 d Q v1 v2 v3 σ := by
  refine ps_aload_n (ps_at tX1_putSeen_ok 0 rfl) rfl rfl ?_
  refine ps_getR (ps_at tX1_putSeen_ok 1 rfl) flX1_20 sh_30 rfl ?_
  refine ps_iload_n (ps_at tX1_putSeen_ok 2 rfl) rfl rfl ?_
  refine ps_aald0 (ps_at tX1_putSeen_ok 3 rfl) sh_34 (Or.inl rfl) (h1) ?_
  refine ps_iload_n (ps_at tX1_putSeen_ok 4 rfl) rfl rfl ?_
  refine ps_iald (ps_at tX1_putSeen_ok 5 rfl) sh_35 (h2) ?_
  refine ps_istore (L' := [some (.inr (.inr (30, 0))), some (.inl v1), some (.inl v2), some (.inl v3), some (.inl (σ 35 v1.toNatClampNeg v2.toNatClampNeg))]) (ps_at tX1_putSeen_ok 6 rfl) (by decide) rfl ?_
  refine ps_aload_n (ps_at tX1_putSeen_ok 7 rfl) rfl rfl ?_
  refine ps_getR (ps_at tX1_putSeen_ok 8 rfl) flX1_20 sh_30 rfl ?_
  refine ps_iload_n (ps_at tX1_putSeen_ok 9 rfl) rfl rfl ?_
  refine ps_aald0 (ps_at tX1_putSeen_ok 10 rfl) sh_34 (Or.inl rfl) (h1) ?_
  refine ps_iload_n (ps_at tX1_putSeen_ok 11 rfl) rfl rfl ?_
  refine ps_iload_n (ps_at tX1_putSeen_ok 12 rfl) rfl rfl ?_
  refine ps_iast (ps_at tX1_putSeen_ok 13 rfl) sh_35 (h2) ?_
  refine ps_iload (ps_at tX1_putSeen_ok 14 rfl) rfl ?_
  exact ps_iret (ps_at tX1_putSeen_ok 15 rfl) rfl ⟨rfl, rfl⟩ (h3)
theorem eX1_putSeen {d : Nat} {Q : Option ps_V → ps_S → Prop} {v1 : Int32} {v2 : Int32} {v3 : Int32} {σ : ps_S} (h : kX1_putSeen_0 d Q v1 v2 v3 σ) : ps_C mX1_putSeen d [.inr (.inr (30, 0)), .inl v1, .inl v2, .inl v3] σ Q := ps_enter (by decide) rfl ⟨rfl, rfl, rfl⟩ rfl (Nat.le_of_ble_eq_true rfl) h
abbrev kX1_mayBe_0 (d : Nat) (Q : Option ps_V → ps_S → Prop) (v1 : Int32) (v2 : Int32) (v3 : Int32) (σ : ps_S) : Prop := ps_K mX1_mayBe (d + 3) (ps_QF Q) 0 [some (.inr (.inr (30, 0))), some (.inl v1), some (.inl v2), some (.inl v3), none, none, none] [] σ
abbrev kX1_mayBe_16 (d : Nat) (Q : Option ps_V → ps_S → Prop) (v1 : Int32) (v3 : Int32) (v4 : Int32) (v5 : Int32) (σ : ps_S) : Prop := ps_K mX1_mayBe (d + 3) (ps_QF Q) 16 [some (.inr (.inr (30, 0))), some (.inl v1), none, some (.inl v3), some (.inl v4), some (.inl v5), none] [] σ
theorem bX1_mayBe_0 {d : Nat} {Q : Option ps_V → ps_S → Prop} {v1 : Int32} {v2 : Int32} {v3 : Int32} {σ : ps_S} (h1 : vp_in v1 6) (h2 : kX1_mayBe_16 d Q v1 v3 (jX1_heapEnd σ v1 v2) (v2 * (σ 30 0 3)) σ) : kX1_mayBe_0 d Q v1 v2 v3 σ := by
  refine ps_aload_n (ps_at tX1_mayBe_ok 0 rfl) rfl rfl ?_
  refine ps_iload_n (ps_at tX1_mayBe_ok 1 rfl) rfl rfl ?_
  refine ps_iload_n (ps_at tX1_mayBe_ok 2 rfl) rfl rfl ?_
  refine ps_callV (M2 := mX1_heapEnd) (av := [.inl v1, .inl v2]) (rest := []) (ps_at tX1_mayBe_ok 3 rfl) cvX1_40 sh_30 rfl rfl (fun _ => Nat.le_of_ble_eq_true rfl) (pX1_heapEnd (h1) ?_)
  refine ps_istore (L' := [some (.inr (.inr (30, 0))), some (.inl v1), some (.inl v2), some (.inl v3), some (.inl (jX1_heapEnd σ v1 v2)), none, none]) (ps_at tX1_mayBe_ok 4 rfl) (by decide) rfl ?_
  refine ps_iload_n (ps_at tX1_mayBe_ok 5 rfl) rfl rfl ?_
  refine ps_aload_n (ps_at tX1_mayBe_ok 6 rfl) rfl rfl ?_
  refine ps_getI (ps_at tX1_mayBe_ok 7 rfl) flX1_23 sh_30 rfl ?_
  refine ps_imul (ps_at tX1_mayBe_ok 8 rfl) ?_
  refine ps_istore (L' := [some (.inr (.inr (30, 0))), some (.inl v1), some (.inl v2), some (.inl v3), some (.inl (jX1_heapEnd σ v1 v2)), some (.inl (v2 * (σ 30 0 3))), none]) (ps_at tX1_mayBe_ok 9 rfl) (by decide) rfl ?_
  refine ps_forget (L' := [some (.inr (.inr (30, 0))), some (.inl v1), none, some (.inl v3), some (.inl (jX1_heapEnd σ v1 v2)), some (.inl (v2 * (σ 30 0 3))), none]) (And.intro rfl (And.intro rfl (And.intro rfl (And.intro rfl (And.intro rfl trivial))))) ?_
  exact h2
theorem bX1_mayBe_16 {d : Nat} {Q : Option ps_V → ps_S → Prop} {v1 : Int32} {v3 : Int32} {v4 : Int32} {v5 : Int32} {σ : ps_S} (h1 : v4 ≤ v5 → Q (some (.inl 1)) σ) (h2 : ¬ v4 ≤ v5 → vp_in v1 6) (h3 : ¬ v4 ≤ v5 → vp_in v5 12) (h4 : ¬ v4 ≤ v5 → (σ 35 v1.toNatClampNeg v5.toNatClampNeg) = (-900009) → kX1_mayBe_16 d Q v1 v3 v4 (v5 + 1) σ) (h5 : ¬ v4 ≤ v5 → ¬ (σ 35 v1.toNatClampNeg v5.toNatClampNeg) = (-900009) → v5 < (σ 33 0 v1.toNatClampNeg) → v3 = 0 → ¬ (σ 30 0 3) = 0) (h6 : ¬ v4 ≤ v5 → ¬ (σ 35 v1.toNatClampNeg v5.toNatClampNeg) = (-900009) → v5 < (σ 33 0 v1.toNatClampNeg) → v3 = 0 → vp_in (((jX1_heapEnd σ v1 (v5 / (σ 30 0 3))) - 1) - (v5 - ((v5 / (σ 30 0 3)) * (σ 30 0 3)))) 12) (h7 : ¬ v4 ≤ v5 → ¬ (σ 35 v1.toNatClampNeg v5.toNatClampNeg) = (-900009) → v5 < (σ 33 0 v1.toNatClampNeg) → ¬ v3 = 0 → vp_in v5 12) (h8 : ¬ v4 ≤ v5 → ¬ (σ 35 v1.toNatClampNeg v5.toNatClampNeg) = (-900009) → (σ 35 v1.toNatClampNeg v5.toNatClampNeg) = (jX1_kindIn σ v1 v5 v3) → kX1_mayBe_16 d Q v1 v3 v4 (v5 + 1) σ) (h9 : ¬ v4 ≤ v5 → ¬ (σ 35 v1.toNatClampNeg v5.toNatClampNeg) = (-900009) → ¬ (σ 35 v1.toNatClampNeg v5.toNatClampNeg) = (jX1_kindIn σ v1 v5 v3) → Q (some (.inl 0)) σ) : kX1_mayBe_16 d Q v1 v3 v4 v5 σ := by
  refine ps_iload (ps_at tX1_mayBe_ok 10 rfl) rfl ?_
  refine ps_iload (ps_at tX1_mayBe_ok 11 rfl) rfl ?_
  refine ps_icmp_ge (tgt := 62) (ps_at tX1_mayBe_ok 12 rfl) (by decide) (fun c0 => ?_) (fun c0 => ?_)
  · skip
    refine ps_iconst (x := 1) (ps_at tX1_mayBe_ok 34 rfl) (by decide) ?_
    exact ps_zret (ps_at tX1_mayBe_ok 35 rfl) rfl ⟨rfl, rfl⟩ (Or.inr rfl) (h1 c0)
  · skip
    refine ps_aload_n (ps_at tX1_mayBe_ok 13 rfl) rfl rfl ?_
    refine ps_getR (ps_at tX1_mayBe_ok 14 rfl) flX1_20 sh_30 rfl ?_
    refine ps_iload_n (ps_at tX1_mayBe_ok 15 rfl) rfl rfl ?_
    refine ps_aald0 (ps_at tX1_mayBe_ok 16 rfl) sh_34 (Or.inl rfl) (h2 c0) ?_
    refine ps_iload (ps_at tX1_mayBe_ok 17 rfl) rfl ?_
    refine ps_iald (ps_at tX1_mayBe_ok 18 rfl) sh_35 (h3 c0) ?_
    refine ps_istore (L' := [some (.inr (.inr (30, 0))), some (.inl v1), none, some (.inl v3), some (.inl v4), some (.inl v5), some (.inl (σ 35 v1.toNatClampNeg v5.toNatClampNeg))]) (ps_at tX1_mayBe_ok 19 rfl) (by decide) rfl ?_
    refine ps_iload (ps_at tX1_mayBe_ok 20 rfl) rfl ?_
    refine ps_ldc (ps_at tX1_mayBe_ok 21 rfl) cnX1_27 ?_
    refine ps_icmp_eq (tgt := 56) (ps_at tX1_mayBe_ok 22 rfl) (by decide) (fun c1 => ?_) (fun c1 => ?_)
    · skip
      refine ps_iinc (L' := [some (.inr (.inr (30, 0))), some (.inl v1), none, some (.inl v3), some (.inl v4), some (.inl (v5 + 1)), some (.inl (σ 35 v1.toNatClampNeg v5.toNatClampNeg))]) (y := 1) (ps_at tX1_mayBe_ok 32 rfl) rfl (by decide) (by decide) rfl ?_
      refine ps_goto (tgt := 16) (ps_at tX1_mayBe_ok 33 rfl) (by decide) ?_
      refine ps_forget (L' := [some (.inr (.inr (30, 0))), some (.inl v1), none, some (.inl v3), some (.inl v4), some (.inl (v5 + 1)), none]) (And.intro rfl (And.intro rfl (And.intro rfl (And.intro rfl (And.intro rfl trivial))))) ?_
      exact h4 c0 c1
    · skip
      refine ps_iload (ps_at tX1_mayBe_ok 23 rfl) rfl ?_
      refine ps_aload_n (ps_at tX1_mayBe_ok 24 rfl) rfl rfl ?_
      refine ps_iload_n (ps_at tX1_mayBe_ok 25 rfl) rfl rfl ?_
      refine ps_iload (ps_at tX1_mayBe_ok 26 rfl) rfl ?_
      refine ps_iload_n (ps_at tX1_mayBe_ok 27 rfl) rfl rfl ?_
      refine ps_callV (M2 := mX1_kindIn) (av := [.inl v1, .inl v5, .inl v3]) (rest := [.inl (σ 35 v1.toNatClampNeg v5.toNatClampNeg)]) (ps_at tX1_mayBe_ok 28 rfl) cvX1_43 sh_30 rfl rfl (fun _ => Nat.le_of_ble_eq_true rfl) (pX1_kindIn (h2 c0) (h5 c0 c1) (h6 c0 c1) (h7 c0 c1) ?_)
      refine ps_icmp_eq (tgt := 56) (ps_at tX1_mayBe_ok 29 rfl) (by decide) (fun c2 => ?_) (fun c2 => ?_)
      · skip
        refine ps_iinc (L' := [some (.inr (.inr (30, 0))), some (.inl v1), none, some (.inl v3), some (.inl v4), some (.inl (v5 + 1)), some (.inl (σ 35 v1.toNatClampNeg v5.toNatClampNeg))]) (y := 1) (ps_at tX1_mayBe_ok 32 rfl) rfl (by decide) (by decide) rfl ?_
        refine ps_goto (tgt := 16) (ps_at tX1_mayBe_ok 33 rfl) (by decide) ?_
        refine ps_forget (L' := [some (.inr (.inr (30, 0))), some (.inl v1), none, some (.inl v3), some (.inl v4), some (.inl (v5 + 1)), none]) (And.intro rfl (And.intro rfl (And.intro rfl (And.intro rfl (And.intro rfl trivial))))) ?_
        exact h8 c0 c1 c2
      · skip
        refine ps_iconst (x := 0) (ps_at tX1_mayBe_ok 30 rfl) (by decide) ?_
        exact ps_zret (ps_at tX1_mayBe_ok 31 rfl) rfl ⟨rfl, rfl⟩ (Or.inl rfl) (h9 c0 c1 c2)
theorem eX1_mayBe {d : Nat} {Q : Option ps_V → ps_S → Prop} {v1 : Int32} {v2 : Int32} {v3 : Int32} {σ : ps_S} (h : kX1_mayBe_0 d Q v1 v2 v3 σ) : ps_C mX1_mayBe (d + 3) [.inr (.inr (30, 0)), .inl v1, .inl v2, .inl v3] σ Q := ps_enter (by decide) rfl ⟨rfl, rfl, rfl⟩ rfl (Nat.le_of_ble_eq_true rfl) h
abbrev kX1_choices_0 (d : Nat) (Q : Option ps_V → ps_S → Prop) (v1 : Int32) (v2 : Int32) (σ : ps_S) : Prop := ps_K mX1_choices (d + 1) (ps_QF Q) 0 [some (.inr (.inr (30, 0))), some (.inl v1), some (.inl v2)] [] σ
abbrev kX1_choices_7 (d : Nat) (Q : Option ps_V → ps_S → Prop) (v1 : Int32) (v2 : Int32) (s0 : Int32) (σ : ps_S) : Prop := ps_K mX1_choices (d + 1) (ps_QF Q) 7 [some (.inr (.inr (30, 0))), some (.inl v1), some (.inl v2)] [.inl s0] σ
abbrev kX1_choices_15 (d : Nat) (Q : Option ps_V → ps_S → Prop) (v1 : Int32) (v2 : Int32) (s0 : Int32) (σ : ps_S) : Prop := ps_K mX1_choices (d + 1) (ps_QF Q) 15 [some (.inr (.inr (30, 0))), some (.inl v1), some (.inl v2)] [.inl s0] σ
abbrev kX1_choices_22 (d : Nat) (Q : Option ps_V → ps_S → Prop) (s0 : Int32) (s1 : Int32) (σ : ps_S) : Prop := ps_K mX1_choices (d + 1) (ps_QF Q) 22 [none, none, none] [.inl s0, .inl s1] σ
theorem bX1_choices_0 {d : Nat} {Q : Option ps_V → ps_S → Prop} {v1 : Int32} {v2 : Int32} {σ : ps_S} (h1 : ps_C mX1_mayBe d [.inr (.inr (30, 0)), .inl v1, .inl v2, .inl 0] σ (ps_ri (fun x σ1 => kX1_choices_7 d Q v1 v2 x σ1))) : kX1_choices_0 d Q v1 v2 σ := by
  refine ps_aload_n (ps_at tX1_choices_ok 0 rfl) rfl rfl ?_
  refine ps_iload_n (ps_at tX1_choices_ok 1 rfl) rfl rfl ?_
  refine ps_iload_n (ps_at tX1_choices_ok 2 rfl) rfl rfl ?_
  refine ps_iconst (x := 0) (ps_at tX1_choices_ok 3 rfl) (by decide) ?_
  refine ps_callV (M2 := mX1_mayBe) (av := [.inl v1, .inl v2, .inl 0]) (rest := []) (ps_at tX1_choices_ok 4 rfl) cvX1_47 sh_30 rfl rfl (fun _ => Nat.le_of_ble_eq_true rfl) ?_
  refine ps_C.imp ?_ (h1)
  rintro _ σ1 ⟨x, rfl, hx⟩
  exact hx
theorem bX1_choices_7 {d : Nat} {Q : Option ps_V → ps_S → Prop} {v1 : Int32} {v2 : Int32} {s0 : Int32} {σ : ps_S} (h1 : s0 = 0 → kX1_choices_15 d Q v1 v2 0 σ) (h2 : ¬ s0 = 0 → kX1_choices_15 d Q v1 v2 1 σ) : kX1_choices_7 d Q v1 v2 s0 σ := by
  refine ps_if_eq (tgt := 14) (ps_at tX1_choices_ok 5 rfl) (by decide) (fun c0 => ?_) (fun c0 => ?_)
  · skip
    refine ps_iconst (x := 0) (ps_at tX1_choices_ok 8 rfl) (by decide) ?_
    exact h1 c0
  · skip
    refine ps_iconst (x := 1) (ps_at tX1_choices_ok 6 rfl) (by decide) ?_
    refine ps_goto (tgt := 15) (ps_at tX1_choices_ok 7 rfl) (by decide) ?_
    exact h2 c0
theorem bX1_choices_15 {d : Nat} {Q : Option ps_V → ps_S → Prop} {v1 : Int32} {v2 : Int32} {s0 : Int32} {σ : ps_S} (h1 : ps_C mX1_mayBe d [.inr (.inr (30, 0)), .inl v1, .inl v2, .inl 1] σ (ps_ri (fun x σ1 => kX1_choices_22 d Q x s0 σ1))) : kX1_choices_15 d Q v1 v2 s0 σ := by
  refine ps_aload_n (ps_at tX1_choices_ok 9 rfl) rfl rfl ?_
  refine ps_iload_n (ps_at tX1_choices_ok 10 rfl) rfl rfl ?_
  refine ps_iload_n (ps_at tX1_choices_ok 11 rfl) rfl rfl ?_
  refine ps_iconst (x := 1) (ps_at tX1_choices_ok 12 rfl) (by decide) ?_
  refine ps_callV (M2 := mX1_mayBe) (av := [.inl v1, .inl v2, .inl 1]) (rest := [.inl s0]) (ps_at tX1_choices_ok 13 rfl) cvX1_47 sh_30 rfl rfl (fun _ => Nat.le_of_ble_eq_true rfl) ?_
  refine ps_C.imp ?_ (h1)
  rintro _ σ1 ⟨x, rfl, hx⟩
  exact ps_forget (L' := [none, none, none]) trivial hx
theorem bX1_choices_22 {d : Nat} {Q : Option ps_V → ps_S → Prop} {s0 : Int32} {s1 : Int32} {σ : ps_S} (h1 : s0 = 0 → Q (some (.inl (s1 + 0))) σ) (h2 : ¬ s0 = 0 → Q (some (.inl (s1 + 2))) σ) : kX1_choices_22 d Q s0 s1 σ := by
  refine ps_if_eq (tgt := 29) (ps_at tX1_choices_ok 14 rfl) (by decide) (fun c0 => ?_) (fun c0 => ?_)
  · skip
    refine ps_iconst (x := 0) (ps_at tX1_choices_ok 17 rfl) (by decide) ?_
    refine ps_iadd (ps_at tX1_choices_ok 18 rfl) ?_
    exact ps_iret (ps_at tX1_choices_ok 19 rfl) rfl ⟨rfl, rfl⟩ (h1 c0)
  · skip
    refine ps_iconst (x := 2) (ps_at tX1_choices_ok 15 rfl) (by decide) ?_
    refine ps_goto (tgt := 30) (ps_at tX1_choices_ok 16 rfl) (by decide) ?_
    refine ps_iadd (ps_at tX1_choices_ok 18 rfl) ?_
    exact ps_iret (ps_at tX1_choices_ok 19 rfl) rfl ⟨rfl, rfl⟩ (h2 c0)
theorem eX1_choices {d : Nat} {Q : Option ps_V → ps_S → Prop} {v1 : Int32} {v2 : Int32} {σ : ps_S} (h : kX1_choices_0 d Q v1 v2 σ) : ps_C mX1_choices (d + 1) [.inr (.inr (30, 0)), .inl v1, .inl v2] σ Q := ps_enter (by decide) rfl ⟨rfl, rfl, rfl⟩ rfl (Nat.le_of_ble_eq_true rfl) h
abbrev kX1_turnings_0 (d : Nat) (Q : Option ps_V → ps_S → Prop) (v1 : Int32) (σ : ps_S) : Prop := ps_K mX1_turnings (d + 1) (ps_QF Q) 0 [some (.inr (.inr (30, 0))), some (.inl v1), none, none, none] [] σ
abbrev kX1_turnings_11 (d : Nat) (Q : Option ps_V → ps_S → Prop) (v1 : Int32) (v2 : Int32) (v3 : Int32) (v4 : Int32) (σ : ps_S) : Prop := ps_K mX1_turnings (d + 1) (ps_QF Q) 11 [some (.inr (.inr (30, 0))), some (.inl v1), some (.inl v2), some (.inl v3), some (.inl v4)] [] σ
abbrev kX1_turnings_25 (d : Nat) (Q : Option ps_V → ps_S → Prop) (v1 : Int32) (v3 : Int32) (v4 : Int32) (s0 : Int32) (s1 : Int32) (σ : ps_S) : Prop := ps_K mX1_turnings (d + 1) (ps_QF Q) 25 [some (.inr (.inr (30, 0))), some (.inl v1), none, some (.inl v3), some (.inl v4)] [.inl s0, .inl s1] σ
theorem bX1_turnings_0 {d : Nat} {Q : Option ps_V → ps_S → Prop} {v1 : Int32} {σ : ps_S} (h1 : vp_in v1 6) (h2 : ¬ (σ 30 0 3) = 0) (h3 : kX1_turnings_11 d Q v1 1 (jX1_heapCount σ v1) 0 σ) : kX1_turnings_0 d Q v1 σ := by
  refine ps_iconst (x := 1) (ps_at tX1_turnings_ok 0 rfl) (by decide) ?_
  refine ps_istore_n (L' := [some (.inr (.inr (30, 0))), some (.inl v1), some (.inl 1), none, none]) (ps_at tX1_turnings_ok 1 rfl) rfl (by decide) rfl ?_
  refine ps_aload_n (ps_at tX1_turnings_ok 2 rfl) rfl rfl ?_
  refine ps_iload_n (ps_at tX1_turnings_ok 3 rfl) rfl rfl ?_
  refine ps_callV (M2 := mX1_heapCount) (av := [.inl v1]) (rest := []) (ps_at tX1_turnings_ok 4 rfl) cvX1_51 sh_30 rfl rfl (fun _ => Nat.le_of_ble_eq_true rfl) (pX1_heapCount (h1) (h2) ?_)
  refine ps_istore_n (L' := [some (.inr (.inr (30, 0))), some (.inl v1), some (.inl 1), some (.inl (jX1_heapCount σ v1)), none]) (ps_at tX1_turnings_ok 5 rfl) rfl (by decide) rfl ?_
  refine ps_iconst (x := 0) (ps_at tX1_turnings_ok 6 rfl) (by decide) ?_
  refine ps_istore (L' := [some (.inr (.inr (30, 0))), some (.inl v1), some (.inl 1), some (.inl (jX1_heapCount σ v1)), some (.inl 0)]) (ps_at tX1_turnings_ok 7 rfl) (by decide) rfl ?_
  exact h3
theorem bX1_turnings_11 {d : Nat} {Q : Option ps_V → ps_S → Prop} {v1 : Int32} {v2 : Int32} {v3 : Int32} {v4 : Int32} {σ : ps_S} (h1 : v3 ≤ v4 → Q (some (.inl v2)) σ) (h2 : ¬ v3 ≤ v4 → ps_C mX1_choices d [.inr (.inr (30, 0)), .inl v1, .inl v4] σ (ps_ri (fun x σ1 => kX1_turnings_25 d Q v1 v3 v4 x v2 σ1))) : kX1_turnings_11 d Q v1 v2 v3 v4 σ := by
  refine ps_iload (ps_at tX1_turnings_ok 8 rfl) rfl ?_
  refine ps_iload_n (ps_at tX1_turnings_ok 9 rfl) rfl rfl ?_
  refine ps_icmp_ge (tgt := 36) (ps_at tX1_turnings_ok 10 rfl) (by decide) (fun c0 => ?_) (fun c0 => ?_)
  · skip
    refine ps_iload_n (ps_at tX1_turnings_ok 21 rfl) rfl rfl ?_
    exact ps_iret (ps_at tX1_turnings_ok 22 rfl) rfl ⟨rfl, rfl⟩ (h1 c0)
  · skip
    refine ps_iload_n (ps_at tX1_turnings_ok 11 rfl) rfl rfl ?_
    refine ps_aload_n (ps_at tX1_turnings_ok 12 rfl) rfl rfl ?_
    refine ps_iload_n (ps_at tX1_turnings_ok 13 rfl) rfl rfl ?_
    refine ps_iload (ps_at tX1_turnings_ok 14 rfl) rfl ?_
    refine ps_callV (M2 := mX1_choices) (av := [.inl v1, .inl v4]) (rest := [.inl v2]) (ps_at tX1_turnings_ok 15 rfl) cvX1_55 sh_30 rfl rfl (fun _ => Nat.le_of_ble_eq_true rfl) ?_
    refine ps_C.imp ?_ (h2 c0)
    rintro _ σ1 ⟨x, rfl, hx⟩
    exact ps_forget (L' := [some (.inr (.inr (30, 0))), some (.inl v1), none, some (.inl v3), some (.inl v4)]) (And.intro rfl (And.intro rfl (And.intro rfl (And.intro rfl trivial)))) hx
theorem bX1_turnings_25 {d : Nat} {Q : Option ps_V → ps_S → Prop} {v1 : Int32} {v3 : Int32} {v4 : Int32} {s0 : Int32} {s1 : Int32} {σ : ps_S} (h1 : kX1_turnings_11 d Q v1 (s1 * (jbPop s0)) v3 (v4 + 1) σ) : kX1_turnings_25 d Q v1 v3 v4 s0 s1 σ := by
  refine ps_callS (M2 := mJ6_bitCount_0f7a4) (av := [.inl s0]) (rest := [.inl s1]) (ps_at tX1_turnings_ok 16 rfl) csX1_58 rfl rfl (fun _ => Nat.le_of_ble_eq_true rfl) (pJ6_bitCount_0f7a4 ?_)
  refine ps_imul (ps_at tX1_turnings_ok 17 rfl) ?_
  refine ps_istore_n (L' := [some (.inr (.inr (30, 0))), some (.inl v1), some (.inl (s1 * (jbPop s0))), some (.inl v3), some (.inl v4)]) (ps_at tX1_turnings_ok 18 rfl) rfl (by decide) rfl ?_
  refine ps_iinc (L' := [some (.inr (.inr (30, 0))), some (.inl v1), some (.inl (s1 * (jbPop s0))), some (.inl v3), some (.inl (v4 + 1))]) (y := 1) (ps_at tX1_turnings_ok 19 rfl) rfl (by decide) (by decide) rfl ?_
  refine ps_goto (tgt := 11) (ps_at tX1_turnings_ok 20 rfl) (by decide) ?_
  exact h1
theorem eX1_turnings {d : Nat} {Q : Option ps_V → ps_S → Prop} {v1 : Int32} {σ : ps_S} (h : kX1_turnings_0 d Q v1 σ) : ps_C mX1_turnings (d + 1) [.inr (.inr (30, 0)), .inl v1] σ Q := ps_enter (by decide) rfl ⟨rfl, rfl, rfl⟩ rfl (Nat.le_of_ble_eq_true rfl) h

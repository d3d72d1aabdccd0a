/-! ===== printed by wip/whole/gen.py: block rows ===== -/
abbrev kX8_read_0 (d : Nat) (Q : Option ps_V → ps_S → Prop) (v1 : Int32) (v2 : Int32) (v3 : Int32) (v4 : Int32) (σ : ps_S) : Prop := ps_K mX8_read (d + 2) (ps_QF Q) 0 [some (.inr (.inr (50, 0))), some (.inl v1), some (.inl v2), some (.inl v3), some (.inl v4), none] [] σ
abbrev kX8_read_52 (d : Nat) (Q : Option ps_V → ps_S → Prop) (v1 : Int32) (v2 : Int32) (v3 : Int32) (v4 : Int32) (σ : ps_S) : Prop := ps_K mX8_read (d + 2) (ps_QF Q) 52 [some (.inr (.inr (50, 0))), some (.inl v1), some (.inl v2), some (.inl v3), some (.inl v4), none] [] σ
theorem bX8_read_0 {d : Nat} {Q : Option ps_V → ps_S → Prop} {v1 : Int32} {v2 : Int32} {v3 : Int32} {v4 : Int32} {σ : ps_S} (h1 : (jbIn v1.toInt64 0 8) = 0 → Q (some (.inl (-900001))) σ) (h2 : ¬ (jbIn v1.toInt64 0 8) = 0 → (jbIn v2.toInt64 0 5) = 0 → Q (some (.inl (-900001))) σ) (h3 : ¬ (jbIn v1.toInt64 0 8) = 0 → ¬ (jbIn v2.toInt64 0 5) = 0 → ¬ (jbIn v3.toInt64 0 5) = 0 → v4 = (-900009) → kX8_read_52 d Q v1 v2 v3 v4 σ) (h4 : ¬ (jbIn v1.toInt64 0 8) = 0 → ¬ (jbIn v2.toInt64 0 5) = 0 → ¬ (jbIn v3.toInt64 0 5) = 0 → ¬ v4 = (-900009) → ¬ (jbIn v4.toInt64 0 9) = 0 → kX8_read_52 d Q v1 v2 v3 v4 σ) (h5 : ¬ (jbIn v1.toInt64 0 8) = 0 → ¬ (jbIn v2.toInt64 0 5) = 0 → ¬ (jbIn v3.toInt64 0 5) = 0 → ¬ v4 = (-900009) → (jbIn v4.toInt64 0 9) = 0 → Q (some (.inl (-900002))) σ) (h6 : ¬ (jbIn v1.toInt64 0 8) = 0 → ¬ (jbIn v2.toInt64 0 5) = 0 → (jbIn v3.toInt64 0 5) = 0 → Q (some (.inl (-900001))) σ) : kX8_read_0 d Q v1 v2 v3 v4 σ := by
  refine ps_iload_n (ps_at tX8_read_ok 0 rfl) rfl rfl ?_
  refine ps_callS (M2 := mX8_isCopy) (av := [.inl v1]) (rest := []) (ps_at tX8_read_ok 1 rfl) csX8_105 rfl rfl (fun _ => Nat.le_of_ble_eq_true rfl) (pX8_isCopy ?_)
  refine ps_if_eq (tgt := 26) (ps_at tX8_read_ok 2 rfl) (by decide) (fun c0 => ?_) (fun c0 => ?_)
  · skip
    refine ps_ldc (ps_at tX8_read_ok 12 rfl) cnX8_112 ?_
    exact ps_iret (ps_at tX8_read_ok 13 rfl) rfl ⟨rfl, rfl⟩ (h1 c0)
  · skip
    refine ps_iload_n (ps_at tX8_read_ok 3 rfl) rfl rfl ?_
    refine ps_callS (M2 := mX8_isForme) (av := [.inl v2]) (rest := []) (ps_at tX8_read_ok 4 rfl) csX8_109 rfl rfl (fun _ => Nat.le_of_ble_eq_true rfl) (pX8_isForme ?_)
    refine ps_if_eq (tgt := 26) (ps_at tX8_read_ok 5 rfl) (by decide) (fun c1 => ?_) (fun c1 => ?_)
    · skip
      refine ps_ldc (ps_at tX8_read_ok 12 rfl) cnX8_112 ?_
      exact ps_iret (ps_at tX8_read_ok 13 rfl) rfl ⟨rfl, rfl⟩ (h2 c0 c1)
    · skip
      refine ps_iload_n (ps_at tX8_read_ok 6 rfl) rfl rfl ?_
      refine ps_i2l (ps_at tX8_read_ok 7 rfl) ?_
      refine ps_lconst (x := 0) (ps_at tX8_read_ok 8 rfl) (by decide) ?_
      refine ps_ldc2 (ps_at tX8_read_ok 9 rfl) clX8_97 ?_
      refine ps_callS (M2 := mX8_in) (av := [.inr (.inl v3.toInt64), .inr (.inl 0), .inr (.inl 5)]) (rest := []) (ps_at tX8_read_ok 10 rfl) csX8_99 rfl rfl (fun _ => Nat.le_of_ble_eq_true rfl) (pX8_in ?_)
      refine ps_if_ne (tgt := 29) (ps_at tX8_read_ok 11 rfl) (by decide) (fun c2 => ?_) (fun c2 => ?_)
      · skip
        refine ps_iload (ps_at tX8_read_ok 14 rfl) rfl ?_
        refine ps_ldc (ps_at tX8_read_ok 15 rfl) cnX8_96 ?_
        refine ps_icmp_eq (tgt := 52) (ps_at tX8_read_ok 16 rfl) (by decide) (fun c3 => ?_) (fun c3 => ?_)
        · skip
          exact h3 c0 c1 c2 c3
        · skip
          refine ps_iload (ps_at tX8_read_ok 17 rfl) rfl ?_
          refine ps_i2l (ps_at tX8_read_ok 18 rfl) ?_
          refine ps_lconst (x := 0) (ps_at tX8_read_ok 19 rfl) (by decide) ?_
          refine ps_ldc2 (ps_at tX8_read_ok 20 rfl) clX8_113 ?_
          refine ps_callS (M2 := mX8_in) (av := [.inr (.inl v4.toInt64), .inr (.inl 0), .inr (.inl 9)]) (rest := []) (ps_at tX8_read_ok 21 rfl) csX8_99 rfl rfl (fun _ => Nat.le_of_ble_eq_true rfl) (pX8_in ?_)
          refine ps_if_ne (tgt := 52) (ps_at tX8_read_ok 22 rfl) (by decide) (fun c4 => ?_) (fun c4 => ?_)
          · skip
            exact h4 c0 c1 c2 c3 c4
          · skip
            refine ps_ldc (ps_at tX8_read_ok 23 rfl) cnX8_115 ?_
            exact ps_iret (ps_at tX8_read_ok 24 rfl) rfl ⟨rfl, rfl⟩ (h5 c0 c1 c2 c3 c4)
      · skip
        refine ps_ldc (ps_at tX8_read_ok 12 rfl) cnX8_112 ?_
        exact ps_iret (ps_at tX8_read_ok 13 rfl) rfl ⟨rfl, rfl⟩ (h6 c0 c1 c2)
theorem bX8_read_52 {d : Nat} {Q : Option ps_V → ps_S → Prop} {v1 : Int32} {v2 : Int32} {v3 : Int32} {v4 : Int32} {σ : ps_S} (h1 : vp_in (((54 * v2) + (6 * v1)) + v3) 324) (h2 : Q (some (.inl (jX8_letterAt σ v2 v1 v3))) (ps_up σ 51 0 (((54 * v2) + (6 * v1)) + v3).toNatClampNeg v4)) : kX8_read_52 d Q v1 v2 v3 v4 σ := by
  refine ps_aload_n (ps_at tX8_read_ok 25 rfl) rfl rfl ?_
  refine ps_iload_n (ps_at tX8_read_ok 26 rfl) rfl rfl ?_
  refine ps_iload_n (ps_at tX8_read_ok 27 rfl) rfl rfl ?_
  refine ps_iload_n (ps_at tX8_read_ok 28 rfl) rfl rfl ?_
  refine ps_callV (M2 := mX8_letterAt) (av := [.inl v2, .inl v1, .inl v3]) (rest := []) (ps_at tX8_read_ok 29 rfl) cvX8_116 sh_50 rfl rfl (fun _ => Nat.le_of_ble_eq_true rfl) (pX8_letterAt (h1) ?_)
  refine ps_istore (L' := [some (.inr (.inr (50, 0))), some (.inl v1), some (.inl v2), some (.inl v3), some (.inl v4), some (.inl (jX8_letterAt σ v2 v1 v3))]) (ps_at tX8_read_ok 30 rfl) (by decide) rfl ?_
  refine ps_aload_n (ps_at tX8_read_ok 31 rfl) rfl rfl ?_
  refine ps_getR (ps_at tX8_read_ok 32 rfl) flX8_7 sh_50 rfl ?_
  refine ps_bipush (x := 54) (ps_at tX8_read_ok 33 rfl) (by decide) ?_
  refine ps_iload_n (ps_at tX8_read_ok 34 rfl) rfl rfl ?_
  refine ps_imul (ps_at tX8_read_ok 35 rfl) ?_
  refine ps_bipush (x := 6) (ps_at tX8_read_ok 36 rfl) (by decide) ?_
  refine ps_iload_n (ps_at tX8_read_ok 37 rfl) rfl rfl ?_
  refine ps_imul (ps_at tX8_read_ok 38 rfl) ?_
  refine ps_iadd (ps_at tX8_read_ok 39 rfl) ?_
  refine ps_iload_n (ps_at tX8_read_ok 40 rfl) rfl rfl ?_
  refine ps_iadd (ps_at tX8_read_ok 41 rfl) ?_
  refine ps_iload (ps_at tX8_read_ok 42 rfl) rfl ?_
  refine ps_iast (ps_at tX8_read_ok 43 rfl) sh_51 (h1) ?_
  refine ps_iload (ps_at tX8_read_ok 44 rfl) rfl ?_
  exact ps_iret (ps_at tX8_read_ok 45 rfl) rfl ⟨rfl, rfl⟩ (h2)
theorem eX8_read {d : Nat} {Q : Option ps_V → ps_S → Prop} {v1 : Int32} {v2 : Int32} {v3 : Int32} {v4 : Int32} {σ : ps_S} (h : kX8_read_0 d Q v1 v2 v3 v4 σ) : ps_C mX8_read (d + 2) [.inr (.inr (50, 0)), .inl v1, .inl v2, .inl v3, .inl v4] σ Q := ps_enter (by decide) rfl ⟨rfl, rfl, rfl⟩ rfl (Nat.le_of_ble_eq_true rfl) h
abbrev kX8_agree_0 (d : Nat) (Q : Option ps_V → ps_S → Prop) (v1 : Int32) (v2 : Int32) (v3 : Int32) (σ : ps_S) : Prop := ps_K mX8_agree (d + 2) (ps_QF Q) 0 [some (.inr (.inr (50, 0))), some (.inl v1), some (.inl v2), some (.inl v3)] [] σ
theorem bX8_agree_0 {d : Nat} {Q : Option ps_V → ps_S → Prop} {v1 : Int32} {v2 : Int32} {v3 : Int32} {σ : ps_S} (h1 : (jbIn v1.toInt64 0 5) = 0 → Q (some (.inl (-900001))) σ) (h2 : ¬ (jbIn v1.toInt64 0 5) = 0 → (jbIn v2.toInt64 0 8) = 0 → Q (some (.inl (-900001))) σ) (h3 : ¬ (jbIn v1.toInt64 0 5) = 0 → ¬ (jbIn v2.toInt64 0 8) = 0 → ¬ (jbIn v3.toInt64 0 8) = 0 → vp_in v1 6) (h4 : ¬ (jbIn v1.toInt64 0 5) = 0 → ¬ (jbIn v2.toInt64 0 8) = 0 → ¬ (jbIn v3.toInt64 0 8) = 0 → vp_in v2 9) (h5 : ¬ (jbIn v1.toInt64 0 5) = 0 → ¬ (jbIn v2.toInt64 0 8) = 0 → ¬ (jbIn v3.toInt64 0 8) = 0 → vp_in v3 9) (h6 : ¬ (jbIn v1.toInt64 0 5) = 0 → ¬ (jbIn v2.toInt64 0 8) = 0 → ¬ (jbIn v3.toInt64 0 8) = 0 → (jbP (mAlk σ v1.toNatClampNeg v2.toNatClampNeg v3.toNatClampNeg)) = 0 → Q (some (.inl 0)) σ) (h7 : ¬ (jbIn v1.toInt64 0 5) = 0 → ¬ (jbIn v2.toInt64 0 8) = 0 → ¬ (jbIn v3.toInt64 0 8) = 0 → ¬ (jbP (mAlk σ v1.toNatClampNeg v2.toNatClampNeg v3.toNatClampNeg)) = 0 → Q (some (.inl 1)) σ) (h8 : ¬ (jbIn v1.toInt64 0 5) = 0 → ¬ (jbIn v2.toInt64 0 8) = 0 → (jbIn v3.toInt64 0 8) = 0 → Q (some (.inl (-900001))) σ) : kX8_agree_0 d Q v1 v2 v3 σ := by
  refine ps_iload_n (ps_at tX8_agree_ok 0 rfl) rfl rfl ?_
  refine ps_callS (M2 := mX8_isForme) (av := [.inl v1]) (rest := []) (ps_at tX8_agree_ok 1 rfl) csX8_109 rfl rfl (fun _ => Nat.le_of_ble_eq_true rfl) (pX8_isForme ?_)
  refine ps_if_eq (tgt := 21) (ps_at tX8_agree_ok 2 rfl) (by decide) (fun c0 => ?_) (fun c0 => ?_)
  · skip
    refine ps_ldc (ps_at tX8_agree_ok 9 rfl) cnX8_112 ?_
    exact ps_iret (ps_at tX8_agree_ok 10 rfl) rfl ⟨rfl, rfl⟩ (h1 c0)
  · skip
    refine ps_iload_n (ps_at tX8_agree_ok 3 rfl) rfl rfl ?_
    refine ps_callS (M2 := mX8_isCopy) (av := [.inl v2]) (rest := []) (ps_at tX8_agree_ok 4 rfl) csX8_105 rfl rfl (fun _ => Nat.le_of_ble_eq_true rfl) (pX8_isCopy ?_)
    refine ps_if_eq (tgt := 21) (ps_at tX8_agree_ok 5 rfl) (by decide) (fun c1 => ?_) (fun c1 => ?_)
    · skip
      refine ps_ldc (ps_at tX8_agree_ok 9 rfl) cnX8_112 ?_
      exact ps_iret (ps_at tX8_agree_ok 10 rfl) rfl ⟨rfl, rfl⟩ (h2 c0 c1)
    · skip
      refine ps_iload_n (ps_at tX8_agree_ok 6 rfl) rfl rfl ?_
      refine ps_callS (M2 := mX8_isCopy) (av := [.inl v3]) (rest := []) (ps_at tX8_agree_ok 7 rfl) csX8_105 rfl rfl (fun _ => Nat.le_of_ble_eq_true rfl) (pX8_isCopy ?_)
      refine ps_if_ne (tgt := 24) (ps_at tX8_agree_ok 8 rfl) (by decide) (fun c2 => ?_) (fun c2 => ?_)
      · skip
        refine ps_aload_n (ps_at tX8_agree_ok 11 rfl) rfl rfl ?_
        refine ps_iload_n (ps_at tX8_agree_ok 12 rfl) rfl rfl ?_
        refine ps_iload_n (ps_at tX8_agree_ok 13 rfl) rfl rfl ?_
        refine ps_iload_n (ps_at tX8_agree_ok 14 rfl) rfl rfl ?_
        refine ps_callV (M2 := mX8_agrees) (av := [.inl v1, .inl v2, .inl v3]) (rest := []) (ps_at tX8_agree_ok 15 rfl) cvX8_120 sh_50 rfl rfl (fun _ => Nat.le_of_ble_eq_true rfl) (pX8_agrees (h3 c0 c1 c2) (h4 c0 c1 c2) (h5 c0 c1 c2) ?_)
        refine ps_if_eq (tgt := 38) (ps_at tX8_agree_ok 16 rfl) (by decide) (fun c3 => ?_) (fun c3 => ?_)
        · skip
          refine ps_iconst (x := 0) (ps_at tX8_agree_ok 19 rfl) (by decide) ?_
          exact ps_iret (ps_at tX8_agree_ok 20 rfl) rfl ⟨rfl, rfl⟩ (h6 c0 c1 c2 c3)
        · skip
          refine ps_iconst (x := 1) (ps_at tX8_agree_ok 17 rfl) (by decide) ?_
          refine ps_goto (tgt := 39) (ps_at tX8_agree_ok 18 rfl) (by decide) ?_
          exact ps_iret (ps_at tX8_agree_ok 20 rfl) rfl ⟨rfl, rfl⟩ (h7 c0 c1 c2 c3)
      · skip
        refine ps_ldc (ps_at tX8_agree_ok 9 rfl) cnX8_112 ?_
        exact ps_iret (ps_at tX8_agree_ok 10 rfl) rfl ⟨rfl, rfl⟩ (h8 c0 c1 c2)
theorem eX8_agree {d : Nat} {Q : Option ps_V → ps_S → Prop} {v1 : Int32} {v2 : Int32} {v3 : Int32} {σ : ps_S} (h : kX8_agree_0 d Q v1 v2 v3 σ) : ps_C mX8_agree (d + 2) [.inr (.inr (50, 0)), .inl v1, .inl v2, .inl v3] σ Q := ps_enter (by decide) rfl ⟨rfl, rfl, rfl⟩ rfl (Nat.le_of_ble_eq_true rfl) h
abbrev kX8_joins_0 (d : Nat) (Q : Option ps_V → ps_S → Prop) (v1 : Int32) (v2 : Int32) (v3 : Int32) (σ : ps_S) : Prop := ps_K mX8_joins (d + 2) (ps_QF Q) 0 [some (.inr (.inr (50, 0))), some (.inl v1), some (.inl v2), some (.inl v3), none, none] [] σ
abbrev kX8_joins_6 (d : Nat) (Q : Option ps_V → ps_S → Prop) (v1 : Int32) (v2 : Int32) (v3 : Int32) (v4 : Int32) (v5 : Int32) (σ : ps_S) : Prop := ps_K mX8_joins (d + 2) (ps_QF Q) 6 [some (.inr (.inr (50, 0))), some (.inl v1), some (.inl v2), some (.inl v3), some (.inl v4), some (.inl v5)] [] σ
theorem bX8_joins_0 {d : Nat} {Q : Option ps_V → ps_S → Prop} {v1 : Int32} {v2 : Int32} {v3 : Int32} {σ : ps_S} (h1 : kX8_joins_6 d Q v1 v2 v3 1 0 σ) : kX8_joins_0 d Q v1 v2 v3 σ := by
  refine ps_iconst (x := 1) (ps_at tX8_joins_ok 0 rfl) (by decide) ?_
  refine ps_istore (L' := [some (.inr (.inr (50, 0))), some (.inl v1), some (.inl v2), some (.inl v3), some (.inl 1), none]) (ps_at tX8_joins_ok 1 rfl) (by decide) rfl ?_
  refine ps_iconst (x := 0) (ps_at tX8_joins_ok 2 rfl) (by decide) ?_
  refine ps_istore (L' := [some (.inr (.inr (50, 0))), some (.inl v1), some (.inl v2), some (.inl v3), some (.inl 1), some (.inl 0)]) (ps_at tX8_joins_ok 3 rfl) (by decide) rfl ?_
  exact h1
theorem bX8_joins_6 {d : Nat} {Q : Option ps_V → ps_S → Prop} {v1 : Int32} {v2 : Int32} {v3 : Int32} {v4 : Int32} {v5 : Int32} {σ : ps_S} (h1 : v2 ≤ v5 → (v4 = 0 ∨ v4 = 1)) (h2 : v2 ≤ v5 → Q (some (.inl v4)) σ) (h3 : ¬ v2 ≤ v5 → v4 = 0 → kX8_joins_6 d Q v1 v2 v3 0 (v5 + 1) σ) (h4 : ¬ v2 ≤ v5 → ¬ v4 = 0 → vp_in v5 9) (h5 : ¬ v2 ≤ v5 → ¬ v4 = 0 → vp_in (σ 54 0 v5.toNatClampNeg) 9) (h6 : ¬ v2 ≤ v5 → ¬ v4 = 0 → ¬ (σ 53 0 (σ 54 0 v5.toNatClampNeg).toNatClampNeg) = v3 → kX8_joins_6 d Q v1 v2 v3 1 (v5 + 1) σ) (h7 : ¬ v2 ≤ v5 → ¬ v4 = 0 → (σ 53 0 (σ 54 0 v5.toNatClampNeg).toNatClampNeg) = v3 → vp_in v2 9) (h8 : ¬ v2 ≤ v5 → ¬ v4 = 0 → (σ 53 0 (σ 54 0 v5.toNatClampNeg).toNatClampNeg) = v3 → vp_in v1 6) (h9 : ¬ v2 ≤ v5 → ¬ v4 = 0 → (σ 53 0 (σ 54 0 v5.toNatClampNeg).toNatClampNeg) = v3 → vp_in (σ 54 0 v2.toNatClampNeg) 9) (h10 : ¬ v2 ≤ v5 → ¬ v4 = 0 → (σ 53 0 (σ 54 0 v5.toNatClampNeg).toNatClampNeg) = v3 → (jbP (mAlk σ v1.toNatClampNeg (σ 54 0 v5.toNatClampNeg).toNatClampNeg (σ 54 0 v2.toNatClampNeg).toNatClampNeg)) = 0 → kX8_joins_6 d Q v1 v2 v3 0 (v5 + 1) σ) (h11 : ¬ v2 ≤ v5 → ¬ v4 = 0 → (σ 53 0 (σ 54 0 v5.toNatClampNeg).toNatClampNeg) = v3 → ¬ (jbP (mAlk σ v1.toNatClampNeg (σ 54 0 v5.toNatClampNeg).toNatClampNeg (σ 54 0 v2.toNatClampNeg).toNatClampNeg)) = 0 → kX8_joins_6 d Q v1 v2 v3 1 (v5 + 1) σ) : kX8_joins_6 d Q v1 v2 v3 v4 v5 σ := by
  refine ps_iload (ps_at tX8_joins_ok 4 rfl) rfl ?_
  refine ps_iload_n (ps_at tX8_joins_ok 5 rfl) rfl rfl ?_
  refine ps_icmp_ge (tgt := 67) (ps_at tX8_joins_ok 6 rfl) (by decide) (fun c0 => ?_) (fun c0 => ?_)
  · skip
    refine ps_iload (ps_at tX8_joins_ok 36 rfl) rfl ?_
    exact ps_zret (ps_at tX8_joins_ok 37 rfl) rfl ⟨rfl, rfl⟩ (h1 c0) (h2 c0)
  · skip
    refine ps_iload (ps_at tX8_joins_ok 7 rfl) rfl ?_
    refine ps_if_eq (tgt := 58) (ps_at tX8_joins_ok 8 rfl) (by decide) (fun c1 => ?_) (fun c1 => ?_)
    · skip
      refine ps_iconst (x := 0) (ps_at tX8_joins_ok 32 rfl) (by decide) ?_
      refine ps_istore (L' := [some (.inr (.inr (50, 0))), some (.inl v1), some (.inl v2), some (.inl v3), some (.inl 0), some (.inl v5)]) (ps_at tX8_joins_ok 33 rfl) (by decide) rfl ?_
      refine ps_iinc (L' := [some (.inr (.inr (50, 0))), some (.inl v1), some (.inl v2), some (.inl v3), some (.inl 0), some (.inl (v5 + 1))]) (y := 1) (ps_at tX8_joins_ok 34 rfl) rfl (by decide) (by decide) rfl ?_
      refine ps_goto (tgt := 6) (ps_at tX8_joins_ok 35 rfl) (by decide) ?_
      exact h3 c0 c1
    · skip
      refine ps_aload_n (ps_at tX8_joins_ok 9 rfl) rfl rfl ?_
      refine ps_getR (ps_at tX8_joins_ok 10 rfl) flX8_13 sh_50 rfl ?_
      refine ps_aload_n (ps_at tX8_joins_ok 11 rfl) rfl rfl ?_
      refine ps_getR (ps_at tX8_joins_ok 12 rfl) flX8_16 sh_50 rfl ?_
      refine ps_iload (ps_at tX8_joins_ok 13 rfl) rfl ?_
      refine ps_iald (ps_at tX8_joins_ok 14 rfl) sh_54 (h4 c0 c1) ?_
      refine ps_iald (ps_at tX8_joins_ok 15 rfl) sh_53 (h5 c0 c1) ?_
      refine ps_iload_n (ps_at tX8_joins_ok 16 rfl) rfl rfl ?_
      refine ps_icmp_ne (tgt := 54) (ps_at tX8_joins_ok 17 rfl) (by decide) (fun c2 => ?_) (fun c2 => ?_)
      · skip
        refine ps_iconst (x := 1) (ps_at tX8_joins_ok 30 rfl) (by decide) ?_
        refine ps_goto (tgt := 59) (ps_at tX8_joins_ok 31 rfl) (by decide) ?_
        refine ps_istore (L' := [some (.inr (.inr (50, 0))), some (.inl v1), some (.inl v2), some (.inl v3), some (.inl 1), some (.inl v5)]) (ps_at tX8_joins_ok 33 rfl) (by decide) rfl ?_
        refine ps_iinc (L' := [some (.inr (.inr (50, 0))), some (.inl v1), some (.inl v2), some (.inl v3), some (.inl 1), some (.inl (v5 + 1))]) (y := 1) (ps_at tX8_joins_ok 34 rfl) rfl (by decide) (by decide) rfl ?_
        refine ps_goto (tgt := 6) (ps_at tX8_joins_ok 35 rfl) (by decide) ?_
        exact h6 c0 c1 c2
      · skip
        refine ps_aload_n (ps_at tX8_joins_ok 18 rfl) rfl rfl ?_
        refine ps_iload_n (ps_at tX8_joins_ok 19 rfl) rfl rfl ?_
        refine ps_aload_n (ps_at tX8_joins_ok 20 rfl) rfl rfl ?_
        refine ps_getR (ps_at tX8_joins_ok 21 rfl) flX8_16 sh_50 rfl ?_
        refine ps_iload (ps_at tX8_joins_ok 22 rfl) rfl ?_
        refine ps_iald (ps_at tX8_joins_ok 23 rfl) sh_54 (h4 c0 c1) ?_
        refine ps_aload_n (ps_at tX8_joins_ok 24 rfl) rfl rfl ?_
        refine ps_getR (ps_at tX8_joins_ok 25 rfl) flX8_16 sh_50 rfl ?_
        refine ps_iload_n (ps_at tX8_joins_ok 26 rfl) rfl rfl ?_
        refine ps_iald (ps_at tX8_joins_ok 27 rfl) sh_54 (h7 c0 c1 c2) ?_
        refine ps_callV (M2 := mX8_agrees) (av := [.inl v1, .inl (σ 54 0 v5.toNatClampNeg), .inl (σ 54 0 v2.toNatClampNeg)]) (rest := []) (ps_at tX8_joins_ok 28 rfl) cvX8_120 sh_50 rfl rfl (fun _ => Nat.le_of_ble_eq_true rfl) (pX8_agrees (h8 c0 c1 c2) (h5 c0 c1) (h9 c0 c1 c2) ?_)
        refine ps_if_eq (tgt := 58) (ps_at tX8_joins_ok 29 rfl) (by decide) (fun c3 => ?_) (fun c3 => ?_)
        · skip
          refine ps_iconst (x := 0) (ps_at tX8_joins_ok 32 rfl) (by decide) ?_
          refine ps_istore (L' := [some (.inr (.inr (50, 0))), some (.inl v1), some (.inl v2), some (.inl v3), some (.inl 0), some (.inl v5)]) (ps_at tX8_joins_ok 33 rfl) (by decide) rfl ?_
          refine ps_iinc (L' := [some (.inr (.inr (50, 0))), some (.inl v1), some (.inl v2), some (.inl v3), some (.inl 0), some (.inl (v5 + 1))]) (y := 1) (ps_at tX8_joins_ok 34 rfl) rfl (by decide) (by decide) rfl ?_
          refine ps_goto (tgt := 6) (ps_at tX8_joins_ok 35 rfl) (by decide) ?_
          exact h10 c0 c1 c2 c3
        · skip
          refine ps_iconst (x := 1) (ps_at tX8_joins_ok 30 rfl) (by decide) ?_
          refine ps_goto (tgt := 59) (ps_at tX8_joins_ok 31 rfl) (by decide) ?_
          refine ps_istore (L' := [some (.inr (.inr (50, 0))), some (.inl v1), some (.inl v2), some (.inl v3), some (.inl 1), some (.inl v5)]) (ps_at tX8_joins_ok 33 rfl) (by decide) rfl ?_
          refine ps_iinc (L' := [some (.inr (.inr (50, 0))), some (.inl v1), some (.inl v2), some (.inl v3), some (.inl 1), some (.inl (v5 + 1))]) (y := 1) (ps_at tX8_joins_ok 34 rfl) rfl (by decide) (by decide) rfl ?_
          refine ps_goto (tgt := 6) (ps_at tX8_joins_ok 35 rfl) (by decide) ?_
          exact h11 c0 c1 c2 c3
theorem eX8_joins {d : Nat} {Q : Option ps_V → ps_S → Prop} {v1 : Int32} {v2 : Int32} {v3 : Int32} {σ : ps_S} (h : kX8_joins_0 d Q v1 v2 v3 σ) : ps_C mX8_joins (d + 2) [.inr (.inr (50, 0)), .inl v1, .inl v2, .inl v3] σ Q := ps_enter (by decide) rfl ⟨rfl, rfl, rfl⟩ rfl (Nat.le_of_ble_eq_true rfl) h
abbrev kX8_layGroups_0 (d : Nat) (Q : Option ps_V → ps_S → Prop) (v1 : Int32) (v2 : Int32) (v3 : Int32) (σ : ps_S) : Prop := ps_K mX8_layGroups (d + 1) (ps_QF Q) 0 [some (.inr (.inr (50, 0))), some (.inl v1), some (.inl v2), some (.inl v3), none, none, none] [] σ
abbrev kX8_layGroups_19 (d : Nat) (Q : Option ps_V → ps_S → Prop) (v1 : Int32) (v2 : Int32) (v3 : Int32) (v4 : Int32) (σ : ps_S) : Prop := ps_K mX8_layGroups (d + 1) (ps_QF Q) 19 [some (.inr (.inr (50, 0))), some (.inl v1), some (.inl v2), some (.inl v3), some (.inl v4), none, none] [] σ
abbrev kX8_layGroups_192 (d : Nat) (Q : Option ps_V → ps_S → Prop) (v2 : Int32) (v4 : Int32) (σ : ps_S) : Prop := ps_K mX8_layGroups (d + 1) (ps_QF Q) 192 [none, none, some (.inl v2), none, some (.inl v4), none, none] [] σ
abbrev kX8_layGroups_36 (d : Nat) (Q : Option ps_V → ps_S → Prop) (v1 : Int32) (v2 : Int32) (v3 : Int32) (v4 : Int32) (v5 : Int32) (v6 : Int32) (σ : ps_S) : Prop := ps_K mX8_layGroups (d + 1) (ps_QF Q) 36 [some (.inr (.inr (50, 0))), some (.inl v1), some (.inl v2), some (.inl v3), some (.inl v4), some (.inl v5), some (.inl v6)] [] σ
abbrev kX8_layGroups_103 (d : Nat) (Q : Option ps_V → ps_S → Prop) (v1 : Int32) (v2 : Int32) (v3 : Int32) (v4 : Int32) (v5 : Int32) (v6 : Int32) (σ : ps_S) : Prop := ps_K mX8_layGroups (d + 1) (ps_QF Q) 103 [some (.inr (.inr (50, 0))), some (.inl v1), some (.inl v2), some (.inl v3), some (.inl v4), some (.inl v5), some (.inl v6)] [] σ
abbrev kX8_layGroups_134 (d : Nat) (Q : Option ps_V → ps_S → Prop) (v1 : Int32) (v2 : Int32) (v3 : Int32) (v4 : Int32) (v5 : Int32) (v6 : Int32) (σ : ps_S) : Prop := ps_K mX8_layGroups (d + 1) (ps_QF Q) 134 [some (.inr (.inr (50, 0))), some (.inl v1), some (.inl v2), some (.inl v3), some (.inl v4), some (.inl v5), some (.inl v6)] [] σ
abbrev kX8_layGroups_125 (d : Nat) (Q : Option ps_V → ps_S → Prop) (v1 : Int32) (v2 : Int32) (v3 : Int32) (v4 : Int32) (v5 : Int32) (v6 : Int32) (s0 : Int32) (σ : ps_S) : Prop := ps_K mX8_layGroups (d + 1) (ps_QF Q) 125 [some (.inr (.inr (50, 0))), some (.inl v1), some (.inl v2), some (.inl v3), some (.inl v4), some (.inl v5), some (.inl v6)] [.inl s0] σ
theorem bX8_layGroups_0 {d : Nat} {Q : Option ps_V → ps_S → Prop} {v1 : Int32} {v2 : Int32} {v3 : Int32} {σ : ps_S} (h1 : v2 ≤ 0 → kX8_layGroups_19 d Q v1 v2 v3 0 σ) (h2 : ¬ v2 ≤ 0 → vp_in 0 9) (h3 : ¬ v2 ≤ 0 → vp_in (σ 54 0 (0 : Int32).toNatClampNeg) 9) (h4 : ¬ v2 ≤ 0 → kX8_layGroups_19 d Q v1 v2 v3 0 (ps_up σ 53 0 (σ 54 0 (0 : Int32).toNatClampNeg).toNatClampNeg (-1))) : kX8_layGroups_0 d Q v1 v2 v3 σ := by
  refine ps_iconst (x := 0) (ps_at tX8_layGroups_ok 0 rfl) (by decide) ?_
  refine ps_istore (L' := [some (.inr (.inr (50, 0))), some (.inl v1), some (.inl v2), some (.inl v3), some (.inl 0), none, none]) (ps_at tX8_layGroups_ok 1 rfl) (by decide) rfl ?_
  refine ps_iload_n (ps_at tX8_layGroups_ok 2 rfl) rfl rfl ?_
  refine ps_if_le (tgt := 19) (ps_at tX8_layGroups_ok 3 rfl) (by decide) (fun c0 => ?_) (fun c0 => ?_)
  · skip
    exact h1 c0
  · skip
    refine ps_aload_n (ps_at tX8_layGroups_ok 4 rfl) rfl rfl ?_
    refine ps_getR (ps_at tX8_layGroups_ok 5 rfl) flX8_13 sh_50 rfl ?_
    refine ps_aload_n (ps_at tX8_layGroups_ok 6 rfl) rfl rfl ?_
    refine ps_getR (ps_at tX8_layGroups_ok 7 rfl) flX8_16 sh_50 rfl ?_
    refine ps_iconst (x := 0) (ps_at tX8_layGroups_ok 8 rfl) (by decide) ?_
    refine ps_iald (ps_at tX8_layGroups_ok 9 rfl) sh_54 (h2 c0) ?_
    refine ps_iconst (x := (-1)) (ps_at tX8_layGroups_ok 10 rfl) (by decide) ?_
    refine ps_iast (ps_at tX8_layGroups_ok 11 rfl) sh_53 (h3 c0) ?_
    exact h4 c0
theorem bX8_layGroups_19 {d : Nat} {Q : Option ps_V → ps_S → Prop} {v1 : Int32} {v2 : Int32} {v3 : Int32} {v4 : Int32} {σ : ps_S} (h1 : v4 < 0 → kX8_layGroups_192 d Q v2 v4 σ) (h2 : ¬ v4 < 0 → v2 ≤ v4 → kX8_layGroups_192 d Q v2 v4 σ) (h3 : ¬ v4 < 0 → ¬ v2 ≤ v4 → kX8_layGroups_36 d Q v1 v2 v3 v4 0 0 σ) : kX8_layGroups_19 d Q v1 v2 v3 v4 σ := by
  refine ps_iload (ps_at tX8_layGroups_ok 12 rfl) rfl ?_
  refine ps_if_lt (tgt := 192) (ps_at tX8_layGroups_ok 13 rfl) (by decide) (fun c0 => ?_) (fun c0 => ?_)
  · skip
    refine ps_forget (L' := [none, none, some (.inl v2), none, some (.inl v4), none, none]) (And.intro rfl (And.intro rfl trivial)) ?_
    exact h1 c0
  · skip
    refine ps_iload (ps_at tX8_layGroups_ok 14 rfl) rfl ?_
    refine ps_iload_n (ps_at tX8_layGroups_ok 15 rfl) rfl rfl ?_
    refine ps_icmp_ge (tgt := 192) (ps_at tX8_layGroups_ok 16 rfl) (by decide) (fun c1 => ?_) (fun c1 => ?_)
    · skip
      refine ps_forget (L' := [none, none, some (.inl v2), none, some (.inl v4), none, none]) (And.intro rfl (And.intro rfl trivial)) ?_
      exact h2 c0 c1
    · skip
      refine ps_iconst (x := 0) (ps_at tX8_layGroups_ok 17 rfl) (by decide) ?_
      refine ps_istore (L' := [some (.inr (.inr (50, 0))), some (.inl v1), some (.inl v2), some (.inl v3), some (.inl v4), some (.inl 0), none]) (ps_at tX8_layGroups_ok 18 rfl) (by decide) rfl ?_
      refine ps_iconst (x := 0) (ps_at tX8_layGroups_ok 19 rfl) (by decide) ?_
      refine ps_istore (L' := [some (.inr (.inr (50, 0))), some (.inl v1), some (.inl v2), some (.inl v3), some (.inl v4), some (.inl 0), some (.inl 0)]) (ps_at tX8_layGroups_ok 20 rfl) (by decide) rfl ?_
      exact h3 c0 c1
theorem bX8_layGroups_192 {d : Nat} {Q : Option ps_V → ps_S → Prop} {v2 : Int32} {v4 : Int32} {σ : ps_S} (h1 : ¬ v4 = v2 → Q (some (.inl 0)) σ) (h2 : v4 = v2 → Q (some (.inl 1)) σ) : kX8_layGroups_192 d Q v2 v4 σ := by
  refine ps_iload (ps_at tX8_layGroups_ok 100 rfl) rfl ?_
  refine ps_iload_n (ps_at tX8_layGroups_ok 101 rfl) rfl rfl ?_
  refine ps_icmp_ne (tgt := 202) (ps_at tX8_layGroups_ok 102 rfl) (by decide) (fun c0 => ?_) (fun c0 => ?_)
  · skip
    refine ps_iconst (x := 0) (ps_at tX8_layGroups_ok 105 rfl) (by decide) ?_
    exact ps_zret (ps_at tX8_layGroups_ok 106 rfl) rfl ⟨rfl, rfl⟩ (Or.inl rfl) (h1 c0)
  · skip
    refine ps_iconst (x := 1) (ps_at tX8_layGroups_ok 103 rfl) (by decide) ?_
    refine ps_goto (tgt := 203) (ps_at tX8_layGroups_ok 104 rfl) (by decide) ?_
    exact ps_zret (ps_at tX8_layGroups_ok 106 rfl) rfl ⟨rfl, rfl⟩ (Or.inr rfl) (h2 c0)
theorem bX8_layGroups_36 {d : Nat} {Q : Option ps_V → ps_S → Prop} {v1 : Int32} {v2 : Int32} {v3 : Int32} {v4 : Int32} {v5 : Int32} {v6 : Int32} {σ : ps_S} (h1 : v4 ≤ v6 → vp_in v4 9) (h2 : v4 ≤ v6 → vp_in (σ 54 0 v4.toNatClampNeg) 9) (h3 : v4 ≤ v6 → kX8_layGroups_103 d Q v1 v2 v3 v4 v5 ((σ 53 0 (σ 54 0 v4.toNatClampNeg).toNatClampNeg) + 1) σ) (h4 : ¬ v4 ≤ v6 → vp_in v6 9) (h5 : ¬ v4 ≤ v6 → vp_in (σ 54 0 v6.toNatClampNeg) 9) (h6 : ¬ v4 ≤ v6 → (σ 53 0 (σ 54 0 v6.toNatClampNeg).toNatClampNeg) < v5 → kX8_layGroups_36 d Q v1 v2 v3 v4 v5 (v6 + 1) σ) (h7 : ¬ v4 ≤ v6 → ¬ (σ 53 0 (σ 54 0 v6.toNatClampNeg).toNatClampNeg) < v5 → kX8_layGroups_36 d Q v1 v2 v3 v4 ((σ 53 0 (σ 54 0 v6.toNatClampNeg).toNatClampNeg) + 1) (v6 + 1) σ) : kX8_layGroups_36 d Q v1 v2 v3 v4 v5 v6 σ := by
  refine ps_iload (ps_at tX8_layGroups_ok 21 rfl) rfl ?_
  refine ps_iload (ps_at tX8_layGroups_ok 22 rfl) rfl ?_
  refine ps_icmp_ge (tgt := 87) (ps_at tX8_layGroups_ok 23 rfl) (by decide) (fun c0 => ?_) (fun c0 => ?_)
  · skip
    refine ps_aload_n (ps_at tX8_layGroups_ok 47 rfl) rfl rfl ?_
    refine ps_getR (ps_at tX8_layGroups_ok 48 rfl) flX8_13 sh_50 rfl ?_
    refine ps_aload_n (ps_at tX8_layGroups_ok 49 rfl) rfl rfl ?_
    refine ps_getR (ps_at tX8_layGroups_ok 50 rfl) flX8_16 sh_50 rfl ?_
    refine ps_iload (ps_at tX8_layGroups_ok 51 rfl) rfl ?_
    refine ps_iald (ps_at tX8_layGroups_ok 52 rfl) sh_54 (h1 c0) ?_
    refine ps_iald (ps_at tX8_layGroups_ok 53 rfl) sh_53 (h2 c0) ?_
    refine ps_iconst (x := 1) (ps_at tX8_layGroups_ok 54 rfl) (by decide) ?_
    refine ps_iadd (ps_at tX8_layGroups_ok 55 rfl) ?_
    refine ps_istore (L' := [some (.inr (.inr (50, 0))), some (.inl v1), some (.inl v2), some (.inl v3), some (.inl v4), some (.inl v5), some (.inl ((σ 53 0 (σ 54 0 v4.toNatClampNeg).toNatClampNeg) + 1))]) (ps_at tX8_layGroups_ok 56 rfl) (by decide) rfl ?_
    exact h3 c0
  · skip
    refine ps_aload_n (ps_at tX8_layGroups_ok 24 rfl) rfl rfl ?_
    refine ps_getR (ps_at tX8_layGroups_ok 25 rfl) flX8_13 sh_50 rfl ?_
    refine ps_aload_n (ps_at tX8_layGroups_ok 26 rfl) rfl rfl ?_
    refine ps_getR (ps_at tX8_layGroups_ok 27 rfl) flX8_16 sh_50 rfl ?_
    refine ps_iload (ps_at tX8_layGroups_ok 28 rfl) rfl ?_
    refine ps_iald (ps_at tX8_layGroups_ok 29 rfl) sh_54 (h4 c0) ?_
    refine ps_iald (ps_at tX8_layGroups_ok 30 rfl) sh_53 (h5 c0) ?_
    refine ps_iload (ps_at tX8_layGroups_ok 31 rfl) rfl ?_
    refine ps_icmp_lt (tgt := 77) (ps_at tX8_layGroups_ok 32 rfl) (by decide) (fun c1 => ?_) (fun c1 => ?_)
    · skip
      refine ps_iload (ps_at tX8_layGroups_ok 43 rfl) rfl ?_
      refine ps_istore (L' := [some (.inr (.inr (50, 0))), some (.inl v1), some (.inl v2), some (.inl v3), some (.inl v4), some (.inl v5), some (.inl v6)]) (ps_at tX8_layGroups_ok 44 rfl) (by decide) rfl ?_
      refine ps_iinc (L' := [some (.inr (.inr (50, 0))), some (.inl v1), some (.inl v2), some (.inl v3), some (.inl v4), some (.inl v5), some (.inl (v6 + 1))]) (y := 1) (ps_at tX8_layGroups_ok 45 rfl) rfl (by decide) (by decide) rfl ?_
      refine ps_goto (tgt := 36) (ps_at tX8_layGroups_ok 46 rfl) (by decide) ?_
      exact h6 c0 c1
    · skip
      refine ps_aload_n (ps_at tX8_layGroups_ok 33 rfl) rfl rfl ?_
      refine ps_getR (ps_at tX8_layGroups_ok 34 rfl) flX8_13 sh_50 rfl ?_
      refine ps_aload_n (ps_at tX8_layGroups_ok 35 rfl) rfl rfl ?_
      refine ps_getR (ps_at tX8_layGroups_ok 36 rfl) flX8_16 sh_50 rfl ?_
      refine ps_iload (ps_at tX8_layGroups_ok 37 rfl) rfl ?_
      refine ps_iald (ps_at tX8_layGroups_ok 38 rfl) sh_54 (h4 c0) ?_
      refine ps_iald (ps_at tX8_layGroups_ok 39 rfl) sh_53 (h5 c0) ?_
      refine ps_iconst (x := 1) (ps_at tX8_layGroups_ok 40 rfl) (by decide) ?_
      refine ps_iadd (ps_at tX8_layGroups_ok 41 rfl) ?_
      refine ps_goto (tgt := 79) (ps_at tX8_layGroups_ok 42 rfl) (by decide) ?_
      refine ps_istore (L' := [some (.inr (.inr (50, 0))), some (.inl v1), some (.inl v2), some (.inl v3), some (.inl v4), some (.inl ((σ 53 0 (σ 54 0 v6.toNatClampNeg).toNatClampNeg) + 1)), some (.inl v6)]) (ps_at tX8_layGroups_ok 44 rfl) (by decide) rfl ?_
      refine ps_iinc (L' := [some (.inr (.inr (50, 0))), some (.inl v1), some (.inl v2), some (.inl v3), some (.inl v4), some (.inl ((σ 53 0 (σ 54 0 v6.toNatClampNeg).toNatClampNeg) + 1)), some (.inl (v6 + 1))]) (y := 1) (ps_at tX8_layGroups_ok 45 rfl) rfl (by decide) (by decide) rfl ?_
      refine ps_goto (tgt := 36) (ps_at tX8_layGroups_ok 46 rfl) (by decide) ?_
      exact h7 c0 c1
theorem bX8_layGroups_103 {d : Nat} {Q : Option ps_V → ps_S → Prop} {v1 : Int32} {v2 : Int32} {v3 : Int32} {v4 : Int32} {v5 : Int32} {v6 : Int32} {σ : ps_S} (h1 : v5 < v6 → kX8_layGroups_134 d Q v1 v2 v3 v4 v5 v6 σ) (h2 : ¬ v5 < v6 → v3 ≤ v6 → kX8_layGroups_134 d Q v1 v2 v3 v4 v5 v6 σ) (h3 : ¬ v5 < v6 → ¬ v3 ≤ v6 → ps_C mX8_joins d [.inr (.inr (50, 0)), .inl v1, .inl v4, .inl v6] σ (ps_ri (fun x σ1 => kX8_layGroups_125 d Q v1 v2 v3 v4 v5 v6 x σ1))) : kX8_layGroups_103 d Q v1 v2 v3 v4 v5 v6 σ := by
  refine ps_iload (ps_at tX8_layGroups_ok 57 rfl) rfl ?_
  refine ps_iload (ps_at tX8_layGroups_ok 58 rfl) rfl ?_
  refine ps_icmp_gt (tgt := 134) (ps_at tX8_layGroups_ok 59 rfl) (by decide) (fun c0 => ?_) (fun c0 => ?_)
  · skip
    exact h1 c0
  · skip
    refine ps_iload (ps_at tX8_layGroups_ok 60 rfl) rfl ?_
    refine ps_iload_n (ps_at tX8_layGroups_ok 61 rfl) rfl rfl ?_
    refine ps_icmp_ge (tgt := 134) (ps_at tX8_layGroups_ok 62 rfl) (by decide) (fun c1 => ?_) (fun c1 => ?_)
    · skip
      exact h2 c0 c1
    · skip
      refine ps_aload_n (ps_at tX8_layGroups_ok 63 rfl) rfl rfl ?_
      refine ps_iload_n (ps_at tX8_layGroups_ok 64 rfl) rfl rfl ?_
      refine ps_iload (ps_at tX8_layGroups_ok 65 rfl) rfl ?_
      refine ps_iload (ps_at tX8_layGroups_ok 66 rfl) rfl ?_
      refine ps_callV (M2 := mX8_joins) (av := [.inl v1, .inl v4, .inl v6]) (rest := []) (ps_at tX8_layGroups_ok 67 rfl) cvX8_124 sh_50 rfl rfl (fun _ => Nat.le_of_ble_eq_true rfl) ?_
      refine ps_C.imp ?_ (h3 c0 c1)
      rintro _ σ1 ⟨x, rfl, hx⟩
      exact hx
theorem bX8_layGroups_134 {d : Nat} {Q : Option ps_V → ps_S → Prop} {v1 : Int32} {v2 : Int32} {v3 : Int32} {v4 : Int32} {v5 : Int32} {v6 : Int32} {σ : ps_S} (h1 : v5 < v6 → kX8_layGroups_19 d Q v1 v2 v3 (v4 + (-1)) σ) (h2 : ¬ v5 < v6 → v6 < v3 → vp_in v4 9) (h3 : ¬ v5 < v6 → v6 < v3 → vp_in (σ 54 0 v4.toNatClampNeg) 9) (h4 : ¬ v5 < v6 → v6 < v3 → v2 ≤ (v4 + 1) → kX8_layGroups_19 d Q v1 v2 v3 (v4 + 1) (ps_up σ 53 0 (σ 54 0 v4.toNatClampNeg).toNatClampNeg v6)) (h5 : ¬ v5 < v6 → v6 < v3 → ¬ v2 ≤ (v4 + 1) → vp_in (v4 + 1) 9) (h6 : ¬ v5 < v6 → v6 < v3 → ¬ v2 ≤ (v4 + 1) → vp_in ((ps_up σ 53 0 (σ 54 0 v4.toNatClampNeg).toNatClampNeg v6) 54 0 (v4 + 1).toNatClampNeg) 9) (h7 : ¬ v5 < v6 → v6 < v3 → ¬ v2 ≤ (v4 + 1) → kX8_layGroups_19 d Q v1 v2 v3 (v4 + 1) (ps_up (ps_up σ 53 0 (σ 54 0 v4.toNatClampNeg).toNatClampNeg v6) 53 0 ((ps_up σ 53 0 (σ 54 0 v4.toNatClampNeg).toNatClampNeg v6) 54 0 (v4 + 1).toNatClampNeg).toNatClampNeg (-1))) (h8 : ¬ v5 < v6 → ¬ v6 < v3 → kX8_layGroups_19 d Q v1 v2 v3 (v4 + (-1)) σ) : kX8_layGroups_134 d Q v1 v2 v3 v4 v5 v6 σ := by
  refine ps_iload (ps_at tX8_layGroups_ok 71 rfl) rfl ?_
  refine ps_iload (ps_at tX8_layGroups_ok 72 rfl) rfl ?_
  refine ps_icmp_gt (tgt := 147) (ps_at tX8_layGroups_ok 73 rfl) (by decide) (fun c0 => ?_) (fun c0 => ?_)
  · skip
    refine ps_iinc (L' := [some (.inr (.inr (50, 0))), some (.inl v1), some (.inl v2), some (.inl v3), some (.inl (v4 + (-1))), some (.inl v5), some (.inl v6)]) (y := (-1)) (ps_at tX8_layGroups_ok 77 rfl) rfl (by decide) (by decide) rfl ?_
    refine ps_goto (tgt := 189) (ps_at tX8_layGroups_ok 78 rfl) (by decide) ?_
    refine ps_goto (tgt := 19) (ps_at tX8_layGroups_ok 99 rfl) (by decide) ?_
    refine ps_forget (L' := [some (.inr (.inr (50, 0))), some (.inl v1), some (.inl v2), some (.inl v3), some (.inl (v4 + (-1))), none, none]) (And.intro rfl (And.intro rfl (And.intro rfl (And.intro rfl (And.intro rfl trivial))))) ?_
    exact h1 c0
  · skip
    refine ps_iload (ps_at tX8_layGroups_ok 74 rfl) rfl ?_
    refine ps_iload_n (ps_at tX8_layGroups_ok 75 rfl) rfl rfl ?_
    refine ps_icmp_lt (tgt := 153) (ps_at tX8_layGroups_ok 76 rfl) (by decide) (fun c1 => ?_) (fun c1 => ?_)
    · skip
      refine ps_aload_n (ps_at tX8_layGroups_ok 79 rfl) rfl rfl ?_
      refine ps_getR (ps_at tX8_layGroups_ok 80 rfl) flX8_13 sh_50 rfl ?_
      refine ps_aload_n (ps_at tX8_layGroups_ok 81 rfl) rfl rfl ?_
      refine ps_getR (ps_at tX8_layGroups_ok 82 rfl) flX8_16 sh_50 rfl ?_
      refine ps_iload (ps_at tX8_layGroups_ok 83 rfl) rfl ?_
      refine ps_iald (ps_at tX8_layGroups_ok 84 rfl) sh_54 (h2 c0 c1) ?_
      refine ps_iload (ps_at tX8_layGroups_ok 85 rfl) rfl ?_
      refine ps_iast (ps_at tX8_layGroups_ok 86 rfl) sh_53 (h3 c0 c1) ?_
      refine ps_iinc (L' := [some (.inr (.inr (50, 0))), some (.inl v1), some (.inl v2), some (.inl v3), some (.inl (v4 + 1)), some (.inl v5), some (.inl v6)]) (y := 1) (ps_at tX8_layGroups_ok 87 rfl) rfl (by decide) (by decide) rfl ?_
      refine ps_iload (ps_at tX8_layGroups_ok 88 rfl) rfl ?_
      refine ps_iload_n (ps_at tX8_layGroups_ok 89 rfl) rfl rfl ?_
      refine ps_icmp_ge (tgt := 189) (ps_at tX8_layGroups_ok 90 rfl) (by decide) (fun c2 => ?_) (fun c2 => ?_)
      · skip
        refine ps_goto (tgt := 19) (ps_at tX8_layGroups_ok 99 rfl) (by decide) ?_
        refine ps_forget (L' := [some (.inr (.inr (50, 0))), some (.inl v1), some (.inl v2), some (.inl v3), some (.inl (v4 + 1)), none, none]) (And.intro rfl (And.intro rfl (And.intro rfl (And.intro rfl (And.intro rfl trivial))))) ?_
        exact h4 c0 c1 c2
      · skip
        refine ps_aload_n (ps_at tX8_layGroups_ok 91 rfl) rfl rfl ?_
        refine ps_getR (ps_at tX8_layGroups_ok 92 rfl) flX8_13 sh_50 rfl ?_
        refine ps_aload_n (ps_at tX8_layGroups_ok 93 rfl) rfl rfl ?_
        refine ps_getR (ps_at tX8_layGroups_ok 94 rfl) flX8_16 sh_50 rfl ?_
        refine ps_iload (ps_at tX8_layGroups_ok 95 rfl) rfl ?_
        refine ps_iald (ps_at tX8_layGroups_ok 96 rfl) sh_54 (h5 c0 c1 c2) ?_
        refine ps_iconst (x := (-1)) (ps_at tX8_layGroups_ok 97 rfl) (by decide) ?_
        refine ps_iast (ps_at tX8_layGroups_ok 98 rfl) sh_53 (h6 c0 c1 c2) ?_
        refine ps_goto (tgt := 19) (ps_at tX8_layGroups_ok 99 rfl) (by decide) ?_
        refine ps_forget (L' := [some (.inr (.inr (50, 0))), some (.inl v1), some (.inl v2), some (.inl v3), some (.inl (v4 + 1)), none, none]) (And.intro rfl (And.intro rfl (And.intro rfl (And.intro rfl (And.intro rfl trivial))))) ?_
        exact h7 c0 c1 c2
    · skip
      refine ps_iinc (L' := [some (.inr (.inr (50, 0))), some (.inl v1), some (.inl v2), some (.inl v3), some (.inl (v4 + (-1))), some (.inl v5), some (.inl v6)]) (y := (-1)) (ps_at tX8_layGroups_ok 77 rfl) rfl (by decide) (by decide) rfl ?_
      refine ps_goto (tgt := 189) (ps_at tX8_layGroups_ok 78 rfl) (by decide) ?_
      refine ps_goto (tgt := 19) (ps_at tX8_layGroups_ok 99 rfl) (by decide) ?_
      refine ps_forget (L' := [some (.inr (.inr (50, 0))), some (.inl v1), some (.inl v2), some (.inl v3), some (.inl (v4 + (-1))), none, none]) (And.intro rfl (And.intro rfl (And.intro rfl (And.intro rfl (And.intro rfl trivial))))) ?_
      exact h8 c0 c1
theorem bX8_layGroups_125 {d : Nat} {Q : Option ps_V → ps_S → Prop} {v1 : Int32} {v2 : Int32} {v3 : Int32} {v4 : Int32} {v5 : Int32} {v6 : Int32} {s0 : Int32} {σ : ps_S} (h1 : ¬ s0 = 0 → kX8_layGroups_134 d Q v1 v2 v3 v4 v5 v6 σ) (h2 : s0 = 0 → kX8_layGroups_103 d Q v1 v2 v3 v4 v5 (v6 + 1) σ) : kX8_layGroups_125 d Q v1 v2 v3 v4 v5 v6 s0 σ := by
  refine ps_if_ne (tgt := 134) (ps_at tX8_layGroups_ok 68 rfl) (by decide) (fun c0 => ?_) (fun c0 => ?_)
  · skip
    exact h1 c0
  · skip
    refine ps_iinc (L' := [some (.inr (.inr (50, 0))), some (.inl v1), some (.inl v2), some (.inl v3), some (.inl v4), some (.inl v5), some (.inl (v6 + 1))]) (y := 1) (ps_at tX8_layGroups_ok 69 rfl) rfl (by decide) (by decide) rfl ?_
    refine ps_goto (tgt := 103) (ps_at tX8_layGroups_ok 70 rfl) (by decide) ?_
    exact h2 c0
theorem eX8_layGroups {d : Nat} {Q : Option ps_V → ps_S → Prop} {v1 : Int32} {v2 : Int32} {v3 : Int32} {σ : ps_S} (h : kX8_layGroups_0 d Q v1 v2 v3 σ) : ps_C mX8_layGroups (d + 1) [.inr (.inr (50, 0)), .inl v1, .inl v2, .inl v3] σ Q := ps_enter (by decide) rfl ⟨rfl, rfl, rfl⟩ rfl (Nat.le_of_ble_eq_true rfl) h
abbrev kX8_layStates_0 (d : Nat) (Q : Option ps_V → ps_S → Prop) (v1 : Int32) (σ : ps_S) : Prop := ps_K mX8_layStates (d + 2) (ps_QF Q) 0 [some (.inr (.inr (50, 0))), some (.inl v1), none, none] [] σ
abbrev kX8_layStates_4 (d : Nat) (Q : Option ps_V → ps_S → Prop) (v1 : Int32) (v2 : Int32) (v3 : Int32) (σ : ps_S) : Prop := ps_K mX8_layStates (d + 2) (ps_QF Q) 4 [some (.inr (.inr (50, 0))), some (.inl v1), some (.inl v2), some (.inl v3)] [] σ
abbrev kX8_layStates_48 (d : Nat) (Q : Option ps_V → ps_S → Prop) (v1 : Int32) (v2 : Int32) (σ : ps_S) : Prop := ps_K mX8_layStates (d + 2) (ps_QF Q) 48 [some (.inr (.inr (50, 0))), some (.inl v1), some (.inl v2), none] [] σ
abbrev kX8_layStates_58 (d : Nat) (Q : Option ps_V → ps_S → Prop) (v1 : Int32) (v2 : Int32) (s0 : Int32) (σ : ps_S) : Prop := ps_K mX8_layStates (d + 2) (ps_QF Q) 58 [some (.inr (.inr (50, 0))), some (.inl v1), some (.inl v2), none] [.inl s0] σ
theorem bX8_layStates_0 {d : Nat} {Q : Option ps_V → ps_S → Prop} {v1 : Int32} {σ : ps_S} (h1 : kX8_layStates_4 d Q v1 0 0 σ) : kX8_layStates_0 d Q v1 σ := by
  refine ps_iconst (x := 0) (ps_at tX8_layStates_ok 0 rfl) (by decide) ?_
  refine ps_istore_n (L' := [some (.inr (.inr (50, 0))), some (.inl v1), some (.inl 0), none]) (ps_at tX8_layStates_ok 1 rfl) rfl (by decide) rfl ?_
  refine ps_iconst (x := 0) (ps_at tX8_layStates_ok 2 rfl) (by decide) ?_
  refine ps_istore_n (L' := [some (.inr (.inr (50, 0))), some (.inl v1), some (.inl 0), some (.inl 0)]) (ps_at tX8_layStates_ok 3 rfl) rfl (by decide) rfl ?_
  exact h1
theorem bX8_layStates_4 {d : Nat} {Q : Option ps_V → ps_S → Prop} {v1 : Int32} {v2 : Int32} {v3 : Int32} {σ : ps_S} (h1 : 9 ≤ v3 → kX8_layStates_48 d Q v1 v2 (ps_up σ 50 0 1 0)) (h2 : ¬ 9 ≤ v3 → vp_in v3 9) (h3 : ¬ 9 ≤ v3 → vp_in v1 6) (h4 : ¬ 9 ≤ v3 → (jbP (mLk (ps_up σ 53 0 v3.toNatClampNeg (-900009)) v1.toNatClampNeg v3.toNatClampNeg)) = 0 → kX8_layStates_4 d Q v1 v2 (v3 + 1) (ps_up σ 53 0 v3.toNatClampNeg (-900009))) (h5 : ¬ 9 ≤ v3 → ¬ (jbP (mLk (ps_up σ 53 0 v3.toNatClampNeg (-900009)) v1.toNatClampNeg v3.toNatClampNeg)) = 0 → vp_in v2 9) (h6 : ¬ 9 ≤ v3 → ¬ (jbP (mLk (ps_up σ 53 0 v3.toNatClampNeg (-900009)) v1.toNatClampNeg v3.toNatClampNeg)) = 0 → kX8_layStates_4 d Q v1 (v2 + 1) (v3 + 1) (ps_up (ps_up σ 53 0 v3.toNatClampNeg (-900009)) 54 0 v2.toNatClampNeg v3)) : kX8_layStates_4 d Q v1 v2 v3 σ := by
  refine ps_iload_n (ps_at tX8_layStates_ok 4 rfl) rfl rfl ?_
  refine ps_bipush (x := 9) (ps_at tX8_layStates_ok 5 rfl) (by decide) ?_
  refine ps_icmp_ge (tgt := 43) (ps_at tX8_layStates_ok 6 rfl) (by decide) (fun c0 => ?_) (fun c0 => ?_)
  · skip
    refine ps_aload_n (ps_at tX8_layStates_ok 25 rfl) rfl rfl ?_
    refine ps_iconst (x := 0) (ps_at tX8_layStates_ok 26 rfl) (by decide) ?_
    refine ps_putI (ps_at tX8_layStates_ok 27 rfl) fpX8_131 sh_50 rfl ?_
    refine ps_forget (L' := [some (.inr (.inr (50, 0))), some (.inl v1), some (.inl v2), none]) (And.intro rfl (And.intro rfl (And.intro rfl trivial))) ?_
    exact h1 c0
  · skip
    refine ps_aload_n (ps_at tX8_layStates_ok 7 rfl) rfl rfl ?_
    refine ps_getR (ps_at tX8_layStates_ok 8 rfl) flX8_13 sh_50 rfl ?_
    refine ps_iload_n (ps_at tX8_layStates_ok 9 rfl) rfl rfl ?_
    refine ps_ldc (ps_at tX8_layStates_ok 10 rfl) cnX8_96 ?_
    refine ps_iast (ps_at tX8_layStates_ok 11 rfl) sh_53 (h2 c0) ?_
    refine ps_aload_n (ps_at tX8_layStates_ok 12 rfl) rfl rfl ?_
    refine ps_iload_n (ps_at tX8_layStates_ok 13 rfl) rfl rfl ?_
    refine ps_iload_n (ps_at tX8_layStates_ok 14 rfl) rfl rfl ?_
    refine ps_callV (M2 := mX8_isLooked) (av := [.inl v1, .inl v3]) (rest := []) (ps_at tX8_layStates_ok 15 rfl) cvX8_127 sh_50 rfl rfl (fun _ => Nat.le_of_ble_eq_true rfl) (pX8_isLooked (h3 c0) (h2 c0) ?_)
    refine ps_if_eq (tgt := 37) (ps_at tX8_layStates_ok 16 rfl) (by decide) (fun c1 => ?_) (fun c1 => ?_)
    · skip
      refine ps_iinc (L' := [some (.inr (.inr (50, 0))), some (.inl v1), some (.inl v2), some (.inl (v3 + 1))]) (y := 1) (ps_at tX8_layStates_ok 23 rfl) rfl (by decide) (by decide) rfl ?_
      refine ps_goto (tgt := 4) (ps_at tX8_layStates_ok 24 rfl) (by decide) ?_
      exact h4 c0 c1
    · skip
      refine ps_aload_n (ps_at tX8_layStates_ok 17 rfl) rfl rfl ?_
      refine ps_getR (ps_at tX8_layStates_ok 18 rfl) flX8_16 sh_50 rfl ?_
      refine ps_iload_n (ps_at tX8_layStates_ok 19 rfl) rfl rfl ?_
      refine ps_iload_n (ps_at tX8_layStates_ok 20 rfl) rfl rfl ?_
      refine ps_iast (ps_at tX8_layStates_ok 21 rfl) sh_54 (h5 c0 c1) ?_
      refine ps_iinc (L' := [some (.inr (.inr (50, 0))), some (.inl v1), some (.inl (v2 + 1)), some (.inl v3)]) (y := 1) (ps_at tX8_layStates_ok 22 rfl) rfl (by decide) (by decide) rfl ?_
      refine ps_iinc (L' := [some (.inr (.inr (50, 0))), some (.inl v1), some (.inl (v2 + 1)), some (.inl (v3 + 1))]) (y := 1) (ps_at tX8_layStates_ok 23 rfl) rfl (by decide) (by decide) rfl ?_
      refine ps_goto (tgt := 4) (ps_at tX8_layStates_ok 24 rfl) (by decide) ?_
      exact h6 c0 c1
theorem bX8_layStates_48 {d : Nat} {Q : Option ps_V → ps_S → Prop} {v1 : Int32} {v2 : Int32} {σ : ps_S} (h1 : ps_C mX8_layGroups (d + 1) [.inr (.inr (50, 0)), .inl v1, .inl v2, .inl (σ 50 0 1)] σ (ps_ri (fun x σ1 => kX8_layStates_58 d Q v1 v2 x σ1))) : kX8_layStates_48 d Q v1 v2 σ := by
  refine ps_aload_n (ps_at tX8_layStates_ok 28 rfl) rfl rfl ?_
  refine ps_iload_n (ps_at tX8_layStates_ok 29 rfl) rfl rfl ?_
  refine ps_iload_n (ps_at tX8_layStates_ok 30 rfl) rfl rfl ?_
  refine ps_aload_n (ps_at tX8_layStates_ok 31 rfl) rfl rfl ?_
  refine ps_getI (ps_at tX8_layStates_ok 32 rfl) flX8_131 sh_50 rfl ?_
  refine ps_callV (M2 := mX8_layGroups) (av := [.inl v1, .inl v2, .inl (σ 50 0 1)]) (rest := []) (ps_at tX8_layStates_ok 33 rfl) cvX8_134 sh_50 rfl rfl (fun _ => Nat.le_of_ble_eq_true rfl) ?_
  refine ps_C.imp ?_ (h1)
  rintro _ σ1 ⟨x, rfl, hx⟩
  exact hx
theorem bX8_layStates_58 {d : Nat} {Q : Option ps_V → ps_S → Prop} {v1 : Int32} {v2 : Int32} {s0 : Int32} {σ : ps_S} (h1 : ¬ s0 = 0 → Q none σ) (h2 : s0 = 0 → kX8_layStates_48 d Q v1 v2 (ps_up σ 50 0 1 ((σ 50 0 1) + 1))) : kX8_layStates_58 d Q v1 v2 s0 σ := by
  refine ps_if_ne (tgt := 74) (ps_at tX8_layStates_ok 34 rfl) (by decide) (fun c0 => ?_) (fun c0 => ?_)
  · skip
    exact ps_vret (ps_at tX8_layStates_ok 42 rfl) rfl ⟨rfl, rfl⟩ (h1 c0)
  · skip
    refine ps_aload_n (ps_at tX8_layStates_ok 35 rfl) rfl rfl ?_
    refine ps_dup_r (ps_at tX8_layStates_ok 36 rfl) ?_
    refine ps_getI (ps_at tX8_layStates_ok 37 rfl) flX8_131 sh_50 rfl ?_
    refine ps_iconst (x := 1) (ps_at tX8_layStates_ok 38 rfl) (by decide) ?_
    refine ps_iadd (ps_at tX8_layStates_ok 39 rfl) ?_
    refine ps_putI (ps_at tX8_layStates_ok 40 rfl) fpX8_131 sh_50 rfl ?_
    refine ps_goto (tgt := 48) (ps_at tX8_layStates_ok 41 rfl) (by decide) ?_
    exact h2 c0
theorem eX8_layStates {d : Nat} {Q : Option ps_V → ps_S → Prop} {v1 : Int32} {σ : ps_S} (h : kX8_layStates_0 d Q v1 σ) : ps_C mX8_layStates (d + 2) [.inr (.inr (50, 0)), .inl v1] σ Q := ps_enter (by decide) rfl ⟨rfl, rfl, rfl⟩ rfl (Nat.le_of_ble_eq_true rfl) h
abbrev kX8_states_0 (d : Nat) (Q : Option ps_V → ps_S → Prop) (v1 : Int32) (σ : ps_S) : Prop := ps_K mX8_states (d + 2) (ps_QF Q) 0 [some (.inr (.inr (50, 0))), some (.inl v1)] [] σ
abbrev kX8_states_15 (d : Nat) (Q : Option ps_V → ps_S → Prop)  (σ : ps_S) : Prop := ps_K mX8_states (d + 2) (ps_QF Q) 15 [some (.inr (.inr (50, 0))), none] [] σ
theorem bX8_states_0 {d : Nat} {Q : Option ps_V → ps_S → Prop} {v1 : Int32} {σ : ps_S} (h1 : ¬ (jbIn v1.toInt64 0 5) = 0 → ps_C mX8_layStates (d + 1) [.inr (.inr (50, 0)), .inl v1] σ (ps_rv (fun σ1 => kX8_states_15 d Q σ1))) (h2 : (jbIn v1.toInt64 0 5) = 0 → Q (some (.inl (-900001))) σ) : kX8_states_0 d Q v1 σ := by
  refine ps_iload_n (ps_at tX8_states_ok 0 rfl) rfl rfl ?_
  refine ps_callS (M2 := mX8_isForme) (av := [.inl v1]) (rest := []) (ps_at tX8_states_ok 1 rfl) csX8_109 rfl rfl (fun _ => Nat.le_of_ble_eq_true rfl) (pX8_isForme ?_)
  refine ps_if_ne (tgt := 10) (ps_at tX8_states_ok 2 rfl) (by decide) (fun c0 => ?_) (fun c0 => ?_)
  · skip
    refine ps_aload_n (ps_at tX8_states_ok 5 rfl) rfl rfl ?_
    refine ps_iload_n (ps_at tX8_states_ok 6 rfl) rfl rfl ?_
    refine ps_callV (M2 := mX8_layStates) (av := [.inl v1]) (rest := []) (ps_at tX8_states_ok 7 rfl) cvX8_137 sh_50 rfl rfl (fun _ => Nat.le_of_ble_eq_true rfl) ?_
    refine ps_C.imp ?_ (h1 c0)
    rintro _ σ1 ⟨rfl, hx⟩
    exact ps_forget (L' := [some (.inr (.inr (50, 0))), none]) (And.intro rfl trivial) hx
  · skip
    refine ps_ldc (ps_at tX8_states_ok 3 rfl) cnX8_112 ?_
    exact ps_iret (ps_at tX8_states_ok 4 rfl) rfl ⟨rfl, rfl⟩ (h2 c0)
theorem bX8_states_15 {d : Nat} {Q : Option ps_V → ps_S → Prop}  {σ : ps_S} (h1 : Q (some (.inl (σ 50 0 1))) σ) : kX8_states_15 d Q σ := by
  refine ps_aload_n (ps_at tX8_states_ok 8 rfl) rfl rfl ?_
  refine ps_getI (ps_at tX8_states_ok 9 rfl) flX8_131 sh_50 rfl ?_
  exact ps_iret (ps_at tX8_states_ok 10 rfl) rfl ⟨rfl, rfl⟩ (h1)
theorem eX8_states {d : Nat} {Q : Option ps_V → ps_S → Prop} {v1 : Int32} {σ : ps_S} (h : kX8_states_0 d Q v1 σ) : ps_C mX8_states (d + 2) [.inr (.inr (50, 0)), .inl v1] σ Q := ps_enter (by decide) rfl ⟨rfl, rfl, rfl⟩ rfl (Nat.le_of_ble_eq_true rfl) h
abbrev kX8_state_0 (d : Nat) (Q : Option ps_V → ps_S → Prop) (v1 : Int32) (v2 : Int32) (σ : ps_S) : Prop := ps_K mX8_state (d + 2) (ps_QF Q) 0 [some (.inr (.inr (50, 0))), some (.inl v1), some (.inl v2)] [] σ
abbrev kX8_state_22 (d : Nat) (Q : Option ps_V → ps_S → Prop) (v2 : Int32) (σ : ps_S) : Prop := ps_K mX8_state (d + 2) (ps_QF Q) 22 [some (.inr (.inr (50, 0))), none, some (.inl v2)] [] σ
theorem bX8_state_0 {d : Nat} {Q : Option ps_V → ps_S → Prop} {v1 : Int32} {v2 : Int32} {σ : ps_S} (h1 : (jbIn v1.toInt64 0 5) = 0 → Q (some (.inl (-900001))) σ) (h2 : ¬ (jbIn v1.toInt64 0 5) = 0 → ¬ (jbIn v2.toInt64 0 8) = 0 → ps_C mX8_layStates (d + 1) [.inr (.inr (50, 0)), .inl v1] σ (ps_rv (fun σ1 => kX8_state_22 d Q v2 σ1))) (h3 : ¬ (jbIn v1.toInt64 0 5) = 0 → (jbIn v2.toInt64 0 8) = 0 → Q (some (.inl (-900001))) σ) : kX8_state_0 d Q v1 v2 σ := by
  refine ps_iload_n (ps_at tX8_state_ok 0 rfl) rfl rfl ?_
  refine ps_callS (M2 := mX8_isForme) (av := [.inl v1]) (rest := []) (ps_at tX8_state_ok 1 rfl) csX8_109 rfl rfl (fun _ => Nat.le_of_ble_eq_true rfl) (pX8_isForme ?_)
  refine ps_if_eq (tgt := 14) (ps_at tX8_state_ok 2 rfl) (by decide) (fun c0 => ?_) (fun c0 => ?_)
  · skip
    refine ps_ldc (ps_at tX8_state_ok 6 rfl) cnX8_112 ?_
    exact ps_iret (ps_at tX8_state_ok 7 rfl) rfl ⟨rfl, rfl⟩ (h1 c0)
  · skip
    refine ps_iload_n (ps_at tX8_state_ok 3 rfl) rfl rfl ?_
    refine ps_callS (M2 := mX8_isCopy) (av := [.inl v2]) (rest := []) (ps_at tX8_state_ok 4 rfl) csX8_105 rfl rfl (fun _ => Nat.le_of_ble_eq_true rfl) (pX8_isCopy ?_)
    refine ps_if_ne (tgt := 17) (ps_at tX8_state_ok 5 rfl) (by decide) (fun c1 => ?_) (fun c1 => ?_)
    · skip
      refine ps_aload_n (ps_at tX8_state_ok 8 rfl) rfl rfl ?_
      refine ps_iload_n (ps_at tX8_state_ok 9 rfl) rfl rfl ?_
      refine ps_callV (M2 := mX8_layStates) (av := [.inl v1]) (rest := []) (ps_at tX8_state_ok 10 rfl) cvX8_137 sh_50 rfl rfl (fun _ => Nat.le_of_ble_eq_true rfl) ?_
      refine ps_C.imp ?_ (h2 c0 c1)
      rintro _ σ1 ⟨rfl, hx⟩
      exact ps_forget (L' := [some (.inr (.inr (50, 0))), none, some (.inl v2)]) (And.intro rfl (And.intro rfl trivial)) hx
    · skip
      refine ps_ldc (ps_at tX8_state_ok 6 rfl) cnX8_112 ?_
      exact ps_iret (ps_at tX8_state_ok 7 rfl) rfl ⟨rfl, rfl⟩ (h3 c0 c1)
theorem bX8_state_22 {d : Nat} {Q : Option ps_V → ps_S → Prop} {v2 : Int32} {σ : ps_S} (h1 : vp_in v2 9) (h2 : Q (some (.inl (σ 53 0 v2.toNatClampNeg))) σ) : kX8_state_22 d Q v2 σ := by
  refine ps_aload_n (ps_at tX8_state_ok 11 rfl) rfl rfl ?_
  refine ps_getR (ps_at tX8_state_ok 12 rfl) flX8_13 sh_50 rfl ?_
  refine ps_iload_n (ps_at tX8_state_ok 13 rfl) rfl rfl ?_
  refine ps_iald (ps_at tX8_state_ok 14 rfl) sh_53 (h1) ?_
  exact ps_iret (ps_at tX8_state_ok 15 rfl) rfl ⟨rfl, rfl⟩ (h2)
theorem eX8_state {d : Nat} {Q : Option ps_V → ps_S → Prop} {v1 : Int32} {v2 : Int32} {σ : ps_S} (h : kX8_state_0 d Q v1 v2 σ) : ps_C mX8_state (d + 2) [.inr (.inr (50, 0)), .inl v1, .inl v2] σ Q := ps_enter (by decide) rfl ⟨rfl, rfl, rfl⟩ rfl (Nat.le_of_ble_eq_true rfl) h
abbrev kX8_letter_0 (d : Nat) (Q : Option ps_V → ps_S → Prop) (v1 : Int32) (v2 : Int32) (v3 : Int32) (σ : ps_S) : Prop := ps_K mX8_letter (d + 2) (ps_QF Q) 0 [some (.inr (.inr (50, 0))), some (.inl v1), some (.inl v2), some (.inl v3)] [] σ
abbrev kX8_letter_27 (d : Nat) (Q : Option ps_V → ps_S → Prop) (v1 : Int32) (v2 : Int32) (v3 : Int32) (σ : ps_S) : Prop := ps_K mX8_letter (d + 2) (ps_QF Q) 27 [some (.inr (.inr (50, 0))), some (.inl v1), some (.inl v2), some (.inl v3)] [] σ
theorem bX8_letter_0 {d : Nat} {Q : Option ps_V → ps_S → Prop} {v1 : Int32} {v2 : Int32} {v3 : Int32} {σ : ps_S} (h1 : (jbIn v1.toInt64 0 5) = 0 → Q (some (.inl (-900001))) σ) (h2 : ¬ (jbIn v1.toInt64 0 5) = 0 → ¬ (jbIn v3.toInt64 0 5) = 0 → ps_C mX8_layStates (d + 1) [.inr (.inr (50, 0)), .inl v1] σ (ps_rv (fun σ1 => kX8_letter_27 d Q v1 v2 v3 σ1))) (h3 : ¬ (jbIn v1.toInt64 0 5) = 0 → (jbIn v3.toInt64 0 5) = 0 → Q (some (.inl (-900001))) σ) : kX8_letter_0 d Q v1 v2 v3 σ := by
  refine ps_iload_n (ps_at tX8_letter_ok 0 rfl) rfl rfl ?_
  refine ps_callS (M2 := mX8_isForme) (av := [.inl v1]) (rest := []) (ps_at tX8_letter_ok 1 rfl) csX8_109 rfl rfl (fun _ => Nat.le_of_ble_eq_true rfl) (pX8_isForme ?_)
  refine ps_if_eq (tgt := 19) (ps_at tX8_letter_ok 2 rfl) (by decide) (fun c0 => ?_) (fun c0 => ?_)
  · skip
    refine ps_ldc (ps_at tX8_letter_ok 9 rfl) cnX8_112 ?_
    exact ps_iret (ps_at tX8_letter_ok 10 rfl) rfl ⟨rfl, rfl⟩ (h1 c0)
  · skip
    refine ps_iload_n (ps_at tX8_letter_ok 3 rfl) rfl rfl ?_
    refine ps_i2l (ps_at tX8_letter_ok 4 rfl) ?_
    refine ps_lconst (x := 0) (ps_at tX8_letter_ok 5 rfl) (by decide) ?_
    refine ps_ldc2 (ps_at tX8_letter_ok 6 rfl) clX8_97 ?_
    refine ps_callS (M2 := mX8_in) (av := [.inr (.inl v3.toInt64), .inr (.inl 0), .inr (.inl 5)]) (rest := []) (ps_at tX8_letter_ok 7 rfl) csX8_99 rfl rfl (fun _ => Nat.le_of_ble_eq_true rfl) (pX8_in ?_)
    refine ps_if_ne (tgt := 22) (ps_at tX8_letter_ok 8 rfl) (by decide) (fun c1 => ?_) (fun c1 => ?_)
    · skip
      refine ps_aload_n (ps_at tX8_letter_ok 11 rfl) rfl rfl ?_
      refine ps_iload_n (ps_at tX8_letter_ok 12 rfl) rfl rfl ?_
      refine ps_callV (M2 := mX8_layStates) (av := [.inl v1]) (rest := []) (ps_at tX8_letter_ok 13 rfl) cvX8_137 sh_50 rfl rfl (fun _ => Nat.le_of_ble_eq_true rfl) ?_
      refine ps_C.imp ?_ (h2 c0 c1)
      rintro _ σ1 ⟨rfl, hx⟩
      exact hx
    · skip
      refine ps_ldc (ps_at tX8_letter_ok 9 rfl) cnX8_112 ?_
      exact ps_iret (ps_at tX8_letter_ok 10 rfl) rfl ⟨rfl, rfl⟩ (h3 c0 c1)
theorem bX8_letter_27 {d : Nat} {Q : Option ps_V → ps_S → Prop} {v1 : Int32} {v2 : Int32} {v3 : Int32} {σ : ps_S} (h1 : (jbIn v2.toInt64 0 (((σ 50 0 1) - 1).toInt64)) = 0 → Q (some (.inl (-900001))) σ) (h2 : ¬ (jbIn v2.toInt64 0 (((σ 50 0 1) - 1).toInt64)) = 0 → vp_in v1 6) (h3 : ¬ (jbIn v2.toInt64 0 (((σ 50 0 1) - 1).toInt64)) = 0 → vp_in v3 6) (h4 : ¬ (jbIn v2.toInt64 0 (((σ 50 0 1) - 1).toInt64)) = 0 → Q (some (.inl (mGl σ v1.toNatClampNeg v2 v3.toNatClampNeg))) σ) : kX8_letter_27 d Q v1 v2 v3 σ := by
  refine ps_iload_n (ps_at tX8_letter_ok 14 rfl) rfl rfl ?_
  refine ps_i2l (ps_at tX8_letter_ok 15 rfl) ?_
  refine ps_lconst (x := 0) (ps_at tX8_letter_ok 16 rfl) (by decide) ?_
  refine ps_aload_n (ps_at tX8_letter_ok 17 rfl) rfl rfl ?_
  refine ps_getI (ps_at tX8_letter_ok 18 rfl) flX8_131 sh_50 rfl ?_
  refine ps_iconst (x := 1) (ps_at tX8_letter_ok 19 rfl) (by decide) ?_
  refine ps_isub (ps_at tX8_letter_ok 20 rfl) ?_
  refine ps_i2l (ps_at tX8_letter_ok 21 rfl) ?_
  refine ps_callS (M2 := mX8_in) (av := [.inr (.inl v2.toInt64), .inr (.inl 0), .inr (.inl (((σ 50 0 1) - 1).toInt64))]) (rest := []) (ps_at tX8_letter_ok 22 rfl) csX8_99 rfl rfl (fun _ => Nat.le_of_ble_eq_true rfl) (pX8_in ?_)
  refine ps_if_eq (tgt := 53) (ps_at tX8_letter_ok 23 rfl) (by decide) (fun c0 => ?_) (fun c0 => ?_)
  · skip
    refine ps_ldc (ps_at tX8_letter_ok 30 rfl) cnX8_112 ?_
    exact ps_iret (ps_at tX8_letter_ok 31 rfl) rfl ⟨rfl, rfl⟩ (h1 c0)
  · skip
    refine ps_aload_n (ps_at tX8_letter_ok 24 rfl) rfl rfl ?_
    refine ps_iload_n (ps_at tX8_letter_ok 25 rfl) rfl rfl ?_
    refine ps_iload_n (ps_at tX8_letter_ok 26 rfl) rfl rfl ?_
    refine ps_iload_n (ps_at tX8_letter_ok 27 rfl) rfl rfl ?_
    refine ps_callV (M2 := mX8_letterOf) (av := [.inl v1, .inl v2, .inl v3]) (rest := []) (ps_at tX8_letter_ok 28 rfl) cvX8_141 sh_50 rfl rfl (fun _ => Nat.le_of_ble_eq_true rfl) (pX8_letterOf (h2 c0) (h3 c0) ?_)
    refine ps_goto (tgt := 55) (ps_at tX8_letter_ok 29 rfl) (by decide) ?_
    exact ps_iret (ps_at tX8_letter_ok 31 rfl) rfl ⟨rfl, rfl⟩ (h4 c0)
theorem eX8_letter {d : Nat} {Q : Option ps_V → ps_S → Prop} {v1 : Int32} {v2 : Int32} {v3 : Int32} {σ : ps_S} (h : kX8_letter_0 d Q v1 v2 v3 σ) : ps_C mX8_letter (d + 2) [.inr (.inr (50, 0)), .inl v1, .inl v2, .inl v3] σ Q := ps_enter (by decide) rfl ⟨rfl, rfl, rfl⟩ rfl (Nat.le_of_ble_eq_true rfl) h
abbrev kX8_slipsOf_0 (d : Nat) (Q : Option ps_V → ps_S → Prop) (v1 : Int32) (v2 : Int32) (σ : ps_S) : Prop := ps_K mX8_slipsOf (d + 1) (ps_QF Q) 0 [some (.inr (.inr (50, 0))), some (.inl v1), some (.inl v2), none, none, none, none, none, none, none] [] σ
abbrev kX8_slipsOf_5 (d : Nat) (Q : Option ps_V → ps_S → Prop) (v1 : Int32) (v2 : Int32) (v3 : Int32) (v4 : Int32) (σ : ps_S) : Prop := ps_K mX8_slipsOf (d + 1) (ps_QF Q) 5 [some (.inr (.inr (50, 0))), some (.inl v1), some (.inl v2), some (.inl v3), some (.inl v4), none, none, none, none, none] [] σ
abbrev kX8_slipsOf_21 (d : Nat) (Q : Option ps_V → ps_S → Prop) (v1 : Int32) (v2 : Int32) (v3 : Int32) (v4 : Int32) (v5 : Int32) (v6 : Int32) (v7 : Int32) (σ : ps_S) : Prop := ps_K mX8_slipsOf (d + 1) (ps_QF Q) 21 [some (.inr (.inr (50, 0))), some (.inl v1), some (.inl v2), some (.inl v3), some (.inl v4), some (.inl v5), some (.inl v6), some (.inl v7), none, none] [] σ
abbrev kX8_slipsOf_34 (d : Nat) (Q : Option ps_V → ps_S → Prop) (v1 : Int32) (v2 : Int32) (v3 : Int32) (v4 : Int32) (v5 : Int32) (v6 : Int32) (v7 : Int32) (v8 : Int32) (v9 : Int32) (σ : ps_S) : Prop := ps_K mX8_slipsOf (d + 1) (ps_QF Q) 34 [some (.inr (.inr (50, 0))), some (.inl v1), some (.inl v2), some (.inl v3), some (.inl v4), some (.inl v5), some (.inl v6), some (.inl v7), some (.inl v8), some (.inl v9)] [] σ
theorem bX8_slipsOf_0 {d : Nat} {Q : Option ps_V → ps_S → Prop} {v1 : Int32} {v2 : Int32} {σ : ps_S} (h1 : kX8_slipsOf_5 d Q v1 v2 0 0 σ) : kX8_slipsOf_0 d Q v1 v2 σ := by
  refine ps_iconst (x := 0) (ps_at tX8_slipsOf_ok 0 rfl) (by decide) ?_
  refine ps_istore_n (L' := [some (.inr (.inr (50, 0))), some (.inl v1), some (.inl v2), some (.inl 0), none, none, none, none, none, none]) (ps_at tX8_slipsOf_ok 1 rfl) rfl (by decide) rfl ?_
  refine ps_iconst (x := 0) (ps_at tX8_slipsOf_ok 2 rfl) (by decide) ?_
  refine ps_istore (L' := [some (.inr (.inr (50, 0))), some (.inl v1), some (.inl v2), some (.inl 0), some (.inl 0), none, none, none, none, none]) (ps_at tX8_slipsOf_ok 3 rfl) (by decide) rfl ?_
  exact h1
theorem bX8_slipsOf_5 {d : Nat} {Q : Option ps_V → ps_S → Prop} {v1 : Int32} {v2 : Int32} {v3 : Int32} {v4 : Int32} {σ : ps_S} (h1 : 6 ≤ v4 → Q (some (.inl v3)) σ) (h2 : ¬ 6 ≤ v4 → kX8_slipsOf_21 d Q v1 v2 v3 v4 0 0 0 σ) : kX8_slipsOf_5 d Q v1 v2 v3 v4 σ := by
  refine ps_iload (ps_at tX8_slipsOf_ok 4 rfl) rfl ?_
  refine ps_bipush (x := 6) (ps_at tX8_slipsOf_ok 5 rfl) (by decide) ?_
  refine ps_icmp_ge (tgt := 124) (ps_at tX8_slipsOf_ok 6 rfl) (by decide) (fun c0 => ?_) (fun c0 => ?_)
  · skip
    refine ps_iload_n (ps_at tX8_slipsOf_ok 66 rfl) rfl rfl ?_
    exact ps_iret (ps_at tX8_slipsOf_ok 67 rfl) rfl ⟨rfl, rfl⟩ (h1 c0)
  · skip
    refine ps_iconst (x := 0) (ps_at tX8_slipsOf_ok 7 rfl) (by decide) ?_
    refine ps_istore (L' := [some (.inr (.inr (50, 0))), some (.inl v1), some (.inl v2), some (.inl v3), some (.inl v4), some (.inl 0), none, none, none, none]) (ps_at tX8_slipsOf_ok 8 rfl) (by decide) rfl ?_
    refine ps_iconst (x := 0) (ps_at tX8_slipsOf_ok 9 rfl) (by decide) ?_
    refine ps_istore (L' := [some (.inr (.inr (50, 0))), some (.inl v1), some (.inl v2), some (.inl v3), some (.inl v4), some (.inl 0), some (.inl 0), none, none, none]) (ps_at tX8_slipsOf_ok 10 rfl) (by decide) rfl ?_
    refine ps_iconst (x := 0) (ps_at tX8_slipsOf_ok 11 rfl) (by decide) ?_
    refine ps_istore (L' := [some (.inr (.inr (50, 0))), some (.inl v1), some (.inl v2), some (.inl v3), some (.inl v4), some (.inl 0), some (.inl 0), some (.inl 0), none, none]) (ps_at tX8_slipsOf_ok 12 rfl) (by decide) rfl ?_
    exact h2 c0
theorem bX8_slipsOf_21 {d : Nat} {Q : Option ps_V → ps_S → Prop} {v1 : Int32} {v2 : Int32} {v3 : Int32} {v4 : Int32} {v5 : Int32} {v6 : Int32} {v7 : Int32} {σ : ps_S} (h1 : 10 ≤ v7 → kX8_slipsOf_5 d Q v1 v2 (v3 + (v6 - v5)) (v4 + 1) σ) (h2 : ¬ 10 ≤ v7 → kX8_slipsOf_34 d Q v1 v2 v3 v4 v5 v6 v7 0 0 σ) : kX8_slipsOf_21 d Q v1 v2 v3 v4 v5 v6 v7 σ := by
  refine ps_iload (ps_at tX8_slipsOf_ok 13 rfl) rfl ?_
  refine ps_bipush (x := 10) (ps_at tX8_slipsOf_ok 14 rfl) (by decide) ?_
  refine ps_icmp_ge (tgt := 110) (ps_at tX8_slipsOf_ok 15 rfl) (by decide) (fun c0 => ?_) (fun c0 => ?_)
  · skip
    refine ps_iload_n (ps_at tX8_slipsOf_ok 58 rfl) rfl rfl ?_
    refine ps_iload (ps_at tX8_slipsOf_ok 59 rfl) rfl ?_
    refine ps_iload (ps_at tX8_slipsOf_ok 60 rfl) rfl ?_
    refine ps_isub (ps_at tX8_slipsOf_ok 61 rfl) ?_
    refine ps_iadd (ps_at tX8_slipsOf_ok 62 rfl) ?_
    refine ps_istore_n (L' := [some (.inr (.inr (50, 0))), some (.inl v1), some (.inl v2), some (.inl (v3 + (v6 - v5))), some (.inl v4), some (.inl v5), some (.inl v6), some (.inl v7), none, none]) (ps_at tX8_slipsOf_ok 63 rfl) rfl (by decide) rfl ?_
    refine ps_iinc (L' := [some (.inr (.inr (50, 0))), some (.inl v1), some (.inl v2), some (.inl (v3 + (v6 - v5))), some (.inl (v4 + 1)), some (.inl v5), some (.inl v6), some (.inl v7), none, none]) (y := 1) (ps_at tX8_slipsOf_ok 64 rfl) rfl (by decide) (by decide) rfl ?_
    refine ps_goto (tgt := 5) (ps_at tX8_slipsOf_ok 65 rfl) (by decide) ?_
    refine ps_forget (L' := [some (.inr (.inr (50, 0))), some (.inl v1), some (.inl v2), some (.inl (v3 + (v6 - v5))), some (.inl (v4 + 1)), none, none, none, none, none]) (And.intro rfl (And.intro rfl (And.intro rfl (And.intro rfl (And.intro rfl trivial))))) ?_
    exact h1 c0
  · skip
    refine ps_iconst (x := 0) (ps_at tX8_slipsOf_ok 16 rfl) (by decide) ?_
    refine ps_istore (L' := [some (.inr (.inr (50, 0))), some (.inl v1), some (.inl v2), some (.inl v3), some (.inl v4), some (.inl v5), some (.inl v6), some (.inl v7), some (.inl 0), none]) (ps_at tX8_slipsOf_ok 17 rfl) (by decide) rfl ?_
    refine ps_iconst (x := 0) (ps_at tX8_slipsOf_ok 18 rfl) (by decide) ?_
    refine ps_istore (L' := [some (.inr (.inr (50, 0))), some (.inl v1), some (.inl v2), some (.inl v3), some (.inl v4), some (.inl v5), some (.inl v6), some (.inl v7), some (.inl 0), some (.inl 0)]) (ps_at tX8_slipsOf_ok 19 rfl) (by decide) rfl ?_
    exact h2 c0
theorem bX8_slipsOf_34 {d : Nat} {Q : Option ps_V → ps_S → Prop} {v1 : Int32} {v2 : Int32} {v3 : Int32} {v4 : Int32} {v5 : Int32} {v6 : Int32} {v7 : Int32} {v8 : Int32} {v9 : Int32} {σ : ps_S} (h1 : 9 ≤ v9 → v8 ≤ v5 → kX8_slipsOf_21 d Q v1 v2 v3 v4 v5 (v6 + v8) (v7 + 1) σ) (h2 : 9 ≤ v9 → ¬ v8 ≤ v5 → kX8_slipsOf_21 d Q v1 v2 v3 v4 v8 (v6 + v8) (v7 + 1) σ) (h3 : ¬ 9 ≤ v9 → ¬ ((v2 >>> (v9 &&& 31)) &&& 1) = 1 → kX8_slipsOf_34 d Q v1 v2 v3 v4 v5 v6 v7 (v8 + 0) (v9 + 1) σ) (h4 : ¬ 9 ≤ v9 → ((v2 >>> (v9 &&& 31)) &&& 1) = 1 → vp_in (((54 * v1) + (6 * v9)) + v4) 324) (h5 : ¬ 9 ≤ v9 → ((v2 >>> (v9 &&& 31)) &&& 1) = 1 → ¬ (jX8_letterAt σ v1 v9 v4) = v7 → kX8_slipsOf_34 d Q v1 v2 v3 v4 v5 v6 v7 (v8 + 0) (v9 + 1) σ) (h6 : ¬ 9 ≤ v9 → ((v2 >>> (v9 &&& 31)) &&& 1) = 1 → (jX8_letterAt σ v1 v9 v4) = v7 → kX8_slipsOf_34 d Q v1 v2 v3 v4 v5 v6 v7 (v8 + 1) (v9 + 1) σ) : kX8_slipsOf_34 d Q v1 v2 v3 v4 v5 v6 v7 v8 v9 σ := by
  refine ps_iload (ps_at tX8_slipsOf_ok 20 rfl) rfl ?_
  refine ps_bipush (x := 9) (ps_at tX8_slipsOf_ok 21 rfl) (by decide) ?_
  refine ps_icmp_ge (tgt := 81) (ps_at tX8_slipsOf_ok 22 rfl) (by decide) (fun c0 => ?_) (fun c0 => ?_)
  · skip
    refine ps_iload (ps_at tX8_slipsOf_ok 45 rfl) rfl ?_
    refine ps_iload (ps_at tX8_slipsOf_ok 46 rfl) rfl ?_
    refine ps_iadd (ps_at tX8_slipsOf_ok 47 rfl) ?_
    refine ps_istore (L' := [some (.inr (.inr (50, 0))), some (.inl v1), some (.inl v2), some (.inl v3), some (.inl v4), some (.inl v5), some (.inl (v6 + v8)), some (.inl v7), some (.inl v8), some (.inl v9)]) (ps_at tX8_slipsOf_ok 48 rfl) (by decide) rfl ?_
    refine ps_iload (ps_at tX8_slipsOf_ok 49 rfl) rfl ?_
    refine ps_iload (ps_at tX8_slipsOf_ok 50 rfl) rfl ?_
    refine ps_icmp_le (tgt := 100) (ps_at tX8_slipsOf_ok 51 rfl) (by decide) (fun c1 => ?_) (fun c1 => ?_)
    · skip
      refine ps_iload (ps_at tX8_slipsOf_ok 54 rfl) rfl ?_
      refine ps_istore (L' := [some (.inr (.inr (50, 0))), some (.inl v1), some (.inl v2), some (.inl v3), some (.inl v4), some (.inl v5), some (.inl (v6 + v8)), some (.inl v7), some (.inl v8), some (.inl v9)]) (ps_at tX8_slipsOf_ok 55 rfl) (by decide) rfl ?_
      refine ps_iinc (L' := [some (.inr (.inr (50, 0))), some (.inl v1), some (.inl v2), some (.inl v3), some (.inl v4), some (.inl v5), some (.inl (v6 + v8)), some (.inl (v7 + 1)), some (.inl v8), some (.inl v9)]) (y := 1) (ps_at tX8_slipsOf_ok 56 rfl) rfl (by decide) (by decide) rfl ?_
      refine ps_goto (tgt := 21) (ps_at tX8_slipsOf_ok 57 rfl) (by decide) ?_
      refine ps_forget (L' := [some (.inr (.inr (50, 0))), some (.inl v1), some (.inl v2), some (.inl v3), some (.inl v4), some (.inl v5), some (.inl (v6 + v8)), some (.inl (v7 + 1)), none, none]) (And.intro rfl (And.intro rfl (And.intro rfl (And.intro rfl (And.intro rfl (And.intro rfl (And.intro rfl (And.intro rfl trivial)))))))) ?_
      exact h1 c0 c1
    · skip
      refine ps_iload (ps_at tX8_slipsOf_ok 52 rfl) rfl ?_
      refine ps_goto (tgt := 102) (ps_at tX8_slipsOf_ok 53 rfl) (by decide) ?_
      refine ps_istore (L' := [some (.inr (.inr (50, 0))), some (.inl v1), some (.inl v2), some (.inl v3), some (.inl v4), some (.inl v8), some (.inl (v6 + v8)), some (.inl v7), some (.inl v8), some (.inl v9)]) (ps_at tX8_slipsOf_ok 55 rfl) (by decide) rfl ?_
      refine ps_iinc (L' := [some (.inr (.inr (50, 0))), some (.inl v1), some (.inl v2), some (.inl v3), some (.inl v4), some (.inl v8), some (.inl (v6 + v8)), some (.inl (v7 + 1)), some (.inl v8), some (.inl v9)]) (y := 1) (ps_at tX8_slipsOf_ok 56 rfl) rfl (by decide) (by decide) rfl ?_
      refine ps_goto (tgt := 21) (ps_at tX8_slipsOf_ok 57 rfl) (by decide) ?_
      refine ps_forget (L' := [some (.inr (.inr (50, 0))), some (.inl v1), some (.inl v2), some (.inl v3), some (.inl v4), some (.inl v8), some (.inl (v6 + v8)), some (.inl (v7 + 1)), none, none]) (And.intro rfl (And.intro rfl (And.intro rfl (And.intro rfl (And.intro rfl (And.intro rfl (And.intro rfl (And.intro rfl trivial)))))))) ?_
      exact h2 c0 c1
  · skip
    refine ps_iload (ps_at tX8_slipsOf_ok 23 rfl) rfl ?_
    refine ps_iload_n (ps_at tX8_slipsOf_ok 24 rfl) rfl rfl ?_
    refine ps_iload (ps_at tX8_slipsOf_ok 25 rfl) rfl ?_
    refine ps_ishr (ps_at tX8_slipsOf_ok 26 rfl) ?_
    refine ps_iconst (x := 1) (ps_at tX8_slipsOf_ok 27 rfl) (by decide) ?_
    refine ps_iand (ps_at tX8_slipsOf_ok 28 rfl) ?_
    refine ps_iconst (x := 1) (ps_at tX8_slipsOf_ok 29 rfl) (by decide) ?_
    refine ps_icmp_ne (tgt := 71) (ps_at tX8_slipsOf_ok 30 rfl) (by decide) (fun c1 => ?_) (fun c1 => ?_)
    · skip
      refine ps_iconst (x := 0) (ps_at tX8_slipsOf_ok 40 rfl) (by decide) ?_
      refine ps_iadd (ps_at tX8_slipsOf_ok 41 rfl) ?_
      refine ps_istore (L' := [some (.inr (.inr (50, 0))), some (.inl v1), some (.inl v2), some (.inl v3), some (.inl v4), some (.inl v5), some (.inl v6), some (.inl v7), some (.inl (v8 + 0)), some (.inl v9)]) (ps_at tX8_slipsOf_ok 42 rfl) (by decide) rfl ?_
      refine ps_iinc (L' := [some (.inr (.inr (50, 0))), some (.inl v1), some (.inl v2), some (.inl v3), some (.inl v4), some (.inl v5), some (.inl v6), some (.inl v7), some (.inl (v8 + 0)), some (.inl (v9 + 1))]) (y := 1) (ps_at tX8_slipsOf_ok 43 rfl) rfl (by decide) (by decide) rfl ?_
      refine ps_goto (tgt := 34) (ps_at tX8_slipsOf_ok 44 rfl) (by decide) ?_
      exact h3 c0 c1
    · skip
      refine ps_aload_n (ps_at tX8_slipsOf_ok 31 rfl) rfl rfl ?_
      refine ps_iload_n (ps_at tX8_slipsOf_ok 32 rfl) rfl rfl ?_
      refine ps_iload (ps_at tX8_slipsOf_ok 33 rfl) rfl ?_
      refine ps_iload (ps_at tX8_slipsOf_ok 34 rfl) rfl ?_
      refine ps_callV (M2 := mX8_letterAt) (av := [.inl v1, .inl v9, .inl v4]) (rest := [.inl v8]) (ps_at tX8_slipsOf_ok 35 rfl) cvX8_116 sh_50 rfl rfl (fun _ => Nat.le_of_ble_eq_true rfl) (pX8_letterAt (h4 c0 c1) ?_)
      refine ps_iload (ps_at tX8_slipsOf_ok 36 rfl) rfl ?_
      refine ps_icmp_ne (tgt := 71) (ps_at tX8_slipsOf_ok 37 rfl) (by decide) (fun c2 => ?_) (fun c2 => ?_)
      · skip
        refine ps_iconst (x := 0) (ps_at tX8_slipsOf_ok 40 rfl) (by decide) ?_
        refine ps_iadd (ps_at tX8_slipsOf_ok 41 rfl) ?_
        refine ps_istore (L' := [some (.inr (.inr (50, 0))), some (.inl v1), some (.inl v2), some (.inl v3), some (.inl v4), some (.inl v5), some (.inl v6), some (.inl v7), some (.inl (v8 + 0)), some (.inl v9)]) (ps_at tX8_slipsOf_ok 42 rfl) (by decide) rfl ?_
        refine ps_iinc (L' := [some (.inr (.inr (50, 0))), some (.inl v1), some (.inl v2), some (.inl v3), some (.inl v4), some (.inl v5), some (.inl v6), some (.inl v7), some (.inl (v8 + 0)), some (.inl (v9 + 1))]) (y := 1) (ps_at tX8_slipsOf_ok 43 rfl) rfl (by decide) (by decide) rfl ?_
        refine ps_goto (tgt := 34) (ps_at tX8_slipsOf_ok 44 rfl) (by decide) ?_
        exact h5 c0 c1 c2
      · skip
        refine ps_iconst (x := 1) (ps_at tX8_slipsOf_ok 38 rfl) (by decide) ?_
        refine ps_goto (tgt := 72) (ps_at tX8_slipsOf_ok 39 rfl) (by decide) ?_
        refine ps_iadd (ps_at tX8_slipsOf_ok 41 rfl) ?_
        refine ps_istore (L' := [some (.inr (.inr (50, 0))), some (.inl v1), some (.inl v2), some (.inl v3), some (.inl v4), some (.inl v5), some (.inl v6), some (.inl v7), some (.inl (v8 + 1)), some (.inl v9)]) (ps_at tX8_slipsOf_ok 42 rfl) (by decide) rfl ?_
        refine ps_iinc (L' := [some (.inr (.inr (50, 0))), some (.inl v1), some (.inl v2), some (.inl v3), some (.inl v4), some (.inl v5), some (.inl v6), some (.inl v7), some (.inl (v8 + 1)), some (.inl (v9 + 1))]) (y := 1) (ps_at tX8_slipsOf_ok 43 rfl) rfl (by decide) (by decide) rfl ?_
        refine ps_goto (tgt := 34) (ps_at tX8_slipsOf_ok 44 rfl) (by decide) ?_
        exact h6 c0 c1 c2
theorem eX8_slipsOf {d : Nat} {Q : Option ps_V → ps_S → Prop} {v1 : Int32} {v2 : Int32} {σ : ps_S} (h : kX8_slipsOf_0 d Q v1 v2 σ) : ps_C mX8_slipsOf (d + 1) [.inr (.inr (50, 0)), .inl v1, .inl v2] σ Q := ps_enter (by decide) rfl ⟨rfl, rfl, rfl⟩ rfl (Nat.le_of_ble_eq_true rfl) h
abbrev kX8_slips_0 (d : Nat) (Q : Option ps_V → ps_S → Prop) (v1 : Int32) (v2 : Int32) (σ : ps_S) : Prop := ps_K mX8_slips (d + 2) (ps_QF Q) 0 [some (.inr (.inr (50, 0))), some (.inl v1), some (.inl v2), none, none, none, none] [] σ
abbrev kX8_slips_27 (d : Nat) (Q : Option ps_V → ps_S → Prop) (v1 : Int32) (v2 : Int32) (v3 : Int32) (σ : ps_S) : Prop := ps_K mX8_slips (d + 2) (ps_QF Q) 27 [some (.inr (.inr (50, 0))), some (.inl v1), some (.inl v2), some (.inl v3), none, none, none] [] σ
abbrev kX8_slips_66 (d : Nat) (Q : Option ps_V → ps_S → Prop) (v2 : Int32) (v3 : Int32) (σ : ps_S) : Prop := ps_K mX8_slips (d + 2) (ps_QF Q) 66 [some (.inr (.inr (50, 0))), none, some (.inl v2), some (.inl v3), none, none, none] [] σ
abbrev kX8_slips_45 (d : Nat) (Q : Option ps_V → ps_S → Prop) (v1 : Int32) (v2 : Int32) (v3 : Int32) (s0 : Int32) (s1 : Int32) (σ : ps_S) : Prop := ps_K mX8_slips (d + 2) (ps_QF Q) 45 [some (.inr (.inr (50, 0))), some (.inl v1), some (.inl v2), some (.inl v3), none, none, none] [.inl s0, .inl s1, .inr (.inr (55, 0))] σ
abbrev kX8_slips_74 (d : Nat) (Q : Option ps_V → ps_S → Prop) (v2 : Int32) (v3 : Int32) (v4 : Int32) (σ : ps_S) : Prop := ps_K mX8_slips (d + 2) (ps_QF Q) 74 [some (.inr (.inr (50, 0))), none, some (.inl v2), some (.inl v3), some (.inl v4), none, none] [] σ
abbrev kX8_slips_179 (d : Nat) (Q : Option ps_V → ps_S → Prop) (v2 : Int32) (v3 : Int32) (v4 : Int32) (σ : ps_S) : Prop := ps_K mX8_slips (d + 2) (ps_QF Q) 179 [some (.inr (.inr (50, 0))), none, some (.inl v2), some (.inl v3), some (.inl v4), none, none] [] σ
abbrev kX8_slips_100 (d : Nat) (Q : Option ps_V → ps_S → Prop) (v2 : Int32) (v3 : Int32) (v4 : Int32) (v5 : Int32) (σ : ps_S) : Prop := ps_K mX8_slips (d + 2) (ps_QF Q) 100 [some (.inr (.inr (50, 0))), none, some (.inl v2), some (.inl v3), some (.inl v4), some (.inl v5), none] [] σ
theorem bX8_slips_0 {d : Nat} {Q : Option ps_V → ps_S → Prop} {v1 : Int32} {v2 : Int32} {σ : ps_S} (h1 : ¬ (jbIn v1.toInt64 0 5) = 0 → ¬ (jbIn v2.toInt64 1 9) = 0 → kX8_slips_27 d Q v1 v2 0 σ) (h2 : ¬ (jbIn v1.toInt64 0 5) = 0 → (jbIn v2.toInt64 1 9) = 0 → Q (some (.inl (-900002))) σ) (h3 : (jbIn v1.toInt64 0 5) = 0 → Q (some (.inl (-900001))) σ) : kX8_slips_0 d Q v1 v2 σ := by
  refine ps_iload_n (ps_at tX8_slips_ok 0 rfl) rfl rfl ?_
  refine ps_callS (M2 := mX8_isForme) (av := [.inl v1]) (rest := []) (ps_at tX8_slips_ok 1 rfl) csX8_109 rfl rfl (fun _ => Nat.le_of_ble_eq_true rfl) (pX8_isForme ?_)
  refine ps_if_ne (tgt := 10) (ps_at tX8_slips_ok 2 rfl) (by decide) (fun c0 => ?_) (fun c0 => ?_)
  · skip
    refine ps_iload_n (ps_at tX8_slips_ok 5 rfl) rfl rfl ?_
    refine ps_i2l (ps_at tX8_slips_ok 6 rfl) ?_
    refine ps_lconst (x := 1) (ps_at tX8_slips_ok 7 rfl) (by decide) ?_
    refine ps_ldc2 (ps_at tX8_slips_ok 8 rfl) clX8_113 ?_
    refine ps_callS (M2 := mX8_in) (av := [.inr (.inl v2.toInt64), .inr (.inl 1), .inr (.inl 9)]) (rest := []) (ps_at tX8_slips_ok 9 rfl) csX8_99 rfl rfl (fun _ => Nat.le_of_ble_eq_true rfl) (pX8_in ?_)
    refine ps_if_ne (tgt := 25) (ps_at tX8_slips_ok 10 rfl) (by decide) (fun c1 => ?_) (fun c1 => ?_)
    · skip
      refine ps_iconst (x := 0) (ps_at tX8_slips_ok 13 rfl) (by decide) ?_
      refine ps_istore_n (L' := [some (.inr (.inr (50, 0))), some (.inl v1), some (.inl v2), some (.inl 0), none, none, none]) (ps_at tX8_slips_ok 14 rfl) rfl (by decide) rfl ?_
      exact h1 c0 c1
    · skip
      refine ps_ldc (ps_at tX8_slips_ok 11 rfl) cnX8_115 ?_
      exact ps_iret (ps_at tX8_slips_ok 12 rfl) rfl ⟨rfl, rfl⟩ (h2 c0 c1)
  · skip
    refine ps_ldc (ps_at tX8_slips_ok 3 rfl) cnX8_112 ?_
    exact ps_iret (ps_at tX8_slips_ok 4 rfl) rfl ⟨rfl, rfl⟩ (h3 c0)
theorem bX8_slips_27 {d : Nat} {Q : Option ps_V → ps_S → Prop} {v1 : Int32} {v2 : Int32} {v3 : Int32} {σ : ps_S} (h1 : 512 ≤ v3 → kX8_slips_66 d Q v2 1 σ) (h2 : ¬ 512 ≤ v3 → ps_C mX8_slipsOf (d + 1) [.inr (.inr (50, 0)), .inl v1, .inl v3] σ (ps_ri (fun x σ1 => kX8_slips_45 d Q v1 v2 v3 x v3 σ1))) : kX8_slips_27 d Q v1 v2 v3 σ := by
  refine ps_iload_n (ps_at tX8_slips_ok 15 rfl) rfl rfl ?_
  refine ps_sipush (x := 512) (ps_at tX8_slips_ok 16 rfl) (by decide) ?_
  refine ps_icmp_ge (tgt := 64) (ps_at tX8_slips_ok 17 rfl) (by decide) (fun c0 => ?_) (fun c0 => ?_)
  · skip
    refine ps_iconst (x := 1) (ps_at tX8_slips_ok 36 rfl) (by decide) ?_
    refine ps_istore_n (L' := [some (.inr (.inr (50, 0))), some (.inl v1), some (.inl v2), some (.inl 1), none, none, none]) (ps_at tX8_slips_ok 37 rfl) rfl (by decide) rfl ?_
    refine ps_forget (L' := [some (.inr (.inr (50, 0))), none, some (.inl v2), some (.inl 1), none, none, none]) (And.intro rfl (And.intro rfl (And.intro rfl trivial))) ?_
    exact h1 c0
  · skip
    refine ps_aload_n (ps_at tX8_slips_ok 18 rfl) rfl rfl ?_
    refine ps_getR (ps_at tX8_slips_ok 19 rfl) flX8_19 sh_50 rfl ?_
    refine ps_iload_n (ps_at tX8_slips_ok 20 rfl) rfl rfl ?_
    refine ps_aload_n (ps_at tX8_slips_ok 21 rfl) rfl rfl ?_
    refine ps_iload_n (ps_at tX8_slips_ok 22 rfl) rfl rfl ?_
    refine ps_iload_n (ps_at tX8_slips_ok 23 rfl) rfl rfl ?_
    refine ps_callV (M2 := mX8_slipsOf) (av := [.inl v1, .inl v3]) (rest := [.inl v3, .inr (.inr (55, 0))]) (ps_at tX8_slips_ok 24 rfl) cvX8_144 sh_50 rfl rfl (fun _ => Nat.le_of_ble_eq_true rfl) ?_
    refine ps_C.imp ?_ (h2 c0)
    rintro _ σ1 ⟨x, rfl, hx⟩
    exact hx
theorem bX8_slips_66 {d : Nat} {Q : Option ps_V → ps_S → Prop} {v2 : Int32} {v3 : Int32} {σ : ps_S} (h1 : v2 ≤ v3 → vp_in 511 512) (h2 : v2 ≤ v3 → Q (some (.inl (σ 56 0 (511 : Int32).toNatClampNeg))) σ) (h3 : ¬ v2 ≤ v3 → kX8_slips_74 d Q v2 v3 0 σ) : kX8_slips_66 d Q v2 v3 σ := by
  refine ps_iload_n (ps_at tX8_slips_ok 38 rfl) rfl rfl ?_
  refine ps_iload_n (ps_at tX8_slips_ok 39 rfl) rfl rfl ?_
  refine ps_icmp_ge (tgt := 213) (ps_at tX8_slips_ok 40 rfl) (by decide) (fun c0 => ?_) (fun c0 => ?_)
  · skip
    refine ps_aload_n (ps_at tX8_slips_ok 114 rfl) rfl rfl ?_
    refine ps_getR (ps_at tX8_slips_ok 115 rfl) flX8_22 sh_50 rfl ?_
    refine ps_sipush (x := 511) (ps_at tX8_slips_ok 116 rfl) (by decide) ?_
    refine ps_iald (ps_at tX8_slips_ok 117 rfl) sh_56 (h1 c0) ?_
    exact ps_iret (ps_at tX8_slips_ok 118 rfl) rfl ⟨rfl, rfl⟩ (h2 c0)
  · skip
    refine ps_iconst (x := 0) (ps_at tX8_slips_ok 41 rfl) (by decide) ?_
    refine ps_istore (L' := [some (.inr (.inr (50, 0))), none, some (.inl v2), some (.inl v3), some (.inl 0), none, none]) (ps_at tX8_slips_ok 42 rfl) (by decide) rfl ?_
    exact h3 c0
theorem bX8_slips_45 {d : Nat} {Q : Option ps_V → ps_S → Prop} {v1 : Int32} {v2 : Int32} {v3 : Int32} {s0 : Int32} {s1 : Int32} {σ : ps_S} (h1 : vp_in s1 512) (h2 : vp_in v3 512) (h3 : kX8_slips_27 d Q v1 v2 (v3 + 1) (ps_up (ps_up σ 55 0 s1.toNatClampNeg s0) 56 0 v3.toNatClampNeg ((ps_up σ 55 0 s1.toNatClampNeg s0) 55 0 v3.toNatClampNeg))) : kX8_slips_45 d Q v1 v2 v3 s0 s1 σ := by
  refine ps_iast (ps_at tX8_slips_ok 25 rfl) sh_55 (h1) ?_
  refine ps_aload_n (ps_at tX8_slips_ok 26 rfl) rfl rfl ?_
  refine ps_getR (ps_at tX8_slips_ok 27 rfl) flX8_22 sh_50 rfl ?_
  refine ps_iload_n (ps_at tX8_slips_ok 28 rfl) rfl rfl ?_
  refine ps_aload_n (ps_at tX8_slips_ok 29 rfl) rfl rfl ?_
  refine ps_getR (ps_at tX8_slips_ok 30 rfl) flX8_19 sh_50 rfl ?_
  refine ps_iload_n (ps_at tX8_slips_ok 31 rfl) rfl rfl ?_
  refine ps_iald (ps_at tX8_slips_ok 32 rfl) sh_55 (h2) ?_
  refine ps_iast (ps_at tX8_slips_ok 33 rfl) sh_56 (h2) ?_
  refine ps_iinc (L' := [some (.inr (.inr (50, 0))), some (.inl v1), some (.inl v2), some (.inl (v3 + 1)), none, none, none]) (y := 1) (ps_at tX8_slips_ok 34 rfl) rfl (by decide) (by decide) rfl ?_
  refine ps_goto (tgt := 27) (ps_at tX8_slips_ok 35 rfl) (by decide) ?_
  exact h3
theorem bX8_slips_74 {d : Nat} {Q : Option ps_V → ps_S → Prop} {v2 : Int32} {v3 : Int32} {v4 : Int32} {σ : ps_S} (h1 : 512 ≤ v4 → kX8_slips_179 d Q v2 v3 0 σ) (h2 : ¬ 512 ≤ v4 → vp_in v4 512) (h3 : ¬ 512 ≤ v4 → kX8_slips_100 d Q v2 v3 v4 v4 (ps_up σ 57 0 v4.toNatClampNeg (σ 56 0 v4.toNatClampNeg))) : kX8_slips_74 d Q v2 v3 v4 σ := by
  refine ps_iload (ps_at tX8_slips_ok 43 rfl) rfl ?_
  refine ps_sipush (x := 512) (ps_at tX8_slips_ok 44 rfl) (by decide) ?_
  refine ps_icmp_ge (tgt := 176) (ps_at tX8_slips_ok 45 rfl) (by decide) (fun c0 => ?_) (fun c0 => ?_)
  · skip
    refine ps_iconst (x := 0) (ps_at tX8_slips_ok 97 rfl) (by decide) ?_
    refine ps_istore (L' := [some (.inr (.inr (50, 0))), none, some (.inl v2), some (.inl v3), some (.inl 0), none, none]) (ps_at tX8_slips_ok 98 rfl) (by decide) rfl ?_
    exact h1 c0
  · skip
    refine ps_aload_n (ps_at tX8_slips_ok 46 rfl) rfl rfl ?_
    refine ps_getR (ps_at tX8_slips_ok 47 rfl) flX8_25 sh_50 rfl ?_
    refine ps_iload (ps_at tX8_slips_ok 48 rfl) rfl ?_
    refine ps_aload_n (ps_at tX8_slips_ok 49 rfl) rfl rfl ?_
    refine ps_getR (ps_at tX8_slips_ok 50 rfl) flX8_22 sh_50 rfl ?_
    refine ps_iload (ps_at tX8_slips_ok 51 rfl) rfl ?_
    refine ps_iald (ps_at tX8_slips_ok 52 rfl) sh_56 (h2 c0) ?_
    refine ps_iast (ps_at tX8_slips_ok 53 rfl) sh_57 (h2 c0) ?_
    refine ps_iload (ps_at tX8_slips_ok 54 rfl) rfl ?_
    refine ps_istore (L' := [some (.inr (.inr (50, 0))), none, some (.inl v2), some (.inl v3), some (.inl v4), some (.inl v4), none]) (ps_at tX8_slips_ok 55 rfl) (by decide) rfl ?_
    exact h3 c0
theorem bX8_slips_179 {d : Nat} {Q : Option ps_V → ps_S → Prop} {v2 : Int32} {v3 : Int32} {v4 : Int32} {σ : ps_S} (h1 : 512 ≤ v4 → kX8_slips_66 d Q v2 (v3 + 1) σ) (h2 : ¬ 512 ≤ v4 → vp_in v4 512) (h3 : ¬ 512 ≤ v4 → kX8_slips_179 d Q v2 v3 (v4 + 1) (ps_up σ 56 0 v4.toNatClampNeg (σ 57 0 v4.toNatClampNeg))) : kX8_slips_179 d Q v2 v3 v4 σ := by
  refine ps_iload (ps_at tX8_slips_ok 99 rfl) rfl ?_
  refine ps_sipush (x := 512) (ps_at tX8_slips_ok 100 rfl) (by decide) ?_
  refine ps_icmp_ge (tgt := 207) (ps_at tX8_slips_ok 101 rfl) (by decide) (fun c0 => ?_) (fun c0 => ?_)
  · skip
    refine ps_iinc (L' := [some (.inr (.inr (50, 0))), none, some (.inl v2), some (.inl (v3 + 1)), some (.inl v4), none, none]) (y := 1) (ps_at tX8_slips_ok 112 rfl) rfl (by decide) (by decide) rfl ?_
    refine ps_goto (tgt := 66) (ps_at tX8_slips_ok 113 rfl) (by decide) ?_
    refine ps_forget (L' := [some (.inr (.inr (50, 0))), none, some (.inl v2), some (.inl (v3 + 1)), none, none, none]) (And.intro rfl (And.intro rfl (And.intro rfl trivial))) ?_
    exact h1 c0
  · skip
    refine ps_aload_n (ps_at tX8_slips_ok 102 rfl) rfl rfl ?_
    refine ps_getR (ps_at tX8_slips_ok 103 rfl) flX8_22 sh_50 rfl ?_
    refine ps_iload (ps_at tX8_slips_ok 104 rfl) rfl ?_
    refine ps_aload_n (ps_at tX8_slips_ok 105 rfl) rfl rfl ?_
    refine ps_getR (ps_at tX8_slips_ok 106 rfl) flX8_25 sh_50 rfl ?_
    refine ps_iload (ps_at tX8_slips_ok 107 rfl) rfl ?_
    refine ps_iald (ps_at tX8_slips_ok 108 rfl) sh_57 (h2 c0) ?_
    refine ps_iast (ps_at tX8_slips_ok 109 rfl) sh_56 (h2 c0) ?_
    refine ps_iinc (L' := [some (.inr (.inr (50, 0))), none, some (.inl v2), some (.inl v3), some (.inl (v4 + 1)), none, none]) (y := 1) (ps_at tX8_slips_ok 110 rfl) rfl (by decide) (by decide) rfl ?_
    refine ps_goto (tgt := 179) (ps_at tX8_slips_ok 111 rfl) (by decide) ?_
    exact h3 c0
theorem bX8_slips_100 {d : Nat} {Q : Option ps_V → ps_S → Prop} {v2 : Int32} {v3 : Int32} {v4 : Int32} {v5 : Int32} {σ : ps_S} (h1 : v5 ≤ 0 → kX8_slips_74 d Q v2 v3 (v4 + 1) σ) (h2 : ¬ v5 ≤ 0 → vp_in v5 512) (h3 : ¬ v5 ≤ 0 → vp_in (v4 &&& (v5 ^^^ (-1))) 512) (h4 : ¬ v5 ≤ 0 → vp_in v4 512) (h5 : ¬ v5 ≤ 0 → (σ 57 0 v4.toNatClampNeg) ≤ ((σ 55 0 v5.toNatClampNeg) + (σ 56 0 (v4 &&& (v5 ^^^ (-1))).toNatClampNeg)) → kX8_slips_100 d Q v2 v3 v4 ((v5 - 1) &&& v4) (ps_up σ 57 0 v4.toNatClampNeg (σ 57 0 v4.toNatClampNeg))) (h6 : ¬ v5 ≤ 0 → ¬ (σ 57 0 v4.toNatClampNeg) ≤ ((σ 55 0 v5.toNatClampNeg) + (σ 56 0 (v4 &&& (v5 ^^^ (-1))).toNatClampNeg)) → kX8_slips_100 d Q v2 v3 v4 ((v5 - 1) &&& v4) (ps_up σ 57 0 v4.toNatClampNeg ((σ 55 0 v5.toNatClampNeg) + (σ 56 0 (v4 &&& (v5 ^^^ (-1))).toNatClampNeg)))) : kX8_slips_100 d Q v2 v3 v4 v5 σ := by
  refine ps_iload (ps_at tX8_slips_ok 56 rfl) rfl ?_
  refine ps_if_le (tgt := 170) (ps_at tX8_slips_ok 57 rfl) (by decide) (fun c0 => ?_) (fun c0 => ?_)
  · skip
    refine ps_iinc (L' := [some (.inr (.inr (50, 0))), none, some (.inl v2), some (.inl v3), some (.inl (v4 + 1)), some (.inl v5), none]) (y := 1) (ps_at tX8_slips_ok 95 rfl) rfl (by decide) (by decide) rfl ?_
    refine ps_goto (tgt := 74) (ps_at tX8_slips_ok 96 rfl) (by decide) ?_
    refine ps_forget (L' := [some (.inr (.inr (50, 0))), none, some (.inl v2), some (.inl v3), some (.inl (v4 + 1)), none, none]) (And.intro rfl (And.intro rfl (And.intro rfl (And.intro rfl trivial)))) ?_
    exact h1 c0
  · skip
    refine ps_aload_n (ps_at tX8_slips_ok 58 rfl) rfl rfl ?_
    refine ps_getR (ps_at tX8_slips_ok 59 rfl) flX8_19 sh_50 rfl ?_
    refine ps_iload (ps_at tX8_slips_ok 60 rfl) rfl ?_
    refine ps_iald (ps_at tX8_slips_ok 61 rfl) sh_55 (h2 c0) ?_
    refine ps_aload_n (ps_at tX8_slips_ok 62 rfl) rfl rfl ?_
    refine ps_getR (ps_at tX8_slips_ok 63 rfl) flX8_22 sh_50 rfl ?_
    refine ps_iload (ps_at tX8_slips_ok 64 rfl) rfl ?_
    refine ps_iload (ps_at tX8_slips_ok 65 rfl) rfl ?_
    refine ps_iconst (x := (-1)) (ps_at tX8_slips_ok 66 rfl) (by decide) ?_
    refine ps_ixor (ps_at tX8_slips_ok 67 rfl) ?_
    refine ps_iand (ps_at tX8_slips_ok 68 rfl) ?_
    refine ps_iald (ps_at tX8_slips_ok 69 rfl) sh_56 (h3 c0) ?_
    refine ps_iadd (ps_at tX8_slips_ok 70 rfl) ?_
    refine ps_istore (L' := [some (.inr (.inr (50, 0))), none, some (.inl v2), some (.inl v3), some (.inl v4), some (.inl v5), some (.inl ((σ 55 0 v5.toNatClampNeg) + (σ 56 0 (v4 &&& (v5 ^^^ (-1))).toNatClampNeg)))]) (ps_at tX8_slips_ok 71 rfl) (by decide) rfl ?_
    refine ps_aload_n (ps_at tX8_slips_ok 72 rfl) rfl rfl ?_
    refine ps_getR (ps_at tX8_slips_ok 73 rfl) flX8_25 sh_50 rfl ?_
    refine ps_iload (ps_at tX8_slips_ok 74 rfl) rfl ?_
    refine ps_iload (ps_at tX8_slips_ok 75 rfl) rfl ?_
    refine ps_aload_n (ps_at tX8_slips_ok 76 rfl) rfl rfl ?_
    refine ps_getR (ps_at tX8_slips_ok 77 rfl) flX8_25 sh_50 rfl ?_
    refine ps_iload (ps_at tX8_slips_ok 78 rfl) rfl ?_
    refine ps_iald (ps_at tX8_slips_ok 79 rfl) sh_57 (h4 c0) ?_
    refine ps_icmp_ge (tgt := 150) (ps_at tX8_slips_ok 80 rfl) (by decide) (fun c1 => ?_) (fun c1 => ?_)
    · skip
      refine ps_aload_n (ps_at tX8_slips_ok 83 rfl) rfl rfl ?_
      refine ps_getR (ps_at tX8_slips_ok 84 rfl) flX8_25 sh_50 rfl ?_
      refine ps_iload (ps_at tX8_slips_ok 85 rfl) rfl ?_
      refine ps_iald (ps_at tX8_slips_ok 86 rfl) sh_57 (h4 c0) ?_
      refine ps_iast (ps_at tX8_slips_ok 87 rfl) sh_57 (h4 c0) ?_
      refine ps_iload (ps_at tX8_slips_ok 88 rfl) rfl ?_
      refine ps_iconst (x := 1) (ps_at tX8_slips_ok 89 rfl) (by decide) ?_
      refine ps_isub (ps_at tX8_slips_ok 90 rfl) ?_
      refine ps_iload (ps_at tX8_slips_ok 91 rfl) rfl ?_
      refine ps_iand (ps_at tX8_slips_ok 92 rfl) ?_
      refine ps_istore (L' := [some (.inr (.inr (50, 0))), none, some (.inl v2), some (.inl v3), some (.inl v4), some (.inl ((v5 - 1) &&& v4)), some (.inl ((σ 55 0 v5.toNatClampNeg) + (σ 56 0 (v4 &&& (v5 ^^^ (-1))).toNatClampNeg)))]) (ps_at tX8_slips_ok 93 rfl) (by decide) rfl ?_
      refine ps_goto (tgt := 100) (ps_at tX8_slips_ok 94 rfl) (by decide) ?_
      refine ps_forget (L' := [some (.inr (.inr (50, 0))), none, some (.inl v2), some (.inl v3), some (.inl v4), some (.inl ((v5 - 1) &&& v4)), none]) (And.intro rfl (And.intro rfl (And.intro rfl (And.intro rfl (And.intro rfl trivial))))) ?_
      exact h5 c0 c1
    · skip
      refine ps_iload (ps_at tX8_slips_ok 81 rfl) rfl ?_
      refine ps_goto (tgt := 157) (ps_at tX8_slips_ok 82 rfl) (by decide) ?_
      refine ps_iast (ps_at tX8_slips_ok 87 rfl) sh_57 (h4 c0) ?_
      refine ps_iload (ps_at tX8_slips_ok 88 rfl) rfl ?_
      refine ps_iconst (x := 1) (ps_at tX8_slips_ok 89 rfl) (by decide) ?_
      refine ps_isub (ps_at tX8_slips_ok 90 rfl) ?_
      refine ps_iload (ps_at tX8_slips_ok 91 rfl) rfl ?_
      refine ps_iand (ps_at tX8_slips_ok 92 rfl) ?_
      refine ps_istore (L' := [some (.inr (.inr (50, 0))), none, some (.inl v2), some (.inl v3), some (.inl v4), some (.inl ((v5 - 1) &&& v4)), some (.inl ((σ 55 0 v5.toNatClampNeg) + (σ 56 0 (v4 &&& (v5 ^^^ (-1))).toNatClampNeg)))]) (ps_at tX8_slips_ok 93 rfl) (by decide) rfl ?_
      refine ps_goto (tgt := 100) (ps_at tX8_slips_ok 94 rfl) (by decide) ?_
      refine ps_forget (L' := [some (.inr (.inr (50, 0))), none, some (.inl v2), some (.inl v3), some (.inl v4), some (.inl ((v5 - 1) &&& v4)), none]) (And.intro rfl (And.intro rfl (And.intro rfl (And.intro rfl (And.intro rfl trivial))))) ?_
      exact h6 c0 c1
theorem eX8_slips {d : Nat} {Q : Option ps_V → ps_S → Prop} {v1 : Int32} {v2 : Int32} {σ : ps_S} (h : kX8_slips_0 d Q v1 v2 σ) : ps_C mX8_slips (d + 2) [.inr (.inr (50, 0)), .inl v1, .inl v2] σ Q := ps_enter (by decide) rfl ⟨rfl, rfl, rfl⟩ rfl (Nat.le_of_ble_eq_true rfl) h
abbrev kX8_ahead_0 (d : Nat) (Q : Option ps_V → ps_S → Prop) (v1 : Int32) (v2 : Int32) (v3 : Int32) (v4 : Int32) (σ : ps_S) : Prop := ps_K mX8_ahead (d + 2) (ps_QF Q) 0 [some (.inr (.inr (50, 0))), some (.inl v1), some (.inl v2), some (.inl v3), some (.inl v4), none] [] σ
abbrev kX8_ahead_56 (d : Nat) (Q : Option ps_V → ps_S → Prop) (v1 : Int32) (v2 : Int32) (v3 : Int32) (v4 : Int32) (s0 : Int32) (σ : ps_S) : Prop := ps_K mX8_ahead (d + 2) (ps_QF Q) 56 [some (.inr (.inr (50, 0))), some (.inl v1), some (.inl v2), some (.inl v3), some (.inl v4), none] [.inl s0] σ
theorem bX8_ahead_0 {d : Nat} {Q : Option ps_V → ps_S → Prop} {v1 : Int32} {v2 : Int32} {v3 : Int32} {v4 : Int32} {σ : ps_S} (h1 : (jbIn v1.toInt64 0 5) = 0 → Q (some (.inl (-900001))) σ) (h2 : ¬ (jbIn v1.toInt64 0 5) = 0 → (jbIn v2.toInt64 0 8) = 0 → Q (some (.inl (-900001))) σ) (h3 : ¬ (jbIn v1.toInt64 0 5) = 0 → ¬ (jbIn v2.toInt64 0 8) = 0 → ¬ (jbIn v3.toInt64 0 8) = 0 → ¬ v2 = v3 → vp_in (((81 * v1) + (9 * v2)) + v3) 486) (h4 : ¬ (jbIn v1.toInt64 0 5) = 0 → ¬ (jbIn v2.toInt64 0 8) = 0 → ¬ (jbIn v3.toInt64 0 8) = 0 → ¬ v2 = v3 → (σ 58 0 (((81 * v1) + (9 * v2)) + v3).toNatClampNeg) = 0 → kX8_ahead_56 d Q v1 v2 v3 v4 0 σ) (h5 : ¬ (jbIn v1.toInt64 0 5) = 0 → ¬ (jbIn v2.toInt64 0 8) = 0 → ¬ (jbIn v3.toInt64 0 8) = 0 → ¬ v2 = v3 → ¬ (σ 58 0 (((81 * v1) + (9 * v2)) + v3).toNatClampNeg) = 0 → kX8_ahead_56 d Q v1 v2 v3 v4 1 σ) (h6 : ¬ (jbIn v1.toInt64 0 5) = 0 → ¬ (jbIn v2.toInt64 0 8) = 0 → ¬ (jbIn v3.toInt64 0 8) = 0 → v2 = v3 → Q (some (.inl (-900003))) σ) (h7 : ¬ (jbIn v1.toInt64 0 5) = 0 → ¬ (jbIn v2.toInt64 0 8) = 0 → (jbIn v3.toInt64 0 8) = 0 → Q (some (.inl (-900001))) σ) : kX8_ahead_0 d Q v1 v2 v3 v4 σ := by
  refine ps_iload_n (ps_at tX8_ahead_ok 0 rfl) rfl rfl ?_
  refine ps_callS (M2 := mX8_isForme) (av := [.inl v1]) (rest := []) (ps_at tX8_ahead_ok 1 rfl) csX8_109 rfl rfl (fun _ => Nat.le_of_ble_eq_true rfl) (pX8_isForme ?_)
  refine ps_if_eq (tgt := 21) (ps_at tX8_ahead_ok 2 rfl) (by decide) (fun c0 => ?_) (fun c0 => ?_)
  · skip
    refine ps_ldc (ps_at tX8_ahead_ok 9 rfl) cnX8_112 ?_
    exact ps_iret (ps_at tX8_ahead_ok 10 rfl) rfl ⟨rfl, rfl⟩ (h1 c0)
  · skip
    refine ps_iload_n (ps_at tX8_ahead_ok 3 rfl) rfl rfl ?_
    refine ps_callS (M2 := mX8_isCopy) (av := [.inl v2]) (rest := []) (ps_at tX8_ahead_ok 4 rfl) csX8_105 rfl rfl (fun _ => Nat.le_of_ble_eq_true rfl) (pX8_isCopy ?_)
    refine ps_if_eq (tgt := 21) (ps_at tX8_ahead_ok 5 rfl) (by decide) (fun c1 => ?_) (fun c1 => ?_)
    · skip
      refine ps_ldc (ps_at tX8_ahead_ok 9 rfl) cnX8_112 ?_
      exact ps_iret (ps_at tX8_ahead_ok 10 rfl) rfl ⟨rfl, rfl⟩ (h2 c0 c1)
    · skip
      refine ps_iload_n (ps_at tX8_ahead_ok 6 rfl) rfl rfl ?_
      refine ps_callS (M2 := mX8_isCopy) (av := [.inl v3]) (rest := []) (ps_at tX8_ahead_ok 7 rfl) csX8_105 rfl rfl (fun _ => Nat.le_of_ble_eq_true rfl) (pX8_isCopy ?_)
      refine ps_if_ne (tgt := 24) (ps_at tX8_ahead_ok 8 rfl) (by decide) (fun c2 => ?_) (fun c2 => ?_)
      · skip
        refine ps_iload_n (ps_at tX8_ahead_ok 11 rfl) rfl rfl ?_
        refine ps_iload_n (ps_at tX8_ahead_ok 12 rfl) rfl rfl ?_
        refine ps_icmp_ne (tgt := 32) (ps_at tX8_ahead_ok 13 rfl) (by decide) (fun c3 => ?_) (fun c3 => ?_)
        · skip
          refine ps_aload_n (ps_at tX8_ahead_ok 16 rfl) rfl rfl ?_
          refine ps_getR (ps_at tX8_ahead_ok 17 rfl) flX8_28 sh_50 rfl ?_
          refine ps_bipush (x := 81) (ps_at tX8_ahead_ok 18 rfl) (by decide) ?_
          refine ps_iload_n (ps_at tX8_ahead_ok 19 rfl) rfl rfl ?_
          refine ps_imul (ps_at tX8_ahead_ok 20 rfl) ?_
          refine ps_bipush (x := 9) (ps_at tX8_ahead_ok 21 rfl) (by decide) ?_
          refine ps_iload_n (ps_at tX8_ahead_ok 22 rfl) rfl rfl ?_
          refine ps_imul (ps_at tX8_ahead_ok 23 rfl) ?_
          refine ps_iadd (ps_at tX8_ahead_ok 24 rfl) ?_
          refine ps_iload_n (ps_at tX8_ahead_ok 25 rfl) rfl rfl ?_
          refine ps_iadd (ps_at tX8_ahead_ok 26 rfl) ?_
          refine ps_zald (ps_at tX8_ahead_ok 27 rfl) sh_58 (h3 c0 c1 c2 c3) ?_
          refine ps_if_eq (tgt := 55) (ps_at tX8_ahead_ok 28 rfl) (by decide) (fun c4 => ?_) (fun c4 => ?_)
          · skip
            refine ps_iconst (x := 0) (ps_at tX8_ahead_ok 31 rfl) (by decide) ?_
            exact h4 c0 c1 c2 c3 c4
          · skip
            refine ps_iconst (x := 1) (ps_at tX8_ahead_ok 29 rfl) (by decide) ?_
            refine ps_goto (tgt := 56) (ps_at tX8_ahead_ok 30 rfl) (by decide) ?_
            exact h5 c0 c1 c2 c3 c4
        · skip
          refine ps_ldc (ps_at tX8_ahead_ok 14 rfl) cnX8_148 ?_
          exact ps_iret (ps_at tX8_ahead_ok 15 rfl) rfl ⟨rfl, rfl⟩ (h6 c0 c1 c2 c3)
      · skip
        refine ps_ldc (ps_at tX8_ahead_ok 9 rfl) cnX8_112 ?_
        exact ps_iret (ps_at tX8_ahead_ok 10 rfl) rfl ⟨rfl, rfl⟩ (h7 c0 c1 c2)
theorem bX8_ahead_56 {d : Nat} {Q : Option ps_V → ps_S → Prop} {v1 : Int32} {v2 : Int32} {v3 : Int32} {v4 : Int32} {s0 : Int32} {σ : ps_S} (h1 : vp_in (((81 * v1) + (9 * v2)) + v3) 486) (h2 : (v4 = 0 ∨ v4 = 1)) (h3 : Q (some (.inl s0)) (ps_up σ 58 0 (((81 * v1) + (9 * v2)) + v3).toNatClampNeg v4)) : kX8_ahead_56 d Q v1 v2 v3 v4 s0 σ := by
  refine ps_istore (L' := [some (.inr (.inr (50, 0))), some (.inl v1), some (.inl v2), some (.inl v3), some (.inl v4), some (.inl s0)]) (ps_at tX8_ahead_ok 32 rfl) (by decide) rfl ?_
  refine ps_aload_n (ps_at tX8_ahead_ok 33 rfl) rfl rfl ?_
  refine ps_getR (ps_at tX8_ahead_ok 34 rfl) flX8_28 sh_50 rfl ?_
  refine ps_bipush (x := 81) (ps_at tX8_ahead_ok 35 rfl) (by decide) ?_
  refine ps_iload_n (ps_at tX8_ahead_ok 36 rfl) rfl rfl ?_
  refine ps_imul (ps_at tX8_ahead_ok 37 rfl) ?_
  refine ps_bipush (x := 9) (ps_at tX8_ahead_ok 38 rfl) (by decide) ?_
  refine ps_iload_n (ps_at tX8_ahead_ok 39 rfl) rfl rfl ?_
  refine ps_imul (ps_at tX8_ahead_ok 40 rfl) ?_
  refine ps_iadd (ps_at tX8_ahead_ok 41 rfl) ?_
  refine ps_iload_n (ps_at tX8_ahead_ok 42 rfl) rfl rfl ?_
  refine ps_iadd (ps_at tX8_ahead_ok 43 rfl) ?_
  refine ps_iload (ps_at tX8_ahead_ok 44 rfl) rfl ?_
  refine ps_zast (ps_at tX8_ahead_ok 45 rfl) sh_58 (h1) (h2) ?_
  refine ps_iload (ps_at tX8_ahead_ok 46 rfl) rfl ?_
  exact ps_iret (ps_at tX8_ahead_ok 47 rfl) rfl ⟨rfl, rfl⟩ (h3)
theorem eX8_ahead {d : Nat} {Q : Option ps_V → ps_S → Prop} {v1 : Int32} {v2 : Int32} {v3 : Int32} {v4 : Int32} {σ : ps_S} (h : kX8_ahead_0 d Q v1 v2 v3 v4 σ) : ps_C mX8_ahead (d + 2) [.inr (.inr (50, 0)), .inl v1, .inl v2, .inl v3, .inl v4] σ Q := ps_enter (by decide) rfl ⟨rfl, rfl, rfl⟩ rfl (Nat.le_of_ble_eq_true rfl) h
abbrev kX8_changes_0 (d : Nat) (Q : Option ps_V → ps_S → Prop) (v1 : Int32) (v2 : Int32) (v3 : Int32) (σ : ps_S) : Prop := ps_K mX8_changes (d + 3) (ps_QF Q) 0 [some (.inr (.inr (50, 0))), some (.inl v1), some (.inl v2), some (.inl v3)] [] σ
abbrev kX8_changes_15 (d : Nat) (Q : Option ps_V → ps_S → Prop) (v1 : Int32) (v2 : Int32) (v3 : Int32) (σ : ps_S) : Prop := ps_K mX8_changes (d + 3) (ps_QF Q) 15 [some (.inr (.inr (50, 0))), some (.inl v1), some (.inl v2), some (.inl v3)] [] σ
theorem bX8_changes_0 {d : Nat} {Q : Option ps_V → ps_S → Prop} {v1 : Int32} {v2 : Int32} {v3 : Int32} {σ : ps_S} (h1 : ¬ (jbIn v1.toInt64 0 5) = 0 → ps_C mX8_layStates (d + 2) [.inr (.inr (50, 0)), .inl v1] σ (ps_rv (fun σ1 => kX8_changes_15 d Q v1 v2 v3 σ1))) (h2 : (jbIn v1.toInt64 0 5) = 0 → Q (some (.inl (-900001))) σ) : kX8_changes_0 d Q v1 v2 v3 σ := by
  refine ps_iload_n (ps_at tX8_changes_ok 0 rfl) rfl rfl ?_
  refine ps_callS (M2 := mX8_isForme) (av := [.inl v1]) (rest := []) (ps_at tX8_changes_ok 1 rfl) csX8_109 rfl rfl (fun _ => Nat.le_of_ble_eq_true rfl) (pX8_isForme ?_)
  refine ps_if_ne (tgt := 10) (ps_at tX8_changes_ok 2 rfl) (by decide) (fun c0 => ?_) (fun c0 => ?_)
  · skip
    refine ps_aload_n (ps_at tX8_changes_ok 5 rfl) rfl rfl ?_
    refine ps_iload_n (ps_at tX8_changes_ok 6 rfl) rfl rfl ?_
    refine ps_callV (M2 := mX8_layStates) (av := [.inl v1]) (rest := []) (ps_at tX8_changes_ok 7 rfl) cvX8_137 sh_50 rfl rfl (fun _ => Nat.le_of_ble_eq_true rfl) ?_
    refine ps_C.imp ?_ (h1 c0)
    rintro _ σ1 ⟨rfl, hx⟩
    exact hx
  · skip
    refine ps_ldc (ps_at tX8_changes_ok 3 rfl) cnX8_112 ?_
    exact ps_iret (ps_at tX8_changes_ok 4 rfl) rfl ⟨rfl, rfl⟩ (h2 c0)
theorem bX8_changes_15 {d : Nat} {Q : Option ps_V → ps_S → Prop} {v1 : Int32} {v2 : Int32} {v3 : Int32} {σ : ps_S} (h1 : (jbIn v2.toInt64 0 (((σ 50 0 1) - 1).toInt64)) = 0 → Q (some (.inl (-900001))) σ) (h2 : ¬ (jbIn v2.toInt64 0 (((σ 50 0 1) - 1).toInt64)) = 0 → (jbIn v3.toInt64 0 (((σ 50 0 1) - 1).toInt64)) = 0 → Q (some (.inl (-900001))) σ) (h3 : ¬ (jbIn v2.toInt64 0 (((σ 50 0 1) - 1).toInt64)) = 0 → ¬ (jbIn v3.toInt64 0 (((σ 50 0 1) - 1).toInt64)) = 0 → vp_in v1 6) (h4 : ¬ (jbIn v2.toInt64 0 (((σ 50 0 1) - 1).toInt64)) = 0 → ¬ (jbIn v3.toInt64 0 (((σ 50 0 1) - 1).toInt64)) = 0 → Q (some (.inl (nI (cntN 6 (fun p => ¬ jbUn (mGl σ v1.toNatClampNeg v2 p) (mGl σ v1.toNatClampNeg v3 p) = 0))))) σ) : kX8_changes_15 d Q v1 v2 v3 σ := by
  refine ps_iload_n (ps_at tX8_changes_ok 8 rfl) rfl rfl ?_
  refine ps_i2l (ps_at tX8_changes_ok 9 rfl) ?_
  refine ps_lconst (x := 0) (ps_at tX8_changes_ok 10 rfl) (by decide) ?_
  refine ps_aload_n (ps_at tX8_changes_ok 11 rfl) rfl rfl ?_
  refine ps_getI (ps_at tX8_changes_ok 12 rfl) flX8_131 sh_50 rfl ?_
  refine ps_iconst (x := 1) (ps_at tX8_changes_ok 13 rfl) (by decide) ?_
  refine ps_isub (ps_at tX8_changes_ok 14 rfl) ?_
  refine ps_i2l (ps_at tX8_changes_ok 15 rfl) ?_
  refine ps_callS (M2 := mX8_in) (av := [.inr (.inl v2.toInt64), .inr (.inl 0), .inr (.inl (((σ 50 0 1) - 1).toInt64))]) (rest := []) (ps_at tX8_changes_ok 16 rfl) csX8_99 rfl rfl (fun _ => Nat.le_of_ble_eq_true rfl) (pX8_in ?_)
  refine ps_if_eq (tgt := 57) (ps_at tX8_changes_ok 17 rfl) (by decide) (fun c0 => ?_) (fun c0 => ?_)
  · skip
    refine ps_ldc (ps_at tX8_changes_ok 34 rfl) cnX8_112 ?_
    exact ps_iret (ps_at tX8_changes_ok 35 rfl) rfl ⟨rfl, rfl⟩ (h1 c0)
  · skip
    refine ps_iload_n (ps_at tX8_changes_ok 18 rfl) rfl rfl ?_
    refine ps_i2l (ps_at tX8_changes_ok 19 rfl) ?_
    refine ps_lconst (x := 0) (ps_at tX8_changes_ok 20 rfl) (by decide) ?_
    refine ps_aload_n (ps_at tX8_changes_ok 21 rfl) rfl rfl ?_
    refine ps_getI (ps_at tX8_changes_ok 22 rfl) flX8_131 sh_50 rfl ?_
    refine ps_iconst (x := 1) (ps_at tX8_changes_ok 23 rfl) (by decide) ?_
    refine ps_isub (ps_at tX8_changes_ok 24 rfl) ?_
    refine ps_i2l (ps_at tX8_changes_ok 25 rfl) ?_
    refine ps_callS (M2 := mX8_in) (av := [.inr (.inl v3.toInt64), .inr (.inl 0), .inr (.inl (((σ 50 0 1) - 1).toInt64))]) (rest := []) (ps_at tX8_changes_ok 26 rfl) csX8_99 rfl rfl (fun _ => Nat.le_of_ble_eq_true rfl) (pX8_in ?_)
    refine ps_if_eq (tgt := 57) (ps_at tX8_changes_ok 27 rfl) (by decide) (fun c1 => ?_) (fun c1 => ?_)
    · skip
      refine ps_ldc (ps_at tX8_changes_ok 34 rfl) cnX8_112 ?_
      exact ps_iret (ps_at tX8_changes_ok 35 rfl) rfl ⟨rfl, rfl⟩ (h2 c0 c1)
    · skip
      refine ps_aload_n (ps_at tX8_changes_ok 28 rfl) rfl rfl ?_
      refine ps_iload_n (ps_at tX8_changes_ok 29 rfl) rfl rfl ?_
      refine ps_iload_n (ps_at tX8_changes_ok 30 rfl) rfl rfl ?_
      refine ps_iload_n (ps_at tX8_changes_ok 31 rfl) rfl rfl ?_
      refine ps_callV (M2 := mX8_changesOf) (av := [.inl v1, .inl v2, .inl v3]) (rest := []) (ps_at tX8_changes_ok 32 rfl) cvX8_149 sh_50 rfl rfl (fun _ => Nat.le_of_ble_eq_true rfl) (pX8_changesOf (h3 c0 c1) ?_)
      refine ps_goto (tgt := 59) (ps_at tX8_changes_ok 33 rfl) (by decide) ?_
      exact ps_iret (ps_at tX8_changes_ok 35 rfl) rfl ⟨rfl, rfl⟩ (h4 c0 c1)
theorem eX8_changes {d : Nat} {Q : Option ps_V → ps_S → Prop} {v1 : Int32} {v2 : Int32} {v3 : Int32} {σ : ps_S} (h : kX8_changes_0 d Q v1 v2 v3 σ) : ps_C mX8_changes (d + 3) [.inr (.inr (50, 0)), .inl v1, .inl v2, .inl v3] σ Q := ps_enter (by decide) rfl ⟨rfl, rfl, rfl⟩ rfl (Nat.le_of_ble_eq_true rfl) h
abbrev kX8_layNeeds_0 (d : Nat) (Q : Option ps_V → ps_S → Prop) (v1 : Int32) (σ : ps_S) : Prop := ps_K mX8_layNeeds (d + 3) (ps_QF Q) 0 [some (.inr (.inr (50, 0))), some (.inl v1), none, none, none] [] σ
abbrev kX8_layNeeds_5 (d : Nat) (Q : Option ps_V → ps_S → Prop) (v1 : Int32) (σ : ps_S) : Prop := ps_K mX8_layNeeds (d + 3) (ps_QF Q) 5 [some (.inr (.inr (50, 0))), some (.inl v1), none, none, none] [] σ
abbrev kX8_layNeeds_7 (d : Nat) (Q : Option ps_V → ps_S → Prop) (v1 : Int32) (v2 : Int32) (σ : ps_S) : Prop := ps_K mX8_layNeeds (d + 3) (ps_QF Q) 7 [some (.inr (.inr (50, 0))), some (.inl v1), some (.inl v2), none, none] [] σ
abbrev kX8_layNeeds_28 (d : Nat) (Q : Option ps_V → ps_S → Prop) (v1 : Int32) (v2 : Int32) (σ : ps_S) : Prop := ps_K mX8_layNeeds (d + 3) (ps_QF Q) 28 [some (.inr (.inr (50, 0))), some (.inl v1), some (.inl v2), none, none] [] σ
abbrev kX8_layNeeds_109 (d : Nat) (Q : Option ps_V → ps_S → Prop) (v1 : Int32) (v2 : Int32) (σ : ps_S) : Prop := ps_K mX8_layNeeds (d + 3) (ps_QF Q) 109 [some (.inr (.inr (50, 0))), some (.inl v1), some (.inl v2), none, none] [] σ
theorem bX8_layNeeds_0 {d : Nat} {Q : Option ps_V → ps_S → Prop} {v1 : Int32} {σ : ps_S} (h1 : ps_C mX8_layStates (d + 2) [.inr (.inr (50, 0)), .inl v1] σ (ps_rv (fun σ1 => kX8_layNeeds_5 d Q v1 σ1))) : kX8_layNeeds_0 d Q v1 σ := by
  refine ps_aload_n (ps_at tX8_layNeeds_ok 0 rfl) rfl rfl ?_
  refine ps_iload_n (ps_at tX8_layNeeds_ok 1 rfl) rfl rfl ?_
  refine ps_callV (M2 := mX8_layStates) (av := [.inl v1]) (rest := []) (ps_at tX8_layNeeds_ok 2 rfl) cvX8_137 sh_50 rfl rfl (fun _ => Nat.le_of_ble_eq_true rfl) ?_
  refine ps_C.imp ?_ (h1)
  rintro _ σ1 ⟨rfl, hx⟩
  exact hx
theorem bX8_layNeeds_5 {d : Nat} {Q : Option ps_V → ps_S → Prop} {v1 : Int32} {σ : ps_S} (h1 : kX8_layNeeds_7 d Q v1 0 σ) : kX8_layNeeds_5 d Q v1 σ := by
  refine ps_iconst (x := 0) (ps_at tX8_layNeeds_ok 3 rfl) (by decide) ?_
  refine ps_istore_n (L' := [some (.inr (.inr (50, 0))), some (.inl v1), some (.inl 0), none, none]) (ps_at tX8_layNeeds_ok 4 rfl) rfl (by decide) rfl ?_
  exact h1
theorem bX8_layNeeds_7 {d : Nat} {Q : Option ps_V → ps_S → Prop} {v1 : Int32} {v2 : Int32} {σ : ps_S} (h1 : 9 ≤ v2 → kX8_layNeeds_28 d Q v1 0 σ) (h2 : ¬ 9 ≤ v2 → vp_in v2 9) (h3 : ¬ 9 ≤ v2 → kX8_layNeeds_7 d Q v1 (v2 + 1) (ps_up σ 59 0 v2.toNatClampNeg 0)) : kX8_layNeeds_7 d Q v1 v2 σ := by
  refine ps_iload_n (ps_at tX8_layNeeds_ok 5 rfl) rfl rfl ?_
  refine ps_bipush (x := 9) (ps_at tX8_layNeeds_ok 6 rfl) (by decide) ?_
  refine ps_icmp_ge (tgt := 26) (ps_at tX8_layNeeds_ok 7 rfl) (by decide) (fun c0 => ?_) (fun c0 => ?_)
  · skip
    refine ps_iconst (x := 0) (ps_at tX8_layNeeds_ok 15 rfl) (by decide) ?_
    refine ps_istore_n (L' := [some (.inr (.inr (50, 0))), some (.inl v1), some (.inl 0), none, none]) (ps_at tX8_layNeeds_ok 16 rfl) rfl (by decide) rfl ?_
    exact h1 c0
  · skip
    refine ps_aload_n (ps_at tX8_layNeeds_ok 8 rfl) rfl rfl ?_
    refine ps_getR (ps_at tX8_layNeeds_ok 9 rfl) flX8_32 sh_50 rfl ?_
    refine ps_iload_n (ps_at tX8_layNeeds_ok 10 rfl) rfl rfl ?_
    refine ps_iconst (x := 0) (ps_at tX8_layNeeds_ok 11 rfl) (by decide) ?_
    refine ps_iast (ps_at tX8_layNeeds_ok 12 rfl) sh_59 (h2 c0) ?_
    refine ps_iinc (L' := [some (.inr (.inr (50, 0))), some (.inl v1), some (.inl (v2 + 1)), none, none]) (y := 1) (ps_at tX8_layNeeds_ok 13 rfl) rfl (by decide) (by decide) rfl ?_
    refine ps_goto (tgt := 7) (ps_at tX8_layNeeds_ok 14 rfl) (by decide) ?_
    exact h3 c0
theorem bX8_layNeeds_28 {d : Nat} {Q : Option ps_V → ps_S → Prop} {v1 : Int32} {v2 : Int32} {σ : ps_S} (h1 : 81 ≤ v2 → kX8_layNeeds_109 d Q v1 0 σ) (h2 : ¬ 81 ≤ v2 → vp_in (v2 / 9) 9) (h3 : ¬ 81 ≤ v2 → vp_in (v2 - v2 / 9 * 9) 9) (h4 : ¬ 81 ≤ v2 → vp_in ((81 * v1) + v2) 486) (h5 : ¬ 81 ≤ v2 → (σ 58 0 ((81 * v1) + v2).toNatClampNeg) = 0 → kX8_layNeeds_28 d Q v1 (v2 + 1) σ) (h6 : ¬ 81 ≤ v2 → ¬ (σ 58 0 ((81 * v1) + v2).toNatClampNeg) = 0 → (σ 53 0 (v2 / 9).toNatClampNeg) = (-900009) → kX8_layNeeds_28 d Q v1 (v2 + 1) σ) (h7 : ¬ 81 ≤ v2 → ¬ (σ 58 0 ((81 * v1) + v2).toNatClampNeg) = 0 → ¬ (σ 53 0 (v2 / 9).toNatClampNeg) = (-900009) → (σ 53 0 (v2 - v2 / 9 * 9).toNatClampNeg) = (-900009) → kX8_layNeeds_28 d Q v1 (v2 + 1) σ) (h8 : ¬ 81 ≤ v2 → ¬ (σ 58 0 ((81 * v1) + v2).toNatClampNeg) = 0 → ¬ (σ 53 0 (v2 / 9).toNatClampNeg) = (-900009) → ¬ (σ 53 0 (v2 - v2 / 9 * 9).toNatClampNeg) = (-900009) → (σ 53 0 (v2 / 9).toNatClampNeg) = (σ 53 0 (v2 - v2 / 9 * 9).toNatClampNeg) → kX8_layNeeds_28 d Q v1 (v2 + 1) σ) (h9 : ¬ 81 ≤ v2 → ¬ (σ 58 0 ((81 * v1) + v2).toNatClampNeg) = 0 → ¬ (σ 53 0 (v2 / 9).toNatClampNeg) = (-900009) → ¬ (σ 53 0 (v2 - v2 / 9 * 9).toNatClampNeg) = (-900009) → ¬ (σ 53 0 (v2 / 9).toNatClampNeg) = (σ 53 0 (v2 - v2 / 9 * 9).toNatClampNeg) → vp_in (σ 53 0 (v2 - v2 / 9 * 9).toNatClampNeg) 9) (h10 : ¬ 81 ≤ v2 → ¬ (σ 58 0 ((81 * v1) + v2).toNatClampNeg) = 0 → ¬ (σ 53 0 (v2 / 9).toNatClampNeg) = (-900009) → ¬ (σ 53 0 (v2 - v2 / 9 * 9).toNatClampNeg) = (-900009) → ¬ (σ 53 0 (v2 / 9).toNatClampNeg) = (σ 53 0 (v2 - v2 / 9 * 9).toNatClampNeg) → kX8_layNeeds_28 d Q v1 (v2 + 1) (ps_up σ 59 0 (σ 53 0 (v2 - v2 / 9 * 9).toNatClampNeg).toNatClampNeg ((σ 59 0 (σ 53 0 (v2 - v2 / 9 * 9).toNatClampNeg).toNatClampNeg) ||| ((1 : Int32) <<< ((σ 53 0 (v2 / 9).toNatClampNeg) &&& 31))))) : kX8_layNeeds_28 d Q v1 v2 σ := by
  refine ps_iload_n (ps_at tX8_layNeeds_ok 17 rfl) rfl rfl ?_
  refine ps_bipush (x := 81) (ps_at tX8_layNeeds_ok 18 rfl) (by decide) ?_
  refine ps_icmp_ge (tgt := 107) (ps_at tX8_layNeeds_ok 19 rfl) (by decide) (fun c0 => ?_) (fun c0 => ?_)
  · skip
    refine ps_iconst (x := 0) (ps_at tX8_layNeeds_ok 64 rfl) (by decide) ?_
    refine ps_istore_n (L' := [some (.inr (.inr (50, 0))), some (.inl v1), some (.inl 0), none, none]) (ps_at tX8_layNeeds_ok 65 rfl) rfl (by decide) rfl ?_
    exact h1 c0
  · skip
    refine ps_aload_n (ps_at tX8_layNeeds_ok 20 rfl) rfl rfl ?_
    refine ps_getR (ps_at tX8_layNeeds_ok 21 rfl) flX8_13 sh_50 rfl ?_
    refine ps_iload_n (ps_at tX8_layNeeds_ok 22 rfl) rfl rfl ?_
    refine ps_bipush (x := 9) (ps_at tX8_layNeeds_ok 23 rfl) (by decide) ?_
    refine ps_idiv (ps_at tX8_layNeeds_ok 24 rfl) (by decide) ?_
    refine ps_iald (ps_at tX8_layNeeds_ok 25 rfl) sh_53 (h2 c0) ?_
    refine ps_istore_n (L' := [some (.inr (.inr (50, 0))), some (.inl v1), some (.inl v2), some (.inl (σ 53 0 (v2 / 9).toNatClampNeg)), none]) (ps_at tX8_layNeeds_ok 26 rfl) rfl (by decide) rfl ?_
    refine ps_aload_n (ps_at tX8_layNeeds_ok 27 rfl) rfl rfl ?_
    refine ps_getR (ps_at tX8_layNeeds_ok 28 rfl) flX8_13 sh_50 rfl ?_
    refine ps_iload_n (ps_at tX8_layNeeds_ok 29 rfl) rfl rfl ?_
    refine ps_bipush (x := 9) (ps_at tX8_layNeeds_ok 30 rfl) (by decide) ?_
    refine ps_irem (ps_at tX8_layNeeds_ok 31 rfl) (by decide) ?_
    refine ps_iald (ps_at tX8_layNeeds_ok 32 rfl) sh_53 (h3 c0) ?_
    refine ps_istore (L' := [some (.inr (.inr (50, 0))), some (.inl v1), some (.inl v2), some (.inl (σ 53 0 (v2 / 9).toNatClampNeg)), some (.inl (σ 53 0 (v2 - v2 / 9 * 9).toNatClampNeg))]) (ps_at tX8_layNeeds_ok 33 rfl) (by decide) rfl ?_
    refine ps_aload_n (ps_at tX8_layNeeds_ok 34 rfl) rfl rfl ?_
    refine ps_getR (ps_at tX8_layNeeds_ok 35 rfl) flX8_28 sh_50 rfl ?_
    refine ps_bipush (x := 81) (ps_at tX8_layNeeds_ok 36 rfl) (by decide) ?_
    refine ps_iload_n (ps_at tX8_layNeeds_ok 37 rfl) rfl rfl ?_
    refine ps_imul (ps_at tX8_layNeeds_ok 38 rfl) ?_
    refine ps_iload_n (ps_at tX8_layNeeds_ok 39 rfl) rfl rfl ?_
    refine ps_iadd (ps_at tX8_layNeeds_ok 40 rfl) ?_
    refine ps_zald (ps_at tX8_layNeeds_ok 41 rfl) sh_58 (h4 c0) ?_
    refine ps_if_eq (tgt := 101) (ps_at tX8_layNeeds_ok 42 rfl) (by decide) (fun c1 => ?_) (fun c1 => ?_)
    · skip
      refine ps_iinc (L' := [some (.inr (.inr (50, 0))), some (.inl v1), some (.inl (v2 + 1)), some (.inl (σ 53 0 (v2 / 9).toNatClampNeg)), some (.inl (σ 53 0 (v2 - v2 / 9 * 9).toNatClampNeg))]) (y := 1) (ps_at tX8_layNeeds_ok 62 rfl) rfl (by decide) (by decide) rfl ?_
      refine ps_goto (tgt := 28) (ps_at tX8_layNeeds_ok 63 rfl) (by decide) ?_
      refine ps_forget (L' := [some (.inr (.inr (50, 0))), some (.inl v1), some (.inl (v2 + 1)), none, none]) (And.intro rfl (And.intro rfl (And.intro rfl trivial))) ?_
      exact h5 c0 c1
    · skip
      refine ps_iload_n (ps_at tX8_layNeeds_ok 43 rfl) rfl rfl ?_
      refine ps_ldc (ps_at tX8_layNeeds_ok 44 rfl) cnX8_96 ?_
      refine ps_icmp_eq (tgt := 101) (ps_at tX8_layNeeds_ok 45 rfl) (by decide) (fun c2 => ?_) (fun c2 => ?_)
      · skip
        refine ps_iinc (L' := [some (.inr (.inr (50, 0))), some (.inl v1), some (.inl (v2 + 1)), some (.inl (σ 53 0 (v2 / 9).toNatClampNeg)), some (.inl (σ 53 0 (v2 - v2 / 9 * 9).toNatClampNeg))]) (y := 1) (ps_at tX8_layNeeds_ok 62 rfl) rfl (by decide) (by decide) rfl ?_
        refine ps_goto (tgt := 28) (ps_at tX8_layNeeds_ok 63 rfl) (by decide) ?_
        refine ps_forget (L' := [some (.inr (.inr (50, 0))), some (.inl v1), some (.inl (v2 + 1)), none, none]) (And.intro rfl (And.intro rfl (And.intro rfl trivial))) ?_
        exact h6 c0 c1 c2
      · skip
        refine ps_iload (ps_at tX8_layNeeds_ok 46 rfl) rfl ?_
        refine ps_ldc (ps_at tX8_layNeeds_ok 47 rfl) cnX8_96 ?_
        refine ps_icmp_eq (tgt := 101) (ps_at tX8_layNeeds_ok 48 rfl) (by decide) (fun c3 => ?_) (fun c3 => ?_)
        · skip
          refine ps_iinc (L' := [some (.inr (.inr (50, 0))), some (.inl v1), some (.inl (v2 + 1)), some (.inl (σ 53 0 (v2 / 9).toNatClampNeg)), some (.inl (σ 53 0 (v2 - v2 / 9 * 9).toNatClampNeg))]) (y := 1) (ps_at tX8_layNeeds_ok 62 rfl) rfl (by decide) (by decide) rfl ?_
          refine ps_goto (tgt := 28) (ps_at tX8_layNeeds_ok 63 rfl) (by decide) ?_
          refine ps_forget (L' := [some (.inr (.inr (50, 0))), some (.inl v1), some (.inl (v2 + 1)), none, none]) (And.intro rfl (And.intro rfl (And.intro rfl trivial))) ?_
          exact h7 c0 c1 c2 c3
        · skip
          refine ps_iload_n (ps_at tX8_layNeeds_ok 49 rfl) rfl rfl ?_
          refine ps_iload (ps_at tX8_layNeeds_ok 50 rfl) rfl ?_
          refine ps_icmp_eq (tgt := 101) (ps_at tX8_layNeeds_ok 51 rfl) (by decide) (fun c4 => ?_) (fun c4 => ?_)
          · skip
            refine ps_iinc (L' := [some (.inr (.inr (50, 0))), some (.inl v1), some (.inl (v2 + 1)), some (.inl (σ 53 0 (v2 / 9).toNatClampNeg)), some (.inl (σ 53 0 (v2 - v2 / 9 * 9).toNatClampNeg))]) (y := 1) (ps_at tX8_layNeeds_ok 62 rfl) rfl (by decide) (by decide) rfl ?_
            refine ps_goto (tgt := 28) (ps_at tX8_layNeeds_ok 63 rfl) (by decide) ?_
            refine ps_forget (L' := [some (.inr (.inr (50, 0))), some (.inl v1), some (.inl (v2 + 1)), none, none]) (And.intro rfl (And.intro rfl (And.intro rfl trivial))) ?_
            exact h8 c0 c1 c2 c3 c4
          · skip
            refine ps_aload_n (ps_at tX8_layNeeds_ok 52 rfl) rfl rfl ?_
            refine ps_getR (ps_at tX8_layNeeds_ok 53 rfl) flX8_32 sh_50 rfl ?_
            refine ps_iload (ps_at tX8_layNeeds_ok 54 rfl) rfl ?_
            refine ps_dup2 (ps_at tX8_layNeeds_ok 55 rfl) ?_
            refine ps_iald (ps_at tX8_layNeeds_ok 56 rfl) sh_59 (h9 c0 c1 c2 c3 c4) ?_
            refine ps_iconst (x := 1) (ps_at tX8_layNeeds_ok 57 rfl) (by decide) ?_
            refine ps_iload_n (ps_at tX8_layNeeds_ok 58 rfl) rfl rfl ?_
            refine ps_ishl (ps_at tX8_layNeeds_ok 59 rfl) ?_
            refine ps_ior (ps_at tX8_layNeeds_ok 60 rfl) ?_
            refine ps_iast (ps_at tX8_layNeeds_ok 61 rfl) sh_59 (h9 c0 c1 c2 c3 c4) ?_
            refine ps_iinc (L' := [some (.inr (.inr (50, 0))), some (.inl v1), some (.inl (v2 + 1)), some (.inl (σ 53 0 (v2 / 9).toNatClampNeg)), some (.inl (σ 53 0 (v2 - v2 / 9 * 9).toNatClampNeg))]) (y := 1) (ps_at tX8_layNeeds_ok 62 rfl) rfl (by decide) (by decide) rfl ?_
            refine ps_goto (tgt := 28) (ps_at tX8_layNeeds_ok 63 rfl) (by decide) ?_
            refine ps_forget (L' := [some (.inr (.inr (50, 0))), some (.inl v1), some (.inl (v2 + 1)), none, none]) (And.intro rfl (And.intro rfl (And.intro rfl trivial))) ?_
            exact h10 c0 c1 c2 c3 c4
theorem bX8_layNeeds_109 {d : Nat} {Q : Option ps_V → ps_S → Prop} {v1 : Int32} {v2 : Int32} {σ : ps_S} (h1 : 81 ≤ v2 → Q none σ) (h2 : ¬ 81 ≤ v2 → (σ 50 0 1) ≤ (v2 / 9) → vp_in v2 81) (h3 : ¬ 81 ≤ v2 → (σ 50 0 1) ≤ (v2 / 9) → kX8_layNeeds_109 d Q v1 (v2 + 1) (ps_up σ 60 0 v2.toNatClampNeg 0)) (h4 : ¬ 81 ≤ v2 → ¬ (σ 50 0 1) ≤ (v2 / 9) → (σ 50 0 1) ≤ (v2 - v2 / 9 * 9) → vp_in v2 81) (h5 : ¬ 81 ≤ v2 → ¬ (σ 50 0 1) ≤ (v2 / 9) → (σ 50 0 1) ≤ (v2 - v2 / 9 * 9) → kX8_layNeeds_109 d Q v1 (v2 + 1) (ps_up σ 60 0 v2.toNatClampNeg 0)) (h6 : ¬ 81 ≤ v2 → ¬ (σ 50 0 1) ≤ (v2 / 9) → ¬ (σ 50 0 1) ≤ (v2 - v2 / 9 * 9) → vp_in v1 6) (h7 : ¬ 81 ≤ v2 → ¬ (σ 50 0 1) ≤ (v2 / 9) → ¬ (σ 50 0 1) ≤ (v2 - v2 / 9 * 9) → vp_in v2 81) (h8 : ¬ 81 ≤ v2 → ¬ (σ 50 0 1) ≤ (v2 / 9) → ¬ (σ 50 0 1) ≤ (v2 - v2 / 9 * 9) → kX8_layNeeds_109 d Q v1 (v2 + 1) (ps_up σ 60 0 v2.toNatClampNeg (nI (cntN 6 (fun p => ¬ jbUn (mGl σ v1.toNatClampNeg (v2 / 9) p) (mGl σ v1.toNatClampNeg (v2 - v2 / 9 * 9) p) = 0))))) : kX8_layNeeds_109 d Q v1 v2 σ := by
  refine ps_iload_n (ps_at tX8_layNeeds_ok 66 rfl) rfl rfl ?_
  refine ps_bipush (x := 81) (ps_at tX8_layNeeds_ok 67 rfl) (by decide) ?_
  refine ps_icmp_ge (tgt := 166) (ps_at tX8_layNeeds_ok 68 rfl) (by decide) (fun c0 => ?_) (fun c0 => ?_)
  · skip
    exact ps_vret (ps_at tX8_layNeeds_ok 98 rfl) rfl ⟨rfl, rfl⟩ (h1 c0)
  · skip
    refine ps_aload_n (ps_at tX8_layNeeds_ok 69 rfl) rfl rfl ?_
    refine ps_getR (ps_at tX8_layNeeds_ok 70 rfl) flX8_35 sh_50 rfl ?_
    refine ps_iload_n (ps_at tX8_layNeeds_ok 71 rfl) rfl rfl ?_
    refine ps_iload_n (ps_at tX8_layNeeds_ok 72 rfl) rfl rfl ?_
    refine ps_bipush (x := 9) (ps_at tX8_layNeeds_ok 73 rfl) (by decide) ?_
    refine ps_idiv (ps_at tX8_layNeeds_ok 74 rfl) (by decide) ?_
    refine ps_aload_n (ps_at tX8_layNeeds_ok 75 rfl) rfl rfl ?_
    refine ps_getI (ps_at tX8_layNeeds_ok 76 rfl) flX8_131 sh_50 rfl ?_
    refine ps_icmp_ge (tgt := 158) (ps_at tX8_layNeeds_ok 77 rfl) (by decide) (fun c1 => ?_) (fun c1 => ?_)
    · skip
      refine ps_iconst (x := 0) (ps_at tX8_layNeeds_ok 94 rfl) (by decide) ?_
      refine ps_iast (ps_at tX8_layNeeds_ok 95 rfl) sh_60 (h2 c0 c1) ?_
      refine ps_iinc (L' := [some (.inr (.inr (50, 0))), some (.inl v1), some (.inl (v2 + 1)), none, none]) (y := 1) (ps_at tX8_layNeeds_ok 96 rfl) rfl (by decide) (by decide) rfl ?_
      refine ps_goto (tgt := 109) (ps_at tX8_layNeeds_ok 97 rfl) (by decide) ?_
      exact h3 c0 c1
    · skip
      refine ps_iload_n (ps_at tX8_layNeeds_ok 78 rfl) rfl rfl ?_
      refine ps_bipush (x := 9) (ps_at tX8_layNeeds_ok 79 rfl) (by decide) ?_
      refine ps_irem (ps_at tX8_layNeeds_ok 80 rfl) (by decide) ?_
      refine ps_aload_n (ps_at tX8_layNeeds_ok 81 rfl) rfl rfl ?_
      refine ps_getI (ps_at tX8_layNeeds_ok 82 rfl) flX8_131 sh_50 rfl ?_
      refine ps_icmp_ge (tgt := 158) (ps_at tX8_layNeeds_ok 83 rfl) (by decide) (fun c2 => ?_) (fun c2 => ?_)
      · skip
        refine ps_iconst (x := 0) (ps_at tX8_layNeeds_ok 94 rfl) (by decide) ?_
        refine ps_iast (ps_at tX8_layNeeds_ok 95 rfl) sh_60 (h4 c0 c1 c2) ?_
        refine ps_iinc (L' := [some (.inr (.inr (50, 0))), some (.inl v1), some (.inl (v2 + 1)), none, none]) (y := 1) (ps_at tX8_layNeeds_ok 96 rfl) rfl (by decide) (by decide) rfl ?_
        refine ps_goto (tgt := 109) (ps_at tX8_layNeeds_ok 97 rfl) (by decide) ?_
        exact h5 c0 c1 c2
      · skip
        refine ps_aload_n (ps_at tX8_layNeeds_ok 84 rfl) rfl rfl ?_
        refine ps_iload_n (ps_at tX8_layNeeds_ok 85 rfl) rfl rfl ?_
        refine ps_iload_n (ps_at tX8_layNeeds_ok 86 rfl) rfl rfl ?_
        refine ps_bipush (x := 9) (ps_at tX8_layNeeds_ok 87 rfl) (by decide) ?_
        refine ps_idiv (ps_at tX8_layNeeds_ok 88 rfl) (by decide) ?_
        refine ps_iload_n (ps_at tX8_layNeeds_ok 89 rfl) rfl rfl ?_
        refine ps_bipush (x := 9) (ps_at tX8_layNeeds_ok 90 rfl) (by decide) ?_
        refine ps_irem (ps_at tX8_layNeeds_ok 91 rfl) (by decide) ?_
        refine ps_callV (M2 := mX8_changesOf) (av := [.inl v1, .inl (v2 / 9), .inl (v2 - v2 / 9 * 9)]) (rest := [.inl v2, .inr (.inr (60, 0))]) (ps_at tX8_layNeeds_ok 92 rfl) cvX8_149 sh_50 rfl rfl (fun _ => Nat.le_of_ble_eq_true rfl) (pX8_changesOf (h6 c0 c1 c2) ?_)
        refine ps_goto (tgt := 159) (ps_at tX8_layNeeds_ok 93 rfl) (by decide) ?_
        refine ps_iast (ps_at tX8_layNeeds_ok 95 rfl) sh_60 (h7 c0 c1 c2) ?_
        refine ps_iinc (L' := [some (.inr (.inr (50, 0))), some (.inl v1), some (.inl (v2 + 1)), none, none]) (y := 1) (ps_at tX8_layNeeds_ok 96 rfl) rfl (by decide) (by decide) rfl ?_
        refine ps_goto (tgt := 109) (ps_at tX8_layNeeds_ok 97 rfl) (by decide) ?_
        exact h8 c0 c1 c2
theorem eX8_layNeeds {d : Nat} {Q : Option ps_V → ps_S → Prop} {v1 : Int32} {σ : ps_S} (h : kX8_layNeeds_0 d Q v1 σ) : ps_C mX8_layNeeds (d + 3) [.inr (.inr (50, 0)), .inl v1] σ Q := ps_enter (by decide) rfl ⟨rfl, rfl, rfl⟩ rfl (Nat.le_of_ble_eq_true rfl) h
abbrev kX8_layOrders_0 (d : Nat) (Q : Option ps_V → ps_S → Prop)  (σ : ps_S) : Prop := ps_K mX8_layOrders d (ps_QF Q) 0 [some (.inr (.inr (50, 0))), none, none, none, none, none, none, none, none] [] σ
abbrev kX8_layOrders_11 (d : Nat) (Q : Option ps_V → ps_S → Prop) (v1 : Int32) (v2 : Int32) (σ : ps_S) : Prop := ps_K mX8_layOrders d (ps_QF Q) 11 [some (.inr (.inr (50, 0))), some (.inl v1), some (.inl v2), none, none, none, none, none, none] [] σ
abbrev kX8_layOrders_17 (d : Nat) (Q : Option ps_V → ps_S → Prop) (v1 : Int32) (v2 : Int32) (v3 : Int32) (σ : ps_S) : Prop := ps_K mX8_layOrders d (ps_QF Q) 17 [some (.inr (.inr (50, 0))), some (.inl v1), some (.inl v2), some (.inl v3), none, none, none, none, none] [] σ
abbrev kX8_layOrders_36 (d : Nat) (Q : Option ps_V → ps_S → Prop) (v1 : Int32) (v2 : Int32) (v3 : Int32) (s0 : Int32) (σ : ps_S) : Prop := ps_K mX8_layOrders d (ps_QF Q) 36 [some (.inr (.inr (50, 0))), some (.inl v1), some (.inl v2), some (.inl v3), none, none, none, none, none] [.inl s0] σ
abbrev kX8_layOrders_53 (d : Nat) (Q : Option ps_V → ps_S → Prop) (v1 : Int32) (v2 : Int32) (v3 : Int32) (v4 : Int32) (v5 : Int32) (v6 : Int32) (σ : ps_S) : Prop := ps_K mX8_layOrders d (ps_QF Q) 53 [some (.inr (.inr (50, 0))), some (.inl v1), some (.inl v2), some (.inl v3), some (.inl v4), some (.inl v5), some (.inl v6), none, none] [] σ
abbrev kX8_layOrders_229 (d : Nat) (Q : Option ps_V → ps_S → Prop) (v1 : Int32) (v2 : Int32) (v3 : Int32) (v4 : Int32) (v5 : Int32) (σ : ps_S) : Prop := ps_K mX8_layOrders d (ps_QF Q) 229 [some (.inr (.inr (50, 0))), some (.inl v1), some (.inl v2), some (.inl v3), some (.inl v4), some (.inl v5), none, none, none] [] σ
abbrev kX8_layOrders_94 (d : Nat) (Q : Option ps_V → ps_S → Prop) (v1 : Int32) (v2 : Int32) (v3 : Int32) (v4 : Int32) (v5 : Int32) (v6 : Int32) (σ : ps_S) : Prop := ps_K mX8_layOrders d (ps_QF Q) 94 [some (.inr (.inr (50, 0))), some (.inl v1), some (.inl v2), some (.inl v3), some (.inl v4), some (.inl v5), some (.inl v6), none, none] [] σ
abbrev kX8_layOrders_95 (d : Nat) (Q : Option ps_V → ps_S → Prop) (v1 : Int32) (v2 : Int32) (v3 : Int32) (v4 : Int32) (v5 : Int32) (v6 : Int32) (s0 : Int32) (σ : ps_S) : Prop := ps_K mX8_layOrders d (ps_QF Q) 95 [some (.inr (.inr (50, 0))), some (.inl v1), some (.inl v2), some (.inl v3), some (.inl v4), some (.inl v5), some (.inl v6), none, none] [.inl s0] σ
abbrev kX8_layOrders_253 (d : Nat) (Q : Option ps_V → ps_S → Prop) (v1 : Int32) (v2 : Int32) (v3 : Int32) (v4 : Int32) (v5 : Int32) (s0 : Int32) (s1 : Int32) (σ : ps_S) : Prop := ps_K mX8_layOrders d (ps_QF Q) 253 [some (.inr (.inr (50, 0))), some (.inl v1), some (.inl v2), some (.inl v3), some (.inl v4), some (.inl v5), none, none, none] [.inl s0, .inl s1, .inr (.inr (61, 0))] σ
abbrev kX8_layOrders_137 (d : Nat) (Q : Option ps_V → ps_S → Prop) (v1 : Int32) (v2 : Int32) (v3 : Int32) (v4 : Int32) (v5 : Int32) (v6 : Int32) (s0 : Int32) (σ : ps_S) : Prop := ps_K mX8_layOrders d (ps_QF Q) 137 [some (.inr (.inr (50, 0))), some (.inl v1), some (.inl v2), some (.inl v3), some (.inl v4), some (.inl v5), some (.inl v6), none, none] [.inl s0] σ
abbrev kX8_layOrders_203 (d : Nat) (Q : Option ps_V → ps_S → Prop) (v1 : Int32) (v2 : Int32) (v3 : Int32) (v4 : Int32) (v5 : Int32) (v6 : Int32) (v8 : Int32) (σ : ps_S) : Prop := ps_K mX8_layOrders d (ps_QF Q) 203 [some (.inr (.inr (50, 0))), some (.inl v1), some (.inl v2), some (.inl v3), some (.inl v4), some (.inl v5), some (.inl v6), none, some (.inl v8)] [] σ
abbrev kX8_layOrders_205 (d : Nat) (Q : Option ps_V → ps_S → Prop) (v1 : Int32) (v2 : Int32) (v3 : Int32) (v4 : Int32) (v6 : Int32) (v8 : Int32) (s0 : Int32) (σ : ps_S) : Prop := ps_K mX8_layOrders d (ps_QF Q) 205 [some (.inr (.inr (50, 0))), some (.inl v1), some (.inl v2), some (.inl v3), some (.inl v4), none, some (.inl v6), none, some (.inl v8)] [.inl s0] σ
theorem bX8_layOrders_0 {d : Nat} {Q : Option ps_V → ps_S → Prop}  {σ : ps_S} (h1 : kX8_layOrders_11 d Q (((1 : Int32) <<< ((σ 50 0 1) &&& 31)) - 1) (((1 : Int32) <<< ((σ 50 0 1) &&& 31)) - 1) σ) : kX8_layOrders_0 d Q σ := by
  refine ps_iconst (x := 1) (ps_at tX8_layOrders_ok 0 rfl) (by decide) ?_
  refine ps_aload_n (ps_at tX8_layOrders_ok 1 rfl) rfl rfl ?_
  refine ps_getI (ps_at tX8_layOrders_ok 2 rfl) flX8_131 sh_50 rfl ?_
  refine ps_ishl (ps_at tX8_layOrders_ok 3 rfl) ?_
  refine ps_iconst (x := 1) (ps_at tX8_layOrders_ok 4 rfl) (by decide) ?_
  refine ps_isub (ps_at tX8_layOrders_ok 5 rfl) ?_
  refine ps_istore_n (L' := [some (.inr (.inr (50, 0))), some (.inl (((1 : Int32) <<< ((σ 50 0 1) &&& 31)) - 1)), none, none, none, none, none, none, none]) (ps_at tX8_layOrders_ok 6 rfl) rfl (by decide) rfl ?_
  refine ps_iload_n (ps_at tX8_layOrders_ok 7 rfl) rfl rfl ?_
  refine ps_istore_n (L' := [some (.inr (.inr (50, 0))), some (.inl (((1 : Int32) <<< ((σ 50 0 1) &&& 31)) - 1)), some (.inl (((1 : Int32) <<< ((σ 50 0 1) &&& 31)) - 1)), none, none, none, none, none, none]) (ps_at tX8_layOrders_ok 8 rfl) rfl (by decide) rfl ?_
  exact h1
theorem bX8_layOrders_11 {d : Nat} {Q : Option ps_V → ps_S → Prop} {v1 : Int32} {v2 : Int32} {σ : ps_S} (h1 : v2 ≤ 0 → Q none σ) (h2 : ¬ v2 ≤ 0 → kX8_layOrders_17 d Q v1 v2 0 σ) : kX8_layOrders_11 d Q v1 v2 σ := by
  refine ps_iload_n (ps_at tX8_layOrders_ok 9 rfl) rfl rfl ?_
  refine ps_if_le (tgt := 290) (ps_at tX8_layOrders_ok 10 rfl) (by decide) (fun c0 => ?_) (fun c0 => ?_)
  · skip
    exact ps_vret (ps_at tX8_layOrders_ok 165 rfl) rfl ⟨rfl, rfl⟩ (h1 c0)
  · skip
    refine ps_iconst (x := 0) (ps_at tX8_layOrders_ok 11 rfl) (by decide) ?_
    refine ps_istore_n (L' := [some (.inr (.inr (50, 0))), some (.inl v1), some (.inl v2), some (.inl 0), none, none, none, none, none]) (ps_at tX8_layOrders_ok 12 rfl) rfl (by decide) rfl ?_
    exact h2 c0
theorem bX8_layOrders_17 {d : Nat} {Q : Option ps_V → ps_S → Prop} {v1 : Int32} {v2 : Int32} {v3 : Int32} {σ : ps_S} (h1 : (σ 50 0 1) ≤ v3 → kX8_layOrders_11 d Q v1 (v2 + (-1)) σ) (h2 : ¬ (σ 50 0 1) ≤ v3 → ¬ v2 = v1 → kX8_layOrders_36 d Q v1 v2 v3 100000000 σ) (h3 : ¬ (σ 50 0 1) ≤ v3 → v2 = v1 → kX8_layOrders_36 d Q v1 v2 v3 0 σ) : kX8_layOrders_17 d Q v1 v2 v3 σ := by
  refine ps_iload_n (ps_at tX8_layOrders_ok 13 rfl) rfl rfl ?_
  refine ps_aload_n (ps_at tX8_layOrders_ok 14 rfl) rfl rfl ?_
  refine ps_getI (ps_at tX8_layOrders_ok 15 rfl) flX8_131 sh_50 rfl ?_
  refine ps_icmp_ge (tgt := 284) (ps_at tX8_layOrders_ok 16 rfl) (by decide) (fun c0 => ?_) (fun c0 => ?_)
  · skip
    refine ps_iinc (L' := [some (.inr (.inr (50, 0))), some (.inl v1), some (.inl (v2 + (-1))), some (.inl v3), none, none, none, none, none]) (y := (-1)) (ps_at tX8_layOrders_ok 163 rfl) rfl (by decide) (by decide) rfl ?_
    refine ps_goto (tgt := 11) (ps_at tX8_layOrders_ok 164 rfl) (by decide) ?_
    refine ps_forget (L' := [some (.inr (.inr (50, 0))), some (.inl v1), some (.inl (v2 + (-1))), none, none, none, none, none, none]) (And.intro rfl (And.intro rfl (And.intro rfl trivial))) ?_
    exact h1 c0
  · skip
    refine ps_iload_n (ps_at tX8_layOrders_ok 17 rfl) rfl rfl ?_
    refine ps_iload_n (ps_at tX8_layOrders_ok 18 rfl) rfl rfl ?_
    refine ps_icmp_ne (tgt := 34) (ps_at tX8_layOrders_ok 19 rfl) (by decide) (fun c1 => ?_) (fun c1 => ?_)
    · skip
      refine ps_ldc (ps_at tX8_layOrders_ok 22 rfl) cnX8_152 ?_
      exact h2 c0 c1
    · skip
      refine ps_iconst (x := 0) (ps_at tX8_layOrders_ok 20 rfl) (by decide) ?_
      refine ps_goto (tgt := 36) (ps_at tX8_layOrders_ok 21 rfl) (by decide) ?_
      exact h3 c0 c1
theorem bX8_layOrders_36 {d : Nat} {Q : Option ps_V → ps_S → Prop} {v1 : Int32} {v2 : Int32} {v3 : Int32} {s0 : Int32} {σ : ps_S} (h1 : ¬ v2 = v1 → kX8_layOrders_53 d Q v1 v2 v3 s0 0 0 σ) (h2 : v2 = v1 → kX8_layOrders_53 d Q v1 v2 v3 s0 1 0 σ) : kX8_layOrders_36 d Q v1 v2 v3 s0 σ := by
  refine ps_istore (L' := [some (.inr (.inr (50, 0))), some (.inl v1), some (.inl v2), some (.inl v3), some (.inl s0), none, none, none, none]) (ps_at tX8_layOrders_ok 23 rfl) (by decide) rfl ?_
  refine ps_iload_n (ps_at tX8_layOrders_ok 24 rfl) rfl rfl ?_
  refine ps_iload_n (ps_at tX8_layOrders_ok 25 rfl) rfl rfl ?_
  refine ps_icmp_ne (tgt := 47) (ps_at tX8_layOrders_ok 26 rfl) (by decide) (fun c0 => ?_) (fun c0 => ?_)
  · skip
    refine ps_iconst (x := 0) (ps_at tX8_layOrders_ok 29 rfl) (by decide) ?_
    refine ps_istore (L' := [some (.inr (.inr (50, 0))), some (.inl v1), some (.inl v2), some (.inl v3), some (.inl s0), some (.inl 0), none, none, none]) (ps_at tX8_layOrders_ok 30 rfl) (by decide) rfl ?_
    refine ps_iconst (x := 0) (ps_at tX8_layOrders_ok 31 rfl) (by decide) ?_
    refine ps_istore (L' := [some (.inr (.inr (50, 0))), some (.inl v1), some (.inl v2), some (.inl v3), some (.inl s0), some (.inl 0), some (.inl 0), none, none]) (ps_at tX8_layOrders_ok 32 rfl) (by decide) rfl ?_
    exact h1 c0
  · skip
    refine ps_iconst (x := 1) (ps_at tX8_layOrders_ok 27 rfl) (by decide) ?_
    refine ps_goto (tgt := 48) (ps_at tX8_layOrders_ok 28 rfl) (by decide) ?_
    refine ps_istore (L' := [some (.inr (.inr (50, 0))), some (.inl v1), some (.inl v2), some (.inl v3), some (.inl s0), some (.inl 1), none, none, none]) (ps_at tX8_layOrders_ok 30 rfl) (by decide) rfl ?_
    refine ps_iconst (x := 0) (ps_at tX8_layOrders_ok 31 rfl) (by decide) ?_
    refine ps_istore (L' := [some (.inr (.inr (50, 0))), some (.inl v1), some (.inl v2), some (.inl v3), some (.inl s0), some (.inl 1), some (.inl 0), none, none]) (ps_at tX8_layOrders_ok 32 rfl) (by decide) rfl ?_
    exact h2 c0
theorem bX8_layOrders_53 {d : Nat} {Q : Option ps_V → ps_S → Prop} {v1 : Int32} {v2 : Int32} {v3 : Int32} {v4 : Int32} {v5 : Int32} {v6 : Int32} {σ : ps_S} (h1 : (σ 50 0 1) ≤ v6 → kX8_layOrders_229 d Q v1 v2 v3 v4 v5 σ) (h2 : ¬ (σ 50 0 1) ≤ v6 → v2 = v1 → kX8_layOrders_229 d Q v1 v2 v3 v4 v5 σ) (h3 : ¬ (σ 50 0 1) ≤ v6 → ¬ v2 = v1 → ¬ ((v2 >>> (v6 &&& 31)) &&& 1) = 0 → kX8_layOrders_94 d Q v1 v2 v3 v4 v5 v6 σ) (h4 : ¬ (σ 50 0 1) ≤ v6 → ¬ v2 = v1 → ((v2 >>> (v6 &&& 31)) &&& 1) = 0 → vp_in v6 9) (h5 : ¬ (σ 50 0 1) ≤ v6 → ¬ v2 = v1 → ((v2 >>> (v6 &&& 31)) &&& 1) = 0 → ¬ ((σ 59 0 v6.toNatClampNeg) &&& (v2 ^^^ (-1))) = 0 → kX8_layOrders_94 d Q v1 v2 v3 v4 v5 v6 σ) (h6 : ¬ (σ 50 0 1) ≤ v6 → ¬ v2 = v1 → ((v2 >>> (v6 &&& 31)) &&& 1) = 0 → ((σ 59 0 v6.toNatClampNeg) &&& (v2 ^^^ (-1))) = 0 → kX8_layOrders_95 d Q v1 v2 v3 v4 v5 v6 1 σ) : kX8_layOrders_53 d Q v1 v2 v3 v4 v5 v6 σ := by
  refine ps_iload (ps_at tX8_layOrders_ok 33 rfl) rfl ?_
  refine ps_aload_n (ps_at tX8_layOrders_ok 34 rfl) rfl rfl ?_
  refine ps_getI (ps_at tX8_layOrders_ok 35 rfl) flX8_131 sh_50 rfl ?_
  refine ps_icmp_ge (tgt := 229) (ps_at tX8_layOrders_ok 36 rfl) (by decide) (fun c0 => ?_) (fun c0 => ?_)
  · skip
    refine ps_forget (L' := [some (.inr (.inr (50, 0))), some (.inl v1), some (.inl v2), some (.inl v3), some (.inl v4), some (.inl v5), none, none, none]) (And.intro rfl (And.intro rfl (And.intro rfl (And.intro rfl (And.intro rfl (And.intro rfl trivial)))))) ?_
    exact h1 c0
  · skip
    refine ps_iload_n (ps_at tX8_layOrders_ok 37 rfl) rfl rfl ?_
    refine ps_iload_n (ps_at tX8_layOrders_ok 38 rfl) rfl rfl ?_
    refine ps_icmp_eq (tgt := 229) (ps_at tX8_layOrders_ok 39 rfl) (by decide) (fun c1 => ?_) (fun c1 => ?_)
    · skip
      refine ps_forget (L' := [some (.inr (.inr (50, 0))), some (.inl v1), some (.inl v2), some (.inl v3), some (.inl v4), some (.inl v5), none, none, none]) (And.intro rfl (And.intro rfl (And.intro rfl (And.intro rfl (And.intro rfl (And.intro rfl trivial)))))) ?_
      exact h2 c0 c1
    · skip
      refine ps_iload_n (ps_at tX8_layOrders_ok 40 rfl) rfl rfl ?_
      refine ps_iload (ps_at tX8_layOrders_ok 41 rfl) rfl ?_
      refine ps_ishr (ps_at tX8_layOrders_ok 42 rfl) ?_
      refine ps_iconst (x := 1) (ps_at tX8_layOrders_ok 43 rfl) (by decide) ?_
      refine ps_iand (ps_at tX8_layOrders_ok 44 rfl) ?_
      refine ps_if_ne (tgt := 94) (ps_at tX8_layOrders_ok 45 rfl) (by decide) (fun c2 => ?_) (fun c2 => ?_)
      · skip
        exact h3 c0 c1 c2
      · skip
        refine ps_aload_n (ps_at tX8_layOrders_ok 46 rfl) rfl rfl ?_
        refine ps_getR (ps_at tX8_layOrders_ok 47 rfl) flX8_32 sh_50 rfl ?_
        refine ps_iload (ps_at tX8_layOrders_ok 48 rfl) rfl ?_
        refine ps_iald (ps_at tX8_layOrders_ok 49 rfl) sh_59 (h4 c0 c1 c2) ?_
        refine ps_iload_n (ps_at tX8_layOrders_ok 50 rfl) rfl rfl ?_
        refine ps_iconst (x := (-1)) (ps_at tX8_layOrders_ok 51 rfl) (by decide) ?_
        refine ps_ixor (ps_at tX8_layOrders_ok 52 rfl) ?_
        refine ps_iand (ps_at tX8_layOrders_ok 53 rfl) ?_
        refine ps_if_ne (tgt := 94) (ps_at tX8_layOrders_ok 54 rfl) (by decide) (fun c3 => ?_) (fun c3 => ?_)
        · skip
          exact h5 c0 c1 c2 c3
        · skip
          refine ps_iconst (x := 1) (ps_at tX8_layOrders_ok 55 rfl) (by decide) ?_
          refine ps_goto (tgt := 95) (ps_at tX8_layOrders_ok 56 rfl) (by decide) ?_
          exact h6 c0 c1 c2 c3
theorem bX8_layOrders_229 {d : Nat} {Q : Option ps_V → ps_S → Prop} {v1 : Int32} {v2 : Int32} {v3 : Int32} {v4 : Int32} {v5 : Int32} {σ : ps_S} (h1 : 100000000 ≤ v4 → kX8_layOrders_253 d Q v1 v2 v3 v4 v5 100000000 ((9 * v2) + v3) σ) (h2 : ¬ 100000000 ≤ v4 → kX8_layOrders_253 d Q v1 v2 v3 v4 v5 v4 ((9 * v2) + v3) σ) : kX8_layOrders_229 d Q v1 v2 v3 v4 v5 σ := by
  refine ps_aload_n (ps_at tX8_layOrders_ok 133 rfl) rfl rfl ?_
  refine ps_getR (ps_at tX8_layOrders_ok 134 rfl) flX8_38 sh_50 rfl ?_
  refine ps_bipush (x := 9) (ps_at tX8_layOrders_ok 135 rfl) (by decide) ?_
  refine ps_iload_n (ps_at tX8_layOrders_ok 136 rfl) rfl rfl ?_
  refine ps_imul (ps_at tX8_layOrders_ok 137 rfl) ?_
  refine ps_iload_n (ps_at tX8_layOrders_ok 138 rfl) rfl rfl ?_
  refine ps_iadd (ps_at tX8_layOrders_ok 139 rfl) ?_
  refine ps_iload (ps_at tX8_layOrders_ok 140 rfl) rfl ?_
  refine ps_ldc (ps_at tX8_layOrders_ok 141 rfl) cnX8_152 ?_
  refine ps_icmp_ge (tgt := 251) (ps_at tX8_layOrders_ok 142 rfl) (by decide) (fun c0 => ?_) (fun c0 => ?_)
  · skip
    refine ps_ldc (ps_at tX8_layOrders_ok 145 rfl) cnX8_152 ?_
    exact h1 c0
  · skip
    refine ps_iload (ps_at tX8_layOrders_ok 143 rfl) rfl ?_
    refine ps_goto (tgt := 253) (ps_at tX8_layOrders_ok 144 rfl) (by decide) ?_
    exact h2 c0
theorem bX8_layOrders_94 {d : Nat} {Q : Option ps_V → ps_S → Prop} {v1 : Int32} {v2 : Int32} {v3 : Int32} {v4 : Int32} {v5 : Int32} {v6 : Int32} {σ : ps_S} (h1 : kX8_layOrders_95 d Q v1 v2 v3 v4 v5 v6 0 σ) : kX8_layOrders_94 d Q v1 v2 v3 v4 v5 v6 σ := by
  refine ps_iconst (x := 0) (ps_at tX8_layOrders_ok 57 rfl) (by decide) ?_
  exact h1
theorem bX8_layOrders_95 {d : Nat} {Q : Option ps_V → ps_S → Prop} {v1 : Int32} {v2 : Int32} {v3 : Int32} {v4 : Int32} {v5 : Int32} {v6 : Int32} {s0 : Int32} {σ : ps_S} (h1 : s0 = 0 → kX8_layOrders_137 d Q v1 v2 v3 v4 v5 v6 100000000 σ) (h2 : ¬ s0 = 0 → vp_in ((9 * v3) + v6) 81) (h3 : ¬ s0 = 0 → vp_in ((9 * (v2 ||| ((1 : Int32) <<< (v6 &&& 31)))) + v6) 4608) (h4 : ¬ s0 = 0 → kX8_layOrders_137 d Q v1 v2 v3 v4 v5 v6 ((σ 60 0 ((9 * v3) + v6).toNatClampNeg) + (σ 61 0 ((9 * (v2 ||| ((1 : Int32) <<< (v6 &&& 31)))) + v6).toNatClampNeg)) σ) : kX8_layOrders_95 d Q v1 v2 v3 v4 v5 v6 s0 σ := by
  refine ps_istore (L' := [some (.inr (.inr (50, 0))), some (.inl v1), some (.inl v2), some (.inl v3), some (.inl v4), some (.inl v5), some (.inl v6), some (.inl s0), none]) (ps_at tX8_layOrders_ok 58 rfl) (by decide) rfl ?_
  refine ps_iload (ps_at tX8_layOrders_ok 59 rfl) rfl ?_
  refine ps_if_eq (tgt := 135) (ps_at tX8_layOrders_ok 60 rfl) (by decide) (fun c0 => ?_) (fun c0 => ?_)
  · skip
    refine ps_ldc (ps_at tX8_layOrders_ok 83 rfl) cnX8_152 ?_
    refine ps_forget (L' := [some (.inr (.inr (50, 0))), some (.inl v1), some (.inl v2), some (.inl v3), some (.inl v4), some (.inl v5), some (.inl v6), none, none]) (And.intro rfl (And.intro rfl (And.intro rfl (And.intro rfl (And.intro rfl (And.intro rfl (And.intro rfl trivial))))))) ?_
    exact h1 c0
  · skip
    refine ps_aload_n (ps_at tX8_layOrders_ok 61 rfl) rfl rfl ?_
    refine ps_getR (ps_at tX8_layOrders_ok 62 rfl) flX8_35 sh_50 rfl ?_
    refine ps_bipush (x := 9) (ps_at tX8_layOrders_ok 63 rfl) (by decide) ?_
    refine ps_iload_n (ps_at tX8_layOrders_ok 64 rfl) rfl rfl ?_
    refine ps_imul (ps_at tX8_layOrders_ok 65 rfl) ?_
    refine ps_iload (ps_at tX8_layOrders_ok 66 rfl) rfl ?_
    refine ps_iadd (ps_at tX8_layOrders_ok 67 rfl) ?_
    refine ps_iald (ps_at tX8_layOrders_ok 68 rfl) sh_60 (h2 c0) ?_
    refine ps_aload_n (ps_at tX8_layOrders_ok 69 rfl) rfl rfl ?_
    refine ps_getR (ps_at tX8_layOrders_ok 70 rfl) flX8_38 sh_50 rfl ?_
    refine ps_bipush (x := 9) (ps_at tX8_layOrders_ok 71 rfl) (by decide) ?_
    refine ps_iload_n (ps_at tX8_layOrders_ok 72 rfl) rfl rfl ?_
    refine ps_iconst (x := 1) (ps_at tX8_layOrders_ok 73 rfl) (by decide) ?_
    refine ps_iload (ps_at tX8_layOrders_ok 74 rfl) rfl ?_
    refine ps_ishl (ps_at tX8_layOrders_ok 75 rfl) ?_
    refine ps_ior (ps_at tX8_layOrders_ok 76 rfl) ?_
    refine ps_imul (ps_at tX8_layOrders_ok 77 rfl) ?_
    refine ps_iload (ps_at tX8_layOrders_ok 78 rfl) rfl ?_
    refine ps_iadd (ps_at tX8_layOrders_ok 79 rfl) ?_
    refine ps_iald (ps_at tX8_layOrders_ok 80 rfl) sh_61 (h3 c0) ?_
    refine ps_iadd (ps_at tX8_layOrders_ok 81 rfl) ?_
    refine ps_goto (tgt := 137) (ps_at tX8_layOrders_ok 82 rfl) (by decide) ?_
    refine ps_forget (L' := [some (.inr (.inr (50, 0))), some (.inl v1), some (.inl v2), some (.inl v3), some (.inl v4), some (.inl v5), some (.inl v6), none, none]) (And.intro rfl (And.intro rfl (And.intro rfl (And.intro rfl (And.intro rfl (And.intro rfl (And.intro rfl trivial))))))) ?_
    exact h4 c0
theorem bX8_layOrders_253 {d : Nat} {Q : Option ps_V → ps_S → Prop} {v1 : Int32} {v2 : Int32} {v3 : Int32} {v4 : Int32} {v5 : Int32} {s0 : Int32} {s1 : Int32} {σ : ps_S} (h1 : vp_in s1 4608) (h2 : 100000000 ≤ v4 → vp_in ((9 * v2) + v3) 4608) (h3 : 100000000 ≤ v4 → kX8_layOrders_17 d Q v1 v2 (v3 + 1) (ps_up (ps_up σ 61 0 s1.toNatClampNeg s0) 62 0 ((9 * v2) + v3).toNatClampNeg 0)) (h4 : ¬ 100000000 ≤ v4 → vp_in ((9 * v2) + v3) 4608) (h5 : ¬ 100000000 ≤ v4 → kX8_layOrders_17 d Q v1 v2 (v3 + 1) (ps_up (ps_up σ 61 0 s1.toNatClampNeg s0) 62 0 ((9 * v2) + v3).toNatClampNeg v5)) : kX8_layOrders_253 d Q v1 v2 v3 v4 v5 s0 s1 σ := by
  refine ps_iast (ps_at tX8_layOrders_ok 146 rfl) sh_61 (h1) ?_
  refine ps_aload_n (ps_at tX8_layOrders_ok 147 rfl) rfl rfl ?_
  refine ps_getR (ps_at tX8_layOrders_ok 148 rfl) flX8_41 sh_50 rfl ?_
  refine ps_bipush (x := 9) (ps_at tX8_layOrders_ok 149 rfl) (by decide) ?_
  refine ps_iload_n (ps_at tX8_layOrders_ok 150 rfl) rfl rfl ?_
  refine ps_imul (ps_at tX8_layOrders_ok 151 rfl) ?_
  refine ps_iload_n (ps_at tX8_layOrders_ok 152 rfl) rfl rfl ?_
  refine ps_iadd (ps_at tX8_layOrders_ok 153 rfl) ?_
  refine ps_iload (ps_at tX8_layOrders_ok 154 rfl) rfl ?_
  refine ps_ldc (ps_at tX8_layOrders_ok 155 rfl) cnX8_152 ?_
  refine ps_icmp_ge (tgt := 276) (ps_at tX8_layOrders_ok 156 rfl) (by decide) (fun c0 => ?_) (fun c0 => ?_)
  · skip
    refine ps_iconst (x := 0) (ps_at tX8_layOrders_ok 159 rfl) (by decide) ?_
    refine ps_iast (ps_at tX8_layOrders_ok 160 rfl) sh_62 (h2 c0) ?_
    refine ps_iinc (L' := [some (.inr (.inr (50, 0))), some (.inl v1), some (.inl v2), some (.inl (v3 + 1)), some (.inl v4), some (.inl v5), none, none, none]) (y := 1) (ps_at tX8_layOrders_ok 161 rfl) rfl (by decide) (by decide) rfl ?_
    refine ps_goto (tgt := 17) (ps_at tX8_layOrders_ok 162 rfl) (by decide) ?_
    refine ps_forget (L' := [some (.inr (.inr (50, 0))), some (.inl v1), some (.inl v2), some (.inl (v3 + 1)), none, none, none, none, none]) (And.intro rfl (And.intro rfl (And.intro rfl (And.intro rfl trivial)))) ?_
    exact h3 c0
  · skip
    refine ps_iload (ps_at tX8_layOrders_ok 157 rfl) rfl ?_
    refine ps_goto (tgt := 277) (ps_at tX8_layOrders_ok 158 rfl) (by decide) ?_
    refine ps_iast (ps_at tX8_layOrders_ok 160 rfl) sh_62 (h4 c0) ?_
    refine ps_iinc (L' := [some (.inr (.inr (50, 0))), some (.inl v1), some (.inl v2), some (.inl (v3 + 1)), some (.inl v4), some (.inl v5), none, none, none]) (y := 1) (ps_at tX8_layOrders_ok 161 rfl) rfl (by decide) (by decide) rfl ?_
    refine ps_goto (tgt := 17) (ps_at tX8_layOrders_ok 162 rfl) (by decide) ?_
    refine ps_forget (L' := [some (.inr (.inr (50, 0))), some (.inl v1), some (.inl v2), some (.inl (v3 + 1)), none, none, none, none, none]) (And.intro rfl (And.intro rfl (And.intro rfl (And.intro rfl trivial)))) ?_
    exact h5 c0
theorem bX8_layOrders_137 {d : Nat} {Q : Option ps_V → ps_S → Prop} {v1 : Int32} {v2 : Int32} {v3 : Int32} {v4 : Int32} {v5 : Int32} {v6 : Int32} {s0 : Int32} {σ : ps_S} (h1 : v4 ≤ s0 → ¬ s0 = v4 → kX8_layOrders_203 d Q v1 v2 v3 v4 v5 v6 s0 σ) (h2 : v4 ≤ s0 → s0 = v4 → 100000000 ≤ s0 → kX8_layOrders_203 d Q v1 v2 v3 v4 v5 v6 s0 σ) (h3 : v4 ≤ s0 → s0 = v4 → ¬ 100000000 ≤ s0 → vp_in ((9 * (v2 ||| ((1 : Int32) <<< (v6 &&& 31)))) + v6) 4608) (h4 : v4 ≤ s0 → s0 = v4 → ¬ 100000000 ≤ s0 → kX8_layOrders_205 d Q v1 v2 v3 v4 v6 s0 (v5 + (σ 62 0 ((9 * (v2 ||| ((1 : Int32) <<< (v6 &&& 31)))) + v6).toNatClampNeg)) σ) (h5 : ¬ v4 ≤ s0 → vp_in ((9 * (v2 ||| ((1 : Int32) <<< (v6 &&& 31)))) + v6) 4608) (h6 : ¬ v4 ≤ s0 → kX8_layOrders_205 d Q v1 v2 v3 v4 v6 s0 (σ 62 0 ((9 * (v2 ||| ((1 : Int32) <<< (v6 &&& 31)))) + v6).toNatClampNeg) σ) : kX8_layOrders_137 d Q v1 v2 v3 v4 v5 v6 s0 σ := by
  refine ps_istore (L' := [some (.inr (.inr (50, 0))), some (.inl v1), some (.inl v2), some (.inl v3), some (.inl v4), some (.inl v5), some (.inl v6), none, some (.inl s0)]) (ps_at tX8_layOrders_ok 84 rfl) (by decide) rfl ?_
  refine ps_iload (ps_at tX8_layOrders_ok 85 rfl) rfl ?_
  refine ps_iload (ps_at tX8_layOrders_ok 86 rfl) rfl ?_
  refine ps_icmp_ge (tgt := 166) (ps_at tX8_layOrders_ok 87 rfl) (by decide) (fun c0 => ?_) (fun c0 => ?_)
  · skip
    refine ps_iload (ps_at tX8_layOrders_ok 101 rfl) rfl ?_
    refine ps_iload (ps_at tX8_layOrders_ok 102 rfl) rfl ?_
    refine ps_icmp_ne (tgt := 203) (ps_at tX8_layOrders_ok 103 rfl) (by decide) (fun c1 => ?_) (fun c1 => ?_)
    · skip
      exact h1 c0 c1
    · skip
      refine ps_iload (ps_at tX8_layOrders_ok 104 rfl) rfl ?_
      refine ps_ldc (ps_at tX8_layOrders_ok 105 rfl) cnX8_152 ?_
      refine ps_icmp_ge (tgt := 203) (ps_at tX8_layOrders_ok 106 rfl) (by decide) (fun c2 => ?_) (fun c2 => ?_)
      · skip
        exact h2 c0 c1 c2
      · skip
        refine ps_iload (ps_at tX8_layOrders_ok 107 rfl) rfl ?_
        refine ps_aload_n (ps_at tX8_layOrders_ok 108 rfl) rfl rfl ?_
        refine ps_getR (ps_at tX8_layOrders_ok 109 rfl) flX8_41 sh_50 rfl ?_
        refine ps_bipush (x := 9) (ps_at tX8_layOrders_ok 110 rfl) (by decide) ?_
        refine ps_iload_n (ps_at tX8_layOrders_ok 111 rfl) rfl rfl ?_
        refine ps_iconst (x := 1) (ps_at tX8_layOrders_ok 112 rfl) (by decide) ?_
        refine ps_iload (ps_at tX8_layOrders_ok 113 rfl) rfl ?_
        refine ps_ishl (ps_at tX8_layOrders_ok 114 rfl) ?_
        refine ps_ior (ps_at tX8_layOrders_ok 115 rfl) ?_
        refine ps_imul (ps_at tX8_layOrders_ok 116 rfl) ?_
        refine ps_iload (ps_at tX8_layOrders_ok 117 rfl) rfl ?_
        refine ps_iadd (ps_at tX8_layOrders_ok 118 rfl) ?_
        refine ps_iald (ps_at tX8_layOrders_ok 119 rfl) sh_62 (h3 c0 c1 c2) ?_
        refine ps_iadd (ps_at tX8_layOrders_ok 120 rfl) ?_
        refine ps_goto (tgt := 205) (ps_at tX8_layOrders_ok 121 rfl) (by decide) ?_
        refine ps_forget (L' := [some (.inr (.inr (50, 0))), some (.inl v1), some (.inl v2), some (.inl v3), some (.inl v4), none, some (.inl v6), none, some (.inl s0)]) (And.intro rfl (And.intro rfl (And.intro rfl (And.intro rfl (And.intro rfl (And.intro rfl (And.intro rfl trivial))))))) ?_
        exact h4 c0 c1 c2
  · skip
    refine ps_aload_n (ps_at tX8_layOrders_ok 88 rfl) rfl rfl ?_
    refine ps_getR (ps_at tX8_layOrders_ok 89 rfl) flX8_41 sh_50 rfl ?_
    refine ps_bipush (x := 9) (ps_at tX8_layOrders_ok 90 rfl) (by decide) ?_
    refine ps_iload_n (ps_at tX8_layOrders_ok 91 rfl) rfl rfl ?_
    refine ps_iconst (x := 1) (ps_at tX8_layOrders_ok 92 rfl) (by decide) ?_
    refine ps_iload (ps_at tX8_layOrders_ok 93 rfl) rfl ?_
    refine ps_ishl (ps_at tX8_layOrders_ok 94 rfl) ?_
    refine ps_ior (ps_at tX8_layOrders_ok 95 rfl) ?_
    refine ps_imul (ps_at tX8_layOrders_ok 96 rfl) ?_
    refine ps_iload (ps_at tX8_layOrders_ok 97 rfl) rfl ?_
    refine ps_iadd (ps_at tX8_layOrders_ok 98 rfl) ?_
    refine ps_iald (ps_at tX8_layOrders_ok 99 rfl) sh_62 (h5 c0) ?_
    refine ps_goto (tgt := 205) (ps_at tX8_layOrders_ok 100 rfl) (by decide) ?_
    refine ps_forget (L' := [some (.inr (.inr (50, 0))), some (.inl v1), some (.inl v2), some (.inl v3), some (.inl v4), none, some (.inl v6), none, some (.inl s0)]) (And.intro rfl (And.intro rfl (And.intro rfl (And.intro rfl (And.intro rfl (And.intro rfl (And.intro rfl trivial))))))) ?_
    exact h6 c0
theorem bX8_layOrders_203 {d : Nat} {Q : Option ps_V → ps_S → Prop} {v1 : Int32} {v2 : Int32} {v3 : Int32} {v4 : Int32} {v5 : Int32} {v6 : Int32} {v8 : Int32} {σ : ps_S} (h1 : kX8_layOrders_205 d Q v1 v2 v3 v4 v6 v8 v5 σ) : kX8_layOrders_203 d Q v1 v2 v3 v4 v5 v6 v8 σ := by
  refine ps_iload (ps_at tX8_layOrders_ok 122 rfl) rfl ?_
  refine ps_forget (L' := [some (.inr (.inr (50, 0))), some (.inl v1), some (.inl v2), some (.inl v3), some (.inl v4), none, some (.inl v6), none, some (.inl v8)]) (And.intro rfl (And.intro rfl (And.intro rfl (And.intro rfl (And.intro rfl (And.intro rfl (And.intro rfl trivial))))))) ?_
  exact h1
theorem bX8_layOrders_205 {d : Nat} {Q : Option ps_V → ps_S → Prop} {v1 : Int32} {v2 : Int32} {v3 : Int32} {v4 : Int32} {v6 : Int32} {v8 : Int32} {s0 : Int32} {σ : ps_S} (h1 : v4 ≤ v8 → kX8_layOrders_53 d Q v1 v2 v3 v4 s0 (v6 + 1) σ) (h2 : ¬ v4 ≤ v8 → kX8_layOrders_53 d Q v1 v2 v3 v8 s0 (v6 + 1) σ) : kX8_layOrders_205 d Q v1 v2 v3 v4 v6 v8 s0 σ := by
  refine ps_istore (L' := [some (.inr (.inr (50, 0))), some (.inl v1), some (.inl v2), some (.inl v3), some (.inl v4), some (.inl s0), some (.inl v6), none, some (.inl v8)]) (ps_at tX8_layOrders_ok 123 rfl) (by decide) rfl ?_
  refine ps_iload (ps_at tX8_layOrders_ok 124 rfl) rfl ?_
  refine ps_iload (ps_at tX8_layOrders_ok 125 rfl) rfl ?_
  refine ps_icmp_ge (tgt := 219) (ps_at tX8_layOrders_ok 126 rfl) (by decide) (fun c0 => ?_) (fun c0 => ?_)
  · skip
    refine ps_iload (ps_at tX8_layOrders_ok 129 rfl) rfl ?_
    refine ps_istore (L' := [some (.inr (.inr (50, 0))), some (.inl v1), some (.inl v2), some (.inl v3), some (.inl v4), some (.inl s0), some (.inl v6), none, some (.inl v8)]) (ps_at tX8_layOrders_ok 130 rfl) (by decide) rfl ?_
    refine ps_iinc (L' := [some (.inr (.inr (50, 0))), some (.inl v1), some (.inl v2), some (.inl v3), some (.inl v4), some (.inl s0), some (.inl (v6 + 1)), none, some (.inl v8)]) (y := 1) (ps_at tX8_layOrders_ok 131 rfl) rfl (by decide) (by decide) rfl ?_
    refine ps_goto (tgt := 53) (ps_at tX8_layOrders_ok 132 rfl) (by decide) ?_
    refine ps_forget (L' := [some (.inr (.inr (50, 0))), some (.inl v1), some (.inl v2), some (.inl v3), some (.inl v4), some (.inl s0), some (.inl (v6 + 1)), none, none]) (And.intro rfl (And.intro rfl (And.intro rfl (And.intro rfl (And.intro rfl (And.intro rfl (And.intro rfl trivial))))))) ?_
    exact h1 c0
  · skip
    refine ps_iload (ps_at tX8_layOrders_ok 127 rfl) rfl ?_
    refine ps_goto (tgt := 221) (ps_at tX8_layOrders_ok 128 rfl) (by decide) ?_
    refine ps_istore (L' := [some (.inr (.inr (50, 0))), some (.inl v1), some (.inl v2), some (.inl v3), some (.inl v8), some (.inl s0), some (.inl v6), none, some (.inl v8)]) (ps_at tX8_layOrders_ok 130 rfl) (by decide) rfl ?_
    refine ps_iinc (L' := [some (.inr (.inr (50, 0))), some (.inl v1), some (.inl v2), some (.inl v3), some (.inl v8), some (.inl s0), some (.inl (v6 + 1)), none, some (.inl v8)]) (y := 1) (ps_at tX8_layOrders_ok 131 rfl) rfl (by decide) (by decide) rfl ?_
    refine ps_goto (tgt := 53) (ps_at tX8_layOrders_ok 132 rfl) (by decide) ?_
    refine ps_forget (L' := [some (.inr (.inr (50, 0))), some (.inl v1), some (.inl v2), some (.inl v3), some (.inl v8), some (.inl s0), some (.inl (v6 + 1)), none, none]) (And.intro rfl (And.intro rfl (And.intro rfl (And.intro rfl (And.intro rfl (And.intro rfl (And.intro rfl trivial))))))) ?_
    exact h2 c0
theorem eX8_layOrders {d : Nat} {Q : Option ps_V → ps_S → Prop}  {σ : ps_S} (h : kX8_layOrders_0 d Q σ) : ps_C mX8_layOrders d [.inr (.inr (50, 0))] σ Q := ps_enter (by decide) rfl ⟨rfl, rfl, rfl⟩ rfl (Nat.le_of_ble_eq_true rfl) h
abbrev kX8_leastCost_0 (d : Nat) (Q : Option ps_V → ps_S → Prop)  (σ : ps_S) : Prop := ps_K mX8_leastCost d (ps_QF Q) 0 [some (.inr (.inr (50, 0))), none, none, none] [] σ
abbrev kX8_leastCost_16 (d : Nat) (Q : Option ps_V → ps_S → Prop) (v1 : Int32) (v2 : Int32) (σ : ps_S) : Prop := ps_K mX8_leastCost d (ps_QF Q) 16 [some (.inr (.inr (50, 0))), some (.inl v1), some (.inl v2), none] [] σ
abbrev kX8_leastCost_51 (d : Nat) (Q : Option ps_V → ps_S → Prop) (v1 : Int32) (v2 : Int32) (s0 : Int32) (σ : ps_S) : Prop := ps_K mX8_leastCost d (ps_QF Q) 51 [some (.inr (.inr (50, 0))), some (.inl v1), some (.inl v2), none] [.inl s0] σ
theorem bX8_leastCost_0 {d : Nat} {Q : Option ps_V → ps_S → Prop}  {σ : ps_S} (h1 : ¬ (σ 50 0 1) = 0 → kX8_leastCost_16 d Q 100000000 0 σ) (h2 : (σ 50 0 1) = 0 → kX8_leastCost_16 d Q 0 0 σ) : kX8_leastCost_0 d Q σ := by
  refine ps_aload_n (ps_at tX8_leastCost_ok 0 rfl) rfl rfl ?_
  refine ps_getI (ps_at tX8_leastCost_ok 1 rfl) flX8_131 sh_50 rfl ?_
  refine ps_if_ne (tgt := 11) (ps_at tX8_leastCost_ok 2 rfl) (by decide) (fun c0 => ?_) (fun c0 => ?_)
  · skip
    refine ps_ldc (ps_at tX8_leastCost_ok 5 rfl) cnX8_152 ?_
    refine ps_istore_n (L' := [some (.inr (.inr (50, 0))), some (.inl 100000000), none, none]) (ps_at tX8_leastCost_ok 6 rfl) rfl (by decide) rfl ?_
    refine ps_iconst (x := 0) (ps_at tX8_leastCost_ok 7 rfl) (by decide) ?_
    refine ps_istore_n (L' := [some (.inr (.inr (50, 0))), some (.inl 100000000), some (.inl 0), none]) (ps_at tX8_leastCost_ok 8 rfl) rfl (by decide) rfl ?_
    exact h1 c0
  · skip
    refine ps_iconst (x := 0) (ps_at tX8_leastCost_ok 3 rfl) (by decide) ?_
    refine ps_goto (tgt := 13) (ps_at tX8_leastCost_ok 4 rfl) (by decide) ?_
    refine ps_istore_n (L' := [some (.inr (.inr (50, 0))), some (.inl 0), none, none]) (ps_at tX8_leastCost_ok 6 rfl) rfl (by decide) rfl ?_
    refine ps_iconst (x := 0) (ps_at tX8_leastCost_ok 7 rfl) (by decide) ?_
    refine ps_istore_n (L' := [some (.inr (.inr (50, 0))), some (.inl 0), some (.inl 0), none]) (ps_at tX8_leastCost_ok 8 rfl) rfl (by decide) rfl ?_
    exact h2 c0
theorem bX8_leastCost_16 {d : Nat} {Q : Option ps_V → ps_S → Prop} {v1 : Int32} {v2 : Int32} {σ : ps_S} (h1 : (σ 50 0 1) ≤ v2 → Q (some (.inl v1)) σ) (h2 : ¬ (σ 50 0 1) ≤ v2 → vp_in v2 9) (h3 : ¬ (σ 50 0 1) ≤ v2 → ¬ (σ 59 0 v2.toNatClampNeg) = 0 → kX8_leastCost_51 d Q v1 v2 100000000 σ) (h4 : ¬ (σ 50 0 1) ≤ v2 → (σ 59 0 v2.toNatClampNeg) = 0 → vp_in ((9 * ((1 : Int32) <<< (v2 &&& 31))) + v2) 4608) (h5 : ¬ (σ 50 0 1) ≤ v2 → (σ 59 0 v2.toNatClampNeg) = 0 → kX8_leastCost_51 d Q v1 v2 (σ 61 0 ((9 * ((1 : Int32) <<< (v2 &&& 31))) + v2).toNatClampNeg) σ) : kX8_leastCost_16 d Q v1 v2 σ := by
  refine ps_iload_n (ps_at tX8_leastCost_ok 9 rfl) rfl rfl ?_
  refine ps_aload_n (ps_at tX8_leastCost_ok 10 rfl) rfl rfl ?_
  refine ps_getI (ps_at tX8_leastCost_ok 11 rfl) flX8_131 sh_50 rfl ?_
  refine ps_icmp_ge (tgt := 69) (ps_at tX8_leastCost_ok 12 rfl) (by decide) (fun c0 => ?_) (fun c0 => ?_)
  · skip
    refine ps_iload_n (ps_at tX8_leastCost_ok 40 rfl) rfl rfl ?_
    exact ps_iret (ps_at tX8_leastCost_ok 41 rfl) rfl ⟨rfl, rfl⟩ (h1 c0)
  · skip
    refine ps_aload_n (ps_at tX8_leastCost_ok 13 rfl) rfl rfl ?_
    refine ps_getR (ps_at tX8_leastCost_ok 14 rfl) flX8_32 sh_50 rfl ?_
    refine ps_iload_n (ps_at tX8_leastCost_ok 15 rfl) rfl rfl ?_
    refine ps_iald (ps_at tX8_leastCost_ok 16 rfl) sh_59 (h2 c0) ?_
    refine ps_if_ne (tgt := 49) (ps_at tX8_leastCost_ok 17 rfl) (by decide) (fun c1 => ?_) (fun c1 => ?_)
    · skip
      refine ps_ldc (ps_at tX8_leastCost_ok 29 rfl) cnX8_152 ?_
      exact h3 c0 c1
    · skip
      refine ps_aload_n (ps_at tX8_leastCost_ok 18 rfl) rfl rfl ?_
      refine ps_getR (ps_at tX8_leastCost_ok 19 rfl) flX8_38 sh_50 rfl ?_
      refine ps_bipush (x := 9) (ps_at tX8_leastCost_ok 20 rfl) (by decide) ?_
      refine ps_iconst (x := 1) (ps_at tX8_leastCost_ok 21 rfl) (by decide) ?_
      refine ps_iload_n (ps_at tX8_leastCost_ok 22 rfl) rfl rfl ?_
      refine ps_ishl (ps_at tX8_leastCost_ok 23 rfl) ?_
      refine ps_imul (ps_at tX8_leastCost_ok 24 rfl) ?_
      refine ps_iload_n (ps_at tX8_leastCost_ok 25 rfl) rfl rfl ?_
      refine ps_iadd (ps_at tX8_leastCost_ok 26 rfl) ?_
      refine ps_iald (ps_at tX8_leastCost_ok 27 rfl) sh_61 (h4 c0 c1) ?_
      refine ps_goto (tgt := 51) (ps_at tX8_leastCost_ok 28 rfl) (by decide) ?_
      exact h5 c0 c1
theorem bX8_leastCost_51 {d : Nat} {Q : Option ps_V → ps_S → Prop} {v1 : Int32} {v2 : Int32} {s0 : Int32} {σ : ps_S} (h1 : v1 ≤ s0 → kX8_leastCost_16 d Q v1 (v2 + 1) σ) (h2 : ¬ v1 ≤ s0 → kX8_leastCost_16 d Q s0 (v2 + 1) σ) : kX8_leastCost_51 d Q v1 v2 s0 σ := by
  refine ps_istore_n (L' := [some (.inr (.inr (50, 0))), some (.inl v1), some (.inl v2), some (.inl s0)]) (ps_at tX8_leastCost_ok 30 rfl) rfl (by decide) rfl ?_
  refine ps_iload_n (ps_at tX8_leastCost_ok 31 rfl) rfl rfl ?_
  refine ps_iload_n (ps_at tX8_leastCost_ok 32 rfl) rfl rfl ?_
  refine ps_icmp_ge (tgt := 61) (ps_at tX8_leastCost_ok 33 rfl) (by decide) (fun c0 => ?_) (fun c0 => ?_)
  · skip
    refine ps_iload_n (ps_at tX8_leastCost_ok 36 rfl) rfl rfl ?_
    refine ps_istore_n (L' := [some (.inr (.inr (50, 0))), some (.inl v1), some (.inl v2), some (.inl s0)]) (ps_at tX8_leastCost_ok 37 rfl) rfl (by decide) rfl ?_
    refine ps_iinc (L' := [some (.inr (.inr (50, 0))), some (.inl v1), some (.inl (v2 + 1)), some (.inl s0)]) (y := 1) (ps_at tX8_leastCost_ok 38 rfl) rfl (by decide) (by decide) rfl ?_
    refine ps_goto (tgt := 16) (ps_at tX8_leastCost_ok 39 rfl) (by decide) ?_
    refine ps_forget (L' := [some (.inr (.inr (50, 0))), some (.inl v1), some (.inl (v2 + 1)), none]) (And.intro rfl (And.intro rfl (And.intro rfl trivial))) ?_
    exact h1 c0
  · skip
    refine ps_iload_n (ps_at tX8_leastCost_ok 34 rfl) rfl rfl ?_
    refine ps_goto (tgt := 62) (ps_at tX8_leastCost_ok 35 rfl) (by decide) ?_
    refine ps_istore_n (L' := [some (.inr (.inr (50, 0))), some (.inl s0), some (.inl v2), some (.inl s0)]) (ps_at tX8_leastCost_ok 37 rfl) rfl (by decide) rfl ?_
    refine ps_iinc (L' := [some (.inr (.inr (50, 0))), some (.inl s0), some (.inl (v2 + 1)), some (.inl s0)]) (y := 1) (ps_at tX8_leastCost_ok 38 rfl) rfl (by decide) (by decide) rfl ?_
    refine ps_goto (tgt := 16) (ps_at tX8_leastCost_ok 39 rfl) (by decide) ?_
    refine ps_forget (L' := [some (.inr (.inr (50, 0))), some (.inl s0), some (.inl (v2 + 1)), none]) (And.intro rfl (And.intro rfl (And.intro rfl trivial))) ?_
    exact h2 c0
theorem eX8_leastCost {d : Nat} {Q : Option ps_V → ps_S → Prop}  {σ : ps_S} (h : kX8_leastCost_0 d Q σ) : ps_C mX8_leastCost d [.inr (.inr (50, 0))] σ Q := ps_enter (by decide) rfl ⟨rfl, rfl, rfl⟩ rfl (Nat.le_of_ble_eq_true rfl) h
abbrev kX8_waysOf_0 (d : Nat) (Q : Option ps_V → ps_S → Prop) (v1 : Int32) (σ : ps_S) : Prop := ps_K mX8_waysOf d (ps_QF Q) 0 [some (.inr (.inr (50, 0))), some (.inl v1), none, none] [] σ
abbrev kX8_waysOf_15 (d : Nat) (Q : Option ps_V → ps_S → Prop) (v1 : Int32) (v2 : Int32) (v3 : Int32) (σ : ps_S) : Prop := ps_K mX8_waysOf d (ps_QF Q) 15 [some (.inr (.inr (50, 0))), some (.inl v1), some (.inl v2), some (.inl v3)] [] σ
theorem bX8_waysOf_0 {d : Nat} {Q : Option ps_V → ps_S → Prop} {v1 : Int32} {σ : ps_S} (h1 : ¬ (σ 50 0 1) = 0 → kX8_waysOf_15 d Q v1 0 0 σ) (h2 : (σ 50 0 1) = 0 → kX8_waysOf_15 d Q v1 1 0 σ) : kX8_waysOf_0 d Q v1 σ := by
  refine ps_aload_n (ps_at tX8_waysOf_ok 0 rfl) rfl rfl ?_
  refine ps_getI (ps_at tX8_waysOf_ok 1 rfl) flX8_131 sh_50 rfl ?_
  refine ps_if_ne (tgt := 11) (ps_at tX8_waysOf_ok 2 rfl) (by decide) (fun c0 => ?_) (fun c0 => ?_)
  · skip
    refine ps_iconst (x := 0) (ps_at tX8_waysOf_ok 5 rfl) (by decide) ?_
    refine ps_istore_n (L' := [some (.inr (.inr (50, 0))), some (.inl v1), some (.inl 0), none]) (ps_at tX8_waysOf_ok 6 rfl) rfl (by decide) rfl ?_
    refine ps_iconst (x := 0) (ps_at tX8_waysOf_ok 7 rfl) (by decide) ?_
    refine ps_istore_n (L' := [some (.inr (.inr (50, 0))), some (.inl v1), some (.inl 0), some (.inl 0)]) (ps_at tX8_waysOf_ok 8 rfl) rfl (by decide) rfl ?_
    exact h1 c0
  · skip
    refine ps_iconst (x := 1) (ps_at tX8_waysOf_ok 3 rfl) (by decide) ?_
    refine ps_goto (tgt := 12) (ps_at tX8_waysOf_ok 4 rfl) (by decide) ?_
    refine ps_istore_n (L' := [some (.inr (.inr (50, 0))), some (.inl v1), some (.inl 1), none]) (ps_at tX8_waysOf_ok 6 rfl) rfl (by decide) rfl ?_
    refine ps_iconst (x := 0) (ps_at tX8_waysOf_ok 7 rfl) (by decide) ?_
    refine ps_istore_n (L' := [some (.inr (.inr (50, 0))), some (.inl v1), some (.inl 1), some (.inl 0)]) (ps_at tX8_waysOf_ok 8 rfl) rfl (by decide) rfl ?_
    exact h2 c0
theorem bX8_waysOf_15 {d : Nat} {Q : Option ps_V → ps_S → Prop} {v1 : Int32} {v2 : Int32} {v3 : Int32} {σ : ps_S} (h1 : (σ 50 0 1) ≤ v3 → Q (some (.inl v2)) σ) (h2 : ¬ (σ 50 0 1) ≤ v3 → vp_in v3 9) (h3 : ¬ (σ 50 0 1) ≤ v3 → ¬ (σ 59 0 v3.toNatClampNeg) = 0 → kX8_waysOf_15 d Q v1 (v2 + 0) (v3 + 1) σ) (h4 : ¬ (σ 50 0 1) ≤ v3 → (σ 59 0 v3.toNatClampNeg) = 0 → vp_in ((9 * ((1 : Int32) <<< (v3 &&& 31))) + v3) 4608) (h5 : ¬ (σ 50 0 1) ≤ v3 → (σ 59 0 v3.toNatClampNeg) = 0 → ¬ (σ 61 0 ((9 * ((1 : Int32) <<< (v3 &&& 31))) + v3).toNatClampNeg) = v1 → kX8_waysOf_15 d Q v1 (v2 + 0) (v3 + 1) σ) (h6 : ¬ (σ 50 0 1) ≤ v3 → (σ 59 0 v3.toNatClampNeg) = 0 → (σ 61 0 ((9 * ((1 : Int32) <<< (v3 &&& 31))) + v3).toNatClampNeg) = v1 → 100000000 ≤ v1 → kX8_waysOf_15 d Q v1 (v2 + 0) (v3 + 1) σ) (h7 : ¬ (σ 50 0 1) ≤ v3 → (σ 59 0 v3.toNatClampNeg) = 0 → (σ 61 0 ((9 * ((1 : Int32) <<< (v3 &&& 31))) + v3).toNatClampNeg) = v1 → ¬ 100000000 ≤ v1 → kX8_waysOf_15 d Q v1 (v2 + (σ 62 0 ((9 * ((1 : Int32) <<< (v3 &&& 31))) + v3).toNatClampNeg)) (v3 + 1) σ) : kX8_waysOf_15 d Q v1 v2 v3 σ := by
  refine ps_iload_n (ps_at tX8_waysOf_ok 9 rfl) rfl rfl ?_
  refine ps_aload_n (ps_at tX8_waysOf_ok 10 rfl) rfl rfl ?_
  refine ps_getI (ps_at tX8_waysOf_ok 11 rfl) flX8_131 sh_50 rfl ?_
  refine ps_icmp_ge (tgt := 81) (ps_at tX8_waysOf_ok 12 rfl) (by decide) (fun c0 => ?_) (fun c0 => ?_)
  · skip
    refine ps_iload_n (ps_at tX8_waysOf_ok 50 rfl) rfl rfl ?_
    exact ps_iret (ps_at tX8_waysOf_ok 51 rfl) rfl ⟨rfl, rfl⟩ (h1 c0)
  · skip
    refine ps_iload_n (ps_at tX8_waysOf_ok 13 rfl) rfl rfl ?_
    refine ps_aload_n (ps_at tX8_waysOf_ok 14 rfl) rfl rfl ?_
    refine ps_getR (ps_at tX8_waysOf_ok 15 rfl) flX8_32 sh_50 rfl ?_
    refine ps_iload_n (ps_at tX8_waysOf_ok 16 rfl) rfl rfl ?_
    refine ps_iald (ps_at tX8_waysOf_ok 17 rfl) sh_59 (h2 c0) ?_
    refine ps_if_ne (tgt := 72) (ps_at tX8_waysOf_ok 18 rfl) (by decide) (fun c1 => ?_) (fun c1 => ?_)
    · skip
      refine ps_iconst (x := 0) (ps_at tX8_waysOf_ok 45 rfl) (by decide) ?_
      refine ps_iadd (ps_at tX8_waysOf_ok 46 rfl) ?_
      refine ps_istore_n (L' := [some (.inr (.inr (50, 0))), some (.inl v1), some (.inl (v2 + 0)), some (.inl v3)]) (ps_at tX8_waysOf_ok 47 rfl) rfl (by decide) rfl ?_
      refine ps_iinc (L' := [some (.inr (.inr (50, 0))), some (.inl v1), some (.inl (v2 + 0)), some (.inl (v3 + 1))]) (y := 1) (ps_at tX8_waysOf_ok 48 rfl) rfl (by decide) (by decide) rfl ?_
      refine ps_goto (tgt := 15) (ps_at tX8_waysOf_ok 49 rfl) (by decide) ?_
      exact h3 c0 c1
    · skip
      refine ps_aload_n (ps_at tX8_waysOf_ok 19 rfl) rfl rfl ?_
      refine ps_getR (ps_at tX8_waysOf_ok 20 rfl) flX8_38 sh_50 rfl ?_
      refine ps_bipush (x := 9) (ps_at tX8_waysOf_ok 21 rfl) (by decide) ?_
      refine ps_iconst (x := 1) (ps_at tX8_waysOf_ok 22 rfl) (by decide) ?_
      refine ps_iload_n (ps_at tX8_waysOf_ok 23 rfl) rfl rfl ?_
      refine ps_ishl (ps_at tX8_waysOf_ok 24 rfl) ?_
      refine ps_imul (ps_at tX8_waysOf_ok 25 rfl) ?_
      refine ps_iload_n (ps_at tX8_waysOf_ok 26 rfl) rfl rfl ?_
      refine ps_iadd (ps_at tX8_waysOf_ok 27 rfl) ?_
      refine ps_iald (ps_at tX8_waysOf_ok 28 rfl) sh_61 (h4 c0 c1) ?_
      refine ps_iload_n (ps_at tX8_waysOf_ok 29 rfl) rfl rfl ?_
      refine ps_icmp_ne (tgt := 72) (ps_at tX8_waysOf_ok 30 rfl) (by decide) (fun c2 => ?_) (fun c2 => ?_)
      · skip
        refine ps_iconst (x := 0) (ps_at tX8_waysOf_ok 45 rfl) (by decide) ?_
        refine ps_iadd (ps_at tX8_waysOf_ok 46 rfl) ?_
        refine ps_istore_n (L' := [some (.inr (.inr (50, 0))), some (.inl v1), some (.inl (v2 + 0)), some (.inl v3)]) (ps_at tX8_waysOf_ok 47 rfl) rfl (by decide) rfl ?_
        refine ps_iinc (L' := [some (.inr (.inr (50, 0))), some (.inl v1), some (.inl (v2 + 0)), some (.inl (v3 + 1))]) (y := 1) (ps_at tX8_waysOf_ok 48 rfl) rfl (by decide) (by decide) rfl ?_
        refine ps_goto (tgt := 15) (ps_at tX8_waysOf_ok 49 rfl) (by decide) ?_
        exact h5 c0 c1 c2
      · skip
        refine ps_iload_n (ps_at tX8_waysOf_ok 31 rfl) rfl rfl ?_
        refine ps_ldc (ps_at tX8_waysOf_ok 32 rfl) cnX8_152 ?_
        refine ps_icmp_ge (tgt := 72) (ps_at tX8_waysOf_ok 33 rfl) (by decide) (fun c3 => ?_) (fun c3 => ?_)
        · skip
          refine ps_iconst (x := 0) (ps_at tX8_waysOf_ok 45 rfl) (by decide) ?_
          refine ps_iadd (ps_at tX8_waysOf_ok 46 rfl) ?_
          refine ps_istore_n (L' := [some (.inr (.inr (50, 0))), some (.inl v1), some (.inl (v2 + 0)), some (.inl v3)]) (ps_at tX8_waysOf_ok 47 rfl) rfl (by decide) rfl ?_
          refine ps_iinc (L' := [some (.inr (.inr (50, 0))), some (.inl v1), some (.inl (v2 + 0)), some (.inl (v3 + 1))]) (y := 1) (ps_at tX8_waysOf_ok 48 rfl) rfl (by decide) (by decide) rfl ?_
          refine ps_goto (tgt := 15) (ps_at tX8_waysOf_ok 49 rfl) (by decide) ?_
          exact h6 c0 c1 c2 c3
        · skip
          refine ps_aload_n (ps_at tX8_waysOf_ok 34 rfl) rfl rfl ?_
          refine ps_getR (ps_at tX8_waysOf_ok 35 rfl) flX8_41 sh_50 rfl ?_
          refine ps_bipush (x := 9) (ps_at tX8_waysOf_ok 36 rfl) (by decide) ?_
          refine ps_iconst (x := 1) (ps_at tX8_waysOf_ok 37 rfl) (by decide) ?_
          refine ps_iload_n (ps_at tX8_waysOf_ok 38 rfl) rfl rfl ?_
          refine ps_ishl (ps_at tX8_waysOf_ok 39 rfl) ?_
          refine ps_imul (ps_at tX8_waysOf_ok 40 rfl) ?_
          refine ps_iload_n (ps_at tX8_waysOf_ok 41 rfl) rfl rfl ?_
          refine ps_iadd (ps_at tX8_waysOf_ok 42 rfl) ?_
          refine ps_iald (ps_at tX8_waysOf_ok 43 rfl) sh_62 (h4 c0 c1) ?_
          refine ps_goto (tgt := 73) (ps_at tX8_waysOf_ok 44 rfl) (by decide) ?_
          refine ps_iadd (ps_at tX8_waysOf_ok 46 rfl) ?_
          refine ps_istore_n (L' := [some (.inr (.inr (50, 0))), some (.inl v1), some (.inl (v2 + (σ 62 0 ((9 * ((1 : Int32) <<< (v3 &&& 31))) + v3).toNatClampNeg))), some (.inl v3)]) (ps_at tX8_waysOf_ok 47 rfl) rfl (by decide) rfl ?_
          refine ps_iinc (L' := [some (.inr (.inr (50, 0))), some (.inl v1), some (.inl (v2 + (σ 62 0 ((9 * ((1 : Int32) <<< (v3 &&& 31))) + v3).toNatClampNeg))), some (.inl (v3 + 1))]) (y := 1) (ps_at tX8_waysOf_ok 48 rfl) rfl (by decide) (by decide) rfl ?_
          refine ps_goto (tgt := 15) (ps_at tX8_waysOf_ok 49 rfl) (by decide) ?_
          exact h7 c0 c1 c2 c3
theorem eX8_waysOf {d : Nat} {Q : Option ps_V → ps_S → Prop} {v1 : Int32} {σ : ps_S} (h : kX8_waysOf_0 d Q v1 σ) : ps_C mX8_waysOf d [.inr (.inr (50, 0)), .inl v1] σ Q := ps_enter (by decide) rfl ⟨rfl, rfl, rfl⟩ rfl (Nat.le_of_ble_eq_true rfl) h
abbrev kX8_least_0 (d : Nat) (Q : Option ps_V → ps_S → Prop) (v1 : Int32) (σ : ps_S) : Prop := ps_K mX8_least (d + 2) (ps_QF Q) 0 [some (.inr (.inr (50, 0))), some (.inl v1), none] [] σ
abbrev kX8_least_15 (d : Nat) (Q : Option ps_V → ps_S → Prop)  (σ : ps_S) : Prop := ps_K mX8_least (d + 2) (ps_QF Q) 15 [some (.inr (.inr (50, 0))), none, none] [] σ
abbrev kX8_least_19 (d : Nat) (Q : Option ps_V → ps_S → Prop)  (σ : ps_S) : Prop := ps_K mX8_least (d + 2) (ps_QF Q) 19 [some (.inr (.inr (50, 0))), none, none] [] σ
abbrev kX8_least_23 (d : Nat) (Q : Option ps_V → ps_S → Prop) (s0 : Int32) (σ : ps_S) : Prop := ps_K mX8_least (d + 2) (ps_QF Q) 23 [none, none, none] [.inl s0] σ
theorem bX8_least_0 {d : Nat} {Q : Option ps_V → ps_S → Prop} {v1 : Int32} {σ : ps_S} (h1 : ¬ (jbIn v1.toInt64 0 5) = 0 → ps_C mX8_layNeeds (d + 1) [.inr (.inr (50, 0)), .inl v1] σ (ps_rv (fun σ1 => kX8_least_15 d Q σ1))) (h2 : (jbIn v1.toInt64 0 5) = 0 → Q (some (.inl (-900001))) σ) : kX8_least_0 d Q v1 σ := by
  refine ps_iload_n (ps_at tX8_least_ok 0 rfl) rfl rfl ?_
  refine ps_callS (M2 := mX8_isForme) (av := [.inl v1]) (rest := []) (ps_at tX8_least_ok 1 rfl) csX8_109 rfl rfl (fun _ => Nat.le_of_ble_eq_true rfl) (pX8_isForme ?_)
  refine ps_if_ne (tgt := 10) (ps_at tX8_least_ok 2 rfl) (by decide) (fun c0 => ?_) (fun c0 => ?_)
  · skip
    refine ps_aload_n (ps_at tX8_least_ok 5 rfl) rfl rfl ?_
    refine ps_iload_n (ps_at tX8_least_ok 6 rfl) rfl rfl ?_
    refine ps_callV (M2 := mX8_layNeeds) (av := [.inl v1]) (rest := []) (ps_at tX8_least_ok 7 rfl) cvX8_153 sh_50 rfl rfl (fun _ => Nat.le_of_ble_eq_true rfl) ?_
    refine ps_C.imp ?_ (h1 c0)
    rintro _ σ1 ⟨rfl, hx⟩
    exact ps_forget (L' := [some (.inr (.inr (50, 0))), none, none]) (And.intro rfl trivial) hx
  · skip
    refine ps_ldc (ps_at tX8_least_ok 3 rfl) cnX8_112 ?_
    exact ps_iret (ps_at tX8_least_ok 4 rfl) rfl ⟨rfl, rfl⟩ (h2 c0)
theorem bX8_least_15 {d : Nat} {Q : Option ps_V → ps_S → Prop}  {σ : ps_S} (h1 : ps_C mX8_layOrders (d + 1) [.inr (.inr (50, 0))] σ (ps_rv (fun σ1 => kX8_least_19 d Q σ1))) : kX8_least_15 d Q σ := by
  refine ps_aload_n (ps_at tX8_least_ok 8 rfl) rfl rfl ?_
  refine ps_callV (M2 := mX8_layOrders) (av := []) (rest := []) (ps_at tX8_least_ok 9 rfl) cvX8_156 sh_50 rfl rfl (fun _ => Nat.le_of_ble_eq_true rfl) ?_
  refine ps_C.imp ?_ (h1)
  rintro _ σ1 ⟨rfl, hx⟩
  exact hx
theorem bX8_least_19 {d : Nat} {Q : Option ps_V → ps_S → Prop}  {σ : ps_S} (h1 : ps_C mX8_leastCost (d + 1) [.inr (.inr (50, 0))] σ (ps_ri (fun x σ1 => kX8_least_23 d Q x σ1))) : kX8_least_19 d Q σ := by
  refine ps_aload_n (ps_at tX8_least_ok 10 rfl) rfl rfl ?_
  refine ps_callV (M2 := mX8_leastCost) (av := []) (rest := []) (ps_at tX8_least_ok 11 rfl) cvX8_159 sh_50 rfl rfl (fun _ => Nat.le_of_ble_eq_true rfl) ?_
  refine ps_C.imp ?_ (h1)
  rintro _ σ1 ⟨x, rfl, hx⟩
  exact ps_forget (L' := [none, none, none]) trivial hx
theorem bX8_least_23 {d : Nat} {Q : Option ps_V → ps_S → Prop} {s0 : Int32} {σ : ps_S} (h1 : s0 < 100000000 → Q (some (.inl s0)) σ) (h2 : ¬ s0 < 100000000 → Q (some (.inl (-900009))) σ) : kX8_least_23 d Q s0 σ := by
  refine ps_istore_n (L' := [none, none, some (.inl s0)]) (ps_at tX8_least_ok 12 rfl) rfl (by decide) rfl ?_
  refine ps_iload_n (ps_at tX8_least_ok 13 rfl) rfl rfl ?_
  refine ps_ldc (ps_at tX8_least_ok 14 rfl) cnX8_152 ?_
  refine ps_icmp_lt (tgt := 35) (ps_at tX8_least_ok 15 rfl) (by decide) (fun c0 => ?_) (fun c0 => ?_)
  · skip
    refine ps_iload_n (ps_at tX8_least_ok 18 rfl) rfl rfl ?_
    exact ps_iret (ps_at tX8_least_ok 19 rfl) rfl ⟨rfl, rfl⟩ (h1 c0)
  · skip
    refine ps_ldc (ps_at tX8_least_ok 16 rfl) cnX8_96 ?_
    refine ps_goto (tgt := 36) (ps_at tX8_least_ok 17 rfl) (by decide) ?_
    exact ps_iret (ps_at tX8_least_ok 19 rfl) rfl ⟨rfl, rfl⟩ (h2 c0)
theorem eX8_least {d : Nat} {Q : Option ps_V → ps_S → Prop} {v1 : Int32} {σ : ps_S} (h : kX8_least_0 d Q v1 σ) : ps_C mX8_least (d + 2) [.inr (.inr (50, 0)), .inl v1] σ Q := ps_enter (by decide) rfl ⟨rfl, rfl, rfl⟩ rfl (Nat.le_of_ble_eq_true rfl) h
abbrev kX8_orders_0 (d : Nat) (Q : Option ps_V → ps_S → Prop) (v1 : Int32) (σ : ps_S) : Prop := ps_K mX8_orders (d + 2) (ps_QF Q) 0 [some (.inr (.inr (50, 0))), some (.inl v1)] [] σ
abbrev kX8_orders_15 (d : Nat) (Q : Option ps_V → ps_S → Prop)  (σ : ps_S) : Prop := ps_K mX8_orders (d + 2) (ps_QF Q) 15 [some (.inr (.inr (50, 0))), none] [] σ
abbrev kX8_orders_19 (d : Nat) (Q : Option ps_V → ps_S → Prop)  (σ : ps_S) : Prop := ps_K mX8_orders (d + 2) (ps_QF Q) 19 [some (.inr (.inr (50, 0))), none] [] σ
abbrev kX8_orders_24 (d : Nat) (Q : Option ps_V → ps_S → Prop) (s0 : Int32) (σ : ps_S) : Prop := ps_K mX8_orders (d + 2) (ps_QF Q) 24 [none, none] [.inl s0, .inr (.inr (50, 0))] σ
abbrev kX8_orders_27 (d : Nat) (Q : Option ps_V → ps_S → Prop) (s0 : Int32) (σ : ps_S) : Prop := ps_K mX8_orders (d + 2) (ps_QF Q) 27 [none, none] [.inl s0] σ
theorem bX8_orders_0 {d : Nat} {Q : Option ps_V → ps_S → Prop} {v1 : Int32} {σ : ps_S} (h1 : ¬ (jbIn v1.toInt64 0 5) = 0 → ps_C mX8_layNeeds (d + 1) [.inr (.inr (50, 0)), .inl v1] σ (ps_rv (fun σ1 => kX8_orders_15 d Q σ1))) (h2 : (jbIn v1.toInt64 0 5) = 0 → Q (some (.inl (-900001))) σ) : kX8_orders_0 d Q v1 σ := by
  refine ps_iload_n (ps_at tX8_orders_ok 0 rfl) rfl rfl ?_
  refine ps_callS (M2 := mX8_isForme) (av := [.inl v1]) (rest := []) (ps_at tX8_orders_ok 1 rfl) csX8_109 rfl rfl (fun _ => Nat.le_of_ble_eq_true rfl) (pX8_isForme ?_)
  refine ps_if_ne (tgt := 10) (ps_at tX8_orders_ok 2 rfl) (by decide) (fun c0 => ?_) (fun c0 => ?_)
  · skip
    refine ps_aload_n (ps_at tX8_orders_ok 5 rfl) rfl rfl ?_
    refine ps_iload_n (ps_at tX8_orders_ok 6 rfl) rfl rfl ?_
    refine ps_callV (M2 := mX8_layNeeds) (av := [.inl v1]) (rest := []) (ps_at tX8_orders_ok 7 rfl) cvX8_153 sh_50 rfl rfl (fun _ => Nat.le_of_ble_eq_true rfl) ?_
    refine ps_C.imp ?_ (h1 c0)
    rintro _ σ1 ⟨rfl, hx⟩
    exact ps_forget (L' := [some (.inr (.inr (50, 0))), none]) (And.intro rfl trivial) hx
  · skip
    refine ps_ldc (ps_at tX8_orders_ok 3 rfl) cnX8_112 ?_
    exact ps_iret (ps_at tX8_orders_ok 4 rfl) rfl ⟨rfl, rfl⟩ (h2 c0)
theorem bX8_orders_15 {d : Nat} {Q : Option ps_V → ps_S → Prop}  {σ : ps_S} (h1 : ps_C mX8_layOrders (d + 1) [.inr (.inr (50, 0))] σ (ps_rv (fun σ1 => kX8_orders_19 d Q σ1))) : kX8_orders_15 d Q σ := by
  refine ps_aload_n (ps_at tX8_orders_ok 8 rfl) rfl rfl ?_
  refine ps_callV (M2 := mX8_layOrders) (av := []) (rest := []) (ps_at tX8_orders_ok 9 rfl) cvX8_156 sh_50 rfl rfl (fun _ => Nat.le_of_ble_eq_true rfl) ?_
  refine ps_C.imp ?_ (h1)
  rintro _ σ1 ⟨rfl, hx⟩
  exact hx
theorem bX8_orders_19 {d : Nat} {Q : Option ps_V → ps_S → Prop}  {σ : ps_S} (h1 : ps_C mX8_leastCost (d + 1) [.inr (.inr (50, 0))] σ (ps_ri (fun x σ1 => kX8_orders_24 d Q x σ1))) : kX8_orders_19 d Q σ := by
  refine ps_aload_n (ps_at tX8_orders_ok 10 rfl) rfl rfl ?_
  refine ps_aload_n (ps_at tX8_orders_ok 11 rfl) rfl rfl ?_
  refine ps_callV (M2 := mX8_leastCost) (av := []) (rest := [.inr (.inr (50, 0))]) (ps_at tX8_orders_ok 12 rfl) cvX8_159 sh_50 rfl rfl (fun _ => Nat.le_of_ble_eq_true rfl) ?_
  refine ps_C.imp ?_ (h1)
  rintro _ σ1 ⟨x, rfl, hx⟩
  exact ps_forget (L' := [none, none]) trivial hx
theorem bX8_orders_24 {d : Nat} {Q : Option ps_V → ps_S → Prop} {s0 : Int32} {σ : ps_S} (h1 : ps_C mX8_waysOf (d + 1) [.inr (.inr (50, 0)), .inl s0] σ (ps_ri (fun x σ1 => kX8_orders_27 d Q x σ1))) : kX8_orders_24 d Q s0 σ := by
  refine ps_callV (M2 := mX8_waysOf) (av := [.inl s0]) (rest := []) (ps_at tX8_orders_ok 13 rfl) cvX8_163 sh_50 rfl rfl (fun _ => Nat.le_of_ble_eq_true rfl) ?_
  refine ps_C.imp ?_ (h1)
  rintro _ σ1 ⟨x, rfl, hx⟩
  exact hx
theorem bX8_orders_27 {d : Nat} {Q : Option ps_V → ps_S → Prop} {s0 : Int32} {σ : ps_S} (h1 : Q (some (.inl s0)) σ) : kX8_orders_27 d Q s0 σ := by
  exact ps_iret (ps_at tX8_orders_ok 14 rfl) rfl ⟨rfl, rfl⟩ (h1)
theorem eX8_orders {d : Nat} {Q : Option ps_V → ps_S → Prop} {v1 : Int32} {σ : ps_S} (h : kX8_orders_0 d Q v1 σ) : ps_C mX8_orders (d + 2) [.inr (.inr (50, 0)), .inl v1] σ Q := ps_enter (by decide) rfl ⟨rfl, rfl, rfl⟩ rfl (Nat.le_of_ble_eq_true rfl) h
abbrev kX8_first_0 (d : Nat) (Q : Option ps_V → ps_S → Prop) (v1 : Int32) (v2 : Int32) (σ : ps_S) : Prop := ps_K mX8_first (d + 2) (ps_QF Q) 0 [some (.inr (.inr (50, 0))), some (.inl v1), some (.inl v2), none, none, none, none, none] [] σ
abbrev kX8_first_15 (d : Nat) (Q : Option ps_V → ps_S → Prop) (v2 : Int32) (σ : ps_S) : Prop := ps_K mX8_first (d + 2) (ps_QF Q) 15 [some (.inr (.inr (50, 0))), none, some (.inl v2), none, none, none, none, none] [] σ
abbrev kX8_first_19 (d : Nat) (Q : Option ps_V → ps_S → Prop) (v2 : Int32) (σ : ps_S) : Prop := ps_K mX8_first (d + 2) (ps_QF Q) 19 [some (.inr (.inr (50, 0))), none, some (.inl v2), none, none, none, none, none] [] σ
abbrev kX8_first_23 (d : Nat) (Q : Option ps_V → ps_S → Prop) (v2 : Int32) (s0 : Int32) (σ : ps_S) : Prop := ps_K mX8_first (d + 2) (ps_QF Q) 23 [some (.inr (.inr (50, 0))), none, some (.inl v2), none, none, none, none, none] [.inl s0] σ
abbrev kX8_first_52 (d : Nat) (Q : Option ps_V → ps_S → Prop) (v2 : Int32) (v3 : Int32) (v4 : Int32) (σ : ps_S) : Prop := ps_K mX8_first (d + 2) (ps_QF Q) 52 [some (.inr (.inr (50, 0))), none, some (.inl v2), some (.inl v3), some (.inl v4), none, none, none] [] σ
abbrev kX8_first_96 (d : Nat) (Q : Option ps_V → ps_S → Prop) (v2 : Int32) (v4 : Int32) (v5 : Int32) (v6 : Int32) (σ : ps_S) : Prop := ps_K mX8_first (d + 2) (ps_QF Q) 96 [some (.inr (.inr (50, 0))), none, some (.inl v2), none, some (.inl v4), some (.inl v5), some (.inl v6), none] [] σ
abbrev kX8_first_105 (d : Nat) (Q : Option ps_V → ps_S → Prop) (v2 : Int32) (v4 : Int32) (v5 : Int32) (v6 : Int32) (v7 : Int32) (σ : ps_S) : Prop := ps_K mX8_first (d + 2) (ps_QF Q) 105 [some (.inr (.inr (50, 0))), none, some (.inl v2), none, some (.inl v4), some (.inl v5), some (.inl v6), some (.inl v7)] [] σ
theorem bX8_first_0 {d : Nat} {Q : Option ps_V → ps_S → Prop} {v1 : Int32} {v2 : Int32} {σ : ps_S} (h1 : ¬ (jbIn v1.toInt64 0 5) = 0 → ps_C mX8_layNeeds (d + 1) [.inr (.inr (50, 0)), .inl v1] σ (ps_rv (fun σ1 => kX8_first_15 d Q v2 σ1))) (h2 : (jbIn v1.toInt64 0 5) = 0 → Q (some (.inl (-900001))) σ) : kX8_first_0 d Q v1 v2 σ := by
  refine ps_iload_n (ps_at tX8_first_ok 0 rfl) rfl rfl ?_
  refine ps_callS (M2 := mX8_isForme) (av := [.inl v1]) (rest := []) (ps_at tX8_first_ok 1 rfl) csX8_109 rfl rfl (fun _ => Nat.le_of_ble_eq_true rfl) (pX8_isForme ?_)
  refine ps_if_ne (tgt := 10) (ps_at tX8_first_ok 2 rfl) (by decide) (fun c0 => ?_) (fun c0 => ?_)
  · skip
    refine ps_aload_n (ps_at tX8_first_ok 5 rfl) rfl rfl ?_
    refine ps_iload_n (ps_at tX8_first_ok 6 rfl) rfl rfl ?_
    refine ps_callV (M2 := mX8_layNeeds) (av := [.inl v1]) (rest := []) (ps_at tX8_first_ok 7 rfl) cvX8_153 sh_50 rfl rfl (fun _ => Nat.le_of_ble_eq_true rfl) ?_
    refine ps_C.imp ?_ (h1 c0)
    rintro _ σ1 ⟨rfl, hx⟩
    exact ps_forget (L' := [some (.inr (.inr (50, 0))), none, some (.inl v2), none, none, none, none, none]) (And.intro rfl (And.intro rfl trivial)) hx
  · skip
    refine ps_ldc (ps_at tX8_first_ok 3 rfl) cnX8_112 ?_
    exact ps_iret (ps_at tX8_first_ok 4 rfl) rfl ⟨rfl, rfl⟩ (h2 c0)
theorem bX8_first_15 {d : Nat} {Q : Option ps_V → ps_S → Prop} {v2 : Int32} {σ : ps_S} (h1 : ps_C mX8_layOrders (d + 1) [.inr (.inr (50, 0))] σ (ps_rv (fun σ1 => kX8_first_19 d Q v2 σ1))) : kX8_first_15 d Q v2 σ := by
  refine ps_aload_n (ps_at tX8_first_ok 8 rfl) rfl rfl ?_
  refine ps_callV (M2 := mX8_layOrders) (av := []) (rest := []) (ps_at tX8_first_ok 9 rfl) cvX8_156 sh_50 rfl rfl (fun _ => Nat.le_of_ble_eq_true rfl) ?_
  refine ps_C.imp ?_ (h1)
  rintro _ σ1 ⟨rfl, hx⟩
  exact hx
theorem bX8_first_19 {d : Nat} {Q : Option ps_V → ps_S → Prop} {v2 : Int32} {σ : ps_S} (h1 : ps_C mX8_leastCost (d + 1) [.inr (.inr (50, 0))] σ (ps_ri (fun x σ1 => kX8_first_23 d Q v2 x σ1))) : kX8_first_19 d Q v2 σ := by
  refine ps_aload_n (ps_at tX8_first_ok 10 rfl) rfl rfl ?_
  refine ps_callV (M2 := mX8_leastCost) (av := []) (rest := []) (ps_at tX8_first_ok 11 rfl) cvX8_159 sh_50 rfl rfl (fun _ => Nat.le_of_ble_eq_true rfl) ?_
  refine ps_C.imp ?_ (h1)
  rintro _ σ1 ⟨x, rfl, hx⟩
  exact hx
theorem bX8_first_23 {d : Nat} {Q : Option ps_V → ps_S → Prop} {v2 : Int32} {s0 : Int32} {σ : ps_S} (h1 : 100000000 ≤ s0 → Q (some (.inl (-900009))) σ) (h2 : ¬ 100000000 ≤ s0 → ¬ (jbIn v2.toInt64 0 (((σ 50 0 1) - 1).toInt64)) = 0 → kX8_first_52 d Q v2 s0 0 σ) (h3 : ¬ 100000000 ≤ s0 → (jbIn v2.toInt64 0 (((σ 50 0 1) - 1).toInt64)) = 0 → Q (some (.inl (-900009))) σ) : kX8_first_23 d Q v2 s0 σ := by
  refine ps_istore_n (L' := [some (.inr (.inr (50, 0))), none, some (.inl v2), some (.inl s0), none, none, none, none]) (ps_at tX8_first_ok 12 rfl) rfl (by decide) rfl ?_
  refine ps_iload_n (ps_at tX8_first_ok 13 rfl) rfl rfl ?_
  refine ps_ldc (ps_at tX8_first_ok 14 rfl) cnX8_152 ?_
  refine ps_icmp_ge (tgt := 46) (ps_at tX8_first_ok 15 rfl) (by decide) (fun c0 => ?_) (fun c0 => ?_)
  · skip
    refine ps_ldc (ps_at tX8_first_ok 26 rfl) cnX8_96 ?_
    exact ps_iret (ps_at tX8_first_ok 27 rfl) rfl ⟨rfl, rfl⟩ (h1 c0)
  · skip
    refine ps_iload_n (ps_at tX8_first_ok 16 rfl) rfl rfl ?_
    refine ps_i2l (ps_at tX8_first_ok 17 rfl) ?_
    refine ps_lconst (x := 0) (ps_at tX8_first_ok 18 rfl) (by decide) ?_
    refine ps_aload_n (ps_at tX8_first_ok 19 rfl) rfl rfl ?_
    refine ps_getI (ps_at tX8_first_ok 20 rfl) flX8_131 sh_50 rfl ?_
    refine ps_iconst (x := 1) (ps_at tX8_first_ok 21 rfl) (by decide) ?_
    refine ps_isub (ps_at tX8_first_ok 22 rfl) ?_
    refine ps_i2l (ps_at tX8_first_ok 23 rfl) ?_
    refine ps_callS (M2 := mX8_in) (av := [.inr (.inl v2.toInt64), .inr (.inl 0), .inr (.inl (((σ 50 0 1) - 1).toInt64))]) (rest := []) (ps_at tX8_first_ok 24 rfl) csX8_99 rfl rfl (fun _ => Nat.le_of_ble_eq_true rfl) (pX8_in ?_)
    refine ps_if_ne (tgt := 49) (ps_at tX8_first_ok 25 rfl) (by decide) (fun c1 => ?_) (fun c1 => ?_)
    · skip
      refine ps_iconst (x := 0) (ps_at tX8_first_ok 28 rfl) (by decide) ?_
      refine ps_istore (L' := [some (.inr (.inr (50, 0))), none, some (.inl v2), some (.inl s0), some (.inl 0), none, none, none]) (ps_at tX8_first_ok 29 rfl) (by decide) rfl ?_
      exact h2 c0 c1
    · skip
      refine ps_ldc (ps_at tX8_first_ok 26 rfl) cnX8_96 ?_
      exact ps_iret (ps_at tX8_first_ok 27 rfl) rfl ⟨rfl, rfl⟩ (h3 c0 c1)
theorem bX8_first_52 {d : Nat} {Q : Option ps_V → ps_S → Prop} {v2 : Int32} {v3 : Int32} {v4 : Int32} {σ : ps_S} (h1 : vp_in v4 9) (h2 : ¬ (σ 59 0 v4.toNatClampNeg) = 0 → kX8_first_52 d Q v2 v3 (v4 + 1) σ) (h3 : (σ 59 0 v4.toNatClampNeg) = 0 → vp_in ((9 * ((1 : Int32) <<< (v4 &&& 31))) + v4) 4608) (h4 : (σ 59 0 v4.toNatClampNeg) = 0 → (σ 61 0 ((9 * ((1 : Int32) <<< (v4 &&& 31))) + v4).toNatClampNeg) = v3 → kX8_first_96 d Q v2 v4 ((1 : Int32) <<< (v4 &&& 31)) 0 σ) (h5 : (σ 59 0 v4.toNatClampNeg) = 0 → ¬ (σ 61 0 ((9 * ((1 : Int32) <<< (v4 &&& 31))) + v4).toNatClampNeg) = v3 → kX8_first_52 d Q v2 v3 (v4 + 1) σ) : kX8_first_52 d Q v2 v3 v4 σ := by
  refine ps_aload_n (ps_at tX8_first_ok 30 rfl) rfl rfl ?_
  refine ps_getR (ps_at tX8_first_ok 31 rfl) flX8_32 sh_50 rfl ?_
  refine ps_iload (ps_at tX8_first_ok 32 rfl) rfl ?_
  refine ps_iald (ps_at tX8_first_ok 33 rfl) sh_59 (h1) ?_
  refine ps_if_ne (tgt := 81) (ps_at tX8_first_ok 34 rfl) (by decide) (fun c0 => ?_) (fun c0 => ?_)
  · skip
    refine ps_iinc (L' := [some (.inr (.inr (50, 0))), none, some (.inl v2), some (.inl v3), some (.inl (v4 + 1)), none, none, none]) (y := 1) (ps_at tX8_first_ok 47 rfl) rfl (by decide) (by decide) rfl ?_
    refine ps_goto (tgt := 52) (ps_at tX8_first_ok 48 rfl) (by decide) ?_
    exact h2 c0
  · skip
    refine ps_aload_n (ps_at tX8_first_ok 35 rfl) rfl rfl ?_
    refine ps_getR (ps_at tX8_first_ok 36 rfl) flX8_38 sh_50 rfl ?_
    refine ps_bipush (x := 9) (ps_at tX8_first_ok 37 rfl) (by decide) ?_
    refine ps_iconst (x := 1) (ps_at tX8_first_ok 38 rfl) (by decide) ?_
    refine ps_iload (ps_at tX8_first_ok 39 rfl) rfl ?_
    refine ps_ishl (ps_at tX8_first_ok 40 rfl) ?_
    refine ps_imul (ps_at tX8_first_ok 41 rfl) ?_
    refine ps_iload (ps_at tX8_first_ok 42 rfl) rfl ?_
    refine ps_iadd (ps_at tX8_first_ok 43 rfl) ?_
    refine ps_iald (ps_at tX8_first_ok 44 rfl) sh_61 (h3 c0) ?_
    refine ps_iload_n (ps_at tX8_first_ok 45 rfl) rfl rfl ?_
    refine ps_icmp_eq (tgt := 87) (ps_at tX8_first_ok 46 rfl) (by decide) (fun c1 => ?_) (fun c1 => ?_)
    · skip
      refine ps_iconst (x := 1) (ps_at tX8_first_ok 49 rfl) (by decide) ?_
      refine ps_iload (ps_at tX8_first_ok 50 rfl) rfl ?_
      refine ps_ishl (ps_at tX8_first_ok 51 rfl) ?_
      refine ps_istore (L' := [some (.inr (.inr (50, 0))), none, some (.inl v2), some (.inl v3), some (.inl v4), some (.inl ((1 : Int32) <<< (v4 &&& 31))), none, none]) (ps_at tX8_first_ok 52 rfl) (by decide) rfl ?_
      refine ps_iconst (x := 0) (ps_at tX8_first_ok 53 rfl) (by decide) ?_
      refine ps_istore (L' := [some (.inr (.inr (50, 0))), none, some (.inl v2), some (.inl v3), some (.inl v4), some (.inl ((1 : Int32) <<< (v4 &&& 31))), some (.inl 0), none]) (ps_at tX8_first_ok 54 rfl) (by decide) rfl ?_
      refine ps_forget (L' := [some (.inr (.inr (50, 0))), none, some (.inl v2), none, some (.inl v4), some (.inl ((1 : Int32) <<< (v4 &&& 31))), some (.inl 0), none]) (And.intro rfl (And.intro rfl (And.intro rfl (And.intro rfl (And.intro rfl trivial))))) ?_
      exact h4 c0 c1
    · skip
      refine ps_iinc (L' := [some (.inr (.inr (50, 0))), none, some (.inl v2), some (.inl v3), some (.inl (v4 + 1)), none, none, none]) (y := 1) (ps_at tX8_first_ok 47 rfl) rfl (by decide) (by decide) rfl ?_
      refine ps_goto (tgt := 52) (ps_at tX8_first_ok 48 rfl) (by decide) ?_
      exact h5 c0 c1
theorem bX8_first_96 {d : Nat} {Q : Option ps_V → ps_S → Prop} {v2 : Int32} {v4 : Int32} {v5 : Int32} {v6 : Int32} {σ : ps_S} (h1 : v2 ≤ v6 → Q (some (.inl v4)) σ) (h2 : ¬ v2 ≤ v6 → kX8_first_105 d Q v2 v4 v5 v6 0 σ) : kX8_first_96 d Q v2 v4 v5 v6 σ := by
  refine ps_iload (ps_at tX8_first_ok 55 rfl) rfl ?_
  refine ps_iload_n (ps_at tX8_first_ok 56 rfl) rfl rfl ?_
  refine ps_icmp_ge (tgt := 143) (ps_at tX8_first_ok 57 rfl) (by decide) (fun c0 => ?_) (fun c0 => ?_)
  · skip
    refine ps_iload (ps_at tX8_first_ok 78 rfl) rfl ?_
    exact ps_iret (ps_at tX8_first_ok 79 rfl) rfl ⟨rfl, rfl⟩ (h1 c0)
  · skip
    refine ps_iconst (x := 0) (ps_at tX8_first_ok 58 rfl) (by decide) ?_
    refine ps_istore (L' := [some (.inr (.inr (50, 0))), none, some (.inl v2), none, some (.inl v4), some (.inl v5), some (.inl v6), some (.inl 0)]) (ps_at tX8_first_ok 59 rfl) (by decide) rfl ?_
    exact h2 c0
theorem bX8_first_105 {d : Nat} {Q : Option ps_V → ps_S → Prop} {v2 : Int32} {v4 : Int32} {v5 : Int32} {v6 : Int32} {v7 : Int32} {σ : ps_S} (h1 : ((v5 >>> (v7 &&& 31)) &&& 1) = 0 → vp_in v7 9) (h2 : ((v5 >>> (v7 &&& 31)) &&& 1) = 0 → ((σ 59 0 v7.toNatClampNeg) &&& (v5 ^^^ (-1))) = 0 → vp_in ((9 * v4) + v7) 81) (h3 : ((v5 >>> (v7 &&& 31)) &&& 1) = 0 → ((σ 59 0 v7.toNatClampNeg) &&& (v5 ^^^ (-1))) = 0 → vp_in ((9 * (v5 ||| ((1 : Int32) <<< (v7 &&& 31)))) + v7) 4608) (h4 : ((v5 >>> (v7 &&& 31)) &&& 1) = 0 → ((σ 59 0 v7.toNatClampNeg) &&& (v5 ^^^ (-1))) = 0 → vp_in ((9 * v5) + v4) 4608) (h5 : ¬ (jX8_isNext σ v5 v4 v7) = 0 → kX8_first_96 d Q v2 v7 (v5 ||| ((1 : Int32) <<< (v7 &&& 31))) (v6 + 1) σ) (h6 : (jX8_isNext σ v5 v4 v7) = 0 → kX8_first_105 d Q v2 v4 v5 v6 (v7 + 1) σ) : kX8_first_105 d Q v2 v4 v5 v6 v7 σ := by
  refine ps_aload_n (ps_at tX8_first_ok 60 rfl) rfl rfl ?_
  refine ps_iload (ps_at tX8_first_ok 61 rfl) rfl ?_
  refine ps_iload (ps_at tX8_first_ok 62 rfl) rfl ?_
  refine ps_iload (ps_at tX8_first_ok 63 rfl) rfl ?_
  refine ps_callV (M2 := mX8_isNext) (av := [.inl v5, .inl v4, .inl v7]) (rest := []) (ps_at tX8_first_ok 64 rfl) cvX8_167 sh_50 rfl rfl (fun _ => Nat.le_of_ble_eq_true rfl) (pX8_isNext (h1) (h2) (h3) (h4) ?_)
  refine ps_if_ne (tgt := 124) (ps_at tX8_first_ok 65 rfl) (by decide) (fun c0 => ?_) (fun c0 => ?_)
  · skip
    refine ps_iload (ps_at tX8_first_ok 68 rfl) rfl ?_
    refine ps_istore (L' := [some (.inr (.inr (50, 0))), none, some (.inl v2), none, some (.inl v7), some (.inl v5), some (.inl v6), some (.inl v7)]) (ps_at tX8_first_ok 69 rfl) (by decide) rfl ?_
    refine ps_iload (ps_at tX8_first_ok 70 rfl) rfl ?_
    refine ps_iconst (x := 1) (ps_at tX8_first_ok 71 rfl) (by decide) ?_
    refine ps_iload (ps_at tX8_first_ok 72 rfl) rfl ?_
    refine ps_ishl (ps_at tX8_first_ok 73 rfl) ?_
    refine ps_ior (ps_at tX8_first_ok 74 rfl) ?_
    refine ps_istore (L' := [some (.inr (.inr (50, 0))), none, some (.inl v2), none, some (.inl v7), some (.inl (v5 ||| ((1 : Int32) <<< (v7 &&& 31)))), some (.inl v6), some (.inl v7)]) (ps_at tX8_first_ok 75 rfl) (by decide) rfl ?_
    refine ps_iinc (L' := [some (.inr (.inr (50, 0))), none, some (.inl v2), none, some (.inl v7), some (.inl (v5 ||| ((1 : Int32) <<< (v7 &&& 31)))), some (.inl (v6 + 1)), some (.inl v7)]) (y := 1) (ps_at tX8_first_ok 76 rfl) rfl (by decide) (by decide) rfl ?_
    refine ps_goto (tgt := 96) (ps_at tX8_first_ok 77 rfl) (by decide) ?_
    refine ps_forget (L' := [some (.inr (.inr (50, 0))), none, some (.inl v2), none, some (.inl v7), some (.inl (v5 ||| ((1 : Int32) <<< (v7 &&& 31)))), some (.inl (v6 + 1)), none]) (And.intro rfl (And.intro rfl (And.intro rfl (And.intro rfl (And.intro rfl trivial))))) ?_
    exact h5 c0
  · skip
    refine ps_iinc (L' := [some (.inr (.inr (50, 0))), none, some (.inl v2), none, some (.inl v4), some (.inl v5), some (.inl v6), some (.inl (v7 + 1))]) (y := 1) (ps_at tX8_first_ok 66 rfl) rfl (by decide) (by decide) rfl ?_
    refine ps_goto (tgt := 105) (ps_at tX8_first_ok 67 rfl) (by decide) ?_
    exact h6 c0
theorem eX8_first {d : Nat} {Q : Option ps_V → ps_S → Prop} {v1 : Int32} {v2 : Int32} {σ : ps_S} (h : kX8_first_0 d Q v1 v2 σ) : ps_C mX8_first (d + 2) [.inr (.inr (50, 0)), .inl v1, .inl v2] σ Q := ps_enter (by decide) rfl ⟨rfl, rfl, rfl⟩ rfl (Nat.le_of_ble_eq_true rfl) h
abbrev kX8_before_0 (d : Nat) (Q : Option ps_V → ps_S → Prop) (v1 : Int32) (v2 : Int32) (v3 : Int32) (σ : ps_S) : Prop := ps_K mX8_before (d + 2) (ps_QF Q) 0 [some (.inr (.inr (50, 0))), some (.inl v1), some (.inl v2), some (.inl v3), none] [] σ
abbrev kX8_before_15 (d : Nat) (Q : Option ps_V → ps_S → Prop) (v2 : Int32) (v3 : Int32) (σ : ps_S) : Prop := ps_K mX8_before (d + 2) (ps_QF Q) 15 [some (.inr (.inr (50, 0))), none, some (.inl v2), some (.inl v3), none] [] σ
abbrev kX8_before_62 (d : Nat) (Q : Option ps_V → ps_S → Prop) (v2 : Int32) (v3 : Int32) (σ : ps_S) : Prop := ps_K mX8_before (d + 2) (ps_QF Q) 62 [some (.inr (.inr (50, 0))), none, some (.inl v2), some (.inl v3), none] [] σ
abbrev kX8_before_66 (d : Nat) (Q : Option ps_V → ps_S → Prop) (v2 : Int32) (v3 : Int32) (s0 : Int32) (σ : ps_S) : Prop := ps_K mX8_before (d + 2) (ps_QF Q) 66 [some (.inr (.inr (50, 0))), none, some (.inl v2), some (.inl v3), none] [.inl s0] σ
abbrev kX8_before_84 (d : Nat) (Q : Option ps_V → ps_S → Prop) (v4 : Int32) (σ : ps_S) : Prop := ps_K mX8_before (d + 2) (ps_QF Q) 84 [some (.inr (.inr (50, 0))), none, none, none, some (.inl v4)] [] σ
abbrev kX8_before_88 (d : Nat) (Q : Option ps_V → ps_S → Prop) (v4 : Int32) (s0 : Int32) (σ : ps_S) : Prop := ps_K mX8_before (d + 2) (ps_QF Q) 88 [some (.inr (.inr (50, 0))), none, none, none, some (.inl v4)] [.inl s0] σ
abbrev kX8_before_99 (d : Nat) (Q : Option ps_V → ps_S → Prop) (s0 : Int32) (σ : ps_S) : Prop := ps_K mX8_before (d + 2) (ps_QF Q) 99 [none, none, none, none, none] [.inl s0] σ
theorem bX8_before_0 {d : Nat} {Q : Option ps_V → ps_S → Prop} {v1 : Int32} {v2 : Int32} {v3 : Int32} {σ : ps_S} (h1 : ¬ (jbIn v1.toInt64 0 5) = 0 → ps_C mX8_layNeeds (d + 1) [.inr (.inr (50, 0)), .inl v1] σ (ps_rv (fun σ1 => kX8_before_15 d Q v2 v3 σ1))) (h2 : (jbIn v1.toInt64 0 5) = 0 → Q (some (.inl (-900001))) σ) : kX8_before_0 d Q v1 v2 v3 σ := by
  refine ps_iload_n (ps_at tX8_before_ok 0 rfl) rfl rfl ?_
  refine ps_callS (M2 := mX8_isForme) (av := [.inl v1]) (rest := []) (ps_at tX8_before_ok 1 rfl) csX8_109 rfl rfl (fun _ => Nat.le_of_ble_eq_true rfl) (pX8_isForme ?_)
  refine ps_if_ne (tgt := 10) (ps_at tX8_before_ok 2 rfl) (by decide) (fun c0 => ?_) (fun c0 => ?_)
  · skip
    refine ps_aload_n (ps_at tX8_before_ok 5 rfl) rfl rfl ?_
    refine ps_iload_n (ps_at tX8_before_ok 6 rfl) rfl rfl ?_
    refine ps_callV (M2 := mX8_layNeeds) (av := [.inl v1]) (rest := []) (ps_at tX8_before_ok 7 rfl) cvX8_153 sh_50 rfl rfl (fun _ => Nat.le_of_ble_eq_true rfl) ?_
    refine ps_C.imp ?_ (h1 c0)
    rintro _ σ1 ⟨rfl, hx⟩
    exact ps_forget (L' := [some (.inr (.inr (50, 0))), none, some (.inl v2), some (.inl v3), none]) (And.intro rfl (And.intro rfl (And.intro rfl trivial))) hx
  · skip
    refine ps_ldc (ps_at tX8_before_ok 3 rfl) cnX8_112 ?_
    exact ps_iret (ps_at tX8_before_ok 4 rfl) rfl ⟨rfl, rfl⟩ (h2 c0)
theorem bX8_before_15 {d : Nat} {Q : Option ps_V → ps_S → Prop} {v2 : Int32} {v3 : Int32} {σ : ps_S} (h1 : (jbIn v2.toInt64 0 (((σ 50 0 1) - 1).toInt64)) = 0 → Q (some (.inl (-900001))) σ) (h2 : ¬ (jbIn v2.toInt64 0 (((σ 50 0 1) - 1).toInt64)) = 0 → ¬ (jbIn v3.toInt64 0 (((σ 50 0 1) - 1).toInt64)) = 0 → ¬ v2 = v3 → ps_C mX8_layOrders (d + 1) [.inr (.inr (50, 0))] σ (ps_rv (fun σ1 => kX8_before_62 d Q v2 v3 σ1))) (h3 : ¬ (jbIn v2.toInt64 0 (((σ 50 0 1) - 1).toInt64)) = 0 → ¬ (jbIn v3.toInt64 0 (((σ 50 0 1) - 1).toInt64)) = 0 → v2 = v3 → Q (some (.inl (-900003))) σ) (h4 : ¬ (jbIn v2.toInt64 0 (((σ 50 0 1) - 1).toInt64)) = 0 → (jbIn v3.toInt64 0 (((σ 50 0 1) - 1).toInt64)) = 0 → Q (some (.inl (-900001))) σ) : kX8_before_15 d Q v2 v3 σ := by
  refine ps_iload_n (ps_at tX8_before_ok 8 rfl) rfl rfl ?_
  refine ps_i2l (ps_at tX8_before_ok 9 rfl) ?_
  refine ps_lconst (x := 0) (ps_at tX8_before_ok 10 rfl) (by decide) ?_
  refine ps_aload_n (ps_at tX8_before_ok 11 rfl) rfl rfl ?_
  refine ps_getI (ps_at tX8_before_ok 12 rfl) flX8_131 sh_50 rfl ?_
  refine ps_iconst (x := 1) (ps_at tX8_before_ok 13 rfl) (by decide) ?_
  refine ps_isub (ps_at tX8_before_ok 14 rfl) ?_
  refine ps_i2l (ps_at tX8_before_ok 15 rfl) ?_
  refine ps_callS (M2 := mX8_in) (av := [.inr (.inl v2.toInt64), .inr (.inl 0), .inr (.inl (((σ 50 0 1) - 1).toInt64))]) (rest := []) (ps_at tX8_before_ok 16 rfl) csX8_99 rfl rfl (fun _ => Nat.le_of_ble_eq_true rfl) (pX8_in ?_)
  refine ps_if_eq (tgt := 47) (ps_at tX8_before_ok 17 rfl) (by decide) (fun c0 => ?_) (fun c0 => ?_)
  · skip
    refine ps_ldc (ps_at tX8_before_ok 28 rfl) cnX8_112 ?_
    exact ps_iret (ps_at tX8_before_ok 29 rfl) rfl ⟨rfl, rfl⟩ (h1 c0)
  · skip
    refine ps_iload_n (ps_at tX8_before_ok 18 rfl) rfl rfl ?_
    refine ps_i2l (ps_at tX8_before_ok 19 rfl) ?_
    refine ps_lconst (x := 0) (ps_at tX8_before_ok 20 rfl) (by decide) ?_
    refine ps_aload_n (ps_at tX8_before_ok 21 rfl) rfl rfl ?_
    refine ps_getI (ps_at tX8_before_ok 22 rfl) flX8_131 sh_50 rfl ?_
    refine ps_iconst (x := 1) (ps_at tX8_before_ok 23 rfl) (by decide) ?_
    refine ps_isub (ps_at tX8_before_ok 24 rfl) ?_
    refine ps_i2l (ps_at tX8_before_ok 25 rfl) ?_
    refine ps_callS (M2 := mX8_in) (av := [.inr (.inl v3.toInt64), .inr (.inl 0), .inr (.inl (((σ 50 0 1) - 1).toInt64))]) (rest := []) (ps_at tX8_before_ok 26 rfl) csX8_99 rfl rfl (fun _ => Nat.le_of_ble_eq_true rfl) (pX8_in ?_)
    refine ps_if_ne (tgt := 50) (ps_at tX8_before_ok 27 rfl) (by decide) (fun c1 => ?_) (fun c1 => ?_)
    · skip
      refine ps_iload_n (ps_at tX8_before_ok 30 rfl) rfl rfl ?_
      refine ps_iload_n (ps_at tX8_before_ok 31 rfl) rfl rfl ?_
      refine ps_icmp_ne (tgt := 58) (ps_at tX8_before_ok 32 rfl) (by decide) (fun c2 => ?_) (fun c2 => ?_)
      · skip
        refine ps_aload_n (ps_at tX8_before_ok 35 rfl) rfl rfl ?_
        refine ps_callV (M2 := mX8_layOrders) (av := []) (rest := []) (ps_at tX8_before_ok 36 rfl) cvX8_156 sh_50 rfl rfl (fun _ => Nat.le_of_ble_eq_true rfl) ?_
        refine ps_C.imp ?_ (h2 c0 c1 c2)
        rintro _ σ1 ⟨rfl, hx⟩
        exact hx
      · skip
        refine ps_ldc (ps_at tX8_before_ok 33 rfl) cnX8_148 ?_
        exact ps_iret (ps_at tX8_before_ok 34 rfl) rfl ⟨rfl, rfl⟩ (h3 c0 c1 c2)
    · skip
      refine ps_ldc (ps_at tX8_before_ok 28 rfl) cnX8_112 ?_
      exact ps_iret (ps_at tX8_before_ok 29 rfl) rfl ⟨rfl, rfl⟩ (h4 c0 c1)
theorem bX8_before_62 {d : Nat} {Q : Option ps_V → ps_S → Prop} {v2 : Int32} {v3 : Int32} {σ : ps_S} (h1 : ps_C mX8_leastCost (d + 1) [.inr (.inr (50, 0))] σ (ps_ri (fun x σ1 => kX8_before_66 d Q v2 v3 x σ1))) : kX8_before_62 d Q v2 v3 σ := by
  refine ps_aload_n (ps_at tX8_before_ok 37 rfl) rfl rfl ?_
  refine ps_callV (M2 := mX8_leastCost) (av := []) (rest := []) (ps_at tX8_before_ok 38 rfl) cvX8_159 sh_50 rfl rfl (fun _ => Nat.le_of_ble_eq_true rfl) ?_
  refine ps_C.imp ?_ (h1)
  rintro _ σ1 ⟨x, rfl, hx⟩
  exact hx
theorem bX8_before_66 {d : Nat} {Q : Option ps_V → ps_S → Prop} {v2 : Int32} {v3 : Int32} {s0 : Int32} {σ : ps_S} (h1 : vp_in v3 9) (h2 : ps_C mX8_layOrders (d + 1) [.inr (.inr (50, 0))] (ps_up σ 59 0 v3.toNatClampNeg ((σ 59 0 v3.toNatClampNeg) ||| ((1 : Int32) <<< (v2 &&& 31)))) (ps_rv (fun σ1 => kX8_before_84 d Q s0 σ1))) : kX8_before_66 d Q v2 v3 s0 σ := by
  refine ps_istore (L' := [some (.inr (.inr (50, 0))), none, some (.inl v2), some (.inl v3), some (.inl s0)]) (ps_at tX8_before_ok 39 rfl) (by decide) rfl ?_
  refine ps_aload_n (ps_at tX8_before_ok 40 rfl) rfl rfl ?_
  refine ps_getR (ps_at tX8_before_ok 41 rfl) flX8_32 sh_50 rfl ?_
  refine ps_iload_n (ps_at tX8_before_ok 42 rfl) rfl rfl ?_
  refine ps_dup2 (ps_at tX8_before_ok 43 rfl) ?_
  refine ps_iald (ps_at tX8_before_ok 44 rfl) sh_59 (h1) ?_
  refine ps_iconst (x := 1) (ps_at tX8_before_ok 45 rfl) (by decide) ?_
  refine ps_iload_n (ps_at tX8_before_ok 46 rfl) rfl rfl ?_
  refine ps_ishl (ps_at tX8_before_ok 47 rfl) ?_
  refine ps_ior (ps_at tX8_before_ok 48 rfl) ?_
  refine ps_iast (ps_at tX8_before_ok 49 rfl) sh_59 (h1) ?_
  refine ps_aload_n (ps_at tX8_before_ok 50 rfl) rfl rfl ?_
  refine ps_callV (M2 := mX8_layOrders) (av := []) (rest := []) (ps_at tX8_before_ok 51 rfl) cvX8_156 sh_50 rfl rfl (fun _ => Nat.le_of_ble_eq_true rfl) ?_
  refine ps_C.imp ?_ (h2)
  rintro _ σ1 ⟨rfl, hx⟩
  exact ps_forget (L' := [some (.inr (.inr (50, 0))), none, none, none, some (.inl s0)]) (And.intro rfl (And.intro rfl trivial)) hx
theorem bX8_before_84 {d : Nat} {Q : Option ps_V → ps_S → Prop} {v4 : Int32} {σ : ps_S} (h1 : ps_C mX8_leastCost (d + 1) [.inr (.inr (50, 0))] σ (ps_ri (fun x σ1 => kX8_before_88 d Q v4 x σ1))) : kX8_before_84 d Q v4 σ := by
  refine ps_aload_n (ps_at tX8_before_ok 52 rfl) rfl rfl ?_
  refine ps_callV (M2 := mX8_leastCost) (av := []) (rest := []) (ps_at tX8_before_ok 53 rfl) cvX8_159 sh_50 rfl rfl (fun _ => Nat.le_of_ble_eq_true rfl) ?_
  refine ps_C.imp ?_ (h1)
  rintro _ σ1 ⟨x, rfl, hx⟩
  exact hx
theorem bX8_before_88 {d : Nat} {Q : Option ps_V → ps_S → Prop} {v4 : Int32} {s0 : Int32} {σ : ps_S} (h1 : ¬ s0 = v4 → Q (some (.inl 0)) σ) (h2 : s0 = v4 → ps_C mX8_waysOf (d + 1) [.inr (.inr (50, 0)), .inl v4] σ (ps_ri (fun x σ1 => kX8_before_99 d Q x σ1))) : kX8_before_88 d Q v4 s0 σ := by
  refine ps_iload (ps_at tX8_before_ok 54 rfl) rfl ?_
  refine ps_icmp_ne (tgt := 102) (ps_at tX8_before_ok 55 rfl) (by decide) (fun c0 => ?_) (fun c0 => ?_)
  · skip
    refine ps_iconst (x := 0) (ps_at tX8_before_ok 60 rfl) (by decide) ?_
    exact ps_iret (ps_at tX8_before_ok 61 rfl) rfl ⟨rfl, rfl⟩ (h1 c0)
  · skip
    refine ps_aload_n (ps_at tX8_before_ok 56 rfl) rfl rfl ?_
    refine ps_iload (ps_at tX8_before_ok 57 rfl) rfl ?_
    refine ps_callV (M2 := mX8_waysOf) (av := [.inl v4]) (rest := []) (ps_at tX8_before_ok 58 rfl) cvX8_163 sh_50 rfl rfl (fun _ => Nat.le_of_ble_eq_true rfl) ?_
    refine ps_C.imp ?_ (h2 c0)
    rintro _ σ1 ⟨x, rfl, hx⟩
    exact ps_forget (L' := [none, none, none, none, none]) trivial hx
theorem bX8_before_99 {d : Nat} {Q : Option ps_V → ps_S → Prop} {s0 : Int32} {σ : ps_S} (h1 : Q (some (.inl s0)) σ) : kX8_before_99 d Q s0 σ := by
  refine ps_goto (tgt := 103) (ps_at tX8_before_ok 59 rfl) (by decide) ?_
  exact ps_iret (ps_at tX8_before_ok 61 rfl) rfl ⟨rfl, rfl⟩ (h1)
theorem eX8_before {d : Nat} {Q : Option ps_V → ps_S → Prop} {v1 : Int32} {v2 : Int32} {v3 : Int32} {σ : ps_S} (h : kX8_before_0 d Q v1 v2 v3 σ) : ps_C mX8_before (d + 2) [.inr (.inr (50, 0)), .inl v1, .inl v2, .inl v3] σ Q := ps_enter (by decide) rfl ⟨rfl, rfl, rfl⟩ rfl (Nat.le_of_ble_eq_true rfl) h
abbrev kX8_piece_0 (d : Nat) (Q : Option ps_V → ps_S → Prop) (v1 : Int32) (v2 : Int32) (v3 : Int32) (σ : ps_S) : Prop := ps_K mX8_piece (d + 2) (ps_QF Q) 0 [some (.inr (.inr (50, 0))), some (.inl v1), some (.inl v2), some (.inl v3), none] [] σ
abbrev kX8_piece_41 (d : Nat) (Q : Option ps_V → ps_S → Prop) (v1 : Int32) (v2 : Int32) (v3 : Int32) (σ : ps_S) : Prop := ps_K mX8_piece (d + 2) (ps_QF Q) 41 [some (.inr (.inr (50, 0))), some (.inl v1), some (.inl v2), some (.inl v3), none] [] σ
theorem bX8_piece_0 {d : Nat} {Q : Option ps_V → ps_S → Prop} {v1 : Int32} {v2 : Int32} {v3 : Int32} {σ : ps_S} (h1 : (jbIn v1.toInt64 0 15) = 0 → Q (some (.inl (-900001))) σ) (h2 : ¬ (jbIn v1.toInt64 0 15) = 0 → ¬ (jbIn v2.toInt64 0 5) = 0 → v3 = (-900009) → kX8_piece_41 d Q v1 v2 v3 σ) (h3 : ¬ (jbIn v1.toInt64 0 15) = 0 → ¬ (jbIn v2.toInt64 0 5) = 0 → ¬ v3 = (-900009) → ¬ (jbIn v3.toInt64 0 1) = 0 → kX8_piece_41 d Q v1 v2 v3 σ) (h4 : ¬ (jbIn v1.toInt64 0 15) = 0 → ¬ (jbIn v2.toInt64 0 5) = 0 → ¬ v3 = (-900009) → (jbIn v3.toInt64 0 1) = 0 → Q (some (.inl (-900002))) σ) (h5 : ¬ (jbIn v1.toInt64 0 15) = 0 → (jbIn v2.toInt64 0 5) = 0 → Q (some (.inl (-900001))) σ) : kX8_piece_0 d Q v1 v2 v3 σ := by
  refine ps_iload_n (ps_at tX8_piece_ok 0 rfl) rfl rfl ?_
  refine ps_i2l (ps_at tX8_piece_ok 1 rfl) ?_
  refine ps_lconst (x := 0) (ps_at tX8_piece_ok 2 rfl) (by decide) ?_
  refine ps_ldc2 (ps_at tX8_piece_ok 3 rfl) clX8_170 ?_
  refine ps_callS (M2 := mX8_in) (av := [.inr (.inl v1.toInt64), .inr (.inl 0), .inr (.inl 15)]) (rest := []) (ps_at tX8_piece_ok 4 rfl) csX8_99 rfl rfl (fun _ => Nat.le_of_ble_eq_true rfl) (pX8_in ?_)
  refine ps_if_eq (tgt := 19) (ps_at tX8_piece_ok 5 rfl) (by decide) (fun c0 => ?_) (fun c0 => ?_)
  · skip
    refine ps_ldc (ps_at tX8_piece_ok 9 rfl) cnX8_112 ?_
    exact ps_iret (ps_at tX8_piece_ok 10 rfl) rfl ⟨rfl, rfl⟩ (h1 c0)
  · skip
    refine ps_iload_n (ps_at tX8_piece_ok 6 rfl) rfl rfl ?_
    refine ps_callS (M2 := mX8_isForme) (av := [.inl v2]) (rest := []) (ps_at tX8_piece_ok 7 rfl) csX8_109 rfl rfl (fun _ => Nat.le_of_ble_eq_true rfl) (pX8_isForme ?_)
    refine ps_if_ne (tgt := 22) (ps_at tX8_piece_ok 8 rfl) (by decide) (fun c1 => ?_) (fun c1 => ?_)
    · skip
      refine ps_iload_n (ps_at tX8_piece_ok 11 rfl) rfl rfl ?_
      refine ps_ldc (ps_at tX8_piece_ok 12 rfl) cnX8_96 ?_
      refine ps_icmp_eq (tgt := 41) (ps_at tX8_piece_ok 13 rfl) (by decide) (fun c2 => ?_) (fun c2 => ?_)
      · skip
        exact h2 c0 c1 c2
      · skip
        refine ps_iload_n (ps_at tX8_piece_ok 14 rfl) rfl rfl ?_
        refine ps_i2l (ps_at tX8_piece_ok 15 rfl) ?_
        refine ps_lconst (x := 0) (ps_at tX8_piece_ok 16 rfl) (by decide) ?_
        refine ps_lconst (x := 1) (ps_at tX8_piece_ok 17 rfl) (by decide) ?_
        refine ps_callS (M2 := mX8_in) (av := [.inr (.inl v3.toInt64), .inr (.inl 0), .inr (.inl 1)]) (rest := []) (ps_at tX8_piece_ok 18 rfl) csX8_99 rfl rfl (fun _ => Nat.le_of_ble_eq_true rfl) (pX8_in ?_)
        refine ps_if_ne (tgt := 41) (ps_at tX8_piece_ok 19 rfl) (by decide) (fun c3 => ?_) (fun c3 => ?_)
        · skip
          exact h3 c0 c1 c2 c3
        · skip
          refine ps_ldc (ps_at tX8_piece_ok 20 rfl) cnX8_115 ?_
          exact ps_iret (ps_at tX8_piece_ok 21 rfl) rfl ⟨rfl, rfl⟩ (h4 c0 c1 c2 c3)
    · skip
      refine ps_ldc (ps_at tX8_piece_ok 9 rfl) cnX8_112 ?_
      exact ps_iret (ps_at tX8_piece_ok 10 rfl) rfl ⟨rfl, rfl⟩ (h5 c0 c1)
theorem bX8_piece_41 {d : Nat} {Q : Option ps_V → ps_S → Prop} {v1 : Int32} {v2 : Int32} {v3 : Int32} {σ : ps_S} (h1 : vp_in ((6 * v1) + v2) 96) (h2 : Q (some (.inl (σ 63 0 ((6 * v1) + v2).toNatClampNeg))) (ps_up σ 63 0 ((6 * v1) + v2).toNatClampNeg v3)) : kX8_piece_41 d Q v1 v2 v3 σ := by
  refine ps_aload_n (ps_at tX8_piece_ok 22 rfl) rfl rfl ?_
  refine ps_getR (ps_at tX8_piece_ok 23 rfl) flX8_44 sh_50 rfl ?_
  refine ps_bipush (x := 6) (ps_at tX8_piece_ok 24 rfl) (by decide) ?_
  refine ps_iload_n (ps_at tX8_piece_ok 25 rfl) rfl rfl ?_
  refine ps_imul (ps_at tX8_piece_ok 26 rfl) ?_
  refine ps_iload_n (ps_at tX8_piece_ok 27 rfl) rfl rfl ?_
  refine ps_iadd (ps_at tX8_piece_ok 28 rfl) ?_
  refine ps_iald (ps_at tX8_piece_ok 29 rfl) sh_63 (h1) ?_
  refine ps_istore (L' := [some (.inr (.inr (50, 0))), some (.inl v1), some (.inl v2), some (.inl v3), some (.inl (σ 63 0 ((6 * v1) + v2).toNatClampNeg))]) (ps_at tX8_piece_ok 30 rfl) (by decide) rfl ?_
  refine ps_aload_n (ps_at tX8_piece_ok 31 rfl) rfl rfl ?_
  refine ps_getR (ps_at tX8_piece_ok 32 rfl) flX8_44 sh_50 rfl ?_
  refine ps_bipush (x := 6) (ps_at tX8_piece_ok 33 rfl) (by decide) ?_
  refine ps_iload_n (ps_at tX8_piece_ok 34 rfl) rfl rfl ?_
  refine ps_imul (ps_at tX8_piece_ok 35 rfl) ?_
  refine ps_iload_n (ps_at tX8_piece_ok 36 rfl) rfl rfl ?_
  refine ps_iadd (ps_at tX8_piece_ok 37 rfl) ?_
  refine ps_iload_n (ps_at tX8_piece_ok 38 rfl) rfl rfl ?_
  refine ps_iast (ps_at tX8_piece_ok 39 rfl) sh_63 (h1) ?_
  refine ps_iload (ps_at tX8_piece_ok 40 rfl) rfl ?_
  exact ps_iret (ps_at tX8_piece_ok 41 rfl) rfl ⟨rfl, rfl⟩ (h2)
theorem eX8_piece {d : Nat} {Q : Option ps_V → ps_S → Prop} {v1 : Int32} {v2 : Int32} {v3 : Int32} {σ : ps_S} (h : kX8_piece_0 d Q v1 v2 v3 σ) : ps_C mX8_piece (d + 2) [.inr (.inr (50, 0)), .inl v1, .inl v2, .inl v3] σ Q := ps_enter (by decide) rfl ⟨rfl, rfl, rfl⟩ rfl (Nat.le_of_ble_eq_true rfl) h
abbrev kX8_share_0 (d : Nat) (Q : Option ps_V → ps_S → Prop) (v1 : Int32) (v2 : Int32) (σ : ps_S) : Prop := ps_K mX8_share (d + 2) (ps_QF Q) 0 [some (.inr (.inr (50, 0))), some (.inl v1), some (.inl v2)] [] σ
theorem bX8_share_0 {d : Nat} {Q : Option ps_V → ps_S → Prop} {v1 : Int32} {v2 : Int32} {σ : ps_S} (h1 : (jbIn v1.toInt64 0 5) = 0 → Q (some (.inl (-900001))) σ) (h2 : ¬ (jbIn v1.toInt64 0 5) = 0 → ¬ (jbIn v2.toInt64 0 5) = 0 → vp_in v1 6) (h3 : ¬ (jbIn v1.toInt64 0 5) = 0 → ¬ (jbIn v2.toInt64 0 5) = 0 → vp_in v2 6) (h4 : ¬ (jbIn v1.toInt64 0 5) = 0 → ¬ (jbIn v2.toInt64 0 5) = 0 → (jbP (mSh σ v1.toNatClampNeg v2.toNatClampNeg)) = 0 → Q (some (.inl 0)) σ) (h5 : ¬ (jbIn v1.toInt64 0 5) = 0 → ¬ (jbIn v2.toInt64 0 5) = 0 → ¬ (jbP (mSh σ v1.toNatClampNeg v2.toNatClampNeg)) = 0 → Q (some (.inl 1)) σ) (h6 : ¬ (jbIn v1.toInt64 0 5) = 0 → (jbIn v2.toInt64 0 5) = 0 → Q (some (.inl (-900001))) σ) : kX8_share_0 d Q v1 v2 σ := by
  refine ps_iload_n (ps_at tX8_share_ok 0 rfl) rfl rfl ?_
  refine ps_callS (M2 := mX8_isForme) (av := [.inl v1]) (rest := []) (ps_at tX8_share_ok 1 rfl) csX8_109 rfl rfl (fun _ => Nat.le_of_ble_eq_true rfl) (pX8_isForme ?_)
  refine ps_if_eq (tgt := 14) (ps_at tX8_share_ok 2 rfl) (by decide) (fun c0 => ?_) (fun c0 => ?_)
  · skip
    refine ps_ldc (ps_at tX8_share_ok 6 rfl) cnX8_112 ?_
    refine ps_goto (tgt := 33) (ps_at tX8_share_ok 7 rfl) (by decide) ?_
    exact ps_iret (ps_at tX8_share_ok 16 rfl) rfl ⟨rfl, rfl⟩ (h1 c0)
  · skip
    refine ps_iload_n (ps_at tX8_share_ok 3 rfl) rfl rfl ?_
    refine ps_callS (M2 := mX8_isForme) (av := [.inl v2]) (rest := []) (ps_at tX8_share_ok 4 rfl) csX8_109 rfl rfl (fun _ => Nat.le_of_ble_eq_true rfl) (pX8_isForme ?_)
    refine ps_if_ne (tgt := 19) (ps_at tX8_share_ok 5 rfl) (by decide) (fun c1 => ?_) (fun c1 => ?_)
    · skip
      refine ps_aload_n (ps_at tX8_share_ok 8 rfl) rfl rfl ?_
      refine ps_iload_n (ps_at tX8_share_ok 9 rfl) rfl rfl ?_
      refine ps_iload_n (ps_at tX8_share_ok 10 rfl) rfl rfl ?_
      refine ps_callV (M2 := mX8_shares) (av := [.inl v1, .inl v2]) (rest := []) (ps_at tX8_share_ok 11 rfl) cvX8_172 sh_50 rfl rfl (fun _ => Nat.le_of_ble_eq_true rfl) (pX8_shares (h2 c0 c1) (h3 c0 c1) ?_)
      refine ps_if_eq (tgt := 32) (ps_at tX8_share_ok 12 rfl) (by decide) (fun c2 => ?_) (fun c2 => ?_)
      · skip
        refine ps_iconst (x := 0) (ps_at tX8_share_ok 15 rfl) (by decide) ?_
        exact ps_iret (ps_at tX8_share_ok 16 rfl) rfl ⟨rfl, rfl⟩ (h4 c0 c1 c2)
      · skip
        refine ps_iconst (x := 1) (ps_at tX8_share_ok 13 rfl) (by decide) ?_
        refine ps_goto (tgt := 33) (ps_at tX8_share_ok 14 rfl) (by decide) ?_
        exact ps_iret (ps_at tX8_share_ok 16 rfl) rfl ⟨rfl, rfl⟩ (h5 c0 c1 c2)
    · skip
      refine ps_ldc (ps_at tX8_share_ok 6 rfl) cnX8_112 ?_
      refine ps_goto (tgt := 33) (ps_at tX8_share_ok 7 rfl) (by decide) ?_
      exact ps_iret (ps_at tX8_share_ok 16 rfl) rfl ⟨rfl, rfl⟩ (h6 c0 c1)
theorem eX8_share {d : Nat} {Q : Option ps_V → ps_S → Prop} {v1 : Int32} {v2 : Int32} {σ : ps_S} (h : kX8_share_0 d Q v1 v2 σ) : ps_C mX8_share (d + 2) [.inr (.inr (50, 0)), .inl v1, .inl v2] σ Q := ps_enter (by decide) rfl ⟨rfl, rfl, rfl⟩ rfl (Nat.le_of_ble_eq_true rfl) h
abbrev kX8_layMusts_0 (d : Nat) (Q : Option ps_V → ps_S → Prop)  (σ : ps_S) : Prop := ps_K mX8_layMusts d (ps_QF Q) 0 [some (.inr (.inr (50, 0))), none, none] [] σ
abbrev kX8_layMusts_2 (d : Nat) (Q : Option ps_V → ps_S → Prop) (v1 : Int32) (σ : ps_S) : Prop := ps_K mX8_layMusts d (ps_QF Q) 2 [some (.inr (.inr (50, 0))), some (.inl v1), none] [] σ
abbrev kX8_layMusts_83 (d : Nat) (Q : Option ps_V → ps_S → Prop) (v1 : Int32) (σ : ps_S) : Prop := ps_K mX8_layMusts d (ps_QF Q) 83 [some (.inr (.inr (50, 0))), some (.inl v1), none] [] σ
abbrev kX8_layMusts_17 (d : Nat) (Q : Option ps_V → ps_S → Prop) (v1 : Int32) (v2 : Int32) (σ : ps_S) : Prop := ps_K mX8_layMusts d (ps_QF Q) 17 [some (.inr (.inr (50, 0))), some (.inl v1), some (.inl v2)] [] σ
abbrev kX8_layMusts_91 (d : Nat) (Q : Option ps_V → ps_S → Prop) (v1 : Int32) (v2 : Int32) (σ : ps_S) : Prop := ps_K mX8_layMusts d (ps_QF Q) 91 [some (.inr (.inr (50, 0))), some (.inl v1), some (.inl v2)] [] σ
theorem bX8_layMusts_0 {d : Nat} {Q : Option ps_V → ps_S → Prop}  {σ : ps_S} (h1 : kX8_layMusts_2 d Q 0 σ) : kX8_layMusts_0 d Q σ := by
  refine ps_iconst (x := 0) (ps_at tX8_layMusts_ok 0 rfl) (by decide) ?_
  refine ps_istore_n (L' := [some (.inr (.inr (50, 0))), some (.inl 0), none]) (ps_at tX8_layMusts_ok 1 rfl) rfl (by decide) rfl ?_
  exact h1
theorem bX8_layMusts_2 {d : Nat} {Q : Option ps_V → ps_S → Prop} {v1 : Int32} {σ : ps_S} (h1 : 6 ≤ v1 → kX8_layMusts_83 d Q 0 σ) (h2 : ¬ 6 ≤ v1 → vp_in v1 6) (h3 : ¬ 6 ≤ v1 → kX8_layMusts_17 d Q v1 0 (ps_up σ 65 0 v1.toNatClampNeg 0)) : kX8_layMusts_2 d Q v1 σ := by
  refine ps_iload_n (ps_at tX8_layMusts_ok 2 rfl) rfl rfl ?_
  refine ps_bipush (x := 6) (ps_at tX8_layMusts_ok 3 rfl) (by decide) ?_
  refine ps_icmp_ge (tgt := 81) (ps_at tX8_layMusts_ok 4 rfl) (by decide) (fun c0 => ?_) (fun c0 => ?_)
  · skip
    refine ps_iconst (x := 0) (ps_at tX8_layMusts_ok 50 rfl) (by decide) ?_
    refine ps_istore_n (L' := [some (.inr (.inr (50, 0))), some (.inl 0), none]) (ps_at tX8_layMusts_ok 51 rfl) rfl (by decide) rfl ?_
    exact h1 c0
  · skip
    refine ps_aload_n (ps_at tX8_layMusts_ok 5 rfl) rfl rfl ?_
    refine ps_getR (ps_at tX8_layMusts_ok 6 rfl) flX8_51 sh_50 rfl ?_
    refine ps_iload_n (ps_at tX8_layMusts_ok 7 rfl) rfl rfl ?_
    refine ps_iconst (x := 0) (ps_at tX8_layMusts_ok 8 rfl) (by decide) ?_
    refine ps_iast (ps_at tX8_layMusts_ok 9 rfl) sh_65 (h2 c0) ?_
    refine ps_iconst (x := 0) (ps_at tX8_layMusts_ok 10 rfl) (by decide) ?_
    refine ps_istore_n (L' := [some (.inr (.inr (50, 0))), some (.inl v1), some (.inl 0)]) (ps_at tX8_layMusts_ok 11 rfl) rfl (by decide) rfl ?_
    exact h3 c0
theorem bX8_layMusts_83 {d : Nat} {Q : Option ps_V → ps_S → Prop} {v1 : Int32} {σ : ps_S} (h1 : 6 ≤ v1 → Q none σ) (h2 : ¬ 6 ≤ v1 → kX8_layMusts_91 d Q v1 0 σ) : kX8_layMusts_83 d Q v1 σ := by
  refine ps_iload_n (ps_at tX8_layMusts_ok 52 rfl) rfl rfl ?_
  refine ps_bipush (x := 6) (ps_at tX8_layMusts_ok 53 rfl) (by decide) ?_
  refine ps_icmp_ge (tgt := 154) (ps_at tX8_layMusts_ok 54 rfl) (by decide) (fun c0 => ?_) (fun c0 => ?_)
  · skip
    exact ps_vret (ps_at tX8_layMusts_ok 95 rfl) rfl ⟨rfl, rfl⟩ (h1 c0)
  · skip
    refine ps_iconst (x := 0) (ps_at tX8_layMusts_ok 55 rfl) (by decide) ?_
    refine ps_istore_n (L' := [some (.inr (.inr (50, 0))), some (.inl v1), some (.inl 0)]) (ps_at tX8_layMusts_ok 56 rfl) rfl (by decide) rfl ?_
    exact h2 c0
theorem bX8_layMusts_17 {d : Nat} {Q : Option ps_V → ps_S → Prop} {v1 : Int32} {v2 : Int32} {σ : ps_S} (h1 : 96 ≤ v2 → kX8_layMusts_2 d Q (v1 + 1) σ) (h2 : ¬ 96 ≤ v2 → vp_in v1 6) (h3 : ¬ 96 ≤ v2 → vp_in (((v2 / 6) * 6) + v1) 96) (h4 : ¬ 96 ≤ v2 → ¬ (σ 63 0 (((v2 / 6) * 6) + v1).toNatClampNeg) = 0 → kX8_layMusts_17 d Q v1 (v2 + 1) (ps_up σ 65 0 v1.toNatClampNeg ((σ 65 0 v1.toNatClampNeg) ||| 0))) (h5 : ¬ 96 ≤ v2 → (σ 63 0 (((v2 / 6) * 6) + v1).toNatClampNeg) = 0 → vp_in v2 96) (h6 : ¬ 96 ≤ v2 → (σ 63 0 (((v2 / 6) * 6) + v1).toNatClampNeg) = 0 → ¬ (σ 63 0 v2.toNatClampNeg) = 1 → kX8_layMusts_17 d Q v1 (v2 + 1) (ps_up σ 65 0 v1.toNatClampNeg ((σ 65 0 v1.toNatClampNeg) ||| 0))) (h7 : ¬ 96 ≤ v2 → (σ 63 0 (((v2 / 6) * 6) + v1).toNatClampNeg) = 0 → (σ 63 0 v2.toNatClampNeg) = 1 → kX8_layMusts_17 d Q v1 (v2 + 1) (ps_up σ 65 0 v1.toNatClampNeg ((σ 65 0 v1.toNatClampNeg) ||| ((1 : Int32) <<< ((v2 - v2 / 6 * 6) &&& 31))))) : kX8_layMusts_17 d Q v1 v2 σ := by
  refine ps_iload_n (ps_at tX8_layMusts_ok 12 rfl) rfl rfl ?_
  refine ps_bipush (x := 96) (ps_at tX8_layMusts_ok 13 rfl) (by decide) ?_
  refine ps_icmp_ge (tgt := 75) (ps_at tX8_layMusts_ok 14 rfl) (by decide) (fun c0 => ?_) (fun c0 => ?_)
  · skip
    refine ps_iinc (L' := [some (.inr (.inr (50, 0))), some (.inl (v1 + 1)), some (.inl v2)]) (y := 1) (ps_at tX8_layMusts_ok 48 rfl) rfl (by decide) (by decide) rfl ?_
    refine ps_goto (tgt := 2) (ps_at tX8_layMusts_ok 49 rfl) (by decide) ?_
    refine ps_forget (L' := [some (.inr (.inr (50, 0))), some (.inl (v1 + 1)), none]) (And.intro rfl (And.intro rfl trivial)) ?_
    exact h1 c0
  · skip
    refine ps_aload_n (ps_at tX8_layMusts_ok 15 rfl) rfl rfl ?_
    refine ps_getR (ps_at tX8_layMusts_ok 16 rfl) flX8_51 sh_50 rfl ?_
    refine ps_iload_n (ps_at tX8_layMusts_ok 17 rfl) rfl rfl ?_
    refine ps_dup2 (ps_at tX8_layMusts_ok 18 rfl) ?_
    refine ps_iald (ps_at tX8_layMusts_ok 19 rfl) sh_65 (h2 c0) ?_
    refine ps_aload_n (ps_at tX8_layMusts_ok 20 rfl) rfl rfl ?_
    refine ps_getR (ps_at tX8_layMusts_ok 21 rfl) flX8_44 sh_50 rfl ?_
    refine ps_iload_n (ps_at tX8_layMusts_ok 22 rfl) rfl rfl ?_
    refine ps_bipush (x := 6) (ps_at tX8_layMusts_ok 23 rfl) (by decide) ?_
    refine ps_idiv (ps_at tX8_layMusts_ok 24 rfl) (by decide) ?_
    refine ps_bipush (x := 6) (ps_at tX8_layMusts_ok 25 rfl) (by decide) ?_
    refine ps_imul (ps_at tX8_layMusts_ok 26 rfl) ?_
    refine ps_iload_n (ps_at tX8_layMusts_ok 27 rfl) rfl rfl ?_
    refine ps_iadd (ps_at tX8_layMusts_ok 28 rfl) ?_
    refine ps_iald (ps_at tX8_layMusts_ok 29 rfl) sh_63 (h3 c0) ?_
    refine ps_if_ne (tgt := 66) (ps_at tX8_layMusts_ok 30 rfl) (by decide) (fun c1 => ?_) (fun c1 => ?_)
    · skip
      refine ps_iconst (x := 0) (ps_at tX8_layMusts_ok 43 rfl) (by decide) ?_
      refine ps_ior (ps_at tX8_layMusts_ok 44 rfl) ?_
      refine ps_iast (ps_at tX8_layMusts_ok 45 rfl) sh_65 (h2 c0) ?_
      refine ps_iinc (L' := [some (.inr (.inr (50, 0))), some (.inl v1), some (.inl (v2 + 1))]) (y := 1) (ps_at tX8_layMusts_ok 46 rfl) rfl (by decide) (by decide) rfl ?_
      refine ps_goto (tgt := 17) (ps_at tX8_layMusts_ok 47 rfl) (by decide) ?_
      exact h4 c0 c1
    · skip
      refine ps_aload_n (ps_at tX8_layMusts_ok 31 rfl) rfl rfl ?_
      refine ps_getR (ps_at tX8_layMusts_ok 32 rfl) flX8_44 sh_50 rfl ?_
      refine ps_iload_n (ps_at tX8_layMusts_ok 33 rfl) rfl rfl ?_
      refine ps_iald (ps_at tX8_layMusts_ok 34 rfl) sh_63 (h5 c0 c1) ?_
      refine ps_iconst (x := 1) (ps_at tX8_layMusts_ok 35 rfl) (by decide) ?_
      refine ps_icmp_ne (tgt := 66) (ps_at tX8_layMusts_ok 36 rfl) (by decide) (fun c2 => ?_) (fun c2 => ?_)
      · skip
        refine ps_iconst (x := 0) (ps_at tX8_layMusts_ok 43 rfl) (by decide) ?_
        refine ps_ior (ps_at tX8_layMusts_ok 44 rfl) ?_
        refine ps_iast (ps_at tX8_layMusts_ok 45 rfl) sh_65 (h2 c0) ?_
        refine ps_iinc (L' := [some (.inr (.inr (50, 0))), some (.inl v1), some (.inl (v2 + 1))]) (y := 1) (ps_at tX8_layMusts_ok 46 rfl) rfl (by decide) (by decide) rfl ?_
        refine ps_goto (tgt := 17) (ps_at tX8_layMusts_ok 47 rfl) (by decide) ?_
        exact h6 c0 c1 c2
      · skip
        refine ps_iconst (x := 1) (ps_at tX8_layMusts_ok 37 rfl) (by decide) ?_
        refine ps_iload_n (ps_at tX8_layMusts_ok 38 rfl) rfl rfl ?_
        refine ps_bipush (x := 6) (ps_at tX8_layMusts_ok 39 rfl) (by decide) ?_
        refine ps_irem (ps_at tX8_layMusts_ok 40 rfl) (by decide) ?_
        refine ps_ishl (ps_at tX8_layMusts_ok 41 rfl) ?_
        refine ps_goto (tgt := 67) (ps_at tX8_layMusts_ok 42 rfl) (by decide) ?_
        refine ps_ior (ps_at tX8_layMusts_ok 44 rfl) ?_
        refine ps_iast (ps_at tX8_layMusts_ok 45 rfl) sh_65 (h2 c0) ?_
        refine ps_iinc (L' := [some (.inr (.inr (50, 0))), some (.inl v1), some (.inl (v2 + 1))]) (y := 1) (ps_at tX8_layMusts_ok 46 rfl) rfl (by decide) (by decide) rfl ?_
        refine ps_goto (tgt := 17) (ps_at tX8_layMusts_ok 47 rfl) (by decide) ?_
        exact h7 c0 c1 c2
theorem bX8_layMusts_91 {d : Nat} {Q : Option ps_V → ps_S → Prop} {v1 : Int32} {v2 : Int32} {σ : ps_S} (h1 : 36 ≤ v2 → kX8_layMusts_83 d Q (v1 + 1) σ) (h2 : ¬ 36 ≤ v2 → vp_in (v2 / 6) 6) (h3 : ¬ 36 ≤ v2 → ¬ (((σ 65 0 (v2 / 6).toNatClampNeg) >>> ((v2 - v2 / 6 * 6) &&& 31)) &&& 1) = 1 → kX8_layMusts_91 d Q v1 (v2 + 1) (ps_up σ 65 0 (v2 / 6).toNatClampNeg ((σ 65 0 (v2 / 6).toNatClampNeg) ||| 0))) (h4 : ¬ 36 ≤ v2 → (((σ 65 0 (v2 / 6).toNatClampNeg) >>> ((v2 - v2 / 6 * 6) &&& 31)) &&& 1) = 1 → vp_in (v2 - v2 / 6 * 6) 6) (h5 : ¬ 36 ≤ v2 → (((σ 65 0 (v2 / 6).toNatClampNeg) >>> ((v2 - v2 / 6 * 6) &&& 31)) &&& 1) = 1 → kX8_layMusts_91 d Q v1 (v2 + 1) (ps_up σ 65 0 (v2 / 6).toNatClampNeg ((σ 65 0 (v2 / 6).toNatClampNeg) ||| (σ 65 0 (v2 - v2 / 6 * 6).toNatClampNeg)))) : kX8_layMusts_91 d Q v1 v2 σ := by
  refine ps_iload_n (ps_at tX8_layMusts_ok 57 rfl) rfl rfl ?_
  refine ps_bipush (x := 36) (ps_at tX8_layMusts_ok 58 rfl) (by decide) ?_
  refine ps_icmp_ge (tgt := 148) (ps_at tX8_layMusts_ok 59 rfl) (by decide) (fun c0 => ?_) (fun c0 => ?_)
  · skip
    refine ps_iinc (L' := [some (.inr (.inr (50, 0))), some (.inl (v1 + 1)), some (.inl v2)]) (y := 1) (ps_at tX8_layMusts_ok 93 rfl) rfl (by decide) (by decide) rfl ?_
    refine ps_goto (tgt := 83) (ps_at tX8_layMusts_ok 94 rfl) (by decide) ?_
    refine ps_forget (L' := [some (.inr (.inr (50, 0))), some (.inl (v1 + 1)), none]) (And.intro rfl (And.intro rfl trivial)) ?_
    exact h1 c0
  · skip
    refine ps_aload_n (ps_at tX8_layMusts_ok 60 rfl) rfl rfl ?_
    refine ps_getR (ps_at tX8_layMusts_ok 61 rfl) flX8_51 sh_50 rfl ?_
    refine ps_iload_n (ps_at tX8_layMusts_ok 62 rfl) rfl rfl ?_
    refine ps_bipush (x := 6) (ps_at tX8_layMusts_ok 63 rfl) (by decide) ?_
    refine ps_idiv (ps_at tX8_layMusts_ok 64 rfl) (by decide) ?_
    refine ps_dup2 (ps_at tX8_layMusts_ok 65 rfl) ?_
    refine ps_iald (ps_at tX8_layMusts_ok 66 rfl) sh_65 (h2 c0) ?_
    refine ps_aload_n (ps_at tX8_layMusts_ok 67 rfl) rfl rfl ?_
    refine ps_getR (ps_at tX8_layMusts_ok 68 rfl) flX8_51 sh_50 rfl ?_
    refine ps_iload_n (ps_at tX8_layMusts_ok 69 rfl) rfl rfl ?_
    refine ps_bipush (x := 6) (ps_at tX8_layMusts_ok 70 rfl) (by decide) ?_
    refine ps_idiv (ps_at tX8_layMusts_ok 71 rfl) (by decide) ?_
    refine ps_iald (ps_at tX8_layMusts_ok 72 rfl) sh_65 (h2 c0) ?_
    refine ps_iload_n (ps_at tX8_layMusts_ok 73 rfl) rfl rfl ?_
    refine ps_bipush (x := 6) (ps_at tX8_layMusts_ok 74 rfl) (by decide) ?_
    refine ps_irem (ps_at tX8_layMusts_ok 75 rfl) (by decide) ?_
    refine ps_ishr (ps_at tX8_layMusts_ok 76 rfl) ?_
    refine ps_iconst (x := 1) (ps_at tX8_layMusts_ok 77 rfl) (by decide) ?_
    refine ps_iand (ps_at tX8_layMusts_ok 78 rfl) ?_
    refine ps_iconst (x := 1) (ps_at tX8_layMusts_ok 79 rfl) (by decide) ?_
    refine ps_icmp_ne (tgt := 139) (ps_at tX8_layMusts_ok 80 rfl) (by decide) (fun c1 => ?_) (fun c1 => ?_)
    · skip
      refine ps_iconst (x := 0) (ps_at tX8_layMusts_ok 88 rfl) (by decide) ?_
      refine ps_ior (ps_at tX8_layMusts_ok 89 rfl) ?_
      refine ps_iast (ps_at tX8_layMusts_ok 90 rfl) sh_65 (h2 c0) ?_
      refine ps_iinc (L' := [some (.inr (.inr (50, 0))), some (.inl v1), some (.inl (v2 + 1))]) (y := 1) (ps_at tX8_layMusts_ok 91 rfl) rfl (by decide) (by decide) rfl ?_
      refine ps_goto (tgt := 91) (ps_at tX8_layMusts_ok 92 rfl) (by decide) ?_
      exact h3 c0 c1
    · skip
      refine ps_aload_n (ps_at tX8_layMusts_ok 81 rfl) rfl rfl ?_
      refine ps_getR (ps_at tX8_layMusts_ok 82 rfl) flX8_51 sh_50 rfl ?_
      refine ps_iload_n (ps_at tX8_layMusts_ok 83 rfl) rfl rfl ?_
      refine ps_bipush (x := 6) (ps_at tX8_layMusts_ok 84 rfl) (by decide) ?_
      refine ps_irem (ps_at tX8_layMusts_ok 85 rfl) (by decide) ?_
      refine ps_iald (ps_at tX8_layMusts_ok 86 rfl) sh_65 (h4 c0 c1) ?_
      refine ps_goto (tgt := 140) (ps_at tX8_layMusts_ok 87 rfl) (by decide) ?_
      refine ps_ior (ps_at tX8_layMusts_ok 89 rfl) ?_
      refine ps_iast (ps_at tX8_layMusts_ok 90 rfl) sh_65 (h2 c0) ?_
      refine ps_iinc (L' := [some (.inr (.inr (50, 0))), some (.inl v1), some (.inl (v2 + 1))]) (y := 1) (ps_at tX8_layMusts_ok 91 rfl) rfl (by decide) (by decide) rfl ?_
      refine ps_goto (tgt := 91) (ps_at tX8_layMusts_ok 92 rfl) (by decide) ?_
      exact h5 c0 c1
theorem eX8_layMusts {d : Nat} {Q : Option ps_V → ps_S → Prop}  {σ : ps_S} (h : kX8_layMusts_0 d Q σ) : ps_C mX8_layMusts d [.inr (.inr (50, 0))] σ Q := ps_enter (by decide) rfl ⟨rfl, rfl, rfl⟩ rfl (Nat.le_of_ble_eq_true rfl) h
abbrev kX8_must_0 (d : Nat) (Q : Option ps_V → ps_S → Prop) (v1 : Int32) (v2 : Int32) (σ : ps_S) : Prop := ps_K mX8_must (d + 2) (ps_QF Q) 0 [some (.inr (.inr (50, 0))), some (.inl v1), some (.inl v2)] [] σ
abbrev kX8_must_21 (d : Nat) (Q : Option ps_V → ps_S → Prop) (v1 : Int32) (v2 : Int32) (σ : ps_S) : Prop := ps_K mX8_must (d + 2) (ps_QF Q) 21 [some (.inr (.inr (50, 0))), some (.inl v1), some (.inl v2)] [] σ
theorem bX8_must_0 {d : Nat} {Q : Option ps_V → ps_S → Prop} {v1 : Int32} {v2 : Int32} {σ : ps_S} (h1 : (jbIn v1.toInt64 0 5) = 0 → Q (some (.inl (-900001))) σ) (h2 : ¬ (jbIn v1.toInt64 0 5) = 0 → ¬ (jbIn v2.toInt64 0 5) = 0 → ps_C mX8_layMusts (d + 1) [.inr (.inr (50, 0))] σ (ps_rv (fun σ1 => kX8_must_21 d Q v1 v2 σ1))) (h3 : ¬ (jbIn v1.toInt64 0 5) = 0 → (jbIn v2.toInt64 0 5) = 0 → Q (some (.inl (-900001))) σ) : kX8_must_0 d Q v1 v2 σ := by
  refine ps_iload_n (ps_at tX8_must_ok 0 rfl) rfl rfl ?_
  refine ps_callS (M2 := mX8_isForme) (av := [.inl v1]) (rest := []) (ps_at tX8_must_ok 1 rfl) csX8_109 rfl rfl (fun _ => Nat.le_of_ble_eq_true rfl) (pX8_isForme ?_)
  refine ps_if_eq (tgt := 14) (ps_at tX8_must_ok 2 rfl) (by decide) (fun c0 => ?_) (fun c0 => ?_)
  · skip
    refine ps_ldc (ps_at tX8_must_ok 6 rfl) cnX8_112 ?_
    exact ps_iret (ps_at tX8_must_ok 7 rfl) rfl ⟨rfl, rfl⟩ (h1 c0)
  · skip
    refine ps_iload_n (ps_at tX8_must_ok 3 rfl) rfl rfl ?_
    refine ps_callS (M2 := mX8_isForme) (av := [.inl v2]) (rest := []) (ps_at tX8_must_ok 4 rfl) csX8_109 rfl rfl (fun _ => Nat.le_of_ble_eq_true rfl) (pX8_isForme ?_)
    refine ps_if_ne (tgt := 17) (ps_at tX8_must_ok 5 rfl) (by decide) (fun c1 => ?_) (fun c1 => ?_)
    · skip
      refine ps_aload_n (ps_at tX8_must_ok 8 rfl) rfl rfl ?_
      refine ps_callV (M2 := mX8_layMusts) (av := []) (rest := []) (ps_at tX8_must_ok 9 rfl) cvX8_175 sh_50 rfl rfl (fun _ => Nat.le_of_ble_eq_true rfl) ?_
      refine ps_C.imp ?_ (h2 c0 c1)
      rintro _ σ1 ⟨rfl, hx⟩
      exact hx
    · skip
      refine ps_ldc (ps_at tX8_must_ok 6 rfl) cnX8_112 ?_
      exact ps_iret (ps_at tX8_must_ok 7 rfl) rfl ⟨rfl, rfl⟩ (h3 c0 c1)
theorem bX8_must_21 {d : Nat} {Q : Option ps_V → ps_S → Prop} {v1 : Int32} {v2 : Int32} {σ : ps_S} (h1 : vp_in v1 6) (h2 : Q (some (.inl (((σ 65 0 v1.toNatClampNeg) >>> (v2 &&& 31)) &&& 1))) σ) : kX8_must_21 d Q v1 v2 σ := by
  refine ps_aload_n (ps_at tX8_must_ok 10 rfl) rfl rfl ?_
  refine ps_getR (ps_at tX8_must_ok 11 rfl) flX8_51 sh_50 rfl ?_
  refine ps_iload_n (ps_at tX8_must_ok 12 rfl) rfl rfl ?_
  refine ps_iald (ps_at tX8_must_ok 13 rfl) sh_65 (h1) ?_
  refine ps_iload_n (ps_at tX8_must_ok 14 rfl) rfl rfl ?_
  refine ps_ishr (ps_at tX8_must_ok 15 rfl) ?_
  refine ps_iconst (x := 1) (ps_at tX8_must_ok 16 rfl) (by decide) ?_
  refine ps_iand (ps_at tX8_must_ok 17 rfl) ?_
  exact ps_iret (ps_at tX8_must_ok 18 rfl) rfl ⟨rfl, rfl⟩ (h2)
theorem eX8_must {d : Nat} {Q : Option ps_V → ps_S → Prop} {v1 : Int32} {v2 : Int32} {σ : ps_S} (h : kX8_must_0 d Q v1 v2 σ) : ps_C mX8_must (d + 2) [.inr (.inr (50, 0)), .inl v1, .inl v2] σ Q := ps_enter (by decide) rfl ⟨rfl, rfl, rfl⟩ rfl (Nat.le_of_ble_eq_true rfl) h
abbrev kX8_ring_0 (d : Nat) (Q : Option ps_V → ps_S → Prop)  (σ : ps_S) : Prop := ps_K mX8_ring (d + 1) (ps_QF Q) 0 [some (.inr (.inr (50, 0))), none, none] [] σ
abbrev kX8_ring_4 (d : Nat) (Q : Option ps_V → ps_S → Prop)  (σ : ps_S) : Prop := ps_K mX8_ring (d + 1) (ps_QF Q) 4 [some (.inr (.inr (50, 0))), none, none] [] σ
abbrev kX8_ring_8 (d : Nat) (Q : Option ps_V → ps_S → Prop) (v1 : Int32) (v2 : Int32) (σ : ps_S) : Prop := ps_K mX8_ring (d + 1) (ps_QF Q) 8 [some (.inr (.inr (50, 0))), some (.inl v1), some (.inl v2)] [] σ
theorem bX8_ring_0 {d : Nat} {Q : Option ps_V → ps_S → Prop}  {σ : ps_S} (h1 : ps_C mX8_layMusts d [.inr (.inr (50, 0))] σ (ps_rv (fun σ1 => kX8_ring_4 d Q σ1))) : kX8_ring_0 d Q σ := by
  refine ps_aload_n (ps_at tX8_ring_ok 0 rfl) rfl rfl ?_
  refine ps_callV (M2 := mX8_layMusts) (av := []) (rest := []) (ps_at tX8_ring_ok 1 rfl) cvX8_175 sh_50 rfl rfl (fun _ => Nat.le_of_ble_eq_true rfl) ?_
  refine ps_C.imp ?_ (h1)
  rintro _ σ1 ⟨rfl, hx⟩
  exact hx
theorem bX8_ring_4 {d : Nat} {Q : Option ps_V → ps_S → Prop}  {σ : ps_S} (h1 : kX8_ring_8 d Q 0 0 σ) : kX8_ring_4 d Q σ := by
  refine ps_iconst (x := 0) (ps_at tX8_ring_ok 2 rfl) (by decide) ?_
  refine ps_istore_n (L' := [some (.inr (.inr (50, 0))), some (.inl 0), none]) (ps_at tX8_ring_ok 3 rfl) rfl (by decide) rfl ?_
  refine ps_iconst (x := 0) (ps_at tX8_ring_ok 4 rfl) (by decide) ?_
  refine ps_istore_n (L' := [some (.inr (.inr (50, 0))), some (.inl 0), some (.inl 0)]) (ps_at tX8_ring_ok 5 rfl) rfl (by decide) rfl ?_
  exact h1
theorem bX8_ring_8 {d : Nat} {Q : Option ps_V → ps_S → Prop} {v1 : Int32} {v2 : Int32} {σ : ps_S} (h1 : 6 ≤ v2 → Q (some (.inl v1)) σ) (h2 : ¬ 6 ≤ v2 → vp_in v2 6) (h3 : ¬ 6 ≤ v2 → kX8_ring_8 d Q (v1 + (((σ 65 0 v2.toNatClampNeg) >>> (v2 &&& 31)) &&& 1)) (v2 + 1) σ) : kX8_ring_8 d Q v1 v2 σ := by
  refine ps_iload_n (ps_at tX8_ring_ok 6 rfl) rfl rfl ?_
  refine ps_bipush (x := 6) (ps_at tX8_ring_ok 7 rfl) (by decide) ?_
  refine ps_icmp_ge (tgt := 33) (ps_at tX8_ring_ok 8 rfl) (by decide) (fun c0 => ?_) (fun c0 => ?_)
  · skip
    refine ps_iload_n (ps_at tX8_ring_ok 22 rfl) rfl rfl ?_
    exact ps_iret (ps_at tX8_ring_ok 23 rfl) rfl ⟨rfl, rfl⟩ (h1 c0)
  · skip
    refine ps_iload_n (ps_at tX8_ring_ok 9 rfl) rfl rfl ?_
    refine ps_aload_n (ps_at tX8_ring_ok 10 rfl) rfl rfl ?_
    refine ps_getR (ps_at tX8_ring_ok 11 rfl) flX8_51 sh_50 rfl ?_
    refine ps_iload_n (ps_at tX8_ring_ok 12 rfl) rfl rfl ?_
    refine ps_iald (ps_at tX8_ring_ok 13 rfl) sh_65 (h2 c0) ?_
    refine ps_iload_n (ps_at tX8_ring_ok 14 rfl) rfl rfl ?_
    refine ps_ishr (ps_at tX8_ring_ok 15 rfl) ?_
    refine ps_iconst (x := 1) (ps_at tX8_ring_ok 16 rfl) (by decide) ?_
    refine ps_iand (ps_at tX8_ring_ok 17 rfl) ?_
    refine ps_iadd (ps_at tX8_ring_ok 18 rfl) ?_
    refine ps_istore_n (L' := [some (.inr (.inr (50, 0))), some (.inl (v1 + (((σ 65 0 v2.toNatClampNeg) >>> (v2 &&& 31)) &&& 1))), some (.inl v2)]) (ps_at tX8_ring_ok 19 rfl) rfl (by decide) rfl ?_
    refine ps_iinc (L' := [some (.inr (.inr (50, 0))), some (.inl (v1 + (((σ 65 0 v2.toNatClampNeg) >>> (v2 &&& 31)) &&& 1))), some (.inl (v2 + 1))]) (y := 1) (ps_at tX8_ring_ok 20 rfl) rfl (by decide) (by decide) rfl ?_
    refine ps_goto (tgt := 8) (ps_at tX8_ring_ok 21 rfl) (by decide) ?_
    exact h3 c0
theorem eX8_ring {d : Nat} {Q : Option ps_V → ps_S → Prop}  {σ : ps_S} (h : kX8_ring_0 d Q σ) : ps_C mX8_ring (d + 1) [.inr (.inr (50, 0))] σ Q := ps_enter (by decide) rfl ⟨rfl, rfl, rfl⟩ rfl (Nat.le_of_ble_eq_true rfl) h
abbrev kX8_presses_0 (d : Nat) (Q : Option ps_V → ps_S → Prop) (v1 : Int32) (σ : ps_S) : Prop := ps_K mX8_presses (d + 1) (ps_QF Q) 0 [some (.inr (.inr (50, 0))), some (.inl v1), none] [] σ
theorem bX8_presses_0 {d : Nat} {Q : Option ps_V → ps_S → Prop} {v1 : Int32} {σ : ps_S} (h1 : ¬ (jbIn v1.toInt64 1 6) = 0 → Q (some (.inl (σ 50 0 13))) (ps_up σ 50 0 13 v1)) (h2 : (jbIn v1.toInt64 1 6) = 0 → Q (some (.inl (-900002))) σ) : kX8_presses_0 d Q v1 σ := by
  refine ps_iload_n (ps_at tX8_presses_ok 0 rfl) rfl rfl ?_
  refine ps_i2l (ps_at tX8_presses_ok 1 rfl) ?_
  refine ps_lconst (x := 1) (ps_at tX8_presses_ok 2 rfl) (by decide) ?_
  refine ps_ldc2 (ps_at tX8_presses_ok 3 rfl) clX8_178 ?_
  refine ps_callS (M2 := mX8_in) (av := [.inr (.inl v1.toInt64), .inr (.inl 1), .inr (.inl 6)]) (rest := []) (ps_at tX8_presses_ok 4 rfl) csX8_99 rfl rfl (fun _ => Nat.le_of_ble_eq_true rfl) (pX8_in ?_)
  refine ps_if_ne (tgt := 15) (ps_at tX8_presses_ok 5 rfl) (by decide) (fun c0 => ?_) (fun c0 => ?_)
  · skip
    refine ps_aload_n (ps_at tX8_presses_ok 8 rfl) rfl rfl ?_
    refine ps_getI (ps_at tX8_presses_ok 9 rfl) flX8_47 sh_50 rfl ?_
    refine ps_istore_n (L' := [some (.inr (.inr (50, 0))), some (.inl v1), some (.inl (σ 50 0 13))]) (ps_at tX8_presses_ok 10 rfl) rfl (by decide) rfl ?_
    refine ps_aload_n (ps_at tX8_presses_ok 11 rfl) rfl rfl ?_
    refine ps_iload_n (ps_at tX8_presses_ok 12 rfl) rfl rfl ?_
    refine ps_putI (ps_at tX8_presses_ok 13 rfl) fpX8_47 sh_50 rfl ?_
    refine ps_iload_n (ps_at tX8_presses_ok 14 rfl) rfl rfl ?_
    exact ps_iret (ps_at tX8_presses_ok 15 rfl) rfl ⟨rfl, rfl⟩ (h1 c0)
  · skip
    refine ps_ldc (ps_at tX8_presses_ok 6 rfl) cnX8_115 ?_
    exact ps_iret (ps_at tX8_presses_ok 7 rfl) rfl ⟨rfl, rfl⟩ (h2 c0)
theorem eX8_presses {d : Nat} {Q : Option ps_V → ps_S → Prop} {v1 : Int32} {σ : ps_S} (h : kX8_presses_0 d Q v1 σ) : ps_C mX8_presses (d + 1) [.inr (.inr (50, 0)), .inl v1] σ Q := ps_enter (by decide) rfl ⟨rfl, rfl, rfl⟩ rfl (Nat.le_of_ble_eq_true rfl) h
abbrev kX8_isPlan_0 (d : Nat) (Q : Option ps_V → ps_S → Prop)  (σ : ps_S) : Prop := ps_K mX8_isPlan (d + 1) (ps_QF Q) 0 [some (.inr (.inr (50, 0))), none, none, none, none, none] [] σ
abbrev kX8_isPlan_2 (d : Nat) (Q : Option ps_V → ps_S → Prop) (v1 : Int32) (σ : ps_S) : Prop := ps_K mX8_isPlan (d + 1) (ps_QF Q) 2 [some (.inr (.inr (50, 0))), some (.inl v1), none, none, none, none] [] σ
abbrev kX8_isPlan_12 (d : Nat) (Q : Option ps_V → ps_S → Prop) (v1 : Int32) (v2 : Int32) (v3 : Int32) (σ : ps_S) : Prop := ps_K mX8_isPlan (d + 1) (ps_QF Q) 12 [some (.inr (.inr (50, 0))), some (.inl v1), some (.inl v2), some (.inl v3), none, none] [] σ
abbrev kX8_isPlan_44 (d : Nat) (Q : Option ps_V → ps_S → Prop) (v1 : Int32) (v2 : Int32) (v3 : Int32) (σ : ps_S) : Prop := ps_K mX8_isPlan (d + 1) (ps_QF Q) 44 [some (.inr (.inr (50, 0))), some (.inl v1), some (.inl v2), some (.inl v3), none, none] [] σ
abbrev kX8_isPlan_45 (d : Nat) (Q : Option ps_V → ps_S → Prop) (v1 : Int32) (v2 : Int32) (v3 : Int32) (s0 : Int32) (σ : ps_S) : Prop := ps_K mX8_isPlan (d + 1) (ps_QF Q) 45 [some (.inr (.inr (50, 0))), some (.inl v1), some (.inl v2), some (.inl v3), none, none] [.inl s0] σ
abbrev kX8_isPlan_71 (d : Nat) (Q : Option ps_V → ps_S → Prop) (v1 : Int32) (v2 : Int32) (v3 : Int32) (v4 : Int32) (σ : ps_S) : Prop := ps_K mX8_isPlan (d + 1) (ps_QF Q) 71 [some (.inr (.inr (50, 0))), some (.inl v1), some (.inl v2), some (.inl v3), some (.inl v4), none] [] σ
abbrev kX8_isPlan_72 (d : Nat) (Q : Option ps_V → ps_S → Prop) (v1 : Int32) (v2 : Int32) (v3 : Int32) (v4 : Int32) (s0 : Int32) (σ : ps_S) : Prop := ps_K mX8_isPlan (d + 1) (ps_QF Q) 72 [some (.inr (.inr (50, 0))), some (.inl v1), some (.inl v2), some (.inl v3), some (.inl v4), none] [.inl s0] σ
abbrev kX8_isPlan_85 (d : Nat) (Q : Option ps_V → ps_S → Prop) (v1 : Int32) (v3 : Int32) (v4 : Int32) (v5 : Int32) (s0 : Int32) (s1 : Int32) (σ : ps_S) : Prop := ps_K mX8_isPlan (d + 1) (ps_QF Q) 85 [some (.inr (.inr (50, 0))), some (.inl v1), none, some (.inl v3), some (.inl v4), some (.inl v5)] [.inl s0, .inl s1] σ
abbrev kX8_isPlan_106 (d : Nat) (Q : Option ps_V → ps_S → Prop) (v1 : Int32) (v2 : Int32) (v3 : Int32) (v4 : Int32) (σ : ps_S) : Prop := ps_K mX8_isPlan (d + 1) (ps_QF Q) 106 [some (.inr (.inr (50, 0))), some (.inl v1), some (.inl v2), some (.inl v3), some (.inl v4), none] [] σ
theorem bX8_isPlan_0 {d : Nat} {Q : Option ps_V → ps_S → Prop}  {σ : ps_S} (h1 : kX8_isPlan_2 d Q 0 σ) : kX8_isPlan_0 d Q σ := by
  refine ps_iconst (x := 0) (ps_at tX8_isPlan_ok 0 rfl) (by decide) ?_
  refine ps_istore_n (L' := [some (.inr (.inr (50, 0))), some (.inl 0), none, none, none, none]) (ps_at tX8_isPlan_ok 1 rfl) rfl (by decide) rfl ?_
  exact h1
theorem bX8_isPlan_2 {d : Nat} {Q : Option ps_V → ps_S → Prop} {v1 : Int32} {σ : ps_S} (h1 : 6 ≤ v1 → Q (some (.inl 1)) σ) (h2 : ¬ 6 ≤ v1 → kX8_isPlan_12 d Q v1 0 0 σ) : kX8_isPlan_2 d Q v1 σ := by
  refine ps_iload_n (ps_at tX8_isPlan_ok 2 rfl) rfl rfl ?_
  refine ps_bipush (x := 6) (ps_at tX8_isPlan_ok 3 rfl) (by decide) ?_
  refine ps_icmp_ge (tgt := 164) (ps_at tX8_isPlan_ok 4 rfl) (by decide) (fun c0 => ?_) (fun c0 => ?_)
  · skip
    refine ps_iconst (x := 1) (ps_at tX8_isPlan_ok 94 rfl) (by decide) ?_
    exact ps_zret (ps_at tX8_isPlan_ok 95 rfl) rfl ⟨rfl, rfl⟩ (Or.inr rfl) (h1 c0)
  · skip
    refine ps_iconst (x := 0) (ps_at tX8_isPlan_ok 5 rfl) (by decide) ?_
    refine ps_istore_n (L' := [some (.inr (.inr (50, 0))), some (.inl v1), some (.inl 0), none, none, none]) (ps_at tX8_isPlan_ok 6 rfl) rfl (by decide) rfl ?_
    refine ps_iconst (x := 0) (ps_at tX8_isPlan_ok 7 rfl) (by decide) ?_
    refine ps_istore_n (L' := [some (.inr (.inr (50, 0))), some (.inl v1), some (.inl 0), some (.inl 0), none, none]) (ps_at tX8_isPlan_ok 8 rfl) rfl (by decide) rfl ?_
    exact h2 c0
theorem bX8_isPlan_12 {d : Nat} {Q : Option ps_V → ps_S → Prop} {v1 : Int32} {v2 : Int32} {v3 : Int32} {σ : ps_S} (h1 : 6 ≤ v3 → v2 ≤ (σ 50 0 13) → kX8_isPlan_2 d Q (v1 + 1) σ) (h2 : 6 ≤ v3 → ¬ v2 ≤ (σ 50 0 13) → Q (some (.inl 0)) σ) (h3 : ¬ 6 ≤ v3 → vp_in v1 6) (h4 : ¬ 6 ≤ v3 → (σ 66 0 v1.toNatClampNeg) = (-900009) → kX8_isPlan_44 d Q v1 v2 v3 σ) (h5 : ¬ 6 ≤ v3 → ¬ (σ 66 0 v1.toNatClampNeg) = (-900009) → vp_in v3 6) (h6 : ¬ 6 ≤ v3 → ¬ (σ 66 0 v1.toNatClampNeg) = (-900009) → (σ 66 0 v3.toNatClampNeg) = (-900009) → kX8_isPlan_44 d Q v1 v2 v3 σ) (h7 : ¬ 6 ≤ v3 → ¬ (σ 66 0 v1.toNatClampNeg) = (-900009) → ¬ (σ 66 0 v3.toNatClampNeg) = (-900009) → kX8_isPlan_45 d Q v1 v2 v3 1 σ) : kX8_isPlan_12 d Q v1 v2 v3 σ := by
  refine ps_iload_n (ps_at tX8_isPlan_ok 9 rfl) rfl rfl ?_
  refine ps_bipush (x := 6) (ps_at tX8_isPlan_ok 10 rfl) (by decide) ?_
  refine ps_icmp_ge (tgt := 148) (ps_at tX8_isPlan_ok 11 rfl) (by decide) (fun c0 => ?_) (fun c0 => ?_)
  · skip
    refine ps_iload_n (ps_at tX8_isPlan_ok 86 rfl) rfl rfl ?_
    refine ps_aload_n (ps_at tX8_isPlan_ok 87 rfl) rfl rfl ?_
    refine ps_getI (ps_at tX8_isPlan_ok 88 rfl) flX8_47 sh_50 rfl ?_
    refine ps_icmp_le (tgt := 158) (ps_at tX8_isPlan_ok 89 rfl) (by decide) (fun c1 => ?_) (fun c1 => ?_)
    · skip
      refine ps_iinc (L' := [some (.inr (.inr (50, 0))), some (.inl (v1 + 1)), some (.inl v2), some (.inl v3), none, none]) (y := 1) (ps_at tX8_isPlan_ok 92 rfl) rfl (by decide) (by decide) rfl ?_
      refine ps_goto (tgt := 2) (ps_at tX8_isPlan_ok 93 rfl) (by decide) ?_
      refine ps_forget (L' := [some (.inr (.inr (50, 0))), some (.inl (v1 + 1)), none, none, none, none]) (And.intro rfl (And.intro rfl trivial)) ?_
      exact h1 c0 c1
    · skip
      refine ps_iconst (x := 0) (ps_at tX8_isPlan_ok 90 rfl) (by decide) ?_
      exact ps_zret (ps_at tX8_isPlan_ok 91 rfl) rfl ⟨rfl, rfl⟩ (Or.inl rfl) (h2 c0 c1)
  · skip
    refine ps_aload_n (ps_at tX8_isPlan_ok 12 rfl) rfl rfl ?_
    refine ps_getR (ps_at tX8_isPlan_ok 13 rfl) flX8_54 sh_50 rfl ?_
    refine ps_iload_n (ps_at tX8_isPlan_ok 14 rfl) rfl rfl ?_
    refine ps_iald (ps_at tX8_isPlan_ok 15 rfl) sh_66 (h3 c0) ?_
    refine ps_ldc (ps_at tX8_isPlan_ok 16 rfl) cnX8_96 ?_
    refine ps_icmp_eq (tgt := 44) (ps_at tX8_isPlan_ok 17 rfl) (by decide) (fun c1 => ?_) (fun c1 => ?_)
    · skip
      exact h4 c0 c1
    · skip
      refine ps_aload_n (ps_at tX8_isPlan_ok 18 rfl) rfl rfl ?_
      refine ps_getR (ps_at tX8_isPlan_ok 19 rfl) flX8_54 sh_50 rfl ?_
      refine ps_iload_n (ps_at tX8_isPlan_ok 20 rfl) rfl rfl ?_
      refine ps_iald (ps_at tX8_isPlan_ok 21 rfl) sh_66 (h5 c0 c1) ?_
      refine ps_ldc (ps_at tX8_isPlan_ok 22 rfl) cnX8_96 ?_
      refine ps_icmp_eq (tgt := 44) (ps_at tX8_isPlan_ok 23 rfl) (by decide) (fun c2 => ?_) (fun c2 => ?_)
      · skip
        exact h6 c0 c1 c2
      · skip
        refine ps_iconst (x := 1) (ps_at tX8_isPlan_ok 24 rfl) (by decide) ?_
        refine ps_goto (tgt := 45) (ps_at tX8_isPlan_ok 25 rfl) (by decide) ?_
        exact h7 c0 c1 c2
theorem bX8_isPlan_44 {d : Nat} {Q : Option ps_V → ps_S → Prop} {v1 : Int32} {v2 : Int32} {v3 : Int32} {σ : ps_S} (h1 : kX8_isPlan_45 d Q v1 v2 v3 0 σ) : kX8_isPlan_44 d Q v1 v2 v3 σ := by
  refine ps_iconst (x := 0) (ps_at tX8_isPlan_ok 26 rfl) (by decide) ?_
  exact h1
theorem bX8_isPlan_45 {d : Nat} {Q : Option ps_V → ps_S → Prop} {v1 : Int32} {v2 : Int32} {v3 : Int32} {s0 : Int32} {σ : ps_S} (h1 : s0 = 0 → kX8_isPlan_71 d Q v1 v2 v3 s0 σ) (h2 : ¬ s0 = 0 → vp_in v1 6) (h3 : ¬ s0 = 0 → vp_in v3 6) (h4 : ¬ s0 = 0 → ¬ (σ 66 0 v1.toNatClampNeg) = (σ 66 0 v3.toNatClampNeg) → kX8_isPlan_71 d Q v1 v2 v3 s0 σ) (h5 : ¬ s0 = 0 → (σ 66 0 v1.toNatClampNeg) = (σ 66 0 v3.toNatClampNeg) → kX8_isPlan_72 d Q v1 v2 v3 s0 1 σ) : kX8_isPlan_45 d Q v1 v2 v3 s0 σ := by
  refine ps_istore (L' := [some (.inr (.inr (50, 0))), some (.inl v1), some (.inl v2), some (.inl v3), some (.inl s0), none]) (ps_at tX8_isPlan_ok 27 rfl) (by decide) rfl ?_
  refine ps_iload (ps_at tX8_isPlan_ok 28 rfl) rfl ?_
  refine ps_if_eq (tgt := 71) (ps_at tX8_isPlan_ok 29 rfl) (by decide) (fun c0 => ?_) (fun c0 => ?_)
  · skip
    exact h1 c0
  · skip
    refine ps_aload_n (ps_at tX8_isPlan_ok 30 rfl) rfl rfl ?_
    refine ps_getR (ps_at tX8_isPlan_ok 31 rfl) flX8_54 sh_50 rfl ?_
    refine ps_iload_n (ps_at tX8_isPlan_ok 32 rfl) rfl rfl ?_
    refine ps_iald (ps_at tX8_isPlan_ok 33 rfl) sh_66 (h2 c0) ?_
    refine ps_aload_n (ps_at tX8_isPlan_ok 34 rfl) rfl rfl ?_
    refine ps_getR (ps_at tX8_isPlan_ok 35 rfl) flX8_54 sh_50 rfl ?_
    refine ps_iload_n (ps_at tX8_isPlan_ok 36 rfl) rfl rfl ?_
    refine ps_iald (ps_at tX8_isPlan_ok 37 rfl) sh_66 (h3 c0) ?_
    refine ps_icmp_ne (tgt := 71) (ps_at tX8_isPlan_ok 38 rfl) (by decide) (fun c1 => ?_) (fun c1 => ?_)
    · skip
      exact h4 c0 c1
    · skip
      refine ps_iconst (x := 1) (ps_at tX8_isPlan_ok 39 rfl) (by decide) ?_
      refine ps_goto (tgt := 72) (ps_at tX8_isPlan_ok 40 rfl) (by decide) ?_
      exact h5 c0 c1
theorem bX8_isPlan_71 {d : Nat} {Q : Option ps_V → ps_S → Prop} {v1 : Int32} {v2 : Int32} {v3 : Int32} {v4 : Int32} {σ : ps_S} (h1 : kX8_isPlan_72 d Q v1 v2 v3 v4 0 σ) : kX8_isPlan_71 d Q v1 v2 v3 v4 σ := by
  refine ps_iconst (x := 0) (ps_at tX8_isPlan_ok 41 rfl) (by decide) ?_
  exact h1
theorem bX8_isPlan_72 {d : Nat} {Q : Option ps_V → ps_S → Prop} {v1 : Int32} {v2 : Int32} {v3 : Int32} {v4 : Int32} {s0 : Int32} {σ : ps_S} (h1 : s0 = 0 → kX8_isPlan_85 d Q v1 v3 v4 s0 0 v2 σ) (h2 : ¬ s0 = 0 → kX8_isPlan_85 d Q v1 v3 v4 s0 1 v2 σ) : kX8_isPlan_72 d Q v1 v2 v3 v4 s0 σ := by
  refine ps_istore (L' := [some (.inr (.inr (50, 0))), some (.inl v1), some (.inl v2), some (.inl v3), some (.inl v4), some (.inl s0)]) (ps_at tX8_isPlan_ok 42 rfl) (by decide) rfl ?_
  refine ps_iload_n (ps_at tX8_isPlan_ok 43 rfl) rfl rfl ?_
  refine ps_iload (ps_at tX8_isPlan_ok 44 rfl) rfl ?_
  refine ps_if_eq (tgt := 84) (ps_at tX8_isPlan_ok 45 rfl) (by decide) (fun c0 => ?_) (fun c0 => ?_)
  · skip
    refine ps_iconst (x := 0) (ps_at tX8_isPlan_ok 48 rfl) (by decide) ?_
    refine ps_forget (L' := [some (.inr (.inr (50, 0))), some (.inl v1), none, some (.inl v3), some (.inl v4), some (.inl s0)]) (And.intro rfl (And.intro rfl (And.intro rfl (And.intro rfl (And.intro rfl trivial))))) ?_
    exact h1 c0
  · skip
    refine ps_iconst (x := 1) (ps_at tX8_isPlan_ok 46 rfl) (by decide) ?_
    refine ps_goto (tgt := 85) (ps_at tX8_isPlan_ok 47 rfl) (by decide) ?_
    refine ps_forget (L' := [some (.inr (.inr (50, 0))), some (.inl v1), none, some (.inl v3), some (.inl v4), some (.inl s0)]) (And.intro rfl (And.intro rfl (And.intro rfl (And.intro rfl (And.intro rfl trivial))))) ?_
    exact h2 c0
theorem bX8_isPlan_85 {d : Nat} {Q : Option ps_V → ps_S → Prop} {v1 : Int32} {v3 : Int32} {v4 : Int32} {v5 : Int32} {s0 : Int32} {s1 : Int32} {σ : ps_S} (h1 : v1 = v3 → kX8_isPlan_106 d Q v1 (s1 + s0) v3 v4 σ) (h2 : ¬ v1 = v3 → v5 = 0 → kX8_isPlan_106 d Q v1 (s1 + s0) v3 v4 σ) (h3 : ¬ v1 = v3 → ¬ v5 = 0 → vp_in v1 6) (h4 : ¬ v1 = v3 → ¬ v5 = 0 → vp_in v3 6) (h5 : ¬ v1 = v3 → ¬ v5 = 0 → ¬ (jbP (mSh σ v1.toNatClampNeg v3.toNatClampNeg)) = 0 → Q (some (.inl 0)) σ) (h6 : ¬ v1 = v3 → ¬ v5 = 0 → (jbP (mSh σ v1.toNatClampNeg v3.toNatClampNeg)) = 0 → kX8_isPlan_106 d Q v1 (s1 + s0) v3 v4 σ) : kX8_isPlan_85 d Q v1 v3 v4 v5 s0 s1 σ := by
  refine ps_iadd (ps_at tX8_isPlan_ok 49 rfl) ?_
  refine ps_istore_n (L' := [some (.inr (.inr (50, 0))), some (.inl v1), some (.inl (s1 + s0)), some (.inl v3), some (.inl v4), some (.inl v5)]) (ps_at tX8_isPlan_ok 50 rfl) rfl (by decide) rfl ?_
  refine ps_iload_n (ps_at tX8_isPlan_ok 51 rfl) rfl rfl ?_
  refine ps_iload_n (ps_at tX8_isPlan_ok 52 rfl) rfl rfl ?_
  refine ps_icmp_eq (tgt := 106) (ps_at tX8_isPlan_ok 53 rfl) (by decide) (fun c0 => ?_) (fun c0 => ?_)
  · skip
    refine ps_forget (L' := [some (.inr (.inr (50, 0))), some (.inl v1), some (.inl (s1 + s0)), some (.inl v3), some (.inl v4), none]) (And.intro rfl (And.intro rfl (And.intro rfl (And.intro rfl (And.intro rfl trivial))))) ?_
    exact h1 c0
  · skip
    refine ps_iload (ps_at tX8_isPlan_ok 54 rfl) rfl ?_
    refine ps_if_eq (tgt := 106) (ps_at tX8_isPlan_ok 55 rfl) (by decide) (fun c1 => ?_) (fun c1 => ?_)
    · skip
      refine ps_forget (L' := [some (.inr (.inr (50, 0))), some (.inl v1), some (.inl (s1 + s0)), some (.inl v3), some (.inl v4), none]) (And.intro rfl (And.intro rfl (And.intro rfl (And.intro rfl (And.intro rfl trivial))))) ?_
      exact h2 c0 c1
    · skip
      refine ps_aload_n (ps_at tX8_isPlan_ok 56 rfl) rfl rfl ?_
      refine ps_iload_n (ps_at tX8_isPlan_ok 57 rfl) rfl rfl ?_
      refine ps_iload_n (ps_at tX8_isPlan_ok 58 rfl) rfl rfl ?_
      refine ps_callV (M2 := mX8_shares) (av := [.inl v1, .inl v3]) (rest := []) (ps_at tX8_isPlan_ok 59 rfl) cvX8_172 sh_50 rfl rfl (fun _ => Nat.le_of_ble_eq_true rfl) (pX8_shares (h3 c0 c1) (h4 c0 c1) ?_)
      refine ps_if_ne (tgt := 140) (ps_at tX8_isPlan_ok 60 rfl) (by decide) (fun c2 => ?_) (fun c2 => ?_)
      · skip
        refine ps_iconst (x := 0) (ps_at tX8_isPlan_ok 82 rfl) (by decide) ?_
        exact ps_zret (ps_at tX8_isPlan_ok 83 rfl) rfl ⟨rfl, rfl⟩ (Or.inl rfl) (h5 c0 c1 c2)
      · skip
        refine ps_forget (L' := [some (.inr (.inr (50, 0))), some (.inl v1), some (.inl (s1 + s0)), some (.inl v3), some (.inl v4), none]) (And.intro rfl (And.intro rfl (And.intro rfl (And.intro rfl (And.intro rfl trivial))))) ?_
        exact h6 c0 c1 c2
theorem bX8_isPlan_106 {d : Nat} {Q : Option ps_V → ps_S → Prop} {v1 : Int32} {v2 : Int32} {v3 : Int32} {v4 : Int32} {σ : ps_S} (h1 : v4 = 0 → kX8_isPlan_12 d Q v1 v2 (v3 + 1) σ) (h2 : ¬ v4 = 0 → vp_in v1 6) (h3 : ¬ v4 = 0 → ¬ (((σ 65 0 v1.toNatClampNeg) >>> (v3 &&& 31)) &&& 1) = 1 → kX8_isPlan_12 d Q v1 v2 (v3 + 1) σ) (h4 : ¬ v4 = 0 → (((σ 65 0 v1.toNatClampNeg) >>> (v3 &&& 31)) &&& 1) = 1 → vp_in v3 6) (h5 : ¬ v4 = 0 → (((σ 65 0 v1.toNatClampNeg) >>> (v3 &&& 31)) &&& 1) = 1 → (σ 66 0 v1.toNatClampNeg) < (σ 66 0 v3.toNatClampNeg) → kX8_isPlan_12 d Q v1 v2 (v3 + 1) σ) (h6 : ¬ v4 = 0 → (((σ 65 0 v1.toNatClampNeg) >>> (v3 &&& 31)) &&& 1) = 1 → ¬ (σ 66 0 v1.toNatClampNeg) < (σ 66 0 v3.toNatClampNeg) → Q (some (.inl 0)) σ) : kX8_isPlan_106 d Q v1 v2 v3 v4 σ := by
  refine ps_iload (ps_at tX8_isPlan_ok 61 rfl) rfl ?_
  refine ps_if_eq (tgt := 142) (ps_at tX8_isPlan_ok 62 rfl) (by decide) (fun c0 => ?_) (fun c0 => ?_)
  · skip
    refine ps_iinc (L' := [some (.inr (.inr (50, 0))), some (.inl v1), some (.inl v2), some (.inl (v3 + 1)), some (.inl v4), none]) (y := 1) (ps_at tX8_isPlan_ok 84 rfl) rfl (by decide) (by decide) rfl ?_
    refine ps_goto (tgt := 12) (ps_at tX8_isPlan_ok 85 rfl) (by decide) ?_
    refine ps_forget (L' := [some (.inr (.inr (50, 0))), some (.inl v1), some (.inl v2), some (.inl (v3 + 1)), none, none]) (And.intro rfl (And.intro rfl (And.intro rfl (And.intro rfl trivial)))) ?_
    exact h1 c0
  · skip
    refine ps_aload_n (ps_at tX8_isPlan_ok 63 rfl) rfl rfl ?_
    refine ps_getR (ps_at tX8_isPlan_ok 64 rfl) flX8_51 sh_50 rfl ?_
    refine ps_iload_n (ps_at tX8_isPlan_ok 65 rfl) rfl rfl ?_
    refine ps_iald (ps_at tX8_isPlan_ok 66 rfl) sh_65 (h2 c0) ?_
    refine ps_iload_n (ps_at tX8_isPlan_ok 67 rfl) rfl rfl ?_
    refine ps_ishr (ps_at tX8_isPlan_ok 68 rfl) ?_
    refine ps_iconst (x := 1) (ps_at tX8_isPlan_ok 69 rfl) (by decide) ?_
    refine ps_iand (ps_at tX8_isPlan_ok 70 rfl) ?_
    refine ps_iconst (x := 1) (ps_at tX8_isPlan_ok 71 rfl) (by decide) ?_
    refine ps_icmp_ne (tgt := 142) (ps_at tX8_isPlan_ok 72 rfl) (by decide) (fun c1 => ?_) (fun c1 => ?_)
    · skip
      refine ps_iinc (L' := [some (.inr (.inr (50, 0))), some (.inl v1), some (.inl v2), some (.inl (v3 + 1)), some (.inl v4), none]) (y := 1) (ps_at tX8_isPlan_ok 84 rfl) rfl (by decide) (by decide) rfl ?_
      refine ps_goto (tgt := 12) (ps_at tX8_isPlan_ok 85 rfl) (by decide) ?_
      refine ps_forget (L' := [some (.inr (.inr (50, 0))), some (.inl v1), some (.inl v2), some (.inl (v3 + 1)), none, none]) (And.intro rfl (And.intro rfl (And.intro rfl (And.intro rfl trivial)))) ?_
      exact h3 c0 c1
    · skip
      refine ps_aload_n (ps_at tX8_isPlan_ok 73 rfl) rfl rfl ?_
      refine ps_getR (ps_at tX8_isPlan_ok 74 rfl) flX8_54 sh_50 rfl ?_
      refine ps_iload_n (ps_at tX8_isPlan_ok 75 rfl) rfl rfl ?_
      refine ps_iald (ps_at tX8_isPlan_ok 76 rfl) sh_66 (h2 c0) ?_
      refine ps_aload_n (ps_at tX8_isPlan_ok 77 rfl) rfl rfl ?_
      refine ps_getR (ps_at tX8_isPlan_ok 78 rfl) flX8_54 sh_50 rfl ?_
      refine ps_iload_n (ps_at tX8_isPlan_ok 79 rfl) rfl rfl ?_
      refine ps_iald (ps_at tX8_isPlan_ok 80 rfl) sh_66 (h4 c0 c1) ?_
      refine ps_icmp_lt (tgt := 142) (ps_at tX8_isPlan_ok 81 rfl) (by decide) (fun c2 => ?_) (fun c2 => ?_)
      · skip
        refine ps_iinc (L' := [some (.inr (.inr (50, 0))), some (.inl v1), some (.inl v2), some (.inl (v3 + 1)), some (.inl v4), none]) (y := 1) (ps_at tX8_isPlan_ok 84 rfl) rfl (by decide) (by decide) rfl ?_
        refine ps_goto (tgt := 12) (ps_at tX8_isPlan_ok 85 rfl) (by decide) ?_
        refine ps_forget (L' := [some (.inr (.inr (50, 0))), some (.inl v1), some (.inl v2), some (.inl (v3 + 1)), none, none]) (And.intro rfl (And.intro rfl (And.intro rfl (And.intro rfl trivial)))) ?_
        exact h5 c0 c1 c2
      · skip
        refine ps_iconst (x := 0) (ps_at tX8_isPlan_ok 82 rfl) (by decide) ?_
        exact ps_zret (ps_at tX8_isPlan_ok 83 rfl) rfl ⟨rfl, rfl⟩ (Or.inl rfl) (h6 c0 c1 c2)
theorem eX8_isPlan {d : Nat} {Q : Option ps_V → ps_S → Prop}  {σ : ps_S} (h : kX8_isPlan_0 d Q σ) : ps_C mX8_isPlan (d + 1) [.inr (.inr (50, 0))] σ Q := ps_enter (by decide) rfl ⟨rfl, rfl, rfl⟩ rfl (Nat.le_of_ble_eq_true rfl) h
abbrev kX8_layPlans_0 (d : Nat) (Q : Option ps_V → ps_S → Prop) (v1 : Int32) (v2 : Int32) (v3 : Int32) (σ : ps_S) : Prop := ps_K mX8_layPlans (d + 1) (ps_QF Q) 0 [some (.inr (.inr (50, 0))), some (.inl v1), some (.inl v2), some (.inl v3), none, none, none, none] [] σ
abbrev kX8_layPlans_4 (d : Nat) (Q : Option ps_V → ps_S → Prop) (v1 : Int32) (v2 : Int32) (v3 : Int32) (σ : ps_S) : Prop := ps_K mX8_layPlans (d + 1) (ps_QF Q) 4 [some (.inr (.inr (50, 0))), some (.inl v1), some (.inl v2), some (.inl v3), none, none, none, none] [] σ
abbrev kX8_layPlans_10 (d : Nat) (Q : Option ps_V → ps_S → Prop) (v1 : Int32) (v2 : Int32) (v3 : Int32) (v4 : Int32) (v5 : Int32) (σ : ps_S) : Prop := ps_K mX8_layPlans (d + 1) (ps_QF Q) 10 [some (.inr (.inr (50, 0))), some (.inl v1), some (.inl v2), some (.inl v3), some (.inl v4), some (.inl v5), none, none] [] σ
abbrev kX8_layPlans_62 (d : Nat) (Q : Option ps_V → ps_S → Prop) (v1 : Int32) (v2 : Int32) (v3 : Int32) (v4 : Int32) (v5 : Int32) (v6 : Int32) (σ : ps_S) : Prop := ps_K mX8_layPlans (d + 1) (ps_QF Q) 62 [some (.inr (.inr (50, 0))), some (.inl v1), some (.inl v2), some (.inl v3), some (.inl v4), some (.inl v5), some (.inl v6), none] [] σ
abbrev kX8_layPlans_71 (d : Nat) (Q : Option ps_V → ps_S → Prop) (v1 : Int32) (v2 : Int32) (v3 : Int32) (v4 : Int32) (v5 : Int32) (s0 : Int32) (σ : ps_S) : Prop := ps_K mX8_layPlans (d + 1) (ps_QF Q) 71 [some (.inr (.inr (50, 0))), some (.inl v1), some (.inl v2), some (.inl v3), some (.inl v4), some (.inl v5), none, none] [.inl s0] σ
abbrev kX8_layPlans_146 (d : Nat) (Q : Option ps_V → ps_S → Prop) (v1 : Int32) (v2 : Int32) (v3 : Int32) (v4 : Int32) (v5 : Int32) (v7 : Int32) (σ : ps_S) : Prop := ps_K mX8_layPlans (d + 1) (ps_QF Q) 146 [some (.inr (.inr (50, 0))), some (.inl v1), some (.inl v2), some (.inl v3), some (.inl v4), some (.inl v5), none, some (.inl v7)] [] σ
abbrev kX8_layPlans_77 (d : Nat) (Q : Option ps_V → ps_S → Prop) (v1 : Int32) (v2 : Int32) (v3 : Int32) (v4 : Int32) (v5 : Int32) (v7 : Int32) (σ : ps_S) : Prop := ps_K mX8_layPlans (d + 1) (ps_QF Q) 77 [some (.inr (.inr (50, 0))), some (.inl v1), some (.inl v2), some (.inl v3), some (.inl v4), some (.inl v5), none, some (.inl v7)] [] σ
abbrev kX8_layPlans_207 (d : Nat) (Q : Option ps_V → ps_S → Prop) (v1 : Int32) (v2 : Int32) (v3 : Int32) (v4 : Int32) (v5 : Int32) (v7 : Int32) (σ : ps_S) : Prop := ps_K mX8_layPlans (d + 1) (ps_QF Q) 207 [some (.inr (.inr (50, 0))), some (.inl v1), some (.inl v2), some (.inl v3), some (.inl v4), some (.inl v5), none, some (.inl v7)] [] σ
abbrev kX8_layPlans_176 (d : Nat) (Q : Option ps_V → ps_S → Prop) (v1 : Int32) (v2 : Int32) (v3 : Int32) (v4 : Int32) (v5 : Int32) (v7 : Int32) (σ : ps_S) : Prop := ps_K mX8_layPlans (d + 1) (ps_QF Q) 176 [some (.inr (.inr (50, 0))), some (.inl v1), some (.inl v2), some (.inl v3), some (.inl v4), some (.inl v5), none, some (.inl v7)] [] σ
abbrev kX8_layPlans_109 (d : Nat) (Q : Option ps_V → ps_S → Prop) (v1 : Int32) (v2 : Int32) (v3 : Int32) (v5 : Int32) (σ : ps_S) : Prop := ps_K mX8_layPlans (d + 1) (ps_QF Q) 109 [some (.inr (.inr (50, 0))), some (.inl v1), some (.inl v2), some (.inl v3), none, some (.inl v5), none, none] [] σ
abbrev kX8_layPlans_217 (d : Nat) (Q : Option ps_V → ps_S → Prop) (v1 : Int32) (v2 : Int32) (v3 : Int32) (v4 : Int32) (v5 : Int32) (v7 : Int32) (s0 : Int32) (σ : ps_S) : Prop := ps_K mX8_layPlans (d + 1) (ps_QF Q) 217 [some (.inr (.inr (50, 0))), some (.inl v1), some (.inl v2), some (.inl v3), some (.inl v4), some (.inl v5), none, some (.inl v7)] [.inl s0] σ
theorem bX8_layPlans_0 {d : Nat} {Q : Option ps_V → ps_S → Prop} {v1 : Int32} {v2 : Int32} {v3 : Int32} {σ : ps_S} (h1 : ps_C mX8_layMusts d [.inr (.inr (50, 0))] σ (ps_rv (fun σ1 => kX8_layPlans_4 d Q v1 v2 v3 σ1))) : kX8_layPlans_0 d Q v1 v2 v3 σ := by
  refine ps_aload_n (ps_at tX8_layPlans_ok 0 rfl) rfl rfl ?_
  refine ps_callV (M2 := mX8_layMusts) (av := []) (rest := []) (ps_at tX8_layPlans_ok 1 rfl) cvX8_175 sh_50 rfl rfl (fun _ => Nat.le_of_ble_eq_true rfl) ?_
  refine ps_C.imp ?_ (h1)
  rintro _ σ1 ⟨rfl, hx⟩
  exact hx
theorem bX8_layPlans_4 {d : Nat} {Q : Option ps_V → ps_S → Prop} {v1 : Int32} {v2 : Int32} {v3 : Int32} {σ : ps_S} (h1 : kX8_layPlans_10 d Q v1 v2 v3 0 0 σ) : kX8_layPlans_4 d Q v1 v2 v3 σ := by
  refine ps_iconst (x := 0) (ps_at tX8_layPlans_ok 2 rfl) (by decide) ?_
  refine ps_istore (L' := [some (.inr (.inr (50, 0))), some (.inl v1), some (.inl v2), some (.inl v3), some (.inl 0), none, none, none]) (ps_at tX8_layPlans_ok 3 rfl) (by decide) rfl ?_
  refine ps_iconst (x := 0) (ps_at tX8_layPlans_ok 4 rfl) (by decide) ?_
  refine ps_istore (L' := [some (.inr (.inr (50, 0))), some (.inl v1), some (.inl v2), some (.inl v3), some (.inl 0), some (.inl 0), none, none]) (ps_at tX8_layPlans_ok 5 rfl) (by decide) rfl ?_
  exact h1
theorem bX8_layPlans_10 {d : Nat} {Q : Option ps_V → ps_S → Prop} {v1 : Int32} {v2 : Int32} {v3 : Int32} {v4 : Int32} {v5 : Int32} {σ : ps_S} (h1 : 6 ≤ v5 → kX8_layPlans_62 d Q v1 v2 v3 v4 0 1 σ) (h2 : ¬ 6 ≤ v5 → vp_in v5 6) (h3 : ¬ 6 ≤ v5 → (jbP (mSh σ v5.toNatClampNeg v5.toNatClampNeg)) = 0 → kX8_layPlans_10 d Q v1 v2 v3 v4 (v5 + 1) (ps_up (ps_up σ 66 0 v5.toNatClampNeg (-900009)) 67 0 v5.toNatClampNeg (-900009))) (h4 : ¬ 6 ≤ v5 → ¬ (jbP (mSh σ v5.toNatClampNeg v5.toNatClampNeg)) = 0 → kX8_layPlans_10 d Q v1 v2 v3 v4 (v5 + 1) (ps_up (ps_up σ 66 0 v5.toNatClampNeg 0) 67 0 v5.toNatClampNeg (-900009))) : kX8_layPlans_10 d Q v1 v2 v3 v4 v5 σ := by
  refine ps_iload (ps_at tX8_layPlans_ok 6 rfl) rfl ?_
  refine ps_bipush (x := 6) (ps_at tX8_layPlans_ok 7 rfl) (by decide) ?_
  refine ps_icmp_ge (tgt := 56) (ps_at tX8_layPlans_ok 8 rfl) (by decide) (fun c0 => ?_) (fun c0 => ?_)
  · skip
    refine ps_iconst (x := 0) (ps_at tX8_layPlans_ok 28 rfl) (by decide) ?_
    refine ps_istore (L' := [some (.inr (.inr (50, 0))), some (.inl v1), some (.inl v2), some (.inl v3), some (.inl v4), some (.inl 0), none, none]) (ps_at tX8_layPlans_ok 29 rfl) (by decide) rfl ?_
    refine ps_iconst (x := 1) (ps_at tX8_layPlans_ok 30 rfl) (by decide) ?_
    refine ps_istore (L' := [some (.inr (.inr (50, 0))), some (.inl v1), some (.inl v2), some (.inl v3), some (.inl v4), some (.inl 0), some (.inl 1), none]) (ps_at tX8_layPlans_ok 31 rfl) (by decide) rfl ?_
    exact h1 c0
  · skip
    refine ps_aload_n (ps_at tX8_layPlans_ok 9 rfl) rfl rfl ?_
    refine ps_getR (ps_at tX8_layPlans_ok 10 rfl) flX8_54 sh_50 rfl ?_
    refine ps_iload (ps_at tX8_layPlans_ok 11 rfl) rfl ?_
    refine ps_aload_n (ps_at tX8_layPlans_ok 12 rfl) rfl rfl ?_
    refine ps_iload (ps_at tX8_layPlans_ok 13 rfl) rfl ?_
    refine ps_iload (ps_at tX8_layPlans_ok 14 rfl) rfl ?_
    refine ps_callV (M2 := mX8_shares) (av := [.inl v5, .inl v5]) (rest := [.inl v5, .inr (.inr (66, 0))]) (ps_at tX8_layPlans_ok 15 rfl) cvX8_172 sh_50 rfl rfl (fun _ => Nat.le_of_ble_eq_true rfl) (pX8_shares (h2 c0) (h2 c0) ?_)
    refine ps_if_eq (tgt := 38) (ps_at tX8_layPlans_ok 16 rfl) (by decide) (fun c1 => ?_) (fun c1 => ?_)
    · skip
      refine ps_ldc (ps_at tX8_layPlans_ok 19 rfl) cnX8_96 ?_
      refine ps_iast (ps_at tX8_layPlans_ok 20 rfl) sh_66 (h2 c0) ?_
      refine ps_aload_n (ps_at tX8_layPlans_ok 21 rfl) rfl rfl ?_
      refine ps_getR (ps_at tX8_layPlans_ok 22 rfl) flX8_57 sh_50 rfl ?_
      refine ps_iload (ps_at tX8_layPlans_ok 23 rfl) rfl ?_
      refine ps_ldc (ps_at tX8_layPlans_ok 24 rfl) cnX8_96 ?_
      refine ps_iast (ps_at tX8_layPlans_ok 25 rfl) sh_67 (h2 c0) ?_
      refine ps_iinc (L' := [some (.inr (.inr (50, 0))), some (.inl v1), some (.inl v2), some (.inl v3), some (.inl v4), some (.inl (v5 + 1)), none, none]) (y := 1) (ps_at tX8_layPlans_ok 26 rfl) rfl (by decide) (by decide) rfl ?_
      refine ps_goto (tgt := 10) (ps_at tX8_layPlans_ok 27 rfl) (by decide) ?_
      exact h3 c0 c1
    · skip
      refine ps_iconst (x := 0) (ps_at tX8_layPlans_ok 17 rfl) (by decide) ?_
      refine ps_goto (tgt := 40) (ps_at tX8_layPlans_ok 18 rfl) (by decide) ?_
      refine ps_iast (ps_at tX8_layPlans_ok 20 rfl) sh_66 (h2 c0) ?_
      refine ps_aload_n (ps_at tX8_layPlans_ok 21 rfl) rfl rfl ?_
      refine ps_getR (ps_at tX8_layPlans_ok 22 rfl) flX8_57 sh_50 rfl ?_
      refine ps_iload (ps_at tX8_layPlans_ok 23 rfl) rfl ?_
      refine ps_ldc (ps_at tX8_layPlans_ok 24 rfl) cnX8_96 ?_
      refine ps_iast (ps_at tX8_layPlans_ok 25 rfl) sh_67 (h2 c0) ?_
      refine ps_iinc (L' := [some (.inr (.inr (50, 0))), some (.inl v1), some (.inl v2), some (.inl v3), some (.inl v4), some (.inl (v5 + 1)), none, none]) (y := 1) (ps_at tX8_layPlans_ok 26 rfl) rfl (by decide) (by decide) rfl ?_
      refine ps_goto (tgt := 10) (ps_at tX8_layPlans_ok 27 rfl) (by decide) ?_
      exact h4 c0 c1
theorem bX8_layPlans_62 {d : Nat} {Q : Option ps_V → ps_S → Prop} {v1 : Int32} {v2 : Int32} {v3 : Int32} {v4 : Int32} {v5 : Int32} {v6 : Int32} {σ : ps_S} (h1 : v6 = 0 → Q (some (.inl v5)) σ) (h2 : ¬ v6 = 0 → ps_C mX8_isPlan d [.inr (.inr (50, 0))] σ (ps_ri (fun x σ1 => kX8_layPlans_71 d Q v1 v2 v3 v4 v5 x σ1))) : kX8_layPlans_62 d Q v1 v2 v3 v4 v5 v6 σ := by
  refine ps_iload (ps_at tX8_layPlans_ok 32 rfl) rfl ?_
  refine ps_if_eq (tgt := 238) (ps_at tX8_layPlans_ok 33 rfl) (by decide) (fun c0 => ?_) (fun c0 => ?_)
  · skip
    refine ps_iload (ps_at tX8_layPlans_ok 124 rfl) rfl ?_
    exact ps_iret (ps_at tX8_layPlans_ok 125 rfl) rfl ⟨rfl, rfl⟩ (h1 c0)
  · skip
    refine ps_aload_n (ps_at tX8_layPlans_ok 34 rfl) rfl rfl ?_
    refine ps_callV (M2 := mX8_isPlan) (av := []) (rest := []) (ps_at tX8_layPlans_ok 35 rfl) cvX8_180 sh_50 rfl rfl (fun _ => Nat.le_of_ble_eq_true rfl) ?_
    refine ps_C.imp ?_ (h2 c0)
    rintro _ σ1 ⟨x, rfl, hx⟩
    exact ps_forget (L' := [some (.inr (.inr (50, 0))), some (.inl v1), some (.inl v2), some (.inl v3), some (.inl v4), some (.inl v5), none, none]) (And.intro rfl (And.intro rfl (And.intro rfl (And.intro rfl (And.intro rfl (And.intro rfl trivial)))))) hx
theorem bX8_layPlans_71 {d : Nat} {Q : Option ps_V → ps_S → Prop} {v1 : Int32} {v2 : Int32} {v3 : Int32} {v4 : Int32} {v5 : Int32} {s0 : Int32} {σ : ps_S} (h1 : s0 = 0 → kX8_layPlans_146 d Q v1 v2 v3 v4 v5 5 σ) (h2 : ¬ s0 = 0 → kX8_layPlans_77 d Q v1 v2 v3 v4 v5 0 σ) : kX8_layPlans_71 d Q v1 v2 v3 v4 v5 s0 σ := by
  refine ps_if_eq (tgt := 143) (ps_at tX8_layPlans_ok 36 rfl) (by decide) (fun c0 => ?_) (fun c0 => ?_)
  · skip
    refine ps_iconst (x := 5) (ps_at tX8_layPlans_ok 74 rfl) (by decide) ?_
    refine ps_istore (L' := [some (.inr (.inr (50, 0))), some (.inl v1), some (.inl v2), some (.inl v3), some (.inl v4), some (.inl v5), none, some (.inl 5)]) (ps_at tX8_layPlans_ok 75 rfl) (by decide) rfl ?_
    exact h1 c0
  · skip
    refine ps_iconst (x := 0) (ps_at tX8_layPlans_ok 37 rfl) (by decide) ?_
    refine ps_istore (L' := [some (.inr (.inr (50, 0))), some (.inl v1), some (.inl v2), some (.inl v3), some (.inl v4), some (.inl v5), none, some (.inl 0)]) (ps_at tX8_layPlans_ok 38 rfl) (by decide) rfl ?_
    exact h2 c0
theorem bX8_layPlans_146 {d : Nat} {Q : Option ps_V → ps_S → Prop} {v1 : Int32} {v2 : Int32} {v3 : Int32} {v4 : Int32} {v5 : Int32} {v7 : Int32} {σ : ps_S} (h1 : v7 < 0 → kX8_layPlans_207 d Q v1 v2 v3 v4 v5 v7 σ) (h2 : ¬ v7 < 0 → vp_in v7 6) (h3 : ¬ v7 < 0 → (σ 66 0 v7.toNatClampNeg) = (-900009) → kX8_layPlans_176 d Q v1 v2 v3 v4 v5 v7 σ) (h4 : ¬ v7 < 0 → ¬ (σ 66 0 v7.toNatClampNeg) = (-900009) → ¬ (σ 66 0 v7.toNatClampNeg) = (v1 - 1) → kX8_layPlans_207 d Q v1 v2 v3 v4 v5 v7 σ) (h5 : ¬ v7 < 0 → ¬ (σ 66 0 v7.toNatClampNeg) = (-900009) → (σ 66 0 v7.toNatClampNeg) = (v1 - 1) → kX8_layPlans_176 d Q v1 v2 v3 v4 v5 v7 σ) : kX8_layPlans_146 d Q v1 v2 v3 v4 v5 v7 σ := by
  refine ps_iload (ps_at tX8_layPlans_ok 76 rfl) rfl ?_
  refine ps_if_lt (tgt := 207) (ps_at tX8_layPlans_ok 77 rfl) (by decide) (fun c0 => ?_) (fun c0 => ?_)
  · skip
    exact h1 c0
  · skip
    refine ps_aload_n (ps_at tX8_layPlans_ok 78 rfl) rfl rfl ?_
    refine ps_getR (ps_at tX8_layPlans_ok 79 rfl) flX8_54 sh_50 rfl ?_
    refine ps_iload (ps_at tX8_layPlans_ok 80 rfl) rfl ?_
    refine ps_iald (ps_at tX8_layPlans_ok 81 rfl) sh_66 (h2 c0) ?_
    refine ps_ldc (ps_at tX8_layPlans_ok 82 rfl) cnX8_96 ?_
    refine ps_icmp_eq (tgt := 176) (ps_at tX8_layPlans_ok 83 rfl) (by decide) (fun c1 => ?_) (fun c1 => ?_)
    · skip
      exact h3 c0 c1
    · skip
      refine ps_aload_n (ps_at tX8_layPlans_ok 84 rfl) rfl rfl ?_
      refine ps_getR (ps_at tX8_layPlans_ok 85 rfl) flX8_54 sh_50 rfl ?_
      refine ps_iload (ps_at tX8_layPlans_ok 86 rfl) rfl ?_
      refine ps_iald (ps_at tX8_layPlans_ok 87 rfl) sh_66 (h2 c0) ?_
      refine ps_iload_n (ps_at tX8_layPlans_ok 88 rfl) rfl rfl ?_
      refine ps_iconst (x := 1) (ps_at tX8_layPlans_ok 89 rfl) (by decide) ?_
      refine ps_isub (ps_at tX8_layPlans_ok 90 rfl) ?_
      refine ps_icmp_ne (tgt := 207) (ps_at tX8_layPlans_ok 91 rfl) (by decide) (fun c2 => ?_) (fun c2 => ?_)
      · skip
        exact h4 c0 c1 c2
      · skip
        exact h5 c0 c1 c2
theorem bX8_layPlans_77 {d : Nat} {Q : Option ps_V → ps_S → Prop} {v1 : Int32} {v2 : Int32} {v3 : Int32} {v4 : Int32} {v5 : Int32} {v7 : Int32} {σ : ps_S} (h1 : 6 ≤ v7 → kX8_layPlans_109 d Q v1 v2 v3 v5 σ) (h2 : ¬ 6 ≤ v7 → ¬ v4 = 0 → kX8_layPlans_109 d Q v1 v2 v3 v5 σ) (h3 : ¬ 6 ≤ v7 → v4 = 0 → vp_in v7 6) (h4 : ¬ 6 ≤ v7 → v4 = 0 → kX8_layPlans_77 d Q v1 v2 v3 v4 v5 (v7 + 1) (ps_up σ 67 0 v7.toNatClampNeg (σ 66 0 v7.toNatClampNeg))) : kX8_layPlans_77 d Q v1 v2 v3 v4 v5 v7 σ := by
  refine ps_iload (ps_at tX8_layPlans_ok 39 rfl) rfl ?_
  refine ps_bipush (x := 6) (ps_at tX8_layPlans_ok 40 rfl) (by decide) ?_
  refine ps_icmp_ge (tgt := 109) (ps_at tX8_layPlans_ok 41 rfl) (by decide) (fun c0 => ?_) (fun c0 => ?_)
  · skip
    refine ps_forget (L' := [some (.inr (.inr (50, 0))), some (.inl v1), some (.inl v2), some (.inl v3), none, some (.inl v5), none, none]) (And.intro rfl (And.intro rfl (And.intro rfl (And.intro rfl (And.intro rfl trivial))))) ?_
    exact h1 c0
  · skip
    refine ps_iload (ps_at tX8_layPlans_ok 42 rfl) rfl ?_
    refine ps_if_ne (tgt := 109) (ps_at tX8_layPlans_ok 43 rfl) (by decide) (fun c1 => ?_) (fun c1 => ?_)
    · skip
      refine ps_forget (L' := [some (.inr (.inr (50, 0))), some (.inl v1), some (.inl v2), some (.inl v3), none, some (.inl v5), none, none]) (And.intro rfl (And.intro rfl (And.intro rfl (And.intro rfl (And.intro rfl trivial))))) ?_
      exact h2 c0 c1
    · skip
      refine ps_aload_n (ps_at tX8_layPlans_ok 44 rfl) rfl rfl ?_
      refine ps_getR (ps_at tX8_layPlans_ok 45 rfl) flX8_57 sh_50 rfl ?_
      refine ps_iload (ps_at tX8_layPlans_ok 46 rfl) rfl ?_
      refine ps_aload_n (ps_at tX8_layPlans_ok 47 rfl) rfl rfl ?_
      refine ps_getR (ps_at tX8_layPlans_ok 48 rfl) flX8_54 sh_50 rfl ?_
      refine ps_iload (ps_at tX8_layPlans_ok 49 rfl) rfl ?_
      refine ps_iald (ps_at tX8_layPlans_ok 50 rfl) sh_66 (h3 c0 c1) ?_
      refine ps_iast (ps_at tX8_layPlans_ok 51 rfl) sh_67 (h3 c0 c1) ?_
      refine ps_iinc (L' := [some (.inr (.inr (50, 0))), some (.inl v1), some (.inl v2), some (.inl v3), some (.inl v4), some (.inl v5), none, some (.inl (v7 + 1))]) (y := 1) (ps_at tX8_layPlans_ok 52 rfl) rfl (by decide) (by decide) rfl ?_
      refine ps_goto (tgt := 77) (ps_at tX8_layPlans_ok 53 rfl) (by decide) ?_
      exact h4 c0 c1
theorem bX8_layPlans_207 {d : Nat} {Q : Option ps_V → ps_S → Prop} {v1 : Int32} {v2 : Int32} {v3 : Int32} {v4 : Int32} {v5 : Int32} {v7 : Int32} {σ : ps_S} (h1 : v7 < 0 → kX8_layPlans_217 d Q v1 v2 v3 v4 v5 v7 0 σ) (h2 : ¬ v7 < 0 → kX8_layPlans_217 d Q v1 v2 v3 v4 v5 v7 1 σ) : kX8_layPlans_207 d Q v1 v2 v3 v4 v5 v7 σ := by
  refine ps_iload (ps_at tX8_layPlans_ok 107 rfl) rfl ?_
  refine ps_if_lt (tgt := 216) (ps_at tX8_layPlans_ok 108 rfl) (by decide) (fun c0 => ?_) (fun c0 => ?_)
  · skip
    refine ps_iconst (x := 0) (ps_at tX8_layPlans_ok 111 rfl) (by decide) ?_
    exact h1 c0
  · skip
    refine ps_iconst (x := 1) (ps_at tX8_layPlans_ok 109 rfl) (by decide) ?_
    refine ps_goto (tgt := 217) (ps_at tX8_layPlans_ok 110 rfl) (by decide) ?_
    exact h2 c0
theorem bX8_layPlans_176 {d : Nat} {Q : Option ps_V → ps_S → Prop} {v1 : Int32} {v2 : Int32} {v3 : Int32} {v4 : Int32} {v5 : Int32} {v7 : Int32} {σ : ps_S} (h1 : vp_in v7 6) (h2 : ¬ (σ 66 0 v7.toNatClampNeg) = (-900009) → kX8_layPlans_146 d Q v1 v2 v3 v4 v5 (v7 + (-1)) (ps_up σ 66 0 v7.toNatClampNeg 0)) (h3 : (σ 66 0 v7.toNatClampNeg) = (-900009) → kX8_layPlans_146 d Q v1 v2 v3 v4 v5 (v7 + (-1)) (ps_up σ 66 0 v7.toNatClampNeg (-900009))) : kX8_layPlans_176 d Q v1 v2 v3 v4 v5 v7 σ := by
  refine ps_aload_n (ps_at tX8_layPlans_ok 92 rfl) rfl rfl ?_
  refine ps_getR (ps_at tX8_layPlans_ok 93 rfl) flX8_54 sh_50 rfl ?_
  refine ps_iload (ps_at tX8_layPlans_ok 94 rfl) rfl ?_
  refine ps_aload_n (ps_at tX8_layPlans_ok 95 rfl) rfl rfl ?_
  refine ps_getR (ps_at tX8_layPlans_ok 96 rfl) flX8_54 sh_50 rfl ?_
  refine ps_iload (ps_at tX8_layPlans_ok 97 rfl) rfl ?_
  refine ps_iald (ps_at tX8_layPlans_ok 98 rfl) sh_66 (h1) ?_
  refine ps_ldc (ps_at tX8_layPlans_ok 99 rfl) cnX8_96 ?_
  refine ps_icmp_ne (tgt := 199) (ps_at tX8_layPlans_ok 100 rfl) (by decide) (fun c0 => ?_) (fun c0 => ?_)
  · skip
    refine ps_iconst (x := 0) (ps_at tX8_layPlans_ok 103 rfl) (by decide) ?_
    refine ps_iast (ps_at tX8_layPlans_ok 104 rfl) sh_66 (h1) ?_
    refine ps_iinc (L' := [some (.inr (.inr (50, 0))), some (.inl v1), some (.inl v2), some (.inl v3), some (.inl v4), some (.inl v5), none, some (.inl (v7 + (-1)))]) (y := (-1)) (ps_at tX8_layPlans_ok 105 rfl) rfl (by decide) (by decide) rfl ?_
    refine ps_goto (tgt := 146) (ps_at tX8_layPlans_ok 106 rfl) (by decide) ?_
    exact h2 c0
  · skip
    refine ps_ldc (ps_at tX8_layPlans_ok 101 rfl) cnX8_96 ?_
    refine ps_goto (tgt := 200) (ps_at tX8_layPlans_ok 102 rfl) (by decide) ?_
    refine ps_iast (ps_at tX8_layPlans_ok 104 rfl) sh_66 (h1) ?_
    refine ps_iinc (L' := [some (.inr (.inr (50, 0))), some (.inl v1), some (.inl v2), some (.inl v3), some (.inl v4), some (.inl v5), none, some (.inl (v7 + (-1)))]) (y := (-1)) (ps_at tX8_layPlans_ok 105 rfl) rfl (by decide) (by decide) rfl ?_
    refine ps_goto (tgt := 146) (ps_at tX8_layPlans_ok 106 rfl) (by decide) ?_
    exact h3 c0
theorem bX8_layPlans_109 {d : Nat} {Q : Option ps_V → ps_S → Prop} {v1 : Int32} {v2 : Int32} {v3 : Int32} {v5 : Int32} {σ : ps_S} (h1 : v2 = (-900009) → kX8_layPlans_146 d Q v1 v2 v3 1 (v5 + 1) 5 σ) (h2 : ¬ v2 = (-900009) → vp_in v2 6) (h3 : ¬ v2 = (-900009) → vp_in v3 6) (h4 : ¬ v2 = (-900009) → ¬ (σ 66 0 v2.toNatClampNeg) = (σ 66 0 v3.toNatClampNeg) → kX8_layPlans_146 d Q v1 v2 v3 1 (v5 + 0) 5 σ) (h5 : ¬ v2 = (-900009) → (σ 66 0 v2.toNatClampNeg) = (σ 66 0 v3.toNatClampNeg) → kX8_layPlans_146 d Q v1 v2 v3 1 (v5 + 1) 5 σ) : kX8_layPlans_109 d Q v1 v2 v3 v5 σ := by
  refine ps_iconst (x := 1) (ps_at tX8_layPlans_ok 54 rfl) (by decide) ?_
  refine ps_istore (L' := [some (.inr (.inr (50, 0))), some (.inl v1), some (.inl v2), some (.inl v3), some (.inl 1), some (.inl v5), none, none]) (ps_at tX8_layPlans_ok 55 rfl) (by decide) rfl ?_
  refine ps_iload (ps_at tX8_layPlans_ok 56 rfl) rfl ?_
  refine ps_iload_n (ps_at tX8_layPlans_ok 57 rfl) rfl rfl ?_
  refine ps_ldc (ps_at tX8_layPlans_ok 58 rfl) cnX8_96 ?_
  refine ps_icmp_eq (tgt := 135) (ps_at tX8_layPlans_ok 59 rfl) (by decide) (fun c0 => ?_) (fun c0 => ?_)
  · skip
    refine ps_iconst (x := 1) (ps_at tX8_layPlans_ok 69 rfl) (by decide) ?_
    refine ps_goto (tgt := 140) (ps_at tX8_layPlans_ok 70 rfl) (by decide) ?_
    refine ps_iadd (ps_at tX8_layPlans_ok 72 rfl) ?_
    refine ps_istore (L' := [some (.inr (.inr (50, 0))), some (.inl v1), some (.inl v2), some (.inl v3), some (.inl 1), some (.inl (v5 + 1)), none, none]) (ps_at tX8_layPlans_ok 73 rfl) (by decide) rfl ?_
    refine ps_iconst (x := 5) (ps_at tX8_layPlans_ok 74 rfl) (by decide) ?_
    refine ps_istore (L' := [some (.inr (.inr (50, 0))), some (.inl v1), some (.inl v2), some (.inl v3), some (.inl 1), some (.inl (v5 + 1)), none, some (.inl 5)]) (ps_at tX8_layPlans_ok 75 rfl) (by decide) rfl ?_
    exact h1 c0
  · skip
    refine ps_aload_n (ps_at tX8_layPlans_ok 60 rfl) rfl rfl ?_
    refine ps_getR (ps_at tX8_layPlans_ok 61 rfl) flX8_54 sh_50 rfl ?_
    refine ps_iload_n (ps_at tX8_layPlans_ok 62 rfl) rfl rfl ?_
    refine ps_iald (ps_at tX8_layPlans_ok 63 rfl) sh_66 (h2 c0) ?_
    refine ps_aload_n (ps_at tX8_layPlans_ok 64 rfl) rfl rfl ?_
    refine ps_getR (ps_at tX8_layPlans_ok 65 rfl) flX8_54 sh_50 rfl ?_
    refine ps_iload_n (ps_at tX8_layPlans_ok 66 rfl) rfl rfl ?_
    refine ps_iald (ps_at tX8_layPlans_ok 67 rfl) sh_66 (h3 c0) ?_
    refine ps_icmp_ne (tgt := 139) (ps_at tX8_layPlans_ok 68 rfl) (by decide) (fun c1 => ?_) (fun c1 => ?_)
    · skip
      refine ps_iconst (x := 0) (ps_at tX8_layPlans_ok 71 rfl) (by decide) ?_
      refine ps_iadd (ps_at tX8_layPlans_ok 72 rfl) ?_
      refine ps_istore (L' := [some (.inr (.inr (50, 0))), some (.inl v1), some (.inl v2), some (.inl v3), some (.inl 1), some (.inl (v5 + 0)), none, none]) (ps_at tX8_layPlans_ok 73 rfl) (by decide) rfl ?_
      refine ps_iconst (x := 5) (ps_at tX8_layPlans_ok 74 rfl) (by decide) ?_
      refine ps_istore (L' := [some (.inr (.inr (50, 0))), some (.inl v1), some (.inl v2), some (.inl v3), some (.inl 1), some (.inl (v5 + 0)), none, some (.inl 5)]) (ps_at tX8_layPlans_ok 75 rfl) (by decide) rfl ?_
      exact h4 c0 c1
    · skip
      refine ps_iconst (x := 1) (ps_at tX8_layPlans_ok 69 rfl) (by decide) ?_
      refine ps_goto (tgt := 140) (ps_at tX8_layPlans_ok 70 rfl) (by decide) ?_
      refine ps_iadd (ps_at tX8_layPlans_ok 72 rfl) ?_
      refine ps_istore (L' := [some (.inr (.inr (50, 0))), some (.inl v1), some (.inl v2), some (.inl v3), some (.inl 1), some (.inl (v5 + 1)), none, none]) (ps_at tX8_layPlans_ok 73 rfl) (by decide) rfl ?_
      refine ps_iconst (x := 5) (ps_at tX8_layPlans_ok 74 rfl) (by decide) ?_
      refine ps_istore (L' := [some (.inr (.inr (50, 0))), some (.inl v1), some (.inl v2), some (.inl v3), some (.inl 1), some (.inl (v5 + 1)), none, some (.inl 5)]) (ps_at tX8_layPlans_ok 75 rfl) (by decide) rfl ?_
      exact h5 c0 c1
theorem bX8_layPlans_217 {d : Nat} {Q : Option ps_V → ps_S → Prop} {v1 : Int32} {v2 : Int32} {v3 : Int32} {v4 : Int32} {v5 : Int32} {v7 : Int32} {s0 : Int32} {σ : ps_S} (h1 : s0 = 0 → kX8_layPlans_62 d Q v1 v2 v3 v4 v5 s0 σ) (h2 : ¬ s0 = 0 → vp_in v7 6) (h3 : ¬ s0 = 0 → kX8_layPlans_62 d Q v1 v2 v3 v4 v5 s0 (ps_up σ 66 0 v7.toNatClampNeg ((σ 66 0 v7.toNatClampNeg) + 1))) : kX8_layPlans_217 d Q v1 v2 v3 v4 v5 v7 s0 σ := by
  refine ps_istore (L' := [some (.inr (.inr (50, 0))), some (.inl v1), some (.inl v2), some (.inl v3), some (.inl v4), some (.inl v5), some (.inl s0), some (.inl v7)]) (ps_at tX8_layPlans_ok 112 rfl) (by decide) rfl ?_
  refine ps_iload (ps_at tX8_layPlans_ok 113 rfl) rfl ?_
  refine ps_if_eq (tgt := 235) (ps_at tX8_layPlans_ok 114 rfl) (by decide) (fun c0 => ?_) (fun c0 => ?_)
  · skip
    refine ps_goto (tgt := 62) (ps_at tX8_layPlans_ok 123 rfl) (by decide) ?_
    refine ps_forget (L' := [some (.inr (.inr (50, 0))), some (.inl v1), some (.inl v2), some (.inl v3), some (.inl v4), some (.inl v5), some (.inl s0), none]) (And.intro rfl (And.intro rfl (And.intro rfl (And.intro rfl (And.intro rfl (And.intro rfl (And.intro rfl trivial))))))) ?_
    exact h1 c0
  · skip
    refine ps_aload_n (ps_at tX8_layPlans_ok 115 rfl) rfl rfl ?_
    refine ps_getR (ps_at tX8_layPlans_ok 116 rfl) flX8_54 sh_50 rfl ?_
    refine ps_iload (ps_at tX8_layPlans_ok 117 rfl) rfl ?_
    refine ps_dup2 (ps_at tX8_layPlans_ok 118 rfl) ?_
    refine ps_iald (ps_at tX8_layPlans_ok 119 rfl) sh_66 (h2 c0) ?_
    refine ps_iconst (x := 1) (ps_at tX8_layPlans_ok 120 rfl) (by decide) ?_
    refine ps_iadd (ps_at tX8_layPlans_ok 121 rfl) ?_
    refine ps_iast (ps_at tX8_layPlans_ok 122 rfl) sh_66 (h2 c0) ?_
    refine ps_goto (tgt := 62) (ps_at tX8_layPlans_ok 123 rfl) (by decide) ?_
    refine ps_forget (L' := [some (.inr (.inr (50, 0))), some (.inl v1), some (.inl v2), some (.inl v3), some (.inl v4), some (.inl v5), some (.inl s0), none]) (And.intro rfl (And.intro rfl (And.intro rfl (And.intro rfl (And.intro rfl (And.intro rfl (And.intro rfl trivial))))))) ?_
    exact h3 c0
theorem eX8_layPlans {d : Nat} {Q : Option ps_V → ps_S → Prop} {v1 : Int32} {v2 : Int32} {v3 : Int32} {σ : ps_S} (h : kX8_layPlans_0 d Q v1 v2 v3 σ) : ps_C mX8_layPlans (d + 1) [.inr (.inr (50, 0)), .inl v1, .inl v2, .inl v3] σ Q := ps_enter (by decide) rfl ⟨rfl, rfl, rfl⟩ rfl (Nat.le_of_ble_eq_true rfl) h
abbrev kX8_plans_0 (d : Nat) (Q : Option ps_V → ps_S → Prop) (v1 : Int32) (σ : ps_S) : Prop := ps_K mX8_plans (d + 1) (ps_QF Q) 0 [some (.inr (.inr (50, 0))), some (.inl v1)] [] σ
abbrev kX8_plans_21 (d : Nat) (Q : Option ps_V → ps_S → Prop) (s0 : Int32) (σ : ps_S) : Prop := ps_K mX8_plans (d + 1) (ps_QF Q) 21 [none, none] [.inl s0] σ
theorem bX8_plans_0 {d : Nat} {Q : Option ps_V → ps_S → Prop} {v1 : Int32} {σ : ps_S} (h1 : (jbIn v1.toInt64 1 6) = 0 → Q (some (.inl (-900002))) σ) (h2 : ¬ (jbIn v1.toInt64 1 6) = 0 → ps_C mX8_layPlans d [.inr (.inr (50, 0)), .inl v1, .inl (-900009), .inl (-900009)] σ (ps_ri (fun x σ1 => kX8_plans_21 d Q x σ1))) : kX8_plans_0 d Q v1 σ := by
  refine ps_iload_n (ps_at tX8_plans_ok 0 rfl) rfl rfl ?_
  refine ps_i2l (ps_at tX8_plans_ok 1 rfl) ?_
  refine ps_lconst (x := 1) (ps_at tX8_plans_ok 2 rfl) (by decide) ?_
  refine ps_ldc2 (ps_at tX8_plans_ok 3 rfl) clX8_178 ?_
  refine ps_callS (M2 := mX8_in) (av := [.inr (.inl v1.toInt64), .inr (.inl 1), .inr (.inl 6)]) (rest := []) (ps_at tX8_plans_ok 4 rfl) csX8_99 rfl rfl (fun _ => Nat.le_of_ble_eq_true rfl) (pX8_in ?_)
  refine ps_if_eq (tgt := 24) (ps_at tX8_plans_ok 5 rfl) (by decide) (fun c0 => ?_) (fun c0 => ?_)
  · skip
    refine ps_ldc (ps_at tX8_plans_ok 12 rfl) cnX8_115 ?_
    exact ps_iret (ps_at tX8_plans_ok 13 rfl) rfl ⟨rfl, rfl⟩ (h1 c0)
  · skip
    refine ps_aload_n (ps_at tX8_plans_ok 6 rfl) rfl rfl ?_
    refine ps_iload_n (ps_at tX8_plans_ok 7 rfl) rfl rfl ?_
    refine ps_ldc (ps_at tX8_plans_ok 8 rfl) cnX8_96 ?_
    refine ps_ldc (ps_at tX8_plans_ok 9 rfl) cnX8_96 ?_
    refine ps_callV (M2 := mX8_layPlans) (av := [.inl v1, .inl (-900009), .inl (-900009)]) (rest := []) (ps_at tX8_plans_ok 10 rfl) cvX8_184 sh_50 rfl rfl (fun _ => Nat.le_of_ble_eq_true rfl) ?_
    refine ps_C.imp ?_ (h2 c0)
    rintro _ σ1 ⟨x, rfl, hx⟩
    exact ps_forget (L' := [none, none]) trivial hx
theorem bX8_plans_21 {d : Nat} {Q : Option ps_V → ps_S → Prop} {s0 : Int32} {σ : ps_S} (h1 : Q (some (.inl s0)) σ) : kX8_plans_21 d Q s0 σ := by
  refine ps_goto (tgt := 26) (ps_at tX8_plans_ok 11 rfl) (by decide) ?_
  exact ps_iret (ps_at tX8_plans_ok 13 rfl) rfl ⟨rfl, rfl⟩ (h1)
theorem eX8_plans {d : Nat} {Q : Option ps_V → ps_S → Prop} {v1 : Int32} {σ : ps_S} (h : kX8_plans_0 d Q v1 σ) : ps_C mX8_plans (d + 1) [.inr (.inr (50, 0)), .inl v1] σ Q := ps_enter (by decide) rfl ⟨rfl, rfl, rfl⟩ rfl (Nat.le_of_ble_eq_true rfl) h
abbrev kX8_day_0 (d : Nat) (Q : Option ps_V → ps_S → Prop) (v1 : Int32) (v2 : Int32) (σ : ps_S) : Prop := ps_K mX8_day (d + 2) (ps_QF Q) 0 [some (.inr (.inr (50, 0))), some (.inl v1), some (.inl v2), none] [] σ
abbrev kX8_day_34 (d : Nat) (Q : Option ps_V → ps_S → Prop) (v2 : Int32) (s0 : Int32) (σ : ps_S) : Prop := ps_K mX8_day (d + 2) (ps_QF Q) 34 [some (.inr (.inr (50, 0))), none, some (.inl v2), none] [.inl s0] σ
theorem bX8_day_0 {d : Nat} {Q : Option ps_V → ps_S → Prop} {v1 : Int32} {v2 : Int32} {σ : ps_S} (h1 : ¬ (jbIn v2.toInt64 0 5) = 0 → ¬ (jbIn v1.toInt64 1 6) = 0 → ps_C mX8_layPlans (d + 1) [.inr (.inr (50, 0)), .inl v1, .inl (-900009), .inl (-900009)] σ (ps_ri (fun x σ1 => kX8_day_34 d Q v2 x σ1))) (h2 : ¬ (jbIn v2.toInt64 0 5) = 0 → (jbIn v1.toInt64 1 6) = 0 → Q (some (.inl (-900002))) σ) (h3 : (jbIn v2.toInt64 0 5) = 0 → Q (some (.inl (-900001))) σ) : kX8_day_0 d Q v1 v2 σ := by
  refine ps_iload_n (ps_at tX8_day_ok 0 rfl) rfl rfl ?_
  refine ps_callS (M2 := mX8_isForme) (av := [.inl v2]) (rest := []) (ps_at tX8_day_ok 1 rfl) csX8_109 rfl rfl (fun _ => Nat.le_of_ble_eq_true rfl) (pX8_isForme ?_)
  refine ps_if_ne (tgt := 10) (ps_at tX8_day_ok 2 rfl) (by decide) (fun c0 => ?_) (fun c0 => ?_)
  · skip
    refine ps_iload_n (ps_at tX8_day_ok 5 rfl) rfl rfl ?_
    refine ps_i2l (ps_at tX8_day_ok 6 rfl) ?_
    refine ps_lconst (x := 1) (ps_at tX8_day_ok 7 rfl) (by decide) ?_
    refine ps_ldc2 (ps_at tX8_day_ok 8 rfl) clX8_178 ?_
    refine ps_callS (M2 := mX8_in) (av := [.inr (.inl v1.toInt64), .inr (.inl 1), .inr (.inl 6)]) (rest := []) (ps_at tX8_day_ok 9 rfl) csX8_99 rfl rfl (fun _ => Nat.le_of_ble_eq_true rfl) (pX8_in ?_)
    refine ps_if_ne (tgt := 25) (ps_at tX8_day_ok 10 rfl) (by decide) (fun c1 => ?_) (fun c1 => ?_)
    · skip
      refine ps_aload_n (ps_at tX8_day_ok 13 rfl) rfl rfl ?_
      refine ps_iload_n (ps_at tX8_day_ok 14 rfl) rfl rfl ?_
      refine ps_ldc (ps_at tX8_day_ok 15 rfl) cnX8_96 ?_
      refine ps_ldc (ps_at tX8_day_ok 16 rfl) cnX8_96 ?_
      refine ps_callV (M2 := mX8_layPlans) (av := [.inl v1, .inl (-900009), .inl (-900009)]) (rest := []) (ps_at tX8_day_ok 17 rfl) cvX8_184 sh_50 rfl rfl (fun _ => Nat.le_of_ble_eq_true rfl) ?_
      refine ps_C.imp ?_ (h1 c0 c1)
      rintro _ σ1 ⟨x, rfl, hx⟩
      exact ps_forget (L' := [some (.inr (.inr (50, 0))), none, some (.inl v2), none]) (And.intro rfl (And.intro rfl trivial)) hx
    · skip
      refine ps_ldc (ps_at tX8_day_ok 11 rfl) cnX8_115 ?_
      exact ps_iret (ps_at tX8_day_ok 12 rfl) rfl ⟨rfl, rfl⟩ (h2 c0 c1)
  · skip
    refine ps_ldc (ps_at tX8_day_ok 3 rfl) cnX8_112 ?_
    exact ps_iret (ps_at tX8_day_ok 4 rfl) rfl ⟨rfl, rfl⟩ (h3 c0)
theorem bX8_day_34 {d : Nat} {Q : Option ps_V → ps_S → Prop} {v2 : Int32} {s0 : Int32} {σ : ps_S} (h1 : vp_in v2 6) (h2 : Q (some (.inl (σ 67 0 v2.toNatClampNeg))) σ) : kX8_day_34 d Q v2 s0 σ := by
  refine ps_istore_n (L' := [some (.inr (.inr (50, 0))), none, some (.inl v2), some (.inl s0)]) (ps_at tX8_day_ok 18 rfl) rfl (by decide) rfl ?_
  refine ps_aload_n (ps_at tX8_day_ok 19 rfl) rfl rfl ?_
  refine ps_getR (ps_at tX8_day_ok 20 rfl) flX8_57 sh_50 rfl ?_
  refine ps_iload_n (ps_at tX8_day_ok 21 rfl) rfl rfl ?_
  refine ps_iald (ps_at tX8_day_ok 22 rfl) sh_67 (h1) ?_
  exact ps_iret (ps_at tX8_day_ok 23 rfl) rfl ⟨rfl, rfl⟩ (h2)
theorem eX8_day {d : Nat} {Q : Option ps_V → ps_S → Prop} {v1 : Int32} {v2 : Int32} {σ : ps_S} (h : kX8_day_0 d Q v1 v2 σ) : ps_C mX8_day (d + 2) [.inr (.inr (50, 0)), .inl v1, .inl v2] σ Q := ps_enter (by decide) rfl ⟨rfl, rfl, rfl⟩ rfl (Nat.le_of_ble_eq_true rfl) h
abbrev kX8_beside_0 (d : Nat) (Q : Option ps_V → ps_S → Prop) (v1 : Int32) (v2 : Int32) (v3 : Int32) (σ : ps_S) : Prop := ps_K mX8_beside (d + 2) (ps_QF Q) 0 [some (.inr (.inr (50, 0))), some (.inl v1), some (.inl v2), some (.inl v3)] [] σ
abbrev kX8_beside_57 (d : Nat) (Q : Option ps_V → ps_S → Prop) (s0 : Int32) (σ : ps_S) : Prop := ps_K mX8_beside (d + 2) (ps_QF Q) 57 [none, none, none, none] [.inl s0] σ
theorem bX8_beside_0 {d : Nat} {Q : Option ps_V → ps_S → Prop} {v1 : Int32} {v2 : Int32} {v3 : Int32} {σ : ps_S} (h1 : (jbIn v2.toInt64 0 5) = 0 → Q (some (.inl (-900001))) σ) (h2 : ¬ (jbIn v2.toInt64 0 5) = 0 → ¬ (jbIn v3.toInt64 0 5) = 0 → ¬ (jbIn v1.toInt64 1 6) = 0 → vp_in v2 6) (h3 : ¬ (jbIn v2.toInt64 0 5) = 0 → ¬ (jbIn v3.toInt64 0 5) = 0 → ¬ (jbIn v1.toInt64 1 6) = 0 → (jbP (mSh σ v2.toNatClampNeg v2.toNatClampNeg)) = 0 → Q (some (.inl (-900003))) σ) (h4 : ¬ (jbIn v2.toInt64 0 5) = 0 → ¬ (jbIn v3.toInt64 0 5) = 0 → ¬ (jbIn v1.toInt64 1 6) = 0 → ¬ (jbP (mSh σ v2.toNatClampNeg v2.toNatClampNeg)) = 0 → vp_in v3 6) (h5 : ¬ (jbIn v2.toInt64 0 5) = 0 → ¬ (jbIn v3.toInt64 0 5) = 0 → ¬ (jbIn v1.toInt64 1 6) = 0 → ¬ (jbP (mSh σ v2.toNatClampNeg v2.toNatClampNeg)) = 0 → (jbP (mSh σ v3.toNatClampNeg v3.toNatClampNeg)) = 0 → Q (some (.inl (-900003))) σ) (h6 : ¬ (jbIn v2.toInt64 0 5) = 0 → ¬ (jbIn v3.toInt64 0 5) = 0 → ¬ (jbIn v1.toInt64 1 6) = 0 → ¬ (jbP (mSh σ v2.toNatClampNeg v2.toNatClampNeg)) = 0 → ¬ (jbP (mSh σ v3.toNatClampNeg v3.toNatClampNeg)) = 0 → ps_C mX8_layPlans (d + 1) [.inr (.inr (50, 0)), .inl v1, .inl v2, .inl v3] σ (ps_ri (fun x σ1 => kX8_beside_57 d Q x σ1))) (h7 : ¬ (jbIn v2.toInt64 0 5) = 0 → ¬ (jbIn v3.toInt64 0 5) = 0 → (jbIn v1.toInt64 1 6) = 0 → Q (some (.inl (-900002))) σ) (h8 : ¬ (jbIn v2.toInt64 0 5) = 0 → (jbIn v3.toInt64 0 5) = 0 → Q (some (.inl (-900001))) σ) : kX8_beside_0 d Q v1 v2 v3 σ := by
  refine ps_iload_n (ps_at tX8_beside_ok 0 rfl) rfl rfl ?_
  refine ps_callS (M2 := mX8_isForme) (av := [.inl v2]) (rest := []) (ps_at tX8_beside_ok 1 rfl) csX8_109 rfl rfl (fun _ => Nat.le_of_ble_eq_true rfl) (pX8_isForme ?_)
  refine ps_if_eq (tgt := 14) (ps_at tX8_beside_ok 2 rfl) (by decide) (fun c0 => ?_) (fun c0 => ?_)
  · skip
    refine ps_ldc (ps_at tX8_beside_ok 6 rfl) cnX8_112 ?_
    exact ps_iret (ps_at tX8_beside_ok 7 rfl) rfl ⟨rfl, rfl⟩ (h1 c0)
  · skip
    refine ps_iload_n (ps_at tX8_beside_ok 3 rfl) rfl rfl ?_
    refine ps_callS (M2 := mX8_isForme) (av := [.inl v3]) (rest := []) (ps_at tX8_beside_ok 4 rfl) csX8_109 rfl rfl (fun _ => Nat.le_of_ble_eq_true rfl) (pX8_isForme ?_)
    refine ps_if_ne (tgt := 17) (ps_at tX8_beside_ok 5 rfl) (by decide) (fun c1 => ?_) (fun c1 => ?_)
    · skip
      refine ps_iload_n (ps_at tX8_beside_ok 8 rfl) rfl rfl ?_
      refine ps_i2l (ps_at tX8_beside_ok 9 rfl) ?_
      refine ps_lconst (x := 1) (ps_at tX8_beside_ok 10 rfl) (by decide) ?_
      refine ps_ldc2 (ps_at tX8_beside_ok 11 rfl) clX8_178 ?_
      refine ps_callS (M2 := mX8_in) (av := [.inr (.inl v1.toInt64), .inr (.inl 1), .inr (.inl 6)]) (rest := []) (ps_at tX8_beside_ok 12 rfl) csX8_99 rfl rfl (fun _ => Nat.le_of_ble_eq_true rfl) (pX8_in ?_)
      refine ps_if_ne (tgt := 32) (ps_at tX8_beside_ok 13 rfl) (by decide) (fun c2 => ?_) (fun c2 => ?_)
      · skip
        refine ps_aload_n (ps_at tX8_beside_ok 16 rfl) rfl rfl ?_
        refine ps_iload_n (ps_at tX8_beside_ok 17 rfl) rfl rfl ?_
        refine ps_iload_n (ps_at tX8_beside_ok 18 rfl) rfl rfl ?_
        refine ps_callV (M2 := mX8_shares) (av := [.inl v2, .inl v2]) (rest := []) (ps_at tX8_beside_ok 19 rfl) cvX8_172 sh_50 rfl rfl (fun _ => Nat.le_of_ble_eq_true rfl) (pX8_shares (h2 c0 c1 c2) (h2 c0 c1 c2) ?_)
        refine ps_if_eq (tgt := 60) (ps_at tX8_beside_ok 20 rfl) (by decide) (fun c3 => ?_) (fun c3 => ?_)
        · skip
          refine ps_ldc (ps_at tX8_beside_ok 32 rfl) cnX8_148 ?_
          exact ps_iret (ps_at tX8_beside_ok 33 rfl) rfl ⟨rfl, rfl⟩ (h3 c0 c1 c2 c3)
        · skip
          refine ps_aload_n (ps_at tX8_beside_ok 21 rfl) rfl rfl ?_
          refine ps_iload_n (ps_at tX8_beside_ok 22 rfl) rfl rfl ?_
          refine ps_iload_n (ps_at tX8_beside_ok 23 rfl) rfl rfl ?_
          refine ps_callV (M2 := mX8_shares) (av := [.inl v3, .inl v3]) (rest := []) (ps_at tX8_beside_ok 24 rfl) cvX8_172 sh_50 rfl rfl (fun _ => Nat.le_of_ble_eq_true rfl) (pX8_shares (h4 c0 c1 c2 c3) (h4 c0 c1 c2 c3) ?_)
          refine ps_if_eq (tgt := 60) (ps_at tX8_beside_ok 25 rfl) (by decide) (fun c4 => ?_) (fun c4 => ?_)
          · skip
            refine ps_ldc (ps_at tX8_beside_ok 32 rfl) cnX8_148 ?_
            exact ps_iret (ps_at tX8_beside_ok 33 rfl) rfl ⟨rfl, rfl⟩ (h5 c0 c1 c2 c3 c4)
          · skip
            refine ps_aload_n (ps_at tX8_beside_ok 26 rfl) rfl rfl ?_
            refine ps_iload_n (ps_at tX8_beside_ok 27 rfl) rfl rfl ?_
            refine ps_iload_n (ps_at tX8_beside_ok 28 rfl) rfl rfl ?_
            refine ps_iload_n (ps_at tX8_beside_ok 29 rfl) rfl rfl ?_
            refine ps_callV (M2 := mX8_layPlans) (av := [.inl v1, .inl v2, .inl v3]) (rest := []) (ps_at tX8_beside_ok 30 rfl) cvX8_184 sh_50 rfl rfl (fun _ => Nat.le_of_ble_eq_true rfl) ?_
            refine ps_C.imp ?_ (h6 c0 c1 c2 c3 c4)
            rintro _ σ1 ⟨x, rfl, hx⟩
            exact ps_forget (L' := [none, none, none, none]) trivial hx
      · skip
        refine ps_ldc (ps_at tX8_beside_ok 14 rfl) cnX8_115 ?_
        exact ps_iret (ps_at tX8_beside_ok 15 rfl) rfl ⟨rfl, rfl⟩ (h7 c0 c1 c2)
    · skip
      refine ps_ldc (ps_at tX8_beside_ok 6 rfl) cnX8_112 ?_
      exact ps_iret (ps_at tX8_beside_ok 7 rfl) rfl ⟨rfl, rfl⟩ (h8 c0 c1)
theorem bX8_beside_57 {d : Nat} {Q : Option ps_V → ps_S → Prop} {s0 : Int32} {σ : ps_S} (h1 : Q (some (.inl s0)) σ) : kX8_beside_57 d Q s0 σ := by
  refine ps_goto (tgt := 62) (ps_at tX8_beside_ok 31 rfl) (by decide) ?_
  exact ps_iret (ps_at tX8_beside_ok 33 rfl) rfl ⟨rfl, rfl⟩ (h1)
theorem eX8_beside {d : Nat} {Q : Option ps_V → ps_S → Prop} {v1 : Int32} {v2 : Int32} {v3 : Int32} {σ : ps_S} (h : kX8_beside_0 d Q v1 v2 v3 σ) : ps_C mX8_beside (d + 2) [.inr (.inr (50, 0)), .inl v1, .inl v2, .inl v3] σ Q := ps_enter (by decide) rfl ⟨rfl, rfl, rfl⟩ rfl (Nat.le_of_ble_eq_true rfl) h
abbrev kX8_fewest_0 (d : Nat) (Q : Option ps_V → ps_S → Prop)  (σ : ps_S) : Prop := ps_K mX8_fewest (d + 1) (ps_QF Q) 0 [some (.inr (.inr (50, 0))), none] [] σ
abbrev kX8_fewest_2 (d : Nat) (Q : Option ps_V → ps_S → Prop) (v1 : Int32) (σ : ps_S) : Prop := ps_K mX8_fewest (d + 1) (ps_QF Q) 2 [some (.inr (.inr (50, 0))), some (.inl v1)] [] σ
abbrev kX8_fewest_17 (d : Nat) (Q : Option ps_V → ps_S → Prop) (v1 : Int32) (s0 : Int32) (σ : ps_S) : Prop := ps_K mX8_fewest (d + 1) (ps_QF Q) 17 [some (.inr (.inr (50, 0))), some (.inl v1)] [.inl s0] σ
theorem bX8_fewest_0 {d : Nat} {Q : Option ps_V → ps_S → Prop}  {σ : ps_S} (h1 : kX8_fewest_2 d Q 1 σ) : kX8_fewest_0 d Q σ := by
  refine ps_iconst (x := 1) (ps_at tX8_fewest_ok 0 rfl) (by decide) ?_
  refine ps_istore_n (L' := [some (.inr (.inr (50, 0))), some (.inl 1)]) (ps_at tX8_fewest_ok 1 rfl) rfl (by decide) rfl ?_
  exact h1
theorem bX8_fewest_2 {d : Nat} {Q : Option ps_V → ps_S → Prop} {v1 : Int32} {σ : ps_S} (h1 : 7 ≤ v1 → Q (some (.inl (-900009))) σ) (h2 : ¬ 7 ≤ v1 → ps_C mX8_layPlans d [.inr (.inr (50, 0)), .inl v1, .inl (-900009), .inl (-900009)] σ (ps_ri (fun x σ1 => kX8_fewest_17 d Q v1 x σ1))) : kX8_fewest_2 d Q v1 σ := by
  refine ps_iload_n (ps_at tX8_fewest_ok 2 rfl) rfl rfl ?_
  refine ps_bipush (x := 7) (ps_at tX8_fewest_ok 3 rfl) (by decide) ?_
  refine ps_icmp_ge (tgt := 28) (ps_at tX8_fewest_ok 4 rfl) (by decide) (fun c0 => ?_) (fun c0 => ?_)
  · skip
    refine ps_ldc (ps_at tX8_fewest_ok 15 rfl) cnX8_96 ?_
    exact ps_iret (ps_at tX8_fewest_ok 16 rfl) rfl ⟨rfl, rfl⟩ (h1 c0)
  · skip
    refine ps_aload_n (ps_at tX8_fewest_ok 5 rfl) rfl rfl ?_
    refine ps_iload_n (ps_at tX8_fewest_ok 6 rfl) rfl rfl ?_
    refine ps_ldc (ps_at tX8_fewest_ok 7 rfl) cnX8_96 ?_
    refine ps_ldc (ps_at tX8_fewest_ok 8 rfl) cnX8_96 ?_
    refine ps_callV (M2 := mX8_layPlans) (av := [.inl v1, .inl (-900009), .inl (-900009)]) (rest := []) (ps_at tX8_fewest_ok 9 rfl) cvX8_184 sh_50 rfl rfl (fun _ => Nat.le_of_ble_eq_true rfl) ?_
    refine ps_C.imp ?_ (h2 c0)
    rintro _ σ1 ⟨x, rfl, hx⟩
    exact hx
theorem bX8_fewest_17 {d : Nat} {Q : Option ps_V → ps_S → Prop} {v1 : Int32} {s0 : Int32} {σ : ps_S} (h1 : s0 ≤ 0 → kX8_fewest_2 d Q (v1 + 1) σ) (h2 : ¬ s0 ≤ 0 → Q (some (.inl v1)) σ) : kX8_fewest_17 d Q v1 s0 σ := by
  refine ps_if_le (tgt := 22) (ps_at tX8_fewest_ok 10 rfl) (by decide) (fun c0 => ?_) (fun c0 => ?_)
  · skip
    refine ps_iinc (L' := [some (.inr (.inr (50, 0))), some (.inl (v1 + 1))]) (y := 1) (ps_at tX8_fewest_ok 13 rfl) rfl (by decide) (by decide) rfl ?_
    refine ps_goto (tgt := 2) (ps_at tX8_fewest_ok 14 rfl) (by decide) ?_
    exact h1 c0
  · skip
    refine ps_iload_n (ps_at tX8_fewest_ok 11 rfl) rfl rfl ?_
    exact ps_iret (ps_at tX8_fewest_ok 12 rfl) rfl ⟨rfl, rfl⟩ (h2 c0)
theorem eX8_fewest {d : Nat} {Q : Option ps_V → ps_S → Prop}  {σ : ps_S} (h : kX8_fewest_0 d Q σ) : ps_C mX8_fewest (d + 1) [.inr (.inr (50, 0))] σ Q := ps_enter (by decide) rfl ⟨rfl, rfl, rfl⟩ rfl (Nat.le_of_ble_eq_true rfl) h
abbrev kX8_sheet_0 (d : Nat) (Q : Option ps_V → ps_S → Prop) (v1 : Int32) (v2 : Int32) (σ : ps_S) : Prop := ps_K mX8_sheet (d + 2) (ps_QF Q) 0 [some (.inr (.inr (50, 0))), some (.inl v1), some (.inl v2)] [] σ
theorem bX8_sheet_0 {d : Nat} {Q : Option ps_V → ps_S → Prop} {v1 : Int32} {v2 : Int32} {σ : ps_S} (h1 : ¬ (jbIn v1.toInt64 0 5) = 0 → ¬ (jbIn v2.toInt64 0 9) = 0 → vp_in v1 6) (h2 : ¬ (jbIn v1.toInt64 0 5) = 0 → ¬ (jbIn v2.toInt64 0 9) = 0 → ¬ (σ 68 0 v1.toNatClampNeg) = 12 → vp_in ((12 * v1) + (σ 68 0 v1.toNatClampNeg)) 72) (h3 : ¬ (jbIn v1.toInt64 0 5) = 0 → ¬ (jbIn v2.toInt64 0 9) = 0 → ¬ (σ 68 0 v1.toNatClampNeg) = 12 → Q (some (.inl ((ps_up (ps_up σ 69 0 ((12 * v1) + (σ 68 0 v1.toNatClampNeg)).toNatClampNeg v2) 68 0 v1.toNatClampNeg (((ps_up σ 69 0 ((12 * v1) + (σ 68 0 v1.toNatClampNeg)).toNatClampNeg v2) 68 0 v1.toNatClampNeg) + 1)) 68 0 v1.toNatClampNeg))) (ps_up (ps_up σ 69 0 ((12 * v1) + (σ 68 0 v1.toNatClampNeg)).toNatClampNeg v2) 68 0 v1.toNatClampNeg (((ps_up σ 69 0 ((12 * v1) + (σ 68 0 v1.toNatClampNeg)).toNatClampNeg v2) 68 0 v1.toNatClampNeg) + 1))) (h4 : ¬ (jbIn v1.toInt64 0 5) = 0 → ¬ (jbIn v2.toInt64 0 9) = 0 → (σ 68 0 v1.toNatClampNeg) = 12 → Q (some (.inl (-900003))) σ) (h5 : ¬ (jbIn v1.toInt64 0 5) = 0 → (jbIn v2.toInt64 0 9) = 0 → Q (some (.inl (-900002))) σ) (h6 : (jbIn v1.toInt64 0 5) = 0 → Q (some (.inl (-900001))) σ) : kX8_sheet_0 d Q v1 v2 σ := by
  refine ps_iload_n (ps_at tX8_sheet_ok 0 rfl) rfl rfl ?_
  refine ps_callS (M2 := mX8_isForme) (av := [.inl v1]) (rest := []) (ps_at tX8_sheet_ok 1 rfl) csX8_109 rfl rfl (fun _ => Nat.le_of_ble_eq_true rfl) (pX8_isForme ?_)
  refine ps_if_ne (tgt := 10) (ps_at tX8_sheet_ok 2 rfl) (by decide) (fun c0 => ?_) (fun c0 => ?_)
  · skip
    refine ps_iload_n (ps_at tX8_sheet_ok 5 rfl) rfl rfl ?_
    refine ps_i2l (ps_at tX8_sheet_ok 6 rfl) ?_
    refine ps_lconst (x := 0) (ps_at tX8_sheet_ok 7 rfl) (by decide) ?_
    refine ps_ldc2 (ps_at tX8_sheet_ok 8 rfl) clX8_113 ?_
    refine ps_callS (M2 := mX8_in) (av := [.inr (.inl v2.toInt64), .inr (.inl 0), .inr (.inl 9)]) (rest := []) (ps_at tX8_sheet_ok 9 rfl) csX8_99 rfl rfl (fun _ => Nat.le_of_ble_eq_true rfl) (pX8_in ?_)
    refine ps_if_ne (tgt := 25) (ps_at tX8_sheet_ok 10 rfl) (by decide) (fun c1 => ?_) (fun c1 => ?_)
    · skip
      refine ps_aload_n (ps_at tX8_sheet_ok 13 rfl) rfl rfl ?_
      refine ps_getR (ps_at tX8_sheet_ok 14 rfl) flX8_60 sh_50 rfl ?_
      refine ps_iload_n (ps_at tX8_sheet_ok 15 rfl) rfl rfl ?_
      refine ps_iald (ps_at tX8_sheet_ok 16 rfl) sh_68 (h1 c0 c1) ?_
      refine ps_bipush (x := 12) (ps_at tX8_sheet_ok 17 rfl) (by decide) ?_
      refine ps_icmp_ne (tgt := 39) (ps_at tX8_sheet_ok 18 rfl) (by decide) (fun c2 => ?_) (fun c2 => ?_)
      · skip
        refine ps_aload_n (ps_at tX8_sheet_ok 21 rfl) rfl rfl ?_
        refine ps_getR (ps_at tX8_sheet_ok 22 rfl) flX8_63 sh_50 rfl ?_
        refine ps_bipush (x := 12) (ps_at tX8_sheet_ok 23 rfl) (by decide) ?_
        refine ps_iload_n (ps_at tX8_sheet_ok 24 rfl) rfl rfl ?_
        refine ps_imul (ps_at tX8_sheet_ok 25 rfl) ?_
        refine ps_aload_n (ps_at tX8_sheet_ok 26 rfl) rfl rfl ?_
        refine ps_getR (ps_at tX8_sheet_ok 27 rfl) flX8_60 sh_50 rfl ?_
        refine ps_iload_n (ps_at tX8_sheet_ok 28 rfl) rfl rfl ?_
        refine ps_iald (ps_at tX8_sheet_ok 29 rfl) sh_68 (h1 c0 c1) ?_
        refine ps_iadd (ps_at tX8_sheet_ok 30 rfl) ?_
        refine ps_iload_n (ps_at tX8_sheet_ok 31 rfl) rfl rfl ?_
        refine ps_iast (ps_at tX8_sheet_ok 32 rfl) sh_69 (h2 c0 c1 c2) ?_
        refine ps_aload_n (ps_at tX8_sheet_ok 33 rfl) rfl rfl ?_
        refine ps_getR (ps_at tX8_sheet_ok 34 rfl) flX8_60 sh_50 rfl ?_
        refine ps_iload_n (ps_at tX8_sheet_ok 35 rfl) rfl rfl ?_
        refine ps_dup2 (ps_at tX8_sheet_ok 36 rfl) ?_
        refine ps_iald (ps_at tX8_sheet_ok 37 rfl) sh_68 (h1 c0 c1) ?_
        refine ps_iconst (x := 1) (ps_at tX8_sheet_ok 38 rfl) (by decide) ?_
        refine ps_iadd (ps_at tX8_sheet_ok 39 rfl) ?_
        refine ps_iast (ps_at tX8_sheet_ok 40 rfl) sh_68 (h1 c0 c1) ?_
        refine ps_aload_n (ps_at tX8_sheet_ok 41 rfl) rfl rfl ?_
        refine ps_getR (ps_at tX8_sheet_ok 42 rfl) flX8_60 sh_50 rfl ?_
        refine ps_iload_n (ps_at tX8_sheet_ok 43 rfl) rfl rfl ?_
        refine ps_iald (ps_at tX8_sheet_ok 44 rfl) sh_68 (h1 c0 c1) ?_
        exact ps_iret (ps_at tX8_sheet_ok 45 rfl) rfl ⟨rfl, rfl⟩ (h3 c0 c1 c2)
      · skip
        refine ps_ldc (ps_at tX8_sheet_ok 19 rfl) cnX8_148 ?_
        exact ps_iret (ps_at tX8_sheet_ok 20 rfl) rfl ⟨rfl, rfl⟩ (h4 c0 c1 c2)
    · skip
      refine ps_ldc (ps_at tX8_sheet_ok 11 rfl) cnX8_115 ?_
      exact ps_iret (ps_at tX8_sheet_ok 12 rfl) rfl ⟨rfl, rfl⟩ (h5 c0 c1)
  · skip
    refine ps_ldc (ps_at tX8_sheet_ok 3 rfl) cnX8_112 ?_
    exact ps_iret (ps_at tX8_sheet_ok 4 rfl) rfl ⟨rfl, rfl⟩ (h6 c0)
theorem eX8_sheet {d : Nat} {Q : Option ps_V → ps_S → Prop} {v1 : Int32} {v2 : Int32} {σ : ps_S} (h : kX8_sheet_0 d Q v1 v2 σ) : ps_C mX8_sheet (d + 2) [.inr (.inr (50, 0)), .inl v1, .inl v2] σ Q := ps_enter (by decide) rfl ⟨rfl, rfl, rfl⟩ rfl (Nat.le_of_ble_eq_true rfl) h
abbrev kX8_size_0 (d : Nat) (Q : Option ps_V → ps_S → Prop) (v1 : Int32) (σ : ps_S) : Prop := ps_K mX8_size (d + 1) (ps_QF Q) 0 [some (.inr (.inr (50, 0))), some (.inl v1), none] [] σ
theorem bX8_size_0 {d : Nat} {Q : Option ps_V → ps_S → Prop} {v1 : Int32} {σ : ps_S} (h1 : ¬ (jbIn v1.toInt64 1 12) = 0 → Q (some (.inl (σ 50 0 20))) (ps_up σ 50 0 20 v1)) (h2 : (jbIn v1.toInt64 1 12) = 0 → Q (some (.inl (-900002))) σ) : kX8_size_0 d Q v1 σ := by
  refine ps_iload_n (ps_at tX8_size_ok 0 rfl) rfl rfl ?_
  refine ps_i2l (ps_at tX8_size_ok 1 rfl) ?_
  refine ps_lconst (x := 1) (ps_at tX8_size_ok 2 rfl) (by decide) ?_
  refine ps_ldc2 (ps_at tX8_size_ok 3 rfl) clX8_187 ?_
  refine ps_callS (M2 := mX8_in) (av := [.inr (.inl v1.toInt64), .inr (.inl 1), .inr (.inl 12)]) (rest := []) (ps_at tX8_size_ok 4 rfl) csX8_99 rfl rfl (fun _ => Nat.le_of_ble_eq_true rfl) (pX8_in ?_)
  refine ps_if_ne (tgt := 15) (ps_at tX8_size_ok 5 rfl) (by decide) (fun c0 => ?_) (fun c0 => ?_)
  · skip
    refine ps_aload_n (ps_at tX8_size_ok 8 rfl) rfl rfl ?_
    refine ps_getI (ps_at tX8_size_ok 9 rfl) flX8_69 sh_50 rfl ?_
    refine ps_istore_n (L' := [some (.inr (.inr (50, 0))), some (.inl v1), some (.inl (σ 50 0 20))]) (ps_at tX8_size_ok 10 rfl) rfl (by decide) rfl ?_
    refine ps_aload_n (ps_at tX8_size_ok 11 rfl) rfl rfl ?_
    refine ps_iload_n (ps_at tX8_size_ok 12 rfl) rfl rfl ?_
    refine ps_putI (ps_at tX8_size_ok 13 rfl) fpX8_69 sh_50 rfl ?_
    refine ps_iload_n (ps_at tX8_size_ok 14 rfl) rfl rfl ?_
    exact ps_iret (ps_at tX8_size_ok 15 rfl) rfl ⟨rfl, rfl⟩ (h1 c0)
  · skip
    refine ps_ldc (ps_at tX8_size_ok 6 rfl) cnX8_115 ?_
    exact ps_iret (ps_at tX8_size_ok 7 rfl) rfl ⟨rfl, rfl⟩ (h2 c0)
theorem eX8_size {d : Nat} {Q : Option ps_V → ps_S → Prop} {v1 : Int32} {σ : ps_S} (h : kX8_size_0 d Q v1 σ) : ps_C mX8_size (d + 1) [.inr (.inr (50, 0)), .inl v1] σ Q := ps_enter (by decide) rfl ⟨rfl, rfl, rfl⟩ rfl (Nat.le_of_ble_eq_true rfl) h
abbrev kX8_seen_0 (d : Nat) (Q : Option ps_V → ps_S → Prop) (v1 : Int32) (v2 : Int32) (v3 : Int32) (σ : ps_S) : Prop := ps_K mX8_seen (d + 2) (ps_QF Q) 0 [some (.inr (.inr (50, 0))), some (.inl v1), some (.inl v2), some (.inl v3), none] [] σ
abbrev kX8_seen_43 (d : Nat) (Q : Option ps_V → ps_S → Prop) (v1 : Int32) (v2 : Int32) (v3 : Int32) (σ : ps_S) : Prop := ps_K mX8_seen (d + 2) (ps_QF Q) 43 [some (.inr (.inr (50, 0))), some (.inl v1), some (.inl v2), some (.inl v3), none] [] σ
theorem bX8_seen_0 {d : Nat} {Q : Option ps_V → ps_S → Prop} {v1 : Int32} {v2 : Int32} {v3 : Int32} {σ : ps_S} (h1 : (jbIn v1.toInt64 0 5) = 0 → Q (some (.inl (-900001))) σ) (h2 : ¬ (jbIn v1.toInt64 0 5) = 0 → ¬ (jbIn v2.toInt64 0 11) = 0 → v3 = (-900009) → kX8_seen_43 d Q v1 v2 v3 σ) (h3 : ¬ (jbIn v1.toInt64 0 5) = 0 → ¬ (jbIn v2.toInt64 0 11) = 0 → ¬ v3 = (-900009) → ¬ (jbIn v3.toInt64 0 9) = 0 → kX8_seen_43 d Q v1 v2 v3 σ) (h4 : ¬ (jbIn v1.toInt64 0 5) = 0 → ¬ (jbIn v2.toInt64 0 11) = 0 → ¬ v3 = (-900009) → (jbIn v3.toInt64 0 9) = 0 → Q (some (.inl (-900002))) σ) (h5 : ¬ (jbIn v1.toInt64 0 5) = 0 → (jbIn v2.toInt64 0 11) = 0 → Q (some (.inl (-900001))) σ) : kX8_seen_0 d Q v1 v2 v3 σ := by
  refine ps_iload_n (ps_at tX8_seen_ok 0 rfl) rfl rfl ?_
  refine ps_callS (M2 := mX8_isForme) (av := [.inl v1]) (rest := []) (ps_at tX8_seen_ok 1 rfl) csX8_109 rfl rfl (fun _ => Nat.le_of_ble_eq_true rfl) (pX8_isForme ?_)
  refine ps_if_eq (tgt := 19) (ps_at tX8_seen_ok 2 rfl) (by decide) (fun c0 => ?_) (fun c0 => ?_)
  · skip
    refine ps_ldc (ps_at tX8_seen_ok 9 rfl) cnX8_112 ?_
    exact ps_iret (ps_at tX8_seen_ok 10 rfl) rfl ⟨rfl, rfl⟩ (h1 c0)
  · skip
    refine ps_iload_n (ps_at tX8_seen_ok 3 rfl) rfl rfl ?_
    refine ps_i2l (ps_at tX8_seen_ok 4 rfl) ?_
    refine ps_lconst (x := 0) (ps_at tX8_seen_ok 5 rfl) (by decide) ?_
    refine ps_ldc2 (ps_at tX8_seen_ok 6 rfl) clX8_189 ?_
    refine ps_callS (M2 := mX8_in) (av := [.inr (.inl v2.toInt64), .inr (.inl 0), .inr (.inl 11)]) (rest := []) (ps_at tX8_seen_ok 7 rfl) csX8_99 rfl rfl (fun _ => Nat.le_of_ble_eq_true rfl) (pX8_in ?_)
    refine ps_if_ne (tgt := 22) (ps_at tX8_seen_ok 8 rfl) (by decide) (fun c1 => ?_) (fun c1 => ?_)
    · skip
      refine ps_iload_n (ps_at tX8_seen_ok 11 rfl) rfl rfl ?_
      refine ps_ldc (ps_at tX8_seen_ok 12 rfl) cnX8_96 ?_
      refine ps_icmp_eq (tgt := 43) (ps_at tX8_seen_ok 13 rfl) (by decide) (fun c2 => ?_) (fun c2 => ?_)
      · skip
        exact h2 c0 c1 c2
      · skip
        refine ps_iload_n (ps_at tX8_seen_ok 14 rfl) rfl rfl ?_
        refine ps_i2l (ps_at tX8_seen_ok 15 rfl) ?_
        refine ps_lconst (x := 0) (ps_at tX8_seen_ok 16 rfl) (by decide) ?_
        refine ps_ldc2 (ps_at tX8_seen_ok 17 rfl) clX8_113 ?_
        refine ps_callS (M2 := mX8_in) (av := [.inr (.inl v3.toInt64), .inr (.inl 0), .inr (.inl 9)]) (rest := []) (ps_at tX8_seen_ok 18 rfl) csX8_99 rfl rfl (fun _ => Nat.le_of_ble_eq_true rfl) (pX8_in ?_)
        refine ps_if_ne (tgt := 43) (ps_at tX8_seen_ok 19 rfl) (by decide) (fun c3 => ?_) (fun c3 => ?_)
        · skip
          exact h3 c0 c1 c2 c3
        · skip
          refine ps_ldc (ps_at tX8_seen_ok 20 rfl) cnX8_115 ?_
          exact ps_iret (ps_at tX8_seen_ok 21 rfl) rfl ⟨rfl, rfl⟩ (h4 c0 c1 c2 c3)
    · skip
      refine ps_ldc (ps_at tX8_seen_ok 9 rfl) cnX8_112 ?_
      exact ps_iret (ps_at tX8_seen_ok 10 rfl) rfl ⟨rfl, rfl⟩ (h5 c0 c1)
theorem bX8_seen_43 {d : Nat} {Q : Option ps_V → ps_S → Prop} {v1 : Int32} {v2 : Int32} {v3 : Int32} {σ : ps_S} (h1 : vp_in ((12 * v1) + v2) 72) (h2 : Q (some (.inl (σ 70 0 ((12 * v1) + v2).toNatClampNeg))) (ps_up σ 70 0 ((12 * v1) + v2).toNatClampNeg v3)) : kX8_seen_43 d Q v1 v2 v3 σ := by
  refine ps_aload_n (ps_at tX8_seen_ok 22 rfl) rfl rfl ?_
  refine ps_getR (ps_at tX8_seen_ok 23 rfl) flX8_66 sh_50 rfl ?_
  refine ps_bipush (x := 12) (ps_at tX8_seen_ok 24 rfl) (by decide) ?_
  refine ps_iload_n (ps_at tX8_seen_ok 25 rfl) rfl rfl ?_
  refine ps_imul (ps_at tX8_seen_ok 26 rfl) ?_
  refine ps_iload_n (ps_at tX8_seen_ok 27 rfl) rfl rfl ?_
  refine ps_iadd (ps_at tX8_seen_ok 28 rfl) ?_
  refine ps_iald (ps_at tX8_seen_ok 29 rfl) sh_70 (h1) ?_
  refine ps_istore (L' := [some (.inr (.inr (50, 0))), some (.inl v1), some (.inl v2), some (.inl v3), some (.inl (σ 70 0 ((12 * v1) + v2).toNatClampNeg))]) (ps_at tX8_seen_ok 30 rfl) (by decide) rfl ?_
  refine ps_aload_n (ps_at tX8_seen_ok 31 rfl) rfl rfl ?_
  refine ps_getR (ps_at tX8_seen_ok 32 rfl) flX8_66 sh_50 rfl ?_
  refine ps_bipush (x := 12) (ps_at tX8_seen_ok 33 rfl) (by decide) ?_
  refine ps_iload_n (ps_at tX8_seen_ok 34 rfl) rfl rfl ?_
  refine ps_imul (ps_at tX8_seen_ok 35 rfl) ?_
  refine ps_iload_n (ps_at tX8_seen_ok 36 rfl) rfl rfl ?_
  refine ps_iadd (ps_at tX8_seen_ok 37 rfl) ?_
  refine ps_iload_n (ps_at tX8_seen_ok 38 rfl) rfl rfl ?_
  refine ps_iast (ps_at tX8_seen_ok 39 rfl) sh_70 (h1) ?_
  refine ps_iload (ps_at tX8_seen_ok 40 rfl) rfl ?_
  exact ps_iret (ps_at tX8_seen_ok 41 rfl) rfl ⟨rfl, rfl⟩ (h2)
theorem eX8_seen {d : Nat} {Q : Option ps_V → ps_S → Prop} {v1 : Int32} {v2 : Int32} {v3 : Int32} {σ : ps_S} (h : kX8_seen_0 d Q v1 v2 v3 σ) : ps_C mX8_seen (d + 2) [.inr (.inr (50, 0)), .inl v1, .inl v2, .inl v3] σ Q := ps_enter (by decide) rfl ⟨rfl, rfl, rfl⟩ rfl (Nat.le_of_ble_eq_true rfl) h
abbrev kX8_mayBe_0 (d : Nat) (Q : Option ps_V → ps_S → Prop) (v1 : Int32) (v2 : Int32) (v3 : Int32) (σ : ps_S) : Prop := ps_K mX8_mayBe (d + 2) (ps_QF Q) 0 [some (.inr (.inr (50, 0))), some (.inl v1), some (.inl v2), some (.inl v3), none, none, none] [] σ
abbrev kX8_mayBe_11 (d : Nat) (Q : Option ps_V → ps_S → Prop) (v1 : Int32) (v2 : Int32) (v3 : Int32) (v4 : Int32) (v5 : Int32) (σ : ps_S) : Prop := ps_K mX8_mayBe (d + 2) (ps_QF Q) 11 [some (.inr (.inr (50, 0))), some (.inl v1), some (.inl v2), some (.inl v3), some (.inl v4), some (.inl v5), none] [] σ
theorem bX8_mayBe_0 {d : Nat} {Q : Option ps_V → ps_S → Prop} {v1 : Int32} {v2 : Int32} {v3 : Int32} {σ : ps_S} (h1 : kX8_mayBe_11 d Q v1 v2 v3 1 (v2 * (σ 50 0 20)) σ) : kX8_mayBe_0 d Q v1 v2 v3 σ := by
  refine ps_iconst (x := 1) (ps_at tX8_mayBe_ok 0 rfl) (by decide) ?_
  refine ps_istore (L' := [some (.inr (.inr (50, 0))), some (.inl v1), some (.inl v2), some (.inl v3), some (.inl 1), none, none]) (ps_at tX8_mayBe_ok 1 rfl) (by decide) rfl ?_
  refine ps_iload_n (ps_at tX8_mayBe_ok 2 rfl) rfl rfl ?_
  refine ps_aload_n (ps_at tX8_mayBe_ok 3 rfl) rfl rfl ?_
  refine ps_getI (ps_at tX8_mayBe_ok 4 rfl) flX8_69 sh_50 rfl ?_
  refine ps_imul (ps_at tX8_mayBe_ok 5 rfl) ?_
  refine ps_istore (L' := [some (.inr (.inr (50, 0))), some (.inl v1), some (.inl v2), some (.inl v3), some (.inl 1), some (.inl (v2 * (σ 50 0 20))), none]) (ps_at tX8_mayBe_ok 6 rfl) (by decide) rfl ?_
  exact h1
theorem bX8_mayBe_11 {d : Nat} {Q : Option ps_V → ps_S → Prop} {v1 : Int32} {v2 : Int32} {v3 : Int32} {v4 : Int32} {v5 : Int32} {σ : ps_S} (h1 : vp_in v1 6) (h2 : (jX8_heapEnd σ v1 v2) ≤ v5 → (v4 = 0 ∨ v4 = 1)) (h3 : (jX8_heapEnd σ v1 v2) ≤ v5 → Q (some (.inl v4)) σ) (h4 : ¬ (jX8_heapEnd σ v1 v2) ≤ v5 → vp_in ((12 * v1) + v5) 72) (h5 : ¬ (jX8_heapEnd σ v1 v2) ≤ v5 → v4 = 0 → kX8_mayBe_11 d Q v1 v2 v3 0 (v5 + 1) σ) (h6 : ¬ (jX8_heapEnd σ v1 v2) ≤ v5 → ¬ v4 = 0 → (σ 70 0 ((12 * v1) + v5).toNatClampNeg) = (-900009) → kX8_mayBe_11 d Q v1 v2 v3 1 (v5 + 1) σ) (h7 : ¬ (jX8_heapEnd σ v1 v2) ≤ v5 → ¬ v4 = 0 → ¬ (σ 70 0 ((12 * v1) + v5).toNatClampNeg) = (-900009) → ¬ (σ 50 0 20) = 0) (h8 : ¬ (jX8_heapEnd σ v1 v2) ≤ v5 → ¬ v4 = 0 → ¬ (σ 70 0 ((12 * v1) + v5).toNatClampNeg) = (-900009) → v3 = 0 → vp_in v1 6) (h9 : ¬ (jX8_heapEnd σ v1 v2) ≤ v5 → ¬ v4 = 0 → ¬ (σ 70 0 ((12 * v1) + v5).toNatClampNeg) = (-900009) → v3 = 0 → vp_in ((12 * v1) + (((((v5 / (σ 50 0 20)) * (σ 50 0 20)) + (jX8_heapEnd σ v1 (v5 / (σ 50 0 20)))) - 1) - v5)) 72) (h10 : ¬ (jX8_heapEnd σ v1 v2) ≤ v5 → ¬ v4 = 0 → ¬ (σ 70 0 ((12 * v1) + v5).toNatClampNeg) = (-900009) → ¬ v3 = 0 → vp_in ((12 * v1) + v5) 72) (h11 : ¬ (jX8_heapEnd σ v1 v2) ≤ v5 → ¬ v4 = 0 → ¬ (σ 70 0 ((12 * v1) + v5).toNatClampNeg) = (-900009) → ¬ (σ 70 0 ((12 * v1) + v5).toNatClampNeg) = (jX8_kindIn σ v1 v5 v3) → kX8_mayBe_11 d Q v1 v2 v3 0 (v5 + 1) σ) (h12 : ¬ (jX8_heapEnd σ v1 v2) ≤ v5 → ¬ v4 = 0 → ¬ (σ 70 0 ((12 * v1) + v5).toNatClampNeg) = (-900009) → (σ 70 0 ((12 * v1) + v5).toNatClampNeg) = (jX8_kindIn σ v1 v5 v3) → kX8_mayBe_11 d Q v1 v2 v3 1 (v5 + 1) σ) : kX8_mayBe_11 d Q v1 v2 v3 v4 v5 σ := by
  refine ps_iload (ps_at tX8_mayBe_ok 7 rfl) rfl ?_
  refine ps_aload_n (ps_at tX8_mayBe_ok 8 rfl) rfl rfl ?_
  refine ps_iload_n (ps_at tX8_mayBe_ok 9 rfl) rfl rfl ?_
  refine ps_iload_n (ps_at tX8_mayBe_ok 10 rfl) rfl rfl ?_
  refine ps_callV (M2 := mX8_heapEnd) (av := [.inl v1, .inl v2]) (rest := [.inl v5]) (ps_at tX8_mayBe_ok 11 rfl) cvX8_191 sh_50 rfl rfl (fun _ => Nat.le_of_ble_eq_true rfl) (pX8_heapEnd (h1) ?_)
  refine ps_icmp_ge (tgt := 74) (ps_at tX8_mayBe_ok 12 rfl) (by decide) (fun c0 => ?_) (fun c0 => ?_)
  · skip
    refine ps_iload (ps_at tX8_mayBe_ok 40 rfl) rfl ?_
    exact ps_zret (ps_at tX8_mayBe_ok 41 rfl) rfl ⟨rfl, rfl⟩ (h2 c0) (h3 c0)
  · skip
    refine ps_aload_n (ps_at tX8_mayBe_ok 13 rfl) rfl rfl ?_
    refine ps_getR (ps_at tX8_mayBe_ok 14 rfl) flX8_66 sh_50 rfl ?_
    refine ps_bipush (x := 12) (ps_at tX8_mayBe_ok 15 rfl) (by decide) ?_
    refine ps_iload_n (ps_at tX8_mayBe_ok 16 rfl) rfl rfl ?_
    refine ps_imul (ps_at tX8_mayBe_ok 17 rfl) ?_
    refine ps_iload (ps_at tX8_mayBe_ok 18 rfl) rfl ?_
    refine ps_iadd (ps_at tX8_mayBe_ok 19 rfl) ?_
    refine ps_iald (ps_at tX8_mayBe_ok 20 rfl) sh_70 (h4 c0) ?_
    refine ps_istore (L' := [some (.inr (.inr (50, 0))), some (.inl v1), some (.inl v2), some (.inl v3), some (.inl v4), some (.inl v5), some (.inl (σ 70 0 ((12 * v1) + v5).toNatClampNeg))]) (ps_at tX8_mayBe_ok 21 rfl) (by decide) rfl ?_
    refine ps_iload (ps_at tX8_mayBe_ok 22 rfl) rfl ?_
    refine ps_if_eq (tgt := 65) (ps_at tX8_mayBe_ok 23 rfl) (by decide) (fun c1 => ?_) (fun c1 => ?_)
    · skip
      refine ps_iconst (x := 0) (ps_at tX8_mayBe_ok 36 rfl) (by decide) ?_
      refine ps_istore (L' := [some (.inr (.inr (50, 0))), some (.inl v1), some (.inl v2), some (.inl v3), some (.inl 0), some (.inl v5), some (.inl (σ 70 0 ((12 * v1) + v5).toNatClampNeg))]) (ps_at tX8_mayBe_ok 37 rfl) (by decide) rfl ?_
      refine ps_iinc (L' := [some (.inr (.inr (50, 0))), some (.inl v1), some (.inl v2), some (.inl v3), some (.inl 0), some (.inl (v5 + 1)), some (.inl (σ 70 0 ((12 * v1) + v5).toNatClampNeg))]) (y := 1) (ps_at tX8_mayBe_ok 38 rfl) rfl (by decide) (by decide) rfl ?_
      refine ps_goto (tgt := 11) (ps_at tX8_mayBe_ok 39 rfl) (by decide) ?_
      refine ps_forget (L' := [some (.inr (.inr (50, 0))), some (.inl v1), some (.inl v2), some (.inl v3), some (.inl 0), some (.inl (v5 + 1)), none]) (And.intro rfl (And.intro rfl (And.intro rfl (And.intro rfl (And.intro rfl (And.intro rfl trivial)))))) ?_
      exact h5 c0 c1
    · skip
      refine ps_iload (ps_at tX8_mayBe_ok 24 rfl) rfl ?_
      refine ps_ldc (ps_at tX8_mayBe_ok 25 rfl) cnX8_96 ?_
      refine ps_icmp_eq (tgt := 61) (ps_at tX8_mayBe_ok 26 rfl) (by decide) (fun c2 => ?_) (fun c2 => ?_)
      · skip
        refine ps_iconst (x := 1) (ps_at tX8_mayBe_ok 34 rfl) (by decide) ?_
        refine ps_goto (tgt := 66) (ps_at tX8_mayBe_ok 35 rfl) (by decide) ?_
        refine ps_istore (L' := [some (.inr (.inr (50, 0))), some (.inl v1), some (.inl v2), some (.inl v3), some (.inl 1), some (.inl v5), some (.inl (σ 70 0 ((12 * v1) + v5).toNatClampNeg))]) (ps_at tX8_mayBe_ok 37 rfl) (by decide) rfl ?_
        refine ps_iinc (L' := [some (.inr (.inr (50, 0))), some (.inl v1), some (.inl v2), some (.inl v3), some (.inl 1), some (.inl (v5 + 1)), some (.inl (σ 70 0 ((12 * v1) + v5).toNatClampNeg))]) (y := 1) (ps_at tX8_mayBe_ok 38 rfl) rfl (by decide) (by decide) rfl ?_
        refine ps_goto (tgt := 11) (ps_at tX8_mayBe_ok 39 rfl) (by decide) ?_
        refine ps_forget (L' := [some (.inr (.inr (50, 0))), some (.inl v1), some (.inl v2), some (.inl v3), some (.inl 1), some (.inl (v5 + 1)), none]) (And.intro rfl (And.intro rfl (And.intro rfl (And.intro rfl (And.intro rfl (And.intro rfl trivial)))))) ?_
        exact h6 c0 c1 c2
      · skip
        refine ps_iload (ps_at tX8_mayBe_ok 27 rfl) rfl ?_
        refine ps_aload_n (ps_at tX8_mayBe_ok 28 rfl) rfl rfl ?_
        refine ps_iload_n (ps_at tX8_mayBe_ok 29 rfl) rfl rfl ?_
        refine ps_iload (ps_at tX8_mayBe_ok 30 rfl) rfl ?_
        refine ps_iload_n (ps_at tX8_mayBe_ok 31 rfl) rfl rfl ?_
        refine ps_callV (M2 := mX8_kindIn) (av := [.inl v1, .inl v5, .inl v3]) (rest := [.inl (σ 70 0 ((12 * v1) + v5).toNatClampNeg)]) (ps_at tX8_mayBe_ok 32 rfl) cvX8_194 sh_50 rfl rfl (fun _ => Nat.le_of_ble_eq_true rfl) (pX8_kindIn (h7 c0 c1 c2) (h8 c0 c1 c2) (h9 c0 c1 c2) (h10 c0 c1 c2) ?_)
        refine ps_icmp_ne (tgt := 65) (ps_at tX8_mayBe_ok 33 rfl) (by decide) (fun c3 => ?_) (fun c3 => ?_)
        · skip
          refine ps_iconst (x := 0) (ps_at tX8_mayBe_ok 36 rfl) (by decide) ?_
          refine ps_istore (L' := [some (.inr (.inr (50, 0))), some (.inl v1), some (.inl v2), some (.inl v3), some (.inl 0), some (.inl v5), some (.inl (σ 70 0 ((12 * v1) + v5).toNatClampNeg))]) (ps_at tX8_mayBe_ok 37 rfl) (by decide) rfl ?_
          refine ps_iinc (L' := [some (.inr (.inr (50, 0))), some (.inl v1), some (.inl v2), some (.inl v3), some (.inl 0), some (.inl (v5 + 1)), some (.inl (σ 70 0 ((12 * v1) + v5).toNatClampNeg))]) (y := 1) (ps_at tX8_mayBe_ok 38 rfl) rfl (by decide) (by decide) rfl ?_
          refine ps_goto (tgt := 11) (ps_at tX8_mayBe_ok 39 rfl) (by decide) ?_
          refine ps_forget (L' := [some (.inr (.inr (50, 0))), some (.inl v1), some (.inl v2), some (.inl v3), some (.inl 0), some (.inl (v5 + 1)), none]) (And.intro rfl (And.intro rfl (And.intro rfl (And.intro rfl (And.intro rfl (And.intro rfl trivial)))))) ?_
          exact h11 c0 c1 c2 c3
        · skip
          refine ps_iconst (x := 1) (ps_at tX8_mayBe_ok 34 rfl) (by decide) ?_
          refine ps_goto (tgt := 66) (ps_at tX8_mayBe_ok 35 rfl) (by decide) ?_
          refine ps_istore (L' := [some (.inr (.inr (50, 0))), some (.inl v1), some (.inl v2), some (.inl v3), some (.inl 1), some (.inl v5), some (.inl (σ 70 0 ((12 * v1) + v5).toNatClampNeg))]) (ps_at tX8_mayBe_ok 37 rfl) (by decide) rfl ?_
          refine ps_iinc (L' := [some (.inr (.inr (50, 0))), some (.inl v1), some (.inl v2), some (.inl v3), some (.inl 1), some (.inl (v5 + 1)), some (.inl (σ 70 0 ((12 * v1) + v5).toNatClampNeg))]) (y := 1) (ps_at tX8_mayBe_ok 38 rfl) rfl (by decide) (by decide) rfl ?_
          refine ps_goto (tgt := 11) (ps_at tX8_mayBe_ok 39 rfl) (by decide) ?_
          refine ps_forget (L' := [some (.inr (.inr (50, 0))), some (.inl v1), some (.inl v2), some (.inl v3), some (.inl 1), some (.inl (v5 + 1)), none]) (And.intro rfl (And.intro rfl (And.intro rfl (And.intro rfl (And.intro rfl (And.intro rfl trivial)))))) ?_
          exact h12 c0 c1 c2 c3
theorem eX8_mayBe {d : Nat} {Q : Option ps_V → ps_S → Prop} {v1 : Int32} {v2 : Int32} {v3 : Int32} {σ : ps_S} (h : kX8_mayBe_0 d Q v1 v2 v3 σ) : ps_C mX8_mayBe (d + 2) [.inr (.inr (50, 0)), .inl v1, .inl v2, .inl v3] σ Q := ps_enter (by decide) rfl ⟨rfl, rfl, rfl⟩ rfl (Nat.le_of_ble_eq_true rfl) h
abbrev kX8_turns_0 (d : Nat) (Q : Option ps_V → ps_S → Prop) (v1 : Int32) (σ : ps_S) : Prop := ps_K mX8_turns (d + 2) (ps_QF Q) 0 [some (.inr (.inr (50, 0))), some (.inl v1), none, none] [] σ
abbrev kX8_turns_14 (d : Nat) (Q : Option ps_V → ps_S → Prop) (v1 : Int32) (v2 : Int32) (v3 : Int32) (σ : ps_S) : Prop := ps_K mX8_turns (d + 2) (ps_QF Q) 14 [some (.inr (.inr (50, 0))), some (.inl v1), some (.inl v2), some (.inl v3)] [] σ
abbrev kX8_turns_31 (d : Nat) (Q : Option ps_V → ps_S → Prop) (v1 : Int32) (v3 : Int32) (s0 : Int32) (s1 : Int32) (σ : ps_S) : Prop := ps_K mX8_turns (d + 2) (ps_QF Q) 31 [some (.inr (.inr (50, 0))), some (.inl v1), none, some (.inl v3)] [.inl s0, .inl s1] σ
abbrev kX8_turns_39 (d : Nat) (Q : Option ps_V → ps_S → Prop) (v1 : Int32) (v3 : Int32) (s0 : Int32) (s1 : Int32) (σ : ps_S) : Prop := ps_K mX8_turns (d + 2) (ps_QF Q) 39 [some (.inr (.inr (50, 0))), some (.inl v1), none, some (.inl v3)] [.inl s0, .inl s1] σ
abbrev kX8_turns_46 (d : Nat) (Q : Option ps_V → ps_S → Prop) (v1 : Int32) (v3 : Int32) (s0 : Int32) (s1 : Int32) (s2 : Int32) (σ : ps_S) : Prop := ps_K mX8_turns (d + 2) (ps_QF Q) 46 [some (.inr (.inr (50, 0))), some (.inl v1), none, some (.inl v3)] [.inl s0, .inl s1, .inl s2] σ
theorem bX8_turns_0 {d : Nat} {Q : Option ps_V → ps_S → Prop} {v1 : Int32} {σ : ps_S} (h1 : ¬ (jbIn v1.toInt64 0 5) = 0 → kX8_turns_14 d Q v1 1 0 σ) (h2 : (jbIn v1.toInt64 0 5) = 0 → Q (some (.inl (-900001))) σ) : kX8_turns_0 d Q v1 σ := by
  refine ps_iload_n (ps_at tX8_turns_ok 0 rfl) rfl rfl ?_
  refine ps_callS (M2 := mX8_isForme) (av := [.inl v1]) (rest := []) (ps_at tX8_turns_ok 1 rfl) csX8_109 rfl rfl (fun _ => Nat.le_of_ble_eq_true rfl) (pX8_isForme ?_)
  refine ps_if_ne (tgt := 10) (ps_at tX8_turns_ok 2 rfl) (by decide) (fun c0 => ?_) (fun c0 => ?_)
  · skip
    refine ps_iconst (x := 1) (ps_at tX8_turns_ok 5 rfl) (by decide) ?_
    refine ps_istore_n (L' := [some (.inr (.inr (50, 0))), some (.inl v1), some (.inl 1), none]) (ps_at tX8_turns_ok 6 rfl) rfl (by decide) rfl ?_
    refine ps_iconst (x := 0) (ps_at tX8_turns_ok 7 rfl) (by decide) ?_
    refine ps_istore_n (L' := [some (.inr (.inr (50, 0))), some (.inl v1), some (.inl 1), some (.inl 0)]) (ps_at tX8_turns_ok 8 rfl) rfl (by decide) rfl ?_
    exact h1 c0
  · skip
    refine ps_ldc (ps_at tX8_turns_ok 3 rfl) cnX8_112 ?_
    exact ps_iret (ps_at tX8_turns_ok 4 rfl) rfl ⟨rfl, rfl⟩ (h2 c0)
theorem bX8_turns_14 {d : Nat} {Q : Option ps_V → ps_S → Prop} {v1 : Int32} {v2 : Int32} {v3 : Int32} {σ : ps_S} (h1 : vp_in v1 6) (h2 : ¬ (σ 50 0 20) = 0) (h3 : (jX8_heaps σ v1) ≤ v3 → Q (some (.inl v2)) σ) (h4 : ¬ (jX8_heaps σ v1) ≤ v3 → ps_C mX8_mayBe (d + 1) [.inr (.inr (50, 0)), .inl v1, .inl v3, .inl 0] σ (ps_ri (fun x σ1 => kX8_turns_31 d Q v1 v3 x v2 σ1))) : kX8_turns_14 d Q v1 v2 v3 σ := by
  refine ps_iload_n (ps_at tX8_turns_ok 9 rfl) rfl rfl ?_
  refine ps_aload_n (ps_at tX8_turns_ok 10 rfl) rfl rfl ?_
  refine ps_iload_n (ps_at tX8_turns_ok 11 rfl) rfl rfl ?_
  refine ps_callV (M2 := mX8_heaps) (av := [.inl v1]) (rest := [.inl v3]) (ps_at tX8_turns_ok 12 rfl) cvX8_198 sh_50 rfl rfl (fun _ => Nat.le_of_ble_eq_true rfl) (pX8_heaps (h1) (h2) ?_)
  refine ps_icmp_ge (tgt := 63) (ps_at tX8_turns_ok 13 rfl) (by decide) (fun c0 => ?_) (fun c0 => ?_)
  · skip
    refine ps_iload_n (ps_at tX8_turns_ok 38 rfl) rfl rfl ?_
    exact ps_iret (ps_at tX8_turns_ok 39 rfl) rfl ⟨rfl, rfl⟩ (h3 c0)
  · skip
    refine ps_iload_n (ps_at tX8_turns_ok 14 rfl) rfl rfl ?_
    refine ps_aload_n (ps_at tX8_turns_ok 15 rfl) rfl rfl ?_
    refine ps_iload_n (ps_at tX8_turns_ok 16 rfl) rfl rfl ?_
    refine ps_iload_n (ps_at tX8_turns_ok 17 rfl) rfl rfl ?_
    refine ps_iconst (x := 0) (ps_at tX8_turns_ok 18 rfl) (by decide) ?_
    refine ps_callV (M2 := mX8_mayBe) (av := [.inl v1, .inl v3, .inl 0]) (rest := [.inl v2]) (ps_at tX8_turns_ok 19 rfl) cvX8_201 sh_50 rfl rfl (fun _ => Nat.le_of_ble_eq_true rfl) ?_
    refine ps_C.imp ?_ (h4 c0)
    rintro _ σ1 ⟨x, rfl, hx⟩
    exact ps_forget (L' := [some (.inr (.inr (50, 0))), some (.inl v1), none, some (.inl v3)]) (And.intro rfl (And.intro rfl (And.intro rfl trivial))) hx
theorem bX8_turns_31 {d : Nat} {Q : Option ps_V → ps_S → Prop} {v1 : Int32} {v3 : Int32} {s0 : Int32} {s1 : Int32} {σ : ps_S} (h1 : s0 = 0 → kX8_turns_39 d Q v1 v3 0 s1 σ) (h2 : ¬ s0 = 0 → kX8_turns_39 d Q v1 v3 1 s1 σ) : kX8_turns_31 d Q v1 v3 s0 s1 σ := by
  refine ps_if_eq (tgt := 38) (ps_at tX8_turns_ok 20 rfl) (by decide) (fun c0 => ?_) (fun c0 => ?_)
  · skip
    refine ps_iconst (x := 0) (ps_at tX8_turns_ok 23 rfl) (by decide) ?_
    exact h1 c0
  · skip
    refine ps_iconst (x := 1) (ps_at tX8_turns_ok 21 rfl) (by decide) ?_
    refine ps_goto (tgt := 39) (ps_at tX8_turns_ok 22 rfl) (by decide) ?_
    exact h2 c0
theorem bX8_turns_39 {d : Nat} {Q : Option ps_V → ps_S → Prop} {v1 : Int32} {v3 : Int32} {s0 : Int32} {s1 : Int32} {σ : ps_S} (h1 : ps_C mX8_mayBe (d + 1) [.inr (.inr (50, 0)), .inl v1, .inl v3, .inl 1] σ (ps_ri (fun x σ1 => kX8_turns_46 d Q v1 v3 x s0 s1 σ1))) : kX8_turns_39 d Q v1 v3 s0 s1 σ := by
  refine ps_aload_n (ps_at tX8_turns_ok 24 rfl) rfl rfl ?_
  refine ps_iload_n (ps_at tX8_turns_ok 25 rfl) rfl rfl ?_
  refine ps_iload_n (ps_at tX8_turns_ok 26 rfl) rfl rfl ?_
  refine ps_iconst (x := 1) (ps_at tX8_turns_ok 27 rfl) (by decide) ?_
  refine ps_callV (M2 := mX8_mayBe) (av := [.inl v1, .inl v3, .inl 1]) (rest := [.inl s0, .inl s1]) (ps_at tX8_turns_ok 28 rfl) cvX8_201 sh_50 rfl rfl (fun _ => Nat.le_of_ble_eq_true rfl) ?_
  refine ps_C.imp ?_ (h1)
  rintro _ σ1 ⟨x, rfl, hx⟩
  exact hx
theorem bX8_turns_46 {d : Nat} {Q : Option ps_V → ps_S → Prop} {v1 : Int32} {v3 : Int32} {s0 : Int32} {s1 : Int32} {s2 : Int32} {σ : ps_S} (h1 : s0 = 0 → kX8_turns_14 d Q v1 (s2 * (s1 + 0)) (v3 + 1) σ) (h2 : ¬ s0 = 0 → kX8_turns_14 d Q v1 (s2 * (s1 + 1)) (v3 + 1) σ) : kX8_turns_46 d Q v1 v3 s0 s1 s2 σ := by
  refine ps_if_eq (tgt := 53) (ps_at tX8_turns_ok 29 rfl) (by decide) (fun c0 => ?_) (fun c0 => ?_)
  · skip
    refine ps_iconst (x := 0) (ps_at tX8_turns_ok 32 rfl) (by decide) ?_
    refine ps_iadd (ps_at tX8_turns_ok 33 rfl) ?_
    refine ps_imul (ps_at tX8_turns_ok 34 rfl) ?_
    refine ps_istore_n (L' := [some (.inr (.inr (50, 0))), some (.inl v1), some (.inl (s2 * (s1 + 0))), some (.inl v3)]) (ps_at tX8_turns_ok 35 rfl) rfl (by decide) rfl ?_
    refine ps_iinc (L' := [some (.inr (.inr (50, 0))), some (.inl v1), some (.inl (s2 * (s1 + 0))), some (.inl (v3 + 1))]) (y := 1) (ps_at tX8_turns_ok 36 rfl) rfl (by decide) (by decide) rfl ?_
    refine ps_goto (tgt := 14) (ps_at tX8_turns_ok 37 rfl) (by decide) ?_
    exact h1 c0
  · skip
    refine ps_iconst (x := 1) (ps_at tX8_turns_ok 30 rfl) (by decide) ?_
    refine ps_goto (tgt := 54) (ps_at tX8_turns_ok 31 rfl) (by decide) ?_
    refine ps_iadd (ps_at tX8_turns_ok 33 rfl) ?_
    refine ps_imul (ps_at tX8_turns_ok 34 rfl) ?_
    refine ps_istore_n (L' := [some (.inr (.inr (50, 0))), some (.inl v1), some (.inl (s2 * (s1 + 1))), some (.inl v3)]) (ps_at tX8_turns_ok 35 rfl) rfl (by decide) rfl ?_
    refine ps_iinc (L' := [some (.inr (.inr (50, 0))), some (.inl v1), some (.inl (s2 * (s1 + 1))), some (.inl (v3 + 1))]) (y := 1) (ps_at tX8_turns_ok 36 rfl) rfl (by decide) (by decide) rfl ?_
    refine ps_goto (tgt := 14) (ps_at tX8_turns_ok 37 rfl) (by decide) ?_
    exact h2 c0
theorem eX8_turns {d : Nat} {Q : Option ps_V → ps_S → Prop} {v1 : Int32} {σ : ps_S} (h : kX8_turns_0 d Q v1 σ) : ps_C mX8_turns (d + 2) [.inr (.inr (50, 0)), .inl v1] σ Q := ps_enter (by decide) rfl ⟨rfl, rfl, rfl⟩ rfl (Nat.le_of_ble_eq_true rfl) h
abbrev kX8_turned_0 (d : Nat) (Q : Option ps_V → ps_S → Prop) (v1 : Int32) (v2 : Int32) (σ : ps_S) : Prop := ps_K mX8_turned (d + 2) (ps_QF Q) 0 [some (.inr (.inr (50, 0))), some (.inl v1), some (.inl v2)] [] σ
abbrev kX8_turned_34 (d : Nat) (Q : Option ps_V → ps_S → Prop) (v1 : Int32) (v2 : Int32) (s0 : Int32) (σ : ps_S) : Prop := ps_K mX8_turned (d + 2) (ps_QF Q) 34 [some (.inr (.inr (50, 0))), some (.inl v1), some (.inl v2)] [.inl s0] σ
abbrev kX8_turned_42 (d : Nat) (Q : Option ps_V → ps_S → Prop) (v1 : Int32) (v2 : Int32) (s0 : Int32) (σ : ps_S) : Prop := ps_K mX8_turned (d + 2) (ps_QF Q) 42 [some (.inr (.inr (50, 0))), some (.inl v1), some (.inl v2)] [.inl s0] σ
abbrev kX8_turned_49 (d : Nat) (Q : Option ps_V → ps_S → Prop) (s0 : Int32) (s1 : Int32) (σ : ps_S) : Prop := ps_K mX8_turned (d + 2) (ps_QF Q) 49 [none, none, none] [.inl s0, .inl s1] σ
theorem bX8_turned_0 {d : Nat} {Q : Option ps_V → ps_S → Prop} {v1 : Int32} {v2 : Int32} {σ : ps_S} (h1 : (jbIn v1.toInt64 0 5) = 0 → Q (some (.inl (-900001))) σ) (h2 : ¬ (jbIn v1.toInt64 0 5) = 0 → vp_in v1 6) (h3 : ¬ (jbIn v1.toInt64 0 5) = 0 → ¬ (σ 50 0 20) = 0) (h4 : ¬ (jbIn v1.toInt64 0 5) = 0 → ¬ (jbIn v2.toInt64 0 (((jX8_heaps σ v1) - 1).toInt64)) = 0 → ps_C mX8_mayBe (d + 1) [.inr (.inr (50, 0)), .inl v1, .inl v2, .inl 0] σ (ps_ri (fun x σ1 => kX8_turned_34 d Q v1 v2 x σ1))) (h5 : ¬ (jbIn v1.toInt64 0 5) = 0 → (jbIn v2.toInt64 0 (((jX8_heaps σ v1) - 1).toInt64)) = 0 → Q (some (.inl (-900001))) σ) : kX8_turned_0 d Q v1 v2 σ := by
  refine ps_iload_n (ps_at tX8_turned_ok 0 rfl) rfl rfl ?_
  refine ps_callS (M2 := mX8_isForme) (av := [.inl v1]) (rest := []) (ps_at tX8_turned_ok 1 rfl) csX8_109 rfl rfl (fun _ => Nat.le_of_ble_eq_true rfl) (pX8_isForme ?_)
  refine ps_if_eq (tgt := 24) (ps_at tX8_turned_ok 2 rfl) (by decide) (fun c0 => ?_) (fun c0 => ?_)
  · skip
    refine ps_ldc (ps_at tX8_turned_ok 14 rfl) cnX8_112 ?_
    exact ps_iret (ps_at tX8_turned_ok 15 rfl) rfl ⟨rfl, rfl⟩ (h1 c0)
  · skip
    refine ps_iload_n (ps_at tX8_turned_ok 3 rfl) rfl rfl ?_
    refine ps_i2l (ps_at tX8_turned_ok 4 rfl) ?_
    refine ps_lconst (x := 0) (ps_at tX8_turned_ok 5 rfl) (by decide) ?_
    refine ps_aload_n (ps_at tX8_turned_ok 6 rfl) rfl rfl ?_
    refine ps_iload_n (ps_at tX8_turned_ok 7 rfl) rfl rfl ?_
    refine ps_callV (M2 := mX8_heaps) (av := [.inl v1]) (rest := [.inr (.inl 0), .inr (.inl v2.toInt64)]) (ps_at tX8_turned_ok 8 rfl) cvX8_198 sh_50 rfl rfl (fun _ => Nat.le_of_ble_eq_true rfl) (pX8_heaps (h2 c0) (h3 c0) ?_)
    refine ps_iconst (x := 1) (ps_at tX8_turned_ok 9 rfl) (by decide) ?_
    refine ps_isub (ps_at tX8_turned_ok 10 rfl) ?_
    refine ps_i2l (ps_at tX8_turned_ok 11 rfl) ?_
    refine ps_callS (M2 := mX8_in) (av := [.inr (.inl v2.toInt64), .inr (.inl 0), .inr (.inl (((jX8_heaps σ v1) - 1).toInt64))]) (rest := []) (ps_at tX8_turned_ok 12 rfl) csX8_99 rfl rfl (fun _ => Nat.le_of_ble_eq_true rfl) (pX8_in ?_)
    refine ps_if_ne (tgt := 27) (ps_at tX8_turned_ok 13 rfl) (by decide) (fun c1 => ?_) (fun c1 => ?_)
    · skip
      refine ps_aload_n (ps_at tX8_turned_ok 16 rfl) rfl rfl ?_
      refine ps_iload_n (ps_at tX8_turned_ok 17 rfl) rfl rfl ?_
      refine ps_iload_n (ps_at tX8_turned_ok 18 rfl) rfl rfl ?_
      refine ps_iconst (x := 0) (ps_at tX8_turned_ok 19 rfl) (by decide) ?_
      refine ps_callV (M2 := mX8_mayBe) (av := [.inl v1, .inl v2, .inl 0]) (rest := []) (ps_at tX8_turned_ok 20 rfl) cvX8_201 sh_50 rfl rfl (fun _ => Nat.le_of_ble_eq_true rfl) ?_
      refine ps_C.imp ?_ (h4 c0 c1)
      rintro _ σ1 ⟨x, rfl, hx⟩
      exact hx
    · skip
      refine ps_ldc (ps_at tX8_turned_ok 14 rfl) cnX8_112 ?_
      exact ps_iret (ps_at tX8_turned_ok 15 rfl) rfl ⟨rfl, rfl⟩ (h5 c0 c1)
theorem bX8_turned_34 {d : Nat} {Q : Option ps_V → ps_S → Prop} {v1 : Int32} {v2 : Int32} {s0 : Int32} {σ : ps_S} (h1 : s0 = 0 → kX8_turned_42 d Q v1 v2 0 σ) (h2 : ¬ s0 = 0 → kX8_turned_42 d Q v1 v2 1 σ) : kX8_turned_34 d Q v1 v2 s0 σ := by
  refine ps_if_eq (tgt := 41) (ps_at tX8_turned_ok 21 rfl) (by decide) (fun c0 => ?_) (fun c0 => ?_)
  · skip
    refine ps_iconst (x := 0) (ps_at tX8_turned_ok 24 rfl) (by decide) ?_
    exact h1 c0
  · skip
    refine ps_iconst (x := 1) (ps_at tX8_turned_ok 22 rfl) (by decide) ?_
    refine ps_goto (tgt := 42) (ps_at tX8_turned_ok 23 rfl) (by decide) ?_
    exact h2 c0
theorem bX8_turned_42 {d : Nat} {Q : Option ps_V → ps_S → Prop} {v1 : Int32} {v2 : Int32} {s0 : Int32} {σ : ps_S} (h1 : ps_C mX8_mayBe (d + 1) [.inr (.inr (50, 0)), .inl v1, .inl v2, .inl 1] σ (ps_ri (fun x σ1 => kX8_turned_49 d Q x s0 σ1))) : kX8_turned_42 d Q v1 v2 s0 σ := by
  refine ps_aload_n (ps_at tX8_turned_ok 25 rfl) rfl rfl ?_
  refine ps_iload_n (ps_at tX8_turned_ok 26 rfl) rfl rfl ?_
  refine ps_iload_n (ps_at tX8_turned_ok 27 rfl) rfl rfl ?_
  refine ps_iconst (x := 1) (ps_at tX8_turned_ok 28 rfl) (by decide) ?_
  refine ps_callV (M2 := mX8_mayBe) (av := [.inl v1, .inl v2, .inl 1]) (rest := [.inl s0]) (ps_at tX8_turned_ok 29 rfl) cvX8_201 sh_50 rfl rfl (fun _ => Nat.le_of_ble_eq_true rfl) ?_
  refine ps_C.imp ?_ (h1)
  rintro _ σ1 ⟨x, rfl, hx⟩
  exact ps_forget (L' := [none, none, none]) trivial hx
theorem bX8_turned_49 {d : Nat} {Q : Option ps_V → ps_S → Prop} {s0 : Int32} {s1 : Int32} {σ : ps_S} (h1 : s0 = 0 → Q (some (.inl (s1 + 0))) σ) (h2 : ¬ s0 = 0 → Q (some (.inl (s1 + 2))) σ) : kX8_turned_49 d Q s0 s1 σ := by
  refine ps_if_eq (tgt := 56) (ps_at tX8_turned_ok 30 rfl) (by decide) (fun c0 => ?_) (fun c0 => ?_)
  · skip
    refine ps_iconst (x := 0) (ps_at tX8_turned_ok 33 rfl) (by decide) ?_
    refine ps_iadd (ps_at tX8_turned_ok 34 rfl) ?_
    exact ps_iret (ps_at tX8_turned_ok 35 rfl) rfl ⟨rfl, rfl⟩ (h1 c0)
  · skip
    refine ps_iconst (x := 2) (ps_at tX8_turned_ok 31 rfl) (by decide) ?_
    refine ps_goto (tgt := 57) (ps_at tX8_turned_ok 32 rfl) (by decide) ?_
    refine ps_iadd (ps_at tX8_turned_ok 34 rfl) ?_
    exact ps_iret (ps_at tX8_turned_ok 35 rfl) rfl ⟨rfl, rfl⟩ (h2 c0)
theorem eX8_turned {d : Nat} {Q : Option ps_V → ps_S → Prop} {v1 : Int32} {v2 : Int32} {σ : ps_S} (h : kX8_turned_0 d Q v1 v2 σ) : ps_C mX8_turned (d + 2) [.inr (.inr (50, 0)), .inl v1, .inl v2] σ Q := ps_enter (by decide) rfl ⟨rfl, rfl, rfl⟩ rfl (Nat.le_of_ble_eq_true rfl) h
abbrev kX8_bound_0 (d : Nat) (Q : Option ps_V → ps_S → Prop) (v1 : Int32) (v2 : Int32) (v3 : Int32) (σ : ps_S) : Prop := ps_K mX8_bound (d + 2) (ps_QF Q) 0 [some (.inr (.inr (50, 0))), some (.inl v1), some (.inl v2), some (.inl v3)] [] σ
theorem bX8_bound_0 {d : Nat} {Q : Option ps_V → ps_S → Prop} {v1 : Int32} {v2 : Int32} {v3 : Int32} {σ : ps_S} (h1 : (jbIn v1.toInt64 0 5) = 0 → Q (some (.inl (-900001))) σ) (h2 : ¬ (jbIn v1.toInt64 0 5) = 0 → ¬ (jbIn v2.toInt64 0 11) = 0 → vp_in v1 6) (h3 : ¬ (jbIn v1.toInt64 0 5) = 0 → ¬ (jbIn v2.toInt64 0 11) = 0 → (σ 68 0 v1.toNatClampNeg) ≤ v2 → Q (some (.inl (-900009))) σ) (h4 : ¬ (jbIn v1.toInt64 0 5) = 0 → ¬ (jbIn v2.toInt64 0 11) = 0 → ¬ (σ 68 0 v1.toNatClampNeg) ≤ v2 → ¬ (σ 50 0 20) = 0) (h5 : ¬ (jbIn v1.toInt64 0 5) = 0 → ¬ (jbIn v2.toInt64 0 11) = 0 → ¬ (σ 68 0 v1.toNatClampNeg) ≤ v2 → v3 = 0 → vp_in v1 6) (h6 : ¬ (jbIn v1.toInt64 0 5) = 0 → ¬ (jbIn v2.toInt64 0 11) = 0 → ¬ (σ 68 0 v1.toNatClampNeg) ≤ v2 → v3 = 0 → vp_in ((12 * v1) + (((((v2 / (σ 50 0 20)) * (σ 50 0 20)) + (jX8_heapEnd σ v1 (v2 / (σ 50 0 20)))) - 1) - v2)) 72) (h7 : ¬ (jbIn v1.toInt64 0 5) = 0 → ¬ (jbIn v2.toInt64 0 11) = 0 → ¬ (σ 68 0 v1.toNatClampNeg) ≤ v2 → ¬ v3 = 0 → vp_in ((12 * v1) + v2) 72) (h8 : ¬ (jbIn v1.toInt64 0 5) = 0 → ¬ (jbIn v2.toInt64 0 11) = 0 → ¬ (σ 68 0 v1.toNatClampNeg) ≤ v2 → Q (some (.inl (jX8_kindIn σ v1 v2 v3))) σ) (h9 : ¬ (jbIn v1.toInt64 0 5) = 0 → (jbIn v2.toInt64 0 11) = 0 → Q (some (.inl (-900001))) σ) : kX8_bound_0 d Q v1 v2 v3 σ := by
  refine ps_iload_n (ps_at tX8_bound_ok 0 rfl) rfl rfl ?_
  refine ps_callS (M2 := mX8_isForme) (av := [.inl v1]) (rest := []) (ps_at tX8_bound_ok 1 rfl) csX8_109 rfl rfl (fun _ => Nat.le_of_ble_eq_true rfl) (pX8_isForme ?_)
  refine ps_if_eq (tgt := 19) (ps_at tX8_bound_ok 2 rfl) (by decide) (fun c0 => ?_) (fun c0 => ?_)
  · skip
    refine ps_ldc (ps_at tX8_bound_ok 9 rfl) cnX8_112 ?_
    exact ps_iret (ps_at tX8_bound_ok 10 rfl) rfl ⟨rfl, rfl⟩ (h1 c0)
  · skip
    refine ps_iload_n (ps_at tX8_bound_ok 3 rfl) rfl rfl ?_
    refine ps_i2l (ps_at tX8_bound_ok 4 rfl) ?_
    refine ps_lconst (x := 0) (ps_at tX8_bound_ok 5 rfl) (by decide) ?_
    refine ps_ldc2 (ps_at tX8_bound_ok 6 rfl) clX8_189 ?_
    refine ps_callS (M2 := mX8_in) (av := [.inr (.inl v2.toInt64), .inr (.inl 0), .inr (.inl 11)]) (rest := []) (ps_at tX8_bound_ok 7 rfl) csX8_99 rfl rfl (fun _ => Nat.le_of_ble_eq_true rfl) (pX8_in ?_)
    refine ps_if_ne (tgt := 22) (ps_at tX8_bound_ok 8 rfl) (by decide) (fun c1 => ?_) (fun c1 => ?_)
    · skip
      refine ps_iload_n (ps_at tX8_bound_ok 11 rfl) rfl rfl ?_
      refine ps_aload_n (ps_at tX8_bound_ok 12 rfl) rfl rfl ?_
      refine ps_getR (ps_at tX8_bound_ok 13 rfl) flX8_60 sh_50 rfl ?_
      refine ps_iload_n (ps_at tX8_bound_ok 14 rfl) rfl rfl ?_
      refine ps_iald (ps_at tX8_bound_ok 15 rfl) sh_68 (h2 c0 c1) ?_
      refine ps_icmp_ge (tgt := 42) (ps_at tX8_bound_ok 16 rfl) (by decide) (fun c2 => ?_) (fun c2 => ?_)
      · skip
        refine ps_ldc (ps_at tX8_bound_ok 23 rfl) cnX8_96 ?_
        exact ps_iret (ps_at tX8_bound_ok 24 rfl) rfl ⟨rfl, rfl⟩ (h3 c0 c1 c2)
      · skip
        refine ps_aload_n (ps_at tX8_bound_ok 17 rfl) rfl rfl ?_
        refine ps_iload_n (ps_at tX8_bound_ok 18 rfl) rfl rfl ?_
        refine ps_iload_n (ps_at tX8_bound_ok 19 rfl) rfl rfl ?_
        refine ps_iload_n (ps_at tX8_bound_ok 20 rfl) rfl rfl ?_
        refine ps_callV (M2 := mX8_kindIn) (av := [.inl v1, .inl v2, .inl v3]) (rest := []) (ps_at tX8_bound_ok 21 rfl) cvX8_194 sh_50 rfl rfl (fun _ => Nat.le_of_ble_eq_true rfl) (pX8_kindIn (h4 c0 c1 c2) (h5 c0 c1 c2) (h6 c0 c1 c2) (h7 c0 c1 c2) ?_)
        refine ps_goto (tgt := 44) (ps_at tX8_bound_ok 22 rfl) (by decide) ?_
        exact ps_iret (ps_at tX8_bound_ok 24 rfl) rfl ⟨rfl, rfl⟩ (h8 c0 c1 c2)
    · skip
      refine ps_ldc (ps_at tX8_bound_ok 9 rfl) cnX8_112 ?_
      exact ps_iret (ps_at tX8_bound_ok 10 rfl) rfl ⟨rfl, rfl⟩ (h9 c0 c1)
theorem eX8_bound {d : Nat} {Q : Option ps_V → ps_S → Prop} {v1 : Int32} {v2 : Int32} {v3 : Int32} {σ : ps_S} (h : kX8_bound_0 d Q v1 v2 v3 σ) : ps_C mX8_bound (d + 2) [.inr (.inr (50, 0)), .inl v1, .inl v2, .inl v3] σ Q := ps_enter (by decide) rfl ⟨rfl, rfl, rfl⟩ rfl (Nat.le_of_ble_eq_true rfl) h
abbrev kX8_house_0 (d : Nat) (Q : Option ps_V → ps_S → Prop) (v1 : Int32) (v2 : Int32) (σ : ps_S) : Prop := ps_K mX8_house (d + 1) (ps_QF Q) 0 [some (.inr (.inr (50, 0))), some (.inl v1), some (.inl v2), none] [] σ
theorem bX8_house_0 {d : Nat} {Q : Option ps_V → ps_S → Prop} {v1 : Int32} {v2 : Int32} {σ : ps_S} (h1 : (jbIn v1.toInt64 1 4) = 0 → Q (some (.inl (-900002))) σ) (h2 : ¬ (jbIn v1.toInt64 1 4) = 0 → ¬ (jbIn v2.toInt64 1 12) = 0 → Q (some (.inl (σ 50 0 21))) (ps_up (ps_up σ 50 0 21 v1) 50 0 22 v2)) (h3 : ¬ (jbIn v1.toInt64 1 4) = 0 → (jbIn v2.toInt64 1 12) = 0 → Q (some (.inl (-900002))) σ) : kX8_house_0 d Q v1 v2 σ := by
  refine ps_iload_n (ps_at tX8_house_ok 0 rfl) rfl rfl ?_
  refine ps_i2l (ps_at tX8_house_ok 1 rfl) ?_
  refine ps_lconst (x := 1) (ps_at tX8_house_ok 2 rfl) (by decide) ?_
  refine ps_ldc2 (ps_at tX8_house_ok 3 rfl) clX8_205 ?_
  refine ps_callS (M2 := mX8_in) (av := [.inr (.inl v1.toInt64), .inr (.inl 1), .inr (.inl 4)]) (rest := []) (ps_at tX8_house_ok 4 rfl) csX8_99 rfl rfl (fun _ => Nat.le_of_ble_eq_true rfl) (pX8_in ?_)
  refine ps_if_eq (tgt := 24) (ps_at tX8_house_ok 5 rfl) (by decide) (fun c0 => ?_) (fun c0 => ?_)
  · skip
    refine ps_ldc (ps_at tX8_house_ok 12 rfl) cnX8_115 ?_
    exact ps_iret (ps_at tX8_house_ok 13 rfl) rfl ⟨rfl, rfl⟩ (h1 c0)
  · skip
    refine ps_iload_n (ps_at tX8_house_ok 6 rfl) rfl rfl ?_
    refine ps_i2l (ps_at tX8_house_ok 7 rfl) ?_
    refine ps_lconst (x := 1) (ps_at tX8_house_ok 8 rfl) (by decide) ?_
    refine ps_ldc2 (ps_at tX8_house_ok 9 rfl) clX8_187 ?_
    refine ps_callS (M2 := mX8_in) (av := [.inr (.inl v2.toInt64), .inr (.inl 1), .inr (.inl 12)]) (rest := []) (ps_at tX8_house_ok 10 rfl) csX8_99 rfl rfl (fun _ => Nat.le_of_ble_eq_true rfl) (pX8_in ?_)
    refine ps_if_ne (tgt := 27) (ps_at tX8_house_ok 11 rfl) (by decide) (fun c1 => ?_) (fun c1 => ?_)
    · skip
      refine ps_aload_n (ps_at tX8_house_ok 14 rfl) rfl rfl ?_
      refine ps_getI (ps_at tX8_house_ok 15 rfl) flX8_72 sh_50 rfl ?_
      refine ps_istore_n (L' := [some (.inr (.inr (50, 0))), some (.inl v1), some (.inl v2), some (.inl (σ 50 0 21))]) (ps_at tX8_house_ok 16 rfl) rfl (by decide) rfl ?_
      refine ps_aload_n (ps_at tX8_house_ok 17 rfl) rfl rfl ?_
      refine ps_iload_n (ps_at tX8_house_ok 18 rfl) rfl rfl ?_
      refine ps_putI (ps_at tX8_house_ok 19 rfl) fpX8_72 sh_50 rfl ?_
      refine ps_aload_n (ps_at tX8_house_ok 20 rfl) rfl rfl ?_
      refine ps_iload_n (ps_at tX8_house_ok 21 rfl) rfl rfl ?_
      refine ps_putI (ps_at tX8_house_ok 22 rfl) fpX8_75 sh_50 rfl ?_
      refine ps_iload_n (ps_at tX8_house_ok 23 rfl) rfl rfl ?_
      exact ps_iret (ps_at tX8_house_ok 24 rfl) rfl ⟨rfl, rfl⟩ (h2 c0 c1)
    · skip
      refine ps_ldc (ps_at tX8_house_ok 12 rfl) cnX8_115 ?_
      exact ps_iret (ps_at tX8_house_ok 13 rfl) rfl ⟨rfl, rfl⟩ (h3 c0 c1)
theorem eX8_house {d : Nat} {Q : Option ps_V → ps_S → Prop} {v1 : Int32} {v2 : Int32} {σ : ps_S} (h : kX8_house_0 d Q v1 v2 σ) : ps_C mX8_house (d + 1) [.inr (.inr (50, 0)), .inl v1, .inl v2] σ Q := ps_enter (by decide) rfl ⟨rfl, rfl, rfl⟩ rfl (Nat.le_of_ble_eq_true rfl) h
abbrev kX8_habit_0 (d : Nat) (Q : Option ps_V → ps_S → Prop) (v1 : Int32) (v2 : Int32) (v3 : Int32) (σ : ps_S) : Prop := ps_K mX8_habit (d + 2) (ps_QF Q) 0 [some (.inr (.inr (50, 0))), some (.inl v1), some (.inl v2), some (.inl v3), none] [] σ
abbrev kX8_habit_42 (d : Nat) (Q : Option ps_V → ps_S → Prop) (v1 : Int32) (v2 : Int32) (v3 : Int32) (σ : ps_S) : Prop := ps_K mX8_habit (d + 2) (ps_QF Q) 42 [some (.inr (.inr (50, 0))), some (.inl v1), some (.inl v2), some (.inl v3), none] [] σ
theorem bX8_habit_0 {d : Nat} {Q : Option ps_V → ps_S → Prop} {v1 : Int32} {v2 : Int32} {v3 : Int32} {σ : ps_S} (h1 : (jX8_isMan σ v1) = 0 → Q (some (.inl (-900001))) σ) (h2 : ¬ (jX8_isMan σ v1) = 0 → ¬ (jbIn v2.toInt64 0 5) = 0 → v3 = (-900009) → kX8_habit_42 d Q v1 v2 v3 σ) (h3 : ¬ (jX8_isMan σ v1) = 0 → ¬ (jbIn v2.toInt64 0 5) = 0 → ¬ v3 = (-900009) → ¬ (jbIn v3.toInt64 0 1) = 0 → kX8_habit_42 d Q v1 v2 v3 σ) (h4 : ¬ (jX8_isMan σ v1) = 0 → ¬ (jbIn v2.toInt64 0 5) = 0 → ¬ v3 = (-900009) → (jbIn v3.toInt64 0 1) = 0 → Q (some (.inl (-900002))) σ) (h5 : ¬ (jX8_isMan σ v1) = 0 → (jbIn v2.toInt64 0 5) = 0 → Q (some (.inl (-900001))) σ) : kX8_habit_0 d Q v1 v2 v3 σ := by
  refine ps_aload_n (ps_at tX8_habit_ok 0 rfl) rfl rfl ?_
  refine ps_iload_n (ps_at tX8_habit_ok 1 rfl) rfl rfl ?_
  refine ps_callV (M2 := mX8_isMan) (av := [.inl v1]) (rest := []) (ps_at tX8_habit_ok 2 rfl) cvX8_207 sh_50 rfl rfl (fun _ => Nat.le_of_ble_eq_true rfl) (pX8_isMan ?_)
  refine ps_if_eq (tgt := 20) (ps_at tX8_habit_ok 3 rfl) (by decide) (fun c0 => ?_) (fun c0 => ?_)
  · skip
    refine ps_ldc (ps_at tX8_habit_ok 10 rfl) cnX8_112 ?_
    exact ps_iret (ps_at tX8_habit_ok 11 rfl) rfl ⟨rfl, rfl⟩ (h1 c0)
  · skip
    refine ps_iload_n (ps_at tX8_habit_ok 4 rfl) rfl rfl ?_
    refine ps_i2l (ps_at tX8_habit_ok 5 rfl) ?_
    refine ps_lconst (x := 0) (ps_at tX8_habit_ok 6 rfl) (by decide) ?_
    refine ps_ldc2 (ps_at tX8_habit_ok 7 rfl) clX8_97 ?_
    refine ps_callS (M2 := mX8_in) (av := [.inr (.inl v2.toInt64), .inr (.inl 0), .inr (.inl 5)]) (rest := []) (ps_at tX8_habit_ok 8 rfl) csX8_99 rfl rfl (fun _ => Nat.le_of_ble_eq_true rfl) (pX8_in ?_)
    refine ps_if_ne (tgt := 23) (ps_at tX8_habit_ok 9 rfl) (by decide) (fun c1 => ?_) (fun c1 => ?_)
    · skip
      refine ps_iload_n (ps_at tX8_habit_ok 12 rfl) rfl rfl ?_
      refine ps_ldc (ps_at tX8_habit_ok 13 rfl) cnX8_96 ?_
      refine ps_icmp_eq (tgt := 42) (ps_at tX8_habit_ok 14 rfl) (by decide) (fun c2 => ?_) (fun c2 => ?_)
      · skip
        exact h2 c0 c1 c2
      · skip
        refine ps_iload_n (ps_at tX8_habit_ok 15 rfl) rfl rfl ?_
        refine ps_i2l (ps_at tX8_habit_ok 16 rfl) ?_
        refine ps_lconst (x := 0) (ps_at tX8_habit_ok 17 rfl) (by decide) ?_
        refine ps_lconst (x := 1) (ps_at tX8_habit_ok 18 rfl) (by decide) ?_
        refine ps_callS (M2 := mX8_in) (av := [.inr (.inl v3.toInt64), .inr (.inl 0), .inr (.inl 1)]) (rest := []) (ps_at tX8_habit_ok 19 rfl) csX8_99 rfl rfl (fun _ => Nat.le_of_ble_eq_true rfl) (pX8_in ?_)
        refine ps_if_ne (tgt := 42) (ps_at tX8_habit_ok 20 rfl) (by decide) (fun c3 => ?_) (fun c3 => ?_)
        · skip
          exact h3 c0 c1 c2 c3
        · skip
          refine ps_ldc (ps_at tX8_habit_ok 21 rfl) cnX8_115 ?_
          exact ps_iret (ps_at tX8_habit_ok 22 rfl) rfl ⟨rfl, rfl⟩ (h4 c0 c1 c2 c3)
    · skip
      refine ps_ldc (ps_at tX8_habit_ok 10 rfl) cnX8_112 ?_
      exact ps_iret (ps_at tX8_habit_ok 11 rfl) rfl ⟨rfl, rfl⟩ (h5 c0 c1)
theorem bX8_habit_42 {d : Nat} {Q : Option ps_V → ps_S → Prop} {v1 : Int32} {v2 : Int32} {v3 : Int32} {σ : ps_S} (h1 : vp_in ((6 * v1) + v2) 24) (h2 : Q (some (.inl (σ 74 0 ((6 * v1) + v2).toNatClampNeg))) (ps_up σ 74 0 ((6 * v1) + v2).toNatClampNeg v3)) : kX8_habit_42 d Q v1 v2 v3 σ := by
  refine ps_aload_n (ps_at tX8_habit_ok 23 rfl) rfl rfl ?_
  refine ps_getR (ps_at tX8_habit_ok 24 rfl) flX8_78 sh_50 rfl ?_
  refine ps_bipush (x := 6) (ps_at tX8_habit_ok 25 rfl) (by decide) ?_
  refine ps_iload_n (ps_at tX8_habit_ok 26 rfl) rfl rfl ?_
  refine ps_imul (ps_at tX8_habit_ok 27 rfl) ?_
  refine ps_iload_n (ps_at tX8_habit_ok 28 rfl) rfl rfl ?_
  refine ps_iadd (ps_at tX8_habit_ok 29 rfl) ?_
  refine ps_iald (ps_at tX8_habit_ok 30 rfl) sh_74 (h1) ?_
  refine ps_istore (L' := [some (.inr (.inr (50, 0))), some (.inl v1), some (.inl v2), some (.inl v3), some (.inl (σ 74 0 ((6 * v1) + v2).toNatClampNeg))]) (ps_at tX8_habit_ok 31 rfl) (by decide) rfl ?_
  refine ps_aload_n (ps_at tX8_habit_ok 32 rfl) rfl rfl ?_
  refine ps_getR (ps_at tX8_habit_ok 33 rfl) flX8_78 sh_50 rfl ?_
  refine ps_bipush (x := 6) (ps_at tX8_habit_ok 34 rfl) (by decide) ?_
  refine ps_iload_n (ps_at tX8_habit_ok 35 rfl) rfl rfl ?_
  refine ps_imul (ps_at tX8_habit_ok 36 rfl) ?_
  refine ps_iload_n (ps_at tX8_habit_ok 37 rfl) rfl rfl ?_
  refine ps_iadd (ps_at tX8_habit_ok 38 rfl) ?_
  refine ps_iload_n (ps_at tX8_habit_ok 39 rfl) rfl rfl ?_
  refine ps_iast (ps_at tX8_habit_ok 40 rfl) sh_74 (h1) ?_
  refine ps_iload (ps_at tX8_habit_ok 41 rfl) rfl ?_
  exact ps_iret (ps_at tX8_habit_ok 42 rfl) rfl ⟨rfl, rfl⟩ (h2)
theorem eX8_habit {d : Nat} {Q : Option ps_V → ps_S → Prop} {v1 : Int32} {v2 : Int32} {v3 : Int32} {σ : ps_S} (h : kX8_habit_0 d Q v1 v2 v3 σ) : ps_C mX8_habit (d + 2) [.inr (.inr (50, 0)), .inl v1, .inl v2, .inl v3] σ Q := ps_enter (by decide) rfl ⟨rfl, rfl, rfl⟩ rfl (Nat.le_of_ble_eq_true rfl) h
abbrev kX8_spell_0 (d : Nat) (Q : Option ps_V → ps_S → Prop) (v1 : Int32) (v2 : Int32) (v3 : Int32) (v4 : Int32) (σ : ps_S) : Prop := ps_K mX8_spell (d + 2) (ps_QF Q) 0 [some (.inr (.inr (50, 0))), some (.inl v1), some (.inl v2), some (.inl v3), some (.inl v4), none, none] [] σ
theorem bX8_spell_0 {d : Nat} {Q : Option ps_V → ps_S → Prop} {v1 : Int32} {v2 : Int32} {v3 : Int32} {v4 : Int32} {σ : ps_S} (h1 : (jX8_isPage σ v1) = 0 → Q (some (.inl (-900001))) σ) (h2 : ¬ (jX8_isPage σ v1) = 0 → ¬ (jbIn v2.toInt64 0 5) = 0 → (jbIn v3.toInt64 0 1) = 0 → Q (some (.inl (-900002))) σ) (h3 : ¬ (jX8_isPage σ v1) = 0 → ¬ (jbIn v2.toInt64 0 5) = 0 → ¬ (jbIn v3.toInt64 0 1) = 0 → ¬ (jbIn v4.toInt64 0 9) = 0 → vp_in (((12 * v1) + (2 * v2)) + v3) 144) (h4 : ¬ (jX8_isPage σ v1) = 0 → ¬ (jbIn v2.toInt64 0 5) = 0 → ¬ (jbIn v3.toInt64 0 1) = 0 → ¬ (jbIn v4.toInt64 0 9) = 0 → Q (some (.inl (σ 75 0 (((12 * v1) + (2 * v2)) + v3).toNatClampNeg))) (ps_up σ 75 0 (((12 * v1) + (2 * v2)) + v3).toNatClampNeg v4)) (h5 : ¬ (jX8_isPage σ v1) = 0 → ¬ (jbIn v2.toInt64 0 5) = 0 → ¬ (jbIn v3.toInt64 0 1) = 0 → (jbIn v4.toInt64 0 9) = 0 → Q (some (.inl (-900002))) σ) (h6 : ¬ (jX8_isPage σ v1) = 0 → (jbIn v2.toInt64 0 5) = 0 → Q (some (.inl (-900001))) σ) : kX8_spell_0 d Q v1 v2 v3 v4 σ := by
  refine ps_aload_n (ps_at tX8_spell_ok 0 rfl) rfl rfl ?_
  refine ps_iload_n (ps_at tX8_spell_ok 1 rfl) rfl rfl ?_
  refine ps_callV (M2 := mX8_isPage) (av := [.inl v1]) (rest := []) (ps_at tX8_spell_ok 2 rfl) cvX8_210 sh_50 rfl rfl (fun _ => Nat.le_of_ble_eq_true rfl) (pX8_isPage ?_)
  refine ps_if_eq (tgt := 20) (ps_at tX8_spell_ok 3 rfl) (by decide) (fun c0 => ?_) (fun c0 => ?_)
  · skip
    refine ps_ldc (ps_at tX8_spell_ok 10 rfl) cnX8_112 ?_
    exact ps_iret (ps_at tX8_spell_ok 11 rfl) rfl ⟨rfl, rfl⟩ (h1 c0)
  · skip
    refine ps_iload_n (ps_at tX8_spell_ok 4 rfl) rfl rfl ?_
    refine ps_i2l (ps_at tX8_spell_ok 5 rfl) ?_
    refine ps_lconst (x := 0) (ps_at tX8_spell_ok 6 rfl) (by decide) ?_
    refine ps_ldc2 (ps_at tX8_spell_ok 7 rfl) clX8_97 ?_
    refine ps_callS (M2 := mX8_in) (av := [.inr (.inl v2.toInt64), .inr (.inl 0), .inr (.inl 5)]) (rest := []) (ps_at tX8_spell_ok 8 rfl) csX8_99 rfl rfl (fun _ => Nat.le_of_ble_eq_true rfl) (pX8_in ?_)
    refine ps_if_ne (tgt := 23) (ps_at tX8_spell_ok 9 rfl) (by decide) (fun c1 => ?_) (fun c1 => ?_)
    · skip
      refine ps_iload_n (ps_at tX8_spell_ok 12 rfl) rfl rfl ?_
      refine ps_i2l (ps_at tX8_spell_ok 13 rfl) ?_
      refine ps_lconst (x := 0) (ps_at tX8_spell_ok 14 rfl) (by decide) ?_
      refine ps_lconst (x := 1) (ps_at tX8_spell_ok 15 rfl) (by decide) ?_
      refine ps_callS (M2 := mX8_in) (av := [.inr (.inl v3.toInt64), .inr (.inl 0), .inr (.inl 1)]) (rest := []) (ps_at tX8_spell_ok 16 rfl) csX8_99 rfl rfl (fun _ => Nat.le_of_ble_eq_true rfl) (pX8_in ?_)
      refine ps_if_eq (tgt := 46) (ps_at tX8_spell_ok 17 rfl) (by decide) (fun c2 => ?_) (fun c2 => ?_)
      · skip
        refine ps_ldc (ps_at tX8_spell_ok 24 rfl) cnX8_115 ?_
        exact ps_iret (ps_at tX8_spell_ok 25 rfl) rfl ⟨rfl, rfl⟩ (h2 c0 c1 c2)
      · skip
        refine ps_iload (ps_at tX8_spell_ok 18 rfl) rfl ?_
        refine ps_i2l (ps_at tX8_spell_ok 19 rfl) ?_
        refine ps_lconst (x := 0) (ps_at tX8_spell_ok 20 rfl) (by decide) ?_
        refine ps_ldc2 (ps_at tX8_spell_ok 21 rfl) clX8_113 ?_
        refine ps_callS (M2 := mX8_in) (av := [.inr (.inl v4.toInt64), .inr (.inl 0), .inr (.inl 9)]) (rest := []) (ps_at tX8_spell_ok 22 rfl) csX8_99 rfl rfl (fun _ => Nat.le_of_ble_eq_true rfl) (pX8_in ?_)
        refine ps_if_ne (tgt := 49) (ps_at tX8_spell_ok 23 rfl) (by decide) (fun c3 => ?_) (fun c3 => ?_)
        · skip
          refine ps_bipush (x := 12) (ps_at tX8_spell_ok 26 rfl) (by decide) ?_
          refine ps_iload_n (ps_at tX8_spell_ok 27 rfl) rfl rfl ?_
          refine ps_imul (ps_at tX8_spell_ok 28 rfl) ?_
          refine ps_iconst (x := 2) (ps_at tX8_spell_ok 29 rfl) (by decide) ?_
          refine ps_iload_n (ps_at tX8_spell_ok 30 rfl) rfl rfl ?_
          refine ps_imul (ps_at tX8_spell_ok 31 rfl) ?_
          refine ps_iadd (ps_at tX8_spell_ok 32 rfl) ?_
          refine ps_iload_n (ps_at tX8_spell_ok 33 rfl) rfl rfl ?_
          refine ps_iadd (ps_at tX8_spell_ok 34 rfl) ?_
          refine ps_istore (L' := [some (.inr (.inr (50, 0))), some (.inl v1), some (.inl v2), some (.inl v3), some (.inl v4), some (.inl (((12 * v1) + (2 * v2)) + v3)), none]) (ps_at tX8_spell_ok 35 rfl) (by decide) rfl ?_
          refine ps_aload_n (ps_at tX8_spell_ok 36 rfl) rfl rfl ?_
          refine ps_getR (ps_at tX8_spell_ok 37 rfl) flX8_81 sh_50 rfl ?_
          refine ps_iload (ps_at tX8_spell_ok 38 rfl) rfl ?_
          refine ps_iald (ps_at tX8_spell_ok 39 rfl) sh_75 (h3 c0 c1 c2 c3) ?_
          refine ps_istore (L' := [some (.inr (.inr (50, 0))), some (.inl v1), some (.inl v2), some (.inl v3), some (.inl v4), some (.inl (((12 * v1) + (2 * v2)) + v3)), some (.inl (σ 75 0 (((12 * v1) + (2 * v2)) + v3).toNatClampNeg))]) (ps_at tX8_spell_ok 40 rfl) (by decide) rfl ?_
          refine ps_aload_n (ps_at tX8_spell_ok 41 rfl) rfl rfl ?_
          refine ps_getR (ps_at tX8_spell_ok 42 rfl) flX8_81 sh_50 rfl ?_
          refine ps_iload (ps_at tX8_spell_ok 43 rfl) rfl ?_
          refine ps_iload (ps_at tX8_spell_ok 44 rfl) rfl ?_
          refine ps_iast (ps_at tX8_spell_ok 45 rfl) sh_75 (h3 c0 c1 c2 c3) ?_
          refine ps_iload (ps_at tX8_spell_ok 46 rfl) rfl ?_
          exact ps_iret (ps_at tX8_spell_ok 47 rfl) rfl ⟨rfl, rfl⟩ (h4 c0 c1 c2 c3)
        · skip
          refine ps_ldc (ps_at tX8_spell_ok 24 rfl) cnX8_115 ?_
          exact ps_iret (ps_at tX8_spell_ok 25 rfl) rfl ⟨rfl, rfl⟩ (h5 c0 c1 c2 c3)
    · skip
      refine ps_ldc (ps_at tX8_spell_ok 10 rfl) cnX8_112 ?_
      exact ps_iret (ps_at tX8_spell_ok 11 rfl) rfl ⟨rfl, rfl⟩ (h6 c0 c1)
theorem eX8_spell {d : Nat} {Q : Option ps_V → ps_S → Prop} {v1 : Int32} {v2 : Int32} {v3 : Int32} {v4 : Int32} {σ : ps_S} (h : kX8_spell_0 d Q v1 v2 v3 v4 σ) : ps_C mX8_spell (d + 2) [.inr (.inr (50, 0)), .inl v1, .inl v2, .inl v3, .inl v4] σ Q := ps_enter (by decide) rfl ⟨rfl, rfl, rfl⟩ rfl (Nat.le_of_ble_eq_true rfl) h
abbrev kX8_change_0 (d : Nat) (Q : Option ps_V → ps_S → Prop) (v1 : Int32) (σ : ps_S) : Prop := ps_K mX8_change (d + 1) (ps_QF Q) 0 [some (.inr (.inr (50, 0))), some (.inl v1), none] [] σ
theorem bX8_change_0 {d : Nat} {Q : Option ps_V → ps_S → Prop} {v1 : Int32} {σ : ps_S} (h1 : ¬ (jbIn v1.toInt64 0 99) = 0 → Q (some (.inl (σ 50 0 25))) (ps_up σ 50 0 25 v1)) (h2 : (jbIn v1.toInt64 0 99) = 0 → Q (some (.inl (-900002))) σ) : kX8_change_0 d Q v1 σ := by
  refine ps_iload_n (ps_at tX8_change_ok 0 rfl) rfl rfl ?_
  refine ps_i2l (ps_at tX8_change_ok 1 rfl) ?_
  refine ps_lconst (x := 0) (ps_at tX8_change_ok 2 rfl) (by decide) ?_
  refine ps_ldc2 (ps_at tX8_change_ok 3 rfl) clX8_213 ?_
  refine ps_callS (M2 := mX8_in) (av := [.inr (.inl v1.toInt64), .inr (.inl 0), .inr (.inl 99)]) (rest := []) (ps_at tX8_change_ok 4 rfl) csX8_99 rfl rfl (fun _ => Nat.le_of_ble_eq_true rfl) (pX8_in ?_)
  refine ps_if_ne (tgt := 15) (ps_at tX8_change_ok 5 rfl) (by decide) (fun c0 => ?_) (fun c0 => ?_)
  · skip
    refine ps_aload_n (ps_at tX8_change_ok 8 rfl) rfl rfl ?_
    refine ps_getI (ps_at tX8_change_ok 9 rfl) flX8_84 sh_50 rfl ?_
    refine ps_istore_n (L' := [some (.inr (.inr (50, 0))), some (.inl v1), some (.inl (σ 50 0 25))]) (ps_at tX8_change_ok 10 rfl) rfl (by decide) rfl ?_
    refine ps_aload_n (ps_at tX8_change_ok 11 rfl) rfl rfl ?_
    refine ps_iload_n (ps_at tX8_change_ok 12 rfl) rfl rfl ?_
    refine ps_putI (ps_at tX8_change_ok 13 rfl) fpX8_84 sh_50 rfl ?_
    refine ps_iload_n (ps_at tX8_change_ok 14 rfl) rfl rfl ?_
    exact ps_iret (ps_at tX8_change_ok 15 rfl) rfl ⟨rfl, rfl⟩ (h1 c0)
  · skip
    refine ps_ldc (ps_at tX8_change_ok 6 rfl) cnX8_115 ?_
    exact ps_iret (ps_at tX8_change_ok 7 rfl) rfl ⟨rfl, rfl⟩ (h2 c0)
theorem eX8_change {d : Nat} {Q : Option ps_V → ps_S → Prop} {v1 : Int32} {σ : ps_S} (h : kX8_change_0 d Q v1 σ) : ps_C mX8_change (d + 1) [.inr (.inr (50, 0)), .inl v1] σ Q := ps_enter (by decide) rfl ⟨rfl, rfl, rfl⟩ rfl (Nat.le_of_ble_eq_true rfl) h
abbrev kX8_against_0 (d : Nat) (Q : Option ps_V → ps_S → Prop) (v1 : Int32) (v2 : Int32) (σ : ps_S) : Prop := ps_K mX8_against (d + 2) (ps_QF Q) 0 [some (.inr (.inr (50, 0))), some (.inl v1), some (.inl v2)] [] σ
theorem bX8_against_0 {d : Nat} {Q : Option ps_V → ps_S → Prop} {v1 : Int32} {v2 : Int32} {σ : ps_S} (h1 : (jX8_isPage σ v1) = 0 → Q (some (.inl (-900001))) σ) (h2 : ¬ (jX8_isPage σ v1) = 0 → (jX8_isMan σ v2) = 0 → Q (some (.inl (-900001))) σ) (h3 : ¬ (jX8_isPage σ v1) = 0 → ¬ (jX8_isMan σ v2) = 0 → vp_in v1 12) (h4 : ¬ (jX8_isPage σ v1) = 0 → ¬ (jX8_isMan σ v2) = 0 → vp_in v2 4) (h5 : ¬ (jX8_isPage σ v1) = 0 → ¬ (jX8_isMan σ v2) = 0 → mHab σ v2.toNatClampNeg) (h6 : ¬ (jX8_isPage σ v1) = 0 → ¬ (jX8_isMan σ v2) = 0 → Q (some (.inl (mWa σ v1.toNatClampNeg v2.toNatClampNeg))) σ) : kX8_against_0 d Q v1 v2 σ := by
  refine ps_aload_n (ps_at tX8_against_ok 0 rfl) rfl rfl ?_
  refine ps_iload_n (ps_at tX8_against_ok 1 rfl) rfl rfl ?_
  refine ps_callV (M2 := mX8_isPage) (av := [.inl v1]) (rest := []) (ps_at tX8_against_ok 2 rfl) cvX8_210 sh_50 rfl rfl (fun _ => Nat.le_of_ble_eq_true rfl) (pX8_isPage ?_)
  refine ps_if_eq (tgt := 25) (ps_at tX8_against_ok 3 rfl) (by decide) (fun c0 => ?_) (fun c0 => ?_)
  · skip
    refine ps_ldc (ps_at tX8_against_ok 13 rfl) cnX8_112 ?_
    exact ps_iret (ps_at tX8_against_ok 14 rfl) rfl ⟨rfl, rfl⟩ (h1 c0)
  · skip
    refine ps_aload_n (ps_at tX8_against_ok 4 rfl) rfl rfl ?_
    refine ps_iload_n (ps_at tX8_against_ok 5 rfl) rfl rfl ?_
    refine ps_callV (M2 := mX8_isMan) (av := [.inl v2]) (rest := []) (ps_at tX8_against_ok 6 rfl) cvX8_207 sh_50 rfl rfl (fun _ => Nat.le_of_ble_eq_true rfl) (pX8_isMan ?_)
    refine ps_if_eq (tgt := 25) (ps_at tX8_against_ok 7 rfl) (by decide) (fun c1 => ?_) (fun c1 => ?_)
    · skip
      refine ps_ldc (ps_at tX8_against_ok 13 rfl) cnX8_112 ?_
      exact ps_iret (ps_at tX8_against_ok 14 rfl) rfl ⟨rfl, rfl⟩ (h2 c0 c1)
    · skip
      refine ps_aload_n (ps_at tX8_against_ok 8 rfl) rfl rfl ?_
      refine ps_iload_n (ps_at tX8_against_ok 9 rfl) rfl rfl ?_
      refine ps_iload_n (ps_at tX8_against_ok 10 rfl) rfl rfl ?_
      refine ps_callV (M2 := mX8_againstOf) (av := [.inl v1, .inl v2]) (rest := []) (ps_at tX8_against_ok 11 rfl) cvX8_215 sh_50 rfl rfl (fun _ => Nat.le_of_ble_eq_true rfl) (pX8_againstOf (h3 c0 c1) (h4 c0 c1) (h5 c0 c1) ?_)
      refine ps_goto (tgt := 27) (ps_at tX8_against_ok 12 rfl) (by decide) ?_
      exact ps_iret (ps_at tX8_against_ok 14 rfl) rfl ⟨rfl, rfl⟩ (h6 c0 c1)
theorem eX8_against {d : Nat} {Q : Option ps_V → ps_S → Prop} {v1 : Int32} {v2 : Int32} {σ : ps_S} (h : kX8_against_0 d Q v1 v2 σ) : ps_C mX8_against (d + 2) [.inr (.inr (50, 0)), .inl v1, .inl v2] σ Q := ps_enter (by decide) rfl ⟨rfl, rfl, rfl⟩ rfl (Nat.le_of_ble_eq_true rfl) h
abbrev kX8_layRest_0 (d : Nat) (Q : Option ps_V → ps_S → Prop)  (σ : ps_S) : Prop := ps_K mX8_layRest (d + 1) (ps_QF Q) 0 [some (.inr (.inr (50, 0))), none, none, none, none, none, none] [] σ
abbrev kX8_layRest_7 (d : Nat) (Q : Option ps_V → ps_S → Prop) (v1 : Int32) (σ : ps_S) : Prop := ps_K mX8_layRest (d + 1) (ps_QF Q) 7 [some (.inr (.inr (50, 0))), some (.inl v1), none, none, none, none, none] [] σ
abbrev kX8_layRest_13 (d : Nat) (Q : Option ps_V → ps_S → Prop) (v1 : Int32) (v2 : Int32) (σ : ps_S) : Prop := ps_K mX8_layRest (d + 1) (ps_QF Q) 13 [some (.inr (.inr (50, 0))), some (.inl v1), some (.inl v2), none, none, none, none] [] σ
abbrev kX8_layRest_37 (d : Nat) (Q : Option ps_V → ps_S → Prop) (v1 : Int32) (v2 : Int32) (s0 : Int32) (σ : ps_S) : Prop := ps_K mX8_layRest (d + 1) (ps_QF Q) 37 [some (.inr (.inr (50, 0))), some (.inl v1), some (.inl v2), none, none, none, none] [.inl s0] σ
abbrev kX8_layRest_58 (d : Nat) (Q : Option ps_V → ps_S → Prop) (v1 : Int32) (v2 : Int32) (v3 : Int32) (v4 : Int32) (v5 : Int32) (σ : ps_S) : Prop := ps_K mX8_layRest (d + 1) (ps_QF Q) 58 [some (.inr (.inr (50, 0))), some (.inl v1), some (.inl v2), some (.inl v3), some (.inl v4), some (.inl v5), none] [] σ
abbrev kX8_layRest_177 (d : Nat) (Q : Option ps_V → ps_S → Prop) (v1 : Int32) (v2 : Int32) (v3 : Int32) (v4 : Int32) (σ : ps_S) : Prop := ps_K mX8_layRest (d + 1) (ps_QF Q) 177 [some (.inr (.inr (50, 0))), some (.inl v1), some (.inl v2), some (.inl v3), some (.inl v4), none, none] [] σ
abbrev kX8_layRest_104 (d : Nat) (Q : Option ps_V → ps_S → Prop) (v1 : Int32) (v2 : Int32) (v3 : Int32) (v4 : Int32) (v5 : Int32) (s0 : Int32) (s1 : Int32) (σ : ps_S) : Prop := ps_K mX8_layRest (d + 1) (ps_QF Q) 104 [some (.inr (.inr (50, 0))), some (.inl v1), some (.inl v2), some (.inl v3), some (.inl v4), some (.inl v5), none] [.inl s0, .inl s1] σ
abbrev kX8_layRest_156 (d : Nat) (Q : Option ps_V → ps_S → Prop) (v1 : Int32) (v2 : Int32) (v3 : Int32) (v5 : Int32) (v6 : Int32) (s0 : Int32) (σ : ps_S) : Prop := ps_K mX8_layRest (d + 1) (ps_QF Q) 156 [some (.inr (.inr (50, 0))), some (.inl v1), some (.inl v2), some (.inl v3), none, some (.inl v5), some (.inl v6)] [.inl s0] σ
theorem bX8_layRest_0 {d : Nat} {Q : Option ps_V → ps_S → Prop}  {σ : ps_S} (h1 : kX8_layRest_7 d Q ((σ 50 0 22) - 1) σ) : kX8_layRest_0 d Q σ := by
  refine ps_aload_n (ps_at tX8_layRest_ok 0 rfl) rfl rfl ?_
  refine ps_getI (ps_at tX8_layRest_ok 1 rfl) flX8_75 sh_50 rfl ?_
  refine ps_iconst (x := 1) (ps_at tX8_layRest_ok 2 rfl) (by decide) ?_
  refine ps_isub (ps_at tX8_layRest_ok 3 rfl) ?_
  refine ps_istore_n (L' := [some (.inr (.inr (50, 0))), some (.inl ((σ 50 0 22) - 1)), none, none, none, none, none]) (ps_at tX8_layRest_ok 4 rfl) rfl (by decide) rfl ?_
  exact h1
theorem bX8_layRest_7 {d : Nat} {Q : Option ps_V → ps_S → Prop} {v1 : Int32} {σ : ps_S} (h1 : v1 < 0 → Q none σ) (h2 : ¬ v1 < 0 → kX8_layRest_13 d Q v1 0 σ) : kX8_layRest_7 d Q v1 σ := by
  refine ps_iload_n (ps_at tX8_layRest_ok 5 rfl) rfl rfl ?_
  refine ps_if_lt (tgt := 219) (ps_at tX8_layRest_ok 6 rfl) (by decide) (fun c0 => ?_) (fun c0 => ?_)
  · skip
    exact ps_vret (ps_at tX8_layRest_ok 132 rfl) rfl ⟨rfl, rfl⟩ (h1 c0)
  · skip
    refine ps_iconst (x := 0) (ps_at tX8_layRest_ok 7 rfl) (by decide) ?_
    refine ps_istore_n (L' := [some (.inr (.inr (50, 0))), some (.inl v1), some (.inl 0), none, none, none, none]) (ps_at tX8_layRest_ok 8 rfl) rfl (by decide) rfl ?_
    exact h2 c0
theorem bX8_layRest_13 {d : Nat} {Q : Option ps_V → ps_S → Prop} {v1 : Int32} {v2 : Int32} {σ : ps_S} (h1 : (σ 50 0 21) ≤ v2 → kX8_layRest_7 d Q (v1 + (-1)) σ) (h2 : ¬ (σ 50 0 21) ≤ v2 → ¬ v1 = ((σ 50 0 22) - 1) → kX8_layRest_37 d Q v1 v2 100000000 σ) (h3 : ¬ (σ 50 0 21) ≤ v2 → v1 = ((σ 50 0 22) - 1) → kX8_layRest_37 d Q v1 v2 0 σ) : kX8_layRest_13 d Q v1 v2 σ := by
  refine ps_iload_n (ps_at tX8_layRest_ok 9 rfl) rfl rfl ?_
  refine ps_aload_n (ps_at tX8_layRest_ok 10 rfl) rfl rfl ?_
  refine ps_getI (ps_at tX8_layRest_ok 11 rfl) flX8_72 sh_50 rfl ?_
  refine ps_icmp_ge (tgt := 213) (ps_at tX8_layRest_ok 12 rfl) (by decide) (fun c0 => ?_) (fun c0 => ?_)
  · skip
    refine ps_iinc (L' := [some (.inr (.inr (50, 0))), some (.inl (v1 + (-1))), some (.inl v2), none, none, none, none]) (y := (-1)) (ps_at tX8_layRest_ok 130 rfl) rfl (by decide) (by decide) rfl ?_
    refine ps_goto (tgt := 7) (ps_at tX8_layRest_ok 131 rfl) (by decide) ?_
    refine ps_forget (L' := [some (.inr (.inr (50, 0))), some (.inl (v1 + (-1))), none, none, none, none, none]) (And.intro rfl (And.intro rfl trivial)) ?_
    exact h1 c0
  · skip
    refine ps_iload_n (ps_at tX8_layRest_ok 13 rfl) rfl rfl ?_
    refine ps_aload_n (ps_at tX8_layRest_ok 14 rfl) rfl rfl ?_
    refine ps_getI (ps_at tX8_layRest_ok 15 rfl) flX8_75 sh_50 rfl ?_
    refine ps_iconst (x := 1) (ps_at tX8_layRest_ok 16 rfl) (by decide) ?_
    refine ps_isub (ps_at tX8_layRest_ok 17 rfl) ?_
    refine ps_icmp_ne (tgt := 35) (ps_at tX8_layRest_ok 18 rfl) (by decide) (fun c1 => ?_) (fun c1 => ?_)
    · skip
      refine ps_ldc (ps_at tX8_layRest_ok 21 rfl) cnX8_152 ?_
      exact h2 c0 c1
    · skip
      refine ps_iconst (x := 0) (ps_at tX8_layRest_ok 19 rfl) (by decide) ?_
      refine ps_goto (tgt := 37) (ps_at tX8_layRest_ok 20 rfl) (by decide) ?_
      exact h3 c0 c1
theorem bX8_layRest_37 {d : Nat} {Q : Option ps_V → ps_S → Prop} {v1 : Int32} {v2 : Int32} {s0 : Int32} {σ : ps_S} (h1 : ¬ v1 = ((σ 50 0 22) - 1) → kX8_layRest_58 d Q v1 v2 s0 0 0 σ) (h2 : v1 = ((σ 50 0 22) - 1) → kX8_layRest_58 d Q v1 v2 s0 1 0 σ) : kX8_layRest_37 d Q v1 v2 s0 σ := by
  refine ps_istore_n (L' := [some (.inr (.inr (50, 0))), some (.inl v1), some (.inl v2), some (.inl s0), none, none, none]) (ps_at tX8_layRest_ok 22 rfl) rfl (by decide) rfl ?_
  refine ps_iload_n (ps_at tX8_layRest_ok 23 rfl) rfl rfl ?_
  refine ps_aload_n (ps_at tX8_layRest_ok 24 rfl) rfl rfl ?_
  refine ps_getI (ps_at tX8_layRest_ok 25 rfl) flX8_75 sh_50 rfl ?_
  refine ps_iconst (x := 1) (ps_at tX8_layRest_ok 26 rfl) (by decide) ?_
  refine ps_isub (ps_at tX8_layRest_ok 27 rfl) ?_
  refine ps_icmp_ne (tgt := 52) (ps_at tX8_layRest_ok 28 rfl) (by decide) (fun c0 => ?_) (fun c0 => ?_)
  · skip
    refine ps_iconst (x := 0) (ps_at tX8_layRest_ok 31 rfl) (by decide) ?_
    refine ps_istore (L' := [some (.inr (.inr (50, 0))), some (.inl v1), some (.inl v2), some (.inl s0), some (.inl 0), none, none]) (ps_at tX8_layRest_ok 32 rfl) (by decide) rfl ?_
    refine ps_iconst (x := 0) (ps_at tX8_layRest_ok 33 rfl) (by decide) ?_
    refine ps_istore (L' := [some (.inr (.inr (50, 0))), some (.inl v1), some (.inl v2), some (.inl s0), some (.inl 0), some (.inl 0), none]) (ps_at tX8_layRest_ok 34 rfl) (by decide) rfl ?_
    exact h1 c0
  · skip
    refine ps_iconst (x := 1) (ps_at tX8_layRest_ok 29 rfl) (by decide) ?_
    refine ps_goto (tgt := 53) (ps_at tX8_layRest_ok 30 rfl) (by decide) ?_
    refine ps_istore (L' := [some (.inr (.inr (50, 0))), some (.inl v1), some (.inl v2), some (.inl s0), some (.inl 1), none, none]) (ps_at tX8_layRest_ok 32 rfl) (by decide) rfl ?_
    refine ps_iconst (x := 0) (ps_at tX8_layRest_ok 33 rfl) (by decide) ?_
    refine ps_istore (L' := [some (.inr (.inr (50, 0))), some (.inl v1), some (.inl v2), some (.inl s0), some (.inl 1), some (.inl 0), none]) (ps_at tX8_layRest_ok 34 rfl) (by decide) rfl ?_
    exact h2 c0
theorem bX8_layRest_58 {d : Nat} {Q : Option ps_V → ps_S → Prop} {v1 : Int32} {v2 : Int32} {v3 : Int32} {v4 : Int32} {v5 : Int32} {σ : ps_S} (h1 : (σ 50 0 21) ≤ v5 → kX8_layRest_177 d Q v1 v2 v3 v4 σ) (h2 : ¬ (σ 50 0 21) ≤ v5 → ((σ 50 0 22) - 1) ≤ v1 → kX8_layRest_177 d Q v1 v2 v3 v4 σ) (h3 : ¬ (σ 50 0 21) ≤ v5 → ¬ ((σ 50 0 22) - 1) ≤ v1 → vp_in (((4 * v1) + 4) + v5) 52) (h4 : ¬ (σ 50 0 21) ≤ v5 → ¬ ((σ 50 0 22) - 1) ≤ v1 → ¬ v5 = v2 → kX8_layRest_104 d Q v1 v2 v3 v4 v5 (σ 50 0 25) (σ 77 0 (((4 * v1) + 4) + v5).toNatClampNeg) σ) (h5 : ¬ (σ 50 0 21) ≤ v5 → ¬ ((σ 50 0 22) - 1) ≤ v1 → v5 = v2 → kX8_layRest_104 d Q v1 v2 v3 v4 v5 0 (σ 77 0 (((4 * v1) + 4) + v5).toNatClampNeg) σ) : kX8_layRest_58 d Q v1 v2 v3 v4 v5 σ := by
  refine ps_iload (ps_at tX8_layRest_ok 35 rfl) rfl ?_
  refine ps_aload_n (ps_at tX8_layRest_ok 36 rfl) rfl rfl ?_
  refine ps_getI (ps_at tX8_layRest_ok 37 rfl) flX8_72 sh_50 rfl ?_
  refine ps_icmp_ge (tgt := 177) (ps_at tX8_layRest_ok 38 rfl) (by decide) (fun c0 => ?_) (fun c0 => ?_)
  · skip
    refine ps_forget (L' := [some (.inr (.inr (50, 0))), some (.inl v1), some (.inl v2), some (.inl v3), some (.inl v4), none, none]) (And.intro rfl (And.intro rfl (And.intro rfl (And.intro rfl (And.intro rfl trivial))))) ?_
    exact h1 c0
  · skip
    refine ps_iload_n (ps_at tX8_layRest_ok 39 rfl) rfl rfl ?_
    refine ps_aload_n (ps_at tX8_layRest_ok 40 rfl) rfl rfl ?_
    refine ps_getI (ps_at tX8_layRest_ok 41 rfl) flX8_75 sh_50 rfl ?_
    refine ps_iconst (x := 1) (ps_at tX8_layRest_ok 42 rfl) (by decide) ?_
    refine ps_isub (ps_at tX8_layRest_ok 43 rfl) ?_
    refine ps_icmp_ge (tgt := 177) (ps_at tX8_layRest_ok 44 rfl) (by decide) (fun c1 => ?_) (fun c1 => ?_)
    · skip
      refine ps_forget (L' := [some (.inr (.inr (50, 0))), some (.inl v1), some (.inl v2), some (.inl v3), some (.inl v4), none, none]) (And.intro rfl (And.intro rfl (And.intro rfl (And.intro rfl (And.intro rfl trivial))))) ?_
      exact h2 c0 c1
    · skip
      refine ps_aload_n (ps_at tX8_layRest_ok 45 rfl) rfl rfl ?_
      refine ps_getR (ps_at tX8_layRest_ok 46 rfl) flX8_87 sh_50 rfl ?_
      refine ps_iconst (x := 4) (ps_at tX8_layRest_ok 47 rfl) (by decide) ?_
      refine ps_iload_n (ps_at tX8_layRest_ok 48 rfl) rfl rfl ?_
      refine ps_imul (ps_at tX8_layRest_ok 49 rfl) ?_
      refine ps_iconst (x := 4) (ps_at tX8_layRest_ok 50 rfl) (by decide) ?_
      refine ps_iadd (ps_at tX8_layRest_ok 51 rfl) ?_
      refine ps_iload (ps_at tX8_layRest_ok 52 rfl) rfl ?_
      refine ps_iadd (ps_at tX8_layRest_ok 53 rfl) ?_
      refine ps_iald (ps_at tX8_layRest_ok 54 rfl) sh_77 (h3 c0 c1) ?_
      refine ps_iload (ps_at tX8_layRest_ok 55 rfl) rfl ?_
      refine ps_iload_n (ps_at tX8_layRest_ok 56 rfl) rfl rfl ?_
      refine ps_icmp_ne (tgt := 100) (ps_at tX8_layRest_ok 57 rfl) (by decide) (fun c2 => ?_) (fun c2 => ?_)
      · skip
        refine ps_aload_n (ps_at tX8_layRest_ok 60 rfl) rfl rfl ?_
        refine ps_getI (ps_at tX8_layRest_ok 61 rfl) flX8_84 sh_50 rfl ?_
        exact h4 c0 c1 c2
      · skip
        refine ps_iconst (x := 0) (ps_at tX8_layRest_ok 58 rfl) (by decide) ?_
        refine ps_goto (tgt := 104) (ps_at tX8_layRest_ok 59 rfl) (by decide) ?_
        exact h5 c0 c1 c2
theorem bX8_layRest_177 {d : Nat} {Q : Option ps_V → ps_S → Prop} {v1 : Int32} {v2 : Int32} {v3 : Int32} {v4 : Int32} {σ : ps_S} (h1 : vp_in v1 12) (h2 : vp_in v2 4) (h3 : mHab σ v2.toNatClampNeg) (h4 : vp_in ((4 * v1) + v2) 52) (h5 : kX8_layRest_13 d Q v1 (v2 + 1) (ps_up (ps_up σ 77 0 ((4 * v1) + v2).toNatClampNeg (v3 + (mWa σ v1.toNatClampNeg v2.toNatClampNeg))) 78 0 ((4 * v1) + v2).toNatClampNeg v4)) : kX8_layRest_177 d Q v1 v2 v3 v4 σ := by
  refine ps_aload_n (ps_at tX8_layRest_ok 105 rfl) rfl rfl ?_
  refine ps_getR (ps_at tX8_layRest_ok 106 rfl) flX8_87 sh_50 rfl ?_
  refine ps_iconst (x := 4) (ps_at tX8_layRest_ok 107 rfl) (by decide) ?_
  refine ps_iload_n (ps_at tX8_layRest_ok 108 rfl) rfl rfl ?_
  refine ps_imul (ps_at tX8_layRest_ok 109 rfl) ?_
  refine ps_iload_n (ps_at tX8_layRest_ok 110 rfl) rfl rfl ?_
  refine ps_iadd (ps_at tX8_layRest_ok 111 rfl) ?_
  refine ps_iload_n (ps_at tX8_layRest_ok 112 rfl) rfl rfl ?_
  refine ps_aload_n (ps_at tX8_layRest_ok 113 rfl) rfl rfl ?_
  refine ps_iload_n (ps_at tX8_layRest_ok 114 rfl) rfl rfl ?_
  refine ps_iload_n (ps_at tX8_layRest_ok 115 rfl) rfl rfl ?_
  refine ps_callV (M2 := mX8_againstOf) (av := [.inl v1, .inl v2]) (rest := [.inl v3, .inl ((4 * v1) + v2), .inr (.inr (77, 0))]) (ps_at tX8_layRest_ok 116 rfl) cvX8_215 sh_50 rfl rfl (fun _ => Nat.le_of_ble_eq_true rfl) (pX8_againstOf (h1) (h2) (h3) ?_)
  refine ps_iadd (ps_at tX8_layRest_ok 117 rfl) ?_
  refine ps_iast (ps_at tX8_layRest_ok 118 rfl) sh_77 (h4) ?_
  refine ps_aload_n (ps_at tX8_layRest_ok 119 rfl) rfl rfl ?_
  refine ps_getR (ps_at tX8_layRest_ok 120 rfl) flX8_90 sh_50 rfl ?_
  refine ps_iconst (x := 4) (ps_at tX8_layRest_ok 121 rfl) (by decide) ?_
  refine ps_iload_n (ps_at tX8_layRest_ok 122 rfl) rfl rfl ?_
  refine ps_imul (ps_at tX8_layRest_ok 123 rfl) ?_
  refine ps_iload_n (ps_at tX8_layRest_ok 124 rfl) rfl rfl ?_
  refine ps_iadd (ps_at tX8_layRest_ok 125 rfl) ?_
  refine ps_iload (ps_at tX8_layRest_ok 126 rfl) rfl ?_
  refine ps_iast (ps_at tX8_layRest_ok 127 rfl) sh_78 (h4) ?_
  refine ps_iinc (L' := [some (.inr (.inr (50, 0))), some (.inl v1), some (.inl (v2 + 1)), some (.inl v3), some (.inl v4), none, none]) (y := 1) (ps_at tX8_layRest_ok 128 rfl) rfl (by decide) (by decide) rfl ?_
  refine ps_goto (tgt := 13) (ps_at tX8_layRest_ok 129 rfl) (by decide) ?_
  refine ps_forget (L' := [some (.inr (.inr (50, 0))), some (.inl v1), some (.inl (v2 + 1)), none, none, none, none]) (And.intro rfl (And.intro rfl (And.intro rfl trivial))) ?_
  exact h5
theorem bX8_layRest_104 {d : Nat} {Q : Option ps_V → ps_S → Prop} {v1 : Int32} {v2 : Int32} {v3 : Int32} {v4 : Int32} {v5 : Int32} {s0 : Int32} {s1 : Int32} {σ : ps_S} (h1 : v3 ≤ (s1 + s0) → ¬ (s1 + s0) = v3 → kX8_layRest_156 d Q v1 v2 v3 v5 (s1 + s0) v4 σ) (h2 : v3 ≤ (s1 + s0) → (s1 + s0) = v3 → vp_in (((4 * v1) + 4) + v5) 52) (h3 : v3 ≤ (s1 + s0) → (s1 + s0) = v3 → kX8_layRest_156 d Q v1 v2 v3 v5 (s1 + s0) (v4 + (σ 78 0 (((4 * v1) + 4) + v5).toNatClampNeg)) σ) (h4 : ¬ v3 ≤ (s1 + s0) → vp_in (((4 * v1) + 4) + v5) 52) (h5 : ¬ v3 ≤ (s1 + s0) → kX8_layRest_156 d Q v1 v2 v3 v5 (s1 + s0) (σ 78 0 (((4 * v1) + 4) + v5).toNatClampNeg) σ) : kX8_layRest_104 d Q v1 v2 v3 v4 v5 s0 s1 σ := by
  refine ps_iadd (ps_at tX8_layRest_ok 62 rfl) ?_
  refine ps_istore (L' := [some (.inr (.inr (50, 0))), some (.inl v1), some (.inl v2), some (.inl v3), some (.inl v4), some (.inl v5), some (.inl (s1 + s0))]) (ps_at tX8_layRest_ok 63 rfl) (by decide) rfl ?_
  refine ps_iload (ps_at tX8_layRest_ok 64 rfl) rfl ?_
  refine ps_iload_n (ps_at tX8_layRest_ok 65 rfl) rfl rfl ?_
  refine ps_icmp_ge (tgt := 129) (ps_at tX8_layRest_ok 66 rfl) (by decide) (fun c0 => ?_) (fun c0 => ?_)
  · skip
    refine ps_iload (ps_at tX8_layRest_ok 78 rfl) rfl ?_
    refine ps_iload_n (ps_at tX8_layRest_ok 79 rfl) rfl rfl ?_
    refine ps_icmp_ne (tgt := 154) (ps_at tX8_layRest_ok 80 rfl) (by decide) (fun c1 => ?_) (fun c1 => ?_)
    · skip
      refine ps_iload (ps_at tX8_layRest_ok 94 rfl) rfl ?_
      refine ps_forget (L' := [some (.inr (.inr (50, 0))), some (.inl v1), some (.inl v2), some (.inl v3), none, some (.inl v5), some (.inl (s1 + s0))]) (And.intro rfl (And.intro rfl (And.intro rfl (And.intro rfl (And.intro rfl (And.intro rfl trivial)))))) ?_
      exact h1 c0 c1
    · skip
      refine ps_iload (ps_at tX8_layRest_ok 81 rfl) rfl ?_
      refine ps_aload_n (ps_at tX8_layRest_ok 82 rfl) rfl rfl ?_
      refine ps_getR (ps_at tX8_layRest_ok 83 rfl) flX8_90 sh_50 rfl ?_
      refine ps_iconst (x := 4) (ps_at tX8_layRest_ok 84 rfl) (by decide) ?_
      refine ps_iload_n (ps_at tX8_layRest_ok 85 rfl) rfl rfl ?_
      refine ps_imul (ps_at tX8_layRest_ok 86 rfl) ?_
      refine ps_iconst (x := 4) (ps_at tX8_layRest_ok 87 rfl) (by decide) ?_
      refine ps_iadd (ps_at tX8_layRest_ok 88 rfl) ?_
      refine ps_iload (ps_at tX8_layRest_ok 89 rfl) rfl ?_
      refine ps_iadd (ps_at tX8_layRest_ok 90 rfl) ?_
      refine ps_iald (ps_at tX8_layRest_ok 91 rfl) sh_78 (h2 c0 c1) ?_
      refine ps_iadd (ps_at tX8_layRest_ok 92 rfl) ?_
      refine ps_goto (tgt := 156) (ps_at tX8_layRest_ok 93 rfl) (by decide) ?_
      refine ps_forget (L' := [some (.inr (.inr (50, 0))), some (.inl v1), some (.inl v2), some (.inl v3), none, some (.inl v5), some (.inl (s1 + s0))]) (And.intro rfl (And.intro rfl (And.intro rfl (And.intro rfl (And.intro rfl (And.intro rfl trivial)))))) ?_
      exact h3 c0 c1
  · skip
    refine ps_aload_n (ps_at tX8_layRest_ok 67 rfl) rfl rfl ?_
    refine ps_getR (ps_at tX8_layRest_ok 68 rfl) flX8_90 sh_50 rfl ?_
    refine ps_iconst (x := 4) (ps_at tX8_layRest_ok 69 rfl) (by decide) ?_
    refine ps_iload_n (ps_at tX8_layRest_ok 70 rfl) rfl rfl ?_
    refine ps_imul (ps_at tX8_layRest_ok 71 rfl) ?_
    refine ps_iconst (x := 4) (ps_at tX8_layRest_ok 72 rfl) (by decide) ?_
    refine ps_iadd (ps_at tX8_layRest_ok 73 rfl) ?_
    refine ps_iload (ps_at tX8_layRest_ok 74 rfl) rfl ?_
    refine ps_iadd (ps_at tX8_layRest_ok 75 rfl) ?_
    refine ps_iald (ps_at tX8_layRest_ok 76 rfl) sh_78 (h4 c0) ?_
    refine ps_goto (tgt := 156) (ps_at tX8_layRest_ok 77 rfl) (by decide) ?_
    refine ps_forget (L' := [some (.inr (.inr (50, 0))), some (.inl v1), some (.inl v2), some (.inl v3), none, some (.inl v5), some (.inl (s1 + s0))]) (And.intro rfl (And.intro rfl (And.intro rfl (And.intro rfl (And.intro rfl (And.intro rfl trivial)))))) ?_
    exact h5 c0
theorem bX8_layRest_156 {d : Nat} {Q : Option ps_V → ps_S → Prop} {v1 : Int32} {v2 : Int32} {v3 : Int32} {v5 : Int32} {v6 : Int32} {s0 : Int32} {σ : ps_S} (h1 : v3 ≤ v6 → kX8_layRest_58 d Q v1 v2 v3 s0 (v5 + 1) σ) (h2 : ¬ v3 ≤ v6 → kX8_layRest_58 d Q v1 v2 v6 s0 (v5 + 1) σ) : kX8_layRest_156 d Q v1 v2 v3 v5 v6 s0 σ := by
  refine ps_istore (L' := [some (.inr (.inr (50, 0))), some (.inl v1), some (.inl v2), some (.inl v3), some (.inl s0), some (.inl v5), some (.inl v6)]) (ps_at tX8_layRest_ok 95 rfl) (by decide) rfl ?_
  refine ps_iload (ps_at tX8_layRest_ok 96 rfl) rfl ?_
  refine ps_iload_n (ps_at tX8_layRest_ok 97 rfl) rfl rfl ?_
  refine ps_icmp_ge (tgt := 169) (ps_at tX8_layRest_ok 98 rfl) (by decide) (fun c0 => ?_) (fun c0 => ?_)
  · skip
    refine ps_iload_n (ps_at tX8_layRest_ok 101 rfl) rfl rfl ?_
    refine ps_istore_n (L' := [some (.inr (.inr (50, 0))), some (.inl v1), some (.inl v2), some (.inl v3), some (.inl s0), some (.inl v5), some (.inl v6)]) (ps_at tX8_layRest_ok 102 rfl) rfl (by decide) rfl ?_
    refine ps_iinc (L' := [some (.inr (.inr (50, 0))), some (.inl v1), some (.inl v2), some (.inl v3), some (.inl s0), some (.inl (v5 + 1)), some (.inl v6)]) (y := 1) (ps_at tX8_layRest_ok 103 rfl) rfl (by decide) (by decide) rfl ?_
    refine ps_goto (tgt := 58) (ps_at tX8_layRest_ok 104 rfl) (by decide) ?_
    refine ps_forget (L' := [some (.inr (.inr (50, 0))), some (.inl v1), some (.inl v2), some (.inl v3), some (.inl s0), some (.inl (v5 + 1)), none]) (And.intro rfl (And.intro rfl (And.intro rfl (And.intro rfl (And.intro rfl (And.intro rfl trivial)))))) ?_
    exact h1 c0
  · skip
    refine ps_iload (ps_at tX8_layRest_ok 99 rfl) rfl ?_
    refine ps_goto (tgt := 170) (ps_at tX8_layRest_ok 100 rfl) (by decide) ?_
    refine ps_istore_n (L' := [some (.inr (.inr (50, 0))), some (.inl v1), some (.inl v2), some (.inl v6), some (.inl s0), some (.inl v5), some (.inl v6)]) (ps_at tX8_layRest_ok 102 rfl) rfl (by decide) rfl ?_
    refine ps_iinc (L' := [some (.inr (.inr (50, 0))), some (.inl v1), some (.inl v2), some (.inl v6), some (.inl s0), some (.inl (v5 + 1)), some (.inl v6)]) (y := 1) (ps_at tX8_layRest_ok 103 rfl) rfl (by decide) (by decide) rfl ?_
    refine ps_goto (tgt := 58) (ps_at tX8_layRest_ok 104 rfl) (by decide) ?_
    refine ps_forget (L' := [some (.inr (.inr (50, 0))), some (.inl v1), some (.inl v2), some (.inl v6), some (.inl s0), some (.inl (v5 + 1)), none]) (And.intro rfl (And.intro rfl (And.intro rfl (And.intro rfl (And.intro rfl (And.intro rfl trivial)))))) ?_
    exact h2 c0
theorem eX8_layRest {d : Nat} {Q : Option ps_V → ps_S → Prop}  {σ : ps_S} (h : kX8_layRest_0 d Q σ) : ps_C mX8_layRest (d + 1) [.inr (.inr (50, 0))] σ Q := ps_enter (by decide) rfl ⟨rfl, rfl, rfl⟩ rfl (Nat.le_of_ble_eq_true rfl) h
abbrev kX8_setting_0 (d : Nat) (Q : Option ps_V → ps_S → Prop)  (σ : ps_S) : Prop := ps_K mX8_setting (d + 1) (ps_QF Q) 0 [some (.inr (.inr (50, 0)))] [] σ
abbrev kX8_setting_4 (d : Nat) (Q : Option ps_V → ps_S → Prop)  (σ : ps_S) : Prop := ps_K mX8_setting (d + 1) (ps_QF Q) 4 [some (.inr (.inr (50, 0)))] [] σ
theorem bX8_setting_0 {d : Nat} {Q : Option ps_V → ps_S → Prop}  {σ : ps_S} (h1 : ps_C mX8_layRest d [.inr (.inr (50, 0))] σ (ps_rv (fun σ1 => kX8_setting_4 d Q σ1))) : kX8_setting_0 d Q σ := by
  refine ps_aload_n (ps_at tX8_setting_ok 0 rfl) rfl rfl ?_
  refine ps_callV (M2 := mX8_layRest) (av := []) (rest := []) (ps_at tX8_setting_ok 1 rfl) cvX8_218 sh_50 rfl rfl (fun _ => Nat.le_of_ble_eq_true rfl) ?_
  refine ps_C.imp ?_ (h1)
  rintro _ σ1 ⟨rfl, hx⟩
  exact hx
theorem bX8_setting_4 {d : Nat} {Q : Option ps_V → ps_S → Prop}  {σ : ps_S} (h1 : vp_in (σ 50 0 21) 5) (h2 : Q (some (.inl (mBest σ))) σ) : kX8_setting_4 d Q σ := by
  refine ps_aload_n (ps_at tX8_setting_ok 2 rfl) rfl rfl ?_
  refine ps_callV (M2 := mX8_best) (av := []) (rest := []) (ps_at tX8_setting_ok 3 rfl) cvX8_221 sh_50 rfl rfl (fun _ => Nat.le_of_ble_eq_true rfl) (pX8_best (h1) ?_)
  exact ps_iret (ps_at tX8_setting_ok 4 rfl) rfl ⟨rfl, rfl⟩ (h2)
theorem eX8_setting {d : Nat} {Q : Option ps_V → ps_S → Prop}  {σ : ps_S} (h : kX8_setting_0 d Q σ) : ps_C mX8_setting (d + 1) [.inr (.inr (50, 0))] σ Q := ps_enter (by decide) rfl ⟨rfl, rfl, rfl⟩ rfl (Nat.le_of_ble_eq_true rfl) h
abbrev kX8_who_0 (d : Nat) (Q : Option ps_V → ps_S → Prop) (v1 : Int32) (σ : ps_S) : Prop := ps_K mX8_who (d + 2) (ps_QF Q) 0 [some (.inr (.inr (50, 0))), some (.inl v1), none, none, none] [] σ
abbrev kX8_who_15 (d : Nat) (Q : Option ps_V → ps_S → Prop) (v1 : Int32) (σ : ps_S) : Prop := ps_K mX8_who (d + 2) (ps_QF Q) 15 [some (.inr (.inr (50, 0))), some (.inl v1), none, none, none] [] σ
abbrev kX8_who_17 (d : Nat) (Q : Option ps_V → ps_S → Prop) (v1 : Int32) (v2 : Int32) (σ : ps_S) : Prop := ps_K mX8_who (d + 2) (ps_QF Q) 17 [some (.inr (.inr (50, 0))), some (.inl v1), some (.inl v2), none, none] [] σ
abbrev kX8_who_38 (d : Nat) (Q : Option ps_V → ps_S → Prop) (v1 : Int32) (v2 : Int32) (v3 : Int32) (σ : ps_S) : Prop := ps_K mX8_who (d + 2) (ps_QF Q) 38 [some (.inr (.inr (50, 0))), some (.inl v1), some (.inl v2), some (.inl v3), none] [] σ
abbrev kX8_who_46 (d : Nat) (Q : Option ps_V → ps_S → Prop) (v1 : Int32) (v2 : Int32) (v3 : Int32) (v4 : Int32) (σ : ps_S) : Prop := ps_K mX8_who (d + 2) (ps_QF Q) 46 [some (.inr (.inr (50, 0))), some (.inl v1), some (.inl v2), some (.inl v3), some (.inl v4)] [] σ
abbrev kX8_who_90 (d : Nat) (Q : Option ps_V → ps_S → Prop) (v1 : Int32) (v2 : Int32) (v3 : Int32) (v4 : Int32) (s0 : Int32) (s1 : Int32) (s2 : Int32) (σ : ps_S) : Prop := ps_K mX8_who (d + 2) (ps_QF Q) 90 [some (.inr (.inr (50, 0))), some (.inl v1), some (.inl v2), some (.inl v3), some (.inl v4)] [.inl s0, .inl s1, .inl s2] σ
theorem bX8_who_0 {d : Nat} {Q : Option ps_V → ps_S → Prop} {v1 : Int32} {σ : ps_S} (h1 : ¬ (jX8_isPage σ v1) = 0 → ps_C mX8_layRest (d + 1) [.inr (.inr (50, 0))] σ (ps_rv (fun σ1 => kX8_who_15 d Q v1 σ1))) (h2 : (jX8_isPage σ v1) = 0 → Q (some (.inl (-900001))) σ) : kX8_who_0 d Q v1 σ := by
  refine ps_aload_n (ps_at tX8_who_ok 0 rfl) rfl rfl ?_
  refine ps_iload_n (ps_at tX8_who_ok 1 rfl) rfl rfl ?_
  refine ps_callV (M2 := mX8_isPage) (av := [.inl v1]) (rest := []) (ps_at tX8_who_ok 2 rfl) cvX8_210 sh_50 rfl rfl (fun _ => Nat.le_of_ble_eq_true rfl) (pX8_isPage ?_)
  refine ps_if_ne (tgt := 11) (ps_at tX8_who_ok 3 rfl) (by decide) (fun c0 => ?_) (fun c0 => ?_)
  · skip
    refine ps_aload_n (ps_at tX8_who_ok 6 rfl) rfl rfl ?_
    refine ps_callV (M2 := mX8_layRest) (av := []) (rest := []) (ps_at tX8_who_ok 7 rfl) cvX8_218 sh_50 rfl rfl (fun _ => Nat.le_of_ble_eq_true rfl) ?_
    refine ps_C.imp ?_ (h1 c0)
    rintro _ σ1 ⟨rfl, hx⟩
    exact hx
  · skip
    refine ps_ldc (ps_at tX8_who_ok 4 rfl) cnX8_112 ?_
    exact ps_iret (ps_at tX8_who_ok 5 rfl) rfl ⟨rfl, rfl⟩ (h2 c0)
theorem bX8_who_15 {d : Nat} {Q : Option ps_V → ps_S → Prop} {v1 : Int32} {σ : ps_S} (h1 : kX8_who_17 d Q v1 0 σ) : kX8_who_15 d Q v1 σ := by
  refine ps_iconst (x := 0) (ps_at tX8_who_ok 8 rfl) (by decide) ?_
  refine ps_istore_n (L' := [some (.inr (.inr (50, 0))), some (.inl v1), some (.inl 0), none, none]) (ps_at tX8_who_ok 9 rfl) rfl (by decide) rfl ?_
  exact h1
theorem bX8_who_17 {d : Nat} {Q : Option ps_V → ps_S → Prop} {v1 : Int32} {v2 : Int32} {σ : ps_S} (h1 : vp_in v2 52) (h2 : vp_in (σ 50 0 21) 5) (h3 : (σ 77 0 v2.toNatClampNeg) = (mBest σ) → kX8_who_38 d Q v1 v2 0 σ) (h4 : ¬ (σ 77 0 v2.toNatClampNeg) = (mBest σ) → kX8_who_17 d Q v1 (v2 + 1) σ) : kX8_who_17 d Q v1 v2 σ := by
  refine ps_aload_n (ps_at tX8_who_ok 10 rfl) rfl rfl ?_
  refine ps_getR (ps_at tX8_who_ok 11 rfl) flX8_87 sh_50 rfl ?_
  refine ps_iload_n (ps_at tX8_who_ok 12 rfl) rfl rfl ?_
  refine ps_iald (ps_at tX8_who_ok 13 rfl) sh_77 (h1) ?_
  refine ps_aload_n (ps_at tX8_who_ok 14 rfl) rfl rfl ?_
  refine ps_callV (M2 := mX8_best) (av := []) (rest := [.inl (σ 77 0 v2.toNatClampNeg)]) (ps_at tX8_who_ok 15 rfl) cvX8_221 sh_50 rfl rfl (fun _ => Nat.le_of_ble_eq_true rfl) (pX8_best (h2) ?_)
  refine ps_icmp_eq (tgt := 36) (ps_at tX8_who_ok 16 rfl) (by decide) (fun c0 => ?_) (fun c0 => ?_)
  · skip
    refine ps_iconst (x := 0) (ps_at tX8_who_ok 19 rfl) (by decide) ?_
    refine ps_istore_n (L' := [some (.inr (.inr (50, 0))), some (.inl v1), some (.inl v2), some (.inl 0), none]) (ps_at tX8_who_ok 20 rfl) rfl (by decide) rfl ?_
    exact h3 c0
  · skip
    refine ps_iinc (L' := [some (.inr (.inr (50, 0))), some (.inl v1), some (.inl (v2 + 1)), none, none]) (y := 1) (ps_at tX8_who_ok 17 rfl) rfl (by decide) (by decide) rfl ?_
    refine ps_goto (tgt := 17) (ps_at tX8_who_ok 18 rfl) (by decide) ?_
    exact h4 c0
theorem bX8_who_38 {d : Nat} {Q : Option ps_V → ps_S → Prop} {v1 : Int32} {v2 : Int32} {v3 : Int32} {σ : ps_S} (h1 : v1 ≤ v3 → Q (some (.inl v2)) σ) (h2 : ¬ v1 ≤ v3 → kX8_who_46 d Q v1 v2 v3 0 σ) : kX8_who_38 d Q v1 v2 v3 σ := by
  refine ps_iload_n (ps_at tX8_who_ok 21 rfl) rfl rfl ?_
  refine ps_iload_n (ps_at tX8_who_ok 22 rfl) rfl rfl ?_
  refine ps_icmp_ge (tgt := 109) (ps_at tX8_who_ok 23 rfl) (by decide) (fun c0 => ?_) (fun c0 => ?_)
  · skip
    refine ps_iload_n (ps_at tX8_who_ok 64 rfl) rfl rfl ?_
    exact ps_iret (ps_at tX8_who_ok 65 rfl) rfl ⟨rfl, rfl⟩ (h1 c0)
  · skip
    refine ps_iconst (x := 0) (ps_at tX8_who_ok 24 rfl) (by decide) ?_
    refine ps_istore (L' := [some (.inr (.inr (50, 0))), some (.inl v1), some (.inl v2), some (.inl v3), some (.inl 0)]) (ps_at tX8_who_ok 25 rfl) (by decide) rfl ?_
    exact h2 c0
theorem bX8_who_46 {d : Nat} {Q : Option ps_V → ps_S → Prop} {v1 : Int32} {v2 : Int32} {v3 : Int32} {v4 : Int32} {σ : ps_S} (h1 : vp_in ((4 * v3) + v2) 52) (h2 : vp_in v3 12) (h3 : vp_in v2 4) (h4 : mHab σ v2.toNatClampNeg) (h5 : vp_in (((4 * v3) + 4) + v4) 52) (h6 : ¬ v4 = v2 → kX8_who_90 d Q v1 v2 v3 v4 (σ 50 0 25) ((mWa σ v3.toNatClampNeg v2.toNatClampNeg) + (σ 77 0 (((4 * v3) + 4) + v4).toNatClampNeg)) (σ 77 0 ((4 * v3) + v2).toNatClampNeg) σ) (h7 : v4 = v2 → kX8_who_90 d Q v1 v2 v3 v4 0 ((mWa σ v3.toNatClampNeg v2.toNatClampNeg) + (σ 77 0 (((4 * v3) + 4) + v4).toNatClampNeg)) (σ 77 0 ((4 * v3) + v2).toNatClampNeg) σ) : kX8_who_46 d Q v1 v2 v3 v4 σ := by
  refine ps_aload_n (ps_at tX8_who_ok 26 rfl) rfl rfl ?_
  refine ps_getR (ps_at tX8_who_ok 27 rfl) flX8_87 sh_50 rfl ?_
  refine ps_iconst (x := 4) (ps_at tX8_who_ok 28 rfl) (by decide) ?_
  refine ps_iload_n (ps_at tX8_who_ok 29 rfl) rfl rfl ?_
  refine ps_imul (ps_at tX8_who_ok 30 rfl) ?_
  refine ps_iload_n (ps_at tX8_who_ok 31 rfl) rfl rfl ?_
  refine ps_iadd (ps_at tX8_who_ok 32 rfl) ?_
  refine ps_iald (ps_at tX8_who_ok 33 rfl) sh_77 (h1) ?_
  refine ps_aload_n (ps_at tX8_who_ok 34 rfl) rfl rfl ?_
  refine ps_iload_n (ps_at tX8_who_ok 35 rfl) rfl rfl ?_
  refine ps_iload_n (ps_at tX8_who_ok 36 rfl) rfl rfl ?_
  refine ps_callV (M2 := mX8_againstOf) (av := [.inl v3, .inl v2]) (rest := [.inl (σ 77 0 ((4 * v3) + v2).toNatClampNeg)]) (ps_at tX8_who_ok 37 rfl) cvX8_215 sh_50 rfl rfl (fun _ => Nat.le_of_ble_eq_true rfl) (pX8_againstOf (h2) (h3) (h4) ?_)
  refine ps_aload_n (ps_at tX8_who_ok 38 rfl) rfl rfl ?_
  refine ps_getR (ps_at tX8_who_ok 39 rfl) flX8_87 sh_50 rfl ?_
  refine ps_iconst (x := 4) (ps_at tX8_who_ok 40 rfl) (by decide) ?_
  refine ps_iload_n (ps_at tX8_who_ok 41 rfl) rfl rfl ?_
  refine ps_imul (ps_at tX8_who_ok 42 rfl) ?_
  refine ps_iconst (x := 4) (ps_at tX8_who_ok 43 rfl) (by decide) ?_
  refine ps_iadd (ps_at tX8_who_ok 44 rfl) ?_
  refine ps_iload (ps_at tX8_who_ok 45 rfl) rfl ?_
  refine ps_iadd (ps_at tX8_who_ok 46 rfl) ?_
  refine ps_iald (ps_at tX8_who_ok 47 rfl) sh_77 (h5) ?_
  refine ps_iadd (ps_at tX8_who_ok 48 rfl) ?_
  refine ps_iload (ps_at tX8_who_ok 49 rfl) rfl ?_
  refine ps_iload_n (ps_at tX8_who_ok 50 rfl) rfl rfl ?_
  refine ps_icmp_ne (tgt := 86) (ps_at tX8_who_ok 51 rfl) (by decide) (fun c0 => ?_) (fun c0 => ?_)
  · skip
    refine ps_aload_n (ps_at tX8_who_ok 54 rfl) rfl rfl ?_
    refine ps_getI (ps_at tX8_who_ok 55 rfl) flX8_84 sh_50 rfl ?_
    exact h6 c0
  · skip
    refine ps_iconst (x := 0) (ps_at tX8_who_ok 52 rfl) (by decide) ?_
    refine ps_goto (tgt := 90) (ps_at tX8_who_ok 53 rfl) (by decide) ?_
    exact h7 c0
theorem bX8_who_90 {d : Nat} {Q : Option ps_V → ps_S → Prop} {v1 : Int32} {v2 : Int32} {v3 : Int32} {v4 : Int32} {s0 : Int32} {s1 : Int32} {s2 : Int32} {σ : ps_S} (h1 : s2 = (s1 + s0) → kX8_who_38 d Q v1 v4 (v3 + 1) σ) (h2 : ¬ s2 = (s1 + s0) → kX8_who_46 d Q v1 v2 v3 (v4 + 1) σ) : kX8_who_90 d Q v1 v2 v3 v4 s0 s1 s2 σ := by
  refine ps_iadd (ps_at tX8_who_ok 56 rfl) ?_
  refine ps_icmp_eq (tgt := 100) (ps_at tX8_who_ok 57 rfl) (by decide) (fun c0 => ?_) (fun c0 => ?_)
  · skip
    refine ps_iload (ps_at tX8_who_ok 60 rfl) rfl ?_
    refine ps_istore_n (L' := [some (.inr (.inr (50, 0))), some (.inl v1), some (.inl v4), some (.inl v3), some (.inl v4)]) (ps_at tX8_who_ok 61 rfl) rfl (by decide) rfl ?_
    refine ps_iinc (L' := [some (.inr (.inr (50, 0))), some (.inl v1), some (.inl v4), some (.inl (v3 + 1)), some (.inl v4)]) (y := 1) (ps_at tX8_who_ok 62 rfl) rfl (by decide) (by decide) rfl ?_
    refine ps_goto (tgt := 38) (ps_at tX8_who_ok 63 rfl) (by decide) ?_
    refine ps_forget (L' := [some (.inr (.inr (50, 0))), some (.inl v1), some (.inl v4), some (.inl (v3 + 1)), none]) (And.intro rfl (And.intro rfl (And.intro rfl (And.intro rfl trivial)))) ?_
    exact h1 c0
  · skip
    refine ps_iinc (L' := [some (.inr (.inr (50, 0))), some (.inl v1), some (.inl v2), some (.inl v3), some (.inl (v4 + 1))]) (y := 1) (ps_at tX8_who_ok 58 rfl) rfl (by decide) (by decide) rfl ?_
    refine ps_goto (tgt := 46) (ps_at tX8_who_ok 59 rfl) (by decide) ?_
    exact h2 c0
theorem eX8_who {d : Nat} {Q : Option ps_V → ps_S → Prop} {v1 : Int32} {σ : ps_S} (h : kX8_who_0 d Q v1 σ) : ps_C mX8_who (d + 2) [.inr (.inr (50, 0)), .inl v1] σ Q := ps_enter (by decide) rfl ⟨rfl, rfl, rfl⟩ rfl (Nat.le_of_ble_eq_true rfl) h
abbrev kX8_layGone_0 (d : Nat) (Q : Option ps_V → ps_S → Prop)  (σ : ps_S) : Prop := ps_K mX8_layGone (d + 1) (ps_QF Q) 0 [some (.inr (.inr (50, 0))), none, none, none, none, none] [] σ
abbrev kX8_layGone_2 (d : Nat) (Q : Option ps_V → ps_S → Prop) (v1 : Int32) (σ : ps_S) : Prop := ps_K mX8_layGone (d + 1) (ps_QF Q) 2 [some (.inr (.inr (50, 0))), some (.inl v1), none, none, none, none] [] σ
abbrev kX8_layGone_12 (d : Nat) (Q : Option ps_V → ps_S → Prop) (v1 : Int32) (v2 : Int32) (σ : ps_S) : Prop := ps_K mX8_layGone (d + 1) (ps_QF Q) 12 [some (.inr (.inr (50, 0))), some (.inl v1), some (.inl v2), none, none, none] [] σ
abbrev kX8_layGone_34 (d : Nat) (Q : Option ps_V → ps_S → Prop) (v1 : Int32) (v2 : Int32) (v3 : Int32) (v4 : Int32) (σ : ps_S) : Prop := ps_K mX8_layGone (d + 1) (ps_QF Q) 34 [some (.inr (.inr (50, 0))), some (.inl v1), some (.inl v2), some (.inl v3), some (.inl v4), none] [] σ
abbrev kX8_layGone_96 (d : Nat) (Q : Option ps_V → ps_S → Prop) (v1 : Int32) (v2 : Int32) (v3 : Int32) (σ : ps_S) : Prop := ps_K mX8_layGone (d + 1) (ps_QF Q) 96 [some (.inr (.inr (50, 0))), some (.inl v1), some (.inl v2), some (.inl v3), none, none] [] σ
abbrev kX8_layGone_74 (d : Nat) (Q : Option ps_V → ps_S → Prop) (v1 : Int32) (v2 : Int32) (v3 : Int32) (v4 : Int32) (s0 : Int32) (s1 : Int32) (σ : ps_S) : Prop := ps_K mX8_layGone (d + 1) (ps_QF Q) 74 [some (.inr (.inr (50, 0))), some (.inl v1), some (.inl v2), some (.inl v3), some (.inl v4), none] [.inl s0, .inl s1] σ
theorem bX8_layGone_0 {d : Nat} {Q : Option ps_V → ps_S → Prop}  {σ : ps_S} (h1 : kX8_layGone_2 d Q 0 σ) : kX8_layGone_0 d Q σ := by
  refine ps_iconst (x := 0) (ps_at tX8_layGone_ok 0 rfl) (by decide) ?_
  refine ps_istore_n (L' := [some (.inr (.inr (50, 0))), some (.inl 0), none, none, none, none]) (ps_at tX8_layGone_ok 1 rfl) rfl (by decide) rfl ?_
  exact h1
theorem bX8_layGone_2 {d : Nat} {Q : Option ps_V → ps_S → Prop} {v1 : Int32} {σ : ps_S} (h1 : (σ 50 0 22) ≤ v1 → Q none σ) (h2 : ¬ (σ 50 0 22) ≤ v1 → kX8_layGone_12 d Q v1 0 σ) : kX8_layGone_2 d Q v1 σ := by
  refine ps_iload_n (ps_at tX8_layGone_ok 2 rfl) rfl rfl ?_
  refine ps_aload_n (ps_at tX8_layGone_ok 3 rfl) rfl rfl ?_
  refine ps_getI (ps_at tX8_layGone_ok 4 rfl) flX8_75 sh_50 rfl ?_
  refine ps_icmp_ge (tgt := 126) (ps_at tX8_layGone_ok 5 rfl) (by decide) (fun c0 => ?_) (fun c0 => ?_)
  · skip
    exact ps_vret (ps_at tX8_layGone_ok 72 rfl) rfl ⟨rfl, rfl⟩ (h1 c0)
  · skip
    refine ps_iconst (x := 0) (ps_at tX8_layGone_ok 6 rfl) (by decide) ?_
    refine ps_istore_n (L' := [some (.inr (.inr (50, 0))), some (.inl v1), some (.inl 0), none, none, none]) (ps_at tX8_layGone_ok 7 rfl) rfl (by decide) rfl ?_
    exact h2 c0
theorem bX8_layGone_12 {d : Nat} {Q : Option ps_V → ps_S → Prop} {v1 : Int32} {v2 : Int32} {σ : ps_S} (h1 : (σ 50 0 21) ≤ v2 → kX8_layGone_2 d Q (v1 + 1) σ) (h2 : ¬ (σ 50 0 21) ≤ v2 → ¬ v1 = 0 → kX8_layGone_34 d Q v1 v2 100000000 0 σ) (h3 : ¬ (σ 50 0 21) ≤ v2 → v1 = 0 → kX8_layGone_34 d Q v1 v2 0 0 σ) : kX8_layGone_12 d Q v1 v2 σ := by
  refine ps_iload_n (ps_at tX8_layGone_ok 8 rfl) rfl rfl ?_
  refine ps_aload_n (ps_at tX8_layGone_ok 9 rfl) rfl rfl ?_
  refine ps_getI (ps_at tX8_layGone_ok 10 rfl) flX8_72 sh_50 rfl ?_
  refine ps_icmp_ge (tgt := 120) (ps_at tX8_layGone_ok 11 rfl) (by decide) (fun c0 => ?_) (fun c0 => ?_)
  · skip
    refine ps_iinc (L' := [some (.inr (.inr (50, 0))), some (.inl (v1 + 1)), some (.inl v2), none, none, none]) (y := 1) (ps_at tX8_layGone_ok 70 rfl) rfl (by decide) (by decide) rfl ?_
    refine ps_goto (tgt := 2) (ps_at tX8_layGone_ok 71 rfl) (by decide) ?_
    refine ps_forget (L' := [some (.inr (.inr (50, 0))), some (.inl (v1 + 1)), none, none, none, none]) (And.intro rfl (And.intro rfl trivial)) ?_
    exact h1 c0
  · skip
    refine ps_iload_n (ps_at tX8_layGone_ok 12 rfl) rfl rfl ?_
    refine ps_if_ne (tgt := 28) (ps_at tX8_layGone_ok 13 rfl) (by decide) (fun c1 => ?_) (fun c1 => ?_)
    · skip
      refine ps_ldc (ps_at tX8_layGone_ok 16 rfl) cnX8_152 ?_
      refine ps_istore_n (L' := [some (.inr (.inr (50, 0))), some (.inl v1), some (.inl v2), some (.inl 100000000), none, none]) (ps_at tX8_layGone_ok 17 rfl) rfl (by decide) rfl ?_
      refine ps_iconst (x := 0) (ps_at tX8_layGone_ok 18 rfl) (by decide) ?_
      refine ps_istore (L' := [some (.inr (.inr (50, 0))), some (.inl v1), some (.inl v2), some (.inl 100000000), some (.inl 0), none]) (ps_at tX8_layGone_ok 19 rfl) (by decide) rfl ?_
      exact h2 c0 c1
    · skip
      refine ps_iconst (x := 0) (ps_at tX8_layGone_ok 14 rfl) (by decide) ?_
      refine ps_goto (tgt := 30) (ps_at tX8_layGone_ok 15 rfl) (by decide) ?_
      refine ps_istore_n (L' := [some (.inr (.inr (50, 0))), some (.inl v1), some (.inl v2), some (.inl 0), none, none]) (ps_at tX8_layGone_ok 17 rfl) rfl (by decide) rfl ?_
      refine ps_iconst (x := 0) (ps_at tX8_layGone_ok 18 rfl) (by decide) ?_
      refine ps_istore (L' := [some (.inr (.inr (50, 0))), some (.inl v1), some (.inl v2), some (.inl 0), some (.inl 0), none]) (ps_at tX8_layGone_ok 19 rfl) (by decide) rfl ?_
      exact h3 c0 c1
theorem bX8_layGone_34 {d : Nat} {Q : Option ps_V → ps_S → Prop} {v1 : Int32} {v2 : Int32} {v3 : Int32} {v4 : Int32} {σ : ps_S} (h1 : (σ 50 0 21) ≤ v4 → kX8_layGone_96 d Q v1 v2 v3 σ) (h2 : ¬ (σ 50 0 21) ≤ v4 → v1 ≤ 0 → kX8_layGone_96 d Q v1 v2 v3 σ) (h3 : ¬ (σ 50 0 21) ≤ v4 → ¬ v1 ≤ 0 → vp_in (((4 * v1) - 4) + v4) 48) (h4 : ¬ (σ 50 0 21) ≤ v4 → ¬ v1 ≤ 0 → ¬ v4 = v2 → kX8_layGone_74 d Q v1 v2 v3 v4 (σ 50 0 25) (σ 79 0 (((4 * v1) - 4) + v4).toNatClampNeg) σ) (h5 : ¬ (σ 50 0 21) ≤ v4 → ¬ v1 ≤ 0 → v4 = v2 → kX8_layGone_74 d Q v1 v2 v3 v4 0 (σ 79 0 (((4 * v1) - 4) + v4).toNatClampNeg) σ) : kX8_layGone_34 d Q v1 v2 v3 v4 σ := by
  refine ps_iload (ps_at tX8_layGone_ok 20 rfl) rfl ?_
  refine ps_aload_n (ps_at tX8_layGone_ok 21 rfl) rfl rfl ?_
  refine ps_getI (ps_at tX8_layGone_ok 22 rfl) flX8_72 sh_50 rfl ?_
  refine ps_icmp_ge (tgt := 96) (ps_at tX8_layGone_ok 23 rfl) (by decide) (fun c0 => ?_) (fun c0 => ?_)
  · skip
    refine ps_forget (L' := [some (.inr (.inr (50, 0))), some (.inl v1), some (.inl v2), some (.inl v3), none, none]) (And.intro rfl (And.intro rfl (And.intro rfl (And.intro rfl trivial)))) ?_
    exact h1 c0
  · skip
    refine ps_iload_n (ps_at tX8_layGone_ok 24 rfl) rfl rfl ?_
    refine ps_if_le (tgt := 96) (ps_at tX8_layGone_ok 25 rfl) (by decide) (fun c1 => ?_) (fun c1 => ?_)
    · skip
      refine ps_forget (L' := [some (.inr (.inr (50, 0))), some (.inl v1), some (.inl v2), some (.inl v3), none, none]) (And.intro rfl (And.intro rfl (And.intro rfl (And.intro rfl trivial)))) ?_
      exact h2 c0 c1
    · skip
      refine ps_aload_n (ps_at tX8_layGone_ok 26 rfl) rfl rfl ?_
      refine ps_getR (ps_at tX8_layGone_ok 27 rfl) flX8_93 sh_50 rfl ?_
      refine ps_iconst (x := 4) (ps_at tX8_layGone_ok 28 rfl) (by decide) ?_
      refine ps_iload_n (ps_at tX8_layGone_ok 29 rfl) rfl rfl ?_
      refine ps_imul (ps_at tX8_layGone_ok 30 rfl) ?_
      refine ps_iconst (x := 4) (ps_at tX8_layGone_ok 31 rfl) (by decide) ?_
      refine ps_isub (ps_at tX8_layGone_ok 32 rfl) ?_
      refine ps_iload (ps_at tX8_layGone_ok 33 rfl) rfl ?_
      refine ps_iadd (ps_at tX8_layGone_ok 34 rfl) ?_
      refine ps_iald (ps_at tX8_layGone_ok 35 rfl) sh_79 (h3 c0 c1) ?_
      refine ps_iload (ps_at tX8_layGone_ok 36 rfl) rfl ?_
      refine ps_iload_n (ps_at tX8_layGone_ok 37 rfl) rfl rfl ?_
      refine ps_icmp_ne (tgt := 70) (ps_at tX8_layGone_ok 38 rfl) (by decide) (fun c2 => ?_) (fun c2 => ?_)
      · skip
        refine ps_aload_n (ps_at tX8_layGone_ok 41 rfl) rfl rfl ?_
        refine ps_getI (ps_at tX8_layGone_ok 42 rfl) flX8_84 sh_50 rfl ?_
        exact h4 c0 c1 c2
      · skip
        refine ps_iconst (x := 0) (ps_at tX8_layGone_ok 39 rfl) (by decide) ?_
        refine ps_goto (tgt := 74) (ps_at tX8_layGone_ok 40 rfl) (by decide) ?_
        exact h5 c0 c1 c2
theorem bX8_layGone_96 {d : Nat} {Q : Option ps_V → ps_S → Prop} {v1 : Int32} {v2 : Int32} {v3 : Int32} {σ : ps_S} (h1 : vp_in v1 12) (h2 : vp_in v2 4) (h3 : mHab σ v2.toNatClampNeg) (h4 : vp_in ((4 * v1) + v2) 48) (h5 : kX8_layGone_12 d Q v1 (v2 + 1) (ps_up σ 79 0 ((4 * v1) + v2).toNatClampNeg (v3 + (mWa σ v1.toNatClampNeg v2.toNatClampNeg)))) : kX8_layGone_96 d Q v1 v2 v3 σ := by
  refine ps_aload_n (ps_at tX8_layGone_ok 54 rfl) rfl rfl ?_
  refine ps_getR (ps_at tX8_layGone_ok 55 rfl) flX8_93 sh_50 rfl ?_
  refine ps_iconst (x := 4) (ps_at tX8_layGone_ok 56 rfl) (by decide) ?_
  refine ps_iload_n (ps_at tX8_layGone_ok 57 rfl) rfl rfl ?_
  refine ps_imul (ps_at tX8_layGone_ok 58 rfl) ?_
  refine ps_iload_n (ps_at tX8_layGone_ok 59 rfl) rfl rfl ?_
  refine ps_iadd (ps_at tX8_layGone_ok 60 rfl) ?_
  refine ps_iload_n (ps_at tX8_layGone_ok 61 rfl) rfl rfl ?_
  refine ps_aload_n (ps_at tX8_layGone_ok 62 rfl) rfl rfl ?_
  refine ps_iload_n (ps_at tX8_layGone_ok 63 rfl) rfl rfl ?_
  refine ps_iload_n (ps_at tX8_layGone_ok 64 rfl) rfl rfl ?_
  refine ps_callV (M2 := mX8_againstOf) (av := [.inl v1, .inl v2]) (rest := [.inl v3, .inl ((4 * v1) + v2), .inr (.inr (79, 0))]) (ps_at tX8_layGone_ok 65 rfl) cvX8_215 sh_50 rfl rfl (fun _ => Nat.le_of_ble_eq_true rfl) (pX8_againstOf (h1) (h2) (h3) ?_)
  refine ps_iadd (ps_at tX8_layGone_ok 66 rfl) ?_
  refine ps_iast (ps_at tX8_layGone_ok 67 rfl) sh_79 (h4) ?_
  refine ps_iinc (L' := [some (.inr (.inr (50, 0))), some (.inl v1), some (.inl (v2 + 1)), some (.inl v3), none, none]) (y := 1) (ps_at tX8_layGone_ok 68 rfl) rfl (by decide) (by decide) rfl ?_
  refine ps_goto (tgt := 12) (ps_at tX8_layGone_ok 69 rfl) (by decide) ?_
  refine ps_forget (L' := [some (.inr (.inr (50, 0))), some (.inl v1), some (.inl (v2 + 1)), none, none, none]) (And.intro rfl (And.intro rfl (And.intro rfl trivial))) ?_
  exact h5
theorem bX8_layGone_74 {d : Nat} {Q : Option ps_V → ps_S → Prop} {v1 : Int32} {v2 : Int32} {v3 : Int32} {v4 : Int32} {s0 : Int32} {s1 : Int32} {σ : ps_S} (h1 : v3 ≤ (s1 + s0) → kX8_layGone_34 d Q v1 v2 v3 (v4 + 1) σ) (h2 : ¬ v3 ≤ (s1 + s0) → kX8_layGone_34 d Q v1 v2 (s1 + s0) (v4 + 1) σ) : kX8_layGone_74 d Q v1 v2 v3 v4 s0 s1 σ := by
  refine ps_iadd (ps_at tX8_layGone_ok 43 rfl) ?_
  refine ps_istore (L' := [some (.inr (.inr (50, 0))), some (.inl v1), some (.inl v2), some (.inl v3), some (.inl v4), some (.inl (s1 + s0))]) (ps_at tX8_layGone_ok 44 rfl) (by decide) rfl ?_
  refine ps_iload (ps_at tX8_layGone_ok 45 rfl) rfl ?_
  refine ps_iload_n (ps_at tX8_layGone_ok 46 rfl) rfl rfl ?_
  refine ps_icmp_ge (tgt := 88) (ps_at tX8_layGone_ok 47 rfl) (by decide) (fun c0 => ?_) (fun c0 => ?_)
  · skip
    refine ps_iload_n (ps_at tX8_layGone_ok 50 rfl) rfl rfl ?_
    refine ps_istore_n (L' := [some (.inr (.inr (50, 0))), some (.inl v1), some (.inl v2), some (.inl v3), some (.inl v4), some (.inl (s1 + s0))]) (ps_at tX8_layGone_ok 51 rfl) rfl (by decide) rfl ?_
    refine ps_iinc (L' := [some (.inr (.inr (50, 0))), some (.inl v1), some (.inl v2), some (.inl v3), some (.inl (v4 + 1)), some (.inl (s1 + s0))]) (y := 1) (ps_at tX8_layGone_ok 52 rfl) rfl (by decide) (by decide) rfl ?_
    refine ps_goto (tgt := 34) (ps_at tX8_layGone_ok 53 rfl) (by decide) ?_
    refine ps_forget (L' := [some (.inr (.inr (50, 0))), some (.inl v1), some (.inl v2), some (.inl v3), some (.inl (v4 + 1)), none]) (And.intro rfl (And.intro rfl (And.intro rfl (And.intro rfl (And.intro rfl trivial))))) ?_
    exact h1 c0
  · skip
    refine ps_iload (ps_at tX8_layGone_ok 48 rfl) rfl ?_
    refine ps_goto (tgt := 89) (ps_at tX8_layGone_ok 49 rfl) (by decide) ?_
    refine ps_istore_n (L' := [some (.inr (.inr (50, 0))), some (.inl v1), some (.inl v2), some (.inl (s1 + s0)), some (.inl v4), some (.inl (s1 + s0))]) (ps_at tX8_layGone_ok 51 rfl) rfl (by decide) rfl ?_
    refine ps_iinc (L' := [some (.inr (.inr (50, 0))), some (.inl v1), some (.inl v2), some (.inl (s1 + s0)), some (.inl (v4 + 1)), some (.inl (s1 + s0))]) (y := 1) (ps_at tX8_layGone_ok 52 rfl) rfl (by decide) (by decide) rfl ?_
    refine ps_goto (tgt := 34) (ps_at tX8_layGone_ok 53 rfl) (by decide) ?_
    refine ps_forget (L' := [some (.inr (.inr (50, 0))), some (.inl v1), some (.inl v2), some (.inl (s1 + s0)), some (.inl (v4 + 1)), none]) (And.intro rfl (And.intro rfl (And.intro rfl (And.intro rfl (And.intro rfl trivial))))) ?_
    exact h2 c0
theorem eX8_layGone {d : Nat} {Q : Option ps_V → ps_S → Prop}  {σ : ps_S} (h : kX8_layGone_0 d Q σ) : ps_C mX8_layGone (d + 1) [.inr (.inr (50, 0))] σ Q := ps_enter (by decide) rfl ⟨rfl, rfl, rfl⟩ rfl (Nat.le_of_ble_eq_true rfl) h
abbrev kX8_sure_0 (d : Nat) (Q : Option ps_V → ps_S → Prop) (v1 : Int32) (σ : ps_S) : Prop := ps_K mX8_sure (d + 2) (ps_QF Q) 0 [some (.inr (.inr (50, 0))), some (.inl v1), none, none] [] σ
abbrev kX8_sure_15 (d : Nat) (Q : Option ps_V → ps_S → Prop) (v1 : Int32) (σ : ps_S) : Prop := ps_K mX8_sure (d + 2) (ps_QF Q) 15 [some (.inr (.inr (50, 0))), some (.inl v1), none, none] [] σ
abbrev kX8_sure_19 (d : Nat) (Q : Option ps_V → ps_S → Prop) (v1 : Int32) (σ : ps_S) : Prop := ps_K mX8_sure (d + 2) (ps_QF Q) 19 [some (.inr (.inr (50, 0))), some (.inl v1), none, none] [] σ
abbrev kX8_sure_23 (d : Nat) (Q : Option ps_V → ps_S → Prop) (v1 : Int32) (v2 : Int32) (v3 : Int32) (σ : ps_S) : Prop := ps_K mX8_sure (d + 2) (ps_QF Q) 23 [some (.inr (.inr (50, 0))), some (.inl v1), some (.inl v2), some (.inl v3)] [] σ
theorem bX8_sure_0 {d : Nat} {Q : Option ps_V → ps_S → Prop} {v1 : Int32} {σ : ps_S} (h1 : ¬ (jX8_isPage σ v1) = 0 → ps_C mX8_layRest (d + 1) [.inr (.inr (50, 0))] σ (ps_rv (fun σ1 => kX8_sure_15 d Q v1 σ1))) (h2 : (jX8_isPage σ v1) = 0 → Q (some (.inl (-900001))) σ) : kX8_sure_0 d Q v1 σ := by
  refine ps_aload_n (ps_at tX8_sure_ok 0 rfl) rfl rfl ?_
  refine ps_iload_n (ps_at tX8_sure_ok 1 rfl) rfl rfl ?_
  refine ps_callV (M2 := mX8_isPage) (av := [.inl v1]) (rest := []) (ps_at tX8_sure_ok 2 rfl) cvX8_210 sh_50 rfl rfl (fun _ => Nat.le_of_ble_eq_true rfl) (pX8_isPage ?_)
  refine ps_if_ne (tgt := 11) (ps_at tX8_sure_ok 3 rfl) (by decide) (fun c0 => ?_) (fun c0 => ?_)
  · skip
    refine ps_aload_n (ps_at tX8_sure_ok 6 rfl) rfl rfl ?_
    refine ps_callV (M2 := mX8_layRest) (av := []) (rest := []) (ps_at tX8_sure_ok 7 rfl) cvX8_218 sh_50 rfl rfl (fun _ => Nat.le_of_ble_eq_true rfl) ?_
    refine ps_C.imp ?_ (h1 c0)
    rintro _ σ1 ⟨rfl, hx⟩
    exact hx
  · skip
    refine ps_ldc (ps_at tX8_sure_ok 4 rfl) cnX8_112 ?_
    exact ps_iret (ps_at tX8_sure_ok 5 rfl) rfl ⟨rfl, rfl⟩ (h2 c0)
theorem bX8_sure_15 {d : Nat} {Q : Option ps_V → ps_S → Prop} {v1 : Int32} {σ : ps_S} (h1 : ps_C mX8_layGone (d + 1) [.inr (.inr (50, 0))] σ (ps_rv (fun σ1 => kX8_sure_19 d Q v1 σ1))) : kX8_sure_15 d Q v1 σ := by
  refine ps_aload_n (ps_at tX8_sure_ok 8 rfl) rfl rfl ?_
  refine ps_callV (M2 := mX8_layGone) (av := []) (rest := []) (ps_at tX8_sure_ok 9 rfl) cvX8_224 sh_50 rfl rfl (fun _ => Nat.le_of_ble_eq_true rfl) ?_
  refine ps_C.imp ?_ (h1)
  rintro _ σ1 ⟨rfl, hx⟩
  exact hx
theorem bX8_sure_19 {d : Nat} {Q : Option ps_V → ps_S → Prop} {v1 : Int32} {σ : ps_S} (h1 : kX8_sure_23 d Q v1 0 0 σ) : kX8_sure_19 d Q v1 σ := by
  refine ps_iconst (x := 0) (ps_at tX8_sure_ok 10 rfl) (by decide) ?_
  refine ps_istore_n (L' := [some (.inr (.inr (50, 0))), some (.inl v1), some (.inl 0), none]) (ps_at tX8_sure_ok 11 rfl) rfl (by decide) rfl ?_
  refine ps_iconst (x := 0) (ps_at tX8_sure_ok 12 rfl) (by decide) ?_
  refine ps_istore_n (L' := [some (.inr (.inr (50, 0))), some (.inl v1), some (.inl 0), some (.inl 0)]) (ps_at tX8_sure_ok 13 rfl) rfl (by decide) rfl ?_
  exact h1
theorem bX8_sure_23 {d : Nat} {Q : Option ps_V → ps_S → Prop} {v1 : Int32} {v2 : Int32} {v3 : Int32} {σ : ps_S} (h1 : (σ 50 0 21) ≤ v3 → ¬ v2 = 1 → Q (some (.inl 0)) σ) (h2 : (σ 50 0 21) ≤ v3 → v2 = 1 → Q (some (.inl 1)) σ) (h3 : ¬ (σ 50 0 21) ≤ v3 → vp_in ((4 * v1) + v3) 48) (h4 : ¬ (σ 50 0 21) ≤ v3 → vp_in ((4 * v1) + v3) 52) (h5 : ¬ (σ 50 0 21) ≤ v3 → vp_in v1 12) (h6 : ¬ (σ 50 0 21) ≤ v3 → vp_in v3 4) (h7 : ¬ (σ 50 0 21) ≤ v3 → mHab σ v3.toNatClampNeg) (h8 : ¬ (σ 50 0 21) ≤ v3 → vp_in (σ 50 0 21) 5) (h9 : ¬ (σ 50 0 21) ≤ v3 → ¬ (((σ 79 0 ((4 * v1) + v3).toNatClampNeg) + (σ 77 0 ((4 * v1) + v3).toNatClampNeg)) - (mWa σ v1.toNatClampNeg v3.toNatClampNeg)) = (mBest σ) → kX8_sure_23 d Q v1 (v2 + 0) (v3 + 1) σ) (h10 : ¬ (σ 50 0 21) ≤ v3 → (((σ 79 0 ((4 * v1) + v3).toNatClampNeg) + (σ 77 0 ((4 * v1) + v3).toNatClampNeg)) - (mWa σ v1.toNatClampNeg v3.toNatClampNeg)) = (mBest σ) → kX8_sure_23 d Q v1 (v2 + 1) (v3 + 1) σ) : kX8_sure_23 d Q v1 v2 v3 σ := by
  refine ps_iload_n (ps_at tX8_sure_ok 14 rfl) rfl rfl ?_
  refine ps_aload_n (ps_at tX8_sure_ok 15 rfl) rfl rfl ?_
  refine ps_getI (ps_at tX8_sure_ok 16 rfl) flX8_72 sh_50 rfl ?_
  refine ps_icmp_ge (tgt := 80) (ps_at tX8_sure_ok 17 rfl) (by decide) (fun c0 => ?_) (fun c0 => ?_)
  · skip
    refine ps_iload_n (ps_at tX8_sure_ok 51 rfl) rfl rfl ?_
    refine ps_iconst (x := 1) (ps_at tX8_sure_ok 52 rfl) (by decide) ?_
    refine ps_icmp_ne (tgt := 89) (ps_at tX8_sure_ok 53 rfl) (by decide) (fun c1 => ?_) (fun c1 => ?_)
    · skip
      refine ps_iconst (x := 0) (ps_at tX8_sure_ok 56 rfl) (by decide) ?_
      exact ps_iret (ps_at tX8_sure_ok 57 rfl) rfl ⟨rfl, rfl⟩ (h1 c0 c1)
    · skip
      refine ps_iconst (x := 1) (ps_at tX8_sure_ok 54 rfl) (by decide) ?_
      refine ps_goto (tgt := 90) (ps_at tX8_sure_ok 55 rfl) (by decide) ?_
      exact ps_iret (ps_at tX8_sure_ok 57 rfl) rfl ⟨rfl, rfl⟩ (h2 c0 c1)
  · skip
    refine ps_iload_n (ps_at tX8_sure_ok 18 rfl) rfl rfl ?_
    refine ps_aload_n (ps_at tX8_sure_ok 19 rfl) rfl rfl ?_
    refine ps_getR (ps_at tX8_sure_ok 20 rfl) flX8_93 sh_50 rfl ?_
    refine ps_iconst (x := 4) (ps_at tX8_sure_ok 21 rfl) (by decide) ?_
    refine ps_iload_n (ps_at tX8_sure_ok 22 rfl) rfl rfl ?_
    refine ps_imul (ps_at tX8_sure_ok 23 rfl) ?_
    refine ps_iload_n (ps_at tX8_sure_ok 24 rfl) rfl rfl ?_
    refine ps_iadd (ps_at tX8_sure_ok 25 rfl) ?_
    refine ps_iald (ps_at tX8_sure_ok 26 rfl) sh_79 (h3 c0) ?_
    refine ps_aload_n (ps_at tX8_sure_ok 27 rfl) rfl rfl ?_
    refine ps_getR (ps_at tX8_sure_ok 28 rfl) flX8_87 sh_50 rfl ?_
    refine ps_iconst (x := 4) (ps_at tX8_sure_ok 29 rfl) (by decide) ?_
    refine ps_iload_n (ps_at tX8_sure_ok 30 rfl) rfl rfl ?_
    refine ps_imul (ps_at tX8_sure_ok 31 rfl) ?_
    refine ps_iload_n (ps_at tX8_sure_ok 32 rfl) rfl rfl ?_
    refine ps_iadd (ps_at tX8_sure_ok 33 rfl) ?_
    refine ps_iald (ps_at tX8_sure_ok 34 rfl) sh_77 (h4 c0) ?_
    refine ps_iadd (ps_at tX8_sure_ok 35 rfl) ?_
    refine ps_aload_n (ps_at tX8_sure_ok 36 rfl) rfl rfl ?_
    refine ps_iload_n (ps_at tX8_sure_ok 37 rfl) rfl rfl ?_
    refine ps_iload_n (ps_at tX8_sure_ok 38 rfl) rfl rfl ?_
    refine ps_callV (M2 := mX8_againstOf) (av := [.inl v1, .inl v3]) (rest := [.inl ((σ 79 0 ((4 * v1) + v3).toNatClampNeg) + (σ 77 0 ((4 * v1) + v3).toNatClampNeg)), .inl v2]) (ps_at tX8_sure_ok 39 rfl) cvX8_215 sh_50 rfl rfl (fun _ => Nat.le_of_ble_eq_true rfl) (pX8_againstOf (h5 c0) (h6 c0) (h7 c0) ?_)
    refine ps_isub (ps_at tX8_sure_ok 40 rfl) ?_
    refine ps_aload_n (ps_at tX8_sure_ok 41 rfl) rfl rfl ?_
    refine ps_callV (M2 := mX8_best) (av := []) (rest := [.inl (((σ 79 0 ((4 * v1) + v3).toNatClampNeg) + (σ 77 0 ((4 * v1) + v3).toNatClampNeg)) - (mWa σ v1.toNatClampNeg v3.toNatClampNeg)), .inl v2]) (ps_at tX8_sure_ok 42 rfl) cvX8_221 sh_50 rfl rfl (fun _ => Nat.le_of_ble_eq_true rfl) (pX8_best (h8 c0) ?_)
    refine ps_icmp_ne (tgt := 71) (ps_at tX8_sure_ok 43 rfl) (by decide) (fun c1 => ?_) (fun c1 => ?_)
    · skip
      refine ps_iconst (x := 0) (ps_at tX8_sure_ok 46 rfl) (by decide) ?_
      refine ps_iadd (ps_at tX8_sure_ok 47 rfl) ?_
      refine ps_istore_n (L' := [some (.inr (.inr (50, 0))), some (.inl v1), some (.inl (v2 + 0)), some (.inl v3)]) (ps_at tX8_sure_ok 48 rfl) rfl (by decide) rfl ?_
      refine ps_iinc (L' := [some (.inr (.inr (50, 0))), some (.inl v1), some (.inl (v2 + 0)), some (.inl (v3 + 1))]) (y := 1) (ps_at tX8_sure_ok 49 rfl) rfl (by decide) (by decide) rfl ?_
      refine ps_goto (tgt := 23) (ps_at tX8_sure_ok 50 rfl) (by decide) ?_
      exact h9 c0 c1
    · skip
      refine ps_iconst (x := 1) (ps_at tX8_sure_ok 44 rfl) (by decide) ?_
      refine ps_goto (tgt := 72) (ps_at tX8_sure_ok 45 rfl) (by decide) ?_
      refine ps_iadd (ps_at tX8_sure_ok 47 rfl) ?_
      refine ps_istore_n (L' := [some (.inr (.inr (50, 0))), some (.inl v1), some (.inl (v2 + 1)), some (.inl v3)]) (ps_at tX8_sure_ok 48 rfl) rfl (by decide) rfl ?_
      refine ps_iinc (L' := [some (.inr (.inr (50, 0))), some (.inl v1), some (.inl (v2 + 1)), some (.inl (v3 + 1))]) (y := 1) (ps_at tX8_sure_ok 49 rfl) rfl (by decide) (by decide) rfl ?_
      refine ps_goto (tgt := 23) (ps_at tX8_sure_ok 50 rfl) (by decide) ?_
      exact h10 c0 c1
theorem eX8_sure {d : Nat} {Q : Option ps_V → ps_S → Prop} {v1 : Int32} {σ : ps_S} (h : kX8_sure_0 d Q v1 σ) : ps_C mX8_sure (d + 2) [.inr (.inr (50, 0)), .inl v1] σ Q := ps_enter (by decide) rfl ⟨rfl, rfl, rfl⟩ rfl (Nat.le_of_ble_eq_true rfl) h
abbrev kX8_settings_0 (d : Nat) (Q : Option ps_V → ps_S → Prop)  (σ : ps_S) : Prop := ps_K mX8_settings (d + 1) (ps_QF Q) 0 [some (.inr (.inr (50, 0))), none, none] [] σ
abbrev kX8_settings_4 (d : Nat) (Q : Option ps_V → ps_S → Prop)  (σ : ps_S) : Prop := ps_K mX8_settings (d + 1) (ps_QF Q) 4 [some (.inr (.inr (50, 0))), none, none] [] σ
abbrev kX8_settings_8 (d : Nat) (Q : Option ps_V → ps_S → Prop) (v1 : Int32) (v2 : Int32) (σ : ps_S) : Prop := ps_K mX8_settings (d + 1) (ps_QF Q) 8 [some (.inr (.inr (50, 0))), some (.inl v1), some (.inl v2)] [] σ
theorem bX8_settings_0 {d : Nat} {Q : Option ps_V → ps_S → Prop}  {σ : ps_S} (h1 : ps_C mX8_layRest d [.inr (.inr (50, 0))] σ (ps_rv (fun σ1 => kX8_settings_4 d Q σ1))) : kX8_settings_0 d Q σ := by
  refine ps_aload_n (ps_at tX8_settings_ok 0 rfl) rfl rfl ?_
  refine ps_callV (M2 := mX8_layRest) (av := []) (rest := []) (ps_at tX8_settings_ok 1 rfl) cvX8_218 sh_50 rfl rfl (fun _ => Nat.le_of_ble_eq_true rfl) ?_
  refine ps_C.imp ?_ (h1)
  rintro _ σ1 ⟨rfl, hx⟩
  exact hx
theorem bX8_settings_4 {d : Nat} {Q : Option ps_V → ps_S → Prop}  {σ : ps_S} (h1 : kX8_settings_8 d Q 0 0 σ) : kX8_settings_4 d Q σ := by
  refine ps_iconst (x := 0) (ps_at tX8_settings_ok 2 rfl) (by decide) ?_
  refine ps_istore_n (L' := [some (.inr (.inr (50, 0))), some (.inl 0), none]) (ps_at tX8_settings_ok 3 rfl) rfl (by decide) rfl ?_
  refine ps_iconst (x := 0) (ps_at tX8_settings_ok 4 rfl) (by decide) ?_
  refine ps_istore_n (L' := [some (.inr (.inr (50, 0))), some (.inl 0), some (.inl 0)]) (ps_at tX8_settings_ok 5 rfl) rfl (by decide) rfl ?_
  exact h1
theorem bX8_settings_8 {d : Nat} {Q : Option ps_V → ps_S → Prop} {v1 : Int32} {v2 : Int32} {σ : ps_S} (h1 : (σ 50 0 21) ≤ v2 → Q (some (.inl v1)) σ) (h2 : ¬ (σ 50 0 21) ≤ v2 → vp_in v2 52) (h3 : ¬ (σ 50 0 21) ≤ v2 → vp_in (σ 50 0 21) 5) (h4 : ¬ (σ 50 0 21) ≤ v2 → ¬ (σ 77 0 v2.toNatClampNeg) = (mBest σ) → kX8_settings_8 d Q (v1 + 0) (v2 + 1) σ) (h5 : ¬ (σ 50 0 21) ≤ v2 → (σ 77 0 v2.toNatClampNeg) = (mBest σ) → kX8_settings_8 d Q (v1 + (σ 78 0 v2.toNatClampNeg)) (v2 + 1) σ) : kX8_settings_8 d Q v1 v2 σ := by
  refine ps_iload_n (ps_at tX8_settings_ok 6 rfl) rfl rfl ?_
  refine ps_aload_n (ps_at tX8_settings_ok 7 rfl) rfl rfl ?_
  refine ps_getI (ps_at tX8_settings_ok 8 rfl) flX8_72 sh_50 rfl ?_
  refine ps_icmp_ge (tgt := 48) (ps_at tX8_settings_ok 9 rfl) (by decide) (fun c0 => ?_) (fun c0 => ?_)
  · skip
    refine ps_iload_n (ps_at tX8_settings_ok 28 rfl) rfl rfl ?_
    exact ps_iret (ps_at tX8_settings_ok 29 rfl) rfl ⟨rfl, rfl⟩ (h1 c0)
  · skip
    refine ps_iload_n (ps_at tX8_settings_ok 10 rfl) rfl rfl ?_
    refine ps_aload_n (ps_at tX8_settings_ok 11 rfl) rfl rfl ?_
    refine ps_getR (ps_at tX8_settings_ok 12 rfl) flX8_87 sh_50 rfl ?_
    refine ps_iload_n (ps_at tX8_settings_ok 13 rfl) rfl rfl ?_
    refine ps_iald (ps_at tX8_settings_ok 14 rfl) sh_77 (h2 c0) ?_
    refine ps_aload_n (ps_at tX8_settings_ok 15 rfl) rfl rfl ?_
    refine ps_callV (M2 := mX8_best) (av := []) (rest := [.inl (σ 77 0 v2.toNatClampNeg), .inl v1]) (ps_at tX8_settings_ok 16 rfl) cvX8_221 sh_50 rfl rfl (fun _ => Nat.le_of_ble_eq_true rfl) (pX8_best (h3 c0) ?_)
    refine ps_icmp_ne (tgt := 39) (ps_at tX8_settings_ok 17 rfl) (by decide) (fun c1 => ?_) (fun c1 => ?_)
    · skip
      refine ps_iconst (x := 0) (ps_at tX8_settings_ok 23 rfl) (by decide) ?_
      refine ps_iadd (ps_at tX8_settings_ok 24 rfl) ?_
      refine ps_istore_n (L' := [some (.inr (.inr (50, 0))), some (.inl (v1 + 0)), some (.inl v2)]) (ps_at tX8_settings_ok 25 rfl) rfl (by decide) rfl ?_
      refine ps_iinc (L' := [some (.inr (.inr (50, 0))), some (.inl (v1 + 0)), some (.inl (v2 + 1))]) (y := 1) (ps_at tX8_settings_ok 26 rfl) rfl (by decide) (by decide) rfl ?_
      refine ps_goto (tgt := 8) (ps_at tX8_settings_ok 27 rfl) (by decide) ?_
      exact h4 c0 c1
    · skip
      refine ps_aload_n (ps_at tX8_settings_ok 18 rfl) rfl rfl ?_
      refine ps_getR (ps_at tX8_settings_ok 19 rfl) flX8_90 sh_50 rfl ?_
      refine ps_iload_n (ps_at tX8_settings_ok 20 rfl) rfl rfl ?_
      refine ps_iald (ps_at tX8_settings_ok 21 rfl) sh_78 (h2 c0) ?_
      refine ps_goto (tgt := 40) (ps_at tX8_settings_ok 22 rfl) (by decide) ?_
      refine ps_iadd (ps_at tX8_settings_ok 24 rfl) ?_
      refine ps_istore_n (L' := [some (.inr (.inr (50, 0))), some (.inl (v1 + (σ 78 0 v2.toNatClampNeg))), some (.inl v2)]) (ps_at tX8_settings_ok 25 rfl) rfl (by decide) rfl ?_
      refine ps_iinc (L' := [some (.inr (.inr (50, 0))), some (.inl (v1 + (σ 78 0 v2.toNatClampNeg))), some (.inl (v2 + 1))]) (y := 1) (ps_at tX8_settings_ok 26 rfl) rfl (by decide) (by decide) rfl ?_
      refine ps_goto (tgt := 8) (ps_at tX8_settings_ok 27 rfl) (by decide) ?_
      exact h5 c0 c1
theorem eX8_settings {d : Nat} {Q : Option ps_V → ps_S → Prop}  {σ : ps_S} (h : kX8_settings_0 d Q σ) : ps_C mX8_settings (d + 1) [.inr (.inr (50, 0))] σ Q := ps_enter (by decide) rfl ⟨rfl, rfl, rfl⟩ rfl (Nat.le_of_ble_eq_true rfl) h
abbrev kX8_count_0 (d : Nat) (Q : Option ps_V → ps_S → Prop) (v1 : Int32) (σ : ps_S) : Prop := ps_K mX8_count (d + 1) (ps_QF Q) 0 [some (.inr (.inr (50, 0))), some (.inl v1), none, none, none, none, none, none] [] σ
abbrev kX8_count_16 (d : Nat) (Q : Option ps_V → ps_S → Prop) (v1 : Int32) (v2 : Int32) (v3 : Int32) (v4 : Int32) (v5 : Int32) (v6 : Int32) (v7 : Int32) (σ : ps_S) : Prop := ps_K mX8_count (d + 1) (ps_QF Q) 16 [some (.inr (.inr (50, 0))), some (.inl v1), some (.inl v2), some (.inl v3), some (.inl v4), some (.inl v5), some (.inl v6), some (.inl v7)] [] σ
abbrev kX8_count_108 (d : Nat) (Q : Option ps_V → ps_S → Prop) (v1 : Int32) (v2 : Int32) (v3 : Int32) (v4 : Int32) (v5 : Int32) (v6 : Int32) (v7 : Int32) (σ : ps_S) : Prop := ps_K mX8_count (d + 1) (ps_QF Q) 108 [some (.inr (.inr (50, 0))), some (.inl v1), some (.inl v2), some (.inl v3), some (.inl v4), some (.inl v5), some (.inl v6), some (.inl v7)] [] σ
abbrev kX8_count_49 (d : Nat) (Q : Option ps_V → ps_S → Prop) (v1 : Int32) (v3 : Int32) (v4 : Int32) (v5 : Int32) (v6 : Int32) (v7 : Int32) (s0 : Int32) (σ : ps_S) : Prop := ps_K mX8_count (d + 1) (ps_QF Q) 49 [some (.inr (.inr (50, 0))), some (.inl v1), none, some (.inl v3), some (.inl v4), some (.inl v5), some (.inl v6), some (.inl v7)] [.inl s0] σ
abbrev kX8_count_50 (d : Nat) (Q : Option ps_V → ps_S → Prop) (v1 : Int32) (v3 : Int32) (v4 : Int32) (v5 : Int32) (v6 : Int32) (v7 : Int32) (s0 : Int32) (s1 : Int32) (σ : ps_S) : Prop := ps_K mX8_count (d + 1) (ps_QF Q) 50 [some (.inr (.inr (50, 0))), some (.inl v1), none, some (.inl v3), some (.inl v4), some (.inl v5), some (.inl v6), some (.inl v7)] [.inl s0, .inl s1] σ
abbrev kX8_count_133 (d : Nat) (Q : Option ps_V → ps_S → Prop) (v1 : Int32) (v2 : Int32) (v3 : Int32) (v5 : Int32) (v6 : Int32) (v7 : Int32) (s0 : Int32) (s1 : Int32) (σ : ps_S) : Prop := ps_K mX8_count (d + 1) (ps_QF Q) 133 [some (.inr (.inr (50, 0))), some (.inl v1), some (.inl v2), some (.inl v3), none, some (.inl v5), some (.inl v6), some (.inl v7)] [.inl s0, .inl s1] σ
abbrev kX8_count_68 (d : Nat) (Q : Option ps_V → ps_S → Prop) (v1 : Int32) (v2 : Int32) (v4 : Int32) (v5 : Int32) (v6 : Int32) (v7 : Int32) (s0 : Int32) (s1 : Int32) (σ : ps_S) : Prop := ps_K mX8_count (d + 1) (ps_QF Q) 68 [some (.inr (.inr (50, 0))), some (.inl v1), some (.inl v2), none, some (.inl v4), some (.inl v5), some (.inl v6), some (.inl v7)] [.inl s0, .inl s1] σ
theorem bX8_count_0 {d : Nat} {Q : Option ps_V → ps_S → Prop} {v1 : Int32} {σ : ps_S} (h1 : kX8_count_16 d Q v1 0 0 0 0 0 0 σ) : kX8_count_0 d Q v1 σ := by
  refine ps_iconst (x := 0) (ps_at tX8_count_ok 0 rfl) (by decide) ?_
  refine ps_istore_n (L' := [some (.inr (.inr (50, 0))), some (.inl v1), some (.inl 0), none, none, none, none, none]) (ps_at tX8_count_ok 1 rfl) rfl (by decide) rfl ?_
  refine ps_iconst (x := 0) (ps_at tX8_count_ok 2 rfl) (by decide) ?_
  refine ps_istore_n (L' := [some (.inr (.inr (50, 0))), some (.inl v1), some (.inl 0), some (.inl 0), none, none, none, none]) (ps_at tX8_count_ok 3 rfl) rfl (by decide) rfl ?_
  refine ps_iconst (x := 0) (ps_at tX8_count_ok 4 rfl) (by decide) ?_
  refine ps_istore (L' := [some (.inr (.inr (50, 0))), some (.inl v1), some (.inl 0), some (.inl 0), some (.inl 0), none, none, none]) (ps_at tX8_count_ok 5 rfl) (by decide) rfl ?_
  refine ps_iconst (x := 0) (ps_at tX8_count_ok 6 rfl) (by decide) ?_
  refine ps_istore (L' := [some (.inr (.inr (50, 0))), some (.inl v1), some (.inl 0), some (.inl 0), some (.inl 0), some (.inl 0), none, none]) (ps_at tX8_count_ok 7 rfl) (by decide) rfl ?_
  refine ps_iconst (x := 0) (ps_at tX8_count_ok 8 rfl) (by decide) ?_
  refine ps_istore (L' := [some (.inr (.inr (50, 0))), some (.inl v1), some (.inl 0), some (.inl 0), some (.inl 0), some (.inl 0), some (.inl 0), none]) (ps_at tX8_count_ok 9 rfl) (by decide) rfl ?_
  refine ps_iconst (x := 0) (ps_at tX8_count_ok 10 rfl) (by decide) ?_
  refine ps_istore (L' := [some (.inr (.inr (50, 0))), some (.inl v1), some (.inl 0), some (.inl 0), some (.inl 0), some (.inl 0), some (.inl 0), some (.inl 0)]) (ps_at tX8_count_ok 11 rfl) (by decide) rfl ?_
  exact h1
theorem bX8_count_16 {d : Nat} {Q : Option ps_V → ps_S → Prop} {v1 : Int32} {v2 : Int32} {v3 : Int32} {v4 : Int32} {v5 : Int32} {v6 : Int32} {v7 : Int32} {σ : ps_S} (h1 : 486 ≤ v7 → kX8_count_108 d Q v1 v2 v3 v4 v5 v6 0 σ) (h2 : ¬ 486 ≤ v7 → 324 ≤ v7 → kX8_count_49 d Q v1 v3 v4 v5 v6 v7 v2 σ) (h3 : ¬ 486 ≤ v7 → ¬ 324 ≤ v7 → vp_in v7 324) (h4 : ¬ 486 ≤ v7 → ¬ 324 ≤ v7 → (σ 51 0 v7.toNatClampNeg) = (-900009) → kX8_count_49 d Q v1 v3 v4 v5 v6 v7 v2 σ) (h5 : ¬ 486 ≤ v7 → ¬ 324 ≤ v7 → ¬ (σ 51 0 v7.toNatClampNeg) = (-900009) → kX8_count_50 d Q v1 v3 v4 v5 v6 v7 1 v2 σ) : kX8_count_16 d Q v1 v2 v3 v4 v5 v6 v7 σ := by
  refine ps_iload (ps_at tX8_count_ok 12 rfl) rfl ?_
  refine ps_sipush (x := 486) (ps_at tX8_count_ok 13 rfl) (by decide) ?_
  refine ps_icmp_ge (tgt := 105) (ps_at tX8_count_ok 14 rfl) (by decide) (fun c0 => ?_) (fun c0 => ?_)
  · skip
    refine ps_iconst (x := 0) (ps_at tX8_count_ok 58 rfl) (by decide) ?_
    refine ps_istore (L' := [some (.inr (.inr (50, 0))), some (.inl v1), some (.inl v2), some (.inl v3), some (.inl v4), some (.inl v5), some (.inl v6), some (.inl 0)]) (ps_at tX8_count_ok 59 rfl) (by decide) rfl ?_
    exact h1 c0
  · skip
    refine ps_iload_n (ps_at tX8_count_ok 15 rfl) rfl rfl ?_
    refine ps_iload (ps_at tX8_count_ok 16 rfl) rfl ?_
    refine ps_sipush (x := 324) (ps_at tX8_count_ok 17 rfl) (by decide) ?_
    refine ps_icmp_ge (tgt := 49) (ps_at tX8_count_ok 18 rfl) (by decide) (fun c1 => ?_) (fun c1 => ?_)
    · skip
      refine ps_forget (L' := [some (.inr (.inr (50, 0))), some (.inl v1), none, some (.inl v3), some (.inl v4), some (.inl v5), some (.inl v6), some (.inl v7)]) (And.intro rfl (And.intro rfl (And.intro rfl (And.intro rfl (And.intro rfl (And.intro rfl (And.intro rfl trivial))))))) ?_
      exact h2 c0 c1
    · skip
      refine ps_aload_n (ps_at tX8_count_ok 19 rfl) rfl rfl ?_
      refine ps_getR (ps_at tX8_count_ok 20 rfl) flX8_7 sh_50 rfl ?_
      refine ps_iload (ps_at tX8_count_ok 21 rfl) rfl ?_
      refine ps_iald (ps_at tX8_count_ok 22 rfl) sh_51 (h3 c0 c1) ?_
      refine ps_ldc (ps_at tX8_count_ok 23 rfl) cnX8_96 ?_
      refine ps_icmp_eq (tgt := 49) (ps_at tX8_count_ok 24 rfl) (by decide) (fun c2 => ?_) (fun c2 => ?_)
      · skip
        refine ps_forget (L' := [some (.inr (.inr (50, 0))), some (.inl v1), none, some (.inl v3), some (.inl v4), some (.inl v5), some (.inl v6), some (.inl v7)]) (And.intro rfl (And.intro rfl (And.intro rfl (And.intro rfl (And.intro rfl (And.intro rfl (And.intro rfl trivial))))))) ?_
        exact h4 c0 c1 c2
      · skip
        refine ps_iconst (x := 1) (ps_at tX8_count_ok 25 rfl) (by decide) ?_
        refine ps_goto (tgt := 50) (ps_at tX8_count_ok 26 rfl) (by decide) ?_
        refine ps_forget (L' := [some (.inr (.inr (50, 0))), some (.inl v1), none, some (.inl v3), some (.inl v4), some (.inl v5), some (.inl v6), some (.inl v7)]) (And.intro rfl (And.intro rfl (And.intro rfl (And.intro rfl (And.intro rfl (And.intro rfl (And.intro rfl trivial))))))) ?_
        exact h5 c0 c1 c2
theorem bX8_count_108 {d : Nat} {Q : Option ps_V → ps_S → Prop} {v1 : Int32} {v2 : Int32} {v3 : Int32} {v4 : Int32} {v5 : Int32} {v6 : Int32} {v7 : Int32} {σ : ps_S} (h1 : 6 ≤ v7 → v1 = 0 → Q (some (.inl v2)) σ) (h2 : 6 ≤ v7 → v1 = 1 → Q (some (.inl v3)) σ) (h3 : 6 ≤ v7 → v1 = 2 → Q (some (.inl v4)) σ) (h4 : 6 ≤ v7 → v1 = 3 → Q (some (.inl v5)) σ) (h5 : 6 ≤ v7 → v1 = 4 → Q (some (.inl v6)) σ) (h6 : 6 ≤ v7 → v1 = 5 → Q (some (.inl (σ 50 0 21))) σ) (h7 : 6 ≤ v7 → v1 = 6 → Q (some (.inl (σ 50 0 22))) σ) (h8 : 6 ≤ v7 → (v1.toInt < 0 ∨ 6 < v1.toInt) → Q (some (.inl (-900002))) σ) (h9 : ¬ 6 ≤ v7 → vp_in v7 6) (h10 : ¬ 6 ≤ v7 → (jbP (mSh σ v7.toNatClampNeg v7.toNatClampNeg)) = 0 → kX8_count_133 d Q v1 v2 v3 v5 v6 v7 0 v4 σ) (h11 : ¬ 6 ≤ v7 → ¬ (jbP (mSh σ v7.toNatClampNeg v7.toNatClampNeg)) = 0 → kX8_count_133 d Q v1 v2 v3 v5 v6 v7 1 v4 σ) : kX8_count_108 d Q v1 v2 v3 v4 v5 v6 v7 σ := by
  refine ps_iload (ps_at tX8_count_ok 60 rfl) rfl ?_
  refine ps_bipush (x := 6) (ps_at tX8_count_ok 61 rfl) (by decide) ?_
  refine ps_icmp_ge (tgt := 154) (ps_at tX8_count_ok 62 rfl) (by decide) (fun c0 => ?_) (fun c0 => ?_)
  · skip
    refine ps_iload_n (ps_at tX8_count_ok 83 rfl) rfl rfl ?_
    rcases ps_sw7 v1 with c1 | c1 | c1 | c1 | c1 | c1 | c1 | c1
    · skip
      refine ps_tabIn (tgt := 196) (ps_at tX8_count_ok 84 rfl) (by rw [c1]; decide) (by rw [c1]; decide) (by rw [c1]; rfl) (by decide) ?_
      refine ps_iload_n (ps_at tX8_count_ok 85 rfl) rfl rfl ?_
      exact ps_iret (ps_at tX8_count_ok 86 rfl) rfl ⟨rfl, rfl⟩ (h1 c0 c1)
    · skip
      refine ps_tabIn (tgt := 198) (ps_at tX8_count_ok 84 rfl) (by rw [c1]; decide) (by rw [c1]; decide) (by rw [c1]; rfl) (by decide) ?_
      refine ps_iload_n (ps_at tX8_count_ok 87 rfl) rfl rfl ?_
      exact ps_iret (ps_at tX8_count_ok 88 rfl) rfl ⟨rfl, rfl⟩ (h2 c0 c1)
    · skip
      refine ps_tabIn (tgt := 200) (ps_at tX8_count_ok 84 rfl) (by rw [c1]; decide) (by rw [c1]; decide) (by rw [c1]; rfl) (by decide) ?_
      refine ps_iload (ps_at tX8_count_ok 89 rfl) rfl ?_
      exact ps_iret (ps_at tX8_count_ok 90 rfl) rfl ⟨rfl, rfl⟩ (h3 c0 c1)
    · skip
      refine ps_tabIn (tgt := 203) (ps_at tX8_count_ok 84 rfl) (by rw [c1]; decide) (by rw [c1]; decide) (by rw [c1]; rfl) (by decide) ?_
      refine ps_iload (ps_at tX8_count_ok 91 rfl) rfl ?_
      exact ps_iret (ps_at tX8_count_ok 92 rfl) rfl ⟨rfl, rfl⟩ (h4 c0 c1)
    · skip
      refine ps_tabIn (tgt := 206) (ps_at tX8_count_ok 84 rfl) (by rw [c1]; decide) (by rw [c1]; decide) (by rw [c1]; rfl) (by decide) ?_
      refine ps_iload (ps_at tX8_count_ok 93 rfl) rfl ?_
      exact ps_iret (ps_at tX8_count_ok 94 rfl) rfl ⟨rfl, rfl⟩ (h5 c0 c1)
    · skip
      refine ps_tabIn (tgt := 209) (ps_at tX8_count_ok 84 rfl) (by rw [c1]; decide) (by rw [c1]; decide) (by rw [c1]; rfl) (by decide) ?_
      refine ps_aload_n (ps_at tX8_count_ok 95 rfl) rfl rfl ?_
      refine ps_getI (ps_at tX8_count_ok 96 rfl) flX8_72 sh_50 rfl ?_
      exact ps_iret (ps_at tX8_count_ok 97 rfl) rfl ⟨rfl, rfl⟩ (h6 c0 c1)
    · skip
      refine ps_tabIn (tgt := 214) (ps_at tX8_count_ok 84 rfl) (by rw [c1]; decide) (by rw [c1]; decide) (by rw [c1]; rfl) (by decide) ?_
      refine ps_aload_n (ps_at tX8_count_ok 98 rfl) rfl rfl ?_
      refine ps_getI (ps_at tX8_count_ok 99 rfl) flX8_75 sh_50 rfl ?_
      exact ps_iret (ps_at tX8_count_ok 100 rfl) rfl ⟨rfl, rfl⟩ (h7 c0 c1)
    · skip
      refine ps_tabOut (tgt := 219) (ps_at tX8_count_ok 84 rfl) c1 (by decide) ?_
      refine ps_ldc (ps_at tX8_count_ok 101 rfl) cnX8_115 ?_
      exact ps_iret (ps_at tX8_count_ok 102 rfl) rfl ⟨rfl, rfl⟩ (h8 c0 c1)
  · skip
    refine ps_iload (ps_at tX8_count_ok 63 rfl) rfl ?_
    refine ps_aload_n (ps_at tX8_count_ok 64 rfl) rfl rfl ?_
    refine ps_iload (ps_at tX8_count_ok 65 rfl) rfl ?_
    refine ps_iload (ps_at tX8_count_ok 66 rfl) rfl ?_
    refine ps_callV (M2 := mX8_shares) (av := [.inl v7, .inl v7]) (rest := [.inl v4]) (ps_at tX8_count_ok 67 rfl) cvX8_172 sh_50 rfl rfl (fun _ => Nat.le_of_ble_eq_true rfl) (pX8_shares (h9 c0) (h9 c0) ?_)
    refine ps_if_eq (tgt := 132) (ps_at tX8_count_ok 68 rfl) (by decide) (fun c1 => ?_) (fun c1 => ?_)
    · skip
      refine ps_iconst (x := 0) (ps_at tX8_count_ok 71 rfl) (by decide) ?_
      refine ps_forget (L' := [some (.inr (.inr (50, 0))), some (.inl v1), some (.inl v2), some (.inl v3), none, some (.inl v5), some (.inl v6), some (.inl v7)]) (And.intro rfl (And.intro rfl (And.intro rfl (And.intro rfl (And.intro rfl (And.intro rfl (And.intro rfl trivial))))))) ?_
      exact h10 c0 c1
    · skip
      refine ps_iconst (x := 1) (ps_at tX8_count_ok 69 rfl) (by decide) ?_
      refine ps_goto (tgt := 133) (ps_at tX8_count_ok 70 rfl) (by decide) ?_
      refine ps_forget (L' := [some (.inr (.inr (50, 0))), some (.inl v1), some (.inl v2), some (.inl v3), none, some (.inl v5), some (.inl v6), some (.inl v7)]) (And.intro rfl (And.intro rfl (And.intro rfl (And.intro rfl (And.intro rfl (And.intro rfl (And.intro rfl trivial))))))) ?_
      exact h11 c0 c1
theorem bX8_count_49 {d : Nat} {Q : Option ps_V → ps_S → Prop} {v1 : Int32} {v3 : Int32} {v4 : Int32} {v5 : Int32} {v6 : Int32} {v7 : Int32} {s0 : Int32} {σ : ps_S} (h1 : kX8_count_50 d Q v1 v3 v4 v5 v6 v7 0 s0 σ) : kX8_count_49 d Q v1 v3 v4 v5 v6 v7 s0 σ := by
  refine ps_iconst (x := 0) (ps_at tX8_count_ok 27 rfl) (by decide) ?_
  exact h1
theorem bX8_count_50 {d : Nat} {Q : Option ps_V → ps_S → Prop} {v1 : Int32} {v3 : Int32} {v4 : Int32} {v5 : Int32} {v6 : Int32} {v7 : Int32} {s0 : Int32} {s1 : Int32} {σ : ps_S} (h1 : vp_in v7 486) (h2 : (σ 58 0 v7.toNatClampNeg) = 0 → kX8_count_68 d Q v1 (s1 + s0) v4 v5 v6 v7 0 v3 σ) (h3 : ¬ (σ 58 0 v7.toNatClampNeg) = 0 → kX8_count_68 d Q v1 (s1 + s0) v4 v5 v6 v7 1 v3 σ) : kX8_count_50 d Q v1 v3 v4 v5 v6 v7 s0 s1 σ := by
  refine ps_iadd (ps_at tX8_count_ok 28 rfl) ?_
  refine ps_istore_n (L' := [some (.inr (.inr (50, 0))), some (.inl v1), some (.inl (s1 + s0)), some (.inl v3), some (.inl v4), some (.inl v5), some (.inl v6), some (.inl v7)]) (ps_at tX8_count_ok 29 rfl) rfl (by decide) rfl ?_
  refine ps_iload_n (ps_at tX8_count_ok 30 rfl) rfl rfl ?_
  refine ps_aload_n (ps_at tX8_count_ok 31 rfl) rfl rfl ?_
  refine ps_getR (ps_at tX8_count_ok 32 rfl) flX8_28 sh_50 rfl ?_
  refine ps_iload (ps_at tX8_count_ok 33 rfl) rfl ?_
  refine ps_zald (ps_at tX8_count_ok 34 rfl) sh_58 (h1) ?_
  refine ps_if_eq (tgt := 67) (ps_at tX8_count_ok 35 rfl) (by decide) (fun c0 => ?_) (fun c0 => ?_)
  · skip
    refine ps_iconst (x := 0) (ps_at tX8_count_ok 38 rfl) (by decide) ?_
    refine ps_forget (L' := [some (.inr (.inr (50, 0))), some (.inl v1), some (.inl (s1 + s0)), none, some (.inl v4), some (.inl v5), some (.inl v6), some (.inl v7)]) (And.intro rfl (And.intro rfl (And.intro rfl (And.intro rfl (And.intro rfl (And.intro rfl (And.intro rfl trivial))))))) ?_
    exact h2 c0
  · skip
    refine ps_iconst (x := 1) (ps_at tX8_count_ok 36 rfl) (by decide) ?_
    refine ps_goto (tgt := 68) (ps_at tX8_count_ok 37 rfl) (by decide) ?_
    refine ps_forget (L' := [some (.inr (.inr (50, 0))), some (.inl v1), some (.inl (s1 + s0)), none, some (.inl v4), some (.inl v5), some (.inl v6), some (.inl v7)]) (And.intro rfl (And.intro rfl (And.intro rfl (And.intro rfl (And.intro rfl (And.intro rfl (And.intro rfl trivial))))))) ?_
    exact h3 c0
theorem bX8_count_133 {d : Nat} {Q : Option ps_V → ps_S → Prop} {v1 : Int32} {v2 : Int32} {v3 : Int32} {v5 : Int32} {v6 : Int32} {v7 : Int32} {s0 : Int32} {s1 : Int32} {σ : ps_S} (h1 : vp_in v7 6) (h2 : kX8_count_108 d Q v1 v2 v3 (s1 + s0) (v5 + (σ 68 0 v7.toNatClampNeg)) v6 (v7 + 1) σ) : kX8_count_133 d Q v1 v2 v3 v5 v6 v7 s0 s1 σ := by
  refine ps_iadd (ps_at tX8_count_ok 72 rfl) ?_
  refine ps_istore (L' := [some (.inr (.inr (50, 0))), some (.inl v1), some (.inl v2), some (.inl v3), some (.inl (s1 + s0)), some (.inl v5), some (.inl v6), some (.inl v7)]) (ps_at tX8_count_ok 73 rfl) (by decide) rfl ?_
  refine ps_iload (ps_at tX8_count_ok 74 rfl) rfl ?_
  refine ps_aload_n (ps_at tX8_count_ok 75 rfl) rfl rfl ?_
  refine ps_getR (ps_at tX8_count_ok 76 rfl) flX8_60 sh_50 rfl ?_
  refine ps_iload (ps_at tX8_count_ok 77 rfl) rfl ?_
  refine ps_iald (ps_at tX8_count_ok 78 rfl) sh_68 (h1) ?_
  refine ps_iadd (ps_at tX8_count_ok 79 rfl) ?_
  refine ps_istore (L' := [some (.inr (.inr (50, 0))), some (.inl v1), some (.inl v2), some (.inl v3), some (.inl (s1 + s0)), some (.inl (v5 + (σ 68 0 v7.toNatClampNeg))), some (.inl v6), some (.inl v7)]) (ps_at tX8_count_ok 80 rfl) (by decide) rfl ?_
  refine ps_iinc (L' := [some (.inr (.inr (50, 0))), some (.inl v1), some (.inl v2), some (.inl v3), some (.inl (s1 + s0)), some (.inl (v5 + (σ 68 0 v7.toNatClampNeg))), some (.inl v6), some (.inl (v7 + 1))]) (y := 1) (ps_at tX8_count_ok 81 rfl) rfl (by decide) (by decide) rfl ?_
  refine ps_goto (tgt := 108) (ps_at tX8_count_ok 82 rfl) (by decide) ?_
  exact h2
theorem bX8_count_68 {d : Nat} {Q : Option ps_V → ps_S → Prop} {v1 : Int32} {v2 : Int32} {v4 : Int32} {v5 : Int32} {v6 : Int32} {v7 : Int32} {s0 : Int32} {s1 : Int32} {σ : ps_S} (h1 : 72 ≤ v7 → kX8_count_16 d Q v1 v2 (s1 + s0) v4 v5 (v6 + 0) (v7 + 1) σ) (h2 : ¬ 72 ≤ v7 → vp_in v7 72) (h3 : ¬ 72 ≤ v7 → (σ 70 0 v7.toNatClampNeg) = (-900009) → kX8_count_16 d Q v1 v2 (s1 + s0) v4 v5 (v6 + 0) (v7 + 1) σ) (h4 : ¬ 72 ≤ v7 → ¬ (σ 70 0 v7.toNatClampNeg) = (-900009) → kX8_count_16 d Q v1 v2 (s1 + s0) v4 v5 (v6 + 1) (v7 + 1) σ) : kX8_count_68 d Q v1 v2 v4 v5 v6 v7 s0 s1 σ := by
  refine ps_iadd (ps_at tX8_count_ok 39 rfl) ?_
  refine ps_istore_n (L' := [some (.inr (.inr (50, 0))), some (.inl v1), some (.inl v2), some (.inl (s1 + s0)), some (.inl v4), some (.inl v5), some (.inl v6), some (.inl v7)]) (ps_at tX8_count_ok 40 rfl) rfl (by decide) rfl ?_
  refine ps_iload (ps_at tX8_count_ok 41 rfl) rfl ?_
  refine ps_iload (ps_at tX8_count_ok 42 rfl) rfl ?_
  refine ps_bipush (x := 72) (ps_at tX8_count_ok 43 rfl) (by decide) ?_
  refine ps_icmp_ge (tgt := 95) (ps_at tX8_count_ok 44 rfl) (by decide) (fun c0 => ?_) (fun c0 => ?_)
  · skip
    refine ps_iconst (x := 0) (ps_at tX8_count_ok 53 rfl) (by decide) ?_
    refine ps_iadd (ps_at tX8_count_ok 54 rfl) ?_
    refine ps_istore (L' := [some (.inr (.inr (50, 0))), some (.inl v1), some (.inl v2), some (.inl (s1 + s0)), some (.inl v4), some (.inl v5), some (.inl (v6 + 0)), some (.inl v7)]) (ps_at tX8_count_ok 55 rfl) (by decide) rfl ?_
    refine ps_iinc (L' := [some (.inr (.inr (50, 0))), some (.inl v1), some (.inl v2), some (.inl (s1 + s0)), some (.inl v4), some (.inl v5), some (.inl (v6 + 0)), some (.inl (v7 + 1))]) (y := 1) (ps_at tX8_count_ok 56 rfl) rfl (by decide) (by decide) rfl ?_
    refine ps_goto (tgt := 16) (ps_at tX8_count_ok 57 rfl) (by decide) ?_
    exact h1 c0
  · skip
    refine ps_aload_n (ps_at tX8_count_ok 45 rfl) rfl rfl ?_
    refine ps_getR (ps_at tX8_count_ok 46 rfl) flX8_66 sh_50 rfl ?_
    refine ps_iload (ps_at tX8_count_ok 47 rfl) rfl ?_
    refine ps_iald (ps_at tX8_count_ok 48 rfl) sh_70 (h2 c0) ?_
    refine ps_ldc (ps_at tX8_count_ok 49 rfl) cnX8_96 ?_
    refine ps_icmp_eq (tgt := 95) (ps_at tX8_count_ok 50 rfl) (by decide) (fun c1 => ?_) (fun c1 => ?_)
    · skip
      refine ps_iconst (x := 0) (ps_at tX8_count_ok 53 rfl) (by decide) ?_
      refine ps_iadd (ps_at tX8_count_ok 54 rfl) ?_
      refine ps_istore (L' := [some (.inr (.inr (50, 0))), some (.inl v1), some (.inl v2), some (.inl (s1 + s0)), some (.inl v4), some (.inl v5), some (.inl (v6 + 0)), some (.inl v7)]) (ps_at tX8_count_ok 55 rfl) (by decide) rfl ?_
      refine ps_iinc (L' := [some (.inr (.inr (50, 0))), some (.inl v1), some (.inl v2), some (.inl (s1 + s0)), some (.inl v4), some (.inl v5), some (.inl (v6 + 0)), some (.inl (v7 + 1))]) (y := 1) (ps_at tX8_count_ok 56 rfl) rfl (by decide) (by decide) rfl ?_
      refine ps_goto (tgt := 16) (ps_at tX8_count_ok 57 rfl) (by decide) ?_
      exact h3 c0 c1
    · skip
      refine ps_iconst (x := 1) (ps_at tX8_count_ok 51 rfl) (by decide) ?_
      refine ps_goto (tgt := 96) (ps_at tX8_count_ok 52 rfl) (by decide) ?_
      refine ps_iadd (ps_at tX8_count_ok 54 rfl) ?_
      refine ps_istore (L' := [some (.inr (.inr (50, 0))), some (.inl v1), some (.inl v2), some (.inl (s1 + s0)), some (.inl v4), some (.inl v5), some (.inl (v6 + 1)), some (.inl v7)]) (ps_at tX8_count_ok 55 rfl) (by decide) rfl ?_
      refine ps_iinc (L' := [some (.inr (.inr (50, 0))), some (.inl v1), some (.inl v2), some (.inl (s1 + s0)), some (.inl v4), some (.inl v5), some (.inl (v6 + 1)), some (.inl (v7 + 1))]) (y := 1) (ps_at tX8_count_ok 56 rfl) rfl (by decide) (by decide) rfl ?_
      refine ps_goto (tgt := 16) (ps_at tX8_count_ok 57 rfl) (by decide) ?_
      exact h4 c0 c1
theorem eX8_count {d : Nat} {Q : Option ps_V → ps_S → Prop} {v1 : Int32} {σ : ps_S} (h : kX8_count_0 d Q v1 σ) : ps_C mX8_count (d + 1) [.inr (.inr (50, 0)), .inl v1] σ Q := ps_enter (by decide) rfl ⟨rfl, rfl, rfl⟩ rfl (Nat.le_of_ble_eq_true rfl) h

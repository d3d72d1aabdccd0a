/-! ===== printed by wip/whole/gen.py: block rows ===== -/
abbrev kX7_read_0 (d : Nat) (Q : Option ps_V → ps_S → Prop) (v1 : Int32) (v2 : Int32) (v3 : Int32) (v4 : Int32) (σ : ps_S) : Prop := ps_K mX7_read (d + 2) (ps_QF Q) 0 [some (.inr (.inr (1, 0))), some (.inl v1), some (.inl v2), some (.inl v3), some (.inl v4)] [] σ
abbrev kX7_read_46 (d : Nat) (Q : Option ps_V → ps_S → Prop) (v1 : Int32) (v2 : Int32) (v3 : Int32) (v4 : Int32) (σ : ps_S) : Prop := ps_K mX7_read (d + 2) (ps_QF Q) 46 [some (.inr (.inr (1, 0))), some (.inl v1), some (.inl v2), some (.inl v3), some (.inl v4)] [] σ
abbrev kX7_read_59 (d : Nat) (Q : Option ps_V → ps_S → Prop) (s0 : Int32) (σ : ps_S) : Prop := ps_K mX7_read (d + 2) (ps_QF Q) 59 [none, none, none, none, none] [.inl s0] σ
theorem bX7_read_0 {d : Nat} {Q : Option ps_V → ps_S → Prop} {v1 : Int32} {v2 : Int32} {v3 : Int32} {v4 : Int32} {σ : ps_S} (h1 : (jbWi v1 9) = 0 → Q (some (.inl (-900001))) σ) (h2 : ¬ (jbWi v1 9) = 0 → (jbWi v2 6) = 0 → Q (some (.inl (-900001))) σ) (h3 : ¬ (jbWi v1 9) = 0 → ¬ (jbWi v2 6) = 0 → ¬ (jbWi v3 6) = 0 → v4 = (-900009) → kX7_read_46 d Q v1 v2 v3 v4 σ) (h4 : ¬ (jbWi v1 9) = 0 → ¬ (jbWi v2 6) = 0 → ¬ (jbWi v3 6) = 0 → ¬ v4 = (-900009) → ¬ (jbWi v4 10) = 0 → kX7_read_46 d Q v1 v2 v3 v4 σ) (h5 : ¬ (jbWi v1 9) = 0 → ¬ (jbWi v2 6) = 0 → ¬ (jbWi v3 6) = 0 → ¬ v4 = (-900009) → (jbWi v4 10) = 0 → Q (some (.inl (-900002))) σ) (h6 : ¬ (jbWi v1 9) = 0 → ¬ (jbWi v2 6) = 0 → (jbWi v3 6) = 0 → Q (some (.inl (-900001))) σ) : kX7_read_0 d Q v1 v2 v3 v4 σ := by
  refine ps_iload_n (ps_at tX7_read_ok 0 rfl) rfl rfl ?_
  refine ps_callS (M2 := mX7_isCopy) (av := [.inl v1]) (rest := []) (ps_at tX7_read_ok 1 rfl) csX7_58 rfl rfl (fun _ => Nat.le_of_ble_eq_true rfl) (pX7_isCopy ?_)
  refine ps_if_eq (tgt := 23) (ps_at tX7_read_ok 2 rfl) (by decide) (fun c0 => ?_) (fun c0 => ?_)
  · skip
    refine ps_ldc (ps_at tX7_read_ok 10 rfl) cnX7_69 ?_
    exact ps_iret (ps_at tX7_read_ok 11 rfl) rfl ⟨rfl, rfl⟩ (h1 c0)
  · skip
    refine ps_iload_n (ps_at tX7_read_ok 3 rfl) rfl rfl ?_
    refine ps_callS (M2 := mX7_isForme) (av := [.inl v2]) (rest := []) (ps_at tX7_read_ok 4 rfl) csX7_62 rfl rfl (fun _ => Nat.le_of_ble_eq_true rfl) (pX7_isForme ?_)
    refine ps_if_eq (tgt := 23) (ps_at tX7_read_ok 5 rfl) (by decide) (fun c1 => ?_) (fun c1 => ?_)
    · skip
      refine ps_ldc (ps_at tX7_read_ok 10 rfl) cnX7_69 ?_
      exact ps_iret (ps_at tX7_read_ok 11 rfl) rfl ⟨rfl, rfl⟩ (h2 c0 c1)
    · skip
      refine ps_iload_n (ps_at tX7_read_ok 6 rfl) rfl rfl ?_
      refine ps_bipush (x := 6) (ps_at tX7_read_ok 7 rfl) (by decide) ?_
      refine ps_callS (M2 := mX7_within) (av := [.inl v3, .inl 6]) (rest := []) (ps_at tX7_read_ok 8 rfl) csX7_65 rfl rfl (fun _ => Nat.le_of_ble_eq_true rfl) (pX7_within ?_)
      refine ps_if_ne (tgt := 26) (ps_at tX7_read_ok 9 rfl) (by decide) (fun c2 => ?_) (fun c2 => ?_)
      · skip
        refine ps_iload (ps_at tX7_read_ok 12 rfl) rfl ?_
        refine ps_ldc (ps_at tX7_read_ok 13 rfl) cnX7_70 ?_
        refine ps_icmp_eq (tgt := 46) (ps_at tX7_read_ok 14 rfl) (by decide) (fun c3 => ?_) (fun c3 => ?_)
        · skip
          exact h3 c0 c1 c2 c3
        · skip
          refine ps_iload (ps_at tX7_read_ok 15 rfl) rfl ?_
          refine ps_bipush (x := 10) (ps_at tX7_read_ok 16 rfl) (by decide) ?_
          refine ps_callS (M2 := mX7_within) (av := [.inl v4, .inl 10]) (rest := []) (ps_at tX7_read_ok 17 rfl) csX7_65 rfl rfl (fun _ => Nat.le_of_ble_eq_true rfl) (pX7_within ?_)
          refine ps_if_ne (tgt := 46) (ps_at tX7_read_ok 18 rfl) (by decide) (fun c4 => ?_) (fun c4 => ?_)
          · skip
            exact h4 c0 c1 c2 c3 c4
          · skip
            refine ps_ldc (ps_at tX7_read_ok 19 rfl) cnX7_71 ?_
            exact ps_iret (ps_at tX7_read_ok 20 rfl) rfl ⟨rfl, rfl⟩ (h5 c0 c1 c2 c3 c4)
      · skip
        refine ps_ldc (ps_at tX7_read_ok 10 rfl) cnX7_69 ?_
        exact ps_iret (ps_at tX7_read_ok 11 rfl) rfl ⟨rfl, rfl⟩ (h6 c0 c1 c2)
theorem bX7_read_46 {d : Nat} {Q : Option ps_V → ps_S → Prop} {v1 : Int32} {v2 : Int32} {v3 : Int32} {v4 : Int32} {σ : ps_S} (h1 : vp_in v2 6) (h2 : ps_C mX0_putLetter (d + 1) [.inr (.inr (3, v2.toNatClampNeg)), .inl v1, .inl v3, .inl v4] σ (ps_ri (fun x σ1 => kX7_read_59 d Q x σ1))) : kX7_read_46 d Q v1 v2 v3 v4 σ := by
  refine ps_aload_n (ps_at tX7_read_ok 21 rfl) rfl rfl ?_
  refine ps_getR (ps_at tX7_read_ok 22 rfl) flX7_11 sh_1 rfl ?_
  refine ps_iload_n (ps_at tX7_read_ok 23 rfl) rfl rfl ?_
  refine ps_aald0 (ps_at tX7_read_ok 24 rfl) sh_2 (Or.inr rfl) (h1) ?_
  refine ps_iload_n (ps_at tX7_read_ok 25 rfl) rfl rfl ?_
  refine ps_iload_n (ps_at tX7_read_ok 26 rfl) rfl rfl ?_
  refine ps_iload (ps_at tX7_read_ok 27 rfl) rfl ?_
  refine ps_callV (M2 := mX0_putLetter) (av := [.inl v1, .inl v3, .inl v4]) (rest := []) (ps_at tX7_read_ok 28 rfl) cvX7_72 sh_3 rfl rfl (fun _ => Nat.le_of_ble_eq_true rfl) ?_
  refine ps_C.imp ?_ (h2)
  rintro _ σ1 ⟨x, rfl, hx⟩
  exact ps_forget (L' := [none, none, none, none, none]) trivial hx
theorem bX7_read_59 {d : Nat} {Q : Option ps_V → ps_S → Prop} {s0 : Int32} {σ : ps_S} (h1 : Q (some (.inl s0)) σ) : kX7_read_59 d Q s0 σ := by
  exact ps_iret (ps_at tX7_read_ok 29 rfl) rfl ⟨rfl, rfl⟩ (h1)
theorem eX7_read {d : Nat} {Q : Option ps_V → ps_S → Prop} {v1 : Int32} {v2 : Int32} {v3 : Int32} {v4 : Int32} {σ : ps_S} (h : kX7_read_0 d Q v1 v2 v3 v4 σ) : ps_C mX7_read (d + 2) [.inr (.inr (1, 0)), .inl v1, .inl v2, .inl v3, .inl v4] σ Q := ps_enter (by decide) rfl ⟨rfl, rfl, rfl⟩ rfl (Nat.le_of_ble_eq_true rfl) h
abbrev kX7_agree_0 (d : Nat) (Q : Option ps_V → ps_S → Prop) (v1 : Int32) (v2 : Int32) (v3 : Int32) (σ : ps_S) : Prop := ps_K mX7_agree (d + 2) (ps_QF Q) 0 [some (.inr (.inr (1, 0))), some (.inl v1), some (.inl v2), some (.inl v3)] [] σ
theorem bX7_agree_0 {d : Nat} {Q : Option ps_V → ps_S → Prop} {v1 : Int32} {v2 : Int32} {v3 : Int32} {σ : ps_S} (h1 : (jbWi v1 6) = 0 → Q (some (.inl (-900001))) σ) (h2 : ¬ (jbWi v1 6) = 0 → (jbWi v2 9) = 0 → Q (some (.inl (-900001))) σ) (h3 : ¬ (jbWi v1 6) = 0 → ¬ (jbWi v2 9) = 0 → ¬ (jbWi v3 9) = 0 → vp_in v1 6) (h4 : ¬ (jbWi v1 6) = 0 → ¬ (jbWi v2 9) = 0 → ¬ (jbWi v3 9) = 0 → vp_in v2 9) (h5 : ¬ (jbWi v1 6) = 0 → ¬ (jbWi v2 9) = 0 → ¬ (jbWi v3 9) = 0 → vp_in v3 9) (h6 : ¬ (jbWi v1 6) = 0 → ¬ (jbWi v2 9) = 0 → ¬ (jbWi v3 9) = 0 → (jbP (sAlk σ v1.toNatClampNeg v2.toNatClampNeg v3.toNatClampNeg)) = 0 → Q (some (.inl 0)) σ) (h7 : ¬ (jbWi v1 6) = 0 → ¬ (jbWi v2 9) = 0 → ¬ (jbWi v3 9) = 0 → ¬ (jbP (sAlk σ v1.toNatClampNeg v2.toNatClampNeg v3.toNatClampNeg)) = 0 → Q (some (.inl 1)) σ) (h8 : ¬ (jbWi v1 6) = 0 → ¬ (jbWi v2 9) = 0 → (jbWi v3 9) = 0 → Q (some (.inl (-900001))) σ) : kX7_agree_0 d Q v1 v2 v3 σ := by
  refine ps_iload_n (ps_at tX7_agree_ok 0 rfl) rfl rfl ?_
  refine ps_callS (M2 := mX7_isForme) (av := [.inl v1]) (rest := []) (ps_at tX7_agree_ok 1 rfl) csX7_62 rfl rfl (fun _ => Nat.le_of_ble_eq_true rfl) (pX7_isForme ?_)
  refine ps_if_eq (tgt := 21) (ps_at tX7_agree_ok 2 rfl) (by decide) (fun c0 => ?_) (fun c0 => ?_)
  · skip
    refine ps_ldc (ps_at tX7_agree_ok 9 rfl) cnX7_69 ?_
    exact ps_iret (ps_at tX7_agree_ok 10 rfl) rfl ⟨rfl, rfl⟩ (h1 c0)
  · skip
    refine ps_iload_n (ps_at tX7_agree_ok 3 rfl) rfl rfl ?_
    refine ps_callS (M2 := mX7_isCopy) (av := [.inl v2]) (rest := []) (ps_at tX7_agree_ok 4 rfl) csX7_58 rfl rfl (fun _ => Nat.le_of_ble_eq_true rfl) (pX7_isCopy ?_)
    refine ps_if_eq (tgt := 21) (ps_at tX7_agree_ok 5 rfl) (by decide) (fun c1 => ?_) (fun c1 => ?_)
    · skip
      refine ps_ldc (ps_at tX7_agree_ok 9 rfl) cnX7_69 ?_
      exact ps_iret (ps_at tX7_agree_ok 10 rfl) rfl ⟨rfl, rfl⟩ (h2 c0 c1)
    · skip
      refine ps_iload_n (ps_at tX7_agree_ok 6 rfl) rfl rfl ?_
      refine ps_callS (M2 := mX7_isCopy) (av := [.inl v3]) (rest := []) (ps_at tX7_agree_ok 7 rfl) csX7_58 rfl rfl (fun _ => Nat.le_of_ble_eq_true rfl) (pX7_isCopy ?_)
      refine ps_if_ne (tgt := 24) (ps_at tX7_agree_ok 8 rfl) (by decide) (fun c2 => ?_) (fun c2 => ?_)
      · skip
        refine ps_aload_n (ps_at tX7_agree_ok 11 rfl) rfl rfl ?_
        refine ps_getR (ps_at tX7_agree_ok 12 rfl) flX7_11 sh_1 rfl ?_
        refine ps_iload_n (ps_at tX7_agree_ok 13 rfl) rfl rfl ?_
        refine ps_aald0 (ps_at tX7_agree_ok 14 rfl) sh_2 (Or.inr rfl) (h3 c0 c1 c2) ?_
        refine ps_iload_n (ps_at tX7_agree_ok 15 rfl) rfl rfl ?_
        refine ps_iload_n (ps_at tX7_agree_ok 16 rfl) rfl rfl ?_
        refine ps_callV (M2 := mX0_areAlike) (av := [.inl v2, .inl v3]) (rest := []) (ps_at tX7_agree_ok 17 rfl) cvX7_76 sh_3 rfl rfl (fun _ => Nat.le_of_ble_eq_true rfl) (pX0_areAlike (h4 c0 c1 c2) (h5 c0 c1 c2) ?_)
        refine ps_if_eq (tgt := 42) (ps_at tX7_agree_ok 18 rfl) (by decide) (fun c3 => ?_) (fun c3 => ?_)
        · skip
          refine ps_iconst (x := 0) (ps_at tX7_agree_ok 21 rfl) (by decide) ?_
          exact ps_iret (ps_at tX7_agree_ok 22 rfl) rfl ⟨rfl, rfl⟩ (h6 c0 c1 c2 c3)
        · skip
          refine ps_iconst (x := 1) (ps_at tX7_agree_ok 19 rfl) (by decide) ?_
          refine ps_goto (tgt := 43) (ps_at tX7_agree_ok 20 rfl) (by decide) ?_
          exact ps_iret (ps_at tX7_agree_ok 22 rfl) rfl ⟨rfl, rfl⟩ (h7 c0 c1 c2 c3)
      · skip
        refine ps_ldc (ps_at tX7_agree_ok 9 rfl) cnX7_69 ?_
        exact ps_iret (ps_at tX7_agree_ok 10 rfl) rfl ⟨rfl, rfl⟩ (h8 c0 c1 c2)
theorem eX7_agree {d : Nat} {Q : Option ps_V → ps_S → Prop} {v1 : Int32} {v2 : Int32} {v3 : Int32} {σ : ps_S} (h : kX7_agree_0 d Q v1 v2 v3 σ) : ps_C mX7_agree (d + 2) [.inr (.inr (1, 0)), .inl v1, .inl v2, .inl v3] σ Q := ps_enter (by decide) rfl ⟨rfl, rfl, rfl⟩ rfl (Nat.le_of_ble_eq_true rfl) h
abbrev kX7_states_0 (d : Nat) (Q : Option ps_V → ps_S → Prop) (v1 : Int32) (σ : ps_S) : Prop := ps_K mX7_states (d + 2) (ps_QF Q) 0 [some (.inr (.inr (1, 0))), some (.inl v1)] [] σ
abbrev kX7_states_15 (d : Nat) (Q : Option ps_V → ps_S → Prop) (j0 : Nat) (σ : ps_S) : Prop := ps_K mX7_states (d + 2) (ps_QF Q) 15 [none, none] [.inr (.inr (3, j0))] σ
theorem bX7_states_0 {d : Nat} {Q : Option ps_V → ps_S → Prop} {v1 : Int32} {σ : ps_S} (h1 : ¬ (jbWi v1 6) = 0 → ps_C mX7_grouped (d + 1) [.inr (.inr (1, 0)), .inl v1] σ (ps_rr 3 (fun q σ1 => kX7_states_15 d Q q σ1))) (h2 : (jbWi v1 6) = 0 → Q (some (.inl (-900001))) σ) : kX7_states_0 d Q v1 σ := by
  refine ps_iload_n (ps_at tX7_states_ok 0 rfl) rfl rfl ?_
  refine ps_callS (M2 := mX7_isForme) (av := [.inl v1]) (rest := []) (ps_at tX7_states_ok 1 rfl) csX7_62 rfl rfl (fun _ => Nat.le_of_ble_eq_true rfl) (pX7_isForme ?_)
  refine ps_if_ne (tgt := 10) (ps_at tX7_states_ok 2 rfl) (by decide) (fun c0 => ?_) (fun c0 => ?_)
  · skip
    refine ps_aload_n (ps_at tX7_states_ok 5 rfl) rfl rfl ?_
    refine ps_iload_n (ps_at tX7_states_ok 6 rfl) rfl rfl ?_
    refine ps_callV (M2 := mX7_grouped) (av := [.inl v1]) (rest := []) (ps_at tX7_states_ok 7 rfl) cvX7_79 sh_1 rfl rfl (fun _ => Nat.le_of_ble_eq_true rfl) ?_
    refine ps_C.imp ?_ (h1 c0)
    rintro _ σ1 ⟨q, rfl, hx⟩
    exact ps_forget (L' := [none, none]) trivial hx
  · skip
    refine ps_ldc (ps_at tX7_states_ok 3 rfl) cnX7_69 ?_
    exact ps_iret (ps_at tX7_states_ok 4 rfl) rfl ⟨rfl, rfl⟩ (h2 c0)
theorem bX7_states_15 {d : Nat} {Q : Option ps_V → ps_S → Prop} {j0 : Nat} {σ : ps_S} (h1 : Q (some (.inl (σ 3 j0 6))) σ) : kX7_states_15 d Q j0 σ := by
  refine ps_getI (ps_at tX7_states_ok 8 rfl) flX7_83 sh_3 rfl ?_
  exact ps_iret (ps_at tX7_states_ok 9 rfl) rfl ⟨rfl, rfl⟩ (h1)
theorem eX7_states {d : Nat} {Q : Option ps_V → ps_S → Prop} {v1 : Int32} {σ : ps_S} (h : kX7_states_0 d Q v1 σ) : ps_C mX7_states (d + 2) [.inr (.inr (1, 0)), .inl v1] σ Q := ps_enter (by decide) rfl ⟨rfl, rfl, rfl⟩ rfl (Nat.le_of_ble_eq_true rfl) h
abbrev kX7_state_0 (d : Nat) (Q : Option ps_V → ps_S → Prop) (v1 : Int32) (v2 : Int32) (σ : ps_S) : Prop := ps_K mX7_state (d + 2) (ps_QF Q) 0 [some (.inr (.inr (1, 0))), some (.inl v1), some (.inl v2)] [] σ
abbrev kX7_state_22 (d : Nat) (Q : Option ps_V → ps_S → Prop) (v2 : Int32) (j0 : Nat) (σ : ps_S) : Prop := ps_K mX7_state (d + 2) (ps_QF Q) 22 [none, none, some (.inl v2)] [.inr (.inr (3, j0))] σ
theorem bX7_state_0 {d : Nat} {Q : Option ps_V → ps_S → Prop} {v1 : Int32} {v2 : Int32} {σ : ps_S} (h1 : (jbWi v1 6) = 0 → Q (some (.inl (-900001))) σ) (h2 : ¬ (jbWi v1 6) = 0 → ¬ (jbWi v2 9) = 0 → ps_C mX7_grouped (d + 1) [.inr (.inr (1, 0)), .inl v1] σ (ps_rr 3 (fun q σ1 => kX7_state_22 d Q v2 q σ1))) (h3 : ¬ (jbWi v1 6) = 0 → (jbWi v2 9) = 0 → Q (some (.inl (-900001))) σ) : kX7_state_0 d Q v1 v2 σ := by
  refine ps_iload_n (ps_at tX7_state_ok 0 rfl) rfl rfl ?_
  refine ps_callS (M2 := mX7_isForme) (av := [.inl v1]) (rest := []) (ps_at tX7_state_ok 1 rfl) csX7_62 rfl rfl (fun _ => Nat.le_of_ble_eq_true rfl) (pX7_isForme ?_)
  refine ps_if_eq (tgt := 14) (ps_at tX7_state_ok 2 rfl) (by decide) (fun c0 => ?_) (fun c0 => ?_)
  · skip
    refine ps_ldc (ps_at tX7_state_ok 6 rfl) cnX7_69 ?_
    exact ps_iret (ps_at tX7_state_ok 7 rfl) rfl ⟨rfl, rfl⟩ (h1 c0)
  · skip
    refine ps_iload_n (ps_at tX7_state_ok 3 rfl) rfl rfl ?_
    refine ps_callS (M2 := mX7_isCopy) (av := [.inl v2]) (rest := []) (ps_at tX7_state_ok 4 rfl) csX7_58 rfl rfl (fun _ => Nat.le_of_ble_eq_true rfl) (pX7_isCopy ?_)
    refine ps_if_ne (tgt := 17) (ps_at tX7_state_ok 5 rfl) (by decide) (fun c1 => ?_) (fun c1 => ?_)
    · skip
      refine ps_aload_n (ps_at tX7_state_ok 8 rfl) rfl rfl ?_
      refine ps_iload_n (ps_at tX7_state_ok 9 rfl) rfl rfl ?_
      refine ps_callV (M2 := mX7_grouped) (av := [.inl v1]) (rest := []) (ps_at tX7_state_ok 10 rfl) cvX7_79 sh_1 rfl rfl (fun _ => Nat.le_of_ble_eq_true rfl) ?_
      refine ps_C.imp ?_ (h2 c0 c1)
      rintro _ σ1 ⟨q, rfl, hx⟩
      exact ps_forget (L' := [none, none, some (.inl v2)]) (And.intro rfl trivial) hx
    · skip
      refine ps_ldc (ps_at tX7_state_ok 6 rfl) cnX7_69 ?_
      exact ps_iret (ps_at tX7_state_ok 7 rfl) rfl ⟨rfl, rfl⟩ (h3 c0 c1)
theorem bX7_state_22 {d : Nat} {Q : Option ps_V → ps_S → Prop} {v2 : Int32} {j0 : Nat} {σ : ps_S} (h1 : vp_in v2 9) (h2 : Q (some (.inl (σ 9 j0 v2.toNatClampNeg))) σ) : kX7_state_22 d Q v2 j0 σ := by
  refine ps_getR (ps_at tX7_state_ok 11 rfl) flX7_87 sh_3 rfl ?_
  refine ps_iload_n (ps_at tX7_state_ok 12 rfl) rfl rfl ?_
  refine ps_iald (ps_at tX7_state_ok 13 rfl) sh_9 (h1) ?_
  exact ps_iret (ps_at tX7_state_ok 14 rfl) rfl ⟨rfl, rfl⟩ (h2)
theorem eX7_state {d : Nat} {Q : Option ps_V → ps_S → Prop} {v1 : Int32} {v2 : Int32} {σ : ps_S} (h : kX7_state_0 d Q v1 v2 σ) : ps_C mX7_state (d + 2) [.inr (.inr (1, 0)), .inl v1, .inl v2] σ Q := ps_enter (by decide) rfl ⟨rfl, rfl, rfl⟩ rfl (Nat.le_of_ble_eq_true rfl) h
abbrev kX7_letter_0 (d : Nat) (Q : Option ps_V → ps_S → Prop) (v1 : Int32) (v2 : Int32) (v3 : Int32) (σ : ps_S) : Prop := ps_K mX7_letter (d + 1) (ps_QF Q) 0 [some (.inr (.inr (1, 0))), some (.inl v1), some (.inl v2), some (.inl v3)] [] σ
abbrev kX7_letter_6 (d : Nat) (Q : Option ps_V → ps_S → Prop) (v1 : Int32) (v2 : Int32) (v3 : Int32) (s0 : Int32) (σ : ps_S) : Prop := ps_K mX7_letter (d + 1) (ps_QF Q) 6 [some (.inr (.inr (1, 0))), some (.inl v1), some (.inl v2), some (.inl v3)] [.inl s0] σ
abbrev kX7_letter_26 (d : Nat) (Q : Option ps_V → ps_S → Prop) (v2 : Int32) (v3 : Int32) (j0 : Nat) (σ : ps_S) : Prop := ps_K mX7_letter (d + 1) (ps_QF Q) 26 [none, none, some (.inl v2), some (.inl v3)] [.inr (.inr (3, j0))] σ
theorem bX7_letter_0 {d : Nat} {Q : Option ps_V → ps_S → Prop} {v1 : Int32} {v2 : Int32} {v3 : Int32} {σ : ps_S} (h1 : ps_C mX7_isState d [.inr (.inr (1, 0)), .inl v1, .inl v2] σ (ps_ri (fun x σ1 => kX7_letter_6 d Q v1 v2 v3 x σ1))) : kX7_letter_0 d Q v1 v2 v3 σ := by
  refine ps_aload_n (ps_at tX7_letter_ok 0 rfl) rfl rfl ?_
  refine ps_iload_n (ps_at tX7_letter_ok 1 rfl) rfl rfl ?_
  refine ps_iload_n (ps_at tX7_letter_ok 2 rfl) rfl rfl ?_
  refine ps_callV (M2 := mX7_isState) (av := [.inl v1, .inl v2]) (rest := []) (ps_at tX7_letter_ok 3 rfl) cvX7_91 sh_1 rfl rfl (fun _ => Nat.le_of_ble_eq_true rfl) ?_
  refine ps_C.imp ?_ (h1)
  rintro _ σ1 ⟨x, rfl, hx⟩
  exact hx
theorem bX7_letter_6 {d : Nat} {Q : Option ps_V → ps_S → Prop} {v1 : Int32} {v2 : Int32} {v3 : Int32} {s0 : Int32} {σ : ps_S} (h1 : s0 = 0 → Q (some (.inl (-900001))) σ) (h2 : ¬ s0 = 0 → ¬ (jbWi v3 6) = 0 → ps_C mX7_grouped d [.inr (.inr (1, 0)), .inl v1] σ (ps_rr 3 (fun q σ1 => kX7_letter_26 d Q v2 v3 q σ1))) (h3 : ¬ s0 = 0 → (jbWi v3 6) = 0 → Q (some (.inl (-900001))) σ) : kX7_letter_6 d Q v1 v2 v3 s0 σ := by
  refine ps_if_eq (tgt := 18) (ps_at tX7_letter_ok 4 rfl) (by decide) (fun c0 => ?_) (fun c0 => ?_)
  · skip
    refine ps_ldc (ps_at tX7_letter_ok 9 rfl) cnX7_69 ?_
    exact ps_iret (ps_at tX7_letter_ok 10 rfl) rfl ⟨rfl, rfl⟩ (h1 c0)
  · skip
    refine ps_iload_n (ps_at tX7_letter_ok 5 rfl) rfl rfl ?_
    refine ps_bipush (x := 6) (ps_at tX7_letter_ok 6 rfl) (by decide) ?_
    refine ps_callS (M2 := mX7_within) (av := [.inl v3, .inl 6]) (rest := []) (ps_at tX7_letter_ok 7 rfl) csX7_65 rfl rfl (fun _ => Nat.le_of_ble_eq_true rfl) (pX7_within ?_)
    refine ps_if_ne (tgt := 21) (ps_at tX7_letter_ok 8 rfl) (by decide) (fun c1 => ?_) (fun c1 => ?_)
    · skip
      refine ps_aload_n (ps_at tX7_letter_ok 11 rfl) rfl rfl ?_
      refine ps_iload_n (ps_at tX7_letter_ok 12 rfl) rfl rfl ?_
      refine ps_callV (M2 := mX7_grouped) (av := [.inl v1]) (rest := []) (ps_at tX7_letter_ok 13 rfl) cvX7_79 sh_1 rfl rfl (fun _ => Nat.le_of_ble_eq_true rfl) ?_
      refine ps_C.imp ?_ (h2 c0 c1)
      rintro _ σ1 ⟨q, rfl, hx⟩
      exact ps_forget (L' := [none, none, some (.inl v2), some (.inl v3)]) (And.intro rfl (And.intro rfl trivial)) hx
    · skip
      refine ps_ldc (ps_at tX7_letter_ok 9 rfl) cnX7_69 ?_
      exact ps_iret (ps_at tX7_letter_ok 10 rfl) rfl ⟨rfl, rfl⟩ (h3 c0 c1)
theorem bX7_letter_26 {d : Nat} {Q : Option ps_V → ps_S → Prop} {v2 : Int32} {v3 : Int32} {j0 : Nat} {σ : ps_S} (h1 : vp_in v3 6) (h2 : Q (some (.inl (sGl σ j0 v2 v3.toNatClampNeg))) σ) : kX7_letter_26 d Q v2 v3 j0 σ := by
  refine ps_iload_n (ps_at tX7_letter_ok 14 rfl) rfl rfl ?_
  refine ps_iload_n (ps_at tX7_letter_ok 15 rfl) rfl rfl ?_
  refine ps_callV (M2 := mX0_groupLetter) (av := [.inl v2, .inl v3]) (rest := []) (ps_at tX7_letter_ok 16 rfl) cvX7_94 sh_3 rfl rfl (fun _ => Nat.le_of_ble_eq_true rfl) (pX0_groupLetter (h1) ?_)
  exact ps_iret (ps_at tX7_letter_ok 17 rfl) rfl ⟨rfl, rfl⟩ (h2)
theorem eX7_letter {d : Nat} {Q : Option ps_V → ps_S → Prop} {v1 : Int32} {v2 : Int32} {v3 : Int32} {σ : ps_S} (h : kX7_letter_0 d Q v1 v2 v3 σ) : ps_C mX7_letter (d + 1) [.inr (.inr (1, 0)), .inl v1, .inl v2, .inl v3] σ Q := ps_enter (by decide) rfl ⟨rfl, rfl, rfl⟩ rfl (Nat.le_of_ble_eq_true rfl) h
abbrev kX7_slips_0 (d : Nat) (Q : Option ps_V → ps_S → Prop) (v1 : Int32) (v2 : Int32) (σ : ps_S) : Prop := ps_K mX7_slips (d + 2) (ps_QF Q) 0 [some (.inr (.inr (1, 0))), some (.inl v1), some (.inl v2)] [] σ
abbrev kX7_slips_33 (d : Nat) (Q : Option ps_V → ps_S → Prop) (v2 : Int32) (j0 : Nat) (σ : ps_S) : Prop := ps_K mX7_slips (d + 2) (ps_QF Q) 33 [none, none, some (.inl v2)] [.inr (.inr (3, j0)), .inr (.inr (11, 0))] σ
abbrev kX7_slips_37 (d : Nat) (Q : Option ps_V → ps_S → Prop) (s0 : Int32) (σ : ps_S) : Prop := ps_K mX7_slips (d + 2) (ps_QF Q) 37 [none, none, none] [.inl s0] σ
theorem bX7_slips_0 {d : Nat} {Q : Option ps_V → ps_S → Prop} {v1 : Int32} {v2 : Int32} {σ : ps_S} (h1 : ¬ (jbWi v1 6) = 0 → v2 < 1 → Q (some (.inl (-900002))) σ) (h2 : ¬ (jbWi v1 6) = 0 → ¬ v2 < 1 → v2 ≤ 9 → ps_C mX7_grouped (d + 1) [.inr (.inr (1, 0)), .inl v1] σ (ps_rr 3 (fun q σ1 => kX7_slips_33 d Q v2 q σ1))) (h3 : ¬ (jbWi v1 6) = 0 → ¬ v2 < 1 → ¬ v2 ≤ 9 → Q (some (.inl (-900002))) σ) (h4 : (jbWi v1 6) = 0 → Q (some (.inl (-900001))) σ) : kX7_slips_0 d Q v1 v2 σ := by
  refine ps_iload_n (ps_at tX7_slips_ok 0 rfl) rfl rfl ?_
  refine ps_callS (M2 := mX7_isForme) (av := [.inl v1]) (rest := []) (ps_at tX7_slips_ok 1 rfl) csX7_62 rfl rfl (fun _ => Nat.le_of_ble_eq_true rfl) (pX7_isForme ?_)
  refine ps_if_ne (tgt := 10) (ps_at tX7_slips_ok 2 rfl) (by decide) (fun c0 => ?_) (fun c0 => ?_)
  · skip
    refine ps_iload_n (ps_at tX7_slips_ok 5 rfl) rfl rfl ?_
    refine ps_iconst (x := 1) (ps_at tX7_slips_ok 6 rfl) (by decide) ?_
    refine ps_icmp_lt (tgt := 21) (ps_at tX7_slips_ok 7 rfl) (by decide) (fun c1 => ?_) (fun c1 => ?_)
    · skip
      refine ps_ldc (ps_at tX7_slips_ok 11 rfl) cnX7_71 ?_
      exact ps_iret (ps_at tX7_slips_ok 12 rfl) rfl ⟨rfl, rfl⟩ (h1 c0 c1)
    · skip
      refine ps_iload_n (ps_at tX7_slips_ok 8 rfl) rfl rfl ?_
      refine ps_bipush (x := 9) (ps_at tX7_slips_ok 9 rfl) (by decide) ?_
      refine ps_icmp_le (tgt := 24) (ps_at tX7_slips_ok 10 rfl) (by decide) (fun c2 => ?_) (fun c2 => ?_)
      · skip
        refine ps_aload_n (ps_at tX7_slips_ok 13 rfl) rfl rfl ?_
        refine ps_getR (ps_at tX7_slips_ok 14 rfl) flX7_19 sh_1 rfl ?_
        refine ps_aload_n (ps_at tX7_slips_ok 15 rfl) rfl rfl ?_
        refine ps_iload_n (ps_at tX7_slips_ok 16 rfl) rfl rfl ?_
        refine ps_callV (M2 := mX7_grouped) (av := [.inl v1]) (rest := [.inr (.inr (11, 0))]) (ps_at tX7_slips_ok 17 rfl) cvX7_79 sh_1 rfl rfl (fun _ => Nat.le_of_ble_eq_true rfl) ?_
        refine ps_C.imp ?_ (h2 c0 c1 c2)
        rintro _ σ1 ⟨q, rfl, hx⟩
        exact ps_forget (L' := [none, none, some (.inl v2)]) (And.intro rfl trivial) hx
      · skip
        refine ps_ldc (ps_at tX7_slips_ok 11 rfl) cnX7_71 ?_
        exact ps_iret (ps_at tX7_slips_ok 12 rfl) rfl ⟨rfl, rfl⟩ (h3 c0 c1 c2)
  · skip
    refine ps_ldc (ps_at tX7_slips_ok 3 rfl) cnX7_69 ?_
    exact ps_iret (ps_at tX7_slips_ok 4 rfl) rfl ⟨rfl, rfl⟩ (h4 c0)
theorem bX7_slips_33 {d : Nat} {Q : Option ps_V → ps_S → Prop} {v2 : Int32} {j0 : Nat} {σ : ps_S} (h1 : ps_C mX5_fewestSlips (d + 1) [.inr (.inr (11, 0)), .inr (.inr (3, j0)), .inl v2] σ (ps_ri (fun x σ1 => kX7_slips_37 d Q x σ1))) : kX7_slips_33 d Q v2 j0 σ := by
  refine ps_iload_n (ps_at tX7_slips_ok 18 rfl) rfl rfl ?_
  refine ps_callV (M2 := mX5_fewestSlips) (av := [.inr (.inr (3, j0)), .inl v2]) (rest := []) (ps_at tX7_slips_ok 19 rfl) cvX7_98 sh_11 rfl rfl (fun _ => Nat.le_of_ble_eq_true rfl) ?_
  refine ps_C.imp ?_ (h1)
  rintro _ σ1 ⟨x, rfl, hx⟩
  exact ps_forget (L' := [none, none, none]) trivial hx
theorem bX7_slips_37 {d : Nat} {Q : Option ps_V → ps_S → Prop} {s0 : Int32} {σ : ps_S} (h1 : Q (some (.inl s0)) σ) : kX7_slips_37 d Q s0 σ := by
  exact ps_iret (ps_at tX7_slips_ok 20 rfl) rfl ⟨rfl, rfl⟩ (h1)
theorem eX7_slips {d : Nat} {Q : Option ps_V → ps_S → Prop} {v1 : Int32} {v2 : Int32} {σ : ps_S} (h : kX7_slips_0 d Q v1 v2 σ) : ps_C mX7_slips (d + 2) [.inr (.inr (1, 0)), .inl v1, .inl v2] σ Q := ps_enter (by decide) rfl ⟨rfl, rfl, rfl⟩ rfl (Nat.le_of_ble_eq_true rfl) h
abbrev kX7_ahead_0 (d : Nat) (Q : Option ps_V → ps_S → Prop) (v1 : Int32) (v2 : Int32) (v3 : Int32) (v4 : Int32) (σ : ps_S) : Prop := ps_K mX7_ahead (d + 2) (ps_QF Q) 0 [some (.inr (.inr (1, 0))), some (.inl v1), some (.inl v2), some (.inl v3), some (.inl v4)] [] σ
abbrev kX7_ahead_45 (d : Nat) (Q : Option ps_V → ps_S → Prop) (s0 : Int32) (σ : ps_S) : Prop := ps_K mX7_ahead (d + 2) (ps_QF Q) 45 [none, none, none, none, none] [.inl s0] σ
theorem bX7_ahead_0 {d : Nat} {Q : Option ps_V → ps_S → Prop} {v1 : Int32} {v2 : Int32} {v3 : Int32} {v4 : Int32} {σ : ps_S} (h1 : (jbWi v1 6) = 0 → Q (some (.inl (-900001))) σ) (h2 : ¬ (jbWi v1 6) = 0 → (jbWi v2 9) = 0 → Q (some (.inl (-900001))) σ) (h3 : ¬ (jbWi v1 6) = 0 → ¬ (jbWi v2 9) = 0 → ¬ (jbWi v3 9) = 0 → ¬ v2 = v3 → vp_in v1 6) (h4 : ¬ (jbWi v1 6) = 0 → ¬ (jbWi v2 9) = 0 → ¬ (jbWi v3 9) = 0 → ¬ v2 = v3 → ps_C mX0_tellAhead (d + 1) [.inr (.inr (3, v1.toNatClampNeg)), .inl v2, .inl v3, .inl v4] σ (ps_ri (fun x σ1 => kX7_ahead_45 d Q x σ1))) (h5 : ¬ (jbWi v1 6) = 0 → ¬ (jbWi v2 9) = 0 → ¬ (jbWi v3 9) = 0 → v2 = v3 → Q (some (.inl (-900003))) σ) (h6 : ¬ (jbWi v1 6) = 0 → ¬ (jbWi v2 9) = 0 → (jbWi v3 9) = 0 → Q (some (.inl (-900001))) σ) : kX7_ahead_0 d Q v1 v2 v3 v4 σ := by
  refine ps_iload_n (ps_at tX7_ahead_ok 0 rfl) rfl rfl ?_
  refine ps_callS (M2 := mX7_isForme) (av := [.inl v1]) (rest := []) (ps_at tX7_ahead_ok 1 rfl) csX7_62 rfl rfl (fun _ => Nat.le_of_ble_eq_true rfl) (pX7_isForme ?_)
  refine ps_if_eq (tgt := 21) (ps_at tX7_ahead_ok 2 rfl) (by decide) (fun c0 => ?_) (fun c0 => ?_)
  · skip
    refine ps_ldc (ps_at tX7_ahead_ok 9 rfl) cnX7_69 ?_
    exact ps_iret (ps_at tX7_ahead_ok 10 rfl) rfl ⟨rfl, rfl⟩ (h1 c0)
  · skip
    refine ps_iload_n (ps_at tX7_ahead_ok 3 rfl) rfl rfl ?_
    refine ps_callS (M2 := mX7_isCopy) (av := [.inl v2]) (rest := []) (ps_at tX7_ahead_ok 4 rfl) csX7_58 rfl rfl (fun _ => Nat.le_of_ble_eq_true rfl) (pX7_isCopy ?_)
    refine ps_if_eq (tgt := 21) (ps_at tX7_ahead_ok 5 rfl) (by decide) (fun c1 => ?_) (fun c1 => ?_)
    · skip
      refine ps_ldc (ps_at tX7_ahead_ok 9 rfl) cnX7_69 ?_
      exact ps_iret (ps_at tX7_ahead_ok 10 rfl) rfl ⟨rfl, rfl⟩ (h2 c0 c1)
    · skip
      refine ps_iload_n (ps_at tX7_ahead_ok 6 rfl) rfl rfl ?_
      refine ps_callS (M2 := mX7_isCopy) (av := [.inl v3]) (rest := []) (ps_at tX7_ahead_ok 7 rfl) csX7_58 rfl rfl (fun _ => Nat.le_of_ble_eq_true rfl) (pX7_isCopy ?_)
      refine ps_if_ne (tgt := 24) (ps_at tX7_ahead_ok 8 rfl) (by decide) (fun c2 => ?_) (fun c2 => ?_)
      · skip
        refine ps_iload_n (ps_at tX7_ahead_ok 11 rfl) rfl rfl ?_
        refine ps_iload_n (ps_at tX7_ahead_ok 12 rfl) rfl rfl ?_
        refine ps_icmp_ne (tgt := 32) (ps_at tX7_ahead_ok 13 rfl) (by decide) (fun c3 => ?_) (fun c3 => ?_)
        · skip
          refine ps_aload_n (ps_at tX7_ahead_ok 16 rfl) rfl rfl ?_
          refine ps_getR (ps_at tX7_ahead_ok 17 rfl) flX7_11 sh_1 rfl ?_
          refine ps_iload_n (ps_at tX7_ahead_ok 18 rfl) rfl rfl ?_
          refine ps_aald0 (ps_at tX7_ahead_ok 19 rfl) sh_2 (Or.inr rfl) (h3 c0 c1 c2 c3) ?_
          refine ps_iload_n (ps_at tX7_ahead_ok 20 rfl) rfl rfl ?_
          refine ps_iload_n (ps_at tX7_ahead_ok 21 rfl) rfl rfl ?_
          refine ps_iload (ps_at tX7_ahead_ok 22 rfl) rfl ?_
          refine ps_callV (M2 := mX0_tellAhead) (av := [.inl v2, .inl v3, .inl v4]) (rest := []) (ps_at tX7_ahead_ok 23 rfl) cvX7_103 sh_3 rfl rfl (fun _ => Nat.le_of_ble_eq_true rfl) ?_
          refine ps_C.imp ?_ (h4 c0 c1 c2 c3)
          rintro _ σ1 ⟨x, rfl, hx⟩
          exact ps_forget (L' := [none, none, none, none, none]) trivial hx
        · skip
          refine ps_ldc (ps_at tX7_ahead_ok 14 rfl) cnX7_102 ?_
          exact ps_iret (ps_at tX7_ahead_ok 15 rfl) rfl ⟨rfl, rfl⟩ (h5 c0 c1 c2 c3)
      · skip
        refine ps_ldc (ps_at tX7_ahead_ok 9 rfl) cnX7_69 ?_
        exact ps_iret (ps_at tX7_ahead_ok 10 rfl) rfl ⟨rfl, rfl⟩ (h6 c0 c1 c2)
theorem bX7_ahead_45 {d : Nat} {Q : Option ps_V → ps_S → Prop} {s0 : Int32} {σ : ps_S} (h1 : Q (some (.inl s0)) σ) : kX7_ahead_45 d Q s0 σ := by
  exact ps_iret (ps_at tX7_ahead_ok 24 rfl) rfl ⟨rfl, rfl⟩ (h1)
theorem eX7_ahead {d : Nat} {Q : Option ps_V → ps_S → Prop} {v1 : Int32} {v2 : Int32} {v3 : Int32} {v4 : Int32} {σ : ps_S} (h : kX7_ahead_0 d Q v1 v2 v3 v4 σ) : ps_C mX7_ahead (d + 2) [.inr (.inr (1, 0)), .inl v1, .inl v2, .inl v3, .inl v4] σ Q := ps_enter (by decide) rfl ⟨rfl, rfl, rfl⟩ rfl (Nat.le_of_ble_eq_true rfl) h
abbrev kX7_changes_0 (d : Nat) (Q : Option ps_V → ps_S → Prop) (v1 : Int32) (v2 : Int32) (v3 : Int32) (σ : ps_S) : Prop := ps_K mX7_changes (d + 2) (ps_QF Q) 0 [some (.inr (.inr (1, 0))), some (.inl v1), some (.inl v2), some (.inl v3)] [] σ
abbrev kX7_changes_6 (d : Nat) (Q : Option ps_V → ps_S → Prop) (v1 : Int32) (v2 : Int32) (v3 : Int32) (s0 : Int32) (σ : ps_S) : Prop := ps_K mX7_changes (d + 2) (ps_QF Q) 6 [some (.inr (.inr (1, 0))), some (.inl v1), some (.inl v2), some (.inl v3)] [.inl s0] σ
abbrev kX7_changes_15 (d : Nat) (Q : Option ps_V → ps_S → Prop) (v1 : Int32) (v2 : Int32) (v3 : Int32) (s0 : Int32) (σ : ps_S) : Prop := ps_K mX7_changes (d + 2) (ps_QF Q) 15 [some (.inr (.inr (1, 0))), some (.inl v1), some (.inl v2), some (.inl v3)] [.inl s0] σ
abbrev kX7_changes_26 (d : Nat) (Q : Option ps_V → ps_S → Prop) (v2 : Int32) (v3 : Int32) (j0 : Nat) (σ : ps_S) : Prop := ps_K mX7_changes (d + 2) (ps_QF Q) 26 [none, none, some (.inl v2), some (.inl v3)] [.inr (.inr (3, j0))] σ
theorem bX7_changes_0 {d : Nat} {Q : Option ps_V → ps_S → Prop} {v1 : Int32} {v2 : Int32} {v3 : Int32} {σ : ps_S} (h1 : ps_C mX7_isState (d + 1) [.inr (.inr (1, 0)), .inl v1, .inl v2] σ (ps_ri (fun x σ1 => kX7_changes_6 d Q v1 v2 v3 x σ1))) : kX7_changes_0 d Q v1 v2 v3 σ := by
  refine ps_aload_n (ps_at tX7_changes_ok 0 rfl) rfl rfl ?_
  refine ps_iload_n (ps_at tX7_changes_ok 1 rfl) rfl rfl ?_
  refine ps_iload_n (ps_at tX7_changes_ok 2 rfl) rfl rfl ?_
  refine ps_callV (M2 := mX7_isState) (av := [.inl v1, .inl v2]) (rest := []) (ps_at tX7_changes_ok 3 rfl) cvX7_91 sh_1 rfl rfl (fun _ => Nat.le_of_ble_eq_true rfl) ?_
  refine ps_C.imp ?_ (h1)
  rintro _ σ1 ⟨x, rfl, hx⟩
  exact hx
theorem bX7_changes_6 {d : Nat} {Q : Option ps_V → ps_S → Prop} {v1 : Int32} {v2 : Int32} {v3 : Int32} {s0 : Int32} {σ : ps_S} (h1 : s0 = 0 → Q (some (.inl (-900001))) σ) (h2 : ¬ s0 = 0 → ps_C mX7_isState (d + 1) [.inr (.inr (1, 0)), .inl v1, .inl v3] σ (ps_ri (fun x σ1 => kX7_changes_15 d Q v1 v2 v3 x σ1))) : kX7_changes_6 d Q v1 v2 v3 s0 σ := by
  refine ps_if_eq (tgt := 18) (ps_at tX7_changes_ok 4 rfl) (by decide) (fun c0 => ?_) (fun c0 => ?_)
  · skip
    refine ps_ldc (ps_at tX7_changes_ok 10 rfl) cnX7_69 ?_
    exact ps_iret (ps_at tX7_changes_ok 11 rfl) rfl ⟨rfl, rfl⟩ (h1 c0)
  · skip
    refine ps_aload_n (ps_at tX7_changes_ok 5 rfl) rfl rfl ?_
    refine ps_iload_n (ps_at tX7_changes_ok 6 rfl) rfl rfl ?_
    refine ps_iload_n (ps_at tX7_changes_ok 7 rfl) rfl rfl ?_
    refine ps_callV (M2 := mX7_isState) (av := [.inl v1, .inl v3]) (rest := []) (ps_at tX7_changes_ok 8 rfl) cvX7_91 sh_1 rfl rfl (fun _ => Nat.le_of_ble_eq_true rfl) ?_
    refine ps_C.imp ?_ (h2 c0)
    rintro _ σ1 ⟨x, rfl, hx⟩
    exact hx
theorem bX7_changes_15 {d : Nat} {Q : Option ps_V → ps_S → Prop} {v1 : Int32} {v2 : Int32} {v3 : Int32} {s0 : Int32} {σ : ps_S} (h1 : ¬ s0 = 0 → ps_C mX7_grouped (d + 1) [.inr (.inr (1, 0)), .inl v1] σ (ps_rr 3 (fun q σ1 => kX7_changes_26 d Q v2 v3 q σ1))) (h2 : s0 = 0 → Q (some (.inl (-900001))) σ) : kX7_changes_15 d Q v1 v2 v3 s0 σ := by
  refine ps_if_ne (tgt := 21) (ps_at tX7_changes_ok 9 rfl) (by decide) (fun c0 => ?_) (fun c0 => ?_)
  · skip
    refine ps_aload_n (ps_at tX7_changes_ok 12 rfl) rfl rfl ?_
    refine ps_iload_n (ps_at tX7_changes_ok 13 rfl) rfl rfl ?_
    refine ps_callV (M2 := mX7_grouped) (av := [.inl v1]) (rest := []) (ps_at tX7_changes_ok 14 rfl) cvX7_79 sh_1 rfl rfl (fun _ => Nat.le_of_ble_eq_true rfl) ?_
    refine ps_C.imp ?_ (h1 c0)
    rintro _ σ1 ⟨q, rfl, hx⟩
    exact ps_forget (L' := [none, none, some (.inl v2), some (.inl v3)]) (And.intro rfl (And.intro rfl trivial)) hx
  · skip
    refine ps_ldc (ps_at tX7_changes_ok 10 rfl) cnX7_69 ?_
    exact ps_iret (ps_at tX7_changes_ok 11 rfl) rfl ⟨rfl, rfl⟩ (h2 c0)
theorem bX7_changes_26 {d : Nat} {Q : Option ps_V → ps_S → Prop} {v2 : Int32} {v3 : Int32} {j0 : Nat} {σ : ps_S} (h1 : Q (some (.inl (nI (cntN 6 (fun p => ¬ jbUn (sGl σ j0 v2 p) (sGl σ j0 v3 p) = 0))))) σ) : kX7_changes_26 d Q v2 v3 j0 σ := by
  refine ps_iload_n (ps_at tX7_changes_ok 15 rfl) rfl rfl ?_
  refine ps_iload_n (ps_at tX7_changes_ok 16 rfl) rfl rfl ?_
  refine ps_callV (M2 := mX0_unlikePlaces) (av := [.inl v2, .inl v3]) (rest := []) (ps_at tX7_changes_ok 17 rfl) cvX7_107 sh_3 rfl rfl (fun _ => Nat.le_of_ble_eq_true rfl) (pX0_unlikePlaces ?_)
  exact ps_iret (ps_at tX7_changes_ok 18 rfl) rfl ⟨rfl, rfl⟩ (h1)
theorem eX7_changes {d : Nat} {Q : Option ps_V → ps_S → Prop} {v1 : Int32} {v2 : Int32} {v3 : Int32} {σ : ps_S} (h : kX7_changes_0 d Q v1 v2 v3 σ) : ps_C mX7_changes (d + 2) [.inr (.inr (1, 0)), .inl v1, .inl v2, .inl v3] σ Q := ps_enter (by decide) rfl ⟨rfl, rfl, rfl⟩ rfl (Nat.le_of_ble_eq_true rfl) h
abbrev kX7_least_0 (d : Nat) (Q : Option ps_V → ps_S → Prop) (v1 : Int32) (σ : ps_S) : Prop := ps_K mX7_least (d + 2) (ps_QF Q) 0 [some (.inr (.inr (1, 0))), some (.inl v1)] [] σ
abbrev kX7_least_19 (d : Nat) (Q : Option ps_V → ps_S → Prop) (j0 : Nat) (σ : ps_S) : Prop := ps_K mX7_least (d + 2) (ps_QF Q) 19 [none, none] [.inr (.inr (3, j0)), .inr (.inr (15, 0))] σ
abbrev kX7_least_22 (d : Nat) (Q : Option ps_V → ps_S → Prop) (s0 : Int32) (σ : ps_S) : Prop := ps_K mX7_least (d + 2) (ps_QF Q) 22 [none, none] [.inl s0] σ
theorem bX7_least_0 {d : Nat} {Q : Option ps_V → ps_S → Prop} {v1 : Int32} {σ : ps_S} (h1 : ¬ (jbWi v1 6) = 0 → ps_C mX7_grouped (d + 1) [.inr (.inr (1, 0)), .inl v1] σ (ps_rr 3 (fun q σ1 => kX7_least_19 d Q q σ1))) (h2 : (jbWi v1 6) = 0 → Q (some (.inl (-900001))) σ) : kX7_least_0 d Q v1 σ := by
  refine ps_iload_n (ps_at tX7_least_ok 0 rfl) rfl rfl ?_
  refine ps_callS (M2 := mX7_isForme) (av := [.inl v1]) (rest := []) (ps_at tX7_least_ok 1 rfl) csX7_62 rfl rfl (fun _ => Nat.le_of_ble_eq_true rfl) (pX7_isForme ?_)
  refine ps_if_ne (tgt := 10) (ps_at tX7_least_ok 2 rfl) (by decide) (fun c0 => ?_) (fun c0 => ?_)
  · skip
    refine ps_aload_n (ps_at tX7_least_ok 5 rfl) rfl rfl ?_
    refine ps_getR (ps_at tX7_least_ok 6 rfl) flX7_26 sh_1 rfl ?_
    refine ps_aload_n (ps_at tX7_least_ok 7 rfl) rfl rfl ?_
    refine ps_iload_n (ps_at tX7_least_ok 8 rfl) rfl rfl ?_
    refine ps_callV (M2 := mX7_grouped) (av := [.inl v1]) (rest := [.inr (.inr (15, 0))]) (ps_at tX7_least_ok 9 rfl) cvX7_79 sh_1 rfl rfl (fun _ => Nat.le_of_ble_eq_true rfl) ?_
    refine ps_C.imp ?_ (h1 c0)
    rintro _ σ1 ⟨q, rfl, hx⟩
    exact ps_forget (L' := [none, none]) trivial hx
  · skip
    refine ps_ldc (ps_at tX7_least_ok 3 rfl) cnX7_69 ?_
    exact ps_iret (ps_at tX7_least_ok 4 rfl) rfl ⟨rfl, rfl⟩ (h2 c0)
theorem bX7_least_19 {d : Nat} {Q : Option ps_V → ps_S → Prop} {j0 : Nat} {σ : ps_S} (h1 : ps_C mX3_leastCost (d + 1) [.inr (.inr (15, 0)), .inr (.inr (3, j0))] σ (ps_ri (fun x σ1 => kX7_least_22 d Q x σ1))) : kX7_least_19 d Q j0 σ := by
  refine ps_callV (M2 := mX3_leastCost) (av := [.inr (.inr (3, j0))]) (rest := []) (ps_at tX7_least_ok 10 rfl) cvX7_110 sh_15 rfl rfl (fun _ => Nat.le_of_ble_eq_true rfl) ?_
  refine ps_C.imp ?_ (h1)
  rintro _ σ1 ⟨x, rfl, hx⟩
  exact hx
theorem bX7_least_22 {d : Nat} {Q : Option ps_V → ps_S → Prop} {s0 : Int32} {σ : ps_S} (h1 : Q (some (.inl s0)) σ) : kX7_least_22 d Q s0 σ := by
  exact ps_iret (ps_at tX7_least_ok 11 rfl) rfl ⟨rfl, rfl⟩ (h1)
theorem eX7_least {d : Nat} {Q : Option ps_V → ps_S → Prop} {v1 : Int32} {σ : ps_S} (h : kX7_least_0 d Q v1 σ) : ps_C mX7_least (d + 2) [.inr (.inr (1, 0)), .inl v1] σ Q := ps_enter (by decide) rfl ⟨rfl, rfl, rfl⟩ rfl (Nat.le_of_ble_eq_true rfl) h
abbrev kX7_orders_0 (d : Nat) (Q : Option ps_V → ps_S → Prop) (v1 : Int32) (σ : ps_S) : Prop := ps_K mX7_orders (d + 2) (ps_QF Q) 0 [some (.inr (.inr (1, 0))), some (.inl v1)] [] σ
abbrev kX7_orders_19 (d : Nat) (Q : Option ps_V → ps_S → Prop) (j0 : Nat) (σ : ps_S) : Prop := ps_K mX7_orders (d + 2) (ps_QF Q) 19 [none, none] [.inr (.inr (3, j0)), .inr (.inr (15, 0))] σ
abbrev kX7_orders_22 (d : Nat) (Q : Option ps_V → ps_S → Prop) (s0 : Int32) (σ : ps_S) : Prop := ps_K mX7_orders (d + 2) (ps_QF Q) 22 [none, none] [.inl s0] σ
theorem bX7_orders_0 {d : Nat} {Q : Option ps_V → ps_S → Prop} {v1 : Int32} {σ : ps_S} (h1 : ¬ (jbWi v1 6) = 0 → ps_C mX7_grouped (d + 1) [.inr (.inr (1, 0)), .inl v1] σ (ps_rr 3 (fun q σ1 => kX7_orders_19 d Q q σ1))) (h2 : (jbWi v1 6) = 0 → Q (some (.inl (-900001))) σ) : kX7_orders_0 d Q v1 σ := by
  refine ps_iload_n (ps_at tX7_orders_ok 0 rfl) rfl rfl ?_
  refine ps_callS (M2 := mX7_isForme) (av := [.inl v1]) (rest := []) (ps_at tX7_orders_ok 1 rfl) csX7_62 rfl rfl (fun _ => Nat.le_of_ble_eq_true rfl) (pX7_isForme ?_)
  refine ps_if_ne (tgt := 10) (ps_at tX7_orders_ok 2 rfl) (by decide) (fun c0 => ?_) (fun c0 => ?_)
  · skip
    refine ps_aload_n (ps_at tX7_orders_ok 5 rfl) rfl rfl ?_
    refine ps_getR (ps_at tX7_orders_ok 6 rfl) flX7_26 sh_1 rfl ?_
    refine ps_aload_n (ps_at tX7_orders_ok 7 rfl) rfl rfl ?_
    refine ps_iload_n (ps_at tX7_orders_ok 8 rfl) rfl rfl ?_
    refine ps_callV (M2 := mX7_grouped) (av := [.inl v1]) (rest := [.inr (.inr (15, 0))]) (ps_at tX7_orders_ok 9 rfl) cvX7_79 sh_1 rfl rfl (fun _ => Nat.le_of_ble_eq_true rfl) ?_
    refine ps_C.imp ?_ (h1 c0)
    rintro _ σ1 ⟨q, rfl, hx⟩
    exact ps_forget (L' := [none, none]) trivial hx
  · skip
    refine ps_ldc (ps_at tX7_orders_ok 3 rfl) cnX7_69 ?_
    exact ps_iret (ps_at tX7_orders_ok 4 rfl) rfl ⟨rfl, rfl⟩ (h2 c0)
theorem bX7_orders_19 {d : Nat} {Q : Option ps_V → ps_S → Prop} {j0 : Nat} {σ : ps_S} (h1 : ps_C mX3_leastWays (d + 1) [.inr (.inr (15, 0)), .inr (.inr (3, j0))] σ (ps_ri (fun x σ1 => kX7_orders_22 d Q x σ1))) : kX7_orders_19 d Q j0 σ := by
  refine ps_callV (M2 := mX3_leastWays) (av := [.inr (.inr (3, j0))]) (rest := []) (ps_at tX7_orders_ok 10 rfl) cvX7_114 sh_15 rfl rfl (fun _ => Nat.le_of_ble_eq_true rfl) ?_
  refine ps_C.imp ?_ (h1)
  rintro _ σ1 ⟨x, rfl, hx⟩
  exact hx
theorem bX7_orders_22 {d : Nat} {Q : Option ps_V → ps_S → Prop} {s0 : Int32} {σ : ps_S} (h1 : Q (some (.inl s0)) σ) : kX7_orders_22 d Q s0 σ := by
  exact ps_iret (ps_at tX7_orders_ok 11 rfl) rfl ⟨rfl, rfl⟩ (h1)
theorem eX7_orders {d : Nat} {Q : Option ps_V → ps_S → Prop} {v1 : Int32} {σ : ps_S} (h : kX7_orders_0 d Q v1 σ) : ps_C mX7_orders (d + 2) [.inr (.inr (1, 0)), .inl v1] σ Q := ps_enter (by decide) rfl ⟨rfl, rfl, rfl⟩ rfl (Nat.le_of_ble_eq_true rfl) h
abbrev kX7_first_0 (d : Nat) (Q : Option ps_V → ps_S → Prop) (v1 : Int32) (v2 : Int32) (σ : ps_S) : Prop := ps_K mX7_first (d + 2) (ps_QF Q) 0 [some (.inr (.inr (1, 0))), some (.inl v1), some (.inl v2)] [] σ
abbrev kX7_first_31 (d : Nat) (Q : Option ps_V → ps_S → Prop) (v2 : Int32) (j0 : Nat) (σ : ps_S) : Prop := ps_K mX7_first (d + 2) (ps_QF Q) 31 [none, none, some (.inl v2)] [.inr (.inr (3, j0)), .inr (.inr (15, 0))] σ
abbrev kX7_first_35 (d : Nat) (Q : Option ps_V → ps_S → Prop) (s0 : Int32) (σ : ps_S) : Prop := ps_K mX7_first (d + 2) (ps_QF Q) 35 [none, none, none] [.inl s0] σ
theorem bX7_first_0 {d : Nat} {Q : Option ps_V → ps_S → Prop} {v1 : Int32} {v2 : Int32} {σ : ps_S} (h1 : ¬ (jbWi v1 6) = 0 → ¬ (jbWi v2 9) = 0 → ps_C mX7_grouped (d + 1) [.inr (.inr (1, 0)), .inl v1] σ (ps_rr 3 (fun q σ1 => kX7_first_31 d Q v2 q σ1))) (h2 : ¬ (jbWi v1 6) = 0 → (jbWi v2 9) = 0 → Q (some (.inl (-900009))) σ) (h3 : (jbWi v1 6) = 0 → Q (some (.inl (-900001))) σ) : kX7_first_0 d Q v1 v2 σ := by
  refine ps_iload_n (ps_at tX7_first_ok 0 rfl) rfl rfl ?_
  refine ps_callS (M2 := mX7_isForme) (av := [.inl v1]) (rest := []) (ps_at tX7_first_ok 1 rfl) csX7_62 rfl rfl (fun _ => Nat.le_of_ble_eq_true rfl) (pX7_isForme ?_)
  refine ps_if_ne (tgt := 10) (ps_at tX7_first_ok 2 rfl) (by decide) (fun c0 => ?_) (fun c0 => ?_)
  · skip
    refine ps_iload_n (ps_at tX7_first_ok 5 rfl) rfl rfl ?_
    refine ps_bipush (x := 9) (ps_at tX7_first_ok 6 rfl) (by decide) ?_
    refine ps_callS (M2 := mX7_within) (av := [.inl v2, .inl 9]) (rest := []) (ps_at tX7_first_ok 7 rfl) csX7_65 rfl rfl (fun _ => Nat.le_of_ble_eq_true rfl) (pX7_within ?_)
    refine ps_if_ne (tgt := 22) (ps_at tX7_first_ok 8 rfl) (by decide) (fun c1 => ?_) (fun c1 => ?_)
    · skip
      refine ps_aload_n (ps_at tX7_first_ok 11 rfl) rfl rfl ?_
      refine ps_getR (ps_at tX7_first_ok 12 rfl) flX7_26 sh_1 rfl ?_
      refine ps_aload_n (ps_at tX7_first_ok 13 rfl) rfl rfl ?_
      refine ps_iload_n (ps_at tX7_first_ok 14 rfl) rfl rfl ?_
      refine ps_callV (M2 := mX7_grouped) (av := [.inl v1]) (rest := [.inr (.inr (15, 0))]) (ps_at tX7_first_ok 15 rfl) cvX7_79 sh_1 rfl rfl (fun _ => Nat.le_of_ble_eq_true rfl) ?_
      refine ps_C.imp ?_ (h1 c0 c1)
      rintro _ σ1 ⟨q, rfl, hx⟩
      exact ps_forget (L' := [none, none, some (.inl v2)]) (And.intro rfl trivial) hx
    · skip
      refine ps_ldc (ps_at tX7_first_ok 9 rfl) cnX7_70 ?_
      exact ps_iret (ps_at tX7_first_ok 10 rfl) rfl ⟨rfl, rfl⟩ (h2 c0 c1)
  · skip
    refine ps_ldc (ps_at tX7_first_ok 3 rfl) cnX7_69 ?_
    exact ps_iret (ps_at tX7_first_ok 4 rfl) rfl ⟨rfl, rfl⟩ (h3 c0)
theorem bX7_first_31 {d : Nat} {Q : Option ps_V → ps_S → Prop} {v2 : Int32} {j0 : Nat} {σ : ps_S} (h1 : ps_C mX3_stateAt (d + 1) [.inr (.inr (15, 0)), .inr (.inr (3, j0)), .inl v2] σ (ps_ri (fun x σ1 => kX7_first_35 d Q x σ1))) : kX7_first_31 d Q v2 j0 σ := by
  refine ps_iload_n (ps_at tX7_first_ok 16 rfl) rfl rfl ?_
  refine ps_callV (M2 := mX3_stateAt) (av := [.inr (.inr (3, j0)), .inl v2]) (rest := []) (ps_at tX7_first_ok 17 rfl) cvX7_117 sh_15 rfl rfl (fun _ => Nat.le_of_ble_eq_true rfl) ?_
  refine ps_C.imp ?_ (h1)
  rintro _ σ1 ⟨x, rfl, hx⟩
  exact ps_forget (L' := [none, none, none]) trivial hx
theorem bX7_first_35 {d : Nat} {Q : Option ps_V → ps_S → Prop} {s0 : Int32} {σ : ps_S} (h1 : Q (some (.inl s0)) σ) : kX7_first_35 d Q s0 σ := by
  exact ps_iret (ps_at tX7_first_ok 18 rfl) rfl ⟨rfl, rfl⟩ (h1)
theorem eX7_first {d : Nat} {Q : Option ps_V → ps_S → Prop} {v1 : Int32} {v2 : Int32} {σ : ps_S} (h : kX7_first_0 d Q v1 v2 σ) : ps_C mX7_first (d + 2) [.inr (.inr (1, 0)), .inl v1, .inl v2] σ Q := ps_enter (by decide) rfl ⟨rfl, rfl, rfl⟩ rfl (Nat.le_of_ble_eq_true rfl) h
abbrev kX7_before_0 (d : Nat) (Q : Option ps_V → ps_S → Prop) (v1 : Int32) (v2 : Int32) (v3 : Int32) (σ : ps_S) : Prop := ps_K mX7_before (d + 1) (ps_QF Q) 0 [some (.inr (.inr (1, 0))), some (.inl v1), some (.inl v2), some (.inl v3)] [] σ
abbrev kX7_before_6 (d : Nat) (Q : Option ps_V → ps_S → Prop) (v1 : Int32) (v2 : Int32) (v3 : Int32) (s0 : Int32) (σ : ps_S) : Prop := ps_K mX7_before (d + 1) (ps_QF Q) 6 [some (.inr (.inr (1, 0))), some (.inl v1), some (.inl v2), some (.inl v3)] [.inl s0] σ
abbrev kX7_before_15 (d : Nat) (Q : Option ps_V → ps_S → Prop) (v1 : Int32) (v2 : Int32) (v3 : Int32) (s0 : Int32) (σ : ps_S) : Prop := ps_K mX7_before (d + 1) (ps_QF Q) 15 [some (.inr (.inr (1, 0))), some (.inl v1), some (.inl v2), some (.inl v3)] [.inl s0] σ
abbrev kX7_before_38 (d : Nat) (Q : Option ps_V → ps_S → Prop) (v2 : Int32) (v3 : Int32) (j0 : Nat) (σ : ps_S) : Prop := ps_K mX7_before (d + 1) (ps_QF Q) 38 [none, none, some (.inl v2), some (.inl v3)] [.inr (.inr (3, j0)), .inr (.inr (15, 0))] σ
abbrev kX7_before_43 (d : Nat) (Q : Option ps_V → ps_S → Prop) (s0 : Int32) (σ : ps_S) : Prop := ps_K mX7_before (d + 1) (ps_QF Q) 43 [none, none, none, none] [.inl s0] σ
theorem bX7_before_0 {d : Nat} {Q : Option ps_V → ps_S → Prop} {v1 : Int32} {v2 : Int32} {v3 : Int32} {σ : ps_S} (h1 : ps_C mX7_isState d [.inr (.inr (1, 0)), .inl v1, .inl v2] σ (ps_ri (fun x σ1 => kX7_before_6 d Q v1 v2 v3 x σ1))) : kX7_before_0 d Q v1 v2 v3 σ := by
  refine ps_aload_n (ps_at tX7_before_ok 0 rfl) rfl rfl ?_
  refine ps_iload_n (ps_at tX7_before_ok 1 rfl) rfl rfl ?_
  refine ps_iload_n (ps_at tX7_before_ok 2 rfl) rfl rfl ?_
  refine ps_callV (M2 := mX7_isState) (av := [.inl v1, .inl v2]) (rest := []) (ps_at tX7_before_ok 3 rfl) cvX7_91 sh_1 rfl rfl (fun _ => Nat.le_of_ble_eq_true rfl) ?_
  refine ps_C.imp ?_ (h1)
  rintro _ σ1 ⟨x, rfl, hx⟩
  exact hx
theorem bX7_before_6 {d : Nat} {Q : Option ps_V → ps_S → Prop} {v1 : Int32} {v2 : Int32} {v3 : Int32} {s0 : Int32} {σ : ps_S} (h1 : s0 = 0 → Q (some (.inl (-900001))) σ) (h2 : ¬ s0 = 0 → ps_C mX7_isState d [.inr (.inr (1, 0)), .inl v1, .inl v3] σ (ps_ri (fun x σ1 => kX7_before_15 d Q v1 v2 v3 x σ1))) : kX7_before_6 d Q v1 v2 v3 s0 σ := by
  refine ps_if_eq (tgt := 18) (ps_at tX7_before_ok 4 rfl) (by decide) (fun c0 => ?_) (fun c0 => ?_)
  · skip
    refine ps_ldc (ps_at tX7_before_ok 10 rfl) cnX7_69 ?_
    exact ps_iret (ps_at tX7_before_ok 11 rfl) rfl ⟨rfl, rfl⟩ (h1 c0)
  · skip
    refine ps_aload_n (ps_at tX7_before_ok 5 rfl) rfl rfl ?_
    refine ps_iload_n (ps_at tX7_before_ok 6 rfl) rfl rfl ?_
    refine ps_iload_n (ps_at tX7_before_ok 7 rfl) rfl rfl ?_
    refine ps_callV (M2 := mX7_isState) (av := [.inl v1, .inl v3]) (rest := []) (ps_at tX7_before_ok 8 rfl) cvX7_91 sh_1 rfl rfl (fun _ => Nat.le_of_ble_eq_true rfl) ?_
    refine ps_C.imp ?_ (h2 c0)
    rintro _ σ1 ⟨x, rfl, hx⟩
    exact hx
theorem bX7_before_15 {d : Nat} {Q : Option ps_V → ps_S → Prop} {v1 : Int32} {v2 : Int32} {v3 : Int32} {s0 : Int32} {σ : ps_S} (h1 : ¬ s0 = 0 → ¬ v2 = v3 → ps_C mX7_grouped d [.inr (.inr (1, 0)), .inl v1] σ (ps_rr 3 (fun q σ1 => kX7_before_38 d Q v2 v3 q σ1))) (h2 : ¬ s0 = 0 → v2 = v3 → Q (some (.inl (-900003))) σ) (h3 : s0 = 0 → Q (some (.inl (-900001))) σ) : kX7_before_15 d Q v1 v2 v3 s0 σ := by
  refine ps_if_ne (tgt := 21) (ps_at tX7_before_ok 9 rfl) (by decide) (fun c0 => ?_) (fun c0 => ?_)
  · skip
    refine ps_iload_n (ps_at tX7_before_ok 12 rfl) rfl rfl ?_
    refine ps_iload_n (ps_at tX7_before_ok 13 rfl) rfl rfl ?_
    refine ps_icmp_ne (tgt := 29) (ps_at tX7_before_ok 14 rfl) (by decide) (fun c1 => ?_) (fun c1 => ?_)
    · skip
      refine ps_aload_n (ps_at tX7_before_ok 17 rfl) rfl rfl ?_
      refine ps_getR (ps_at tX7_before_ok 18 rfl) flX7_26 sh_1 rfl ?_
      refine ps_aload_n (ps_at tX7_before_ok 19 rfl) rfl rfl ?_
      refine ps_iload_n (ps_at tX7_before_ok 20 rfl) rfl rfl ?_
      refine ps_callV (M2 := mX7_grouped) (av := [.inl v1]) (rest := [.inr (.inr (15, 0))]) (ps_at tX7_before_ok 21 rfl) cvX7_79 sh_1 rfl rfl (fun _ => Nat.le_of_ble_eq_true rfl) ?_
      refine ps_C.imp ?_ (h1 c0 c1)
      rintro _ σ1 ⟨q, rfl, hx⟩
      exact ps_forget (L' := [none, none, some (.inl v2), some (.inl v3)]) (And.intro rfl (And.intro rfl trivial)) hx
    · skip
      refine ps_ldc (ps_at tX7_before_ok 15 rfl) cnX7_102 ?_
      exact ps_iret (ps_at tX7_before_ok 16 rfl) rfl ⟨rfl, rfl⟩ (h2 c0 c1)
  · skip
    refine ps_ldc (ps_at tX7_before_ok 10 rfl) cnX7_69 ?_
    exact ps_iret (ps_at tX7_before_ok 11 rfl) rfl ⟨rfl, rfl⟩ (h3 c0)
theorem bX7_before_38 {d : Nat} {Q : Option ps_V → ps_S → Prop} {v2 : Int32} {v3 : Int32} {j0 : Nat} {σ : ps_S} (h1 : ps_C mX3_waysWith d [.inr (.inr (15, 0)), .inr (.inr (3, j0)), .inl v2, .inl v3] σ (ps_ri (fun x σ1 => kX7_before_43 d Q x σ1))) : kX7_before_38 d Q v2 v3 j0 σ := by
  refine ps_iload_n (ps_at tX7_before_ok 22 rfl) rfl rfl ?_
  refine ps_iload_n (ps_at tX7_before_ok 23 rfl) rfl rfl ?_
  refine ps_callV (M2 := mX3_waysWith) (av := [.inr (.inr (3, j0)), .inl v2, .inl v3]) (rest := []) (ps_at tX7_before_ok 24 rfl) cvX7_120 sh_15 rfl rfl (fun _ => Nat.le_of_ble_eq_true rfl) ?_
  refine ps_C.imp ?_ (h1)
  rintro _ σ1 ⟨x, rfl, hx⟩
  exact ps_forget (L' := [none, none, none, none]) trivial hx
theorem bX7_before_43 {d : Nat} {Q : Option ps_V → ps_S → Prop} {s0 : Int32} {σ : ps_S} (h1 : Q (some (.inl s0)) σ) : kX7_before_43 d Q s0 σ := by
  exact ps_iret (ps_at tX7_before_ok 25 rfl) rfl ⟨rfl, rfl⟩ (h1)
theorem eX7_before {d : Nat} {Q : Option ps_V → ps_S → Prop} {v1 : Int32} {v2 : Int32} {v3 : Int32} {σ : ps_S} (h : kX7_before_0 d Q v1 v2 v3 σ) : ps_C mX7_before (d + 1) [.inr (.inr (1, 0)), .inl v1, .inl v2, .inl v3] σ Q := ps_enter (by decide) rfl ⟨rfl, rfl, rfl⟩ rfl (Nat.le_of_ble_eq_true rfl) h
abbrev kX7_piece_0 (d : Nat) (Q : Option ps_V → ps_S → Prop) (v1 : Int32) (v2 : Int32) (v3 : Int32) (σ : ps_S) : Prop := ps_K mX7_piece (d + 2) (ps_QF Q) 0 [some (.inr (.inr (1, 0))), some (.inl v1), some (.inl v2), some (.inl v3)] [] σ
abbrev kX7_piece_37 (d : Nat) (Q : Option ps_V → ps_S → Prop) (v1 : Int32) (v2 : Int32) (v3 : Int32) (σ : ps_S) : Prop := ps_K mX7_piece (d + 2) (ps_QF Q) 37 [some (.inr (.inr (1, 0))), some (.inl v1), some (.inl v2), some (.inl v3)] [] σ
abbrev kX7_piece_44 (d : Nat) (Q : Option ps_V → ps_S → Prop) (v1 : Int32) (v2 : Int32) (v3 : Int32) (σ : ps_S) : Prop := ps_K mX7_piece (d + 2) (ps_QF Q) 44 [some (.inr (.inr (1, 0))), some (.inl v1), some (.inl v2), some (.inl v3)] [] σ
abbrev kX7_piece_54 (d : Nat) (Q : Option ps_V → ps_S → Prop) (s0 : Int32) (σ : ps_S) : Prop := ps_K mX7_piece (d + 2) (ps_QF Q) 54 [none, none, none, none] [.inl s0] σ
theorem bX7_piece_0 {d : Nat} {Q : Option ps_V → ps_S → Prop} {v1 : Int32} {v2 : Int32} {v3 : Int32} {σ : ps_S} (h1 : (jbWi v1 16) = 0 → Q (some (.inl (-900001))) σ) (h2 : ¬ (jbWi v1 16) = 0 → ¬ (jbWi v2 6) = 0 → v3 = (-900009) → kX7_piece_37 d Q v1 v2 v3 σ) (h3 : ¬ (jbWi v1 16) = 0 → ¬ (jbWi v2 6) = 0 → ¬ v3 = (-900009) → v3 = 0 → kX7_piece_37 d Q v1 v2 v3 σ) (h4 : ¬ (jbWi v1 16) = 0 → ¬ (jbWi v2 6) = 0 → ¬ v3 = (-900009) → ¬ v3 = 0 → v3 = 1 → kX7_piece_37 d Q v1 v2 v3 σ) (h5 : ¬ (jbWi v1 16) = 0 → ¬ (jbWi v2 6) = 0 → ¬ v3 = (-900009) → ¬ v3 = 0 → ¬ v3 = 1 → Q (some (.inl (-900002))) σ) (h6 : ¬ (jbWi v1 16) = 0 → (jbWi v2 6) = 0 → Q (some (.inl (-900001))) σ) : kX7_piece_0 d Q v1 v2 v3 σ := by
  refine ps_iload_n (ps_at tX7_piece_ok 0 rfl) rfl rfl ?_
  refine ps_bipush (x := 16) (ps_at tX7_piece_ok 1 rfl) (by decide) ?_
  refine ps_callS (M2 := mX7_within) (av := [.inl v1, .inl 16]) (rest := []) (ps_at tX7_piece_ok 2 rfl) csX7_65 rfl rfl (fun _ => Nat.le_of_ble_eq_true rfl) (pX7_within ?_)
  refine ps_if_eq (tgt := 16) (ps_at tX7_piece_ok 3 rfl) (by decide) (fun c0 => ?_) (fun c0 => ?_)
  · skip
    refine ps_ldc (ps_at tX7_piece_ok 7 rfl) cnX7_69 ?_
    exact ps_iret (ps_at tX7_piece_ok 8 rfl) rfl ⟨rfl, rfl⟩ (h1 c0)
  · skip
    refine ps_iload_n (ps_at tX7_piece_ok 4 rfl) rfl rfl ?_
    refine ps_callS (M2 := mX7_isForme) (av := [.inl v2]) (rest := []) (ps_at tX7_piece_ok 5 rfl) csX7_62 rfl rfl (fun _ => Nat.le_of_ble_eq_true rfl) (pX7_isForme ?_)
    refine ps_if_ne (tgt := 19) (ps_at tX7_piece_ok 6 rfl) (by decide) (fun c1 => ?_) (fun c1 => ?_)
    · skip
      refine ps_iload_n (ps_at tX7_piece_ok 9 rfl) rfl rfl ?_
      refine ps_ldc (ps_at tX7_piece_ok 10 rfl) cnX7_70 ?_
      refine ps_icmp_eq (tgt := 37) (ps_at tX7_piece_ok 11 rfl) (by decide) (fun c2 => ?_) (fun c2 => ?_)
      · skip
        exact h2 c0 c1 c2
      · skip
        refine ps_iload_n (ps_at tX7_piece_ok 12 rfl) rfl rfl ?_
        refine ps_if_eq (tgt := 37) (ps_at tX7_piece_ok 13 rfl) (by decide) (fun c3 => ?_) (fun c3 => ?_)
        · skip
          exact h3 c0 c1 c2 c3
        · skip
          refine ps_iload_n (ps_at tX7_piece_ok 14 rfl) rfl rfl ?_
          refine ps_iconst (x := 1) (ps_at tX7_piece_ok 15 rfl) (by decide) ?_
          refine ps_icmp_eq (tgt := 37) (ps_at tX7_piece_ok 16 rfl) (by decide) (fun c4 => ?_) (fun c4 => ?_)
          · skip
            exact h4 c0 c1 c2 c3 c4
          · skip
            refine ps_ldc (ps_at tX7_piece_ok 17 rfl) cnX7_71 ?_
            exact ps_iret (ps_at tX7_piece_ok 18 rfl) rfl ⟨rfl, rfl⟩ (h5 c0 c1 c2 c3 c4)
    · skip
      refine ps_ldc (ps_at tX7_piece_ok 7 rfl) cnX7_69 ?_
      exact ps_iret (ps_at tX7_piece_ok 8 rfl) rfl ⟨rfl, rfl⟩ (h6 c0 c1)
theorem bX7_piece_37 {d : Nat} {Q : Option ps_V → ps_S → Prop} {v1 : Int32} {v2 : Int32} {v3 : Int32} {σ : ps_S} (h1 : ps_C mX4_forget (d + 1) [.inr (.inr (24, 0))] σ (ps_rv (fun σ1 => kX7_piece_44 d Q v1 v2 v3 σ1))) : kX7_piece_37 d Q v1 v2 v3 σ := by
  refine ps_aload_n (ps_at tX7_piece_ok 19 rfl) rfl rfl ?_
  refine ps_getR (ps_at tX7_piece_ok 20 rfl) flX7_40 sh_1 rfl ?_
  refine ps_callV (M2 := mX4_forget) (av := []) (rest := []) (ps_at tX7_piece_ok 21 rfl) cvX7_124 sh_24 rfl rfl (fun _ => Nat.le_of_ble_eq_true rfl) ?_
  refine ps_C.imp ?_ (h1)
  rintro _ σ1 ⟨rfl, hx⟩
  exact hx
theorem bX7_piece_44 {d : Nat} {Q : Option ps_V → ps_S → Prop} {v1 : Int32} {v2 : Int32} {v3 : Int32} {σ : ps_S} (h1 : ps_C mX6_putPiece (d + 1) [.inr (.inr (19, 0)), .inl v1, .inl v2, .inl v3] σ (ps_ri (fun x σ1 => kX7_piece_54 d Q x σ1))) : kX7_piece_44 d Q v1 v2 v3 σ := by
  refine ps_aload_n (ps_at tX7_piece_ok 22 rfl) rfl rfl ?_
  refine ps_getR (ps_at tX7_piece_ok 23 rfl) flX7_33 sh_1 rfl ?_
  refine ps_iload_n (ps_at tX7_piece_ok 24 rfl) rfl rfl ?_
  refine ps_iload_n (ps_at tX7_piece_ok 25 rfl) rfl rfl ?_
  refine ps_iload_n (ps_at tX7_piece_ok 26 rfl) rfl rfl ?_
  refine ps_callV (M2 := mX6_putPiece) (av := [.inl v1, .inl v2, .inl v3]) (rest := []) (ps_at tX7_piece_ok 27 rfl) cvX7_127 sh_19 rfl rfl (fun _ => Nat.le_of_ble_eq_true rfl) ?_
  refine ps_C.imp ?_ (h1)
  rintro _ σ1 ⟨x, rfl, hx⟩
  exact ps_forget (L' := [none, none, none, none]) trivial hx
theorem bX7_piece_54 {d : Nat} {Q : Option ps_V → ps_S → Prop} {s0 : Int32} {σ : ps_S} (h1 : Q (some (.inl s0)) σ) : kX7_piece_54 d Q s0 σ := by
  exact ps_iret (ps_at tX7_piece_ok 28 rfl) rfl ⟨rfl, rfl⟩ (h1)
theorem eX7_piece {d : Nat} {Q : Option ps_V → ps_S → Prop} {v1 : Int32} {v2 : Int32} {v3 : Int32} {σ : ps_S} (h : kX7_piece_0 d Q v1 v2 v3 σ) : ps_C mX7_piece (d + 2) [.inr (.inr (1, 0)), .inl v1, .inl v2, .inl v3] σ Q := ps_enter (by decide) rfl ⟨rfl, rfl, rfl⟩ rfl (Nat.le_of_ble_eq_true rfl) h
abbrev kX7_share_0 (d : Nat) (Q : Option ps_V → ps_S → Prop) (v1 : Int32) (v2 : Int32) (σ : ps_S) : Prop := ps_K mX7_share (d + 2) (ps_QF Q) 0 [some (.inr (.inr (1, 0))), some (.inl v1), some (.inl v2)] [] σ
theorem bX7_share_0 {d : Nat} {Q : Option ps_V → ps_S → Prop} {v1 : Int32} {v2 : Int32} {σ : ps_S} (h1 : (jbWi v1 6) = 0 → Q (some (.inl (-900001))) σ) (h2 : ¬ (jbWi v1 6) = 0 → ¬ (jbWi v2 6) = 0 → vp_in v1 6) (h3 : ¬ (jbWi v1 6) = 0 → ¬ (jbWi v2 6) = 0 → Q (some (.inl (((σ 22 0 v1.toNatClampNeg) >>> (v2 &&& 31)) &&& 1))) σ) (h4 : ¬ (jbWi v1 6) = 0 → (jbWi v2 6) = 0 → Q (some (.inl (-900001))) σ) : kX7_share_0 d Q v1 v2 σ := by
  refine ps_iload_n (ps_at tX7_share_ok 0 rfl) rfl rfl ?_
  refine ps_callS (M2 := mX7_isForme) (av := [.inl v1]) (rest := []) (ps_at tX7_share_ok 1 rfl) csX7_62 rfl rfl (fun _ => Nat.le_of_ble_eq_true rfl) (pX7_isForme ?_)
  refine ps_if_eq (tgt := 14) (ps_at tX7_share_ok 2 rfl) (by decide) (fun c0 => ?_) (fun c0 => ?_)
  · skip
    refine ps_ldc (ps_at tX7_share_ok 6 rfl) cnX7_69 ?_
    exact ps_iret (ps_at tX7_share_ok 7 rfl) rfl ⟨rfl, rfl⟩ (h1 c0)
  · skip
    refine ps_iload_n (ps_at tX7_share_ok 3 rfl) rfl rfl ?_
    refine ps_callS (M2 := mX7_isForme) (av := [.inl v2]) (rest := []) (ps_at tX7_share_ok 4 rfl) csX7_62 rfl rfl (fun _ => Nat.le_of_ble_eq_true rfl) (pX7_isForme ?_)
    refine ps_if_ne (tgt := 17) (ps_at tX7_share_ok 5 rfl) (by decide) (fun c1 => ?_) (fun c1 => ?_)
    · skip
      refine ps_aload_n (ps_at tX7_share_ok 8 rfl) rfl rfl ?_
      refine ps_getR (ps_at tX7_share_ok 9 rfl) flX7_33 sh_1 rfl ?_
      refine ps_getR (ps_at tX7_share_ok 10 rfl) flX7_130 sh_19 rfl ?_
      refine ps_iload_n (ps_at tX7_share_ok 11 rfl) rfl rfl ?_
      refine ps_iald (ps_at tX7_share_ok 12 rfl) sh_22 (h2 c0 c1) ?_
      refine ps_iload_n (ps_at tX7_share_ok 13 rfl) rfl rfl ?_
      refine ps_ishr (ps_at tX7_share_ok 14 rfl) ?_
      refine ps_iconst (x := 1) (ps_at tX7_share_ok 15 rfl) (by decide) ?_
      refine ps_iand (ps_at tX7_share_ok 16 rfl) ?_
      exact ps_iret (ps_at tX7_share_ok 17 rfl) rfl ⟨rfl, rfl⟩ (h3 c0 c1)
    · skip
      refine ps_ldc (ps_at tX7_share_ok 6 rfl) cnX7_69 ?_
      exact ps_iret (ps_at tX7_share_ok 7 rfl) rfl ⟨rfl, rfl⟩ (h4 c0 c1)
theorem eX7_share {d : Nat} {Q : Option ps_V → ps_S → Prop} {v1 : Int32} {v2 : Int32} {σ : ps_S} (h : kX7_share_0 d Q v1 v2 σ) : ps_C mX7_share (d + 2) [.inr (.inr (1, 0)), .inl v1, .inl v2] σ Q := ps_enter (by decide) rfl ⟨rfl, rfl, rfl⟩ rfl (Nat.le_of_ble_eq_true rfl) h
abbrev kX7_must_0 (d : Nat) (Q : Option ps_V → ps_S → Prop) (v1 : Int32) (v2 : Int32) (σ : ps_S) : Prop := ps_K mX7_must (d + 2) (ps_QF Q) 0 [some (.inr (.inr (1, 0))), some (.inl v1), some (.inl v2)] [] σ
theorem bX7_must_0 {d : Nat} {Q : Option ps_V → ps_S → Prop} {v1 : Int32} {v2 : Int32} {σ : ps_S} (h1 : (jbWi v1 6) = 0 → Q (some (.inl (-900001))) σ) (h2 : ¬ (jbWi v1 6) = 0 → ¬ (jbWi v2 6) = 0 → vp_in v1 6) (h3 : ¬ (jbWi v1 6) = 0 → ¬ (jbWi v2 6) = 0 → Q (some (.inl (((σ 23 0 v1.toNatClampNeg) >>> (v2 &&& 31)) &&& 1))) σ) (h4 : ¬ (jbWi v1 6) = 0 → (jbWi v2 6) = 0 → Q (some (.inl (-900001))) σ) : kX7_must_0 d Q v1 v2 σ := by
  refine ps_iload_n (ps_at tX7_must_ok 0 rfl) rfl rfl ?_
  refine ps_callS (M2 := mX7_isForme) (av := [.inl v1]) (rest := []) (ps_at tX7_must_ok 1 rfl) csX7_62 rfl rfl (fun _ => Nat.le_of_ble_eq_true rfl) (pX7_isForme ?_)
  refine ps_if_eq (tgt := 14) (ps_at tX7_must_ok 2 rfl) (by decide) (fun c0 => ?_) (fun c0 => ?_)
  · skip
    refine ps_ldc (ps_at tX7_must_ok 6 rfl) cnX7_69 ?_
    exact ps_iret (ps_at tX7_must_ok 7 rfl) rfl ⟨rfl, rfl⟩ (h1 c0)
  · skip
    refine ps_iload_n (ps_at tX7_must_ok 3 rfl) rfl rfl ?_
    refine ps_callS (M2 := mX7_isForme) (av := [.inl v2]) (rest := []) (ps_at tX7_must_ok 4 rfl) csX7_62 rfl rfl (fun _ => Nat.le_of_ble_eq_true rfl) (pX7_isForme ?_)
    refine ps_if_ne (tgt := 17) (ps_at tX7_must_ok 5 rfl) (by decide) (fun c1 => ?_) (fun c1 => ?_)
    · skip
      refine ps_aload_n (ps_at tX7_must_ok 8 rfl) rfl rfl ?_
      refine ps_getR (ps_at tX7_must_ok 9 rfl) flX7_33 sh_1 rfl ?_
      refine ps_getR (ps_at tX7_must_ok 10 rfl) flX7_133 sh_19 rfl ?_
      refine ps_iload_n (ps_at tX7_must_ok 11 rfl) rfl rfl ?_
      refine ps_iald (ps_at tX7_must_ok 12 rfl) sh_23 (h2 c0 c1) ?_
      refine ps_iload_n (ps_at tX7_must_ok 13 rfl) rfl rfl ?_
      refine ps_ishr (ps_at tX7_must_ok 14 rfl) ?_
      refine ps_iconst (x := 1) (ps_at tX7_must_ok 15 rfl) (by decide) ?_
      refine ps_iand (ps_at tX7_must_ok 16 rfl) ?_
      exact ps_iret (ps_at tX7_must_ok 17 rfl) rfl ⟨rfl, rfl⟩ (h3 c0 c1)
    · skip
      refine ps_ldc (ps_at tX7_must_ok 6 rfl) cnX7_69 ?_
      exact ps_iret (ps_at tX7_must_ok 7 rfl) rfl ⟨rfl, rfl⟩ (h4 c0 c1)
theorem eX7_must {d : Nat} {Q : Option ps_V → ps_S → Prop} {v1 : Int32} {v2 : Int32} {σ : ps_S} (h : kX7_must_0 d Q v1 v2 σ) : ps_C mX7_must (d + 2) [.inr (.inr (1, 0)), .inl v1, .inl v2] σ Q := ps_enter (by decide) rfl ⟨rfl, rfl, rfl⟩ rfl (Nat.le_of_ble_eq_true rfl) h
abbrev kX7_ring_0 (d : Nat) (Q : Option ps_V → ps_S → Prop)  (σ : ps_S) : Prop := ps_K mX7_ring (d + 1) (ps_QF Q) 0 [some (.inr (.inr (1, 0)))] [] σ
theorem bX7_ring_0 {d : Nat} {Q : Option ps_V → ps_S → Prop}  {σ : ps_S} (h1 : Q (some (.inl (jSum 6 (fun f => (σ 23 0 f >>> (nI f &&& 31)) &&& 1)))) σ) : kX7_ring_0 d Q σ := by
  refine ps_aload_n (ps_at tX7_ring_ok 0 rfl) rfl rfl ?_
  refine ps_getR (ps_at tX7_ring_ok 1 rfl) flX7_33 sh_1 rfl ?_
  refine ps_callV (M2 := mX6_ringSize) (av := []) (rest := []) (ps_at tX7_ring_ok 2 rfl) cvX7_136 sh_19 rfl rfl (fun _ => Nat.le_of_ble_eq_true rfl) (pX6_ringSize ?_)
  exact ps_iret (ps_at tX7_ring_ok 3 rfl) rfl ⟨rfl, rfl⟩ (h1)
theorem eX7_ring {d : Nat} {Q : Option ps_V → ps_S → Prop}  {σ : ps_S} (h : kX7_ring_0 d Q σ) : ps_C mX7_ring (d + 1) [.inr (.inr (1, 0))] σ Q := ps_enter (by decide) rfl ⟨rfl, rfl, rfl⟩ rfl (Nat.le_of_ble_eq_true rfl) h
abbrev kX7_presses_0 (d : Nat) (Q : Option ps_V → ps_S → Prop) (v1 : Int32) (σ : ps_S) : Prop := ps_K mX7_presses (d + 1) (ps_QF Q) 0 [some (.inr (.inr (1, 0))), some (.inl v1)] [] σ
abbrev kX7_presses_22 (d : Nat) (Q : Option ps_V → ps_S → Prop) (s0 : Int32) (σ : ps_S) : Prop := ps_K mX7_presses (d + 1) (ps_QF Q) 22 [none, none] [.inl s0] σ
theorem bX7_presses_0 {d : Nat} {Q : Option ps_V → ps_S → Prop} {v1 : Int32} {σ : ps_S} (h1 : v1 < 1 → Q (some (.inl (-900002))) σ) (h2 : ¬ v1 < 1 → v1 ≤ 6 → ps_C mX4_putPresses d [.inr (.inr (24, 0)), .inl v1] σ (ps_ri (fun x σ1 => kX7_presses_22 d Q x σ1))) (h3 : ¬ v1 < 1 → ¬ v1 ≤ 6 → Q (some (.inl (-900002))) σ) : kX7_presses_0 d Q v1 σ := by
  refine ps_iload_n (ps_at tX7_presses_ok 0 rfl) rfl rfl ?_
  refine ps_iconst (x := 1) (ps_at tX7_presses_ok 1 rfl) (by decide) ?_
  refine ps_icmp_lt (tgt := 11) (ps_at tX7_presses_ok 2 rfl) (by decide) (fun c0 => ?_) (fun c0 => ?_)
  · skip
    refine ps_ldc (ps_at tX7_presses_ok 6 rfl) cnX7_71 ?_
    exact ps_iret (ps_at tX7_presses_ok 7 rfl) rfl ⟨rfl, rfl⟩ (h1 c0)
  · skip
    refine ps_iload_n (ps_at tX7_presses_ok 3 rfl) rfl rfl ?_
    refine ps_bipush (x := 6) (ps_at tX7_presses_ok 4 rfl) (by decide) ?_
    refine ps_icmp_le (tgt := 14) (ps_at tX7_presses_ok 5 rfl) (by decide) (fun c1 => ?_) (fun c1 => ?_)
    · skip
      refine ps_aload_n (ps_at tX7_presses_ok 8 rfl) rfl rfl ?_
      refine ps_getR (ps_at tX7_presses_ok 9 rfl) flX7_40 sh_1 rfl ?_
      refine ps_iload_n (ps_at tX7_presses_ok 10 rfl) rfl rfl ?_
      refine ps_callV (M2 := mX4_putPresses) (av := [.inl v1]) (rest := []) (ps_at tX7_presses_ok 11 rfl) cvX7_140 sh_24 rfl rfl (fun _ => Nat.le_of_ble_eq_true rfl) ?_
      refine ps_C.imp ?_ (h2 c0 c1)
      rintro _ σ1 ⟨x, rfl, hx⟩
      exact ps_forget (L' := [none, none]) trivial hx
    · skip
      refine ps_ldc (ps_at tX7_presses_ok 6 rfl) cnX7_71 ?_
      exact ps_iret (ps_at tX7_presses_ok 7 rfl) rfl ⟨rfl, rfl⟩ (h3 c0 c1)
theorem bX7_presses_22 {d : Nat} {Q : Option ps_V → ps_S → Prop} {s0 : Int32} {σ : ps_S} (h1 : Q (some (.inl s0)) σ) : kX7_presses_22 d Q s0 σ := by
  exact ps_iret (ps_at tX7_presses_ok 12 rfl) rfl ⟨rfl, rfl⟩ (h1)
theorem eX7_presses {d : Nat} {Q : Option ps_V → ps_S → Prop} {v1 : Int32} {σ : ps_S} (h : kX7_presses_0 d Q v1 σ) : ps_C mX7_presses (d + 1) [.inr (.inr (1, 0)), .inl v1] σ Q := ps_enter (by decide) rfl ⟨rfl, rfl, rfl⟩ rfl (Nat.le_of_ble_eq_true rfl) h
abbrev kX7_plans_0 (d : Nat) (Q : Option ps_V → ps_S → Prop) (v1 : Int32) (σ : ps_S) : Prop := ps_K mX7_plans (d + 1) (ps_QF Q) 0 [some (.inr (.inr (1, 0))), some (.inl v1)] [] σ
abbrev kX7_plans_23 (d : Nat) (Q : Option ps_V → ps_S → Prop) (s0 : Int32) (σ : ps_S) : Prop := ps_K mX7_plans (d + 1) (ps_QF Q) 23 [none, none] [.inl s0] σ
theorem bX7_plans_0 {d : Nat} {Q : Option ps_V → ps_S → Prop} {v1 : Int32} {σ : ps_S} (h1 : ¬ (jbDays v1) = 0 → ps_C mX4_planCount d [.inr (.inr (24, 0)), .inr (.inr (19, 0)), .inl v1, .inl 0] σ (ps_ri (fun x σ1 => kX7_plans_23 d Q x σ1))) (h2 : (jbDays v1) = 0 → Q (some (.inl (-900002))) σ) : kX7_plans_0 d Q v1 σ := by
  refine ps_iload_n (ps_at tX7_plans_ok 0 rfl) rfl rfl ?_
  refine ps_callS (M2 := mX7_isDays) (av := [.inl v1]) (rest := []) (ps_at tX7_plans_ok 1 rfl) csX7_144 rfl rfl (fun _ => Nat.le_of_ble_eq_true rfl) (pX7_isDays ?_)
  refine ps_if_ne (tgt := 10) (ps_at tX7_plans_ok 2 rfl) (by decide) (fun c0 => ?_) (fun c0 => ?_)
  · skip
    refine ps_aload_n (ps_at tX7_plans_ok 5 rfl) rfl rfl ?_
    refine ps_getR (ps_at tX7_plans_ok 6 rfl) flX7_40 sh_1 rfl ?_
    refine ps_aload_n (ps_at tX7_plans_ok 7 rfl) rfl rfl ?_
    refine ps_getR (ps_at tX7_plans_ok 8 rfl) flX7_33 sh_1 rfl ?_
    refine ps_iload_n (ps_at tX7_plans_ok 9 rfl) rfl rfl ?_
    refine ps_iconst (x := 0) (ps_at tX7_plans_ok 10 rfl) (by decide) ?_
    refine ps_callV (M2 := mX4_planCount) (av := [.inr (.inr (19, 0)), .inl v1, .inl 0]) (rest := []) (ps_at tX7_plans_ok 11 rfl) cvX7_147 sh_24 rfl rfl (fun _ => Nat.le_of_ble_eq_true rfl) ?_
    refine ps_C.imp ?_ (h1 c0)
    rintro _ σ1 ⟨x, rfl, hx⟩
    exact ps_forget (L' := [none, none]) trivial hx
  · skip
    refine ps_ldc (ps_at tX7_plans_ok 3 rfl) cnX7_71 ?_
    exact ps_iret (ps_at tX7_plans_ok 4 rfl) rfl ⟨rfl, rfl⟩ (h2 c0)
theorem bX7_plans_23 {d : Nat} {Q : Option ps_V → ps_S → Prop} {s0 : Int32} {σ : ps_S} (h1 : Q (some (.inl s0)) σ) : kX7_plans_23 d Q s0 σ := by
  exact ps_iret (ps_at tX7_plans_ok 12 rfl) rfl ⟨rfl, rfl⟩ (h1)
theorem eX7_plans {d : Nat} {Q : Option ps_V → ps_S → Prop} {v1 : Int32} {σ : ps_S} (h : kX7_plans_0 d Q v1 σ) : ps_C mX7_plans (d + 1) [.inr (.inr (1, 0)), .inl v1] σ Q := ps_enter (by decide) rfl ⟨rfl, rfl, rfl⟩ rfl (Nat.le_of_ble_eq_true rfl) h
abbrev kX7_day_0 (d : Nat) (Q : Option ps_V → ps_S → Prop) (v1 : Int32) (v2 : Int32) (σ : ps_S) : Prop := ps_K mX7_day (d + 2) (ps_QF Q) 0 [some (.inr (.inr (1, 0))), some (.inl v1), some (.inl v2)] [] σ
abbrev kX7_day_33 (d : Nat) (Q : Option ps_V → ps_S → Prop) (s0 : Int32) (σ : ps_S) : Prop := ps_K mX7_day (d + 2) (ps_QF Q) 33 [none, none, none] [.inl s0] σ
theorem bX7_day_0 {d : Nat} {Q : Option ps_V → ps_S → Prop} {v1 : Int32} {v2 : Int32} {σ : ps_S} (h1 : ¬ (jbWi v2 6) = 0 → ¬ (jbDays v1) = 0 → ps_C mX4_dayInFirst (d + 1) [.inr (.inr (24, 0)), .inr (.inr (19, 0)), .inl v1, .inl v2] σ (ps_ri (fun x σ1 => kX7_day_33 d Q x σ1))) (h2 : ¬ (jbWi v2 6) = 0 → (jbDays v1) = 0 → Q (some (.inl (-900002))) σ) (h3 : (jbWi v2 6) = 0 → Q (some (.inl (-900001))) σ) : kX7_day_0 d Q v1 v2 σ := by
  refine ps_iload_n (ps_at tX7_day_ok 0 rfl) rfl rfl ?_
  refine ps_callS (M2 := mX7_isForme) (av := [.inl v2]) (rest := []) (ps_at tX7_day_ok 1 rfl) csX7_62 rfl rfl (fun _ => Nat.le_of_ble_eq_true rfl) (pX7_isForme ?_)
  refine ps_if_ne (tgt := 10) (ps_at tX7_day_ok 2 rfl) (by decide) (fun c0 => ?_) (fun c0 => ?_)
  · skip
    refine ps_iload_n (ps_at tX7_day_ok 5 rfl) rfl rfl ?_
    refine ps_callS (M2 := mX7_isDays) (av := [.inl v1]) (rest := []) (ps_at tX7_day_ok 6 rfl) csX7_144 rfl rfl (fun _ => Nat.le_of_ble_eq_true rfl) (pX7_isDays ?_)
    refine ps_if_ne (tgt := 20) (ps_at tX7_day_ok 7 rfl) (by decide) (fun c1 => ?_) (fun c1 => ?_)
    · skip
      refine ps_aload_n (ps_at tX7_day_ok 10 rfl) rfl rfl ?_
      refine ps_getR (ps_at tX7_day_ok 11 rfl) flX7_40 sh_1 rfl ?_
      refine ps_aload_n (ps_at tX7_day_ok 12 rfl) rfl rfl ?_
      refine ps_getR (ps_at tX7_day_ok 13 rfl) flX7_33 sh_1 rfl ?_
      refine ps_iload_n (ps_at tX7_day_ok 14 rfl) rfl rfl ?_
      refine ps_iload_n (ps_at tX7_day_ok 15 rfl) rfl rfl ?_
      refine ps_callV (M2 := mX4_dayInFirst) (av := [.inr (.inr (19, 0)), .inl v1, .inl v2]) (rest := []) (ps_at tX7_day_ok 16 rfl) cvX7_151 sh_24 rfl rfl (fun _ => Nat.le_of_ble_eq_true rfl) ?_
      refine ps_C.imp ?_ (h1 c0 c1)
      rintro _ σ1 ⟨x, rfl, hx⟩
      exact ps_forget (L' := [none, none, none]) trivial hx
    · skip
      refine ps_ldc (ps_at tX7_day_ok 8 rfl) cnX7_71 ?_
      exact ps_iret (ps_at tX7_day_ok 9 rfl) rfl ⟨rfl, rfl⟩ (h2 c0 c1)
  · skip
    refine ps_ldc (ps_at tX7_day_ok 3 rfl) cnX7_69 ?_
    exact ps_iret (ps_at tX7_day_ok 4 rfl) rfl ⟨rfl, rfl⟩ (h3 c0)
theorem bX7_day_33 {d : Nat} {Q : Option ps_V → ps_S → Prop} {s0 : Int32} {σ : ps_S} (h1 : Q (some (.inl s0)) σ) : kX7_day_33 d Q s0 σ := by
  exact ps_iret (ps_at tX7_day_ok 17 rfl) rfl ⟨rfl, rfl⟩ (h1)
theorem eX7_day {d : Nat} {Q : Option ps_V → ps_S → Prop} {v1 : Int32} {v2 : Int32} {σ : ps_S} (h : kX7_day_0 d Q v1 v2 σ) : ps_C mX7_day (d + 2) [.inr (.inr (1, 0)), .inl v1, .inl v2] σ Q := ps_enter (by decide) rfl ⟨rfl, rfl, rfl⟩ rfl (Nat.le_of_ble_eq_true rfl) h
abbrev kX7_beside_0 (d : Nat) (Q : Option ps_V → ps_S → Prop) (v1 : Int32) (v2 : Int32) (v3 : Int32) (σ : ps_S) : Prop := ps_K mX7_beside (d + 2) (ps_QF Q) 0 [some (.inr (.inr (1, 0))), some (.inl v1), some (.inl v2), some (.inl v3)] [] σ
abbrev kX7_beside_71 (d : Nat) (Q : Option ps_V → ps_S → Prop) (s0 : Int32) (σ : ps_S) : Prop := ps_K mX7_beside (d + 2) (ps_QF Q) 71 [none, none, none, none] [.inl s0] σ
theorem bX7_beside_0 {d : Nat} {Q : Option ps_V → ps_S → Prop} {v1 : Int32} {v2 : Int32} {v3 : Int32} {σ : ps_S} (h1 : (jbWi v2 6) = 0 → Q (some (.inl (-900001))) σ) (h2 : ¬ (jbWi v2 6) = 0 → ¬ (jbWi v3 6) = 0 → ¬ (jbDays v1) = 0 → (jX6_isTold σ v2) = 0 → Q (some (.inl (-900003))) σ) (h3 : ¬ (jbWi v2 6) = 0 → ¬ (jbWi v3 6) = 0 → ¬ (jbDays v1) = 0 → ¬ (jX6_isTold σ v2) = 0 → ¬ (jX6_isTold σ v3) = 0 → ps_C mX4_planCount (d + 1) [.inr (.inr (24, 0)), .inr (.inr (19, 0)), .inl v1, .inl (((1 : Int32) <<< (v2 &&& 31)) ||| ((1 : Int32) <<< (v3 &&& 31)))] σ (ps_ri (fun x σ1 => kX7_beside_71 d Q x σ1))) (h4 : ¬ (jbWi v2 6) = 0 → ¬ (jbWi v3 6) = 0 → ¬ (jbDays v1) = 0 → ¬ (jX6_isTold σ v2) = 0 → (jX6_isTold σ v3) = 0 → Q (some (.inl (-900003))) σ) (h5 : ¬ (jbWi v2 6) = 0 → ¬ (jbWi v3 6) = 0 → (jbDays v1) = 0 → Q (some (.inl (-900002))) σ) (h6 : ¬ (jbWi v2 6) = 0 → (jbWi v3 6) = 0 → Q (some (.inl (-900001))) σ) : kX7_beside_0 d Q v1 v2 v3 σ := by
  refine ps_iload_n (ps_at tX7_beside_ok 0 rfl) rfl rfl ?_
  refine ps_callS (M2 := mX7_isForme) (av := [.inl v2]) (rest := []) (ps_at tX7_beside_ok 1 rfl) csX7_62 rfl rfl (fun _ => Nat.le_of_ble_eq_true rfl) (pX7_isForme ?_)
  refine ps_if_eq (tgt := 14) (ps_at tX7_beside_ok 2 rfl) (by decide) (fun c0 => ?_) (fun c0 => ?_)
  · skip
    refine ps_ldc (ps_at tX7_beside_ok 6 rfl) cnX7_69 ?_
    exact ps_iret (ps_at tX7_beside_ok 7 rfl) rfl ⟨rfl, rfl⟩ (h1 c0)
  · skip
    refine ps_iload_n (ps_at tX7_beside_ok 3 rfl) rfl rfl ?_
    refine ps_callS (M2 := mX7_isForme) (av := [.inl v3]) (rest := []) (ps_at tX7_beside_ok 4 rfl) csX7_62 rfl rfl (fun _ => Nat.le_of_ble_eq_true rfl) (pX7_isForme ?_)
    refine ps_if_ne (tgt := 17) (ps_at tX7_beside_ok 5 rfl) (by decide) (fun c1 => ?_) (fun c1 => ?_)
    · skip
      refine ps_iload_n (ps_at tX7_beside_ok 8 rfl) rfl rfl ?_
      refine ps_callS (M2 := mX7_isDays) (av := [.inl v1]) (rest := []) (ps_at tX7_beside_ok 9 rfl) csX7_144 rfl rfl (fun _ => Nat.le_of_ble_eq_true rfl) (pX7_isDays ?_)
      refine ps_if_ne (tgt := 27) (ps_at tX7_beside_ok 10 rfl) (by decide) (fun c2 => ?_) (fun c2 => ?_)
      · skip
        refine ps_aload_n (ps_at tX7_beside_ok 13 rfl) rfl rfl ?_
        refine ps_getR (ps_at tX7_beside_ok 14 rfl) flX7_33 sh_1 rfl ?_
        refine ps_iload_n (ps_at tX7_beside_ok 15 rfl) rfl rfl ?_
        refine ps_callV (M2 := mX6_isTold) (av := [.inl v2]) (rest := []) (ps_at tX7_beside_ok 16 rfl) cvX7_154 sh_19 rfl rfl (fun _ => Nat.le_of_ble_eq_true rfl) (pX6_isTold ?_)
        refine ps_if_eq (tgt := 49) (ps_at tX7_beside_ok 17 rfl) (by decide) (fun c3 => ?_) (fun c3 => ?_)
        · skip
          refine ps_ldc (ps_at tX7_beside_ok 23 rfl) cnX7_102 ?_
          exact ps_iret (ps_at tX7_beside_ok 24 rfl) rfl ⟨rfl, rfl⟩ (h2 c0 c1 c2 c3)
        · skip
          refine ps_aload_n (ps_at tX7_beside_ok 18 rfl) rfl rfl ?_
          refine ps_getR (ps_at tX7_beside_ok 19 rfl) flX7_33 sh_1 rfl ?_
          refine ps_iload_n (ps_at tX7_beside_ok 20 rfl) rfl rfl ?_
          refine ps_callV (M2 := mX6_isTold) (av := [.inl v3]) (rest := []) (ps_at tX7_beside_ok 21 rfl) cvX7_154 sh_19 rfl rfl (fun _ => Nat.le_of_ble_eq_true rfl) (pX6_isTold ?_)
          refine ps_if_ne (tgt := 52) (ps_at tX7_beside_ok 22 rfl) (by decide) (fun c4 => ?_) (fun c4 => ?_)
          · skip
            refine ps_aload_n (ps_at tX7_beside_ok 25 rfl) rfl rfl ?_
            refine ps_getR (ps_at tX7_beside_ok 26 rfl) flX7_40 sh_1 rfl ?_
            refine ps_aload_n (ps_at tX7_beside_ok 27 rfl) rfl rfl ?_
            refine ps_getR (ps_at tX7_beside_ok 28 rfl) flX7_33 sh_1 rfl ?_
            refine ps_iload_n (ps_at tX7_beside_ok 29 rfl) rfl rfl ?_
            refine ps_iconst (x := 1) (ps_at tX7_beside_ok 30 rfl) (by decide) ?_
            refine ps_iload_n (ps_at tX7_beside_ok 31 rfl) rfl rfl ?_
            refine ps_ishl (ps_at tX7_beside_ok 32 rfl) ?_
            refine ps_iconst (x := 1) (ps_at tX7_beside_ok 33 rfl) (by decide) ?_
            refine ps_iload_n (ps_at tX7_beside_ok 34 rfl) rfl rfl ?_
            refine ps_ishl (ps_at tX7_beside_ok 35 rfl) ?_
            refine ps_ior (ps_at tX7_beside_ok 36 rfl) ?_
            refine ps_callV (M2 := mX4_planCount) (av := [.inr (.inr (19, 0)), .inl v1, .inl (((1 : Int32) <<< (v2 &&& 31)) ||| ((1 : Int32) <<< (v3 &&& 31)))]) (rest := []) (ps_at tX7_beside_ok 37 rfl) cvX7_147 sh_24 rfl rfl (fun _ => Nat.le_of_ble_eq_true rfl) ?_
            refine ps_C.imp ?_ (h3 c0 c1 c2 c3 c4)
            rintro _ σ1 ⟨x, rfl, hx⟩
            exact ps_forget (L' := [none, none, none, none]) trivial hx
          · skip
            refine ps_ldc (ps_at tX7_beside_ok 23 rfl) cnX7_102 ?_
            exact ps_iret (ps_at tX7_beside_ok 24 rfl) rfl ⟨rfl, rfl⟩ (h4 c0 c1 c2 c3 c4)
      · skip
        refine ps_ldc (ps_at tX7_beside_ok 11 rfl) cnX7_71 ?_
        exact ps_iret (ps_at tX7_beside_ok 12 rfl) rfl ⟨rfl, rfl⟩ (h5 c0 c1 c2)
    · skip
      refine ps_ldc (ps_at tX7_beside_ok 6 rfl) cnX7_69 ?_
      exact ps_iret (ps_at tX7_beside_ok 7 rfl) rfl ⟨rfl, rfl⟩ (h6 c0 c1)
theorem bX7_beside_71 {d : Nat} {Q : Option ps_V → ps_S → Prop} {s0 : Int32} {σ : ps_S} (h1 : Q (some (.inl s0)) σ) : kX7_beside_71 d Q s0 σ := by
  exact ps_iret (ps_at tX7_beside_ok 38 rfl) rfl ⟨rfl, rfl⟩ (h1)
theorem eX7_beside {d : Nat} {Q : Option ps_V → ps_S → Prop} {v1 : Int32} {v2 : Int32} {v3 : Int32} {σ : ps_S} (h : kX7_beside_0 d Q v1 v2 v3 σ) : ps_C mX7_beside (d + 2) [.inr (.inr (1, 0)), .inl v1, .inl v2, .inl v3] σ Q := ps_enter (by decide) rfl ⟨rfl, rfl, rfl⟩ rfl (Nat.le_of_ble_eq_true rfl) h
abbrev kX7_fewest_0 (d : Nat) (Q : Option ps_V → ps_S → Prop)  (σ : ps_S) : Prop := ps_K mX7_fewest (d + 1) (ps_QF Q) 0 [some (.inr (.inr (1, 0))), none] [] σ
abbrev kX7_fewest_2 (d : Nat) (Q : Option ps_V → ps_S → Prop) (v1 : Int32) (σ : ps_S) : Prop := ps_K mX7_fewest (d + 1) (ps_QF Q) 2 [some (.inr (.inr (1, 0))), some (.inl v1)] [] σ
abbrev kX7_fewest_21 (d : Nat) (Q : Option ps_V → ps_S → Prop) (v1 : Int32) (s0 : Int32) (σ : ps_S) : Prop := ps_K mX7_fewest (d + 1) (ps_QF Q) 21 [some (.inr (.inr (1, 0))), some (.inl v1)] [.inl s0] σ
theorem bX7_fewest_0 {d : Nat} {Q : Option ps_V → ps_S → Prop}  {σ : ps_S} (h1 : kX7_fewest_2 d Q 1 σ) : kX7_fewest_0 d Q σ := by
  refine ps_iconst (x := 1) (ps_at tX7_fewest_ok 0 rfl) (by decide) ?_
  refine ps_istore_n (L' := [some (.inr (.inr (1, 0))), some (.inl 1)]) (ps_at tX7_fewest_ok 1 rfl) rfl (by decide) rfl ?_
  exact h1
theorem bX7_fewest_2 {d : Nat} {Q : Option ps_V → ps_S → Prop} {v1 : Int32} {σ : ps_S} (h1 : 6 < v1 → Q (some (.inl (-900009))) σ) (h2 : ¬ 6 < v1 → ps_C mX4_planCount d [.inr (.inr (24, 0)), .inr (.inr (19, 0)), .inl v1, .inl 0] σ (ps_ri (fun x σ1 => kX7_fewest_21 d Q v1 x σ1))) : kX7_fewest_2 d Q v1 σ := by
  refine ps_iload_n (ps_at tX7_fewest_ok 2 rfl) rfl rfl ?_
  refine ps_bipush (x := 6) (ps_at tX7_fewest_ok 3 rfl) (by decide) ?_
  refine ps_icmp_gt (tgt := 32) (ps_at tX7_fewest_ok 4 rfl) (by decide) (fun c0 => ?_) (fun c0 => ?_)
  · skip
    refine ps_ldc (ps_at tX7_fewest_ok 17 rfl) cnX7_70 ?_
    exact ps_iret (ps_at tX7_fewest_ok 18 rfl) rfl ⟨rfl, rfl⟩ (h1 c0)
  · skip
    refine ps_aload_n (ps_at tX7_fewest_ok 5 rfl) rfl rfl ?_
    refine ps_getR (ps_at tX7_fewest_ok 6 rfl) flX7_40 sh_1 rfl ?_
    refine ps_aload_n (ps_at tX7_fewest_ok 7 rfl) rfl rfl ?_
    refine ps_getR (ps_at tX7_fewest_ok 8 rfl) flX7_33 sh_1 rfl ?_
    refine ps_iload_n (ps_at tX7_fewest_ok 9 rfl) rfl rfl ?_
    refine ps_iconst (x := 0) (ps_at tX7_fewest_ok 10 rfl) (by decide) ?_
    refine ps_callV (M2 := mX4_planCount) (av := [.inr (.inr (19, 0)), .inl v1, .inl 0]) (rest := []) (ps_at tX7_fewest_ok 11 rfl) cvX7_147 sh_24 rfl rfl (fun _ => Nat.le_of_ble_eq_true rfl) ?_
    refine ps_C.imp ?_ (h2 c0)
    rintro _ σ1 ⟨x, rfl, hx⟩
    exact hx
theorem bX7_fewest_21 {d : Nat} {Q : Option ps_V → ps_S → Prop} {v1 : Int32} {s0 : Int32} {σ : ps_S} (h1 : s0 ≤ 0 → kX7_fewest_2 d Q (v1 + 1) σ) (h2 : ¬ s0 ≤ 0 → Q (some (.inl v1)) σ) : kX7_fewest_21 d Q v1 s0 σ := by
  refine ps_if_le (tgt := 26) (ps_at tX7_fewest_ok 12 rfl) (by decide) (fun c0 => ?_) (fun c0 => ?_)
  · skip
    refine ps_iinc (L' := [some (.inr (.inr (1, 0))), some (.inl (v1 + 1))]) (y := 1) (ps_at tX7_fewest_ok 15 rfl) rfl (by decide) (by decide) rfl ?_
    refine ps_goto (tgt := 2) (ps_at tX7_fewest_ok 16 rfl) (by decide) ?_
    exact h1 c0
  · skip
    refine ps_iload_n (ps_at tX7_fewest_ok 13 rfl) rfl rfl ?_
    exact ps_iret (ps_at tX7_fewest_ok 14 rfl) rfl ⟨rfl, rfl⟩ (h2 c0)
theorem eX7_fewest {d : Nat} {Q : Option ps_V → ps_S → Prop}  {σ : ps_S} (h : kX7_fewest_0 d Q σ) : ps_C mX7_fewest (d + 1) [.inr (.inr (1, 0))] σ Q := ps_enter (by decide) rfl ⟨rfl, rfl, rfl⟩ rfl (Nat.le_of_ble_eq_true rfl) h
abbrev kX7_sheet_0 (d : Nat) (Q : Option ps_V → ps_S → Prop) (v1 : Int32) (v2 : Int32) (σ : ps_S) : Prop := ps_K mX7_sheet (d + 2) (ps_QF Q) 0 [some (.inr (.inr (1, 0))), some (.inl v1), some (.inl v2)] [] σ
abbrev kX7_sheet_48 (d : Nat) (Q : Option ps_V → ps_S → Prop) (s0 : Int32) (σ : ps_S) : Prop := ps_K mX7_sheet (d + 2) (ps_QF Q) 48 [none, none, none] [.inl s0] σ
theorem bX7_sheet_0 {d : Nat} {Q : Option ps_V → ps_S → Prop} {v1 : Int32} {v2 : Int32} {σ : ps_S} (h1 : ¬ (jbWi v1 6) = 0 → ¬ (jbWi v2 10) = 0 → vp_in v1 6) (h2 : ¬ (jbWi v1 6) = 0 → ¬ (jbWi v2 10) = 0 → (σ 33 0 v1.toNatClampNeg) < 12 → ps_C mX1_addSheet (d + 1) [.inr (.inr (30, 0)), .inl v1, .inl v2] σ (ps_ri (fun x σ1 => kX7_sheet_48 d Q x σ1))) (h3 : ¬ (jbWi v1 6) = 0 → ¬ (jbWi v2 10) = 0 → ¬ (σ 33 0 v1.toNatClampNeg) < 12 → Q (some (.inl (-900003))) σ) (h4 : ¬ (jbWi v1 6) = 0 → (jbWi v2 10) = 0 → Q (some (.inl (-900002))) σ) (h5 : (jbWi v1 6) = 0 → Q (some (.inl (-900001))) σ) : kX7_sheet_0 d Q v1 v2 σ := by
  refine ps_iload_n (ps_at tX7_sheet_ok 0 rfl) rfl rfl ?_
  refine ps_callS (M2 := mX7_isForme) (av := [.inl v1]) (rest := []) (ps_at tX7_sheet_ok 1 rfl) csX7_62 rfl rfl (fun _ => Nat.le_of_ble_eq_true rfl) (pX7_isForme ?_)
  refine ps_if_ne (tgt := 10) (ps_at tX7_sheet_ok 2 rfl) (by decide) (fun c0 => ?_) (fun c0 => ?_)
  · skip
    refine ps_iload_n (ps_at tX7_sheet_ok 5 rfl) rfl rfl ?_
    refine ps_bipush (x := 10) (ps_at tX7_sheet_ok 6 rfl) (by decide) ?_
    refine ps_callS (M2 := mX7_within) (av := [.inl v2, .inl 10]) (rest := []) (ps_at tX7_sheet_ok 7 rfl) csX7_65 rfl rfl (fun _ => Nat.le_of_ble_eq_true rfl) (pX7_within ?_)
    refine ps_if_ne (tgt := 22) (ps_at tX7_sheet_ok 8 rfl) (by decide) (fun c1 => ?_) (fun c1 => ?_)
    · skip
      refine ps_aload_n (ps_at tX7_sheet_ok 11 rfl) rfl rfl ?_
      refine ps_getR (ps_at tX7_sheet_ok 12 rfl) flX7_47 sh_1 rfl ?_
      refine ps_getR (ps_at tX7_sheet_ok 13 rfl) flX7_157 sh_30 rfl ?_
      refine ps_iload_n (ps_at tX7_sheet_ok 14 rfl) rfl rfl ?_
      refine ps_iald (ps_at tX7_sheet_ok 15 rfl) sh_33 (h1 c0 c1) ?_
      refine ps_bipush (x := 12) (ps_at tX7_sheet_ok 16 rfl) (by decide) ?_
      refine ps_icmp_lt (tgt := 39) (ps_at tX7_sheet_ok 17 rfl) (by decide) (fun c2 => ?_) (fun c2 => ?_)
      · skip
        refine ps_aload_n (ps_at tX7_sheet_ok 20 rfl) rfl rfl ?_
        refine ps_getR (ps_at tX7_sheet_ok 21 rfl) flX7_47 sh_1 rfl ?_
        refine ps_iload_n (ps_at tX7_sheet_ok 22 rfl) rfl rfl ?_
        refine ps_iload_n (ps_at tX7_sheet_ok 23 rfl) rfl rfl ?_
        refine ps_callV (M2 := mX1_addSheet) (av := [.inl v1, .inl v2]) (rest := []) (ps_at tX7_sheet_ok 24 rfl) cvX7_160 sh_30 rfl rfl (fun _ => Nat.le_of_ble_eq_true rfl) ?_
        refine ps_C.imp ?_ (h2 c0 c1 c2)
        rintro _ σ1 ⟨x, rfl, hx⟩
        exact ps_forget (L' := [none, none, none]) trivial hx
      · skip
        refine ps_ldc (ps_at tX7_sheet_ok 18 rfl) cnX7_102 ?_
        exact ps_iret (ps_at tX7_sheet_ok 19 rfl) rfl ⟨rfl, rfl⟩ (h3 c0 c1 c2)
    · skip
      refine ps_ldc (ps_at tX7_sheet_ok 9 rfl) cnX7_71 ?_
      exact ps_iret (ps_at tX7_sheet_ok 10 rfl) rfl ⟨rfl, rfl⟩ (h4 c0 c1)
  · skip
    refine ps_ldc (ps_at tX7_sheet_ok 3 rfl) cnX7_69 ?_
    exact ps_iret (ps_at tX7_sheet_ok 4 rfl) rfl ⟨rfl, rfl⟩ (h5 c0)
theorem bX7_sheet_48 {d : Nat} {Q : Option ps_V → ps_S → Prop} {s0 : Int32} {σ : ps_S} (h1 : Q (some (.inl s0)) σ) : kX7_sheet_48 d Q s0 σ := by
  exact ps_iret (ps_at tX7_sheet_ok 25 rfl) rfl ⟨rfl, rfl⟩ (h1)
theorem eX7_sheet {d : Nat} {Q : Option ps_V → ps_S → Prop} {v1 : Int32} {v2 : Int32} {σ : ps_S} (h : kX7_sheet_0 d Q v1 v2 σ) : ps_C mX7_sheet (d + 2) [.inr (.inr (1, 0)), .inl v1, .inl v2] σ Q := ps_enter (by decide) rfl ⟨rfl, rfl, rfl⟩ rfl (Nat.le_of_ble_eq_true rfl) h
abbrev kX7_size_0 (d : Nat) (Q : Option ps_V → ps_S → Prop) (v1 : Int32) (σ : ps_S) : Prop := ps_K mX7_size (d + 1) (ps_QF Q) 0 [some (.inr (.inr (1, 0))), some (.inl v1)] [] σ
abbrev kX7_size_22 (d : Nat) (Q : Option ps_V → ps_S → Prop) (s0 : Int32) (σ : ps_S) : Prop := ps_K mX7_size (d + 1) (ps_QF Q) 22 [none, none] [.inl s0] σ
theorem bX7_size_0 {d : Nat} {Q : Option ps_V → ps_S → Prop} {v1 : Int32} {σ : ps_S} (h1 : v1 < 1 → Q (some (.inl (-900002))) σ) (h2 : ¬ v1 < 1 → v1 ≤ 12 → ps_C mX1_putSize d [.inr (.inr (30, 0)), .inl v1] σ (ps_ri (fun x σ1 => kX7_size_22 d Q x σ1))) (h3 : ¬ v1 < 1 → ¬ v1 ≤ 12 → Q (some (.inl (-900002))) σ) : kX7_size_0 d Q v1 σ := by
  refine ps_iload_n (ps_at tX7_size_ok 0 rfl) rfl rfl ?_
  refine ps_iconst (x := 1) (ps_at tX7_size_ok 1 rfl) (by decide) ?_
  refine ps_icmp_lt (tgt := 11) (ps_at tX7_size_ok 2 rfl) (by decide) (fun c0 => ?_) (fun c0 => ?_)
  · skip
    refine ps_ldc (ps_at tX7_size_ok 6 rfl) cnX7_71 ?_
    exact ps_iret (ps_at tX7_size_ok 7 rfl) rfl ⟨rfl, rfl⟩ (h1 c0)
  · skip
    refine ps_iload_n (ps_at tX7_size_ok 3 rfl) rfl rfl ?_
    refine ps_bipush (x := 12) (ps_at tX7_size_ok 4 rfl) (by decide) ?_
    refine ps_icmp_le (tgt := 14) (ps_at tX7_size_ok 5 rfl) (by decide) (fun c1 => ?_) (fun c1 => ?_)
    · skip
      refine ps_aload_n (ps_at tX7_size_ok 8 rfl) rfl rfl ?_
      refine ps_getR (ps_at tX7_size_ok 9 rfl) flX7_47 sh_1 rfl ?_
      refine ps_iload_n (ps_at tX7_size_ok 10 rfl) rfl rfl ?_
      refine ps_callV (M2 := mX1_putSize) (av := [.inl v1]) (rest := []) (ps_at tX7_size_ok 11 rfl) cvX7_163 sh_30 rfl rfl (fun _ => Nat.le_of_ble_eq_true rfl) ?_
      refine ps_C.imp ?_ (h2 c0 c1)
      rintro _ σ1 ⟨x, rfl, hx⟩
      exact ps_forget (L' := [none, none]) trivial hx
    · skip
      refine ps_ldc (ps_at tX7_size_ok 6 rfl) cnX7_71 ?_
      exact ps_iret (ps_at tX7_size_ok 7 rfl) rfl ⟨rfl, rfl⟩ (h3 c0 c1)
theorem bX7_size_22 {d : Nat} {Q : Option ps_V → ps_S → Prop} {s0 : Int32} {σ : ps_S} (h1 : Q (some (.inl s0)) σ) : kX7_size_22 d Q s0 σ := by
  exact ps_iret (ps_at tX7_size_ok 12 rfl) rfl ⟨rfl, rfl⟩ (h1)
theorem eX7_size {d : Nat} {Q : Option ps_V → ps_S → Prop} {v1 : Int32} {σ : ps_S} (h : kX7_size_0 d Q v1 σ) : ps_C mX7_size (d + 1) [.inr (.inr (1, 0)), .inl v1] σ Q := ps_enter (by decide) rfl ⟨rfl, rfl, rfl⟩ rfl (Nat.le_of_ble_eq_true rfl) h
abbrev kX7_seen_0 (d : Nat) (Q : Option ps_V → ps_S → Prop) (v1 : Int32) (v2 : Int32) (v3 : Int32) (σ : ps_S) : Prop := ps_K mX7_seen (d + 2) (ps_QF Q) 0 [some (.inr (.inr (1, 0))), some (.inl v1), some (.inl v2), some (.inl v3)] [] σ
abbrev kX7_seen_37 (d : Nat) (Q : Option ps_V → ps_S → Prop) (v1 : Int32) (v2 : Int32) (v3 : Int32) (σ : ps_S) : Prop := ps_K mX7_seen (d + 2) (ps_QF Q) 37 [some (.inr (.inr (1, 0))), some (.inl v1), some (.inl v2), some (.inl v3)] [] σ
abbrev kX7_seen_47 (d : Nat) (Q : Option ps_V → ps_S → Prop) (s0 : Int32) (σ : ps_S) : Prop := ps_K mX7_seen (d + 2) (ps_QF Q) 47 [none, none, none, none] [.inl s0] σ
theorem bX7_seen_0 {d : Nat} {Q : Option ps_V → ps_S → Prop} {v1 : Int32} {v2 : Int32} {v3 : Int32} {σ : ps_S} (h1 : (jbWi v1 6) = 0 → Q (some (.inl (-900001))) σ) (h2 : ¬ (jbWi v1 6) = 0 → ¬ (jbWi v2 12) = 0 → v3 = (-900009) → kX7_seen_37 d Q v1 v2 v3 σ) (h3 : ¬ (jbWi v1 6) = 0 → ¬ (jbWi v2 12) = 0 → ¬ v3 = (-900009) → ¬ (jbWi v3 10) = 0 → kX7_seen_37 d Q v1 v2 v3 σ) (h4 : ¬ (jbWi v1 6) = 0 → ¬ (jbWi v2 12) = 0 → ¬ v3 = (-900009) → (jbWi v3 10) = 0 → Q (some (.inl (-900002))) σ) (h5 : ¬ (jbWi v1 6) = 0 → (jbWi v2 12) = 0 → Q (some (.inl (-900001))) σ) : kX7_seen_0 d Q v1 v2 v3 σ := by
  refine ps_iload_n (ps_at tX7_seen_ok 0 rfl) rfl rfl ?_
  refine ps_callS (M2 := mX7_isForme) (av := [.inl v1]) (rest := []) (ps_at tX7_seen_ok 1 rfl) csX7_62 rfl rfl (fun _ => Nat.le_of_ble_eq_true rfl) (pX7_isForme ?_)
  refine ps_if_eq (tgt := 16) (ps_at tX7_seen_ok 2 rfl) (by decide) (fun c0 => ?_) (fun c0 => ?_)
  · skip
    refine ps_ldc (ps_at tX7_seen_ok 7 rfl) cnX7_69 ?_
    exact ps_iret (ps_at tX7_seen_ok 8 rfl) rfl ⟨rfl, rfl⟩ (h1 c0)
  · skip
    refine ps_iload_n (ps_at tX7_seen_ok 3 rfl) rfl rfl ?_
    refine ps_bipush (x := 12) (ps_at tX7_seen_ok 4 rfl) (by decide) ?_
    refine ps_callS (M2 := mX7_within) (av := [.inl v2, .inl 12]) (rest := []) (ps_at tX7_seen_ok 5 rfl) csX7_65 rfl rfl (fun _ => Nat.le_of_ble_eq_true rfl) (pX7_within ?_)
    refine ps_if_ne (tgt := 19) (ps_at tX7_seen_ok 6 rfl) (by decide) (fun c1 => ?_) (fun c1 => ?_)
    · skip
      refine ps_iload_n (ps_at tX7_seen_ok 9 rfl) rfl rfl ?_
      refine ps_ldc (ps_at tX7_seen_ok 10 rfl) cnX7_70 ?_
      refine ps_icmp_eq (tgt := 37) (ps_at tX7_seen_ok 11 rfl) (by decide) (fun c2 => ?_) (fun c2 => ?_)
      · skip
        exact h2 c0 c1 c2
      · skip
        refine ps_iload_n (ps_at tX7_seen_ok 12 rfl) rfl rfl ?_
        refine ps_bipush (x := 10) (ps_at tX7_seen_ok 13 rfl) (by decide) ?_
        refine ps_callS (M2 := mX7_within) (av := [.inl v3, .inl 10]) (rest := []) (ps_at tX7_seen_ok 14 rfl) csX7_65 rfl rfl (fun _ => Nat.le_of_ble_eq_true rfl) (pX7_within ?_)
        refine ps_if_ne (tgt := 37) (ps_at tX7_seen_ok 15 rfl) (by decide) (fun c3 => ?_) (fun c3 => ?_)
        · skip
          exact h3 c0 c1 c2 c3
        · skip
          refine ps_ldc (ps_at tX7_seen_ok 16 rfl) cnX7_71 ?_
          exact ps_iret (ps_at tX7_seen_ok 17 rfl) rfl ⟨rfl, rfl⟩ (h4 c0 c1 c2 c3)
    · skip
      refine ps_ldc (ps_at tX7_seen_ok 7 rfl) cnX7_69 ?_
      exact ps_iret (ps_at tX7_seen_ok 8 rfl) rfl ⟨rfl, rfl⟩ (h5 c0 c1)
theorem bX7_seen_37 {d : Nat} {Q : Option ps_V → ps_S → Prop} {v1 : Int32} {v2 : Int32} {v3 : Int32} {σ : ps_S} (h1 : ps_C mX1_putSeen (d + 1) [.inr (.inr (30, 0)), .inl v1, .inl v2, .inl v3] σ (ps_ri (fun x σ1 => kX7_seen_47 d Q x σ1))) : kX7_seen_37 d Q v1 v2 v3 σ := by
  refine ps_aload_n (ps_at tX7_seen_ok 18 rfl) rfl rfl ?_
  refine ps_getR (ps_at tX7_seen_ok 19 rfl) flX7_47 sh_1 rfl ?_
  refine ps_iload_n (ps_at tX7_seen_ok 20 rfl) rfl rfl ?_
  refine ps_iload_n (ps_at tX7_seen_ok 21 rfl) rfl rfl ?_
  refine ps_iload_n (ps_at tX7_seen_ok 22 rfl) rfl rfl ?_
  refine ps_callV (M2 := mX1_putSeen) (av := [.inl v1, .inl v2, .inl v3]) (rest := []) (ps_at tX7_seen_ok 23 rfl) cvX7_166 sh_30 rfl rfl (fun _ => Nat.le_of_ble_eq_true rfl) ?_
  refine ps_C.imp ?_ (h1)
  rintro _ σ1 ⟨x, rfl, hx⟩
  exact ps_forget (L' := [none, none, none, none]) trivial hx
theorem bX7_seen_47 {d : Nat} {Q : Option ps_V → ps_S → Prop} {s0 : Int32} {σ : ps_S} (h1 : Q (some (.inl s0)) σ) : kX7_seen_47 d Q s0 σ := by
  exact ps_iret (ps_at tX7_seen_ok 24 rfl) rfl ⟨rfl, rfl⟩ (h1)
theorem eX7_seen {d : Nat} {Q : Option ps_V → ps_S → Prop} {v1 : Int32} {v2 : Int32} {v3 : Int32} {σ : ps_S} (h : kX7_seen_0 d Q v1 v2 v3 σ) : ps_C mX7_seen (d + 2) [.inr (.inr (1, 0)), .inl v1, .inl v2, .inl v3] σ Q := ps_enter (by decide) rfl ⟨rfl, rfl, rfl⟩ rfl (Nat.le_of_ble_eq_true rfl) h
abbrev kX7_turns_0 (d : Nat) (Q : Option ps_V → ps_S → Prop) (v1 : Int32) (σ : ps_S) : Prop := ps_K mX7_turns (d + 2) (ps_QF Q) 0 [some (.inr (.inr (1, 0))), some (.inl v1)] [] σ
abbrev kX7_turns_18 (d : Nat) (Q : Option ps_V → ps_S → Prop) (s0 : Int32) (σ : ps_S) : Prop := ps_K mX7_turns (d + 2) (ps_QF Q) 18 [none, none] [.inl s0] σ
theorem bX7_turns_0 {d : Nat} {Q : Option ps_V → ps_S → Prop} {v1 : Int32} {σ : ps_S} (h1 : ¬ (jbWi v1 6) = 0 → ps_C mX1_turnings (d + 1) [.inr (.inr (30, 0)), .inl v1] σ (ps_ri (fun x σ1 => kX7_turns_18 d Q x σ1))) (h2 : (jbWi v1 6) = 0 → Q (some (.inl (-900001))) σ) : kX7_turns_0 d Q v1 σ := by
  refine ps_iload_n (ps_at tX7_turns_ok 0 rfl) rfl rfl ?_
  refine ps_callS (M2 := mX7_isForme) (av := [.inl v1]) (rest := []) (ps_at tX7_turns_ok 1 rfl) csX7_62 rfl rfl (fun _ => Nat.le_of_ble_eq_true rfl) (pX7_isForme ?_)
  refine ps_if_ne (tgt := 10) (ps_at tX7_turns_ok 2 rfl) (by decide) (fun c0 => ?_) (fun c0 => ?_)
  · skip
    refine ps_aload_n (ps_at tX7_turns_ok 5 rfl) rfl rfl ?_
    refine ps_getR (ps_at tX7_turns_ok 6 rfl) flX7_47 sh_1 rfl ?_
    refine ps_iload_n (ps_at tX7_turns_ok 7 rfl) rfl rfl ?_
    refine ps_callV (M2 := mX1_turnings) (av := [.inl v1]) (rest := []) (ps_at tX7_turns_ok 8 rfl) cvX7_169 sh_30 rfl rfl (fun _ => Nat.le_of_ble_eq_true rfl) ?_
    refine ps_C.imp ?_ (h1 c0)
    rintro _ σ1 ⟨x, rfl, hx⟩
    exact ps_forget (L' := [none, none]) trivial hx
  · skip
    refine ps_ldc (ps_at tX7_turns_ok 3 rfl) cnX7_69 ?_
    exact ps_iret (ps_at tX7_turns_ok 4 rfl) rfl ⟨rfl, rfl⟩ (h2 c0)
theorem bX7_turns_18 {d : Nat} {Q : Option ps_V → ps_S → Prop} {s0 : Int32} {σ : ps_S} (h1 : Q (some (.inl s0)) σ) : kX7_turns_18 d Q s0 σ := by
  exact ps_iret (ps_at tX7_turns_ok 9 rfl) rfl ⟨rfl, rfl⟩ (h1)
theorem eX7_turns {d : Nat} {Q : Option ps_V → ps_S → Prop} {v1 : Int32} {σ : ps_S} (h : kX7_turns_0 d Q v1 σ) : ps_C mX7_turns (d + 2) [.inr (.inr (1, 0)), .inl v1] σ Q := ps_enter (by decide) rfl ⟨rfl, rfl, rfl⟩ rfl (Nat.le_of_ble_eq_true rfl) h
abbrev kX7_turned_0 (d : Nat) (Q : Option ps_V → ps_S → Prop) (v1 : Int32) (v2 : Int32) (σ : ps_S) : Prop := ps_K mX7_turned (d + 2) (ps_QF Q) 0 [some (.inr (.inr (1, 0))), some (.inl v1), some (.inl v2)] [] σ
abbrev kX7_turned_34 (d : Nat) (Q : Option ps_V → ps_S → Prop) (s0 : Int32) (σ : ps_S) : Prop := ps_K mX7_turned (d + 2) (ps_QF Q) 34 [none, none, none] [.inl s0] σ
theorem bX7_turned_0 {d : Nat} {Q : Option ps_V → ps_S → Prop} {v1 : Int32} {v2 : Int32} {σ : ps_S} (h1 : (jbWi v1 6) = 0 → Q (some (.inl (-900001))) σ) (h2 : ¬ (jbWi v1 6) = 0 → vp_in v1 6) (h3 : ¬ (jbWi v1 6) = 0 → ¬ (σ 30 0 3) = 0) (h4 : ¬ (jbWi v1 6) = 0 → ¬ (jbWi v2 (jX1_heapCount σ v1)) = 0 → ps_C mX1_choices (d + 1) [.inr (.inr (30, 0)), .inl v1, .inl v2] σ (ps_ri (fun x σ1 => kX7_turned_34 d Q x σ1))) (h5 : ¬ (jbWi v1 6) = 0 → (jbWi v2 (jX1_heapCount σ v1)) = 0 → Q (some (.inl (-900001))) σ) : kX7_turned_0 d Q v1 v2 σ := by
  refine ps_iload_n (ps_at tX7_turned_ok 0 rfl) rfl rfl ?_
  refine ps_callS (M2 := mX7_isForme) (av := [.inl v1]) (rest := []) (ps_at tX7_turned_ok 1 rfl) csX7_62 rfl rfl (fun _ => Nat.le_of_ble_eq_true rfl) (pX7_isForme ?_)
  refine ps_if_eq (tgt := 22) (ps_at tX7_turned_ok 2 rfl) (by decide) (fun c0 => ?_) (fun c0 => ?_)
  · skip
    refine ps_ldc (ps_at tX7_turned_ok 10 rfl) cnX7_69 ?_
    exact ps_iret (ps_at tX7_turned_ok 11 rfl) rfl ⟨rfl, rfl⟩ (h1 c0)
  · skip
    refine ps_iload_n (ps_at tX7_turned_ok 3 rfl) rfl rfl ?_
    refine ps_aload_n (ps_at tX7_turned_ok 4 rfl) rfl rfl ?_
    refine ps_getR (ps_at tX7_turned_ok 5 rfl) flX7_47 sh_1 rfl ?_
    refine ps_iload_n (ps_at tX7_turned_ok 6 rfl) rfl rfl ?_
    refine ps_callV (M2 := mX1_heapCount) (av := [.inl v1]) (rest := [.inl v2]) (ps_at tX7_turned_ok 7 rfl) cvX7_172 sh_30 rfl rfl (fun _ => Nat.le_of_ble_eq_true rfl) (pX1_heapCount (h2 c0) (h3 c0) ?_)
    refine ps_callS (M2 := mX7_within) (av := [.inl v2, .inl (jX1_heapCount σ v1)]) (rest := []) (ps_at tX7_turned_ok 8 rfl) csX7_65 rfl rfl (fun _ => Nat.le_of_ble_eq_true rfl) (pX7_within ?_)
    refine ps_if_ne (tgt := 25) (ps_at tX7_turned_ok 9 rfl) (by decide) (fun c1 => ?_) (fun c1 => ?_)
    · skip
      refine ps_aload_n (ps_at tX7_turned_ok 12 rfl) rfl rfl ?_
      refine ps_getR (ps_at tX7_turned_ok 13 rfl) flX7_47 sh_1 rfl ?_
      refine ps_iload_n (ps_at tX7_turned_ok 14 rfl) rfl rfl ?_
      refine ps_iload_n (ps_at tX7_turned_ok 15 rfl) rfl rfl ?_
      refine ps_callV (M2 := mX1_choices) (av := [.inl v1, .inl v2]) (rest := []) (ps_at tX7_turned_ok 16 rfl) cvX7_175 sh_30 rfl rfl (fun _ => Nat.le_of_ble_eq_true rfl) ?_
      refine ps_C.imp ?_ (h4 c0 c1)
      rintro _ σ1 ⟨x, rfl, hx⟩
      exact ps_forget (L' := [none, none, none]) trivial hx
    · skip
      refine ps_ldc (ps_at tX7_turned_ok 10 rfl) cnX7_69 ?_
      exact ps_iret (ps_at tX7_turned_ok 11 rfl) rfl ⟨rfl, rfl⟩ (h5 c0 c1)
theorem bX7_turned_34 {d : Nat} {Q : Option ps_V → ps_S → Prop} {s0 : Int32} {σ : ps_S} (h1 : Q (some (.inl s0)) σ) : kX7_turned_34 d Q s0 σ := by
  exact ps_iret (ps_at tX7_turned_ok 17 rfl) rfl ⟨rfl, rfl⟩ (h1)
theorem eX7_turned {d : Nat} {Q : Option ps_V → ps_S → Prop} {v1 : Int32} {v2 : Int32} {σ : ps_S} (h : kX7_turned_0 d Q v1 v2 σ) : ps_C mX7_turned (d + 2) [.inr (.inr (1, 0)), .inl v1, .inl v2] σ Q := ps_enter (by decide) rfl ⟨rfl, rfl, rfl⟩ rfl (Nat.le_of_ble_eq_true rfl) h
abbrev kX7_bound_0 (d : Nat) (Q : Option ps_V → ps_S → Prop) (v1 : Int32) (v2 : Int32) (v3 : Int32) (σ : ps_S) : Prop := ps_K mX7_bound (d + 3) (ps_QF Q) 0 [some (.inr (.inr (1, 0))), some (.inl v1), some (.inl v2), some (.inl v3)] [] σ
theorem bX7_bound_0 {d : Nat} {Q : Option ps_V → ps_S → Prop} {v1 : Int32} {v2 : Int32} {v3 : Int32} {σ : ps_S} (h1 : (jbWi v1 6) = 0 → Q (some (.inl (-900001))) σ) (h2 : ¬ (jbWi v1 6) = 0 → ¬ (jbWi v2 12) = 0 → vp_in v1 6) (h3 : ¬ (jbWi v1 6) = 0 → ¬ (jbWi v2 12) = 0 → v2 < (σ 33 0 v1.toNatClampNeg) → v3 = 0 → ¬ (σ 30 0 3) = 0) (h4 : ¬ (jbWi v1 6) = 0 → ¬ (jbWi v2 12) = 0 → v2 < (σ 33 0 v1.toNatClampNeg) → v3 = 0 → vp_in (((jX1_heapEnd σ v1 (v2 / (σ 30 0 3))) - 1) - (v2 - ((v2 / (σ 30 0 3)) * (σ 30 0 3)))) 12) (h5 : ¬ (jbWi v1 6) = 0 → ¬ (jbWi v2 12) = 0 → v2 < (σ 33 0 v1.toNatClampNeg) → ¬ v3 = 0 → vp_in v2 12) (h6 : ¬ (jbWi v1 6) = 0 → ¬ (jbWi v2 12) = 0 → Q (some (.inl (jX1_kindIn σ v1 v2 v3))) σ) (h7 : ¬ (jbWi v1 6) = 0 → (jbWi v2 12) = 0 → Q (some (.inl (-900001))) σ) : kX7_bound_0 d Q v1 v2 v3 σ := by
  refine ps_iload_n (ps_at tX7_bound_ok 0 rfl) rfl rfl ?_
  refine ps_callS (M2 := mX7_isForme) (av := [.inl v1]) (rest := []) (ps_at tX7_bound_ok 1 rfl) csX7_62 rfl rfl (fun _ => Nat.le_of_ble_eq_true rfl) (pX7_isForme ?_)
  refine ps_if_eq (tgt := 16) (ps_at tX7_bound_ok 2 rfl) (by decide) (fun c0 => ?_) (fun c0 => ?_)
  · skip
    refine ps_ldc (ps_at tX7_bound_ok 7 rfl) cnX7_69 ?_
    exact ps_iret (ps_at tX7_bound_ok 8 rfl) rfl ⟨rfl, rfl⟩ (h1 c0)
  · skip
    refine ps_iload_n (ps_at tX7_bound_ok 3 rfl) rfl rfl ?_
    refine ps_bipush (x := 12) (ps_at tX7_bound_ok 4 rfl) (by decide) ?_
    refine ps_callS (M2 := mX7_within) (av := [.inl v2, .inl 12]) (rest := []) (ps_at tX7_bound_ok 5 rfl) csX7_65 rfl rfl (fun _ => Nat.le_of_ble_eq_true rfl) (pX7_within ?_)
    refine ps_if_ne (tgt := 19) (ps_at tX7_bound_ok 6 rfl) (by decide) (fun c1 => ?_) (fun c1 => ?_)
    · skip
      refine ps_aload_n (ps_at tX7_bound_ok 9 rfl) rfl rfl ?_
      refine ps_getR (ps_at tX7_bound_ok 10 rfl) flX7_47 sh_1 rfl ?_
      refine ps_iload_n (ps_at tX7_bound_ok 11 rfl) rfl rfl ?_
      refine ps_iload_n (ps_at tX7_bound_ok 12 rfl) rfl rfl ?_
      refine ps_iload_n (ps_at tX7_bound_ok 13 rfl) rfl rfl ?_
      refine ps_callV (M2 := mX1_kindIn) (av := [.inl v1, .inl v2, .inl v3]) (rest := []) (ps_at tX7_bound_ok 14 rfl) cvX7_178 sh_30 rfl rfl (fun _ => Nat.le_of_ble_eq_true rfl) (pX1_kindIn (h2 c0 c1) (h3 c0 c1) (h4 c0 c1) (h5 c0 c1) ?_)
      exact ps_iret (ps_at tX7_bound_ok 15 rfl) rfl ⟨rfl, rfl⟩ (h6 c0 c1)
    · skip
      refine ps_ldc (ps_at tX7_bound_ok 7 rfl) cnX7_69 ?_
      exact ps_iret (ps_at tX7_bound_ok 8 rfl) rfl ⟨rfl, rfl⟩ (h7 c0 c1)
theorem eX7_bound {d : Nat} {Q : Option ps_V → ps_S → Prop} {v1 : Int32} {v2 : Int32} {v3 : Int32} {σ : ps_S} (h : kX7_bound_0 d Q v1 v2 v3 σ) : ps_C mX7_bound (d + 3) [.inr (.inr (1, 0)), .inl v1, .inl v2, .inl v3] σ Q := ps_enter (by decide) rfl ⟨rfl, rfl, rfl⟩ rfl (Nat.le_of_ble_eq_true rfl) h
abbrev kX7_house_0 (d : Nat) (Q : Option ps_V → ps_S → Prop) (v1 : Int32) (v2 : Int32) (σ : ps_S) : Prop := ps_K mX7_house (d + 1) (ps_QF Q) 0 [some (.inr (.inr (1, 0))), some (.inl v1), some (.inl v2)] [] σ
abbrev kX7_house_33 (d : Nat) (Q : Option ps_V → ps_S → Prop) (s0 : Int32) (σ : ps_S) : Prop := ps_K mX7_house (d + 1) (ps_QF Q) 33 [none, none, none] [.inl s0] σ
theorem bX7_house_0 {d : Nat} {Q : Option ps_V → ps_S → Prop} {v1 : Int32} {v2 : Int32} {σ : ps_S} (h1 : v1 < 1 → Q (some (.inl (-900002))) σ) (h2 : ¬ v1 < 1 → 4 < v1 → Q (some (.inl (-900002))) σ) (h3 : ¬ v1 < 1 → ¬ 4 < v1 → v2 < 1 → Q (some (.inl (-900002))) σ) (h4 : ¬ v1 < 1 → ¬ 4 < v1 → ¬ v2 < 1 → v2 ≤ 12 → ps_C mX2_putHouse d [.inr (.inr (36, 0)), .inl v1, .inl v2] σ (ps_ri (fun x σ1 => kX7_house_33 d Q x σ1))) (h5 : ¬ v1 < 1 → ¬ 4 < v1 → ¬ v2 < 1 → ¬ v2 ≤ 12 → Q (some (.inl (-900002))) σ) : kX7_house_0 d Q v1 v2 σ := by
  refine ps_iload_n (ps_at tX7_house_ok 0 rfl) rfl rfl ?_
  refine ps_iconst (x := 1) (ps_at tX7_house_ok 1 rfl) (by decide) ?_
  refine ps_icmp_lt (tgt := 21) (ps_at tX7_house_ok 2 rfl) (by decide) (fun c0 => ?_) (fun c0 => ?_)
  · skip
    refine ps_ldc (ps_at tX7_house_ok 12 rfl) cnX7_71 ?_
    exact ps_iret (ps_at tX7_house_ok 13 rfl) rfl ⟨rfl, rfl⟩ (h1 c0)
  · skip
    refine ps_iload_n (ps_at tX7_house_ok 3 rfl) rfl rfl ?_
    refine ps_iconst (x := 4) (ps_at tX7_house_ok 4 rfl) (by decide) ?_
    refine ps_icmp_gt (tgt := 21) (ps_at tX7_house_ok 5 rfl) (by decide) (fun c1 => ?_) (fun c1 => ?_)
    · skip
      refine ps_ldc (ps_at tX7_house_ok 12 rfl) cnX7_71 ?_
      exact ps_iret (ps_at tX7_house_ok 13 rfl) rfl ⟨rfl, rfl⟩ (h2 c0 c1)
    · skip
      refine ps_iload_n (ps_at tX7_house_ok 6 rfl) rfl rfl ?_
      refine ps_iconst (x := 1) (ps_at tX7_house_ok 7 rfl) (by decide) ?_
      refine ps_icmp_lt (tgt := 21) (ps_at tX7_house_ok 8 rfl) (by decide) (fun c2 => ?_) (fun c2 => ?_)
      · skip
        refine ps_ldc (ps_at tX7_house_ok 12 rfl) cnX7_71 ?_
        exact ps_iret (ps_at tX7_house_ok 13 rfl) rfl ⟨rfl, rfl⟩ (h3 c0 c1 c2)
      · skip
        refine ps_iload_n (ps_at tX7_house_ok 9 rfl) rfl rfl ?_
        refine ps_bipush (x := 12) (ps_at tX7_house_ok 10 rfl) (by decide) ?_
        refine ps_icmp_le (tgt := 24) (ps_at tX7_house_ok 11 rfl) (by decide) (fun c3 => ?_) (fun c3 => ?_)
        · skip
          refine ps_aload_n (ps_at tX7_house_ok 14 rfl) rfl rfl ?_
          refine ps_getR (ps_at tX7_house_ok 15 rfl) flX7_54 sh_1 rfl ?_
          refine ps_iload_n (ps_at tX7_house_ok 16 rfl) rfl rfl ?_
          refine ps_iload_n (ps_at tX7_house_ok 17 rfl) rfl rfl ?_
          refine ps_callV (M2 := mX2_putHouse) (av := [.inl v1, .inl v2]) (rest := []) (ps_at tX7_house_ok 18 rfl) cvX7_181 sh_36 rfl rfl (fun _ => Nat.le_of_ble_eq_true rfl) ?_
          refine ps_C.imp ?_ (h4 c0 c1 c2 c3)
          rintro _ σ1 ⟨x, rfl, hx⟩
          exact ps_forget (L' := [none, none, none]) trivial hx
        · skip
          refine ps_ldc (ps_at tX7_house_ok 12 rfl) cnX7_71 ?_
          exact ps_iret (ps_at tX7_house_ok 13 rfl) rfl ⟨rfl, rfl⟩ (h5 c0 c1 c2 c3)
theorem bX7_house_33 {d : Nat} {Q : Option ps_V → ps_S → Prop} {s0 : Int32} {σ : ps_S} (h1 : Q (some (.inl s0)) σ) : kX7_house_33 d Q s0 σ := by
  exact ps_iret (ps_at tX7_house_ok 19 rfl) rfl ⟨rfl, rfl⟩ (h1)
theorem eX7_house {d : Nat} {Q : Option ps_V → ps_S → Prop} {v1 : Int32} {v2 : Int32} {σ : ps_S} (h : kX7_house_0 d Q v1 v2 σ) : ps_C mX7_house (d + 1) [.inr (.inr (1, 0)), .inl v1, .inl v2] σ Q := ps_enter (by decide) rfl ⟨rfl, rfl, rfl⟩ rfl (Nat.le_of_ble_eq_true rfl) h
abbrev kX7_habit_0 (d : Nat) (Q : Option ps_V → ps_S → Prop) (v1 : Int32) (v2 : Int32) (v3 : Int32) (σ : ps_S) : Prop := ps_K mX7_habit (d + 2) (ps_QF Q) 0 [some (.inr (.inr (1, 0))), some (.inl v1), some (.inl v2), some (.inl v3)] [] σ
abbrev kX7_habit_37 (d : Nat) (Q : Option ps_V → ps_S → Prop) (v1 : Int32) (v2 : Int32) (v3 : Int32) (σ : ps_S) : Prop := ps_K mX7_habit (d + 2) (ps_QF Q) 37 [some (.inr (.inr (1, 0))), some (.inl v1), some (.inl v2), some (.inl v3)] [] σ
abbrev kX7_habit_47 (d : Nat) (Q : Option ps_V → ps_S → Prop) (s0 : Int32) (σ : ps_S) : Prop := ps_K mX7_habit (d + 2) (ps_QF Q) 47 [none, none, none, none] [.inl s0] σ
theorem bX7_habit_0 {d : Nat} {Q : Option ps_V → ps_S → Prop} {v1 : Int32} {v2 : Int32} {v3 : Int32} {σ : ps_S} (h1 : (jX7_isMan σ v1) = 0 → Q (some (.inl (-900001))) σ) (h2 : ¬ (jX7_isMan σ v1) = 0 → ¬ (jbWi v2 6) = 0 → v3 = (-900009) → kX7_habit_37 d Q v1 v2 v3 σ) (h3 : ¬ (jX7_isMan σ v1) = 0 → ¬ (jbWi v2 6) = 0 → ¬ v3 = (-900009) → ¬ (jbWi v3 2) = 0 → kX7_habit_37 d Q v1 v2 v3 σ) (h4 : ¬ (jX7_isMan σ v1) = 0 → ¬ (jbWi v2 6) = 0 → ¬ v3 = (-900009) → (jbWi v3 2) = 0 → Q (some (.inl (-900002))) σ) (h5 : ¬ (jX7_isMan σ v1) = 0 → (jbWi v2 6) = 0 → Q (some (.inl (-900001))) σ) : kX7_habit_0 d Q v1 v2 v3 σ := by
  refine ps_aload_n (ps_at tX7_habit_ok 0 rfl) rfl rfl ?_
  refine ps_iload_n (ps_at tX7_habit_ok 1 rfl) rfl rfl ?_
  refine ps_callV (M2 := mX7_isMan) (av := [.inl v1]) (rest := []) (ps_at tX7_habit_ok 2 rfl) cvX7_184 sh_1 rfl rfl (fun _ => Nat.le_of_ble_eq_true rfl) (pX7_isMan ?_)
  refine ps_if_eq (tgt := 17) (ps_at tX7_habit_ok 3 rfl) (by decide) (fun c0 => ?_) (fun c0 => ?_)
  · skip
    refine ps_ldc (ps_at tX7_habit_ok 8 rfl) cnX7_69 ?_
    exact ps_iret (ps_at tX7_habit_ok 9 rfl) rfl ⟨rfl, rfl⟩ (h1 c0)
  · skip
    refine ps_iload_n (ps_at tX7_habit_ok 4 rfl) rfl rfl ?_
    refine ps_bipush (x := 6) (ps_at tX7_habit_ok 5 rfl) (by decide) ?_
    refine ps_callS (M2 := mX7_within) (av := [.inl v2, .inl 6]) (rest := []) (ps_at tX7_habit_ok 6 rfl) csX7_65 rfl rfl (fun _ => Nat.le_of_ble_eq_true rfl) (pX7_within ?_)
    refine ps_if_ne (tgt := 20) (ps_at tX7_habit_ok 7 rfl) (by decide) (fun c1 => ?_) (fun c1 => ?_)
    · skip
      refine ps_iload_n (ps_at tX7_habit_ok 10 rfl) rfl rfl ?_
      refine ps_ldc (ps_at tX7_habit_ok 11 rfl) cnX7_70 ?_
      refine ps_icmp_eq (tgt := 37) (ps_at tX7_habit_ok 12 rfl) (by decide) (fun c2 => ?_) (fun c2 => ?_)
      · skip
        exact h2 c0 c1 c2
      · skip
        refine ps_iload_n (ps_at tX7_habit_ok 13 rfl) rfl rfl ?_
        refine ps_iconst (x := 2) (ps_at tX7_habit_ok 14 rfl) (by decide) ?_
        refine ps_callS (M2 := mX7_within) (av := [.inl v3, .inl 2]) (rest := []) (ps_at tX7_habit_ok 15 rfl) csX7_65 rfl rfl (fun _ => Nat.le_of_ble_eq_true rfl) (pX7_within ?_)
        refine ps_if_ne (tgt := 37) (ps_at tX7_habit_ok 16 rfl) (by decide) (fun c3 => ?_) (fun c3 => ?_)
        · skip
          exact h3 c0 c1 c2 c3
        · skip
          refine ps_ldc (ps_at tX7_habit_ok 17 rfl) cnX7_71 ?_
          exact ps_iret (ps_at tX7_habit_ok 18 rfl) rfl ⟨rfl, rfl⟩ (h4 c0 c1 c2 c3)
    · skip
      refine ps_ldc (ps_at tX7_habit_ok 8 rfl) cnX7_69 ?_
      exact ps_iret (ps_at tX7_habit_ok 9 rfl) rfl ⟨rfl, rfl⟩ (h5 c0 c1)
theorem bX7_habit_37 {d : Nat} {Q : Option ps_V → ps_S → Prop} {v1 : Int32} {v2 : Int32} {v3 : Int32} {σ : ps_S} (h1 : ps_C mX2_putHabit (d + 1) [.inr (.inr (36, 0)), .inl v1, .inl v2, .inl v3] σ (ps_ri (fun x σ1 => kX7_habit_47 d Q x σ1))) : kX7_habit_37 d Q v1 v2 v3 σ := by
  refine ps_aload_n (ps_at tX7_habit_ok 19 rfl) rfl rfl ?_
  refine ps_getR (ps_at tX7_habit_ok 20 rfl) flX7_54 sh_1 rfl ?_
  refine ps_iload_n (ps_at tX7_habit_ok 21 rfl) rfl rfl ?_
  refine ps_iload_n (ps_at tX7_habit_ok 22 rfl) rfl rfl ?_
  refine ps_iload_n (ps_at tX7_habit_ok 23 rfl) rfl rfl ?_
  refine ps_callV (M2 := mX2_putHabit) (av := [.inl v1, .inl v2, .inl v3]) (rest := []) (ps_at tX7_habit_ok 24 rfl) cvX7_187 sh_36 rfl rfl (fun _ => Nat.le_of_ble_eq_true rfl) ?_
  refine ps_C.imp ?_ (h1)
  rintro _ σ1 ⟨x, rfl, hx⟩
  exact ps_forget (L' := [none, none, none, none]) trivial hx
theorem bX7_habit_47 {d : Nat} {Q : Option ps_V → ps_S → Prop} {s0 : Int32} {σ : ps_S} (h1 : Q (some (.inl s0)) σ) : kX7_habit_47 d Q s0 σ := by
  exact ps_iret (ps_at tX7_habit_ok 25 rfl) rfl ⟨rfl, rfl⟩ (h1)
theorem eX7_habit {d : Nat} {Q : Option ps_V → ps_S → Prop} {v1 : Int32} {v2 : Int32} {v3 : Int32} {σ : ps_S} (h : kX7_habit_0 d Q v1 v2 v3 σ) : ps_C mX7_habit (d + 2) [.inr (.inr (1, 0)), .inl v1, .inl v2, .inl v3] σ Q := ps_enter (by decide) rfl ⟨rfl, rfl, rfl⟩ rfl (Nat.le_of_ble_eq_true rfl) h
abbrev kX7_spell_0 (d : Nat) (Q : Option ps_V → ps_S → Prop) (v1 : Int32) (v2 : Int32) (v3 : Int32) (v4 : Int32) (σ : ps_S) : Prop := ps_K mX7_spell (d + 2) (ps_QF Q) 0 [some (.inr (.inr (1, 0))), some (.inl v1), some (.inl v2), some (.inl v3), some (.inl v4)] [] σ
abbrev kX7_spell_53 (d : Nat) (Q : Option ps_V → ps_S → Prop) (s0 : Int32) (σ : ps_S) : Prop := ps_K mX7_spell (d + 2) (ps_QF Q) 53 [none, none, none, none, none] [.inl s0] σ
theorem bX7_spell_0 {d : Nat} {Q : Option ps_V → ps_S → Prop} {v1 : Int32} {v2 : Int32} {v3 : Int32} {v4 : Int32} {σ : ps_S} (h1 : (jX7_isPage σ v1) = 0 → Q (some (.inl (-900001))) σ) (h2 : ¬ (jX7_isPage σ v1) = 0 → ¬ (jbWi v2 6) = 0 → (jbWi v3 2) = 0 → Q (some (.inl (-900002))) σ) (h3 : ¬ (jX7_isPage σ v1) = 0 → ¬ (jbWi v2 6) = 0 → ¬ (jbWi v3 2) = 0 → ¬ (jbWi v4 10) = 0 → ps_C mX2_putTimes (d + 1) [.inr (.inr (36, 0)), .inl v1, .inl v2, .inl v3, .inl v4] σ (ps_ri (fun x σ1 => kX7_spell_53 d Q x σ1))) (h4 : ¬ (jX7_isPage σ v1) = 0 → ¬ (jbWi v2 6) = 0 → ¬ (jbWi v3 2) = 0 → (jbWi v4 10) = 0 → Q (some (.inl (-900002))) σ) (h5 : ¬ (jX7_isPage σ v1) = 0 → (jbWi v2 6) = 0 → Q (some (.inl (-900001))) σ) : kX7_spell_0 d Q v1 v2 v3 v4 σ := by
  refine ps_aload_n (ps_at tX7_spell_ok 0 rfl) rfl rfl ?_
  refine ps_iload_n (ps_at tX7_spell_ok 1 rfl) rfl rfl ?_
  refine ps_callV (M2 := mX7_isPage) (av := [.inl v1]) (rest := []) (ps_at tX7_spell_ok 2 rfl) cvX7_190 sh_1 rfl rfl (fun _ => Nat.le_of_ble_eq_true rfl) (pX7_isPage ?_)
  refine ps_if_eq (tgt := 17) (ps_at tX7_spell_ok 3 rfl) (by decide) (fun c0 => ?_) (fun c0 => ?_)
  · skip
    refine ps_ldc (ps_at tX7_spell_ok 8 rfl) cnX7_69 ?_
    exact ps_iret (ps_at tX7_spell_ok 9 rfl) rfl ⟨rfl, rfl⟩ (h1 c0)
  · skip
    refine ps_iload_n (ps_at tX7_spell_ok 4 rfl) rfl rfl ?_
    refine ps_bipush (x := 6) (ps_at tX7_spell_ok 5 rfl) (by decide) ?_
    refine ps_callS (M2 := mX7_within) (av := [.inl v2, .inl 6]) (rest := []) (ps_at tX7_spell_ok 6 rfl) csX7_65 rfl rfl (fun _ => Nat.le_of_ble_eq_true rfl) (pX7_within ?_)
    refine ps_if_ne (tgt := 20) (ps_at tX7_spell_ok 7 rfl) (by decide) (fun c1 => ?_) (fun c1 => ?_)
    · skip
      refine ps_iload_n (ps_at tX7_spell_ok 10 rfl) rfl rfl ?_
      refine ps_iconst (x := 2) (ps_at tX7_spell_ok 11 rfl) (by decide) ?_
      refine ps_callS (M2 := mX7_within) (av := [.inl v3, .inl 2]) (rest := []) (ps_at tX7_spell_ok 12 rfl) csX7_65 rfl rfl (fun _ => Nat.le_of_ble_eq_true rfl) (pX7_within ?_)
      refine ps_if_eq (tgt := 38) (ps_at tX7_spell_ok 13 rfl) (by decide) (fun c2 => ?_) (fun c2 => ?_)
      · skip
        refine ps_ldc (ps_at tX7_spell_ok 18 rfl) cnX7_71 ?_
        exact ps_iret (ps_at tX7_spell_ok 19 rfl) rfl ⟨rfl, rfl⟩ (h2 c0 c1 c2)
      · skip
        refine ps_iload (ps_at tX7_spell_ok 14 rfl) rfl ?_
        refine ps_bipush (x := 10) (ps_at tX7_spell_ok 15 rfl) (by decide) ?_
        refine ps_callS (M2 := mX7_within) (av := [.inl v4, .inl 10]) (rest := []) (ps_at tX7_spell_ok 16 rfl) csX7_65 rfl rfl (fun _ => Nat.le_of_ble_eq_true rfl) (pX7_within ?_)
        refine ps_if_ne (tgt := 41) (ps_at tX7_spell_ok 17 rfl) (by decide) (fun c3 => ?_) (fun c3 => ?_)
        · skip
          refine ps_aload_n (ps_at tX7_spell_ok 20 rfl) rfl rfl ?_
          refine ps_getR (ps_at tX7_spell_ok 21 rfl) flX7_54 sh_1 rfl ?_
          refine ps_iload_n (ps_at tX7_spell_ok 22 rfl) rfl rfl ?_
          refine ps_iload_n (ps_at tX7_spell_ok 23 rfl) rfl rfl ?_
          refine ps_iload_n (ps_at tX7_spell_ok 24 rfl) rfl rfl ?_
          refine ps_iload (ps_at tX7_spell_ok 25 rfl) rfl ?_
          refine ps_callV (M2 := mX2_putTimes) (av := [.inl v1, .inl v2, .inl v3, .inl v4]) (rest := []) (ps_at tX7_spell_ok 26 rfl) cvX7_193 sh_36 rfl rfl (fun _ => Nat.le_of_ble_eq_true rfl) ?_
          refine ps_C.imp ?_ (h3 c0 c1 c2 c3)
          rintro _ σ1 ⟨x, rfl, hx⟩
          exact ps_forget (L' := [none, none, none, none, none]) trivial hx
        · skip
          refine ps_ldc (ps_at tX7_spell_ok 18 rfl) cnX7_71 ?_
          exact ps_iret (ps_at tX7_spell_ok 19 rfl) rfl ⟨rfl, rfl⟩ (h4 c0 c1 c2 c3)
    · skip
      refine ps_ldc (ps_at tX7_spell_ok 8 rfl) cnX7_69 ?_
      exact ps_iret (ps_at tX7_spell_ok 9 rfl) rfl ⟨rfl, rfl⟩ (h5 c0 c1)
theorem bX7_spell_53 {d : Nat} {Q : Option ps_V → ps_S → Prop} {s0 : Int32} {σ : ps_S} (h1 : Q (some (.inl s0)) σ) : kX7_spell_53 d Q s0 σ := by
  exact ps_iret (ps_at tX7_spell_ok 27 rfl) rfl ⟨rfl, rfl⟩ (h1)
theorem eX7_spell {d : Nat} {Q : Option ps_V → ps_S → Prop} {v1 : Int32} {v2 : Int32} {v3 : Int32} {v4 : Int32} {σ : ps_S} (h : kX7_spell_0 d Q v1 v2 v3 v4 σ) : ps_C mX7_spell (d + 2) [.inr (.inr (1, 0)), .inl v1, .inl v2, .inl v3, .inl v4] σ Q := ps_enter (by decide) rfl ⟨rfl, rfl, rfl⟩ rfl (Nat.le_of_ble_eq_true rfl) h
abbrev kX7_change_0 (d : Nat) (Q : Option ps_V → ps_S → Prop) (v1 : Int32) (σ : ps_S) : Prop := ps_K mX7_change (d + 1) (ps_QF Q) 0 [some (.inr (.inr (1, 0))), some (.inl v1)] [] σ
abbrev kX7_change_21 (d : Nat) (Q : Option ps_V → ps_S → Prop) (s0 : Int32) (σ : ps_S) : Prop := ps_K mX7_change (d + 1) (ps_QF Q) 21 [none, none] [.inl s0] σ
theorem bX7_change_0 {d : Nat} {Q : Option ps_V → ps_S → Prop} {v1 : Int32} {σ : ps_S} (h1 : v1 < 0 → Q (some (.inl (-900002))) σ) (h2 : ¬ v1 < 0 → v1 ≤ 99 → ps_C mX2_putChange d [.inr (.inr (36, 0)), .inl v1] σ (ps_ri (fun x σ1 => kX7_change_21 d Q x σ1))) (h3 : ¬ v1 < 0 → ¬ v1 ≤ 99 → Q (some (.inl (-900002))) σ) : kX7_change_0 d Q v1 σ := by
  refine ps_iload_n (ps_at tX7_change_ok 0 rfl) rfl rfl ?_
  refine ps_if_lt (tgt := 10) (ps_at tX7_change_ok 1 rfl) (by decide) (fun c0 => ?_) (fun c0 => ?_)
  · skip
    refine ps_ldc (ps_at tX7_change_ok 5 rfl) cnX7_71 ?_
    exact ps_iret (ps_at tX7_change_ok 6 rfl) rfl ⟨rfl, rfl⟩ (h1 c0)
  · skip
    refine ps_iload_n (ps_at tX7_change_ok 2 rfl) rfl rfl ?_
    refine ps_bipush (x := 99) (ps_at tX7_change_ok 3 rfl) (by decide) ?_
    refine ps_icmp_le (tgt := 13) (ps_at tX7_change_ok 4 rfl) (by decide) (fun c1 => ?_) (fun c1 => ?_)
    · skip
      refine ps_aload_n (ps_at tX7_change_ok 7 rfl) rfl rfl ?_
      refine ps_getR (ps_at tX7_change_ok 8 rfl) flX7_54 sh_1 rfl ?_
      refine ps_iload_n (ps_at tX7_change_ok 9 rfl) rfl rfl ?_
      refine ps_callV (M2 := mX2_putChange) (av := [.inl v1]) (rest := []) (ps_at tX7_change_ok 10 rfl) cvX7_197 sh_36 rfl rfl (fun _ => Nat.le_of_ble_eq_true rfl) ?_
      refine ps_C.imp ?_ (h2 c0 c1)
      rintro _ σ1 ⟨x, rfl, hx⟩
      exact ps_forget (L' := [none, none]) trivial hx
    · skip
      refine ps_ldc (ps_at tX7_change_ok 5 rfl) cnX7_71 ?_
      exact ps_iret (ps_at tX7_change_ok 6 rfl) rfl ⟨rfl, rfl⟩ (h3 c0 c1)
theorem bX7_change_21 {d : Nat} {Q : Option ps_V → ps_S → Prop} {s0 : Int32} {σ : ps_S} (h1 : Q (some (.inl s0)) σ) : kX7_change_21 d Q s0 σ := by
  exact ps_iret (ps_at tX7_change_ok 11 rfl) rfl ⟨rfl, rfl⟩ (h1)
theorem eX7_change {d : Nat} {Q : Option ps_V → ps_S → Prop} {v1 : Int32} {σ : ps_S} (h : kX7_change_0 d Q v1 σ) : ps_C mX7_change (d + 1) [.inr (.inr (1, 0)), .inl v1] σ Q := ps_enter (by decide) rfl ⟨rfl, rfl, rfl⟩ rfl (Nat.le_of_ble_eq_true rfl) h
abbrev kX7_against_0 (d : Nat) (Q : Option ps_V → ps_S → Prop) (v1 : Int32) (v2 : Int32) (σ : ps_S) : Prop := ps_K mX7_against (d + 2) (ps_QF Q) 0 [some (.inr (.inr (1, 0))), some (.inl v1), some (.inl v2)] [] σ
theorem bX7_against_0 {d : Nat} {Q : Option ps_V → ps_S → Prop} {v1 : Int32} {v2 : Int32} {σ : ps_S} (h1 : (jX7_isPage σ v1) = 0 → Q (some (.inl (-900001))) σ) (h2 : ¬ (jX7_isPage σ v1) = 0 → ¬ (jX7_isMan σ v2) = 0 → vp_in v1 12) (h3 : ¬ (jX7_isPage σ v1) = 0 → ¬ (jX7_isMan σ v2) = 0 → vp_in v2 4) (h4 : ¬ (jX7_isPage σ v1) = 0 → ¬ (jX7_isMan σ v2) = 0 → Q (some (.inl (sWa σ v1.toNatClampNeg v2.toNatClampNeg))) σ) (h5 : ¬ (jX7_isPage σ v1) = 0 → (jX7_isMan σ v2) = 0 → Q (some (.inl (-900001))) σ) : kX7_against_0 d Q v1 v2 σ := by
  refine ps_aload_n (ps_at tX7_against_ok 0 rfl) rfl rfl ?_
  refine ps_iload_n (ps_at tX7_against_ok 1 rfl) rfl rfl ?_
  refine ps_callV (M2 := mX7_isPage) (av := [.inl v1]) (rest := []) (ps_at tX7_against_ok 2 rfl) cvX7_190 sh_1 rfl rfl (fun _ => Nat.le_of_ble_eq_true rfl) (pX7_isPage ?_)
  refine ps_if_eq (tgt := 16) (ps_at tX7_against_ok 3 rfl) (by decide) (fun c0 => ?_) (fun c0 => ?_)
  · skip
    refine ps_ldc (ps_at tX7_against_ok 8 rfl) cnX7_69 ?_
    exact ps_iret (ps_at tX7_against_ok 9 rfl) rfl ⟨rfl, rfl⟩ (h1 c0)
  · skip
    refine ps_aload_n (ps_at tX7_against_ok 4 rfl) rfl rfl ?_
    refine ps_iload_n (ps_at tX7_against_ok 5 rfl) rfl rfl ?_
    refine ps_callV (M2 := mX7_isMan) (av := [.inl v2]) (rest := []) (ps_at tX7_against_ok 6 rfl) cvX7_184 sh_1 rfl rfl (fun _ => Nat.le_of_ble_eq_true rfl) (pX7_isMan ?_)
    refine ps_if_ne (tgt := 19) (ps_at tX7_against_ok 7 rfl) (by decide) (fun c1 => ?_) (fun c1 => ?_)
    · skip
      refine ps_aload_n (ps_at tX7_against_ok 10 rfl) rfl rfl ?_
      refine ps_getR (ps_at tX7_against_ok 11 rfl) flX7_54 sh_1 rfl ?_
      refine ps_iload_n (ps_at tX7_against_ok 12 rfl) rfl rfl ?_
      refine ps_iload_n (ps_at tX7_against_ok 13 rfl) rfl rfl ?_
      refine ps_callV (M2 := mX2_wordsAgainst) (av := [.inl v1, .inl v2]) (rest := []) (ps_at tX7_against_ok 14 rfl) cvX7_200 sh_36 rfl rfl (fun _ => Nat.le_of_ble_eq_true rfl) (pX2_wordsAgainst (h2 c0 c1) (h3 c0 c1) ?_)
      exact ps_iret (ps_at tX7_against_ok 15 rfl) rfl ⟨rfl, rfl⟩ (h4 c0 c1)
    · skip
      refine ps_ldc (ps_at tX7_against_ok 8 rfl) cnX7_69 ?_
      exact ps_iret (ps_at tX7_against_ok 9 rfl) rfl ⟨rfl, rfl⟩ (h5 c0 c1)
theorem eX7_against {d : Nat} {Q : Option ps_V → ps_S → Prop} {v1 : Int32} {v2 : Int32} {σ : ps_S} (h : kX7_against_0 d Q v1 v2 σ) : ps_C mX7_against (d + 2) [.inr (.inr (1, 0)), .inl v1, .inl v2] σ Q := ps_enter (by decide) rfl ⟨rfl, rfl, rfl⟩ rfl (Nat.le_of_ble_eq_true rfl) h
abbrev kX7_setting_0 (d : Nat) (Q : Option ps_V → ps_S → Prop)  (σ : ps_S) : Prop := ps_K mX7_setting (d + 1) (ps_QF Q) 0 [some (.inr (.inr (1, 0)))] [] σ
abbrev kX7_setting_7 (d : Nat) (Q : Option ps_V → ps_S → Prop) (s0 : Int32) (σ : ps_S) : Prop := ps_K mX7_setting (d + 1) (ps_QF Q) 7 [none] [.inl s0] σ
theorem bX7_setting_0 {d : Nat} {Q : Option ps_V → ps_S → Prop}  {σ : ps_S} (h1 : ps_C mX2_bestCost d [.inr (.inr (36, 0))] σ (ps_ri (fun x σ1 => kX7_setting_7 d Q x σ1))) : kX7_setting_0 d Q σ := by
  refine ps_aload_n (ps_at tX7_setting_ok 0 rfl) rfl rfl ?_
  refine ps_getR (ps_at tX7_setting_ok 1 rfl) flX7_54 sh_1 rfl ?_
  refine ps_callV (M2 := mX2_bestCost) (av := []) (rest := []) (ps_at tX7_setting_ok 2 rfl) cvX7_203 sh_36 rfl rfl (fun _ => Nat.le_of_ble_eq_true rfl) ?_
  refine ps_C.imp ?_ (h1)
  rintro _ σ1 ⟨x, rfl, hx⟩
  exact ps_forget (L' := [none]) trivial hx
theorem bX7_setting_7 {d : Nat} {Q : Option ps_V → ps_S → Prop} {s0 : Int32} {σ : ps_S} (h1 : Q (some (.inl s0)) σ) : kX7_setting_7 d Q s0 σ := by
  exact ps_iret (ps_at tX7_setting_ok 3 rfl) rfl ⟨rfl, rfl⟩ (h1)
theorem eX7_setting {d : Nat} {Q : Option ps_V → ps_S → Prop}  {σ : ps_S} (h : kX7_setting_0 d Q σ) : ps_C mX7_setting (d + 1) [.inr (.inr (1, 0))] σ Q := ps_enter (by decide) rfl ⟨rfl, rfl, rfl⟩ rfl (Nat.le_of_ble_eq_true rfl) h
abbrev kX7_who_0 (d : Nat) (Q : Option ps_V → ps_S → Prop) (v1 : Int32) (σ : ps_S) : Prop := ps_K mX7_who (d + 2) (ps_QF Q) 0 [some (.inr (.inr (1, 0))), some (.inl v1)] [] σ
abbrev kX7_who_19 (d : Nat) (Q : Option ps_V → ps_S → Prop) (s0 : Int32) (σ : ps_S) : Prop := ps_K mX7_who (d + 2) (ps_QF Q) 19 [none, none] [.inl s0] σ
theorem bX7_who_0 {d : Nat} {Q : Option ps_V → ps_S → Prop} {v1 : Int32} {σ : ps_S} (h1 : ¬ (jX7_isPage σ v1) = 0 → ps_C mX2_firstMan (d + 1) [.inr (.inr (36, 0)), .inl v1] σ (ps_ri (fun x σ1 => kX7_who_19 d Q x σ1))) (h2 : (jX7_isPage σ v1) = 0 → Q (some (.inl (-900001))) σ) : kX7_who_0 d Q v1 σ := by
  refine ps_aload_n (ps_at tX7_who_ok 0 rfl) rfl rfl ?_
  refine ps_iload_n (ps_at tX7_who_ok 1 rfl) rfl rfl ?_
  refine ps_callV (M2 := mX7_isPage) (av := [.inl v1]) (rest := []) (ps_at tX7_who_ok 2 rfl) cvX7_190 sh_1 rfl rfl (fun _ => Nat.le_of_ble_eq_true rfl) (pX7_isPage ?_)
  refine ps_if_ne (tgt := 11) (ps_at tX7_who_ok 3 rfl) (by decide) (fun c0 => ?_) (fun c0 => ?_)
  · skip
    refine ps_aload_n (ps_at tX7_who_ok 6 rfl) rfl rfl ?_
    refine ps_getR (ps_at tX7_who_ok 7 rfl) flX7_54 sh_1 rfl ?_
    refine ps_iload_n (ps_at tX7_who_ok 8 rfl) rfl rfl ?_
    refine ps_callV (M2 := mX2_firstMan) (av := [.inl v1]) (rest := []) (ps_at tX7_who_ok 9 rfl) cvX7_206 sh_36 rfl rfl (fun _ => Nat.le_of_ble_eq_true rfl) ?_
    refine ps_C.imp ?_ (h1 c0)
    rintro _ σ1 ⟨x, rfl, hx⟩
    exact ps_forget (L' := [none, none]) trivial hx
  · skip
    refine ps_ldc (ps_at tX7_who_ok 4 rfl) cnX7_69 ?_
    exact ps_iret (ps_at tX7_who_ok 5 rfl) rfl ⟨rfl, rfl⟩ (h2 c0)
theorem bX7_who_19 {d : Nat} {Q : Option ps_V → ps_S → Prop} {s0 : Int32} {σ : ps_S} (h1 : Q (some (.inl s0)) σ) : kX7_who_19 d Q s0 σ := by
  exact ps_iret (ps_at tX7_who_ok 10 rfl) rfl ⟨rfl, rfl⟩ (h1)
theorem eX7_who {d : Nat} {Q : Option ps_V → ps_S → Prop} {v1 : Int32} {σ : ps_S} (h : kX7_who_0 d Q v1 σ) : ps_C mX7_who (d + 2) [.inr (.inr (1, 0)), .inl v1] σ Q := ps_enter (by decide) rfl ⟨rfl, rfl, rfl⟩ rfl (Nat.le_of_ble_eq_true rfl) h
abbrev kX7_sure_0 (d : Nat) (Q : Option ps_V → ps_S → Prop) (v1 : Int32) (σ : ps_S) : Prop := ps_K mX7_sure (d + 2) (ps_QF Q) 0 [some (.inr (.inr (1, 0))), some (.inl v1)] [] σ
abbrev kX7_sure_19 (d : Nat) (Q : Option ps_V → ps_S → Prop) (s0 : Int32) (σ : ps_S) : Prop := ps_K mX7_sure (d + 2) (ps_QF Q) 19 [none, none] [.inl s0] σ
theorem bX7_sure_0 {d : Nat} {Q : Option ps_V → ps_S → Prop} {v1 : Int32} {σ : ps_S} (h1 : ¬ (jX7_isPage σ v1) = 0 → ps_C mX2_bestMen (d + 1) [.inr (.inr (36, 0)), .inl v1] σ (ps_ri (fun x σ1 => kX7_sure_19 d Q x σ1))) (h2 : (jX7_isPage σ v1) = 0 → Q (some (.inl (-900001))) σ) : kX7_sure_0 d Q v1 σ := by
  refine ps_aload_n (ps_at tX7_sure_ok 0 rfl) rfl rfl ?_
  refine ps_iload_n (ps_at tX7_sure_ok 1 rfl) rfl rfl ?_
  refine ps_callV (M2 := mX7_isPage) (av := [.inl v1]) (rest := []) (ps_at tX7_sure_ok 2 rfl) cvX7_190 sh_1 rfl rfl (fun _ => Nat.le_of_ble_eq_true rfl) (pX7_isPage ?_)
  refine ps_if_ne (tgt := 11) (ps_at tX7_sure_ok 3 rfl) (by decide) (fun c0 => ?_) (fun c0 => ?_)
  · skip
    refine ps_aload_n (ps_at tX7_sure_ok 6 rfl) rfl rfl ?_
    refine ps_getR (ps_at tX7_sure_ok 7 rfl) flX7_54 sh_1 rfl ?_
    refine ps_iload_n (ps_at tX7_sure_ok 8 rfl) rfl rfl ?_
    refine ps_callV (M2 := mX2_bestMen) (av := [.inl v1]) (rest := []) (ps_at tX7_sure_ok 9 rfl) cvX7_209 sh_36 rfl rfl (fun _ => Nat.le_of_ble_eq_true rfl) ?_
    refine ps_C.imp ?_ (h1 c0)
    rintro _ σ1 ⟨x, rfl, hx⟩
    exact ps_forget (L' := [none, none]) trivial hx
  · skip
    refine ps_ldc (ps_at tX7_sure_ok 4 rfl) cnX7_69 ?_
    exact ps_iret (ps_at tX7_sure_ok 5 rfl) rfl ⟨rfl, rfl⟩ (h2 c0)
theorem bX7_sure_19 {d : Nat} {Q : Option ps_V → ps_S → Prop} {s0 : Int32} {σ : ps_S} (h1 : ¬ s0 = 1 → Q (some (.inl 0)) σ) (h2 : s0 = 1 → Q (some (.inl 1)) σ) : kX7_sure_19 d Q s0 σ := by
  refine ps_iconst (x := 1) (ps_at tX7_sure_ok 10 rfl) (by decide) ?_
  refine ps_icmp_ne (tgt := 27) (ps_at tX7_sure_ok 11 rfl) (by decide) (fun c0 => ?_) (fun c0 => ?_)
  · skip
    refine ps_iconst (x := 0) (ps_at tX7_sure_ok 14 rfl) (by decide) ?_
    exact ps_iret (ps_at tX7_sure_ok 15 rfl) rfl ⟨rfl, rfl⟩ (h1 c0)
  · skip
    refine ps_iconst (x := 1) (ps_at tX7_sure_ok 12 rfl) (by decide) ?_
    refine ps_goto (tgt := 28) (ps_at tX7_sure_ok 13 rfl) (by decide) ?_
    exact ps_iret (ps_at tX7_sure_ok 15 rfl) rfl ⟨rfl, rfl⟩ (h2 c0)
theorem eX7_sure {d : Nat} {Q : Option ps_V → ps_S → Prop} {v1 : Int32} {σ : ps_S} (h : kX7_sure_0 d Q v1 σ) : ps_C mX7_sure (d + 2) [.inr (.inr (1, 0)), .inl v1] σ Q := ps_enter (by decide) rfl ⟨rfl, rfl, rfl⟩ rfl (Nat.le_of_ble_eq_true rfl) h
abbrev kX7_settings_0 (d : Nat) (Q : Option ps_V → ps_S → Prop)  (σ : ps_S) : Prop := ps_K mX7_settings (d + 1) (ps_QF Q) 0 [some (.inr (.inr (1, 0)))] [] σ
abbrev kX7_settings_7 (d : Nat) (Q : Option ps_V → ps_S → Prop) (s0 : Int32) (σ : ps_S) : Prop := ps_K mX7_settings (d + 1) (ps_QF Q) 7 [none] [.inl s0] σ
theorem bX7_settings_0 {d : Nat} {Q : Option ps_V → ps_S → Prop}  {σ : ps_S} (h1 : ps_C mX2_bestWays d [.inr (.inr (36, 0))] σ (ps_ri (fun x σ1 => kX7_settings_7 d Q x σ1))) : kX7_settings_0 d Q σ := by
  refine ps_aload_n (ps_at tX7_settings_ok 0 rfl) rfl rfl ?_
  refine ps_getR (ps_at tX7_settings_ok 1 rfl) flX7_54 sh_1 rfl ?_
  refine ps_callV (M2 := mX2_bestWays) (av := []) (rest := []) (ps_at tX7_settings_ok 2 rfl) cvX7_212 sh_36 rfl rfl (fun _ => Nat.le_of_ble_eq_true rfl) ?_
  refine ps_C.imp ?_ (h1)
  rintro _ σ1 ⟨x, rfl, hx⟩
  exact ps_forget (L' := [none]) trivial hx
theorem bX7_settings_7 {d : Nat} {Q : Option ps_V → ps_S → Prop} {s0 : Int32} {σ : ps_S} (h1 : Q (some (.inl s0)) σ) : kX7_settings_7 d Q s0 σ := by
  exact ps_iret (ps_at tX7_settings_ok 3 rfl) rfl ⟨rfl, rfl⟩ (h1)
theorem eX7_settings {d : Nat} {Q : Option ps_V → ps_S → Prop}  {σ : ps_S} (h : kX7_settings_0 d Q σ) : ps_C mX7_settings (d + 1) [.inr (.inr (1, 0))] σ Q := ps_enter (by decide) rfl ⟨rfl, rfl, rfl⟩ rfl (Nat.le_of_ble_eq_true rfl) h
abbrev kX7_count_0 (d : Nat) (Q : Option ps_V → ps_S → Prop) (v1 : Int32) (σ : ps_S) : Prop := ps_K mX7_count (d + 3) (ps_QF Q) 0 [some (.inr (.inr (1, 0))), some (.inl v1)] [] σ
theorem bX7_count_0 {d : Nat} {Q : Option ps_V → ps_S → Prop} {v1 : Int32} {σ : ps_S} (h1 : v1 = 0 → Q (some (.inl (jSum 6 (fun f => nI (sumN 9 (fun c => cntN 6 (fun p => ¬ σ 5 (9 * f + c) p = -900009))))))) σ) (h2 : v1 = 1 → Q (some (.inl (jSum 6 (fun f => jSum 9 (fun a => jbPop (σ 6 f a)))))) σ) (h3 : v1 = 2 → Q (some (.inl (jbPop (σ 19 0 3)))) σ) (h4 : v1 = 3 → Q (some (.inl (jSum 6 (fun f => σ 33 0 f)))) σ) (h5 : v1 = 4 → Q (some (.inl (nI (sumN 6 (fun f => cntN 12 (fun b => ¬ σ 35 f b = -900009)))))) σ) (h6 : v1 = 5 → Q (some (.inl (σ 36 0 2))) σ) (h7 : v1 = 6 → Q (some (.inl (σ 36 0 3))) σ) (h8 : (v1.toInt < 0 ∨ 6 < v1.toInt) → Q (some (.inl (-900002))) σ) : kX7_count_0 d Q v1 σ := by
  refine ps_iload_n (ps_at tX7_count_ok 0 rfl) rfl rfl ?_
  rcases ps_sw7 v1 with c0 | c0 | c0 | c0 | c0 | c0 | c0 | c0
  · skip
    refine ps_tabIn (tgt := 44) (ps_at tX7_count_ok 1 rfl) (by rw [c0]; decide) (by rw [c0]; decide) (by rw [c0]; rfl) (by decide) ?_
    refine ps_aload_n (ps_at tX7_count_ok 2 rfl) rfl rfl ?_
    refine ps_callV (M2 := mX7_countReadings) (av := []) (rest := []) (ps_at tX7_count_ok 3 rfl) cvX7_215 sh_1 rfl rfl (fun _ => Nat.le_of_ble_eq_true rfl) (pX7_countReadings ?_)
    exact ps_iret (ps_at tX7_count_ok 4 rfl) rfl ⟨rfl, rfl⟩ (h1 c0)
  · skip
    refine ps_tabIn (tgt := 49) (ps_at tX7_count_ok 1 rfl) (by rw [c0]; decide) (by rw [c0]; decide) (by rw [c0]; rfl) (by decide) ?_
    refine ps_aload_n (ps_at tX7_count_ok 5 rfl) rfl rfl ?_
    refine ps_callV (M2 := mX7_countAhead) (av := []) (rest := []) (ps_at tX7_count_ok 6 rfl) cvX7_218 sh_1 rfl rfl (fun _ => Nat.le_of_ble_eq_true rfl) (pX7_countAhead ?_)
    exact ps_iret (ps_at tX7_count_ok 7 rfl) rfl ⟨rfl, rfl⟩ (h2 c0)
  · skip
    refine ps_tabIn (tgt := 54) (ps_at tX7_count_ok 1 rfl) (by rw [c0]; decide) (by rw [c0]; decide) (by rw [c0]; rfl) (by decide) ?_
    refine ps_aload_n (ps_at tX7_count_ok 8 rfl) rfl rfl ?_
    refine ps_getR (ps_at tX7_count_ok 9 rfl) flX7_33 sh_1 rfl ?_
    refine ps_getI (ps_at tX7_count_ok 10 rfl) flX7_221 sh_19 rfl ?_
    refine ps_callS (M2 := mJ6_bitCount_0f7a4) (av := [.inl (σ 19 0 3)]) (rest := []) (ps_at tX7_count_ok 11 rfl) csX7_224 rfl rfl (fun _ => Nat.le_of_ble_eq_true rfl) (pJ6_bitCount_0f7a4 ?_)
    exact ps_iret (ps_at tX7_count_ok 12 rfl) rfl ⟨rfl, rfl⟩ (h3 c0)
  · skip
    refine ps_tabIn (tgt := 65) (ps_at tX7_count_ok 1 rfl) (by rw [c0]; decide) (by rw [c0]; decide) (by rw [c0]; rfl) (by decide) ?_
    refine ps_aload_n (ps_at tX7_count_ok 13 rfl) rfl rfl ?_
    refine ps_getR (ps_at tX7_count_ok 14 rfl) flX7_47 sh_1 rfl ?_
    refine ps_callV (M2 := mX1_countSheets) (av := []) (rest := []) (ps_at tX7_count_ok 15 rfl) cvX7_229 sh_30 rfl rfl (fun _ => Nat.le_of_ble_eq_true rfl) (pX1_countSheets ?_)
    exact ps_iret (ps_at tX7_count_ok 16 rfl) rfl ⟨rfl, rfl⟩ (h4 c0)
  · skip
    refine ps_tabIn (tgt := 73) (ps_at tX7_count_ok 1 rfl) (by rw [c0]; decide) (by rw [c0]; decide) (by rw [c0]; rfl) (by decide) ?_
    refine ps_aload_n (ps_at tX7_count_ok 17 rfl) rfl rfl ?_
    refine ps_getR (ps_at tX7_count_ok 18 rfl) flX7_47 sh_1 rfl ?_
    refine ps_callV (M2 := mX1_countSeen) (av := []) (rest := []) (ps_at tX7_count_ok 19 rfl) cvX7_232 sh_30 rfl rfl (fun _ => Nat.le_of_ble_eq_true rfl) (pX1_countSeen ?_)
    exact ps_iret (ps_at tX7_count_ok 20 rfl) rfl ⟨rfl, rfl⟩ (h5 c0)
  · skip
    refine ps_tabIn (tgt := 81) (ps_at tX7_count_ok 1 rfl) (by rw [c0]; decide) (by rw [c0]; decide) (by rw [c0]; rfl) (by decide) ?_
    refine ps_aload_n (ps_at tX7_count_ok 21 rfl) rfl rfl ?_
    refine ps_getR (ps_at tX7_count_ok 22 rfl) flX7_54 sh_1 rfl ?_
    refine ps_getI (ps_at tX7_count_ok 23 rfl) flX7_235 sh_36 rfl ?_
    exact ps_iret (ps_at tX7_count_ok 24 rfl) rfl ⟨rfl, rfl⟩ (h6 c0)
  · skip
    refine ps_tabIn (tgt := 89) (ps_at tX7_count_ok 1 rfl) (by rw [c0]; decide) (by rw [c0]; decide) (by rw [c0]; rfl) (by decide) ?_
    refine ps_aload_n (ps_at tX7_count_ok 25 rfl) rfl rfl ?_
    refine ps_getR (ps_at tX7_count_ok 26 rfl) flX7_54 sh_1 rfl ?_
    refine ps_getI (ps_at tX7_count_ok 27 rfl) flX7_238 sh_36 rfl ?_
    exact ps_iret (ps_at tX7_count_ok 28 rfl) rfl ⟨rfl, rfl⟩ (h7 c0)
  · skip
    refine ps_tabOut (tgt := 97) (ps_at tX7_count_ok 1 rfl) c0 (by decide) ?_
    refine ps_ldc (ps_at tX7_count_ok 29 rfl) cnX7_71 ?_
    exact ps_iret (ps_at tX7_count_ok 30 rfl) rfl ⟨rfl, rfl⟩ (h8 c0)
theorem eX7_count {d : Nat} {Q : Option ps_V → ps_S → Prop} {v1 : Int32} {σ : ps_S} (h : kX7_count_0 d Q v1 σ) : ps_C mX7_count (d + 3) [.inr (.inr (1, 0)), .inl v1] σ Q := ps_enter (by decide) rfl ⟨rfl, rfl, rfl⟩ rfl (Nat.le_of_ble_eq_true rfl) h
abbrev kX7_isState_0 (d : Nat) (Q : Option ps_V → ps_S → Prop) (v1 : Int32) (v2 : Int32) (σ : ps_S) : Prop := ps_K mX7_isState (d + 2) (ps_QF Q) 0 [some (.inr (.inr (1, 0))), some (.inl v1), some (.inl v2)] [] σ
abbrev kX7_isState_13 (d : Nat) (Q : Option ps_V → ps_S → Prop) (j0 : Nat) (s1 : Int32) (σ : ps_S) : Prop := ps_K mX7_isState (d + 2) (ps_QF Q) 13 [none, none, none] [.inr (.inr (3, j0)), .inl s1] σ
theorem bX7_isState_0 {d : Nat} {Q : Option ps_V → ps_S → Prop} {v1 : Int32} {v2 : Int32} {σ : ps_S} (h1 : (jbWi v1 6) = 0 → Q (some (.inl 0)) σ) (h2 : ¬ (jbWi v1 6) = 0 → ps_C mX7_grouped (d + 1) [.inr (.inr (1, 0)), .inl v1] σ (ps_rr 3 (fun q σ1 => kX7_isState_13 d Q q v2 σ1))) : kX7_isState_0 d Q v1 v2 σ := by
  refine ps_iload_n (ps_at tX7_isState_ok 0 rfl) rfl rfl ?_
  refine ps_callS (M2 := mX7_isForme) (av := [.inl v1]) (rest := []) (ps_at tX7_isState_ok 1 rfl) csX7_62 rfl rfl (fun _ => Nat.le_of_ble_eq_true rfl) (pX7_isForme ?_)
  refine ps_if_eq (tgt := 26) (ps_at tX7_isState_ok 2 rfl) (by decide) (fun c0 => ?_) (fun c0 => ?_)
  · skip
    refine ps_iconst (x := 0) (ps_at tX7_isState_ok 12 rfl) (by decide) ?_
    exact ps_zret (ps_at tX7_isState_ok 13 rfl) rfl ⟨rfl, rfl⟩ (Or.inl rfl) (h1 c0)
  · skip
    refine ps_iload_n (ps_at tX7_isState_ok 3 rfl) rfl rfl ?_
    refine ps_aload_n (ps_at tX7_isState_ok 4 rfl) rfl rfl ?_
    refine ps_iload_n (ps_at tX7_isState_ok 5 rfl) rfl rfl ?_
    refine ps_callV (M2 := mX7_grouped) (av := [.inl v1]) (rest := [.inl v2]) (ps_at tX7_isState_ok 6 rfl) cvX7_79 sh_1 rfl rfl (fun _ => Nat.le_of_ble_eq_true rfl) ?_
    refine ps_C.imp ?_ (h2 c0)
    rintro _ σ1 ⟨q, rfl, hx⟩
    exact ps_forget (L' := [none, none, none]) trivial hx
theorem bX7_isState_13 {d : Nat} {Q : Option ps_V → ps_S → Prop} {j0 : Nat} {s1 : Int32} {σ : ps_S} (h1 : (jbWi s1 (σ 3 j0 6)) = 0 → Q (some (.inl 0)) σ) (h2 : ¬ (jbWi s1 (σ 3 j0 6)) = 0 → Q (some (.inl 1)) σ) : kX7_isState_13 d Q j0 s1 σ := by
  refine ps_getI (ps_at tX7_isState_ok 7 rfl) flX7_83 sh_3 rfl ?_
  refine ps_callS (M2 := mX7_within) (av := [.inl s1, .inl (σ 3 j0 6)]) (rest := []) (ps_at tX7_isState_ok 8 rfl) csX7_65 rfl rfl (fun _ => Nat.le_of_ble_eq_true rfl) (pX7_within ?_)
  refine ps_if_eq (tgt := 26) (ps_at tX7_isState_ok 9 rfl) (by decide) (fun c0 => ?_) (fun c0 => ?_)
  · skip
    refine ps_iconst (x := 0) (ps_at tX7_isState_ok 12 rfl) (by decide) ?_
    exact ps_zret (ps_at tX7_isState_ok 13 rfl) rfl ⟨rfl, rfl⟩ (Or.inl rfl) (h1 c0)
  · skip
    refine ps_iconst (x := 1) (ps_at tX7_isState_ok 10 rfl) (by decide) ?_
    refine ps_goto (tgt := 27) (ps_at tX7_isState_ok 11 rfl) (by decide) ?_
    exact ps_zret (ps_at tX7_isState_ok 13 rfl) rfl ⟨rfl, rfl⟩ (Or.inr rfl) (h2 c0)
theorem eX7_isState {d : Nat} {Q : Option ps_V → ps_S → Prop} {v1 : Int32} {v2 : Int32} {σ : ps_S} (h : kX7_isState_0 d Q v1 v2 σ) : ps_C mX7_isState (d + 2) [.inr (.inr (1, 0)), .inl v1, .inl v2] σ Q := ps_enter (by decide) rfl ⟨rfl, rfl, rfl⟩ rfl (Nat.le_of_ble_eq_true rfl) h
abbrev kX7_grouped_0 (d : Nat) (Q : Option ps_V → ps_S → Prop) (v1 : Int32) (σ : ps_S) : Prop := ps_K mX7_grouped (d + 1) (ps_QF Q) 0 [some (.inr (.inr (1, 0))), some (.inl v1), none] [] σ
abbrev kX7_grouped_18 (d : Nat) (Q : Option ps_V → ps_S → Prop) (i2 : Nat) (σ : ps_S) : Prop := ps_K mX7_grouped (d + 1) (ps_QF Q) 18 [none, none, some (.inr (.inr (3, i2)))] [] σ
theorem bX7_grouped_0 {d : Nat} {Q : Option ps_V → ps_S → Prop} {v1 : Int32} {σ : ps_S} (h1 : vp_in v1 6) (h2 : ¬ (σ 3 v1.toNatClampNeg 7) = 0 → Q (some (.inr (.inr (3, v1.toNatClampNeg)))) σ) (h3 : (σ 3 v1.toNatClampNeg 7) = 0 → ps_C mX0_makeGroups d [.inr (.inr (3, v1.toNatClampNeg))] σ (ps_rv (fun σ1 => kX7_grouped_18 d Q v1.toNatClampNeg σ1))) : kX7_grouped_0 d Q v1 σ := by
  refine ps_aload_n (ps_at tX7_grouped_ok 0 rfl) rfl rfl ?_
  refine ps_getR (ps_at tX7_grouped_ok 1 rfl) flX7_11 sh_1 rfl ?_
  refine ps_iload_n (ps_at tX7_grouped_ok 2 rfl) rfl rfl ?_
  refine ps_aald0 (ps_at tX7_grouped_ok 3 rfl) sh_2 (Or.inr rfl) (h1) ?_
  refine ps_astore_n (L' := [some (.inr (.inr (1, 0))), some (.inl v1), some (.inr (.inr (3, v1.toNatClampNeg)))]) (ps_at tX7_grouped_ok 4 rfl) rfl (by decide) rfl ?_
  refine ps_aload_n (ps_at tX7_grouped_ok 5 rfl) rfl rfl ?_
  refine ps_getI (ps_at tX7_grouped_ok 6 rfl) flX7_247 sh_3 rfl ?_
  refine ps_if_ne (tgt := 18) (ps_at tX7_grouped_ok 7 rfl) (by decide) (fun c0 => ?_) (fun c0 => ?_)
  · skip
    refine ps_aload_n (ps_at tX7_grouped_ok 10 rfl) rfl rfl ?_
    exact ps_aret (ps_at tX7_grouped_ok 11 rfl) rfl ⟨rfl, rfl⟩ (h2 c0)
  · skip
    refine ps_aload_n (ps_at tX7_grouped_ok 8 rfl) rfl rfl ?_
    refine ps_callV (M2 := mX0_makeGroups) (av := []) (rest := []) (ps_at tX7_grouped_ok 9 rfl) cvX7_250 sh_3 rfl rfl (fun _ => Nat.le_of_ble_eq_true rfl) ?_
    refine ps_C.imp ?_ (h3 c0)
    rintro _ σ1 ⟨rfl, hx⟩
    exact ps_forget (L' := [none, none, some (.inr (.inr (3, v1.toNatClampNeg)))]) (And.intro rfl trivial) hx
theorem bX7_grouped_18 {d : Nat} {Q : Option ps_V → ps_S → Prop} {i2 : Nat} {σ : ps_S} (h1 : Q (some (.inr (.inr (3, i2)))) σ) : kX7_grouped_18 d Q i2 σ := by
  refine ps_aload_n (ps_at tX7_grouped_ok 10 rfl) rfl rfl ?_
  exact ps_aret (ps_at tX7_grouped_ok 11 rfl) rfl ⟨rfl, rfl⟩ (h1)
theorem eX7_grouped {d : Nat} {Q : Option ps_V → ps_S → Prop} {v1 : Int32} {σ : ps_S} (h : kX7_grouped_0 d Q v1 σ) : ps_C mX7_grouped (d + 1) [.inr (.inr (1, 0)), .inl v1] σ Q := ps_enter (by decide) rfl ⟨rfl, rfl, rfl⟩ rfl (Nat.le_of_ble_eq_true rfl) h

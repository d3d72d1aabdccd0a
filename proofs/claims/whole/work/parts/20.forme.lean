/-! ===== printed by wip/whole/gen.py: block rows ===== -/
abbrev kX0_putLetter_0 (d : Nat) (Q : Option ps_V → ps_S → Prop) (i0 : Nat) (v1 : Int32) (v2 : Int32) (v3 : Int32) (σ : ps_S) : Prop := ps_K mX0_putLetter d (ps_QF Q) 0 [some (.inr (.inr (3, i0))), some (.inl v1), some (.inl v2), some (.inl v3), none] [] σ
theorem bX0_putLetter_0 {d : Nat} {Q : Option ps_V → ps_S → Prop} {i0 : Nat} {v1 : Int32} {v2 : Int32} {v3 : Int32} {σ : ps_S} (h1 : vp_in v1 9) (h2 : vp_in v2 6) (h3 : Q (some (.inl (σ 5 (9 * i0 + v1.toNatClampNeg) v2.toNatClampNeg))) (ps_up (ps_up (ps_up σ 5 (9 * i0 + v1.toNatClampNeg) v2.toNatClampNeg v3) 3 i0 7 0) 3 i0 11 0)) : kX0_putLetter_0 d Q i0 v1 v2 v3 σ := by
  refine ps_aload_n (ps_at tX0_putLetter_ok 0 rfl) rfl rfl ?_
  refine ps_getR (ps_at tX0_putLetter_ok 1 rfl) flX0_11 sh_3 rfl ?_
  refine ps_iload_n (ps_at tX0_putLetter_ok 2 rfl) rfl rfl ?_
  refine ps_aald (ps_at tX0_putLetter_ok 3 rfl) sh_4 (Or.inl rfl) (h1) ?_
  refine ps_iload_n (ps_at tX0_putLetter_ok 4 rfl) rfl rfl ?_
  refine ps_iald (ps_at tX0_putLetter_ok 5 rfl) sh_5 (h2) ?_
  refine ps_istore (L' := [some (.inr (.inr (3, i0))), some (.inl v1), some (.inl v2), some (.inl v3), some (.inl (σ 5 (9 * i0 + v1.toNatClampNeg) v2.toNatClampNeg))]) (ps_at tX0_putLetter_ok 6 rfl) (by decide) rfl ?_
  refine ps_aload_n (ps_at tX0_putLetter_ok 7 rfl) rfl rfl ?_
  refine ps_getR (ps_at tX0_putLetter_ok 8 rfl) flX0_11 sh_3 rfl ?_
  refine ps_iload_n (ps_at tX0_putLetter_ok 9 rfl) rfl rfl ?_
  refine ps_aald (ps_at tX0_putLetter_ok 10 rfl) sh_4 (Or.inl rfl) (h1) ?_
  refine ps_iload_n (ps_at tX0_putLetter_ok 11 rfl) rfl rfl ?_
  refine ps_iload_n (ps_at tX0_putLetter_ok 12 rfl) rfl rfl ?_
  refine ps_iast (ps_at tX0_putLetter_ok 13 rfl) sh_5 (h2) ?_
  refine ps_aload_n (ps_at tX0_putLetter_ok 14 rfl) rfl rfl ?_
  refine ps_iconst (x := 0) (ps_at tX0_putLetter_ok 15 rfl) (by decide) ?_
  refine ps_putZ (ps_at tX0_putLetter_ok 16 rfl) fpX0_39 sh_3 rfl (Or.inl rfl) ?_
  refine ps_aload_n (ps_at tX0_putLetter_ok 17 rfl) rfl rfl ?_
  refine ps_iconst (x := 0) (ps_at tX0_putLetter_ok 18 rfl) (by decide) ?_
  refine ps_putZ (ps_at tX0_putLetter_ok 19 rfl) fpX0_43 sh_3 rfl (Or.inl rfl) ?_
  refine ps_iload (ps_at tX0_putLetter_ok 20 rfl) rfl ?_
  exact ps_iret (ps_at tX0_putLetter_ok 21 rfl) rfl ⟨rfl, rfl⟩ (h3)
theorem eX0_putLetter {d : Nat} {Q : Option ps_V → ps_S → Prop} {i0 : Nat} {v1 : Int32} {v2 : Int32} {v3 : Int32} {σ : ps_S} (h : kX0_putLetter_0 d Q i0 v1 v2 v3 σ) : ps_C mX0_putLetter d [.inr (.inr (3, i0)), .inl v1, .inl v2, .inl v3] σ Q := ps_enter (by decide) rfl ⟨rfl, rfl, rfl⟩ rfl (Nat.le_of_ble_eq_true rfl) h
abbrev kX0_tellAhead_0 (d : Nat) (Q : Option ps_V → ps_S → Prop) (i0 : Nat) (v1 : Int32) (v2 : Int32) (v3 : Int32) (σ : ps_S) : Prop := ps_K mX0_tellAhead d (ps_QF Q) 0 [some (.inr (.inr (3, i0))), some (.inl v1), some (.inl v2), some (.inl v3), none] [] σ
theorem bX0_tellAhead_0 {d : Nat} {Q : Option ps_V → ps_S → Prop} {i0 : Nat} {v1 : Int32} {v2 : Int32} {v3 : Int32} {σ : ps_S} (h1 : vp_in v1 9) (h2 : v3 = 0 → Q (some (.inl (((σ 6 i0 v1.toNatClampNeg) >>> (v2 &&& 31)) &&& 1))) (ps_up (ps_up σ 6 i0 v1.toNatClampNeg ((σ 6 i0 v1.toNatClampNeg) &&& (((1 : Int32) <<< (v2 &&& 31)) ^^^ (-1)))) 3 i0 11 0)) (h3 : ¬ v3 = 0 → Q (some (.inl (((σ 6 i0 v1.toNatClampNeg) >>> (v2 &&& 31)) &&& 1))) (ps_up (ps_up σ 6 i0 v1.toNatClampNeg ((σ 6 i0 v1.toNatClampNeg) ||| ((1 : Int32) <<< (v2 &&& 31)))) 3 i0 11 0)) : kX0_tellAhead_0 d Q i0 v1 v2 v3 σ := by
  refine ps_aload_n (ps_at tX0_tellAhead_ok 0 rfl) rfl rfl ?_
  refine ps_getR (ps_at tX0_tellAhead_ok 1 rfl) flX0_16 sh_3 rfl ?_
  refine ps_iload_n (ps_at tX0_tellAhead_ok 2 rfl) rfl rfl ?_
  refine ps_iald (ps_at tX0_tellAhead_ok 3 rfl) sh_6 (h1) ?_
  refine ps_iload_n (ps_at tX0_tellAhead_ok 4 rfl) rfl rfl ?_
  refine ps_ishr (ps_at tX0_tellAhead_ok 5 rfl) ?_
  refine ps_iconst (x := 1) (ps_at tX0_tellAhead_ok 6 rfl) (by decide) ?_
  refine ps_iand (ps_at tX0_tellAhead_ok 7 rfl) ?_
  refine ps_istore (L' := [some (.inr (.inr (3, i0))), some (.inl v1), some (.inl v2), some (.inl v3), some (.inl (((σ 6 i0 v1.toNatClampNeg) >>> (v2 &&& 31)) &&& 1))]) (ps_at tX0_tellAhead_ok 8 rfl) (by decide) rfl ?_
  refine ps_iload_n (ps_at tX0_tellAhead_ok 9 rfl) rfl rfl ?_
  refine ps_if_eq (tgt := 31) (ps_at tX0_tellAhead_ok 10 rfl) (by decide) (fun c0 => ?_) (fun c0 => ?_)
  · skip
    refine ps_aload_n (ps_at tX0_tellAhead_ok 22 rfl) rfl rfl ?_
    refine ps_getR (ps_at tX0_tellAhead_ok 23 rfl) flX0_16 sh_3 rfl ?_
    refine ps_iload_n (ps_at tX0_tellAhead_ok 24 rfl) rfl rfl ?_
    refine ps_dup2 (ps_at tX0_tellAhead_ok 25 rfl) ?_
    refine ps_iald (ps_at tX0_tellAhead_ok 26 rfl) sh_6 (h1) ?_
    refine ps_iconst (x := 1) (ps_at tX0_tellAhead_ok 27 rfl) (by decide) ?_
    refine ps_iload_n (ps_at tX0_tellAhead_ok 28 rfl) rfl rfl ?_
    refine ps_ishl (ps_at tX0_tellAhead_ok 29 rfl) ?_
    refine ps_iconst (x := (-1)) (ps_at tX0_tellAhead_ok 30 rfl) (by decide) ?_
    refine ps_ixor (ps_at tX0_tellAhead_ok 31 rfl) ?_
    refine ps_iand (ps_at tX0_tellAhead_ok 32 rfl) ?_
    refine ps_iast (ps_at tX0_tellAhead_ok 33 rfl) sh_6 (h1) ?_
    refine ps_aload_n (ps_at tX0_tellAhead_ok 34 rfl) rfl rfl ?_
    refine ps_iconst (x := 0) (ps_at tX0_tellAhead_ok 35 rfl) (by decide) ?_
    refine ps_putZ (ps_at tX0_tellAhead_ok 36 rfl) fpX0_43 sh_3 rfl (Or.inl rfl) ?_
    refine ps_iload (ps_at tX0_tellAhead_ok 37 rfl) rfl ?_
    exact ps_iret (ps_at tX0_tellAhead_ok 38 rfl) rfl ⟨rfl, rfl⟩ (h2 c0)
  · skip
    refine ps_aload_n (ps_at tX0_tellAhead_ok 11 rfl) rfl rfl ?_
    refine ps_getR (ps_at tX0_tellAhead_ok 12 rfl) flX0_16 sh_3 rfl ?_
    refine ps_iload_n (ps_at tX0_tellAhead_ok 13 rfl) rfl rfl ?_
    refine ps_dup2 (ps_at tX0_tellAhead_ok 14 rfl) ?_
    refine ps_iald (ps_at tX0_tellAhead_ok 15 rfl) sh_6 (h1) ?_
    refine ps_iconst (x := 1) (ps_at tX0_tellAhead_ok 16 rfl) (by decide) ?_
    refine ps_iload_n (ps_at tX0_tellAhead_ok 17 rfl) rfl rfl ?_
    refine ps_ishl (ps_at tX0_tellAhead_ok 18 rfl) ?_
    refine ps_ior (ps_at tX0_tellAhead_ok 19 rfl) ?_
    refine ps_iast (ps_at tX0_tellAhead_ok 20 rfl) sh_6 (h1) ?_
    refine ps_goto (tgt := 45) (ps_at tX0_tellAhead_ok 21 rfl) (by decide) ?_
    refine ps_aload_n (ps_at tX0_tellAhead_ok 34 rfl) rfl rfl ?_
    refine ps_iconst (x := 0) (ps_at tX0_tellAhead_ok 35 rfl) (by decide) ?_
    refine ps_putZ (ps_at tX0_tellAhead_ok 36 rfl) fpX0_43 sh_3 rfl (Or.inl rfl) ?_
    refine ps_iload (ps_at tX0_tellAhead_ok 37 rfl) rfl ?_
    exact ps_iret (ps_at tX0_tellAhead_ok 38 rfl) rfl ⟨rfl, rfl⟩ (h3 c0)
theorem eX0_tellAhead {d : Nat} {Q : Option ps_V → ps_S → Prop} {i0 : Nat} {v1 : Int32} {v2 : Int32} {v3 : Int32} {σ : ps_S} (h : kX0_tellAhead_0 d Q i0 v1 v2 v3 σ) : ps_C mX0_tellAhead d [.inr (.inr (3, i0)), .inl v1, .inl v2, .inl v3] σ Q := ps_enter (by decide) rfl ⟨rfl, rfl, rfl⟩ rfl (Nat.le_of_ble_eq_true rfl) h
abbrev kX0_makeGroups_0 (d : Nat) (Q : Option ps_V → ps_S → Prop) (i0 : Nat) (σ : ps_S) : Prop := ps_K mX0_makeGroups (d + 3) (ps_QF Q) 0 [some (.inr (.inr (3, i0))), none] [] σ
abbrev kX0_makeGroups_10 (d : Nat) (Q : Option ps_V → ps_S → Prop) (i0 : Nat) (v1 : Int32) (σ : ps_S) : Prop := ps_K mX0_makeGroups (d + 3) (ps_QF Q) 10 [some (.inr (.inr (3, i0))), some (.inl v1)] [] σ
abbrev kX0_makeGroups_53 (d : Nat) (Q : Option ps_V → ps_S → Prop) (i0 : Nat) (σ : ps_S) : Prop := ps_K mX0_makeGroups (d + 3) (ps_QF Q) 53 [some (.inr (.inr (3, i0))), none] [] σ
abbrev kX0_makeGroups_59 (d : Nat) (Q : Option ps_V → ps_S → Prop) (i0 : Nat) (s0 : Int32) (σ : ps_S) : Prop := ps_K mX0_makeGroups (d + 3) (ps_QF Q) 59 [some (.inr (.inr (3, i0))), none] [.inl s0] σ
theorem bX0_makeGroups_0 {d : Nat} {Q : Option ps_V → ps_S → Prop} {i0 : Nat} {σ : ps_S} (h1 : kX0_makeGroups_10 d Q i0 0 (ps_up σ 3 i0 5 (nI (mkN 9 (sLk σ i0))))) : kX0_makeGroups_0 d Q i0 σ := by
  refine ps_aload_n (ps_at tX0_makeGroups_ok 0 rfl) rfl rfl ?_
  refine ps_aload_n (ps_at tX0_makeGroups_ok 1 rfl) rfl rfl ?_
  refine ps_callV (M2 := mX0_copiesLookedAt) (av := []) (rest := [.inr (.inr (3, i0))]) (ps_at tX0_makeGroups_ok 2 rfl) cvX0_50 sh_3 rfl rfl (fun _ => Nat.le_of_ble_eq_true rfl) (pX0_copiesLookedAt ?_)
  refine ps_putI (ps_at tX0_makeGroups_ok 3 rfl) fpX0_54 sh_3 rfl ?_
  refine ps_iconst (x := 0) (ps_at tX0_makeGroups_ok 4 rfl) (by decide) ?_
  refine ps_istore_n (L' := [some (.inr (.inr (3, i0))), some (.inl 0)]) (ps_at tX0_makeGroups_ok 5 rfl) rfl (by decide) rfl ?_
  exact h1
theorem bX0_makeGroups_10 {d : Nat} {Q : Option ps_V → ps_S → Prop} {i0 : Nat} {v1 : Int32} {σ : ps_S} (h1 : 9 ≤ v1 → kX0_makeGroups_53 d Q i0 (ps_up σ 3 i0 6 0)) (h2 : ¬ 9 ≤ v1 → vp_in v1 9) (h3 : ¬ 9 ≤ v1 → kX0_makeGroups_10 d Q i0 (v1 + 1) (ps_up (ps_up (ps_up σ 8 i0 v1.toNatClampNeg 0) 9 i0 v1.toNatClampNeg (-900009)) 7 i0 v1.toNatClampNeg (nI (mkN 9 (fun b => ¬ sAlk (ps_up (ps_up σ 8 i0 v1.toNatClampNeg 0) 9 i0 v1.toNatClampNeg (-900009)) i0 v1.toNatClampNeg b))))) : kX0_makeGroups_10 d Q i0 v1 σ := by
  refine ps_iload_n (ps_at tX0_makeGroups_ok 6 rfl) rfl rfl ?_
  refine ps_bipush (x := 9) (ps_at tX0_makeGroups_ok 7 rfl) (by decide) ?_
  refine ps_icmp_ge (tgt := 48) (ps_at tX0_makeGroups_ok 8 rfl) (by decide) (fun c0 => ?_) (fun c0 => ?_)
  · skip
    refine ps_aload_n (ps_at tX0_makeGroups_ok 28 rfl) rfl rfl ?_
    refine ps_iconst (x := 0) (ps_at tX0_makeGroups_ok 29 rfl) (by decide) ?_
    refine ps_putI (ps_at tX0_makeGroups_ok 30 rfl) fpX0_62 sh_3 rfl ?_
    refine ps_forget (L' := [some (.inr (.inr (3, i0))), none]) (And.intro rfl trivial) ?_
    exact h1 c0
  · skip
    refine ps_aload_n (ps_at tX0_makeGroups_ok 9 rfl) rfl rfl ?_
    refine ps_getR (ps_at tX0_makeGroups_ok 10 rfl) flX0_23 sh_3 rfl ?_
    refine ps_iload_n (ps_at tX0_makeGroups_ok 11 rfl) rfl rfl ?_
    refine ps_iconst (x := 0) (ps_at tX0_makeGroups_ok 12 rfl) (by decide) ?_
    refine ps_iast (ps_at tX0_makeGroups_ok 13 rfl) sh_8 (h2 c0) ?_
    refine ps_aload_n (ps_at tX0_makeGroups_ok 14 rfl) rfl rfl ?_
    refine ps_getR (ps_at tX0_makeGroups_ok 15 rfl) flX0_26 sh_3 rfl ?_
    refine ps_iload_n (ps_at tX0_makeGroups_ok 16 rfl) rfl rfl ?_
    refine ps_ldc (ps_at tX0_makeGroups_ok 17 rfl) cnX0_32 ?_
    refine ps_iast (ps_at tX0_makeGroups_ok 18 rfl) sh_9 (h2 c0) ?_
    refine ps_aload_n (ps_at tX0_makeGroups_ok 19 rfl) rfl rfl ?_
    refine ps_getR (ps_at tX0_makeGroups_ok 20 rfl) flX0_20 sh_3 rfl ?_
    refine ps_iload_n (ps_at tX0_makeGroups_ok 21 rfl) rfl rfl ?_
    refine ps_aload_n (ps_at tX0_makeGroups_ok 22 rfl) rfl rfl ?_
    refine ps_iload_n (ps_at tX0_makeGroups_ok 23 rfl) rfl rfl ?_
    refine ps_callV (M2 := mX0_unlikeCopies) (av := [.inl v1]) (rest := [.inl v1, .inr (.inr (7, i0))]) (ps_at tX0_makeGroups_ok 24 rfl) cvX0_58 sh_3 rfl rfl (fun _ => Nat.le_of_ble_eq_true rfl) (pX0_unlikeCopies (h2 c0) ?_)
    refine ps_iast (ps_at tX0_makeGroups_ok 25 rfl) sh_7 (h2 c0) ?_
    refine ps_iinc (L' := [some (.inr (.inr (3, i0))), some (.inl (v1 + 1))]) (y := 1) (ps_at tX0_makeGroups_ok 26 rfl) rfl (by decide) (by decide) rfl ?_
    refine ps_goto (tgt := 10) (ps_at tX0_makeGroups_ok 27 rfl) (by decide) ?_
    exact h3 c0
theorem bX0_makeGroups_53 {d : Nat} {Q : Option ps_V → ps_S → Prop} {i0 : Nat} {σ : ps_S} (h1 : ps_C mX0_fill (d + 2) [.inr (.inr (3, i0)), .inl 0, .inl 0] σ (ps_ri (fun x σ1 => kX0_makeGroups_59 d Q i0 x σ1))) : kX0_makeGroups_53 d Q i0 σ := by
  refine ps_aload_n (ps_at tX0_makeGroups_ok 31 rfl) rfl rfl ?_
  refine ps_iconst (x := 0) (ps_at tX0_makeGroups_ok 32 rfl) (by decide) ?_
  refine ps_iconst (x := 0) (ps_at tX0_makeGroups_ok 33 rfl) (by decide) ?_
  refine ps_callS (M2 := mX0_fill) (av := [.inr (.inr (3, i0)), .inl 0, .inl 0]) (rest := []) (ps_at tX0_makeGroups_ok 34 rfl) csX0_65 rfl rfl (fun _ => Nat.le_of_ble_eq_true rfl) ?_
  refine ps_C.imp ?_ (h1)
  rintro _ σ1 ⟨x, rfl, hx⟩
  exact hx
theorem bX0_makeGroups_59 {d : Nat} {Q : Option ps_V → ps_S → Prop} {i0 : Nat} {s0 : Int32} {σ : ps_S} (h1 : ¬ s0 = 0 → Q none (ps_up σ 3 i0 7 1)) (h2 : s0 = 0 → 9 ≤ (σ 3 i0 6) → Q none (ps_up σ 3 i0 7 1)) (h3 : s0 = 0 → ¬ 9 ≤ (σ 3 i0 6) → kX0_makeGroups_53 d Q i0 (ps_up σ 3 i0 6 ((σ 3 i0 6) + 1))) : kX0_makeGroups_59 d Q i0 s0 σ := by
  refine ps_if_ne (tgt := 84) (ps_at tX0_makeGroups_ok 35 rfl) (by decide) (fun c0 => ?_) (fun c0 => ?_)
  · skip
    refine ps_aload_n (ps_at tX0_makeGroups_ok 47 rfl) rfl rfl ?_
    refine ps_iconst (x := 1) (ps_at tX0_makeGroups_ok 48 rfl) (by decide) ?_
    refine ps_putZ (ps_at tX0_makeGroups_ok 49 rfl) fpX0_39 sh_3 rfl (Or.inr rfl) ?_
    exact ps_vret (ps_at tX0_makeGroups_ok 50 rfl) rfl ⟨rfl, rfl⟩ (h1 c0)
  · skip
    refine ps_aload_n (ps_at tX0_makeGroups_ok 36 rfl) rfl rfl ?_
    refine ps_getI (ps_at tX0_makeGroups_ok 37 rfl) flX0_62 sh_3 rfl ?_
    refine ps_bipush (x := 9) (ps_at tX0_makeGroups_ok 38 rfl) (by decide) ?_
    refine ps_icmp_ge (tgt := 84) (ps_at tX0_makeGroups_ok 39 rfl) (by decide) (fun c1 => ?_) (fun c1 => ?_)
    · skip
      refine ps_aload_n (ps_at tX0_makeGroups_ok 47 rfl) rfl rfl ?_
      refine ps_iconst (x := 1) (ps_at tX0_makeGroups_ok 48 rfl) (by decide) ?_
      refine ps_putZ (ps_at tX0_makeGroups_ok 49 rfl) fpX0_39 sh_3 rfl (Or.inr rfl) ?_
      exact ps_vret (ps_at tX0_makeGroups_ok 50 rfl) rfl ⟨rfl, rfl⟩ (h2 c0 c1)
    · skip
      refine ps_aload_n (ps_at tX0_makeGroups_ok 40 rfl) rfl rfl ?_
      refine ps_dup_r (ps_at tX0_makeGroups_ok 41 rfl) ?_
      refine ps_getI (ps_at tX0_makeGroups_ok 42 rfl) flX0_62 sh_3 rfl ?_
      refine ps_iconst (x := 1) (ps_at tX0_makeGroups_ok 43 rfl) (by decide) ?_
      refine ps_iadd (ps_at tX0_makeGroups_ok 44 rfl) ?_
      refine ps_putI (ps_at tX0_makeGroups_ok 45 rfl) fpX0_62 sh_3 rfl ?_
      refine ps_goto (tgt := 53) (ps_at tX0_makeGroups_ok 46 rfl) (by decide) ?_
      exact h3 c0 c1
theorem eX0_makeGroups {d : Nat} {Q : Option ps_V → ps_S → Prop} {i0 : Nat} {σ : ps_S} (h : kX0_makeGroups_0 d Q i0 σ) : ps_C mX0_makeGroups (d + 3) [.inr (.inr (3, i0))] σ Q := ps_enter (by decide) rfl ⟨rfl, rfl, rfl⟩ rfl (Nat.le_of_ble_eq_true rfl) h
abbrev kX0_fill_0 (d : Nat) (Q : Option ps_V → ps_S → Prop) (i0 : Nat) (v1 : Int32) (v2 : Int32) (σ : ps_S) : Prop := ps_K mX0_fill (d + 1) (ps_QF Q) 0 [some (.inr (.inr (3, i0))), some (.inl v1), some (.inl v2), none] [] σ
abbrev kX0_fill_30 (d : Nat) (Q : Option ps_V → ps_S → Prop) (i0 : Nat) (v1 : Int32) (v2 : Int32) (v3 : Int32) (σ : ps_S) : Prop := ps_K mX0_fill (d + 1) (ps_QF Q) 30 [some (.inr (.inr (3, i0))), some (.inl v1), some (.inl v2), some (.inl v3)] [] σ
abbrev kX0_fill_27 (d : Nat) (Q : Option ps_V → ps_S → Prop) (s0 : Int32) (σ : ps_S) : Prop := ps_K mX0_fill (d + 1) (ps_QF Q) 27 [none, none, none, none] [.inl s0] σ
abbrev kX0_fill_92 (d : Nat) (Q : Option ps_V → ps_S → Prop) (i0 : Nat) (v1 : Int32) (v2 : Int32) (v3 : Int32) (s0 : Int32) (σ : ps_S) : Prop := ps_K mX0_fill (d + 1) (ps_QF Q) 92 [some (.inr (.inr (3, i0))), some (.inl v1), some (.inl v2), some (.inl v3)] [.inl s0] σ
theorem bX0_fill_0 {d : Nat} {Q : Option ps_V → ps_S → Prop} {i0 : Nat} {v1 : Int32} {v2 : Int32} {σ : ps_S} (h1 : v1 < 9 → ¬ (((σ 3 i0 5) >>> (v1 &&& 31)) &&& 1) = 0 → kX0_fill_30 d Q i0 v1 v2 0 σ) (h2 : v1 < 9 → (((σ 3 i0 5) >>> (v1 &&& 31)) &&& 1) = 0 → ps_C mX0_fill d [.inr (.inr (3, i0)), .inl (v1 + 1), .inl v2] σ (ps_ri (fun x σ1 => kX0_fill_27 d Q x σ1))) (h3 : ¬ v1 < 9 → Q (some (.inl 1)) σ) : kX0_fill_0 d Q i0 v1 v2 σ := by
  refine ps_iload_n (ps_at tX0_fill_ok 0 rfl) rfl rfl ?_
  refine ps_bipush (x := 9) (ps_at tX0_fill_ok 1 rfl) (by decide) ?_
  refine ps_icmp_lt (tgt := 8) (ps_at tX0_fill_ok 2 rfl) (by decide) (fun c0 => ?_) (fun c0 => ?_)
  · skip
    refine ps_aload_n (ps_at tX0_fill_ok 5 rfl) rfl rfl ?_
    refine ps_getI (ps_at tX0_fill_ok 6 rfl) flX0_54 sh_3 rfl ?_
    refine ps_iload_n (ps_at tX0_fill_ok 7 rfl) rfl rfl ?_
    refine ps_ishr (ps_at tX0_fill_ok 8 rfl) ?_
    refine ps_iconst (x := 1) (ps_at tX0_fill_ok 9 rfl) (by decide) ?_
    refine ps_iand (ps_at tX0_fill_ok 10 rfl) ?_
    refine ps_if_ne (tgt := 28) (ps_at tX0_fill_ok 11 rfl) (by decide) (fun c1 => ?_) (fun c1 => ?_)
    · skip
      refine ps_iconst (x := 0) (ps_at tX0_fill_ok 19 rfl) (by decide) ?_
      refine ps_istore_n (L' := [some (.inr (.inr (3, i0))), some (.inl v1), some (.inl v2), some (.inl 0)]) (ps_at tX0_fill_ok 20 rfl) rfl (by decide) rfl ?_
      exact h1 c0 c1
    · skip
      refine ps_aload_n (ps_at tX0_fill_ok 12 rfl) rfl rfl ?_
      refine ps_iload_n (ps_at tX0_fill_ok 13 rfl) rfl rfl ?_
      refine ps_iconst (x := 1) (ps_at tX0_fill_ok 14 rfl) (by decide) ?_
      refine ps_iadd (ps_at tX0_fill_ok 15 rfl) ?_
      refine ps_iload_n (ps_at tX0_fill_ok 16 rfl) rfl rfl ?_
      refine ps_callS (M2 := mX0_fill) (av := [.inr (.inr (3, i0)), .inl (v1 + 1), .inl v2]) (rest := []) (ps_at tX0_fill_ok 17 rfl) csX0_65 rfl rfl (fun _ => Nat.le_of_ble_eq_true rfl) ?_
      refine ps_C.imp ?_ (h2 c0 c1)
      rintro _ σ1 ⟨x, rfl, hx⟩
      exact ps_forget (L' := [none, none, none, none]) trivial hx
  · skip
    refine ps_iconst (x := 1) (ps_at tX0_fill_ok 3 rfl) (by decide) ?_
    exact ps_zret (ps_at tX0_fill_ok 4 rfl) rfl ⟨rfl, rfl⟩ (Or.inr rfl) (h3 c0)
theorem bX0_fill_30 {d : Nat} {Q : Option ps_V → ps_S → Prop} {i0 : Nat} {v1 : Int32} {v2 : Int32} {v3 : Int32} {σ : ps_S} (h1 : v2 < v3 → Q (some (.inl 0)) σ) (h2 : ¬ v2 < v3 → (σ 3 i0 6) ≤ v3 → Q (some (.inl 0)) σ) (h3 : ¬ v2 < v3 → ¬ (σ 3 i0 6) ≤ v3 → vp_in v3 9) (h4 : ¬ v2 < v3 → ¬ (σ 3 i0 6) ≤ v3 → vp_in v1 9) (h5 : ¬ v2 < v3 → ¬ (σ 3 i0 6) ≤ v3 → ¬ ((σ 8 i0 v3.toNatClampNeg) &&& (σ 7 i0 v1.toNatClampNeg)) = 0 → kX0_fill_30 d Q i0 v1 v2 (v3 + 1) σ) (h6 : ¬ v2 < v3 → ¬ (σ 3 i0 6) ≤ v3 → ((σ 8 i0 v3.toNatClampNeg) &&& (σ 7 i0 v1.toNatClampNeg)) = 0 → ps_C mX0_fill d [.inr (.inr (3, i0)), .inl (v1 + 1), .inl (jbMax v2 (v3 + 1))] (ps_up (ps_up σ 8 i0 v3.toNatClampNeg ((σ 8 i0 v3.toNatClampNeg) ||| ((1 : Int32) <<< (v1 &&& 31)))) 9 i0 v1.toNatClampNeg v3) (ps_ri (fun x σ1 => kX0_fill_92 d Q i0 v1 v2 v3 x σ1))) : kX0_fill_30 d Q i0 v1 v2 v3 σ := by
  refine ps_iload_n (ps_at tX0_fill_ok 21 rfl) rfl rfl ?_
  refine ps_iload_n (ps_at tX0_fill_ok 22 rfl) rfl rfl ?_
  refine ps_icmp_gt (tgt := 117) (ps_at tX0_fill_ok 23 rfl) (by decide) (fun c0 => ?_) (fun c0 => ?_)
  · skip
    refine ps_iconst (x := 0) (ps_at tX0_fill_ok 80 rfl) (by decide) ?_
    exact ps_zret (ps_at tX0_fill_ok 81 rfl) rfl ⟨rfl, rfl⟩ (Or.inl rfl) (h1 c0)
  · skip
    refine ps_iload_n (ps_at tX0_fill_ok 24 rfl) rfl rfl ?_
    refine ps_aload_n (ps_at tX0_fill_ok 25 rfl) rfl rfl ?_
    refine ps_getI (ps_at tX0_fill_ok 26 rfl) flX0_62 sh_3 rfl ?_
    refine ps_icmp_ge (tgt := 117) (ps_at tX0_fill_ok 27 rfl) (by decide) (fun c1 => ?_) (fun c1 => ?_)
    · skip
      refine ps_iconst (x := 0) (ps_at tX0_fill_ok 80 rfl) (by decide) ?_
      exact ps_zret (ps_at tX0_fill_ok 81 rfl) rfl ⟨rfl, rfl⟩ (Or.inl rfl) (h2 c0 c1)
    · skip
      refine ps_aload_n (ps_at tX0_fill_ok 28 rfl) rfl rfl ?_
      refine ps_getR (ps_at tX0_fill_ok 29 rfl) flX0_23 sh_3 rfl ?_
      refine ps_iload_n (ps_at tX0_fill_ok 30 rfl) rfl rfl ?_
      refine ps_iald (ps_at tX0_fill_ok 31 rfl) sh_8 (h3 c0 c1) ?_
      refine ps_aload_n (ps_at tX0_fill_ok 32 rfl) rfl rfl ?_
      refine ps_getR (ps_at tX0_fill_ok 33 rfl) flX0_20 sh_3 rfl ?_
      refine ps_iload_n (ps_at tX0_fill_ok 34 rfl) rfl rfl ?_
      refine ps_iald (ps_at tX0_fill_ok 35 rfl) sh_7 (h4 c0 c1) ?_
      refine ps_iand (ps_at tX0_fill_ok 36 rfl) ?_
      refine ps_if_ne (tgt := 111) (ps_at tX0_fill_ok 37 rfl) (by decide) (fun c2 => ?_) (fun c2 => ?_)
      · skip
        refine ps_iinc (L' := [some (.inr (.inr (3, i0))), some (.inl v1), some (.inl v2), some (.inl (v3 + 1))]) (y := 1) (ps_at tX0_fill_ok 78 rfl) rfl (by decide) (by decide) rfl ?_
        refine ps_goto (tgt := 30) (ps_at tX0_fill_ok 79 rfl) (by decide) ?_
        exact h5 c0 c1 c2
      · skip
        refine ps_aload_n (ps_at tX0_fill_ok 38 rfl) rfl rfl ?_
        refine ps_getR (ps_at tX0_fill_ok 39 rfl) flX0_23 sh_3 rfl ?_
        refine ps_iload_n (ps_at tX0_fill_ok 40 rfl) rfl rfl ?_
        refine ps_dup2 (ps_at tX0_fill_ok 41 rfl) ?_
        refine ps_iald (ps_at tX0_fill_ok 42 rfl) sh_8 (h3 c0 c1) ?_
        refine ps_iconst (x := 1) (ps_at tX0_fill_ok 43 rfl) (by decide) ?_
        refine ps_iload_n (ps_at tX0_fill_ok 44 rfl) rfl rfl ?_
        refine ps_ishl (ps_at tX0_fill_ok 45 rfl) ?_
        refine ps_ior (ps_at tX0_fill_ok 46 rfl) ?_
        refine ps_iast (ps_at tX0_fill_ok 47 rfl) sh_8 (h3 c0 c1) ?_
        refine ps_aload_n (ps_at tX0_fill_ok 48 rfl) rfl rfl ?_
        refine ps_getR (ps_at tX0_fill_ok 49 rfl) flX0_26 sh_3 rfl ?_
        refine ps_iload_n (ps_at tX0_fill_ok 50 rfl) rfl rfl ?_
        refine ps_iload_n (ps_at tX0_fill_ok 51 rfl) rfl rfl ?_
        refine ps_iast (ps_at tX0_fill_ok 52 rfl) sh_9 (h4 c0 c1) ?_
        refine ps_aload_n (ps_at tX0_fill_ok 53 rfl) rfl rfl ?_
        refine ps_iload_n (ps_at tX0_fill_ok 54 rfl) rfl rfl ?_
        refine ps_iconst (x := 1) (ps_at tX0_fill_ok 55 rfl) (by decide) ?_
        refine ps_iadd (ps_at tX0_fill_ok 56 rfl) ?_
        refine ps_iload_n (ps_at tX0_fill_ok 57 rfl) rfl rfl ?_
        refine ps_iload_n (ps_at tX0_fill_ok 58 rfl) rfl rfl ?_
        refine ps_iconst (x := 1) (ps_at tX0_fill_ok 59 rfl) (by decide) ?_
        refine ps_iadd (ps_at tX0_fill_ok 60 rfl) ?_
        refine ps_mmax (ps_at tX0_fill_ok 61 rfl) cmX0_71 (fun _ => Nat.le_of_ble_eq_true rfl) ?_
        refine ps_callS (M2 := mX0_fill) (av := [.inr (.inr (3, i0)), .inl (v1 + 1), .inl (jbMax v2 (v3 + 1))]) (rest := []) (ps_at tX0_fill_ok 62 rfl) csX0_65 rfl rfl (fun _ => Nat.le_of_ble_eq_true rfl) ?_
        refine ps_C.imp ?_ (h6 c0 c1 c2)
        rintro _ σ1 ⟨x, rfl, hx⟩
        exact hx
theorem bX0_fill_27 {d : Nat} {Q : Option ps_V → ps_S → Prop} {s0 : Int32} {σ : ps_S} (h1 : (s0 = 0 ∨ s0 = 1)) (h2 : Q (some (.inl s0)) σ) : kX0_fill_27 d Q s0 σ := by
  exact ps_zret (ps_at tX0_fill_ok 18 rfl) rfl ⟨rfl, rfl⟩ (h1) (h2)
theorem bX0_fill_92 {d : Nat} {Q : Option ps_V → ps_S → Prop} {i0 : Nat} {v1 : Int32} {v2 : Int32} {v3 : Int32} {s0 : Int32} {σ : ps_S} (h1 : s0 = 0 → vp_in v3 9) (h2 : s0 = 0 → kX0_fill_30 d Q i0 v1 v2 (v3 + 1) (ps_up σ 8 i0 v3.toNatClampNeg ((σ 8 i0 v3.toNatClampNeg) &&& (((1 : Int32) <<< (v1 &&& 31)) ^^^ (-1))))) (h3 : ¬ s0 = 0 → Q (some (.inl 1)) σ) : kX0_fill_92 d Q i0 v1 v2 v3 s0 σ := by
  refine ps_if_eq (tgt := 97) (ps_at tX0_fill_ok 63 rfl) (by decide) (fun c0 => ?_) (fun c0 => ?_)
  · skip
    refine ps_aload_n (ps_at tX0_fill_ok 66 rfl) rfl rfl ?_
    refine ps_getR (ps_at tX0_fill_ok 67 rfl) flX0_23 sh_3 rfl ?_
    refine ps_iload_n (ps_at tX0_fill_ok 68 rfl) rfl rfl ?_
    refine ps_dup2 (ps_at tX0_fill_ok 69 rfl) ?_
    refine ps_iald (ps_at tX0_fill_ok 70 rfl) sh_8 (h1 c0) ?_
    refine ps_iconst (x := 1) (ps_at tX0_fill_ok 71 rfl) (by decide) ?_
    refine ps_iload_n (ps_at tX0_fill_ok 72 rfl) rfl rfl ?_
    refine ps_ishl (ps_at tX0_fill_ok 73 rfl) ?_
    refine ps_iconst (x := (-1)) (ps_at tX0_fill_ok 74 rfl) (by decide) ?_
    refine ps_ixor (ps_at tX0_fill_ok 75 rfl) ?_
    refine ps_iand (ps_at tX0_fill_ok 76 rfl) ?_
    refine ps_iast (ps_at tX0_fill_ok 77 rfl) sh_8 (h1 c0) ?_
    refine ps_iinc (L' := [some (.inr (.inr (3, i0))), some (.inl v1), some (.inl v2), some (.inl (v3 + 1))]) (y := 1) (ps_at tX0_fill_ok 78 rfl) rfl (by decide) (by decide) rfl ?_
    refine ps_goto (tgt := 30) (ps_at tX0_fill_ok 79 rfl) (by decide) ?_
    exact h2 c0
  · skip
    refine ps_iconst (x := 1) (ps_at tX0_fill_ok 64 rfl) (by decide) ?_
    exact ps_zret (ps_at tX0_fill_ok 65 rfl) rfl ⟨rfl, rfl⟩ (Or.inr rfl) (h3 c0)
theorem eX0_fill {d : Nat} {Q : Option ps_V → ps_S → Prop} {i0 : Nat} {v1 : Int32} {v2 : Int32} {σ : ps_S} (h : kX0_fill_0 d Q i0 v1 v2 σ) : ps_C mX0_fill (d + 1) [.inr (.inr (3, i0)), .inl v1, .inl v2] σ Q := ps_enter (by decide) rfl ⟨rfl, rfl, rfl⟩ rfl (Nat.le_of_ble_eq_true rfl) h

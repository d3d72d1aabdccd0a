/-! ===== printed by wip/whole/gen.py: block rows ===== -/
abbrev kJ7_fill_53178_0 (d : Nat) (Q : Option ps_V → ps_S → Prop) (g : Nat) (i0 : Nat) (v1 : Int32) (σ : ps_S) : Prop := ps_K mJ7_fill_53178 d (ps_QF Q) 0 [some (.inr (.inr (g, i0))), some (.inl v1), none, none] [] σ
abbrev kJ7_fill_53178_5 (d : Nat) (Q : Option ps_V → ps_S → Prop) (g : Nat) (i0 : Nat) (v1 : Int32) (v2 : Int32) (v3 : Int32) (σ : ps_S) : Prop := ps_K mJ7_fill_53178 d (ps_QF Q) 5 [some (.inr (.inr (g, i0))), some (.inl v1), some (.inl v2), some (.inl v3)] [] σ
theorem bJ7_fill_53178_0 {d : Nat} {Q : Option ps_V → ps_S → Prop} {i0 : Nat} {v1 : Int32} {σ : ps_S} {g n : Nat} (hs : (ps_sh g).2 = .inr (0, n, none)) (hn : n ≠ 0) (h1 : kJ7_fill_53178_5 d Q g i0 v1 0 (Int32.ofNat n) σ) : kJ7_fill_53178_0 d Q g i0 v1 σ := by
  refine ps_iconst (x := 0) (ps_at tJ7_fill_53178_ok 0 rfl) (by decide) ?_
  refine ps_istore_n (L' := [some (.inr (.inr (g, i0))), some (.inl v1), some (.inl 0), none]) (ps_at tJ7_fill_53178_ok 1 rfl) rfl (by decide) rfl ?_
  refine ps_aload_n (ps_at tJ7_fill_53178_ok 2 rfl) rfl rfl ?_
  refine ps_alen (ps_at tJ7_fill_53178_ok 3 rfl) hs hn rfl ?_
  refine ps_istore_n (L' := [some (.inr (.inr (g, i0))), some (.inl v1), some (.inl 0), some (.inl (Int32.ofNat n))]) (ps_at tJ7_fill_53178_ok 4 rfl) rfl (by decide) rfl ?_
  exact h1
theorem bJ7_fill_53178_5 {d : Nat} {Q : Option ps_V → ps_S → Prop} {i0 : Nat} {v1 : Int32} {v2 : Int32} {v3 : Int32} {σ : ps_S} {g n : Nat} (hs : (ps_sh g).2 = .inr (0, n, none)) (hn : n ≠ 0) (h1 : v3 ≤ v2 → Q none σ) (h2 : ¬ v3 ≤ v2 → vp_in v2 n) (h3 : ¬ v3 ≤ v2 → kJ7_fill_53178_5 d Q g i0 v1 (v2 + 1) v3 (ps_up σ g i0 v2.toNatClampNeg v1)) : kJ7_fill_53178_5 d Q g i0 v1 v2 v3 σ := by
  refine ps_iload_n (ps_at tJ7_fill_53178_ok 5 rfl) rfl rfl ?_
  refine ps_iload_n (ps_at tJ7_fill_53178_ok 6 rfl) rfl rfl ?_
  refine ps_icmp_ge (tgt := 20) (ps_at tJ7_fill_53178_ok 7 rfl) (by decide) (fun c0 => ?_) (fun c0 => ?_)
  · skip
    exact ps_vret (ps_at tJ7_fill_53178_ok 14 rfl) rfl ⟨rfl, rfl⟩ (h1 c0)
  · skip
    refine ps_aload_n (ps_at tJ7_fill_53178_ok 8 rfl) rfl rfl ?_
    refine ps_iload_n (ps_at tJ7_fill_53178_ok 9 rfl) rfl rfl ?_
    refine ps_iload_n (ps_at tJ7_fill_53178_ok 10 rfl) rfl rfl ?_
    refine ps_iast (ps_at tJ7_fill_53178_ok 11 rfl) hs (h2 c0) ?_
    refine ps_iinc (L' := [some (.inr (.inr (g, i0))), some (.inl v1), some (.inl (v2 + 1)), some (.inl v3)]) (y := 1) (ps_at tJ7_fill_53178_ok 12 rfl) rfl (by decide) (by decide) rfl ?_
    refine ps_goto (tgt := 5) (ps_at tJ7_fill_53178_ok 13 rfl) (by decide) ?_
    exact h3 c0
theorem eJ7_fill_53178 {d : Nat} {Q : Option ps_V → ps_S → Prop} {g : Nat} {i0 : Nat} {v1 : Int32} {σ : ps_S} (h : kJ7_fill_53178_0 d Q g i0 v1 σ) : ps_C mJ7_fill_53178 d [.inr (.inr (g, i0)), .inl v1] σ Q := ps_enter (by decide) rfl ⟨rfl, rfl, rfl⟩ rfl (Nat.le_of_ble_eq_true rfl) h
abbrev kJ6_bitCount_0f7a4_0 (d : Nat) (Q : Option ps_V → ps_S → Prop) (v0 : Int32) (σ : ps_S) : Prop := ps_K mJ6_bitCount_0f7a4 d (ps_QF Q) 0 [some (.inl v0)] [] σ
theorem bJ6_bitCount_0f7a4_0 {d : Nat} {Q : Option ps_V → ps_S → Prop} {v0 : Int32} {σ : ps_S} (h1 : Q (some (.inl ((((((((v0 - (((v0.toUInt32 >>> ((1 : Int32).toUInt32 &&& Int32.toUInt32 31)).toInt32) &&& 1431655765)) &&& 858993459) + ((((v0 - (((v0.toUInt32 >>> ((1 : Int32).toUInt32 &&& Int32.toUInt32 31)).toInt32) &&& 1431655765)).toUInt32 >>> ((2 : Int32).toUInt32 &&& Int32.toUInt32 31)).toInt32) &&& 858993459)) + (((((v0 - (((v0.toUInt32 >>> ((1 : Int32).toUInt32 &&& Int32.toUInt32 31)).toInt32) &&& 1431655765)) &&& 858993459) + ((((v0 - (((v0.toUInt32 >>> ((1 : Int32).toUInt32 &&& Int32.toUInt32 31)).toInt32) &&& 1431655765)).toUInt32 >>> ((2 : Int32).toUInt32 &&& Int32.toUInt32 31)).toInt32) &&& 858993459)).toUInt32 >>> ((4 : Int32).toUInt32 &&& Int32.toUInt32 31)).toInt32)) &&& 252645135) + (((((((v0 - (((v0.toUInt32 >>> ((1 : Int32).toUInt32 &&& Int32.toUInt32 31)).toInt32) &&& 1431655765)) &&& 858993459) + ((((v0 - (((v0.toUInt32 >>> ((1 : Int32).toUInt32 &&& Int32.toUInt32 31)).toInt32) &&& 1431655765)).toUInt32 >>> ((2 : Int32).toUInt32 &&& Int32.toUInt32 31)).toInt32) &&& 858993459)) + (((((v0 - (((v0.toUInt32 >>> ((1 : Int32).toUInt32 &&& Int32.toUInt32 31)).toInt32) &&& 1431655765)) &&& 858993459) + ((((v0 - (((v0.toUInt32 >>> ((1 : Int32).toUInt32 &&& Int32.toUInt32 31)).toInt32) &&& 1431655765)).toUInt32 >>> ((2 : Int32).toUInt32 &&& Int32.toUInt32 31)).toInt32) &&& 858993459)).toUInt32 >>> ((4 : Int32).toUInt32 &&& Int32.toUInt32 31)).toInt32)) &&& 252645135).toUInt32 >>> ((8 : Int32).toUInt32 &&& Int32.toUInt32 31)).toInt32)) + ((((((((v0 - (((v0.toUInt32 >>> ((1 : Int32).toUInt32 &&& Int32.toUInt32 31)).toInt32) &&& 1431655765)) &&& 858993459) + ((((v0 - (((v0.toUInt32 >>> ((1 : Int32).toUInt32 &&& Int32.toUInt32 31)).toInt32) &&& 1431655765)).toUInt32 >>> ((2 : Int32).toUInt32 &&& Int32.toUInt32 31)).toInt32) &&& 858993459)) + (((((v0 - (((v0.toUInt32 >>> ((1 : Int32).toUInt32 &&& Int32.toUInt32 31)).toInt32) &&& 1431655765)) &&& 858993459) + ((((v0 - (((v0.toUInt32 >>> ((1 : Int32).toUInt32 &&& Int32.toUInt32 31)).toInt32) &&& 1431655765)).toUInt32 >>> ((2 : Int32).toUInt32 &&& Int32.toUInt32 31)).toInt32) &&& 858993459)).toUInt32 >>> ((4 : Int32).toUInt32 &&& Int32.toUInt32 31)).toInt32)) &&& 252645135) + (((((((v0 - (((v0.toUInt32 >>> ((1 : Int32).toUInt32 &&& Int32.toUInt32 31)).toInt32) &&& 1431655765)) &&& 858993459) + ((((v0 - (((v0.toUInt32 >>> ((1 : Int32).toUInt32 &&& Int32.toUInt32 31)).toInt32) &&& 1431655765)).toUInt32 >>> ((2 : Int32).toUInt32 &&& Int32.toUInt32 31)).toInt32) &&& 858993459)) + (((((v0 - (((v0.toUInt32 >>> ((1 : Int32).toUInt32 &&& Int32.toUInt32 31)).toInt32) &&& 1431655765)) &&& 858993459) + ((((v0 - (((v0.toUInt32 >>> ((1 : Int32).toUInt32 &&& Int32.toUInt32 31)).toInt32) &&& 1431655765)).toUInt32 >>> ((2 : Int32).toUInt32 &&& Int32.toUInt32 31)).toInt32) &&& 858993459)).toUInt32 >>> ((4 : Int32).toUInt32 &&& Int32.toUInt32 31)).toInt32)) &&& 252645135).toUInt32 >>> ((8 : Int32).toUInt32 &&& Int32.toUInt32 31)).toInt32)).toUInt32 >>> ((16 : Int32).toUInt32 &&& Int32.toUInt32 31)).toInt32)) &&& 63))) σ) : kJ6_bitCount_0f7a4_0 d Q v0 σ := by
  refine ps_iload_n (ps_at tJ6_bitCount_0f7a4_ok 0 rfl) rfl rfl ?_
  refine ps_iload_n (ps_at tJ6_bitCount_0f7a4_ok 1 rfl) rfl rfl ?_
  refine ps_iconst (x := 1) (ps_at tJ6_bitCount_0f7a4_ok 2 rfl) (by decide) ?_
  refine ps_iushr (ps_at tJ6_bitCount_0f7a4_ok 3 rfl) ?_
  refine ps_ldcw (ps_at tJ6_bitCount_0f7a4_ok 4 rfl) cnJ6_265 ?_
  refine ps_iand (ps_at tJ6_bitCount_0f7a4_ok 5 rfl) ?_
  refine ps_isub (ps_at tJ6_bitCount_0f7a4_ok 6 rfl) ?_
  refine ps_istore_n (L' := [some (.inl (v0 - (((v0.toUInt32 >>> ((1 : Int32).toUInt32 &&& Int32.toUInt32 31)).toInt32) &&& 1431655765)))]) (ps_at tJ6_bitCount_0f7a4_ok 7 rfl) rfl (by decide) rfl ?_
  refine ps_iload_n (ps_at tJ6_bitCount_0f7a4_ok 8 rfl) rfl rfl ?_
  refine ps_ldcw (ps_at tJ6_bitCount_0f7a4_ok 9 rfl) cnJ6_266 ?_
  refine ps_iand (ps_at tJ6_bitCount_0f7a4_ok 10 rfl) ?_
  refine ps_iload_n (ps_at tJ6_bitCount_0f7a4_ok 11 rfl) rfl rfl ?_
  refine ps_iconst (x := 2) (ps_at tJ6_bitCount_0f7a4_ok 12 rfl) (by decide) ?_
  refine ps_iushr (ps_at tJ6_bitCount_0f7a4_ok 13 rfl) ?_
  refine ps_ldcw (ps_at tJ6_bitCount_0f7a4_ok 14 rfl) cnJ6_266 ?_
  refine ps_iand (ps_at tJ6_bitCount_0f7a4_ok 15 rfl) ?_
  refine ps_iadd (ps_at tJ6_bitCount_0f7a4_ok 16 rfl) ?_
  refine ps_istore_n (L' := [some (.inl (((v0 - (((v0.toUInt32 >>> ((1 : Int32).toUInt32 &&& Int32.toUInt32 31)).toInt32) &&& 1431655765)) &&& 858993459) + ((((v0 - (((v0.toUInt32 >>> ((1 : Int32).toUInt32 &&& Int32.toUInt32 31)).toInt32) &&& 1431655765)).toUInt32 >>> ((2 : Int32).toUInt32 &&& Int32.toUInt32 31)).toInt32) &&& 858993459)))]) (ps_at tJ6_bitCount_0f7a4_ok 17 rfl) rfl (by decide) rfl ?_
  refine ps_iload_n (ps_at tJ6_bitCount_0f7a4_ok 18 rfl) rfl rfl ?_
  refine ps_iload_n (ps_at tJ6_bitCount_0f7a4_ok 19 rfl) rfl rfl ?_
  refine ps_iconst (x := 4) (ps_at tJ6_bitCount_0f7a4_ok 20 rfl) (by decide) ?_
  refine ps_iushr (ps_at tJ6_bitCount_0f7a4_ok 21 rfl) ?_
  refine ps_iadd (ps_at tJ6_bitCount_0f7a4_ok 22 rfl) ?_
  refine ps_ldcw (ps_at tJ6_bitCount_0f7a4_ok 23 rfl) cnJ6_267 ?_
  refine ps_iand (ps_at tJ6_bitCount_0f7a4_ok 24 rfl) ?_
  refine ps_istore_n (L' := [some (.inl (((((v0 - (((v0.toUInt32 >>> ((1 : Int32).toUInt32 &&& Int32.toUInt32 31)).toInt32) &&& 1431655765)) &&& 858993459) + ((((v0 - (((v0.toUInt32 >>> ((1 : Int32).toUInt32 &&& Int32.toUInt32 31)).toInt32) &&& 1431655765)).toUInt32 >>> ((2 : Int32).toUInt32 &&& Int32.toUInt32 31)).toInt32) &&& 858993459)) + (((((v0 - (((v0.toUInt32 >>> ((1 : Int32).toUInt32 &&& Int32.toUInt32 31)).toInt32) &&& 1431655765)) &&& 858993459) + ((((v0 - (((v0.toUInt32 >>> ((1 : Int32).toUInt32 &&& Int32.toUInt32 31)).toInt32) &&& 1431655765)).toUInt32 >>> ((2 : Int32).toUInt32 &&& Int32.toUInt32 31)).toInt32) &&& 858993459)).toUInt32 >>> ((4 : Int32).toUInt32 &&& Int32.toUInt32 31)).toInt32)) &&& 252645135))]) (ps_at tJ6_bitCount_0f7a4_ok 25 rfl) rfl (by decide) rfl ?_
  refine ps_iload_n (ps_at tJ6_bitCount_0f7a4_ok 26 rfl) rfl rfl ?_
  refine ps_iload_n (ps_at tJ6_bitCount_0f7a4_ok 27 rfl) rfl rfl ?_
  refine ps_bipush (x := 8) (ps_at tJ6_bitCount_0f7a4_ok 28 rfl) (by decide) ?_
  refine ps_iushr (ps_at tJ6_bitCount_0f7a4_ok 29 rfl) ?_
  refine ps_iadd (ps_at tJ6_bitCount_0f7a4_ok 30 rfl) ?_
  refine ps_istore_n (L' := [some (.inl ((((((v0 - (((v0.toUInt32 >>> ((1 : Int32).toUInt32 &&& Int32.toUInt32 31)).toInt32) &&& 1431655765)) &&& 858993459) + ((((v0 - (((v0.toUInt32 >>> ((1 : Int32).toUInt32 &&& Int32.toUInt32 31)).toInt32) &&& 1431655765)).toUInt32 >>> ((2 : Int32).toUInt32 &&& Int32.toUInt32 31)).toInt32) &&& 858993459)) + (((((v0 - (((v0.toUInt32 >>> ((1 : Int32).toUInt32 &&& Int32.toUInt32 31)).toInt32) &&& 1431655765)) &&& 858993459) + ((((v0 - (((v0.toUInt32 >>> ((1 : Int32).toUInt32 &&& Int32.toUInt32 31)).toInt32) &&& 1431655765)).toUInt32 >>> ((2 : Int32).toUInt32 &&& Int32.toUInt32 31)).toInt32) &&& 858993459)).toUInt32 >>> ((4 : Int32).toUInt32 &&& Int32.toUInt32 31)).toInt32)) &&& 252645135) + (((((((v0 - (((v0.toUInt32 >>> ((1 : Int32).toUInt32 &&& Int32.toUInt32 31)).toInt32) &&& 1431655765)) &&& 858993459) + ((((v0 - (((v0.toUInt32 >>> ((1 : Int32).toUInt32 &&& Int32.toUInt32 31)).toInt32) &&& 1431655765)).toUInt32 >>> ((2 : Int32).toUInt32 &&& Int32.toUInt32 31)).toInt32) &&& 858993459)) + (((((v0 - (((v0.toUInt32 >>> ((1 : Int32).toUInt32 &&& Int32.toUInt32 31)).toInt32) &&& 1431655765)) &&& 858993459) + ((((v0 - (((v0.toUInt32 >>> ((1 : Int32).toUInt32 &&& Int32.toUInt32 31)).toInt32) &&& 1431655765)).toUInt32 >>> ((2 : Int32).toUInt32 &&& Int32.toUInt32 31)).toInt32) &&& 858993459)).toUInt32 >>> ((4 : Int32).toUInt32 &&& Int32.toUInt32 31)).toInt32)) &&& 252645135).toUInt32 >>> ((8 : Int32).toUInt32 &&& Int32.toUInt32 31)).toInt32)))]) (ps_at tJ6_bitCount_0f7a4_ok 31 rfl) rfl (by decide) rfl ?_
  refine ps_iload_n (ps_at tJ6_bitCount_0f7a4_ok 32 rfl) rfl rfl ?_
  refine ps_iload_n (ps_at tJ6_bitCount_0f7a4_ok 33 rfl) rfl rfl ?_
  refine ps_bipush (x := 16) (ps_at tJ6_bitCount_0f7a4_ok 34 rfl) (by decide) ?_
  refine ps_iushr (ps_at tJ6_bitCount_0f7a4_ok 35 rfl) ?_
  refine ps_iadd (ps_at tJ6_bitCount_0f7a4_ok 36 rfl) ?_
  refine ps_istore_n (L' := [some (.inl (((((((v0 - (((v0.toUInt32 >>> ((1 : Int32).toUInt32 &&& Int32.toUInt32 31)).toInt32) &&& 1431655765)) &&& 858993459) + ((((v0 - (((v0.toUInt32 >>> ((1 : Int32).toUInt32 &&& Int32.toUInt32 31)).toInt32) &&& 1431655765)).toUInt32 >>> ((2 : Int32).toUInt32 &&& Int32.toUInt32 31)).toInt32) &&& 858993459)) + (((((v0 - (((v0.toUInt32 >>> ((1 : Int32).toUInt32 &&& Int32.toUInt32 31)).toInt32) &&& 1431655765)) &&& 858993459) + ((((v0 - (((v0.toUInt32 >>> ((1 : Int32).toUInt32 &&& Int32.toUInt32 31)).toInt32) &&& 1431655765)).toUInt32 >>> ((2 : Int32).toUInt32 &&& Int32.toUInt32 31)).toInt32) &&& 858993459)).toUInt32 >>> ((4 : Int32).toUInt32 &&& Int32.toUInt32 31)).toInt32)) &&& 252645135) + (((((((v0 - (((v0.toUInt32 >>> ((1 : Int32).toUInt32 &&& Int32.toUInt32 31)).toInt32) &&& 1431655765)) &&& 858993459) + ((((v0 - (((v0.toUInt32 >>> ((1 : Int32).toUInt32 &&& Int32.toUInt32 31)).toInt32) &&& 1431655765)).toUInt32 >>> ((2 : Int32).toUInt32 &&& Int32.toUInt32 31)).toInt32) &&& 858993459)) + (((((v0 - (((v0.toUInt32 >>> ((1 : Int32).toUInt32 &&& Int32.toUInt32 31)).toInt32) &&& 1431655765)) &&& 858993459) + ((((v0 - (((v0.toUInt32 >>> ((1 : Int32).toUInt32 &&& Int32.toUInt32 31)).toInt32) &&& 1431655765)).toUInt32 >>> ((2 : Int32).toUInt32 &&& Int32.toUInt32 31)).toInt32) &&& 858993459)).toUInt32 >>> ((4 : Int32).toUInt32 &&& Int32.toUInt32 31)).toInt32)) &&& 252645135).toUInt32 >>> ((8 : Int32).toUInt32 &&& Int32.toUInt32 31)).toInt32)) + ((((((((v0 - (((v0.toUInt32 >>> ((1 : Int32).toUInt32 &&& Int32.toUInt32 31)).toInt32) &&& 1431655765)) &&& 858993459) + ((((v0 - (((v0.toUInt32 >>> ((1 : Int32).toUInt32 &&& Int32.toUInt32 31)).toInt32) &&& 1431655765)).toUInt32 >>> ((2 : Int32).toUInt32 &&& Int32.toUInt32 31)).toInt32) &&& 858993459)) + (((((v0 - (((v0.toUInt32 >>> ((1 : Int32).toUInt32 &&& Int32.toUInt32 31)).toInt32) &&& 1431655765)) &&& 858993459) + ((((v0 - (((v0.toUInt32 >>> ((1 : Int32).toUInt32 &&& Int32.toUInt32 31)).toInt32) &&& 1431655765)).toUInt32 >>> ((2 : Int32).toUInt32 &&& Int32.toUInt32 31)).toInt32) &&& 858993459)).toUInt32 >>> ((4 : Int32).toUInt32 &&& Int32.toUInt32 31)).toInt32)) &&& 252645135) + (((((((v0 - (((v0.toUInt32 >>> ((1 : Int32).toUInt32 &&& Int32.toUInt32 31)).toInt32) &&& 1431655765)) &&& 858993459) + ((((v0 - (((v0.toUInt32 >>> ((1 : Int32).toUInt32 &&& Int32.toUInt32 31)).toInt32) &&& 1431655765)).toUInt32 >>> ((2 : Int32).toUInt32 &&& Int32.toUInt32 31)).toInt32) &&& 858993459)) + (((((v0 - (((v0.toUInt32 >>> ((1 : Int32).toUInt32 &&& Int32.toUInt32 31)).toInt32) &&& 1431655765)) &&& 858993459) + ((((v0 - (((v0.toUInt32 >>> ((1 : Int32).toUInt32 &&& Int32.toUInt32 31)).toInt32) &&& 1431655765)).toUInt32 >>> ((2 : Int32).toUInt32 &&& Int32.toUInt32 31)).toInt32) &&& 858993459)).toUInt32 >>> ((4 : Int32).toUInt32 &&& Int32.toUInt32 31)).toInt32)) &&& 252645135).toUInt32 >>> ((8 : Int32).toUInt32 &&& Int32.toUInt32 31)).toInt32)).toUInt32 >>> ((16 : Int32).toUInt32 &&& Int32.toUInt32 31)).toInt32)))]) (ps_at tJ6_bitCount_0f7a4_ok 37 rfl) rfl (by decide) rfl ?_
  refine ps_iload_n (ps_at tJ6_bitCount_0f7a4_ok 38 rfl) rfl rfl ?_
  refine ps_bipush (x := 63) (ps_at tJ6_bitCount_0f7a4_ok 39 rfl) (by decide) ?_
  refine ps_iand (ps_at tJ6_bitCount_0f7a4_ok 40 rfl) ?_
  exact ps_iret (ps_at tJ6_bitCount_0f7a4_ok 41 rfl) rfl ⟨rfl, rfl⟩ (h1)
theorem eJ6_bitCount_0f7a4 {d : Nat} {Q : Option ps_V → ps_S → Prop} {v0 : Int32} {σ : ps_S} (h : kJ6_bitCount_0f7a4_0 d Q v0 σ) : ps_C mJ6_bitCount_0f7a4 d [.inl v0] σ Q := ps_enter (by decide) rfl ⟨rfl, rfl, rfl⟩ rfl (Nat.le_of_ble_eq_true rfl) h
theorem pJ6_bitCount_0f7a4 {d : Nat} {Q : Option ps_V → ps_S → Prop} {v0 : Int32} {σ : ps_S}  (hq : Q (some (.inl (jbPop v0))) σ) : ps_C mJ6_bitCount_0f7a4 d [.inl v0] σ Q := eJ6_bitCount_0f7a4 (bJ6_bitCount_0f7a4_0 hq)
abbrev kX8_isForme_0 (d : Nat) (Q : Option ps_V → ps_S → Prop) (v0 : Int32) (σ : ps_S) : Prop := ps_K mX8_isForme (d + 1) (ps_QF Q) 0 [some (.inl v0)] [] σ
theorem bX8_isForme_0 {d : Nat} {Q : Option ps_V → ps_S → Prop} {v0 : Int32} {σ : ps_S} (h1 : Q (some (.inl (jbIn v0.toInt64 0 5))) σ) : kX8_isForme_0 d Q v0 σ := by
  refine ps_iload_n (ps_at tX8_isForme_ok 0 rfl) rfl rfl ?_
  refine ps_i2l (ps_at tX8_isForme_ok 1 rfl) ?_
  refine ps_lconst (x := 0) (ps_at tX8_isForme_ok 2 rfl) (by decide) ?_
  refine ps_ldc2 (ps_at tX8_isForme_ok 3 rfl) clX8_97 ?_
  refine ps_callS (M2 := mX8_in) (av := [.inr (.inl v0.toInt64), .inr (.inl 0), .inr (.inl 5)]) (rest := []) (ps_at tX8_isForme_ok 4 rfl) csX8_99 rfl rfl (fun _ => Nat.le_of_ble_eq_true rfl) (pX8_in ?_)
  exact ps_zret (ps_at tX8_isForme_ok 5 rfl) rfl ⟨rfl, rfl⟩ (ps_bitI _ _ _) (h1)
theorem eX8_isForme {d : Nat} {Q : Option ps_V → ps_S → Prop} {v0 : Int32} {σ : ps_S} (h : kX8_isForme_0 d Q v0 σ) : ps_C mX8_isForme (d + 1) [.inl v0] σ Q := ps_enter (by decide) rfl ⟨rfl, rfl, rfl⟩ rfl (Nat.le_of_ble_eq_true rfl) h
theorem pX8_isForme {d : Nat} {Q : Option ps_V → ps_S → Prop} {v0 : Int32} {σ : ps_S}  (hq : Q (some (.inl (jbIn v0.toInt64 0 5))) σ) : ps_C mX8_isForme (d + 1) [.inl v0] σ Q := eX8_isForme (bX8_isForme_0 hq)
abbrev kX8_isCopy_0 (d : Nat) (Q : Option ps_V → ps_S → Prop) (v0 : Int32) (σ : ps_S) : Prop := ps_K mX8_isCopy (d + 1) (ps_QF Q) 0 [some (.inl v0)] [] σ
theorem bX8_isCopy_0 {d : Nat} {Q : Option ps_V → ps_S → Prop} {v0 : Int32} {σ : ps_S} (h1 : Q (some (.inl (jbIn v0.toInt64 0 8))) σ) : kX8_isCopy_0 d Q v0 σ := by
  refine ps_iload_n (ps_at tX8_isCopy_ok 0 rfl) rfl rfl ?_
  refine ps_i2l (ps_at tX8_isCopy_ok 1 rfl) ?_
  refine ps_lconst (x := 0) (ps_at tX8_isCopy_ok 2 rfl) (by decide) ?_
  refine ps_ldc2 (ps_at tX8_isCopy_ok 3 rfl) clX8_103 ?_
  refine ps_callS (M2 := mX8_in) (av := [.inr (.inl v0.toInt64), .inr (.inl 0), .inr (.inl 8)]) (rest := []) (ps_at tX8_isCopy_ok 4 rfl) csX8_99 rfl rfl (fun _ => Nat.le_of_ble_eq_true rfl) (pX8_in ?_)
  exact ps_zret (ps_at tX8_isCopy_ok 5 rfl) rfl ⟨rfl, rfl⟩ (ps_bitI _ _ _) (h1)
theorem eX8_isCopy {d : Nat} {Q : Option ps_V → ps_S → Prop} {v0 : Int32} {σ : ps_S} (h : kX8_isCopy_0 d Q v0 σ) : ps_C mX8_isCopy (d + 1) [.inl v0] σ Q := ps_enter (by decide) rfl ⟨rfl, rfl, rfl⟩ rfl (Nat.le_of_ble_eq_true rfl) h
theorem pX8_isCopy {d : Nat} {Q : Option ps_V → ps_S → Prop} {v0 : Int32} {σ : ps_S}  (hq : Q (some (.inl (jbIn v0.toInt64 0 8))) σ) : ps_C mX8_isCopy (d + 1) [.inl v0] σ Q := eX8_isCopy (bX8_isCopy_0 hq)
abbrev kX7_within_0 (d : Nat) (Q : Option ps_V → ps_S → Prop) (v0 : Int32) (v1 : Int32) (σ : ps_S) : Prop := ps_K mX7_within d (ps_QF Q) 0 [some (.inl v0), some (.inl v1)] [] σ
theorem bX7_within_0 {d : Nat} {Q : Option ps_V → ps_S → Prop} {v0 : Int32} {v1 : Int32} {σ : ps_S} (h1 : v0 < 0 → Q (some (.inl 0)) σ) (h2 : ¬ v0 < 0 → v1 ≤ v0 → Q (some (.inl 0)) σ) (h3 : ¬ v0 < 0 → ¬ v1 ≤ v0 → Q (some (.inl 1)) σ) : kX7_within_0 d Q v0 v1 σ := by
  refine ps_iload_n (ps_at tX7_within_ok 0 rfl) rfl rfl ?_
  refine ps_if_lt (tgt := 13) (ps_at tX7_within_ok 1 rfl) (by decide) (fun c0 => ?_) (fun c0 => ?_)
  · skip
    refine ps_iconst (x := 0) (ps_at tX7_within_ok 7 rfl) (by decide) ?_
    exact ps_zret (ps_at tX7_within_ok 8 rfl) rfl ⟨rfl, rfl⟩ (Or.inl rfl) (h1 c0)
  · skip
    refine ps_iload_n (ps_at tX7_within_ok 2 rfl) rfl rfl ?_
    refine ps_iload_n (ps_at tX7_within_ok 3 rfl) rfl rfl ?_
    refine ps_icmp_ge (tgt := 13) (ps_at tX7_within_ok 4 rfl) (by decide) (fun c1 => ?_) (fun c1 => ?_)
    · skip
      refine ps_iconst (x := 0) (ps_at tX7_within_ok 7 rfl) (by decide) ?_
      exact ps_zret (ps_at tX7_within_ok 8 rfl) rfl ⟨rfl, rfl⟩ (Or.inl rfl) (h2 c0 c1)
    · skip
      refine ps_iconst (x := 1) (ps_at tX7_within_ok 5 rfl) (by decide) ?_
      refine ps_goto (tgt := 14) (ps_at tX7_within_ok 6 rfl) (by decide) ?_
      exact ps_zret (ps_at tX7_within_ok 8 rfl) rfl ⟨rfl, rfl⟩ (Or.inr rfl) (h3 c0 c1)
theorem eX7_within {d : Nat} {Q : Option ps_V → ps_S → Prop} {v0 : Int32} {v1 : Int32} {σ : ps_S} (h : kX7_within_0 d Q v0 v1 σ) : ps_C mX7_within d [.inl v0, .inl v1] σ Q := ps_enter (by decide) rfl ⟨rfl, rfl, rfl⟩ rfl (Nat.le_of_ble_eq_true rfl) h
theorem pX7_within {d : Nat} {Q : Option ps_V → ps_S → Prop} {v0 v1 : Int32} {σ : ps_S}  (hq : Q (some (.inl (jbWi v0 v1))) σ) : ps_C mX7_within d [.inl v0, .inl v1] σ Q := eX7_within (bX7_within_0 (fun c => by simpa [jbWi, c] using hq) (fun c c2 => by simpa [jbWi, c, c2] using hq) (fun c c2 => by simpa [jbWi, c, c2] using hq))
abbrev kX7_isCopy_0 (d : Nat) (Q : Option ps_V → ps_S → Prop) (v0 : Int32) (σ : ps_S) : Prop := ps_K mX7_isCopy (d + 1) (ps_QF Q) 0 [some (.inl v0)] [] σ
theorem bX7_isCopy_0 {d : Nat} {Q : Option ps_V → ps_S → Prop} {v0 : Int32} {σ : ps_S} (h1 : Q (some (.inl (jbWi v0 9))) σ) : kX7_isCopy_0 d Q v0 σ := by
  refine ps_iload_n (ps_at tX7_isCopy_ok 0 rfl) rfl rfl ?_
  refine ps_bipush (x := 9) (ps_at tX7_isCopy_ok 1 rfl) (by decide) ?_
  refine ps_callS (M2 := mX7_within) (av := [.inl v0, .inl 9]) (rest := []) (ps_at tX7_isCopy_ok 2 rfl) csX7_65 rfl rfl (fun _ => Nat.le_of_ble_eq_true rfl) (pX7_within ?_)
  exact ps_zret (ps_at tX7_isCopy_ok 3 rfl) rfl ⟨rfl, rfl⟩ (ps_bitW _ _) (h1)
theorem eX7_isCopy {d : Nat} {Q : Option ps_V → ps_S → Prop} {v0 : Int32} {σ : ps_S} (h : kX7_isCopy_0 d Q v0 σ) : ps_C mX7_isCopy (d + 1) [.inl v0] σ Q := ps_enter (by decide) rfl ⟨rfl, rfl, rfl⟩ rfl (Nat.le_of_ble_eq_true rfl) h
theorem pX7_isCopy {d : Nat} {Q : Option ps_V → ps_S → Prop} {v0 : Int32} {σ : ps_S}  (hq : Q (some (.inl (jbWi v0 9))) σ) : ps_C mX7_isCopy (d + 1) [.inl v0] σ Q := eX7_isCopy (bX7_isCopy_0 hq)
abbrev kX7_isForme_0 (d : Nat) (Q : Option ps_V → ps_S → Prop) (v0 : Int32) (σ : ps_S) : Prop := ps_K mX7_isForme (d + 1) (ps_QF Q) 0 [some (.inl v0)] [] σ
theorem bX7_isForme_0 {d : Nat} {Q : Option ps_V → ps_S → Prop} {v0 : Int32} {σ : ps_S} (h1 : Q (some (.inl (jbWi v0 6))) σ) : kX7_isForme_0 d Q v0 σ := by
  refine ps_iload_n (ps_at tX7_isForme_ok 0 rfl) rfl rfl ?_
  refine ps_bipush (x := 6) (ps_at tX7_isForme_ok 1 rfl) (by decide) ?_
  refine ps_callS (M2 := mX7_within) (av := [.inl v0, .inl 6]) (rest := []) (ps_at tX7_isForme_ok 2 rfl) csX7_65 rfl rfl (fun _ => Nat.le_of_ble_eq_true rfl) (pX7_within ?_)
  exact ps_zret (ps_at tX7_isForme_ok 3 rfl) rfl ⟨rfl, rfl⟩ (ps_bitW _ _) (h1)
theorem eX7_isForme {d : Nat} {Q : Option ps_V → ps_S → Prop} {v0 : Int32} {σ : ps_S} (h : kX7_isForme_0 d Q v0 σ) : ps_C mX7_isForme (d + 1) [.inl v0] σ Q := ps_enter (by decide) rfl ⟨rfl, rfl, rfl⟩ rfl (Nat.le_of_ble_eq_true rfl) h
theorem pX7_isForme {d : Nat} {Q : Option ps_V → ps_S → Prop} {v0 : Int32} {σ : ps_S}  (hq : Q (some (.inl (jbWi v0 6))) σ) : ps_C mX7_isForme (d + 1) [.inl v0] σ Q := eX7_isForme (bX7_isForme_0 hq)
abbrev kX7_isDays_0 (d : Nat) (Q : Option ps_V → ps_S → Prop) (v0 : Int32) (σ : ps_S) : Prop := ps_K mX7_isDays d (ps_QF Q) 0 [some (.inl v0)] [] σ
theorem bX7_isDays_0 {d : Nat} {Q : Option ps_V → ps_S → Prop} {v0 : Int32} {σ : ps_S} (h1 : v0 < 1 → Q (some (.inl 0)) σ) (h2 : ¬ v0 < 1 → 6 < v0 → Q (some (.inl 0)) σ) (h3 : ¬ v0 < 1 → ¬ 6 < v0 → Q (some (.inl 1)) σ) : kX7_isDays_0 d Q v0 σ := by
  refine ps_iload_n (ps_at tX7_isDays_ok 0 rfl) rfl rfl ?_
  refine ps_iconst (x := 1) (ps_at tX7_isDays_ok 1 rfl) (by decide) ?_
  refine ps_icmp_lt (tgt := 15) (ps_at tX7_isDays_ok 2 rfl) (by decide) (fun c0 => ?_) (fun c0 => ?_)
  · skip
    refine ps_iconst (x := 0) (ps_at tX7_isDays_ok 8 rfl) (by decide) ?_
    exact ps_zret (ps_at tX7_isDays_ok 9 rfl) rfl ⟨rfl, rfl⟩ (Or.inl rfl) (h1 c0)
  · skip
    refine ps_iload_n (ps_at tX7_isDays_ok 3 rfl) rfl rfl ?_
    refine ps_bipush (x := 6) (ps_at tX7_isDays_ok 4 rfl) (by decide) ?_
    refine ps_icmp_gt (tgt := 15) (ps_at tX7_isDays_ok 5 rfl) (by decide) (fun c1 => ?_) (fun c1 => ?_)
    · skip
      refine ps_iconst (x := 0) (ps_at tX7_isDays_ok 8 rfl) (by decide) ?_
      exact ps_zret (ps_at tX7_isDays_ok 9 rfl) rfl ⟨rfl, rfl⟩ (Or.inl rfl) (h2 c0 c1)
    · skip
      refine ps_iconst (x := 1) (ps_at tX7_isDays_ok 6 rfl) (by decide) ?_
      refine ps_goto (tgt := 16) (ps_at tX7_isDays_ok 7 rfl) (by decide) ?_
      exact ps_zret (ps_at tX7_isDays_ok 9 rfl) rfl ⟨rfl, rfl⟩ (Or.inr rfl) (h3 c0 c1)
theorem eX7_isDays {d : Nat} {Q : Option ps_V → ps_S → Prop} {v0 : Int32} {σ : ps_S} (h : kX7_isDays_0 d Q v0 σ) : ps_C mX7_isDays d [.inl v0] σ Q := ps_enter (by decide) rfl ⟨rfl, rfl, rfl⟩ rfl (Nat.le_of_ble_eq_true rfl) h
theorem pX7_isDays {d : Nat} {Q : Option ps_V → ps_S → Prop} {v0 : Int32} {σ : ps_S}  (hq : Q (some (.inl (jbDays v0))) σ) : ps_C mX7_isDays d [.inl v0] σ Q := eX7_isDays (bX7_isDays_0 (fun c => by simpa [jbDays, c] using hq) (fun c c2 => by simpa [jbDays, c, c2] using hq) (fun c c2 => by simpa [jbDays, c, c2] using hq))
abbrev kX0_areUnlike_0 (d : Nat) (Q : Option ps_V → ps_S → Prop) (v0 : Int32) (v1 : Int32) (σ : ps_S) : Prop := ps_K mX0_areUnlike d (ps_QF Q) 0 [some (.inl v0), some (.inl v1)] [] σ
theorem bX0_areUnlike_0 {d : Nat} {Q : Option ps_V → ps_S → Prop} {v0 : Int32} {v1 : Int32} {σ : ps_S} (h1 : v0 = (-900009) → Q (some (.inl 0)) σ) (h2 : ¬ v0 = (-900009) → v1 = (-900009) → Q (some (.inl 0)) σ) (h3 : ¬ v0 = (-900009) → ¬ v1 = (-900009) → v0 = v1 → Q (some (.inl 0)) σ) (h4 : ¬ v0 = (-900009) → ¬ v1 = (-900009) → ¬ v0 = v1 → Q (some (.inl 1)) σ) : kX0_areUnlike_0 d Q v0 v1 σ := by
  refine ps_iload_n (ps_at tX0_areUnlike_ok 0 rfl) rfl rfl ?_
  refine ps_ldc (ps_at tX0_areUnlike_ok 1 rfl) cnX0_32 ?_
  refine ps_icmp_eq (tgt := 21) (ps_at tX0_areUnlike_ok 2 rfl) (by decide) (fun c0 => ?_) (fun c0 => ?_)
  · skip
    refine ps_iconst (x := 0) (ps_at tX0_areUnlike_ok 11 rfl) (by decide) ?_
    exact ps_zret (ps_at tX0_areUnlike_ok 12 rfl) rfl ⟨rfl, rfl⟩ (Or.inl rfl) (h1 c0)
  · skip
    refine ps_iload_n (ps_at tX0_areUnlike_ok 3 rfl) rfl rfl ?_
    refine ps_ldc (ps_at tX0_areUnlike_ok 4 rfl) cnX0_32 ?_
    refine ps_icmp_eq (tgt := 21) (ps_at tX0_areUnlike_ok 5 rfl) (by decide) (fun c1 => ?_) (fun c1 => ?_)
    · skip
      refine ps_iconst (x := 0) (ps_at tX0_areUnlike_ok 11 rfl) (by decide) ?_
      exact ps_zret (ps_at tX0_areUnlike_ok 12 rfl) rfl ⟨rfl, rfl⟩ (Or.inl rfl) (h2 c0 c1)
    · skip
      refine ps_iload_n (ps_at tX0_areUnlike_ok 6 rfl) rfl rfl ?_
      refine ps_iload_n (ps_at tX0_areUnlike_ok 7 rfl) rfl rfl ?_
      refine ps_icmp_eq (tgt := 21) (ps_at tX0_areUnlike_ok 8 rfl) (by decide) (fun c2 => ?_) (fun c2 => ?_)
      · skip
        refine ps_iconst (x := 0) (ps_at tX0_areUnlike_ok 11 rfl) (by decide) ?_
        exact ps_zret (ps_at tX0_areUnlike_ok 12 rfl) rfl ⟨rfl, rfl⟩ (Or.inl rfl) (h3 c0 c1 c2)
      · skip
        refine ps_iconst (x := 1) (ps_at tX0_areUnlike_ok 9 rfl) (by decide) ?_
        refine ps_goto (tgt := 22) (ps_at tX0_areUnlike_ok 10 rfl) (by decide) ?_
        exact ps_zret (ps_at tX0_areUnlike_ok 12 rfl) rfl ⟨rfl, rfl⟩ (Or.inr rfl) (h4 c0 c1 c2)
theorem eX0_areUnlike {d : Nat} {Q : Option ps_V → ps_S → Prop} {v0 : Int32} {v1 : Int32} {σ : ps_S} (h : kX0_areUnlike_0 d Q v0 v1 σ) : ps_C mX0_areUnlike d [.inl v0, .inl v1] σ Q := ps_enter (by decide) rfl ⟨rfl, rfl, rfl⟩ rfl (Nat.le_of_ble_eq_true rfl) h
theorem pX0_areUnlike {d : Nat} {Q : Option ps_V → ps_S → Prop} {v0 v1 : Int32} {σ : ps_S}  (hq : Q (some (.inl (jbUn v0 v1))) σ) : ps_C mX0_areUnlike d [.inl v0, .inl v1] σ Q := eX0_areUnlike (bX0_areUnlike_0 (fun c => by simpa [jbUn, c] using hq) (fun c c2 => by simpa [jbUn, c, c2] using hq) (fun c c2 c3 => by simpa [jbUn, c, c2, c3] using hq) (fun c c2 c3 => by simpa [jbUn, c, c2, c3] using hq))
abbrev kX0_tellsAheadOf_0 (d : Nat) (Q : Option ps_V → ps_S → Prop) (i0 : Nat) (v1 : Int32) (v2 : Int32) (σ : ps_S) : Prop := ps_K mX0_tellsAheadOf d (ps_QF Q) 0 [some (.inr (.inr (3, i0))), some (.inl v1), some (.inl v2)] [] σ
theorem bX0_tellsAheadOf_0 {d : Nat} {Q : Option ps_V → ps_S → Prop} {i0 : Nat} {v1 : Int32} {v2 : Int32} {σ : ps_S} (h1 : vp_in v1 9) (h2 : vp_in v2 9) (h3 : ((σ 6 i0 v1.toNatClampNeg) &&& (σ 8 i0 v2.toNatClampNeg)) = 0 → Q (some (.inl 0)) σ) (h4 : ¬ ((σ 6 i0 v1.toNatClampNeg) &&& (σ 8 i0 v2.toNatClampNeg)) = 0 → Q (some (.inl 1)) σ) : kX0_tellsAheadOf_0 d Q i0 v1 v2 σ := by
  refine ps_aload_n (ps_at tX0_tellsAheadOf_ok 0 rfl) rfl rfl ?_
  refine ps_getR (ps_at tX0_tellsAheadOf_ok 1 rfl) flX0_16 sh_3 rfl ?_
  refine ps_iload_n (ps_at tX0_tellsAheadOf_ok 2 rfl) rfl rfl ?_
  refine ps_iald (ps_at tX0_tellsAheadOf_ok 3 rfl) sh_6 (h1) ?_
  refine ps_aload_n (ps_at tX0_tellsAheadOf_ok 4 rfl) rfl rfl ?_
  refine ps_getR (ps_at tX0_tellsAheadOf_ok 5 rfl) flX0_23 sh_3 rfl ?_
  refine ps_iload_n (ps_at tX0_tellsAheadOf_ok 6 rfl) rfl rfl ?_
  refine ps_iald (ps_at tX0_tellsAheadOf_ok 7 rfl) sh_8 (h2) ?_
  refine ps_iand (ps_at tX0_tellsAheadOf_ok 8 rfl) ?_
  refine ps_if_eq (tgt := 20) (ps_at tX0_tellsAheadOf_ok 9 rfl) (by decide) (fun c0 => ?_) (fun c0 => ?_)
  · skip
    refine ps_iconst (x := 0) (ps_at tX0_tellsAheadOf_ok 12 rfl) (by decide) ?_
    exact ps_zret (ps_at tX0_tellsAheadOf_ok 13 rfl) rfl ⟨rfl, rfl⟩ (Or.inl rfl) (h3 c0)
  · skip
    refine ps_iconst (x := 1) (ps_at tX0_tellsAheadOf_ok 10 rfl) (by decide) ?_
    refine ps_goto (tgt := 21) (ps_at tX0_tellsAheadOf_ok 11 rfl) (by decide) ?_
    exact ps_zret (ps_at tX0_tellsAheadOf_ok 13 rfl) rfl ⟨rfl, rfl⟩ (Or.inr rfl) (h4 c0)
theorem eX0_tellsAheadOf {d : Nat} {Q : Option ps_V → ps_S → Prop} {i0 : Nat} {v1 : Int32} {v2 : Int32} {σ : ps_S} (h : kX0_tellsAheadOf_0 d Q i0 v1 v2 σ) : ps_C mX0_tellsAheadOf d [.inr (.inr (3, i0)), .inl v1, .inl v2] σ Q := ps_enter (by decide) rfl ⟨rfl, rfl, rfl⟩ rfl (Nat.le_of_ble_eq_true rfl) h
theorem pX0_tellsAheadOf {d : Nat} {Q : Option ps_V → ps_S → Prop} {i0 : Nat} {v1 : Int32} {v2 : Int32} {σ : ps_S} (h1 : vp_in v1 9) (h2 : vp_in v2 9) (hq : Q (some (.inl (jX0_tellsAheadOf σ i0 v1 v2))) σ) : ps_C mX0_tellsAheadOf d [.inr (.inr (3, i0)), .inl v1, .inl v2] σ Q := eX0_tellsAheadOf (bX0_tellsAheadOf_0 h1 h2 (fun c0 => by unfold jX0_tellsAheadOf at hq; rw [if_pos c0] at hq; exact hq) (fun c0 => by unfold jX0_tellsAheadOf at hq; rw [if_neg c0] at hq; exact hq))
theorem btX0_tellsAheadOf (σ : ps_S) (i0 : Nat) (v1 : Int32) (v2 : Int32) : jX0_tellsAheadOf σ i0 v1 v2 = 0 ∨ jX0_tellsAheadOf σ i0 v1 v2 = 1 := by unfold jX0_tellsAheadOf; first | exact ps_bitW _ _ | exact ps_bitI _ _ _ | (repeat (first | split | simp))
abbrev kX1_heapCount_0 (d : Nat) (Q : Option ps_V → ps_S → Prop) (v1 : Int32) (σ : ps_S) : Prop := ps_K mX1_heapCount d (ps_QF Q) 0 [some (.inr (.inr (30, 0))), some (.inl v1)] [] σ
theorem bX1_heapCount_0 {d : Nat} {Q : Option ps_V → ps_S → Prop} {v1 : Int32} {σ : ps_S} (h1 : vp_in v1 6) (h2 : ¬ (σ 30 0 3) = 0) (h3 : Q (some (.inl ((((σ 33 0 v1.toNatClampNeg) + (σ 30 0 3)) - 1) / (σ 30 0 3)))) σ) : kX1_heapCount_0 d Q v1 σ := by
  refine ps_aload_n (ps_at tX1_heapCount_ok 0 rfl) rfl rfl ?_
  refine ps_getR (ps_at tX1_heapCount_ok 1 rfl) flX1_16 sh_30 rfl ?_
  refine ps_iload_n (ps_at tX1_heapCount_ok 2 rfl) rfl rfl ?_
  refine ps_iald (ps_at tX1_heapCount_ok 3 rfl) sh_33 (h1) ?_
  refine ps_aload_n (ps_at tX1_heapCount_ok 4 rfl) rfl rfl ?_
  refine ps_getI (ps_at tX1_heapCount_ok 5 rfl) flX1_23 sh_30 rfl ?_
  refine ps_iadd (ps_at tX1_heapCount_ok 6 rfl) ?_
  refine ps_iconst (x := 1) (ps_at tX1_heapCount_ok 7 rfl) (by decide) ?_
  refine ps_isub (ps_at tX1_heapCount_ok 8 rfl) ?_
  refine ps_aload_n (ps_at tX1_heapCount_ok 9 rfl) rfl rfl ?_
  refine ps_getI (ps_at tX1_heapCount_ok 10 rfl) flX1_23 sh_30 rfl ?_
  refine ps_idiv (ps_at tX1_heapCount_ok 11 rfl) (h2) ?_
  exact ps_iret (ps_at tX1_heapCount_ok 12 rfl) rfl ⟨rfl, rfl⟩ (h3)
theorem eX1_heapCount {d : Nat} {Q : Option ps_V → ps_S → Prop} {v1 : Int32} {σ : ps_S} (h : kX1_heapCount_0 d Q v1 σ) : ps_C mX1_heapCount d [.inr (.inr (30, 0)), .inl v1] σ Q := ps_enter (by decide) rfl ⟨rfl, rfl, rfl⟩ rfl (Nat.le_of_ble_eq_true rfl) h
theorem pX1_heapCount {d : Nat} {Q : Option ps_V → ps_S → Prop} {v1 : Int32} {σ : ps_S} (h1 : vp_in v1 6) (h2 : ¬ (σ 30 0 3) = 0) (hq : Q (some (.inl (jX1_heapCount σ v1))) σ) : ps_C mX1_heapCount d [.inr (.inr (30, 0)), .inl v1] σ Q := eX1_heapCount (bX1_heapCount_0 h1 h2 (by unfold jX1_heapCount at hq; exact hq))
abbrev kX1_heapEnd_0 (d : Nat) (Q : Option ps_V → ps_S → Prop) (v1 : Int32) (v2 : Int32) (σ : ps_S) : Prop := ps_K mX1_heapEnd (d + 1) (ps_QF Q) 0 [some (.inr (.inr (30, 0))), some (.inl v1), some (.inl v2)] [] σ
theorem bX1_heapEnd_0 {d : Nat} {Q : Option ps_V → ps_S → Prop} {v1 : Int32} {v2 : Int32} {σ : ps_S} (h1 : vp_in v1 6) (h2 : Q (some (.inl (jbMin ((v2 + 1) * (σ 30 0 3)) (σ 33 0 v1.toNatClampNeg)))) σ) : kX1_heapEnd_0 d Q v1 v2 σ := by
  refine ps_iload_n (ps_at tX1_heapEnd_ok 0 rfl) rfl rfl ?_
  refine ps_iconst (x := 1) (ps_at tX1_heapEnd_ok 1 rfl) (by decide) ?_
  refine ps_iadd (ps_at tX1_heapEnd_ok 2 rfl) ?_
  refine ps_aload_n (ps_at tX1_heapEnd_ok 3 rfl) rfl rfl ?_
  refine ps_getI (ps_at tX1_heapEnd_ok 4 rfl) flX1_23 sh_30 rfl ?_
  refine ps_imul (ps_at tX1_heapEnd_ok 5 rfl) ?_
  refine ps_aload_n (ps_at tX1_heapEnd_ok 6 rfl) rfl rfl ?_
  refine ps_getR (ps_at tX1_heapEnd_ok 7 rfl) flX1_16 sh_30 rfl ?_
  refine ps_iload_n (ps_at tX1_heapEnd_ok 8 rfl) rfl rfl ?_
  refine ps_iald (ps_at tX1_heapEnd_ok 9 rfl) sh_33 (h1) ?_
  refine ps_mmin (ps_at tX1_heapEnd_ok 10 rfl) cmX1_34 (fun _ => Nat.le_of_ble_eq_true rfl) ?_
  exact ps_iret (ps_at tX1_heapEnd_ok 11 rfl) rfl ⟨rfl, rfl⟩ (h2)
theorem eX1_heapEnd {d : Nat} {Q : Option ps_V → ps_S → Prop} {v1 : Int32} {v2 : Int32} {σ : ps_S} (h : kX1_heapEnd_0 d Q v1 v2 σ) : ps_C mX1_heapEnd (d + 1) [.inr (.inr (30, 0)), .inl v1, .inl v2] σ Q := ps_enter (by decide) rfl ⟨rfl, rfl, rfl⟩ rfl (Nat.le_of_ble_eq_true rfl) h
theorem pX1_heapEnd {d : Nat} {Q : Option ps_V → ps_S → Prop} {v1 : Int32} {v2 : Int32} {σ : ps_S} (h1 : vp_in v1 6) (hq : Q (some (.inl (jX1_heapEnd σ v1 v2))) σ) : ps_C mX1_heapEnd (d + 1) [.inr (.inr (30, 0)), .inl v1, .inl v2] σ Q := eX1_heapEnd (bX1_heapEnd_0 h1 (by unfold jX1_heapEnd at hq; exact hq))
abbrev kX1_kindIn_0 (d : Nat) (Q : Option ps_V → ps_S → Prop) (v1 : Int32) (v2 : Int32) (v3 : Int32) (σ : ps_S) : Prop := ps_K mX1_kindIn (d + 2) (ps_QF Q) 0 [some (.inr (.inr (30, 0))), some (.inl v1), some (.inl v2), some (.inl v3), none, none] [] σ
theorem bX1_kindIn_0 {d : Nat} {Q : Option ps_V → ps_S → Prop} {v1 : Int32} {v2 : Int32} {v3 : Int32} {σ : ps_S} (h1 : vp_in v1 6) (h2 : v2 < (σ 33 0 v1.toNatClampNeg) → v3 = 0 → ¬ (σ 30 0 3) = 0) (h3 : v2 < (σ 33 0 v1.toNatClampNeg) → v3 = 0 → vp_in (((jX1_heapEnd σ v1 (v2 / (σ 30 0 3))) - 1) - (v2 - ((v2 / (σ 30 0 3)) * (σ 30 0 3)))) 12) (h4 : v2 < (σ 33 0 v1.toNatClampNeg) → v3 = 0 → Q (some (.inl (σ 32 v1.toNatClampNeg (((jX1_heapEnd σ v1 (v2 / (σ 30 0 3))) - 1) - (v2 - ((v2 / (σ 30 0 3)) * (σ 30 0 3)))).toNatClampNeg))) σ) (h5 : v2 < (σ 33 0 v1.toNatClampNeg) → ¬ v3 = 0 → vp_in v2 12) (h6 : v2 < (σ 33 0 v1.toNatClampNeg) → ¬ v3 = 0 → Q (some (.inl (σ 32 v1.toNatClampNeg v2.toNatClampNeg))) σ) (h7 : ¬ v2 < (σ 33 0 v1.toNatClampNeg) → Q (some (.inl (-900009))) σ) : kX1_kindIn_0 d Q v1 v2 v3 σ := by
  refine ps_iload_n (ps_at tX1_kindIn_ok 0 rfl) rfl rfl ?_
  refine ps_aload_n (ps_at tX1_kindIn_ok 1 rfl) rfl rfl ?_
  refine ps_getR (ps_at tX1_kindIn_ok 2 rfl) flX1_16 sh_30 rfl ?_
  refine ps_iload_n (ps_at tX1_kindIn_ok 3 rfl) rfl rfl ?_
  refine ps_iald (ps_at tX1_kindIn_ok 4 rfl) sh_33 (h1) ?_
  refine ps_icmp_lt (tgt := 13) (ps_at tX1_kindIn_ok 5 rfl) (by decide) (fun c0 => ?_) (fun c0 => ?_)
  · skip
    refine ps_iload_n (ps_at tX1_kindIn_ok 8 rfl) rfl rfl ?_
    refine ps_if_eq (tgt := 26) (ps_at tX1_kindIn_ok 9 rfl) (by decide) (fun c1 => ?_) (fun c1 => ?_)
    · skip
      refine ps_iload_n (ps_at tX1_kindIn_ok 17 rfl) rfl rfl ?_
      refine ps_aload_n (ps_at tX1_kindIn_ok 18 rfl) rfl rfl ?_
      refine ps_getI (ps_at tX1_kindIn_ok 19 rfl) flX1_23 sh_30 rfl ?_
      refine ps_idiv (ps_at tX1_kindIn_ok 20 rfl) (h2 c0 c1) ?_
      refine ps_istore (L' := [some (.inr (.inr (30, 0))), some (.inl v1), some (.inl v2), some (.inl v3), some (.inl (v2 / (σ 30 0 3))), none]) (ps_at tX1_kindIn_ok 21 rfl) (by decide) rfl ?_
      refine ps_iload_n (ps_at tX1_kindIn_ok 22 rfl) rfl rfl ?_
      refine ps_iload (ps_at tX1_kindIn_ok 23 rfl) rfl ?_
      refine ps_aload_n (ps_at tX1_kindIn_ok 24 rfl) rfl rfl ?_
      refine ps_getI (ps_at tX1_kindIn_ok 25 rfl) flX1_23 sh_30 rfl ?_
      refine ps_imul (ps_at tX1_kindIn_ok 26 rfl) ?_
      refine ps_isub (ps_at tX1_kindIn_ok 27 rfl) ?_
      refine ps_istore (L' := [some (.inr (.inr (30, 0))), some (.inl v1), some (.inl v2), some (.inl v3), some (.inl (v2 / (σ 30 0 3))), some (.inl (v2 - ((v2 / (σ 30 0 3)) * (σ 30 0 3))))]) (ps_at tX1_kindIn_ok 28 rfl) (by decide) rfl ?_
      refine ps_aload_n (ps_at tX1_kindIn_ok 29 rfl) rfl rfl ?_
      refine ps_getR (ps_at tX1_kindIn_ok 30 rfl) flX1_11 sh_30 rfl ?_
      refine ps_iload_n (ps_at tX1_kindIn_ok 31 rfl) rfl rfl ?_
      refine ps_aald0 (ps_at tX1_kindIn_ok 32 rfl) sh_31 (Or.inl rfl) (h1) ?_
      refine ps_aload_n (ps_at tX1_kindIn_ok 33 rfl) rfl rfl ?_
      refine ps_iload_n (ps_at tX1_kindIn_ok 34 rfl) rfl rfl ?_
      refine ps_iload (ps_at tX1_kindIn_ok 35 rfl) rfl ?_
      refine ps_callV (M2 := mX1_heapEnd) (av := [.inl v1, .inl (v2 / (σ 30 0 3))]) (rest := [.inr (.inr (32, v1.toNatClampNeg))]) (ps_at tX1_kindIn_ok 36 rfl) cvX1_40 sh_30 rfl rfl (fun _ => Nat.le_of_ble_eq_true rfl) (pX1_heapEnd (h1) ?_)
      refine ps_iconst (x := 1) (ps_at tX1_kindIn_ok 37 rfl) (by decide) ?_
      refine ps_isub (ps_at tX1_kindIn_ok 38 rfl) ?_
      refine ps_iload (ps_at tX1_kindIn_ok 39 rfl) rfl ?_
      refine ps_isub (ps_at tX1_kindIn_ok 40 rfl) ?_
      refine ps_iald (ps_at tX1_kindIn_ok 41 rfl) sh_32 (h3 c0 c1) ?_
      exact ps_iret (ps_at tX1_kindIn_ok 42 rfl) rfl ⟨rfl, rfl⟩ (h4 c0 c1)
    · skip
      refine ps_aload_n (ps_at tX1_kindIn_ok 10 rfl) rfl rfl ?_
      refine ps_getR (ps_at tX1_kindIn_ok 11 rfl) flX1_11 sh_30 rfl ?_
      refine ps_iload_n (ps_at tX1_kindIn_ok 12 rfl) rfl rfl ?_
      refine ps_aald0 (ps_at tX1_kindIn_ok 13 rfl) sh_31 (Or.inl rfl) (h1) ?_
      refine ps_iload_n (ps_at tX1_kindIn_ok 14 rfl) rfl rfl ?_
      refine ps_iald (ps_at tX1_kindIn_ok 15 rfl) sh_32 (h5 c0 c1) ?_
      exact ps_iret (ps_at tX1_kindIn_ok 16 rfl) rfl ⟨rfl, rfl⟩ (h6 c0 c1)
  · skip
    refine ps_ldc (ps_at tX1_kindIn_ok 6 rfl) cnX1_27 ?_
    exact ps_iret (ps_at tX1_kindIn_ok 7 rfl) rfl ⟨rfl, rfl⟩ (h7 c0)
theorem eX1_kindIn {d : Nat} {Q : Option ps_V → ps_S → Prop} {v1 : Int32} {v2 : Int32} {v3 : Int32} {σ : ps_S} (h : kX1_kindIn_0 d Q v1 v2 v3 σ) : ps_C mX1_kindIn (d + 2) [.inr (.inr (30, 0)), .inl v1, .inl v2, .inl v3] σ Q := ps_enter (by decide) rfl ⟨rfl, rfl, rfl⟩ rfl (Nat.le_of_ble_eq_true rfl) h
theorem pX1_kindIn {d : Nat} {Q : Option ps_V → ps_S → Prop} {v1 : Int32} {v2 : Int32} {v3 : Int32} {σ : ps_S} (h1 : vp_in v1 6) (h2 : v2 < (σ 33 0 v1.toNatClampNeg) → v3 = 0 → ¬ (σ 30 0 3) = 0) (h3 : v2 < (σ 33 0 v1.toNatClampNeg) → v3 = 0 → vp_in (((jX1_heapEnd σ v1 (v2 / (σ 30 0 3))) - 1) - (v2 - ((v2 / (σ 30 0 3)) * (σ 30 0 3)))) 12) (h5 : v2 < (σ 33 0 v1.toNatClampNeg) → ¬ v3 = 0 → vp_in v2 12) (hq : Q (some (.inl (jX1_kindIn σ v1 v2 v3))) σ) : ps_C mX1_kindIn (d + 2) [.inr (.inr (30, 0)), .inl v1, .inl v2, .inl v3] σ Q := eX1_kindIn (bX1_kindIn_0 h1 h2 h3 (fun c0 c1 => by unfold jX1_kindIn at hq; rw [if_pos c0, if_pos c1] at hq; exact hq) h5 (fun c0 c1 => by unfold jX1_kindIn at hq; rw [if_pos c0, if_neg c1] at hq; exact hq) (fun c0 => by unfold jX1_kindIn at hq; rw [if_neg c0] at hq; exact hq))
abbrev kX2_isBest_0 (d : Nat) (Q : Option ps_V → ps_S → Prop) (v1 : Int32) (v2 : Int32) (σ : ps_S) : Prop := ps_K mX2_isBest d (ps_QF Q) 0 [some (.inr (.inr (36, 0))), some (.inl v1), some (.inl v2)] [] σ
theorem bX2_isBest_0 {d : Nat} {Q : Option ps_V → ps_S → Prop} {v1 : Int32} {v2 : Int32} {σ : ps_S} (h1 : vp_in v1 12) (h2 : vp_in v2 4) (h3 : ¬ ((σ 44 v1.toNatClampNeg v2.toNatClampNeg) + (σ 46 v1.toNatClampNeg v2.toNatClampNeg)) = (σ 36 0 9) → Q (some (.inl 0)) σ) (h4 : ((σ 44 v1.toNatClampNeg v2.toNatClampNeg) + (σ 46 v1.toNatClampNeg v2.toNatClampNeg)) = (σ 36 0 9) → Q (some (.inl 1)) σ) : kX2_isBest_0 d Q v1 v2 σ := by
  refine ps_aload_n (ps_at tX2_isBest_ok 0 rfl) rfl rfl ?_
  refine ps_getR (ps_at tX2_isBest_ok 1 rfl) flX2_32 sh_36 rfl ?_
  refine ps_iload_n (ps_at tX2_isBest_ok 2 rfl) rfl rfl ?_
  refine ps_aald0 (ps_at tX2_isBest_ok 3 rfl) sh_43 (Or.inl rfl) (h1) ?_
  refine ps_iload_n (ps_at tX2_isBest_ok 4 rfl) rfl rfl ?_
  refine ps_iald (ps_at tX2_isBest_ok 5 rfl) sh_44 (h2) ?_
  refine ps_aload_n (ps_at tX2_isBest_ok 6 rfl) rfl rfl ?_
  refine ps_getR (ps_at tX2_isBest_ok 7 rfl) flX2_35 sh_36 rfl ?_
  refine ps_iload_n (ps_at tX2_isBest_ok 8 rfl) rfl rfl ?_
  refine ps_aald0 (ps_at tX2_isBest_ok 9 rfl) sh_45 (Or.inl rfl) (h1) ?_
  refine ps_iload_n (ps_at tX2_isBest_ok 10 rfl) rfl rfl ?_
  refine ps_iald (ps_at tX2_isBest_ok 11 rfl) sh_46 (h2) ?_
  refine ps_iadd (ps_at tX2_isBest_ok 12 rfl) ?_
  refine ps_aload_n (ps_at tX2_isBest_ok 13 rfl) rfl rfl ?_
  refine ps_getI (ps_at tX2_isBest_ok 14 rfl) flX2_55 sh_36 rfl ?_
  refine ps_icmp_ne (tgt := 28) (ps_at tX2_isBest_ok 15 rfl) (by decide) (fun c0 => ?_) (fun c0 => ?_)
  · skip
    refine ps_iconst (x := 0) (ps_at tX2_isBest_ok 18 rfl) (by decide) ?_
    exact ps_zret (ps_at tX2_isBest_ok 19 rfl) rfl ⟨rfl, rfl⟩ (Or.inl rfl) (h3 c0)
  · skip
    refine ps_iconst (x := 1) (ps_at tX2_isBest_ok 16 rfl) (by decide) ?_
    refine ps_goto (tgt := 29) (ps_at tX2_isBest_ok 17 rfl) (by decide) ?_
    exact ps_zret (ps_at tX2_isBest_ok 19 rfl) rfl ⟨rfl, rfl⟩ (Or.inr rfl) (h4 c0)
theorem eX2_isBest {d : Nat} {Q : Option ps_V → ps_S → Prop} {v1 : Int32} {v2 : Int32} {σ : ps_S} (h : kX2_isBest_0 d Q v1 v2 σ) : ps_C mX2_isBest d [.inr (.inr (36, 0)), .inl v1, .inl v2] σ Q := ps_enter (by decide) rfl ⟨rfl, rfl, rfl⟩ rfl (Nat.le_of_ble_eq_true rfl) h
theorem pX2_isBest {d : Nat} {Q : Option ps_V → ps_S → Prop} {v1 : Int32} {v2 : Int32} {σ : ps_S} (h1 : vp_in v1 12) (h2 : vp_in v2 4) (hq : Q (some (.inl (jX2_isBest σ v1 v2))) σ) : ps_C mX2_isBest d [.inr (.inr (36, 0)), .inl v1, .inl v2] σ Q := eX2_isBest (bX2_isBest_0 h1 h2 (fun c0 => by unfold jX2_isBest at hq; rw [if_pos c0] at hq; exact hq) (fun c0 => by unfold jX2_isBest at hq; rw [if_neg (fun h => h c0)] at hq; exact hq))
theorem btX2_isBest (σ : ps_S) (v1 : Int32) (v2 : Int32) : jX2_isBest σ v1 v2 = 0 ∨ jX2_isBest σ v1 v2 = 1 := by unfold jX2_isBest; first | exact ps_bitW _ _ | exact ps_bitI _ _ _ | (repeat (first | split | simp))
abbrev kX2_changeOf_0 (d : Nat) (Q : Option ps_V → ps_S → Prop) (v1 : Int32) (v2 : Int32) (σ : ps_S) : Prop := ps_K mX2_changeOf d (ps_QF Q) 0 [some (.inr (.inr (36, 0))), some (.inl v1), some (.inl v2)] [] σ
theorem bX2_changeOf_0 {d : Nat} {Q : Option ps_V → ps_S → Prop} {v1 : Int32} {v2 : Int32} {σ : ps_S} (h1 : ¬ v1 = v2 → Q (some (.inl (σ 36 0 4))) σ) (h2 : v1 = v2 → Q (some (.inl 0)) σ) : kX2_changeOf_0 d Q v1 v2 σ := by
  refine ps_iload_n (ps_at tX2_changeOf_ok 0 rfl) rfl rfl ?_
  refine ps_iload_n (ps_at tX2_changeOf_ok 1 rfl) rfl rfl ?_
  refine ps_icmp_ne (tgt := 9) (ps_at tX2_changeOf_ok 2 rfl) (by decide) (fun c0 => ?_) (fun c0 => ?_)
  · skip
    refine ps_aload_n (ps_at tX2_changeOf_ok 5 rfl) rfl rfl ?_
    refine ps_getI (ps_at tX2_changeOf_ok 6 rfl) flX2_26 sh_36 rfl ?_
    exact ps_iret (ps_at tX2_changeOf_ok 7 rfl) rfl ⟨rfl, rfl⟩ (h1 c0)
  · skip
    refine ps_iconst (x := 0) (ps_at tX2_changeOf_ok 3 rfl) (by decide) ?_
    refine ps_goto (tgt := 13) (ps_at tX2_changeOf_ok 4 rfl) (by decide) ?_
    exact ps_iret (ps_at tX2_changeOf_ok 7 rfl) rfl ⟨rfl, rfl⟩ (h2 c0)
theorem eX2_changeOf {d : Nat} {Q : Option ps_V → ps_S → Prop} {v1 : Int32} {v2 : Int32} {σ : ps_S} (h : kX2_changeOf_0 d Q v1 v2 σ) : ps_C mX2_changeOf d [.inr (.inr (36, 0)), .inl v1, .inl v2] σ Q := ps_enter (by decide) rfl ⟨rfl, rfl, rfl⟩ rfl (Nat.le_of_ble_eq_true rfl) h
theorem pX2_changeOf {d : Nat} {Q : Option ps_V → ps_S → Prop} {v1 : Int32} {v2 : Int32} {σ : ps_S}  (hq : Q (some (.inl (jX2_changeOf σ v1 v2))) σ) : ps_C mX2_changeOf d [.inr (.inr (36, 0)), .inl v1, .inl v2] σ Q := eX2_changeOf (bX2_changeOf_0 (fun c0 => by unfold jX2_changeOf at hq; rw [if_pos c0] at hq; exact hq) (fun c0 => by unfold jX2_changeOf at hq; rw [if_neg (fun h => h c0)] at hq; exact hq))
abbrev kX2_costThrough_0 (d : Nat) (Q : Option ps_V → ps_S → Prop) (v1 : Int32) (v2 : Int32) (v3 : Int32) (σ : ps_S) : Prop := ps_K mX2_costThrough (d + 1) (ps_QF Q) 0 [some (.inr (.inr (36, 0))), some (.inl v1), some (.inl v2), some (.inl v3)] [] σ
theorem bX2_costThrough_0 {d : Nat} {Q : Option ps_V → ps_S → Prop} {v1 : Int32} {v2 : Int32} {v3 : Int32} {σ : ps_S} (h1 : vp_in (v1 + 1) 12) (h2 : vp_in v3 4) (h3 : Q (some (.inl (((jX2_changeOf σ v2 v3) + (σ 42 ((v1 + 1).toNatClampNeg) v3.toNatClampNeg)) + (σ 46 ((v1 + 1).toNatClampNeg) v3.toNatClampNeg)))) σ) : kX2_costThrough_0 d Q v1 v2 v3 σ := by
  refine ps_aload_n (ps_at tX2_costThrough_ok 0 rfl) rfl rfl ?_
  refine ps_iload_n (ps_at tX2_costThrough_ok 1 rfl) rfl rfl ?_
  refine ps_iload_n (ps_at tX2_costThrough_ok 2 rfl) rfl rfl ?_
  refine ps_callV (M2 := mX2_changeOf) (av := [.inl v2, .inl v3]) (rest := []) (ps_at tX2_costThrough_ok 3 rfl) cvX2_74 sh_36 rfl rfl (fun _ => Nat.le_of_ble_eq_true rfl) (pX2_changeOf ?_)
  refine ps_aload_n (ps_at tX2_costThrough_ok 4 rfl) rfl rfl ?_
  refine ps_getR (ps_at tX2_costThrough_ok 5 rfl) flX2_29 sh_36 rfl ?_
  refine ps_iload_n (ps_at tX2_costThrough_ok 6 rfl) rfl rfl ?_
  refine ps_iconst (x := 1) (ps_at tX2_costThrough_ok 7 rfl) (by decide) ?_
  refine ps_iadd (ps_at tX2_costThrough_ok 8 rfl) ?_
  refine ps_aald0 (ps_at tX2_costThrough_ok 9 rfl) sh_41 (Or.inl rfl) (h1) ?_
  refine ps_iload_n (ps_at tX2_costThrough_ok 10 rfl) rfl rfl ?_
  refine ps_iald (ps_at tX2_costThrough_ok 11 rfl) sh_42 (h2) ?_
  refine ps_iadd (ps_at tX2_costThrough_ok 12 rfl) ?_
  refine ps_aload_n (ps_at tX2_costThrough_ok 13 rfl) rfl rfl ?_
  refine ps_getR (ps_at tX2_costThrough_ok 14 rfl) flX2_35 sh_36 rfl ?_
  refine ps_iload_n (ps_at tX2_costThrough_ok 15 rfl) rfl rfl ?_
  refine ps_iconst (x := 1) (ps_at tX2_costThrough_ok 16 rfl) (by decide) ?_
  refine ps_iadd (ps_at tX2_costThrough_ok 17 rfl) ?_
  refine ps_aald0 (ps_at tX2_costThrough_ok 18 rfl) sh_45 (Or.inl rfl) (h1) ?_
  refine ps_iload_n (ps_at tX2_costThrough_ok 19 rfl) rfl rfl ?_
  refine ps_iald (ps_at tX2_costThrough_ok 20 rfl) sh_46 (h2) ?_
  refine ps_iadd (ps_at tX2_costThrough_ok 21 rfl) ?_
  exact ps_iret (ps_at tX2_costThrough_ok 22 rfl) rfl ⟨rfl, rfl⟩ (h3)
theorem eX2_costThrough {d : Nat} {Q : Option ps_V → ps_S → Prop} {v1 : Int32} {v2 : Int32} {v3 : Int32} {σ : ps_S} (h : kX2_costThrough_0 d Q v1 v2 v3 σ) : ps_C mX2_costThrough (d + 1) [.inr (.inr (36, 0)), .inl v1, .inl v2, .inl v3] σ Q := ps_enter (by decide) rfl ⟨rfl, rfl, rfl⟩ rfl (Nat.le_of_ble_eq_true rfl) h
theorem pX2_costThrough {d : Nat} {Q : Option ps_V → ps_S → Prop} {v1 : Int32} {v2 : Int32} {v3 : Int32} {σ : ps_S} (h1 : vp_in (v1 + 1) 12) (h2 : vp_in v3 4) (hq : Q (some (.inl (jX2_costThrough σ v1 v2 v3))) σ) : ps_C mX2_costThrough (d + 1) [.inr (.inr (36, 0)), .inl v1, .inl v2, .inl v3] σ Q := eX2_costThrough (bX2_costThrough_0 h1 h2 (by unfold jX2_costThrough at hq; exact hq))
abbrev kX3_mayCome_0 (d : Nat) (Q : Option ps_V → ps_S → Prop) (v1 : Int32) (v2 : Int32) (σ : ps_S) : Prop := ps_K mX3_mayCome d (ps_QF Q) 0 [some (.inr (.inr (15, 0))), some (.inl v1), some (.inl v2)] [] σ
theorem bX3_mayCome_0 {d : Nat} {Q : Option ps_V → ps_S → Prop} {v1 : Int32} {v2 : Int32} {σ : ps_S} (h1 : ¬ ((v1 >>> (v2 &&& 31)) &&& 1) = 0 → Q (some (.inl 0)) σ) (h2 : ((v1 >>> (v2 &&& 31)) &&& 1) = 0 → vp_in v2 9) (h3 : ((v1 >>> (v2 &&& 31)) &&& 1) = 0 → ¬ ((σ 18 0 v2.toNatClampNeg) &&& (v1 ^^^ (-1))) = 0 → Q (some (.inl 0)) σ) (h4 : ((v1 >>> (v2 &&& 31)) &&& 1) = 0 → ((σ 18 0 v2.toNatClampNeg) &&& (v1 ^^^ (-1))) = 0 → Q (some (.inl 1)) σ) : kX3_mayCome_0 d Q v1 v2 σ := by
  refine ps_iload_n (ps_at tX3_mayCome_ok 0 rfl) rfl rfl ?_
  refine ps_iload_n (ps_at tX3_mayCome_ok 1 rfl) rfl rfl ?_
  refine ps_ishr (ps_at tX3_mayCome_ok 2 rfl) ?_
  refine ps_iconst (x := 1) (ps_at tX3_mayCome_ok 3 rfl) (by decide) ?_
  refine ps_iand (ps_at tX3_mayCome_ok 4 rfl) ?_
  refine ps_if_ne (tgt := 25) (ps_at tX3_mayCome_ok 5 rfl) (by decide) (fun c0 => ?_) (fun c0 => ?_)
  · skip
    refine ps_iconst (x := 0) (ps_at tX3_mayCome_ok 17 rfl) (by decide) ?_
    exact ps_zret (ps_at tX3_mayCome_ok 18 rfl) rfl ⟨rfl, rfl⟩ (Or.inl rfl) (h1 c0)
  · skip
    refine ps_aload_n (ps_at tX3_mayCome_ok 6 rfl) rfl rfl ?_
    refine ps_getR (ps_at tX3_mayCome_ok 7 rfl) flX3_18 sh_15 rfl ?_
    refine ps_iload_n (ps_at tX3_mayCome_ok 8 rfl) rfl rfl ?_
    refine ps_iald (ps_at tX3_mayCome_ok 9 rfl) sh_18 (h2 c0) ?_
    refine ps_iload_n (ps_at tX3_mayCome_ok 10 rfl) rfl rfl ?_
    refine ps_iconst (x := (-1)) (ps_at tX3_mayCome_ok 11 rfl) (by decide) ?_
    refine ps_ixor (ps_at tX3_mayCome_ok 12 rfl) ?_
    refine ps_iand (ps_at tX3_mayCome_ok 13 rfl) ?_
    refine ps_if_ne (tgt := 25) (ps_at tX3_mayCome_ok 14 rfl) (by decide) (fun c1 => ?_) (fun c1 => ?_)
    · skip
      refine ps_iconst (x := 0) (ps_at tX3_mayCome_ok 17 rfl) (by decide) ?_
      exact ps_zret (ps_at tX3_mayCome_ok 18 rfl) rfl ⟨rfl, rfl⟩ (Or.inl rfl) (h3 c0 c1)
    · skip
      refine ps_iconst (x := 1) (ps_at tX3_mayCome_ok 15 rfl) (by decide) ?_
      refine ps_goto (tgt := 26) (ps_at tX3_mayCome_ok 16 rfl) (by decide) ?_
      exact ps_zret (ps_at tX3_mayCome_ok 18 rfl) rfl ⟨rfl, rfl⟩ (Or.inr rfl) (h4 c0 c1)
theorem eX3_mayCome {d : Nat} {Q : Option ps_V → ps_S → Prop} {v1 : Int32} {v2 : Int32} {σ : ps_S} (h : kX3_mayCome_0 d Q v1 v2 σ) : ps_C mX3_mayCome d [.inr (.inr (15, 0)), .inl v1, .inl v2] σ Q := ps_enter (by decide) rfl ⟨rfl, rfl, rfl⟩ rfl (Nat.le_of_ble_eq_true rfl) h
theorem pX3_mayCome {d : Nat} {Q : Option ps_V → ps_S → Prop} {v1 : Int32} {v2 : Int32} {σ : ps_S} (h2 : ((v1 >>> (v2 &&& 31)) &&& 1) = 0 → vp_in v2 9) (hq : Q (some (.inl (jX3_mayCome σ v1 v2))) σ) : ps_C mX3_mayCome d [.inr (.inr (15, 0)), .inl v1, .inl v2] σ Q := eX3_mayCome (bX3_mayCome_0 (fun c0 => by unfold jX3_mayCome at hq; rw [if_pos c0] at hq; exact hq) h2 (fun c0 c1 => by unfold jX3_mayCome at hq; rw [if_neg (fun h => h c0), if_pos c1] at hq; exact hq) (fun c0 c1 => by unfold jX3_mayCome at hq; rw [if_neg (fun h => h c0), if_neg (fun h => h c1)] at hq; exact hq))
theorem btX3_mayCome (σ : ps_S) (v1 : Int32) (v2 : Int32) : jX3_mayCome σ v1 v2 = 0 ∨ jX3_mayCome σ v1 v2 = 1 := by unfold jX3_mayCome; first | exact ps_bitW _ _ | exact ps_bitI _ _ _ | (repeat (first | split | simp))
abbrev kX3_restThrough_0 (d : Nat) (Q : Option ps_V → ps_S → Prop) (v1 : Int32) (v2 : Int32) (v3 : Int32) (σ : ps_S) : Prop := ps_K mX3_restThrough d (ps_QF Q) 0 [some (.inr (.inr (15, 0))), some (.inl v1), some (.inl v2), some (.inl v3), none] [] σ
theorem bX3_restThrough_0 {d : Nat} {Q : Option ps_V → ps_S → Prop} {v1 : Int32} {v2 : Int32} {v3 : Int32} {σ : ps_S} (h1 : vp_in (((v1 ||| ((1 : Int32) <<< (v3 &&& 31))) * 9) + v3) 4608) (h2 : (σ 16 0 (((v1 ||| ((1 : Int32) <<< (v3 &&& 31))) * 9) + v3).toNatClampNeg) = (-1) → Q (some (.inl (σ 16 0 (((v1 ||| ((1 : Int32) <<< (v3 &&& 31))) * 9) + v3).toNatClampNeg))) σ) (h3 : ¬ (σ 16 0 (((v1 ||| ((1 : Int32) <<< (v3 &&& 31))) * 9) + v3).toNatClampNeg) = (-1) → ¬ v2 = (-900009) → vp_in ((v2 * 9) + v3) 81) (h4 : ¬ (σ 16 0 (((v1 ||| ((1 : Int32) <<< (v3 &&& 31))) * 9) + v3).toNatClampNeg) = (-1) → ¬ v2 = (-900009) → Q (some (.inl ((σ 16 0 (((v1 ||| ((1 : Int32) <<< (v3 &&& 31))) * 9) + v3).toNatClampNeg) + ((σ 17 0 ((v2 * 9) + v3).toNatClampNeg) * 1048576)))) σ) (h5 : ¬ (σ 16 0 (((v1 ||| ((1 : Int32) <<< (v3 &&& 31))) * 9) + v3).toNatClampNeg) = (-1) → v2 = (-900009) → Q (some (.inl (σ 16 0 (((v1 ||| ((1 : Int32) <<< (v3 &&& 31))) * 9) + v3).toNatClampNeg))) σ) : kX3_restThrough_0 d Q v1 v2 v3 σ := by
  refine ps_aload_n (ps_at tX3_restThrough_ok 0 rfl) rfl rfl ?_
  refine ps_getR (ps_at tX3_restThrough_ok 1 rfl) flX3_9 sh_15 rfl ?_
  refine ps_iload_n (ps_at tX3_restThrough_ok 2 rfl) rfl rfl ?_
  refine ps_iconst (x := 1) (ps_at tX3_restThrough_ok 3 rfl) (by decide) ?_
  refine ps_iload_n (ps_at tX3_restThrough_ok 4 rfl) rfl rfl ?_
  refine ps_ishl (ps_at tX3_restThrough_ok 5 rfl) ?_
  refine ps_ior (ps_at tX3_restThrough_ok 6 rfl) ?_
  refine ps_bipush (x := 9) (ps_at tX3_restThrough_ok 7 rfl) (by decide) ?_
  refine ps_imul (ps_at tX3_restThrough_ok 8 rfl) ?_
  refine ps_iload_n (ps_at tX3_restThrough_ok 9 rfl) rfl rfl ?_
  refine ps_iadd (ps_at tX3_restThrough_ok 10 rfl) ?_
  refine ps_iald (ps_at tX3_restThrough_ok 11 rfl) sh_16 (h1) ?_
  refine ps_istore (L' := [some (.inr (.inr (15, 0))), some (.inl v1), some (.inl v2), some (.inl v3), some (.inl (σ 16 0 (((v1 ||| ((1 : Int32) <<< (v3 &&& 31))) * 9) + v3).toNatClampNeg))]) (ps_at tX3_restThrough_ok 12 rfl) (by decide) rfl ?_
  refine ps_iload (ps_at tX3_restThrough_ok 13 rfl) rfl ?_
  refine ps_iconst (x := (-1)) (ps_at tX3_restThrough_ok 14 rfl) (by decide) ?_
  refine ps_icmp_eq (tgt := 29) (ps_at tX3_restThrough_ok 15 rfl) (by decide) (fun c0 => ?_) (fun c0 => ?_)
  · skip
    refine ps_iload (ps_at tX3_restThrough_ok 19 rfl) rfl ?_
    exact ps_iret (ps_at tX3_restThrough_ok 20 rfl) rfl ⟨rfl, rfl⟩ (h2 c0)
  · skip
    refine ps_iload_n (ps_at tX3_restThrough_ok 16 rfl) rfl rfl ?_
    refine ps_ldc (ps_at tX3_restThrough_ok 17 rfl) cnX3_37 ?_
    refine ps_icmp_ne (tgt := 32) (ps_at tX3_restThrough_ok 18 rfl) (by decide) (fun c1 => ?_) (fun c1 => ?_)
    · skip
      refine ps_iload (ps_at tX3_restThrough_ok 21 rfl) rfl ?_
      refine ps_aload_n (ps_at tX3_restThrough_ok 22 rfl) rfl rfl ?_
      refine ps_getR (ps_at tX3_restThrough_ok 23 rfl) flX3_15 sh_15 rfl ?_
      refine ps_iload_n (ps_at tX3_restThrough_ok 24 rfl) rfl rfl ?_
      refine ps_bipush (x := 9) (ps_at tX3_restThrough_ok 25 rfl) (by decide) ?_
      refine ps_imul (ps_at tX3_restThrough_ok 26 rfl) ?_
      refine ps_iload_n (ps_at tX3_restThrough_ok 27 rfl) rfl rfl ?_
      refine ps_iadd (ps_at tX3_restThrough_ok 28 rfl) ?_
      refine ps_iald (ps_at tX3_restThrough_ok 29 rfl) sh_17 (h3 c0 c1) ?_
      refine ps_ldc (ps_at tX3_restThrough_ok 30 rfl) cnX3_45 ?_
      refine ps_imul (ps_at tX3_restThrough_ok 31 rfl) ?_
      refine ps_iadd (ps_at tX3_restThrough_ok 32 rfl) ?_
      exact ps_iret (ps_at tX3_restThrough_ok 33 rfl) rfl ⟨rfl, rfl⟩ (h4 c0 c1)
    · skip
      refine ps_iload (ps_at tX3_restThrough_ok 19 rfl) rfl ?_
      exact ps_iret (ps_at tX3_restThrough_ok 20 rfl) rfl ⟨rfl, rfl⟩ (h5 c0 c1)
theorem eX3_restThrough {d : Nat} {Q : Option ps_V → ps_S → Prop} {v1 : Int32} {v2 : Int32} {v3 : Int32} {σ : ps_S} (h : kX3_restThrough_0 d Q v1 v2 v3 σ) : ps_C mX3_restThrough d [.inr (.inr (15, 0)), .inl v1, .inl v2, .inl v3] σ Q := ps_enter (by decide) rfl ⟨rfl, rfl, rfl⟩ rfl (Nat.le_of_ble_eq_true rfl) h
theorem pX3_restThrough {d : Nat} {Q : Option ps_V → ps_S → Prop} {v1 : Int32} {v2 : Int32} {v3 : Int32} {σ : ps_S} (h1 : vp_in (((v1 ||| ((1 : Int32) <<< (v3 &&& 31))) * 9) + v3) 4608) (h3 : ¬ (σ 16 0 (((v1 ||| ((1 : Int32) <<< (v3 &&& 31))) * 9) + v3).toNatClampNeg) = (-1) → ¬ v2 = (-900009) → vp_in ((v2 * 9) + v3) 81) (hq : Q (some (.inl (jX3_restThrough σ v1 v2 v3))) σ) : ps_C mX3_restThrough d [.inr (.inr (15, 0)), .inl v1, .inl v2, .inl v3] σ Q := eX3_restThrough (bX3_restThrough_0 h1 (fun c0 => by unfold jX3_restThrough at hq; rw [if_pos c0] at hq; exact hq) h3 (fun c0 c1 => by unfold jX3_restThrough at hq; rw [if_neg c0, if_pos c1] at hq; exact hq) (fun c0 c1 => by unfold jX3_restThrough at hq; rw [if_neg c0, if_neg (fun h => h c1)] at hq; exact hq))
abbrev kX3_join_0 (d : Nat) (Q : Option ps_V → ps_S → Prop) (v0 : Int32) (v1 : Int32) (σ : ps_S) : Prop := ps_K mX3_join (d + 1) (ps_QF Q) 0 [some (.inl v0), some (.inl v1)] [] σ
theorem bX3_join_0 {d : Nat} {Q : Option ps_V → ps_S → Prop} {v0 : Int32} {v1 : Int32} {σ : ps_S} (h1 : v0 = (-1) → Q (some (.inl (jbMax v0 v1))) σ) (h2 : ¬ v0 = (-1) → ¬ v1 = (-1) → (v0 / 1048576) = (v1 / 1048576) → Q (some (.inl (v0 + (v1 - v1 / 1048576 * 1048576)))) σ) (h3 : ¬ v0 = (-1) → ¬ v1 = (-1) → ¬ (v0 / 1048576) = (v1 / 1048576) → Q (some (.inl (jbMin v0 v1))) σ) (h4 : ¬ v0 = (-1) → v1 = (-1) → Q (some (.inl (jbMax v0 v1))) σ) : kX3_join_0 d Q v0 v1 σ := by
  refine ps_iload_n (ps_at tX3_join_ok 0 rfl) rfl rfl ?_
  refine ps_iconst (x := (-1)) (ps_at tX3_join_ok 1 rfl) (by decide) ?_
  refine ps_icmp_eq (tgt := 10) (ps_at tX3_join_ok 2 rfl) (by decide) (fun c0 => ?_) (fun c0 => ?_)
  · skip
    refine ps_iload_n (ps_at tX3_join_ok 6 rfl) rfl rfl ?_
    refine ps_iload_n (ps_at tX3_join_ok 7 rfl) rfl rfl ?_
    refine ps_mmax (ps_at tX3_join_ok 8 rfl) cmX3_87 (fun _ => Nat.le_of_ble_eq_true rfl) ?_
    exact ps_iret (ps_at tX3_join_ok 9 rfl) rfl ⟨rfl, rfl⟩ (h1 c0)
  · skip
    refine ps_iload_n (ps_at tX3_join_ok 3 rfl) rfl rfl ?_
    refine ps_iconst (x := (-1)) (ps_at tX3_join_ok 4 rfl) (by decide) ?_
    refine ps_icmp_ne (tgt := 16) (ps_at tX3_join_ok 5 rfl) (by decide) (fun c1 => ?_) (fun c1 => ?_)
    · skip
      refine ps_iload_n (ps_at tX3_join_ok 10 rfl) rfl rfl ?_
      refine ps_ldc (ps_at tX3_join_ok 11 rfl) cnX3_45 ?_
      refine ps_idiv (ps_at tX3_join_ok 12 rfl) (by decide) ?_
      refine ps_iload_n (ps_at tX3_join_ok 13 rfl) rfl rfl ?_
      refine ps_ldc (ps_at tX3_join_ok 14 rfl) cnX3_45 ?_
      refine ps_idiv (ps_at tX3_join_ok 15 rfl) (by decide) ?_
      refine ps_icmp_eq (tgt := 33) (ps_at tX3_join_ok 16 rfl) (by decide) (fun c2 => ?_) (fun c2 => ?_)
      · skip
        refine ps_iload_n (ps_at tX3_join_ok 21 rfl) rfl rfl ?_
        refine ps_iload_n (ps_at tX3_join_ok 22 rfl) rfl rfl ?_
        refine ps_ldc (ps_at tX3_join_ok 23 rfl) cnX3_45 ?_
        refine ps_irem (ps_at tX3_join_ok 24 rfl) (by decide) ?_
        refine ps_iadd (ps_at tX3_join_ok 25 rfl) ?_
        exact ps_iret (ps_at tX3_join_ok 26 rfl) rfl ⟨rfl, rfl⟩ (h2 c0 c1 c2)
      · skip
        refine ps_iload_n (ps_at tX3_join_ok 17 rfl) rfl rfl ?_
        refine ps_iload_n (ps_at tX3_join_ok 18 rfl) rfl rfl ?_
        refine ps_mmin (ps_at tX3_join_ok 19 rfl) cmX3_92 (fun _ => Nat.le_of_ble_eq_true rfl) ?_
        exact ps_iret (ps_at tX3_join_ok 20 rfl) rfl ⟨rfl, rfl⟩ (h3 c0 c1 c2)
    · skip
      refine ps_iload_n (ps_at tX3_join_ok 6 rfl) rfl rfl ?_
      refine ps_iload_n (ps_at tX3_join_ok 7 rfl) rfl rfl ?_
      refine ps_mmax (ps_at tX3_join_ok 8 rfl) cmX3_87 (fun _ => Nat.le_of_ble_eq_true rfl) ?_
      exact ps_iret (ps_at tX3_join_ok 9 rfl) rfl ⟨rfl, rfl⟩ (h4 c0 c1)
theorem eX3_join {d : Nat} {Q : Option ps_V → ps_S → Prop} {v0 : Int32} {v1 : Int32} {σ : ps_S} (h : kX3_join_0 d Q v0 v1 σ) : ps_C mX3_join (d + 1) [.inl v0, .inl v1] σ Q := ps_enter (by decide) rfl ⟨rfl, rfl, rfl⟩ rfl (Nat.le_of_ble_eq_true rfl) h
theorem pX3_join {d : Nat} {Q : Option ps_V → ps_S → Prop} {v0 : Int32} {v1 : Int32} {σ : ps_S}  (hq : Q (some (.inl (jX3_join σ v0 v1))) σ) : ps_C mX3_join (d + 1) [.inl v0, .inl v1] σ Q := eX3_join (bX3_join_0 (fun c0 => by unfold jX3_join at hq; rw [if_pos c0] at hq; exact hq) (fun c0 c1 c2 => by unfold jX3_join at hq; rw [if_neg c0, if_pos c1, if_pos c2] at hq; exact hq) (fun c0 c1 c2 => by unfold jX3_join at hq; rw [if_neg c0, if_pos c1, if_neg c2] at hq; exact hq) (fun c0 c1 => by unfold jX3_join at hq; rw [if_neg c0, if_neg (fun h => h c1)] at hq; exact hq))
abbrev kX4_hasRoom_0 (d : Nat) (Q : Option ps_V → ps_S → Prop) (v2 : Int32) (v3 : Int32) (σ : ps_S) : Prop := ps_K mX4_hasRoom (d + 1) (ps_QF Q) 0 [some (.inr (.inr (24, 0))), some (.inr (.inr (19, 0))), some (.inl v2), some (.inl v3)] [] σ
theorem bX4_hasRoom_0 {d : Nat} {Q : Option ps_V → ps_S → Prop} {v2 : Int32} {v3 : Int32} {σ : ps_S} (h1 : vp_in v3 6) (h2 : (σ 24 0 5) ≤ (jbPop (σ 29 0 v3.toNatClampNeg)) → Q (some (.inl 0)) σ) (h3 : ¬ (σ 24 0 5) ≤ (jbPop (σ 29 0 v3.toNatClampNeg)) → vp_in v2 6) (h4 : ¬ (σ 24 0 5) ≤ (jbPop (σ 29 0 v3.toNatClampNeg)) → ¬ ((σ 29 0 v3.toNatClampNeg) &&& (σ 22 0 v2.toNatClampNeg)) = 0 → Q (some (.inl 0)) σ) (h5 : ¬ (σ 24 0 5) ≤ (jbPop (σ 29 0 v3.toNatClampNeg)) → ((σ 29 0 v3.toNatClampNeg) &&& (σ 22 0 v2.toNatClampNeg)) = 0 → Q (some (.inl 1)) σ) : kX4_hasRoom_0 d Q v2 v3 σ := by
  refine ps_aload_n (ps_at tX4_hasRoom_ok 0 rfl) rfl rfl ?_
  refine ps_getR (ps_at tX4_hasRoom_ok 1 rfl) flX4_24 sh_24 rfl ?_
  refine ps_iload_n (ps_at tX4_hasRoom_ok 2 rfl) rfl rfl ?_
  refine ps_iald (ps_at tX4_hasRoom_ok 3 rfl) sh_29 (h1) ?_
  refine ps_callS (M2 := mJ6_bitCount_0f7a4) (av := [.inl (σ 29 0 v3.toNatClampNeg)]) (rest := []) (ps_at tX4_hasRoom_ok 4 rfl) csX4_64 rfl rfl (fun _ => Nat.le_of_ble_eq_true rfl) (pJ6_bitCount_0f7a4 ?_)
  refine ps_aload_n (ps_at tX4_hasRoom_ok 5 rfl) rfl rfl ?_
  refine ps_getI (ps_at tX4_hasRoom_ok 6 rfl) flX4_27 sh_24 rfl ?_
  refine ps_icmp_ge (tgt := 36) (ps_at tX4_hasRoom_ok 7 rfl) (by decide) (fun c0 => ?_) (fun c0 => ?_)
  · skip
    refine ps_iconst (x := 0) (ps_at tX4_hasRoom_ok 20 rfl) (by decide) ?_
    exact ps_zret (ps_at tX4_hasRoom_ok 21 rfl) rfl ⟨rfl, rfl⟩ (Or.inl rfl) (h2 c0)
  · skip
    refine ps_aload_n (ps_at tX4_hasRoom_ok 8 rfl) rfl rfl ?_
    refine ps_getR (ps_at tX4_hasRoom_ok 9 rfl) flX4_24 sh_24 rfl ?_
    refine ps_iload_n (ps_at tX4_hasRoom_ok 10 rfl) rfl rfl ?_
    refine ps_iald (ps_at tX4_hasRoom_ok 11 rfl) sh_29 (h1) ?_
    refine ps_aload_n (ps_at tX4_hasRoom_ok 12 rfl) rfl rfl ?_
    refine ps_getR (ps_at tX4_hasRoom_ok 13 rfl) flX4_70 sh_19 rfl ?_
    refine ps_iload_n (ps_at tX4_hasRoom_ok 14 rfl) rfl rfl ?_
    refine ps_iald (ps_at tX4_hasRoom_ok 15 rfl) sh_22 (h3 c0) ?_
    refine ps_iand (ps_at tX4_hasRoom_ok 16 rfl) ?_
    refine ps_if_ne (tgt := 36) (ps_at tX4_hasRoom_ok 17 rfl) (by decide) (fun c1 => ?_) (fun c1 => ?_)
    · skip
      refine ps_iconst (x := 0) (ps_at tX4_hasRoom_ok 20 rfl) (by decide) ?_
      exact ps_zret (ps_at tX4_hasRoom_ok 21 rfl) rfl ⟨rfl, rfl⟩ (Or.inl rfl) (h4 c0 c1)
    · skip
      refine ps_iconst (x := 1) (ps_at tX4_hasRoom_ok 18 rfl) (by decide) ?_
      refine ps_goto (tgt := 37) (ps_at tX4_hasRoom_ok 19 rfl) (by decide) ?_
      exact ps_zret (ps_at tX4_hasRoom_ok 21 rfl) rfl ⟨rfl, rfl⟩ (Or.inr rfl) (h5 c0 c1)
theorem eX4_hasRoom {d : Nat} {Q : Option ps_V → ps_S → Prop} {v2 : Int32} {v3 : Int32} {σ : ps_S} (h : kX4_hasRoom_0 d Q v2 v3 σ) : ps_C mX4_hasRoom (d + 1) [.inr (.inr (24, 0)), .inr (.inr (19, 0)), .inl v2, .inl v3] σ Q := ps_enter (by decide) rfl ⟨rfl, rfl, rfl⟩ rfl (Nat.le_of_ble_eq_true rfl) h
theorem pX4_hasRoom {d : Nat} {Q : Option ps_V → ps_S → Prop} {v2 : Int32} {v3 : Int32} {σ : ps_S} (h1 : vp_in v3 6) (h3 : ¬ (σ 24 0 5) ≤ (jbPop (σ 29 0 v3.toNatClampNeg)) → vp_in v2 6) (hq : Q (some (.inl (jX4_hasRoom σ v2 v3))) σ) : ps_C mX4_hasRoom (d + 1) [.inr (.inr (24, 0)), .inr (.inr (19, 0)), .inl v2, .inl v3] σ Q := eX4_hasRoom (bX4_hasRoom_0 h1 (fun c0 => by unfold jX4_hasRoom at hq; rw [if_pos c0] at hq; exact hq) h3 (fun c0 c1 => by unfold jX4_hasRoom at hq; rw [if_neg c0, if_pos c1] at hq; exact hq) (fun c0 c1 => by unfold jX4_hasRoom at hq; rw [if_neg c0, if_neg (fun h => h c1)] at hq; exact hq))
theorem btX4_hasRoom (σ : ps_S) (v2 : Int32) (v3 : Int32) : jX4_hasRoom σ v2 v3 = 0 ∨ jX4_hasRoom σ v2 v3 = 1 := by unfold jX4_hasRoom; first | exact ps_bitW _ _ | exact ps_bitI _ _ _ | (repeat (first | split | simp))
abbrev kX6_isTold_0 (d : Nat) (Q : Option ps_V → ps_S → Prop) (v1 : Int32) (σ : ps_S) : Prop := ps_K mX6_isTold d (ps_QF Q) 0 [some (.inr (.inr (19, 0))), some (.inl v1)] [] σ
theorem bX6_isTold_0 {d : Nat} {Q : Option ps_V → ps_S → Prop} {v1 : Int32} {σ : ps_S} (h1 : (((σ 19 0 3) >>> (v1 &&& 31)) &&& 1) = 0 → Q (some (.inl 0)) σ) (h2 : ¬ (((σ 19 0 3) >>> (v1 &&& 31)) &&& 1) = 0 → Q (some (.inl 1)) σ) : kX6_isTold_0 d Q v1 σ := by
  refine ps_aload_n (ps_at tX6_isTold_ok 0 rfl) rfl rfl ?_
  refine ps_getI (ps_at tX6_isTold_ok 1 rfl) flX6_37 sh_19 rfl ?_
  refine ps_iload_n (ps_at tX6_isTold_ok 2 rfl) rfl rfl ?_
  refine ps_ishr (ps_at tX6_isTold_ok 3 rfl) ?_
  refine ps_iconst (x := 1) (ps_at tX6_isTold_ok 4 rfl) (by decide) ?_
  refine ps_iand (ps_at tX6_isTold_ok 5 rfl) ?_
  refine ps_if_eq (tgt := 15) (ps_at tX6_isTold_ok 6 rfl) (by decide) (fun c0 => ?_) (fun c0 => ?_)
  · skip
    refine ps_iconst (x := 0) (ps_at tX6_isTold_ok 9 rfl) (by decide) ?_
    exact ps_zret (ps_at tX6_isTold_ok 10 rfl) rfl ⟨rfl, rfl⟩ (Or.inl rfl) (h1 c0)
  · skip
    refine ps_iconst (x := 1) (ps_at tX6_isTold_ok 7 rfl) (by decide) ?_
    refine ps_goto (tgt := 16) (ps_at tX6_isTold_ok 8 rfl) (by decide) ?_
    exact ps_zret (ps_at tX6_isTold_ok 10 rfl) rfl ⟨rfl, rfl⟩ (Or.inr rfl) (h2 c0)
theorem eX6_isTold {d : Nat} {Q : Option ps_V → ps_S → Prop} {v1 : Int32} {σ : ps_S} (h : kX6_isTold_0 d Q v1 σ) : ps_C mX6_isTold d [.inr (.inr (19, 0)), .inl v1] σ Q := ps_enter (by decide) rfl ⟨rfl, rfl, rfl⟩ rfl (Nat.le_of_ble_eq_true rfl) h
theorem pX6_isTold {d : Nat} {Q : Option ps_V → ps_S → Prop} {v1 : Int32} {σ : ps_S}  (hq : Q (some (.inl (jX6_isTold σ v1))) σ) : ps_C mX6_isTold d [.inr (.inr (19, 0)), .inl v1] σ Q := eX6_isTold (bX6_isTold_0 (fun c0 => by unfold jX6_isTold at hq; rw [if_pos c0] at hq; exact hq) (fun c0 => by unfold jX6_isTold at hq; rw [if_neg c0] at hq; exact hq))
theorem btX6_isTold (σ : ps_S) (v1 : Int32) : jX6_isTold σ v1 = 0 ∨ jX6_isTold σ v1 = 1 := by unfold jX6_isTold; first | exact ps_bitW _ _ | exact ps_bitI _ _ _ | (repeat (first | split | simp))
abbrev kX7_isMan_0 (d : Nat) (Q : Option ps_V → ps_S → Prop) (v1 : Int32) (σ : ps_S) : Prop := ps_K mX7_isMan (d + 1) (ps_QF Q) 0 [some (.inr (.inr (1, 0))), some (.inl v1)] [] σ
theorem bX7_isMan_0 {d : Nat} {Q : Option ps_V → ps_S → Prop} {v1 : Int32} {σ : ps_S} (h1 : Q (some (.inl (jbWi v1 (σ 36 0 2)))) σ) : kX7_isMan_0 d Q v1 σ := by
  refine ps_iload_n (ps_at tX7_isMan_ok 0 rfl) rfl rfl ?_
  refine ps_aload_n (ps_at tX7_isMan_ok 1 rfl) rfl rfl ?_
  refine ps_getR (ps_at tX7_isMan_ok 2 rfl) flX7_54 sh_1 rfl ?_
  refine ps_getI (ps_at tX7_isMan_ok 3 rfl) flX7_235 sh_36 rfl ?_
  refine ps_callS (M2 := mX7_within) (av := [.inl v1, .inl (σ 36 0 2)]) (rest := []) (ps_at tX7_isMan_ok 4 rfl) csX7_65 rfl rfl (fun _ => Nat.le_of_ble_eq_true rfl) (pX7_within ?_)
  exact ps_zret (ps_at tX7_isMan_ok 5 rfl) rfl ⟨rfl, rfl⟩ (ps_bitW _ _) (h1)
theorem eX7_isMan {d : Nat} {Q : Option ps_V → ps_S → Prop} {v1 : Int32} {σ : ps_S} (h : kX7_isMan_0 d Q v1 σ) : ps_C mX7_isMan (d + 1) [.inr (.inr (1, 0)), .inl v1] σ Q := ps_enter (by decide) rfl ⟨rfl, rfl, rfl⟩ rfl (Nat.le_of_ble_eq_true rfl) h
theorem pX7_isMan {d : Nat} {Q : Option ps_V → ps_S → Prop} {v1 : Int32} {σ : ps_S}  (hq : Q (some (.inl (jX7_isMan σ v1))) σ) : ps_C mX7_isMan (d + 1) [.inr (.inr (1, 0)), .inl v1] σ Q := eX7_isMan (bX7_isMan_0 (by unfold jX7_isMan at hq; exact hq))
theorem btX7_isMan (σ : ps_S) (v1 : Int32) : jX7_isMan σ v1 = 0 ∨ jX7_isMan σ v1 = 1 := by unfold jX7_isMan; first | exact ps_bitW _ _ | exact ps_bitI _ _ _ | (repeat (first | split | simp))
abbrev kX7_isPage_0 (d : Nat) (Q : Option ps_V → ps_S → Prop) (v1 : Int32) (σ : ps_S) : Prop := ps_K mX7_isPage (d + 1) (ps_QF Q) 0 [some (.inr (.inr (1, 0))), some (.inl v1)] [] σ
theorem bX7_isPage_0 {d : Nat} {Q : Option ps_V → ps_S → Prop} {v1 : Int32} {σ : ps_S} (h1 : Q (some (.inl (jbWi v1 (σ 36 0 3)))) σ) : kX7_isPage_0 d Q v1 σ := by
  refine ps_iload_n (ps_at tX7_isPage_ok 0 rfl) rfl rfl ?_
  refine ps_aload_n (ps_at tX7_isPage_ok 1 rfl) rfl rfl ?_
  refine ps_getR (ps_at tX7_isPage_ok 2 rfl) flX7_54 sh_1 rfl ?_
  refine ps_getI (ps_at tX7_isPage_ok 3 rfl) flX7_238 sh_36 rfl ?_
  refine ps_callS (M2 := mX7_within) (av := [.inl v1, .inl (σ 36 0 3)]) (rest := []) (ps_at tX7_isPage_ok 4 rfl) csX7_65 rfl rfl (fun _ => Nat.le_of_ble_eq_true rfl) (pX7_within ?_)
  exact ps_zret (ps_at tX7_isPage_ok 5 rfl) rfl ⟨rfl, rfl⟩ (ps_bitW _ _) (h1)
theorem eX7_isPage {d : Nat} {Q : Option ps_V → ps_S → Prop} {v1 : Int32} {σ : ps_S} (h : kX7_isPage_0 d Q v1 σ) : ps_C mX7_isPage (d + 1) [.inr (.inr (1, 0)), .inl v1] σ Q := ps_enter (by decide) rfl ⟨rfl, rfl, rfl⟩ rfl (Nat.le_of_ble_eq_true rfl) h
theorem pX7_isPage {d : Nat} {Q : Option ps_V → ps_S → Prop} {v1 : Int32} {σ : ps_S}  (hq : Q (some (.inl (jX7_isPage σ v1))) σ) : ps_C mX7_isPage (d + 1) [.inr (.inr (1, 0)), .inl v1] σ Q := eX7_isPage (bX7_isPage_0 (by unfold jX7_isPage at hq; exact hq))
theorem btX7_isPage (σ : ps_S) (v1 : Int32) : jX7_isPage σ v1 = 0 ∨ jX7_isPage σ v1 = 1 := by unfold jX7_isPage; first | exact ps_bitW _ _ | exact ps_bitI _ _ _ | (repeat (first | split | simp))
abbrev kX8_letterAt_0 (d : Nat) (Q : Option ps_V → ps_S → Prop) (v1 : Int32) (v2 : Int32) (v3 : Int32) (σ : ps_S) : Prop := ps_K mX8_letterAt d (ps_QF Q) 0 [some (.inr (.inr (50, 0))), some (.inl v1), some (.inl v2), some (.inl v3)] [] σ
theorem bX8_letterAt_0 {d : Nat} {Q : Option ps_V → ps_S → Prop} {v1 : Int32} {v2 : Int32} {v3 : Int32} {σ : ps_S} (h1 : vp_in (((54 * v1) + (6 * v2)) + v3) 324) (h2 : Q (some (.inl (σ 51 0 (((54 * v1) + (6 * v2)) + v3).toNatClampNeg))) σ) : kX8_letterAt_0 d Q v1 v2 v3 σ := by
  refine ps_aload_n (ps_at tX8_letterAt_ok 0 rfl) rfl rfl ?_
  refine ps_getR (ps_at tX8_letterAt_ok 1 rfl) flX8_7 sh_50 rfl ?_
  refine ps_bipush (x := 54) (ps_at tX8_letterAt_ok 2 rfl) (by decide) ?_
  refine ps_iload_n (ps_at tX8_letterAt_ok 3 rfl) rfl rfl ?_
  refine ps_imul (ps_at tX8_letterAt_ok 4 rfl) ?_
  refine ps_bipush (x := 6) (ps_at tX8_letterAt_ok 5 rfl) (by decide) ?_
  refine ps_iload_n (ps_at tX8_letterAt_ok 6 rfl) rfl rfl ?_
  refine ps_imul (ps_at tX8_letterAt_ok 7 rfl) ?_
  refine ps_iadd (ps_at tX8_letterAt_ok 8 rfl) ?_
  refine ps_iload_n (ps_at tX8_letterAt_ok 9 rfl) rfl rfl ?_
  refine ps_iadd (ps_at tX8_letterAt_ok 10 rfl) ?_
  refine ps_iald (ps_at tX8_letterAt_ok 11 rfl) sh_51 (h1) ?_
  exact ps_iret (ps_at tX8_letterAt_ok 12 rfl) rfl ⟨rfl, rfl⟩ (h2)
theorem eX8_letterAt {d : Nat} {Q : Option ps_V → ps_S → Prop} {v1 : Int32} {v2 : Int32} {v3 : Int32} {σ : ps_S} (h : kX8_letterAt_0 d Q v1 v2 v3 σ) : ps_C mX8_letterAt d [.inr (.inr (50, 0)), .inl v1, .inl v2, .inl v3] σ Q := ps_enter (by decide) rfl ⟨rfl, rfl, rfl⟩ rfl (Nat.le_of_ble_eq_true rfl) h
theorem pX8_letterAt {d : Nat} {Q : Option ps_V → ps_S → Prop} {v1 : Int32} {v2 : Int32} {v3 : Int32} {σ : ps_S} (h1 : vp_in (((54 * v1) + (6 * v2)) + v3) 324) (hq : Q (some (.inl (jX8_letterAt σ v1 v2 v3))) σ) : ps_C mX8_letterAt d [.inr (.inr (50, 0)), .inl v1, .inl v2, .inl v3] σ Q := eX8_letterAt (bX8_letterAt_0 h1 (by unfold jX8_letterAt at hq; exact hq))
abbrev kX8_isNext_0 (d : Nat) (Q : Option ps_V → ps_S → Prop) (v1 : Int32) (v2 : Int32) (v3 : Int32) (σ : ps_S) : Prop := ps_K mX8_isNext d (ps_QF Q) 0 [some (.inr (.inr (50, 0))), some (.inl v1), some (.inl v2), some (.inl v3), none] [] σ
theorem bX8_isNext_0 {d : Nat} {Q : Option ps_V → ps_S → Prop} {v1 : Int32} {v2 : Int32} {v3 : Int32} {σ : ps_S} (h1 : ¬ ((v1 >>> (v3 &&& 31)) &&& 1) = 0 → Q (some (.inl 0)) σ) (h2 : ((v1 >>> (v3 &&& 31)) &&& 1) = 0 → vp_in v3 9) (h3 : ((v1 >>> (v3 &&& 31)) &&& 1) = 0 → ¬ ((σ 59 0 v3.toNatClampNeg) &&& (v1 ^^^ (-1))) = 0 → Q (some (.inl 0)) σ) (h4 : ((v1 >>> (v3 &&& 31)) &&& 1) = 0 → ((σ 59 0 v3.toNatClampNeg) &&& (v1 ^^^ (-1))) = 0 → vp_in ((9 * v2) + v3) 81) (h5 : ((v1 >>> (v3 &&& 31)) &&& 1) = 0 → ((σ 59 0 v3.toNatClampNeg) &&& (v1 ^^^ (-1))) = 0 → vp_in ((9 * (v1 ||| ((1 : Int32) <<< (v3 &&& 31)))) + v3) 4608) (h6 : ((v1 >>> (v3 &&& 31)) &&& 1) = 0 → ((σ 59 0 v3.toNatClampNeg) &&& (v1 ^^^ (-1))) = 0 → vp_in ((9 * v1) + v2) 4608) (h7 : ((v1 >>> (v3 &&& 31)) &&& 1) = 0 → ((σ 59 0 v3.toNatClampNeg) &&& (v1 ^^^ (-1))) = 0 → ¬ ((σ 60 0 ((9 * v2) + v3).toNatClampNeg) + (σ 61 0 ((9 * (v1 ||| ((1 : Int32) <<< (v3 &&& 31)))) + v3).toNatClampNeg)) = (σ 61 0 ((9 * v1) + v2).toNatClampNeg) → Q (some (.inl 0)) σ) (h8 : ((v1 >>> (v3 &&& 31)) &&& 1) = 0 → ((σ 59 0 v3.toNatClampNeg) &&& (v1 ^^^ (-1))) = 0 → ((σ 60 0 ((9 * v2) + v3).toNatClampNeg) + (σ 61 0 ((9 * (v1 ||| ((1 : Int32) <<< (v3 &&& 31)))) + v3).toNatClampNeg)) = (σ 61 0 ((9 * v1) + v2).toNatClampNeg) → Q (some (.inl 1)) σ) : kX8_isNext_0 d Q v1 v2 v3 σ := by
  refine ps_iload_n (ps_at tX8_isNext_ok 0 rfl) rfl rfl ?_
  refine ps_iload_n (ps_at tX8_isNext_ok 1 rfl) rfl rfl ?_
  refine ps_ishr (ps_at tX8_isNext_ok 2 rfl) ?_
  refine ps_iconst (x := 1) (ps_at tX8_isNext_ok 3 rfl) (by decide) ?_
  refine ps_iand (ps_at tX8_isNext_ok 4 rfl) ?_
  refine ps_if_ne (tgt := 25) (ps_at tX8_isNext_ok 5 rfl) (by decide) (fun c0 => ?_) (fun c0 => ?_)
  · skip
    refine ps_iconst (x := 0) (ps_at tX8_isNext_ok 17 rfl) (by decide) ?_
    refine ps_istore (L' := [some (.inr (.inr (50, 0))), some (.inl v1), some (.inl v2), some (.inl v3), some (.inl 0)]) (ps_at tX8_isNext_ok 18 rfl) (by decide) rfl ?_
    refine ps_iload (ps_at tX8_isNext_ok 19 rfl) rfl ?_
    refine ps_if_eq (tgt := 78) (ps_at tX8_isNext_ok 20 rfl) (by decide) (fun cx => ?_) (fun cx => ?_)
    rotate_left
    · exact absurd cx (by decide)
    refine ps_iconst (x := 0) (ps_at tX8_isNext_ok 53 rfl) (by decide) ?_
    exact ps_zret (ps_at tX8_isNext_ok 54 rfl) rfl ⟨rfl, rfl⟩ (Or.inl rfl) (h1 c0)
  · skip
    refine ps_aload_n (ps_at tX8_isNext_ok 6 rfl) rfl rfl ?_
    refine ps_getR (ps_at tX8_isNext_ok 7 rfl) flX8_32 sh_50 rfl ?_
    refine ps_iload_n (ps_at tX8_isNext_ok 8 rfl) rfl rfl ?_
    refine ps_iald (ps_at tX8_isNext_ok 9 rfl) sh_59 (h2 c0) ?_
    refine ps_iload_n (ps_at tX8_isNext_ok 10 rfl) rfl rfl ?_
    refine ps_iconst (x := (-1)) (ps_at tX8_isNext_ok 11 rfl) (by decide) ?_
    refine ps_ixor (ps_at tX8_isNext_ok 12 rfl) ?_
    refine ps_iand (ps_at tX8_isNext_ok 13 rfl) ?_
    refine ps_if_ne (tgt := 25) (ps_at tX8_isNext_ok 14 rfl) (by decide) (fun c1 => ?_) (fun c1 => ?_)
    · skip
      refine ps_iconst (x := 0) (ps_at tX8_isNext_ok 17 rfl) (by decide) ?_
      refine ps_istore (L' := [some (.inr (.inr (50, 0))), some (.inl v1), some (.inl v2), some (.inl v3), some (.inl 0)]) (ps_at tX8_isNext_ok 18 rfl) (by decide) rfl ?_
      refine ps_iload (ps_at tX8_isNext_ok 19 rfl) rfl ?_
      refine ps_if_eq (tgt := 78) (ps_at tX8_isNext_ok 20 rfl) (by decide) (fun cx => ?_) (fun cx => ?_)
      rotate_left
      · exact absurd cx (by decide)
      refine ps_iconst (x := 0) (ps_at tX8_isNext_ok 53 rfl) (by decide) ?_
      exact ps_zret (ps_at tX8_isNext_ok 54 rfl) rfl ⟨rfl, rfl⟩ (Or.inl rfl) (h3 c0 c1)
    · skip
      refine ps_iconst (x := 1) (ps_at tX8_isNext_ok 15 rfl) (by decide) ?_
      refine ps_goto (tgt := 26) (ps_at tX8_isNext_ok 16 rfl) (by decide) ?_
      refine ps_istore (L' := [some (.inr (.inr (50, 0))), some (.inl v1), some (.inl v2), some (.inl v3), some (.inl 1)]) (ps_at tX8_isNext_ok 18 rfl) (by decide) rfl ?_
      refine ps_iload (ps_at tX8_isNext_ok 19 rfl) rfl ?_
      refine ps_if_eq (tgt := 78) (ps_at tX8_isNext_ok 20 rfl) (by decide) (fun cx => ?_) (fun cx => ?_)
      · exact absurd cx (by decide)
      refine ps_aload_n (ps_at tX8_isNext_ok 21 rfl) rfl rfl ?_
      refine ps_getR (ps_at tX8_isNext_ok 22 rfl) flX8_35 sh_50 rfl ?_
      refine ps_bipush (x := 9) (ps_at tX8_isNext_ok 23 rfl) (by decide) ?_
      refine ps_iload_n (ps_at tX8_isNext_ok 24 rfl) rfl rfl ?_
      refine ps_imul (ps_at tX8_isNext_ok 25 rfl) ?_
      refine ps_iload_n (ps_at tX8_isNext_ok 26 rfl) rfl rfl ?_
      refine ps_iadd (ps_at tX8_isNext_ok 27 rfl) ?_
      refine ps_iald (ps_at tX8_isNext_ok 28 rfl) sh_60 (h4 c0 c1) ?_
      refine ps_aload_n (ps_at tX8_isNext_ok 29 rfl) rfl rfl ?_
      refine ps_getR (ps_at tX8_isNext_ok 30 rfl) flX8_38 sh_50 rfl ?_
      refine ps_bipush (x := 9) (ps_at tX8_isNext_ok 31 rfl) (by decide) ?_
      refine ps_iload_n (ps_at tX8_isNext_ok 32 rfl) rfl rfl ?_
      refine ps_iconst (x := 1) (ps_at tX8_isNext_ok 33 rfl) (by decide) ?_
      refine ps_iload_n (ps_at tX8_isNext_ok 34 rfl) rfl rfl ?_
      refine ps_ishl (ps_at tX8_isNext_ok 35 rfl) ?_
      refine ps_ior (ps_at tX8_isNext_ok 36 rfl) ?_
      refine ps_imul (ps_at tX8_isNext_ok 37 rfl) ?_
      refine ps_iload_n (ps_at tX8_isNext_ok 38 rfl) rfl rfl ?_
      refine ps_iadd (ps_at tX8_isNext_ok 39 rfl) ?_
      refine ps_iald (ps_at tX8_isNext_ok 40 rfl) sh_61 (h5 c0 c1) ?_
      refine ps_iadd (ps_at tX8_isNext_ok 41 rfl) ?_
      refine ps_aload_n (ps_at tX8_isNext_ok 42 rfl) rfl rfl ?_
      refine ps_getR (ps_at tX8_isNext_ok 43 rfl) flX8_38 sh_50 rfl ?_
      refine ps_bipush (x := 9) (ps_at tX8_isNext_ok 44 rfl) (by decide) ?_
      refine ps_iload_n (ps_at tX8_isNext_ok 45 rfl) rfl rfl ?_
      refine ps_imul (ps_at tX8_isNext_ok 46 rfl) ?_
      refine ps_iload_n (ps_at tX8_isNext_ok 47 rfl) rfl rfl ?_
      refine ps_iadd (ps_at tX8_isNext_ok 48 rfl) ?_
      refine ps_iald (ps_at tX8_isNext_ok 49 rfl) sh_61 (h6 c0 c1) ?_
      refine ps_icmp_ne (tgt := 78) (ps_at tX8_isNext_ok 50 rfl) (by decide) (fun c2 => ?_) (fun c2 => ?_)
      · skip
        refine ps_iconst (x := 0) (ps_at tX8_isNext_ok 53 rfl) (by decide) ?_
        exact ps_zret (ps_at tX8_isNext_ok 54 rfl) rfl ⟨rfl, rfl⟩ (Or.inl rfl) (h7 c0 c1 c2)
      · skip
        refine ps_iconst (x := 1) (ps_at tX8_isNext_ok 51 rfl) (by decide) ?_
        refine ps_goto (tgt := 79) (ps_at tX8_isNext_ok 52 rfl) (by decide) ?_
        exact ps_zret (ps_at tX8_isNext_ok 54 rfl) rfl ⟨rfl, rfl⟩ (Or.inr rfl) (h8 c0 c1 c2)
theorem eX8_isNext {d : Nat} {Q : Option ps_V → ps_S → Prop} {v1 : Int32} {v2 : Int32} {v3 : Int32} {σ : ps_S} (h : kX8_isNext_0 d Q v1 v2 v3 σ) : ps_C mX8_isNext d [.inr (.inr (50, 0)), .inl v1, .inl v2, .inl v3] σ Q := ps_enter (by decide) rfl ⟨rfl, rfl, rfl⟩ rfl (Nat.le_of_ble_eq_true rfl) h
theorem pX8_isNext {d : Nat} {Q : Option ps_V → ps_S → Prop} {v1 : Int32} {v2 : Int32} {v3 : Int32} {σ : ps_S} (h2 : ((v1 >>> (v3 &&& 31)) &&& 1) = 0 → vp_in v3 9) (h4 : ((v1 >>> (v3 &&& 31)) &&& 1) = 0 → ((σ 59 0 v3.toNatClampNeg) &&& (v1 ^^^ (-1))) = 0 → vp_in ((9 * v2) + v3) 81) (h5 : ((v1 >>> (v3 &&& 31)) &&& 1) = 0 → ((σ 59 0 v3.toNatClampNeg) &&& (v1 ^^^ (-1))) = 0 → vp_in ((9 * (v1 ||| ((1 : Int32) <<< (v3 &&& 31)))) + v3) 4608) (h6 : ((v1 >>> (v3 &&& 31)) &&& 1) = 0 → ((σ 59 0 v3.toNatClampNeg) &&& (v1 ^^^ (-1))) = 0 → vp_in ((9 * v1) + v2) 4608) (hq : Q (some (.inl (jX8_isNext σ v1 v2 v3))) σ) : ps_C mX8_isNext d [.inr (.inr (50, 0)), .inl v1, .inl v2, .inl v3] σ Q := eX8_isNext (bX8_isNext_0 (fun c0 => by unfold jX8_isNext at hq; rw [if_pos c0] at hq; exact hq) h2 (fun c0 c1 => by unfold jX8_isNext at hq; rw [if_neg (fun h => h c0), if_pos c1] at hq; exact hq) h4 h5 h6 (fun c0 c1 c2 => by unfold jX8_isNext at hq; rw [if_neg (fun h => h c0), if_neg (fun h => h c1), if_pos c2] at hq; exact hq) (fun c0 c1 c2 => by unfold jX8_isNext at hq; rw [if_neg (fun h => h c0), if_neg (fun h => h c1), if_neg (fun h => h c2)] at hq; exact hq))
theorem btX8_isNext (σ : ps_S) (v1 : Int32) (v2 : Int32) (v3 : Int32) : jX8_isNext σ v1 v2 v3 = 0 ∨ jX8_isNext σ v1 v2 v3 = 1 := by unfold jX8_isNext; first | exact ps_bitW _ _ | exact ps_bitI _ _ _ | (repeat (first | split | simp))
abbrev kX8_heaps_0 (d : Nat) (Q : Option ps_V → ps_S → Prop) (v1 : Int32) (σ : ps_S) : Prop := ps_K mX8_heaps d (ps_QF Q) 0 [some (.inr (.inr (50, 0))), some (.inl v1)] [] σ
theorem bX8_heaps_0 {d : Nat} {Q : Option ps_V → ps_S → Prop} {v1 : Int32} {σ : ps_S} (h1 : vp_in v1 6) (h2 : ¬ (σ 50 0 20) = 0) (h3 : Q (some (.inl ((((σ 68 0 v1.toNatClampNeg) + (σ 50 0 20)) - 1) / (σ 50 0 20)))) σ) : kX8_heaps_0 d Q v1 σ := by
  refine ps_aload_n (ps_at tX8_heaps_ok 0 rfl) rfl rfl ?_
  refine ps_getR (ps_at tX8_heaps_ok 1 rfl) flX8_60 sh_50 rfl ?_
  refine ps_iload_n (ps_at tX8_heaps_ok 2 rfl) rfl rfl ?_
  refine ps_iald (ps_at tX8_heaps_ok 3 rfl) sh_68 (h1) ?_
  refine ps_aload_n (ps_at tX8_heaps_ok 4 rfl) rfl rfl ?_
  refine ps_getI (ps_at tX8_heaps_ok 5 rfl) flX8_69 sh_50 rfl ?_
  refine ps_iadd (ps_at tX8_heaps_ok 6 rfl) ?_
  refine ps_iconst (x := 1) (ps_at tX8_heaps_ok 7 rfl) (by decide) ?_
  refine ps_isub (ps_at tX8_heaps_ok 8 rfl) ?_
  refine ps_aload_n (ps_at tX8_heaps_ok 9 rfl) rfl rfl ?_
  refine ps_getI (ps_at tX8_heaps_ok 10 rfl) flX8_69 sh_50 rfl ?_
  refine ps_idiv (ps_at tX8_heaps_ok 11 rfl) (h2) ?_
  exact ps_iret (ps_at tX8_heaps_ok 12 rfl) rfl ⟨rfl, rfl⟩ (h3)
theorem eX8_heaps {d : Nat} {Q : Option ps_V → ps_S → Prop} {v1 : Int32} {σ : ps_S} (h : kX8_heaps_0 d Q v1 σ) : ps_C mX8_heaps d [.inr (.inr (50, 0)), .inl v1] σ Q := ps_enter (by decide) rfl ⟨rfl, rfl, rfl⟩ rfl (Nat.le_of_ble_eq_true rfl) h
theorem pX8_heaps {d : Nat} {Q : Option ps_V → ps_S → Prop} {v1 : Int32} {σ : ps_S} (h1 : vp_in v1 6) (h2 : ¬ (σ 50 0 20) = 0) (hq : Q (some (.inl (jX8_heaps σ v1))) σ) : ps_C mX8_heaps d [.inr (.inr (50, 0)), .inl v1] σ Q := eX8_heaps (bX8_heaps_0 h1 h2 (by unfold jX8_heaps at hq; exact hq))
abbrev kX8_heapEnd_0 (d : Nat) (Q : Option ps_V → ps_S → Prop) (v1 : Int32) (v2 : Int32) (σ : ps_S) : Prop := ps_K mX8_heapEnd d (ps_QF Q) 0 [some (.inr (.inr (50, 0))), some (.inl v1), some (.inl v2), none] [] σ
theorem bX8_heapEnd_0 {d : Nat} {Q : Option ps_V → ps_S → Prop} {v1 : Int32} {v2 : Int32} {σ : ps_S} (h1 : vp_in v1 6) (h2 : (σ 68 0 v1.toNatClampNeg) ≤ ((v2 * (σ 50 0 20)) + (σ 50 0 20)) → Q (some (.inl (σ 68 0 v1.toNatClampNeg))) σ) (h3 : ¬ (σ 68 0 v1.toNatClampNeg) ≤ ((v2 * (σ 50 0 20)) + (σ 50 0 20)) → Q (some (.inl ((v2 * (σ 50 0 20)) + (σ 50 0 20)))) σ) : kX8_heapEnd_0 d Q v1 v2 σ := by
  refine ps_iload_n (ps_at tX8_heapEnd_ok 0 rfl) rfl rfl ?_
  refine ps_aload_n (ps_at tX8_heapEnd_ok 1 rfl) rfl rfl ?_
  refine ps_getI (ps_at tX8_heapEnd_ok 2 rfl) flX8_69 sh_50 rfl ?_
  refine ps_imul (ps_at tX8_heapEnd_ok 3 rfl) ?_
  refine ps_aload_n (ps_at tX8_heapEnd_ok 4 rfl) rfl rfl ?_
  refine ps_getI (ps_at tX8_heapEnd_ok 5 rfl) flX8_69 sh_50 rfl ?_
  refine ps_iadd (ps_at tX8_heapEnd_ok 6 rfl) ?_
  refine ps_istore_n (L' := [some (.inr (.inr (50, 0))), some (.inl v1), some (.inl v2), some (.inl ((v2 * (σ 50 0 20)) + (σ 50 0 20)))]) (ps_at tX8_heapEnd_ok 7 rfl) rfl (by decide) rfl ?_
  refine ps_iload_n (ps_at tX8_heapEnd_ok 8 rfl) rfl rfl ?_
  refine ps_aload_n (ps_at tX8_heapEnd_ok 9 rfl) rfl rfl ?_
  refine ps_getR (ps_at tX8_heapEnd_ok 10 rfl) flX8_60 sh_50 rfl ?_
  refine ps_iload_n (ps_at tX8_heapEnd_ok 11 rfl) rfl rfl ?_
  refine ps_iald (ps_at tX8_heapEnd_ok 12 rfl) sh_68 (h1) ?_
  refine ps_icmp_ge (tgt := 26) (ps_at tX8_heapEnd_ok 13 rfl) (by decide) (fun c0 => ?_) (fun c0 => ?_)
  · skip
    refine ps_aload_n (ps_at tX8_heapEnd_ok 16 rfl) rfl rfl ?_
    refine ps_getR (ps_at tX8_heapEnd_ok 17 rfl) flX8_60 sh_50 rfl ?_
    refine ps_iload_n (ps_at tX8_heapEnd_ok 18 rfl) rfl rfl ?_
    refine ps_iald (ps_at tX8_heapEnd_ok 19 rfl) sh_68 (h1) ?_
    exact ps_iret (ps_at tX8_heapEnd_ok 20 rfl) rfl ⟨rfl, rfl⟩ (h2 c0)
  · skip
    refine ps_iload_n (ps_at tX8_heapEnd_ok 14 rfl) rfl rfl ?_
    refine ps_goto (tgt := 32) (ps_at tX8_heapEnd_ok 15 rfl) (by decide) ?_
    exact ps_iret (ps_at tX8_heapEnd_ok 20 rfl) rfl ⟨rfl, rfl⟩ (h3 c0)
theorem eX8_heapEnd {d : Nat} {Q : Option ps_V → ps_S → Prop} {v1 : Int32} {v2 : Int32} {σ : ps_S} (h : kX8_heapEnd_0 d Q v1 v2 σ) : ps_C mX8_heapEnd d [.inr (.inr (50, 0)), .inl v1, .inl v2] σ Q := ps_enter (by decide) rfl ⟨rfl, rfl, rfl⟩ rfl (Nat.le_of_ble_eq_true rfl) h
theorem pX8_heapEnd {d : Nat} {Q : Option ps_V → ps_S → Prop} {v1 : Int32} {v2 : Int32} {σ : ps_S} (h1 : vp_in v1 6) (hq : Q (some (.inl (jX8_heapEnd σ v1 v2))) σ) : ps_C mX8_heapEnd d [.inr (.inr (50, 0)), .inl v1, .inl v2] σ Q := eX8_heapEnd (bX8_heapEnd_0 h1 (fun c0 => by unfold jX8_heapEnd at hq; rw [if_pos c0] at hq; exact hq) (fun c0 => by unfold jX8_heapEnd at hq; rw [if_neg c0] at hq; exact hq))
abbrev kX8_kindIn_0 (d : Nat) (Q : Option ps_V → ps_S → Prop) (v1 : Int32) (v2 : Int32) (v3 : Int32) (σ : ps_S) : Prop := ps_K mX8_kindIn (d + 1) (ps_QF Q) 0 [some (.inr (.inr (50, 0))), some (.inl v1), some (.inl v2), some (.inl v3), none] [] σ
theorem bX8_kindIn_0 {d : Nat} {Q : Option ps_V → ps_S → Prop} {v1 : Int32} {v2 : Int32} {v3 : Int32} {σ : ps_S} (h1 : ¬ (σ 50 0 20) = 0) (h2 : v3 = 0 → vp_in v1 6) (h3 : v3 = 0 → vp_in ((12 * v1) + (((((v2 / (σ 50 0 20)) * (σ 50 0 20)) + (jX8_heapEnd σ v1 (v2 / (σ 50 0 20)))) - 1) - v2)) 72) (h4 : v3 = 0 → Q (some (.inl (σ 69 0 ((12 * v1) + (((((v2 / (σ 50 0 20)) * (σ 50 0 20)) + (jX8_heapEnd σ v1 (v2 / (σ 50 0 20)))) - 1) - v2)).toNatClampNeg))) σ) (h5 : ¬ v3 = 0 → vp_in ((12 * v1) + v2) 72) (h6 : ¬ v3 = 0 → Q (some (.inl (σ 69 0 ((12 * v1) + v2).toNatClampNeg))) σ) : kX8_kindIn_0 d Q v1 v2 v3 σ := by
  refine ps_iload_n (ps_at tX8_kindIn_ok 0 rfl) rfl rfl ?_
  refine ps_aload_n (ps_at tX8_kindIn_ok 1 rfl) rfl rfl ?_
  refine ps_getI (ps_at tX8_kindIn_ok 2 rfl) flX8_69 sh_50 rfl ?_
  refine ps_idiv (ps_at tX8_kindIn_ok 3 rfl) (h1) ?_
  refine ps_aload_n (ps_at tX8_kindIn_ok 4 rfl) rfl rfl ?_
  refine ps_getI (ps_at tX8_kindIn_ok 5 rfl) flX8_69 sh_50 rfl ?_
  refine ps_imul (ps_at tX8_kindIn_ok 6 rfl) ?_
  refine ps_istore (L' := [some (.inr (.inr (50, 0))), some (.inl v1), some (.inl v2), some (.inl v3), some (.inl ((v2 / (σ 50 0 20)) * (σ 50 0 20)))]) (ps_at tX8_kindIn_ok 7 rfl) (by decide) rfl ?_
  refine ps_aload_n (ps_at tX8_kindIn_ok 8 rfl) rfl rfl ?_
  refine ps_getR (ps_at tX8_kindIn_ok 9 rfl) flX8_63 sh_50 rfl ?_
  refine ps_bipush (x := 12) (ps_at tX8_kindIn_ok 10 rfl) (by decide) ?_
  refine ps_iload_n (ps_at tX8_kindIn_ok 11 rfl) rfl rfl ?_
  refine ps_imul (ps_at tX8_kindIn_ok 12 rfl) ?_
  refine ps_iload_n (ps_at tX8_kindIn_ok 13 rfl) rfl rfl ?_
  refine ps_if_eq (tgt := 29) (ps_at tX8_kindIn_ok 14 rfl) (by decide) (fun c0 => ?_) (fun c0 => ?_)
  · skip
    refine ps_iload (ps_at tX8_kindIn_ok 17 rfl) rfl ?_
    refine ps_aload_n (ps_at tX8_kindIn_ok 18 rfl) rfl rfl ?_
    refine ps_iload_n (ps_at tX8_kindIn_ok 19 rfl) rfl rfl ?_
    refine ps_iload_n (ps_at tX8_kindIn_ok 20 rfl) rfl rfl ?_
    refine ps_aload_n (ps_at tX8_kindIn_ok 21 rfl) rfl rfl ?_
    refine ps_getI (ps_at tX8_kindIn_ok 22 rfl) flX8_69 sh_50 rfl ?_
    refine ps_idiv (ps_at tX8_kindIn_ok 23 rfl) (h1) ?_
    refine ps_callV (M2 := mX8_heapEnd) (av := [.inl v1, .inl (v2 / (σ 50 0 20))]) (rest := [.inl ((v2 / (σ 50 0 20)) * (σ 50 0 20)), .inl (12 * v1), .inr (.inr (69, 0))]) (ps_at tX8_kindIn_ok 24 rfl) cvX8_191 sh_50 rfl rfl (fun _ => Nat.le_of_ble_eq_true rfl) (pX8_heapEnd (h2 c0) ?_)
    refine ps_iadd (ps_at tX8_kindIn_ok 25 rfl) ?_
    refine ps_iconst (x := 1) (ps_at tX8_kindIn_ok 26 rfl) (by decide) ?_
    refine ps_isub (ps_at tX8_kindIn_ok 27 rfl) ?_
    refine ps_iload_n (ps_at tX8_kindIn_ok 28 rfl) rfl rfl ?_
    refine ps_isub (ps_at tX8_kindIn_ok 29 rfl) ?_
    refine ps_iadd (ps_at tX8_kindIn_ok 30 rfl) ?_
    refine ps_iald (ps_at tX8_kindIn_ok 31 rfl) sh_69 (h3 c0) ?_
    exact ps_iret (ps_at tX8_kindIn_ok 32 rfl) rfl ⟨rfl, rfl⟩ (h4 c0)
  · skip
    refine ps_iload_n (ps_at tX8_kindIn_ok 15 rfl) rfl rfl ?_
    refine ps_goto (tgt := 47) (ps_at tX8_kindIn_ok 16 rfl) (by decide) ?_
    refine ps_iadd (ps_at tX8_kindIn_ok 30 rfl) ?_
    refine ps_iald (ps_at tX8_kindIn_ok 31 rfl) sh_69 (h5 c0) ?_
    exact ps_iret (ps_at tX8_kindIn_ok 32 rfl) rfl ⟨rfl, rfl⟩ (h6 c0)
theorem eX8_kindIn {d : Nat} {Q : Option ps_V → ps_S → Prop} {v1 : Int32} {v2 : Int32} {v3 : Int32} {σ : ps_S} (h : kX8_kindIn_0 d Q v1 v2 v3 σ) : ps_C mX8_kindIn (d + 1) [.inr (.inr (50, 0)), .inl v1, .inl v2, .inl v3] σ Q := ps_enter (by decide) rfl ⟨rfl, rfl, rfl⟩ rfl (Nat.le_of_ble_eq_true rfl) h
theorem pX8_kindIn {d : Nat} {Q : Option ps_V → ps_S → Prop} {v1 : Int32} {v2 : Int32} {v3 : Int32} {σ : ps_S} (h1 : ¬ (σ 50 0 20) = 0) (h2 : v3 = 0 → vp_in v1 6) (h3 : v3 = 0 → vp_in ((12 * v1) + (((((v2 / (σ 50 0 20)) * (σ 50 0 20)) + (jX8_heapEnd σ v1 (v2 / (σ 50 0 20)))) - 1) - v2)) 72) (h5 : ¬ v3 = 0 → vp_in ((12 * v1) + v2) 72) (hq : Q (some (.inl (jX8_kindIn σ v1 v2 v3))) σ) : ps_C mX8_kindIn (d + 1) [.inr (.inr (50, 0)), .inl v1, .inl v2, .inl v3] σ Q := eX8_kindIn (bX8_kindIn_0 h1 h2 h3 (fun c0 => by unfold jX8_kindIn at hq; rw [if_pos c0] at hq; exact hq) h5 (fun c0 => by unfold jX8_kindIn at hq; rw [if_neg c0] at hq; exact hq))
abbrev kX8_isMan_0 (d : Nat) (Q : Option ps_V → ps_S → Prop) (v1 : Int32) (σ : ps_S) : Prop := ps_K mX8_isMan (d + 1) (ps_QF Q) 0 [some (.inr (.inr (50, 0))), some (.inl v1)] [] σ
theorem bX8_isMan_0 {d : Nat} {Q : Option ps_V → ps_S → Prop} {v1 : Int32} {σ : ps_S} (h1 : Q (some (.inl (jbIn v1.toInt64 0 (((σ 50 0 21) - 1).toInt64)))) σ) : kX8_isMan_0 d Q v1 σ := by
  refine ps_iload_n (ps_at tX8_isMan_ok 0 rfl) rfl rfl ?_
  refine ps_i2l (ps_at tX8_isMan_ok 1 rfl) ?_
  refine ps_lconst (x := 0) (ps_at tX8_isMan_ok 2 rfl) (by decide) ?_
  refine ps_aload_n (ps_at tX8_isMan_ok 3 rfl) rfl rfl ?_
  refine ps_getI (ps_at tX8_isMan_ok 4 rfl) flX8_72 sh_50 rfl ?_
  refine ps_iconst (x := 1) (ps_at tX8_isMan_ok 5 rfl) (by decide) ?_
  refine ps_isub (ps_at tX8_isMan_ok 6 rfl) ?_
  refine ps_i2l (ps_at tX8_isMan_ok 7 rfl) ?_
  refine ps_callS (M2 := mX8_in) (av := [.inr (.inl v1.toInt64), .inr (.inl 0), .inr (.inl (((σ 50 0 21) - 1).toInt64))]) (rest := []) (ps_at tX8_isMan_ok 8 rfl) csX8_99 rfl rfl (fun _ => Nat.le_of_ble_eq_true rfl) (pX8_in ?_)
  exact ps_zret (ps_at tX8_isMan_ok 9 rfl) rfl ⟨rfl, rfl⟩ (ps_bitI _ _ _) (h1)
theorem eX8_isMan {d : Nat} {Q : Option ps_V → ps_S → Prop} {v1 : Int32} {σ : ps_S} (h : kX8_isMan_0 d Q v1 σ) : ps_C mX8_isMan (d + 1) [.inr (.inr (50, 0)), .inl v1] σ Q := ps_enter (by decide) rfl ⟨rfl, rfl, rfl⟩ rfl (Nat.le_of_ble_eq_true rfl) h
theorem pX8_isMan {d : Nat} {Q : Option ps_V → ps_S → Prop} {v1 : Int32} {σ : ps_S}  (hq : Q (some (.inl (jX8_isMan σ v1))) σ) : ps_C mX8_isMan (d + 1) [.inr (.inr (50, 0)), .inl v1] σ Q := eX8_isMan (bX8_isMan_0 (by unfold jX8_isMan at hq; exact hq))
theorem btX8_isMan (σ : ps_S) (v1 : Int32) : jX8_isMan σ v1 = 0 ∨ jX8_isMan σ v1 = 1 := by unfold jX8_isMan; first | exact ps_bitW _ _ | exact ps_bitI _ _ _ | (repeat (first | split | simp))
abbrev kX8_isPage_0 (d : Nat) (Q : Option ps_V → ps_S → Prop) (v1 : Int32) (σ : ps_S) : Prop := ps_K mX8_isPage (d + 1) (ps_QF Q) 0 [some (.inr (.inr (50, 0))), some (.inl v1)] [] σ
theorem bX8_isPage_0 {d : Nat} {Q : Option ps_V → ps_S → Prop} {v1 : Int32} {σ : ps_S} (h1 : Q (some (.inl (jbIn v1.toInt64 0 (((σ 50 0 22) - 1).toInt64)))) σ) : kX8_isPage_0 d Q v1 σ := by
  refine ps_iload_n (ps_at tX8_isPage_ok 0 rfl) rfl rfl ?_
  refine ps_i2l (ps_at tX8_isPage_ok 1 rfl) ?_
  refine ps_lconst (x := 0) (ps_at tX8_isPage_ok 2 rfl) (by decide) ?_
  refine ps_aload_n (ps_at tX8_isPage_ok 3 rfl) rfl rfl ?_
  refine ps_getI (ps_at tX8_isPage_ok 4 rfl) flX8_75 sh_50 rfl ?_
  refine ps_iconst (x := 1) (ps_at tX8_isPage_ok 5 rfl) (by decide) ?_
  refine ps_isub (ps_at tX8_isPage_ok 6 rfl) ?_
  refine ps_i2l (ps_at tX8_isPage_ok 7 rfl) ?_
  refine ps_callS (M2 := mX8_in) (av := [.inr (.inl v1.toInt64), .inr (.inl 0), .inr (.inl (((σ 50 0 22) - 1).toInt64))]) (rest := []) (ps_at tX8_isPage_ok 8 rfl) csX8_99 rfl rfl (fun _ => Nat.le_of_ble_eq_true rfl) (pX8_in ?_)
  exact ps_zret (ps_at tX8_isPage_ok 9 rfl) rfl ⟨rfl, rfl⟩ (ps_bitI _ _ _) (h1)
theorem eX8_isPage {d : Nat} {Q : Option ps_V → ps_S → Prop} {v1 : Int32} {σ : ps_S} (h : kX8_isPage_0 d Q v1 σ) : ps_C mX8_isPage (d + 1) [.inr (.inr (50, 0)), .inl v1] σ Q := ps_enter (by decide) rfl ⟨rfl, rfl, rfl⟩ rfl (Nat.le_of_ble_eq_true rfl) h
theorem pX8_isPage {d : Nat} {Q : Option ps_V → ps_S → Prop} {v1 : Int32} {σ : ps_S}  (hq : Q (some (.inl (jX8_isPage σ v1))) σ) : ps_C mX8_isPage (d + 1) [.inr (.inr (50, 0)), .inl v1] σ Q := eX8_isPage (bX8_isPage_0 (by unfold jX8_isPage at hq; exact hq))
theorem btX8_isPage (σ : ps_S) (v1 : Int32) : jX8_isPage σ v1 = 0 ∨ jX8_isPage σ v1 = 1 := by unfold jX8_isPage; first | exact ps_bitW _ _ | exact ps_bitI _ _ _ | (repeat (first | split | simp))
abbrev kX0_areAlike_0 (d : Nat) (Q : Option ps_V → ps_S → Prop) (i0 : Nat) (v1 : Int32) (v2 : Int32) (σ : ps_S) : Prop := ps_K mX0_areAlike (d + 1) (ps_QF Q) 0 [some (.inr (.inr (3, i0))), some (.inl v1), some (.inl v2), none] [] σ
abbrev kX0_areAlike_2 (d : Nat) (Q : Option ps_V → ps_S → Prop) (i0 : Nat) (v1 : Int32) (v2 : Int32) (v3 : Int32) (σ : ps_S) : Prop := ps_K mX0_areAlike (d + 1) (ps_QF Q) 2 [some (.inr (.inr (3, i0))), some (.inl v1), some (.inl v2), some (.inl v3)] [] σ
theorem bX0_areAlike_0 {d : Nat} {Q : Option ps_V → ps_S → Prop} {i0 : Nat} {v1 : Int32} {v2 : Int32} {σ : ps_S} (h1 : kX0_areAlike_2 d Q i0 v1 v2 0 σ) : kX0_areAlike_0 d Q i0 v1 v2 σ := by
  refine ps_iconst (x := 0) (ps_at tX0_areAlike_ok 0 rfl) (by decide) ?_
  refine ps_istore_n (L' := [some (.inr (.inr (3, i0))), some (.inl v1), some (.inl v2), some (.inl 0)]) (ps_at tX0_areAlike_ok 1 rfl) rfl (by decide) rfl ?_
  exact h1
theorem bX0_areAlike_2 {d : Nat} {Q : Option ps_V → ps_S → Prop} {i0 : Nat} {v1 : Int32} {v2 : Int32} {v3 : Int32} {σ : ps_S} (h1 : 6 ≤ v3 → Q (some (.inl 1)) σ) (h2 : ¬ 6 ≤ v3 → vp_in v1 9) (h3 : ¬ 6 ≤ v3 → vp_in v3 6) (h4 : ¬ 6 ≤ v3 → vp_in v2 9) (h5 : ¬ 6 ≤ v3 → (jbUn (σ 5 (9 * i0 + v1.toNatClampNeg) v3.toNatClampNeg) (σ 5 (9 * i0 + v2.toNatClampNeg) v3.toNatClampNeg)) = 0 → kX0_areAlike_2 d Q i0 v1 v2 (v3 + 1) σ) (h6 : ¬ 6 ≤ v3 → ¬ (jbUn (σ 5 (9 * i0 + v1.toNatClampNeg) v3.toNatClampNeg) (σ 5 (9 * i0 + v2.toNatClampNeg) v3.toNatClampNeg)) = 0 → Q (some (.inl 0)) σ) : kX0_areAlike_2 d Q i0 v1 v2 v3 σ := by
  refine ps_iload_n (ps_at tX0_areAlike_ok 2 rfl) rfl rfl ?_
  refine ps_bipush (x := 6) (ps_at tX0_areAlike_ok 3 rfl) (by decide) ?_
  refine ps_icmp_ge (tgt := 38) (ps_at tX0_areAlike_ok 4 rfl) (by decide) (fun c0 => ?_) (fun c0 => ?_)
  · skip
    refine ps_iconst (x := 1) (ps_at tX0_areAlike_ok 23 rfl) (by decide) ?_
    exact ps_zret (ps_at tX0_areAlike_ok 24 rfl) rfl ⟨rfl, rfl⟩ (Or.inr rfl) (h1 c0)
  · skip
    refine ps_aload_n (ps_at tX0_areAlike_ok 5 rfl) rfl rfl ?_
    refine ps_getR (ps_at tX0_areAlike_ok 6 rfl) flX0_11 sh_3 rfl ?_
    refine ps_iload_n (ps_at tX0_areAlike_ok 7 rfl) rfl rfl ?_
    refine ps_aald (ps_at tX0_areAlike_ok 8 rfl) sh_4 (Or.inl rfl) (h2 c0) ?_
    refine ps_iload_n (ps_at tX0_areAlike_ok 9 rfl) rfl rfl ?_
    refine ps_iald (ps_at tX0_areAlike_ok 10 rfl) sh_5 (h3 c0) ?_
    refine ps_aload_n (ps_at tX0_areAlike_ok 11 rfl) rfl rfl ?_
    refine ps_getR (ps_at tX0_areAlike_ok 12 rfl) flX0_11 sh_3 rfl ?_
    refine ps_iload_n (ps_at tX0_areAlike_ok 13 rfl) rfl rfl ?_
    refine ps_aald (ps_at tX0_areAlike_ok 14 rfl) sh_4 (Or.inl rfl) (h4 c0) ?_
    refine ps_iload_n (ps_at tX0_areAlike_ok 15 rfl) rfl rfl ?_
    refine ps_iald (ps_at tX0_areAlike_ok 16 rfl) sh_5 (h3 c0) ?_
    refine ps_callS (M2 := mX0_areUnlike) (av := [.inl (σ 5 (9 * i0 + v1.toNatClampNeg) v3.toNatClampNeg), .inl (σ 5 (9 * i0 + v2.toNatClampNeg) v3.toNatClampNeg)]) (rest := []) (ps_at tX0_areAlike_ok 17 rfl) csX0_46 rfl rfl (fun _ => Nat.le_of_ble_eq_true rfl) (pX0_areUnlike ?_)
    refine ps_if_eq (tgt := 32) (ps_at tX0_areAlike_ok 18 rfl) (by decide) (fun c1 => ?_) (fun c1 => ?_)
    · skip
      refine ps_iinc (L' := [some (.inr (.inr (3, i0))), some (.inl v1), some (.inl v2), some (.inl (v3 + 1))]) (y := 1) (ps_at tX0_areAlike_ok 21 rfl) rfl (by decide) (by decide) rfl ?_
      refine ps_goto (tgt := 2) (ps_at tX0_areAlike_ok 22 rfl) (by decide) ?_
      exact h5 c0 c1
    · skip
      refine ps_iconst (x := 0) (ps_at tX0_areAlike_ok 19 rfl) (by decide) ?_
      exact ps_zret (ps_at tX0_areAlike_ok 20 rfl) rfl ⟨rfl, rfl⟩ (Or.inl rfl) (h6 c0 c1)
theorem eX0_areAlike {d : Nat} {Q : Option ps_V → ps_S → Prop} {i0 : Nat} {v1 : Int32} {v2 : Int32} {σ : ps_S} (h : kX0_areAlike_0 d Q i0 v1 v2 σ) : ps_C mX0_areAlike (d + 1) [.inr (.inr (3, i0)), .inl v1, .inl v2] σ Q := ps_enter (by decide) rfl ⟨rfl, rfl, rfl⟩ rfl (Nat.le_of_ble_eq_true rfl) h
theorem pX0_areAlike {d : Nat} {Q : Option ps_V → ps_S → Prop} {i0 : Nat} {v1 v2 : Int32} {σ : ps_S} (o1 : vp_in v1 9) (o2 : vp_in v2 9) (hq : Q (some (.inl (jbP (sAlk σ i0 v1.toNatClampNeg v2.toNatClampNeg)))) σ) : ps_C mX0_areAlike (d + 1) [.inr (.inr (3, i0)), .inl v1, .inl v2] σ Q := by
  have key : ∀ r j, j + r = 6 → (∀ p, p < j → jbUn (σ 5 (9 * i0 + v1.toNatClampNeg) p) (σ 5 (9 * i0 + v2.toNatClampNeg) p) = 0) → kX0_areAlike_2 d Q i0 v1 v2 (nI j) σ := by
    intro r
    induction r with
    | zero =>
      intro j hj hall
      obtain rfl : j = 6 := by omega
      refine bX0_areAlike_2 (fun _ => ?_) (lpX (N := 6) (by decide)) (lpX (N := 6) (by decide)) (lpX (N := 6) (by decide)) (lpX (N := 6) (by decide)) (lpX (N := 6) (by decide))
      rw [jbP_t (show sAlk σ i0 v1.toNatClampNeg v2.toNatClampNeg from hall)] at hq
      exact hq
    | succ r ih =>
      intro j hj hall
      have hj0 : j < 6 := by omega
      have hjc : (nI j).toNatClampNeg = j := nI_clamp (by omega)
      refine bX0_areAlike_2 (lpN (N := 6) hj0 (by decide)) (fun _ => o1) (fun _ => vp_in_nI hj0 (by decide)) (fun _ => o2) (fun _ c => ?_) (fun _ c => ?_)
      · rw [hjc] at c
        rw [nI_1]
        refine ih (j + 1) (by omega) (fun p hp => ?_)
        rcases Nat.lt_or_eq_of_le (Nat.le_of_lt_succ hp) with h | h
        · exact hall p h
        · subst h; exact c
      · rw [hjc] at c
        rw [jbP_f (show ¬ sAlk σ i0 v1.toNatClampNeg v2.toNatClampNeg from fun h => c (h j hj0))] at hq
        exact hq
  exact eX0_areAlike (bX0_areAlike_0 (key 6 0 rfl (fun p h => absurd h (Nat.not_lt_zero p))))
abbrev kX0_copiesLookedAt_0 (d : Nat) (Q : Option ps_V → ps_S → Prop) (i0 : Nat) (σ : ps_S) : Prop := ps_K mX0_copiesLookedAt d (ps_QF Q) 0 [some (.inr (.inr (3, i0))), none, none, none] [] σ
abbrev kX0_copiesLookedAt_4 (d : Nat) (Q : Option ps_V → ps_S → Prop) (i0 : Nat) (v1 : Int32) (v2 : Int32) (σ : ps_S) : Prop := ps_K mX0_copiesLookedAt d (ps_QF Q) 4 [some (.inr (.inr (3, i0))), some (.inl v1), some (.inl v2), none] [] σ
abbrev kX0_copiesLookedAt_12 (d : Nat) (Q : Option ps_V → ps_S → Prop) (i0 : Nat) (v1 : Int32) (v2 : Int32) (v3 : Int32) (σ : ps_S) : Prop := ps_K mX0_copiesLookedAt d (ps_QF Q) 12 [some (.inr (.inr (3, i0))), some (.inl v1), some (.inl v2), some (.inl v3)] [] σ
theorem bX0_copiesLookedAt_0 {d : Nat} {Q : Option ps_V → ps_S → Prop} {i0 : Nat} {σ : ps_S} (h1 : kX0_copiesLookedAt_4 d Q i0 0 0 σ) : kX0_copiesLookedAt_0 d Q i0 σ := by
  refine ps_iconst (x := 0) (ps_at tX0_copiesLookedAt_ok 0 rfl) (by decide) ?_
  refine ps_istore_n (L' := [some (.inr (.inr (3, i0))), some (.inl 0), none, none]) (ps_at tX0_copiesLookedAt_ok 1 rfl) rfl (by decide) rfl ?_
  refine ps_iconst (x := 0) (ps_at tX0_copiesLookedAt_ok 2 rfl) (by decide) ?_
  refine ps_istore_n (L' := [some (.inr (.inr (3, i0))), some (.inl 0), some (.inl 0), none]) (ps_at tX0_copiesLookedAt_ok 3 rfl) rfl (by decide) rfl ?_
  exact h1
theorem bX0_copiesLookedAt_4 {d : Nat} {Q : Option ps_V → ps_S → Prop} {i0 : Nat} {v1 : Int32} {v2 : Int32} {σ : ps_S} (h1 : 9 ≤ v2 → Q (some (.inl v1)) σ) (h2 : ¬ 9 ≤ v2 → kX0_copiesLookedAt_12 d Q i0 v1 v2 0 σ) : kX0_copiesLookedAt_4 d Q i0 v1 v2 σ := by
  refine ps_iload_n (ps_at tX0_copiesLookedAt_ok 4 rfl) rfl rfl ?_
  refine ps_bipush (x := 9) (ps_at tX0_copiesLookedAt_ok 5 rfl) (by decide) ?_
  refine ps_icmp_ge (tgt := 49) (ps_at tX0_copiesLookedAt_ok 6 rfl) (by decide) (fun c0 => ?_) (fun c0 => ?_)
  · skip
    refine ps_iload_n (ps_at tX0_copiesLookedAt_ok 30 rfl) rfl rfl ?_
    exact ps_iret (ps_at tX0_copiesLookedAt_ok 31 rfl) rfl ⟨rfl, rfl⟩ (h1 c0)
  · skip
    refine ps_iconst (x := 0) (ps_at tX0_copiesLookedAt_ok 7 rfl) (by decide) ?_
    refine ps_istore_n (L' := [some (.inr (.inr (3, i0))), some (.inl v1), some (.inl v2), some (.inl 0)]) (ps_at tX0_copiesLookedAt_ok 8 rfl) rfl (by decide) rfl ?_
    exact h2 c0
theorem bX0_copiesLookedAt_12 {d : Nat} {Q : Option ps_V → ps_S → Prop} {i0 : Nat} {v1 : Int32} {v2 : Int32} {v3 : Int32} {σ : ps_S} (h1 : 6 ≤ v3 → kX0_copiesLookedAt_4 d Q i0 v1 (v2 + 1) σ) (h2 : ¬ 6 ≤ v3 → vp_in v2 9) (h3 : ¬ 6 ≤ v3 → vp_in v3 6) (h4 : ¬ 6 ≤ v3 → (σ 5 (9 * i0 + v2.toNatClampNeg) v3.toNatClampNeg) = (-900009) → kX0_copiesLookedAt_12 d Q i0 v1 v2 (v3 + 1) σ) (h5 : ¬ 6 ≤ v3 → ¬ (σ 5 (9 * i0 + v2.toNatClampNeg) v3.toNatClampNeg) = (-900009) → kX0_copiesLookedAt_12 d Q i0 (v1 ||| ((1 : Int32) <<< (v2 &&& 31))) v2 (v3 + 1) σ) : kX0_copiesLookedAt_12 d Q i0 v1 v2 v3 σ := by
  refine ps_iload_n (ps_at tX0_copiesLookedAt_ok 9 rfl) rfl rfl ?_
  refine ps_bipush (x := 6) (ps_at tX0_copiesLookedAt_ok 10 rfl) (by decide) ?_
  refine ps_icmp_ge (tgt := 43) (ps_at tX0_copiesLookedAt_ok 11 rfl) (by decide) (fun c0 => ?_) (fun c0 => ?_)
  · skip
    refine ps_iinc (L' := [some (.inr (.inr (3, i0))), some (.inl v1), some (.inl (v2 + 1)), some (.inl v3)]) (y := 1) (ps_at tX0_copiesLookedAt_ok 28 rfl) rfl (by decide) (by decide) rfl ?_
    refine ps_goto (tgt := 4) (ps_at tX0_copiesLookedAt_ok 29 rfl) (by decide) ?_
    refine ps_forget (L' := [some (.inr (.inr (3, i0))), some (.inl v1), some (.inl (v2 + 1)), none]) (And.intro rfl (And.intro rfl (And.intro rfl trivial))) ?_
    exact h1 c0
  · skip
    refine ps_aload_n (ps_at tX0_copiesLookedAt_ok 12 rfl) rfl rfl ?_
    refine ps_getR (ps_at tX0_copiesLookedAt_ok 13 rfl) flX0_11 sh_3 rfl ?_
    refine ps_iload_n (ps_at tX0_copiesLookedAt_ok 14 rfl) rfl rfl ?_
    refine ps_aald (ps_at tX0_copiesLookedAt_ok 15 rfl) sh_4 (Or.inl rfl) (h2 c0) ?_
    refine ps_iload_n (ps_at tX0_copiesLookedAt_ok 16 rfl) rfl rfl ?_
    refine ps_iald (ps_at tX0_copiesLookedAt_ok 17 rfl) sh_5 (h3 c0) ?_
    refine ps_ldc (ps_at tX0_copiesLookedAt_ok 18 rfl) cnX0_32 ?_
    refine ps_icmp_eq (tgt := 37) (ps_at tX0_copiesLookedAt_ok 19 rfl) (by decide) (fun c1 => ?_) (fun c1 => ?_)
    · skip
      refine ps_iinc (L' := [some (.inr (.inr (3, i0))), some (.inl v1), some (.inl v2), some (.inl (v3 + 1))]) (y := 1) (ps_at tX0_copiesLookedAt_ok 26 rfl) rfl (by decide) (by decide) rfl ?_
      refine ps_goto (tgt := 12) (ps_at tX0_copiesLookedAt_ok 27 rfl) (by decide) ?_
      exact h4 c0 c1
    · skip
      refine ps_iload_n (ps_at tX0_copiesLookedAt_ok 20 rfl) rfl rfl ?_
      refine ps_iconst (x := 1) (ps_at tX0_copiesLookedAt_ok 21 rfl) (by decide) ?_
      refine ps_iload_n (ps_at tX0_copiesLookedAt_ok 22 rfl) rfl rfl ?_
      refine ps_ishl (ps_at tX0_copiesLookedAt_ok 23 rfl) ?_
      refine ps_ior (ps_at tX0_copiesLookedAt_ok 24 rfl) ?_
      refine ps_istore_n (L' := [some (.inr (.inr (3, i0))), some (.inl (v1 ||| ((1 : Int32) <<< (v2 &&& 31)))), some (.inl v2), some (.inl v3)]) (ps_at tX0_copiesLookedAt_ok 25 rfl) rfl (by decide) rfl ?_
      refine ps_iinc (L' := [some (.inr (.inr (3, i0))), some (.inl (v1 ||| ((1 : Int32) <<< (v2 &&& 31)))), some (.inl v2), some (.inl (v3 + 1))]) (y := 1) (ps_at tX0_copiesLookedAt_ok 26 rfl) rfl (by decide) (by decide) rfl ?_
      refine ps_goto (tgt := 12) (ps_at tX0_copiesLookedAt_ok 27 rfl) (by decide) ?_
      exact h5 c0 c1
theorem eX0_copiesLookedAt {d : Nat} {Q : Option ps_V → ps_S → Prop} {i0 : Nat} {σ : ps_S} (h : kX0_copiesLookedAt_0 d Q i0 σ) : ps_C mX0_copiesLookedAt d [.inr (.inr (3, i0))] σ Q := ps_enter (by decide) rfl ⟨rfl, rfl, rfl⟩ rfl (Nat.le_of_ble_eq_true rfl) h
theorem pX0_copiesLookedAt {d : Nat} {Q : Option ps_V → ps_S → Prop} {i0 : Nat} {σ : ps_S}  (hq : Q (some (.inl (nI (mkN 9 (sLk σ i0))))) σ) : ps_C mX0_copiesLookedAt d [.inr (.inr (3, i0))] σ Q := by
  have inner : ∀ c, c < 9 → ∀ r j acc, j + r = 6 → ((∃ p, j ≤ p ∧ p < 6 ∧ ¬ σ 5 (9 * i0 + c) p = -900009) → kX0_copiesLookedAt_4 d Q i0 (acc ||| ((1 : Int32) <<< (nI c &&& 31))) (nI c + 1) σ) → ((¬ ∃ p, j ≤ p ∧ p < 6 ∧ ¬ σ 5 (9 * i0 + c) p = -900009) → kX0_copiesLookedAt_4 d Q i0 acc (nI c + 1) σ) → kX0_copiesLookedAt_12 d Q i0 acc (nI c) (nI j) σ := by
    intro c hc r
    have hcc : (nI c).toNatClampNeg = c := nI_clamp (by omega)
    induction r with
    | zero =>
      intro j acc hj h1 h2
      obtain rfl : j = 6 := by omega
      exact bX0_copiesLookedAt_12 (fun _ => h2 (fun ⟨p, a, b, _⟩ => by omega)) (lpX (N := 6) (by decide)) (lpX (N := 6) (by decide)) (lpX (N := 6) (by decide)) (lpX (N := 6) (by decide))
    | succ r ih =>
      intro j acc hj h1 h2
      have hj0 : j < 6 := by omega
      have hjc : (nI j).toNatClampNeg = j := nI_clamp (by omega)
      refine bX0_copiesLookedAt_12 (lpN (N := 6) hj0 (by decide)) (fun _ => vp_in_nI hc (by decide)) (fun _ => vp_in_nI hj0 (by decide)) (fun _ e => ?_) (fun _ e => ?_)
      · rw [hcc, hjc] at e
        rw [nI_1]
        refine ih (j + 1) acc (by omega) (fun ⟨p, a, b, h⟩ => h1 ⟨p, by omega, b, h⟩) (fun h => h2 (fun ⟨p, a, b, h3⟩ => ?_))
        rcases Nat.lt_or_eq_of_le a with q | q
        · exact h ⟨p, q, b, h3⟩
        · subst q; exact h3 e
      · rw [hcc, hjc] at e
        rw [nI_1]
        have h3 := h1 ⟨j, Nat.le_refl _, hj0, e⟩
        refine ih (j + 1) _ (by omega) (fun _ => ?_) (fun _ => h3)
        rw [Int32.or_assoc, Int32.or_self]
        exact h3
  have key : ∀ r j, j + r = 9 → kX0_copiesLookedAt_4 d Q i0 (nI (mkN j (sLk σ i0))) (nI j) σ := by
    intro r
    induction r with
    | zero =>
      intro j hj
      obtain rfl : j = 9 := by omega
      exact bX0_copiesLookedAt_4 (fun _ => hq) (lpX (N := 9) (by decide))
    | succ r ih =>
      intro j hj
      have hj0 : j < 9 := by omega
      refine bX0_copiesLookedAt_4 (lpN (N := 9) hj0 (by decide)) (fun _ => inner j hj0 6 0 _ rfl (fun ⟨p, _, b, h⟩ => ?_) (fun h => ?_))
      · rw [nI_1, mk_t (by omega) (show sLk σ i0 j from ⟨p, b, h⟩)]
        exact ih (j + 1) (by omega)
      · rw [nI_1, mk_f (show ¬ sLk σ i0 j from fun ⟨p, b, h2⟩ => h ⟨p, Nat.zero_le _, b, h2⟩)]
        exact ih (j + 1) (by omega)
  exact eX0_copiesLookedAt (bX0_copiesLookedAt_0 (key 9 0 rfl))
abbrev kX0_unlikeCopies_0 (d : Nat) (Q : Option ps_V → ps_S → Prop) (i0 : Nat) (v1 : Int32) (σ : ps_S) : Prop := ps_K mX0_unlikeCopies (d + 2) (ps_QF Q) 0 [some (.inr (.inr (3, i0))), some (.inl v1), none, none] [] σ
abbrev kX0_unlikeCopies_4 (d : Nat) (Q : Option ps_V → ps_S → Prop) (i0 : Nat) (v1 : Int32) (v2 : Int32) (v3 : Int32) (σ : ps_S) : Prop := ps_K mX0_unlikeCopies (d + 2) (ps_QF Q) 4 [some (.inr (.inr (3, i0))), some (.inl v1), some (.inl v2), some (.inl v3)] [] σ
theorem bX0_unlikeCopies_0 {d : Nat} {Q : Option ps_V → ps_S → Prop} {i0 : Nat} {v1 : Int32} {σ : ps_S} (h1 : kX0_unlikeCopies_4 d Q i0 v1 0 0 σ) : kX0_unlikeCopies_0 d Q i0 v1 σ := by
  refine ps_iconst (x := 0) (ps_at tX0_unlikeCopies_ok 0 rfl) (by decide) ?_
  refine ps_istore_n (L' := [some (.inr (.inr (3, i0))), some (.inl v1), some (.inl 0), none]) (ps_at tX0_unlikeCopies_ok 1 rfl) rfl (by decide) rfl ?_
  refine ps_iconst (x := 0) (ps_at tX0_unlikeCopies_ok 2 rfl) (by decide) ?_
  refine ps_istore_n (L' := [some (.inr (.inr (3, i0))), some (.inl v1), some (.inl 0), some (.inl 0)]) (ps_at tX0_unlikeCopies_ok 3 rfl) rfl (by decide) rfl ?_
  exact h1
theorem bX0_unlikeCopies_4 {d : Nat} {Q : Option ps_V → ps_S → Prop} {i0 : Nat} {v1 : Int32} {v2 : Int32} {v3 : Int32} {σ : ps_S} (h1 : 9 ≤ v3 → Q (some (.inl v2)) σ) (h2 : ¬ 9 ≤ v3 → vp_in v1 9) (h3 : ¬ 9 ≤ v3 → vp_in v3 9) (h4 : ¬ 9 ≤ v3 → ¬ (jbP (sAlk σ i0 v1.toNatClampNeg v3.toNatClampNeg)) = 0 → kX0_unlikeCopies_4 d Q i0 v1 v2 (v3 + 1) σ) (h5 : ¬ 9 ≤ v3 → (jbP (sAlk σ i0 v1.toNatClampNeg v3.toNatClampNeg)) = 0 → kX0_unlikeCopies_4 d Q i0 v1 (v2 ||| ((1 : Int32) <<< (v3 &&& 31))) (v3 + 1) σ) : kX0_unlikeCopies_4 d Q i0 v1 v2 v3 σ := by
  refine ps_iload_n (ps_at tX0_unlikeCopies_ok 4 rfl) rfl rfl ?_
  refine ps_bipush (x := 9) (ps_at tX0_unlikeCopies_ok 5 rfl) (by decide) ?_
  refine ps_icmp_ge (tgt := 31) (ps_at tX0_unlikeCopies_ok 6 rfl) (by decide) (fun c0 => ?_) (fun c0 => ?_)
  · skip
    refine ps_iload_n (ps_at tX0_unlikeCopies_ok 20 rfl) rfl rfl ?_
    exact ps_iret (ps_at tX0_unlikeCopies_ok 21 rfl) rfl ⟨rfl, rfl⟩ (h1 c0)
  · skip
    refine ps_aload_n (ps_at tX0_unlikeCopies_ok 7 rfl) rfl rfl ?_
    refine ps_iload_n (ps_at tX0_unlikeCopies_ok 8 rfl) rfl rfl ?_
    refine ps_iload_n (ps_at tX0_unlikeCopies_ok 9 rfl) rfl rfl ?_
    refine ps_callV (M2 := mX0_areAlike) (av := [.inl v1, .inl v3]) (rest := []) (ps_at tX0_unlikeCopies_ok 10 rfl) cvX0_68 sh_3 rfl rfl (fun _ => Nat.le_of_ble_eq_true rfl) (pX0_areAlike (h2 c0) (h3 c0) ?_)
    refine ps_if_ne (tgt := 25) (ps_at tX0_unlikeCopies_ok 11 rfl) (by decide) (fun c1 => ?_) (fun c1 => ?_)
    · skip
      refine ps_iinc (L' := [some (.inr (.inr (3, i0))), some (.inl v1), some (.inl v2), some (.inl (v3 + 1))]) (y := 1) (ps_at tX0_unlikeCopies_ok 18 rfl) rfl (by decide) (by decide) rfl ?_
      refine ps_goto (tgt := 4) (ps_at tX0_unlikeCopies_ok 19 rfl) (by decide) ?_
      exact h4 c0 c1
    · skip
      refine ps_iload_n (ps_at tX0_unlikeCopies_ok 12 rfl) rfl rfl ?_
      refine ps_iconst (x := 1) (ps_at tX0_unlikeCopies_ok 13 rfl) (by decide) ?_
      refine ps_iload_n (ps_at tX0_unlikeCopies_ok 14 rfl) rfl rfl ?_
      refine ps_ishl (ps_at tX0_unlikeCopies_ok 15 rfl) ?_
      refine ps_ior (ps_at tX0_unlikeCopies_ok 16 rfl) ?_
      refine ps_istore_n (L' := [some (.inr (.inr (3, i0))), some (.inl v1), some (.inl (v2 ||| ((1 : Int32) <<< (v3 &&& 31)))), some (.inl v3)]) (ps_at tX0_unlikeCopies_ok 17 rfl) rfl (by decide) rfl ?_
      refine ps_iinc (L' := [some (.inr (.inr (3, i0))), some (.inl v1), some (.inl (v2 ||| ((1 : Int32) <<< (v3 &&& 31)))), some (.inl (v3 + 1))]) (y := 1) (ps_at tX0_unlikeCopies_ok 18 rfl) rfl (by decide) (by decide) rfl ?_
      refine ps_goto (tgt := 4) (ps_at tX0_unlikeCopies_ok 19 rfl) (by decide) ?_
      exact h5 c0 c1
theorem eX0_unlikeCopies {d : Nat} {Q : Option ps_V → ps_S → Prop} {i0 : Nat} {v1 : Int32} {σ : ps_S} (h : kX0_unlikeCopies_0 d Q i0 v1 σ) : ps_C mX0_unlikeCopies (d + 2) [.inr (.inr (3, i0)), .inl v1] σ Q := ps_enter (by decide) rfl ⟨rfl, rfl, rfl⟩ rfl (Nat.le_of_ble_eq_true rfl) h
theorem pX0_unlikeCopies {d : Nat} {Q : Option ps_V → ps_S → Prop} {i0 : Nat} {v1 : Int32} {σ : ps_S} (o1 : vp_in v1 9) (hq : Q (some (.inl (nI (mkN 9 (fun b => ¬ sAlk σ i0 v1.toNatClampNeg b))))) σ) : ps_C mX0_unlikeCopies (d + 2) [.inr (.inr (3, i0)), .inl v1] σ Q := by
  have key : ∀ r j, j + r = 9 → kX0_unlikeCopies_4 d Q i0 v1 (nI (mkN j (fun b => ¬ sAlk σ i0 v1.toNatClampNeg b))) (nI j) σ := by
    intro r
    induction r with
    | zero =>
      intro j hj
      obtain rfl : j = 9 := by omega
      exact bX0_unlikeCopies_4 (fun _ => hq) (lpX (N := 9) (by decide)) (lpX (N := 9) (by decide)) (lpX (N := 9) (by decide)) (lpX (N := 9) (by decide))
    | succ r ih =>
      intro j hj
      have hj0 : j < 9 := by omega
      have hjc : (nI j).toNatClampNeg = j := nI_clamp (by omega)
      refine bX0_unlikeCopies_4 (lpN (N := 9) hj0 (by decide)) (fun _ => o1) (fun _ => vp_in_nI hj0 (by decide)) (fun _ c => ?_) (fun _ c => ?_)
      · rw [hjc, jbP_0] at c
        rw [nI_1, mk_f (P := fun b => ¬ sAlk σ i0 v1.toNatClampNeg b) c]
        exact ih (j + 1) (by omega)
      · rw [hjc, jbP_0] at c
        rw [nI_1, mk_t (P := fun b => ¬ sAlk σ i0 v1.toNatClampNeg b) (by omega) c]
        exact ih (j + 1) (by omega)
  exact eX0_unlikeCopies (bX0_unlikeCopies_0 (key 9 0 rfl))
abbrev kX0_groupLetter_0 (d : Nat) (Q : Option ps_V → ps_S → Prop) (i0 : Nat) (v1 : Int32) (v2 : Int32) (σ : ps_S) : Prop := ps_K mX0_groupLetter d (ps_QF Q) 0 [some (.inr (.inr (3, i0))), some (.inl v1), some (.inl v2), none] [] σ
abbrev kX0_groupLetter_2 (d : Nat) (Q : Option ps_V → ps_S → Prop) (i0 : Nat) (v1 : Int32) (v2 : Int32) (v3 : Int32) (σ : ps_S) : Prop := ps_K mX0_groupLetter d (ps_QF Q) 2 [some (.inr (.inr (3, i0))), some (.inl v1), some (.inl v2), some (.inl v3)] [] σ
theorem bX0_groupLetter_0 {d : Nat} {Q : Option ps_V → ps_S → Prop} {i0 : Nat} {v1 : Int32} {v2 : Int32} {σ : ps_S} (h1 : kX0_groupLetter_2 d Q i0 v1 v2 0 σ) : kX0_groupLetter_0 d Q i0 v1 v2 σ := by
  refine ps_iconst (x := 0) (ps_at tX0_groupLetter_ok 0 rfl) (by decide) ?_
  refine ps_istore_n (L' := [some (.inr (.inr (3, i0))), some (.inl v1), some (.inl v2), some (.inl 0)]) (ps_at tX0_groupLetter_ok 1 rfl) rfl (by decide) rfl ?_
  exact h1
theorem bX0_groupLetter_2 {d : Nat} {Q : Option ps_V → ps_S → Prop} {i0 : Nat} {v1 : Int32} {v2 : Int32} {v3 : Int32} {σ : ps_S} (h1 : 9 ≤ v3 → Q (some (.inl (-900009))) σ) (h2 : ¬ 9 ≤ v3 → vp_in v3 9) (h3 : ¬ 9 ≤ v3 → ¬ (σ 9 i0 v3.toNatClampNeg) = v1 → kX0_groupLetter_2 d Q i0 v1 v2 (v3 + 1) σ) (h4 : ¬ 9 ≤ v3 → (σ 9 i0 v3.toNatClampNeg) = v1 → vp_in v2 6) (h5 : ¬ 9 ≤ v3 → (σ 9 i0 v3.toNatClampNeg) = v1 → (σ 5 (9 * i0 + v3.toNatClampNeg) v2.toNatClampNeg) = (-900009) → kX0_groupLetter_2 d Q i0 v1 v2 (v3 + 1) σ) (h6 : ¬ 9 ≤ v3 → (σ 9 i0 v3.toNatClampNeg) = v1 → ¬ (σ 5 (9 * i0 + v3.toNatClampNeg) v2.toNatClampNeg) = (-900009) → Q (some (.inl (σ 5 (9 * i0 + v3.toNatClampNeg) v2.toNatClampNeg))) σ) : kX0_groupLetter_2 d Q i0 v1 v2 v3 σ := by
  refine ps_iload_n (ps_at tX0_groupLetter_ok 2 rfl) rfl rfl ?_
  refine ps_bipush (x := 9) (ps_at tX0_groupLetter_ok 3 rfl) (by decide) ?_
  refine ps_icmp_ge (tgt := 46) (ps_at tX0_groupLetter_ok 4 rfl) (by decide) (fun c0 => ?_) (fun c0 => ?_)
  · skip
    refine ps_ldc (ps_at tX0_groupLetter_ok 28 rfl) cnX0_32 ?_
    exact ps_iret (ps_at tX0_groupLetter_ok 29 rfl) rfl ⟨rfl, rfl⟩ (h1 c0)
  · skip
    refine ps_aload_n (ps_at tX0_groupLetter_ok 5 rfl) rfl rfl ?_
    refine ps_getR (ps_at tX0_groupLetter_ok 6 rfl) flX0_26 sh_3 rfl ?_
    refine ps_iload_n (ps_at tX0_groupLetter_ok 7 rfl) rfl rfl ?_
    refine ps_iald (ps_at tX0_groupLetter_ok 8 rfl) sh_9 (h2 c0) ?_
    refine ps_iload_n (ps_at tX0_groupLetter_ok 9 rfl) rfl rfl ?_
    refine ps_icmp_ne (tgt := 40) (ps_at tX0_groupLetter_ok 10 rfl) (by decide) (fun c1 => ?_) (fun c1 => ?_)
    · skip
      refine ps_iinc (L' := [some (.inr (.inr (3, i0))), some (.inl v1), some (.inl v2), some (.inl (v3 + 1))]) (y := 1) (ps_at tX0_groupLetter_ok 26 rfl) rfl (by decide) (by decide) rfl ?_
      refine ps_goto (tgt := 2) (ps_at tX0_groupLetter_ok 27 rfl) (by decide) ?_
      exact h3 c0 c1
    · skip
      refine ps_aload_n (ps_at tX0_groupLetter_ok 11 rfl) rfl rfl ?_
      refine ps_getR (ps_at tX0_groupLetter_ok 12 rfl) flX0_11 sh_3 rfl ?_
      refine ps_iload_n (ps_at tX0_groupLetter_ok 13 rfl) rfl rfl ?_
      refine ps_aald (ps_at tX0_groupLetter_ok 14 rfl) sh_4 (Or.inl rfl) (h2 c0) ?_
      refine ps_iload_n (ps_at tX0_groupLetter_ok 15 rfl) rfl rfl ?_
      refine ps_iald (ps_at tX0_groupLetter_ok 16 rfl) sh_5 (h4 c0 c1) ?_
      refine ps_ldc (ps_at tX0_groupLetter_ok 17 rfl) cnX0_32 ?_
      refine ps_icmp_eq (tgt := 40) (ps_at tX0_groupLetter_ok 18 rfl) (by decide) (fun c2 => ?_) (fun c2 => ?_)
      · skip
        refine ps_iinc (L' := [some (.inr (.inr (3, i0))), some (.inl v1), some (.inl v2), some (.inl (v3 + 1))]) (y := 1) (ps_at tX0_groupLetter_ok 26 rfl) rfl (by decide) (by decide) rfl ?_
        refine ps_goto (tgt := 2) (ps_at tX0_groupLetter_ok 27 rfl) (by decide) ?_
        exact h5 c0 c1 c2
      · skip
        refine ps_aload_n (ps_at tX0_groupLetter_ok 19 rfl) rfl rfl ?_
        refine ps_getR (ps_at tX0_groupLetter_ok 20 rfl) flX0_11 sh_3 rfl ?_
        refine ps_iload_n (ps_at tX0_groupLetter_ok 21 rfl) rfl rfl ?_
        refine ps_aald (ps_at tX0_groupLetter_ok 22 rfl) sh_4 (Or.inl rfl) (h2 c0) ?_
        refine ps_iload_n (ps_at tX0_groupLetter_ok 23 rfl) rfl rfl ?_
        refine ps_iald (ps_at tX0_groupLetter_ok 24 rfl) sh_5 (h4 c0 c1) ?_
        exact ps_iret (ps_at tX0_groupLetter_ok 25 rfl) rfl ⟨rfl, rfl⟩ (h6 c0 c1 c2)
theorem eX0_groupLetter {d : Nat} {Q : Option ps_V → ps_S → Prop} {i0 : Nat} {v1 : Int32} {v2 : Int32} {σ : ps_S} (h : kX0_groupLetter_0 d Q i0 v1 v2 σ) : ps_C mX0_groupLetter d [.inr (.inr (3, i0)), .inl v1, .inl v2] σ Q := ps_enter (by decide) rfl ⟨rfl, rfl, rfl⟩ rfl (Nat.le_of_ble_eq_true rfl) h
theorem pX0_groupLetter {d : Nat} {Q : Option ps_V → ps_S → Prop} {i0 : Nat} {v1 v2 : Int32} {σ : ps_S} (o1 : vp_in v2 6) (hq : Q (some (.inl (sGl σ i0 v1 v2.toNatClampNeg))) σ) : ps_C mX0_groupLetter d [.inr (.inr (3, i0)), .inl v1, .inl v2] σ Q := by
  have key : ∀ r j, j + r = 9 → Q (some (.inl (match fstN r j (fun c => σ 9 i0 c = v1 ∧ ¬ σ 5 (9 * i0 + c) v2.toNatClampNeg = -900009) with | some c => σ 5 (9 * i0 + c) v2.toNatClampNeg | none => -900009))) σ → kX0_groupLetter_2 d Q i0 v1 v2 (nI j) σ := by
    intro r
    induction r with
    | zero =>
      intro j hj hh
      obtain rfl : j = 9 := by omega
      exact bX0_groupLetter_2 (fun _ => hh) (lpX (N := 9) (by decide)) (lpX (N := 9) (by decide)) (lpX (N := 9) (by decide)) (lpX (N := 9) (by decide)) (lpX (N := 9) (by decide))
    | succ r ih =>
      intro j hj hh
      have hj0 : j < 9 := by omega
      have hjc : (nI j).toNatClampNeg = j := nI_clamp (by omega)
      refine bX0_groupLetter_2 (lpN (N := 9) hj0 (by decide)) (fun _ => vp_in_nI hj0 (by decide)) (fun _ c => ?_) (fun _ _ => o1) (fun _ c c2 => ?_) (fun _ c c2 => ?_)
      · rw [hjc] at c
        rw [fst_f (fun h => c h.1)] at hh
        rw [nI_1]
        exact ih (j + 1) (by omega) hh
      · rw [hjc] at c c2
        rw [fst_f (fun h => h.2 c2)] at hh
        rw [nI_1]
        exact ih (j + 1) (by omega) hh
      · rw [hjc] at c c2 ⊢
        rw [fst_t ⟨c, c2⟩] at hh
        exact hh
  exact eX0_groupLetter (bX0_groupLetter_0 (key 9 0 rfl hq))
abbrev kX0_unlikePlaces_0 (d : Nat) (Q : Option ps_V → ps_S → Prop) (i0 : Nat) (v1 : Int32) (v2 : Int32) (σ : ps_S) : Prop := ps_K mX0_unlikePlaces (d + 1) (ps_QF Q) 0 [some (.inr (.inr (3, i0))), some (.inl v1), some (.inl v2), none, none] [] σ
abbrev kX0_unlikePlaces_5 (d : Nat) (Q : Option ps_V → ps_S → Prop) (i0 : Nat) (v1 : Int32) (v2 : Int32) (v3 : Int32) (v4 : Int32) (σ : ps_S) : Prop := ps_K mX0_unlikePlaces (d + 1) (ps_QF Q) 5 [some (.inr (.inr (3, i0))), some (.inl v1), some (.inl v2), some (.inl v3), some (.inl v4)] [] σ
theorem bX0_unlikePlaces_0 {d : Nat} {Q : Option ps_V → ps_S → Prop} {i0 : Nat} {v1 : Int32} {v2 : Int32} {σ : ps_S} (h1 : kX0_unlikePlaces_5 d Q i0 v1 v2 0 0 σ) : kX0_unlikePlaces_0 d Q i0 v1 v2 σ := by
  refine ps_iconst (x := 0) (ps_at tX0_unlikePlaces_ok 0 rfl) (by decide) ?_
  refine ps_istore_n (L' := [some (.inr (.inr (3, i0))), some (.inl v1), some (.inl v2), some (.inl 0), none]) (ps_at tX0_unlikePlaces_ok 1 rfl) rfl (by decide) rfl ?_
  refine ps_iconst (x := 0) (ps_at tX0_unlikePlaces_ok 2 rfl) (by decide) ?_
  refine ps_istore (L' := [some (.inr (.inr (3, i0))), some (.inl v1), some (.inl v2), some (.inl 0), some (.inl 0)]) (ps_at tX0_unlikePlaces_ok 3 rfl) (by decide) rfl ?_
  exact h1
theorem bX0_unlikePlaces_5 {d : Nat} {Q : Option ps_V → ps_S → Prop} {i0 : Nat} {v1 : Int32} {v2 : Int32} {v3 : Int32} {v4 : Int32} {σ : ps_S} (h1 : 6 ≤ v4 → Q (some (.inl v3)) σ) (h2 : ¬ 6 ≤ v4 → vp_in v4 6) (h3 : ¬ 6 ≤ v4 → (jbUn (sGl σ i0 v1 v4.toNatClampNeg) (sGl σ i0 v2 v4.toNatClampNeg)) = 0 → kX0_unlikePlaces_5 d Q i0 v1 v2 v3 (v4 + 1) σ) (h4 : ¬ 6 ≤ v4 → ¬ (jbUn (sGl σ i0 v1 v4.toNatClampNeg) (sGl σ i0 v2 v4.toNatClampNeg)) = 0 → kX0_unlikePlaces_5 d Q i0 v1 v2 (v3 + 1) (v4 + 1) σ) : kX0_unlikePlaces_5 d Q i0 v1 v2 v3 v4 σ := by
  refine ps_iload (ps_at tX0_unlikePlaces_ok 4 rfl) rfl ?_
  refine ps_bipush (x := 6) (ps_at tX0_unlikePlaces_ok 5 rfl) (by decide) ?_
  refine ps_icmp_ge (tgt := 41) (ps_at tX0_unlikePlaces_ok 6 rfl) (by decide) (fun c0 => ?_) (fun c0 => ?_)
  · skip
    refine ps_iload_n (ps_at tX0_unlikePlaces_ok 20 rfl) rfl rfl ?_
    exact ps_iret (ps_at tX0_unlikePlaces_ok 21 rfl) rfl ⟨rfl, rfl⟩ (h1 c0)
  · skip
    refine ps_aload_n (ps_at tX0_unlikePlaces_ok 7 rfl) rfl rfl ?_
    refine ps_iload_n (ps_at tX0_unlikePlaces_ok 8 rfl) rfl rfl ?_
    refine ps_iload (ps_at tX0_unlikePlaces_ok 9 rfl) rfl ?_
    refine ps_callV (M2 := mX0_groupLetter) (av := [.inl v1, .inl v4]) (rest := []) (ps_at tX0_unlikePlaces_ok 10 rfl) cvX0_77 sh_3 rfl rfl (fun _ => Nat.le_of_ble_eq_true rfl) (pX0_groupLetter (h2 c0) ?_)
    refine ps_aload_n (ps_at tX0_unlikePlaces_ok 11 rfl) rfl rfl ?_
    refine ps_iload_n (ps_at tX0_unlikePlaces_ok 12 rfl) rfl rfl ?_
    refine ps_iload (ps_at tX0_unlikePlaces_ok 13 rfl) rfl ?_
    refine ps_callV (M2 := mX0_groupLetter) (av := [.inl v2, .inl v4]) (rest := [.inl (sGl σ i0 v1 v4.toNatClampNeg)]) (ps_at tX0_unlikePlaces_ok 14 rfl) cvX0_77 sh_3 rfl rfl (fun _ => Nat.le_of_ble_eq_true rfl) (pX0_groupLetter (h2 c0) ?_)
    refine ps_callS (M2 := mX0_areUnlike) (av := [.inl (sGl σ i0 v1 v4.toNatClampNeg), .inl (sGl σ i0 v2 v4.toNatClampNeg)]) (rest := []) (ps_at tX0_unlikePlaces_ok 15 rfl) csX0_46 rfl rfl (fun _ => Nat.le_of_ble_eq_true rfl) (pX0_areUnlike ?_)
    refine ps_if_eq (tgt := 35) (ps_at tX0_unlikePlaces_ok 16 rfl) (by decide) (fun c1 => ?_) (fun c1 => ?_)
    · skip
      refine ps_iinc (L' := [some (.inr (.inr (3, i0))), some (.inl v1), some (.inl v2), some (.inl v3), some (.inl (v4 + 1))]) (y := 1) (ps_at tX0_unlikePlaces_ok 18 rfl) rfl (by decide) (by decide) rfl ?_
      refine ps_goto (tgt := 5) (ps_at tX0_unlikePlaces_ok 19 rfl) (by decide) ?_
      exact h3 c0 c1
    · skip
      refine ps_iinc (L' := [some (.inr (.inr (3, i0))), some (.inl v1), some (.inl v2), some (.inl (v3 + 1)), some (.inl v4)]) (y := 1) (ps_at tX0_unlikePlaces_ok 17 rfl) rfl (by decide) (by decide) rfl ?_
      refine ps_iinc (L' := [some (.inr (.inr (3, i0))), some (.inl v1), some (.inl v2), some (.inl (v3 + 1)), some (.inl (v4 + 1))]) (y := 1) (ps_at tX0_unlikePlaces_ok 18 rfl) rfl (by decide) (by decide) rfl ?_
      refine ps_goto (tgt := 5) (ps_at tX0_unlikePlaces_ok 19 rfl) (by decide) ?_
      exact h4 c0 c1
theorem eX0_unlikePlaces {d : Nat} {Q : Option ps_V → ps_S → Prop} {i0 : Nat} {v1 : Int32} {v2 : Int32} {σ : ps_S} (h : kX0_unlikePlaces_0 d Q i0 v1 v2 σ) : ps_C mX0_unlikePlaces (d + 1) [.inr (.inr (3, i0)), .inl v1, .inl v2] σ Q := ps_enter (by decide) rfl ⟨rfl, rfl, rfl⟩ rfl (Nat.le_of_ble_eq_true rfl) h
theorem pX0_unlikePlaces {d : Nat} {Q : Option ps_V → ps_S → Prop} {i0 : Nat} {v1 v2 : Int32} {σ : ps_S}  (hq : Q (some (.inl (nI (cntN 6 (fun p => ¬ jbUn (sGl σ i0 v1 p) (sGl σ i0 v2 p) = 0))))) σ) : ps_C mX0_unlikePlaces (d + 1) [.inr (.inr (3, i0)), .inl v1, .inl v2] σ Q := by
  have key : ∀ r j, j + r = 6 → kX0_unlikePlaces_5 d Q i0 v1 v2 (nI (cntN j (fun p => ¬ jbUn (sGl σ i0 v1 p) (sGl σ i0 v2 p) = 0))) (nI j) σ := by
    intro r
    induction r with
    | zero =>
      intro j hj
      obtain rfl : j = 6 := by omega
      exact bX0_unlikePlaces_5 (fun _ => hq) (lpX (N := 6) (by decide)) (lpX (N := 6) (by decide)) (lpX (N := 6) (by decide))
    | succ r ih =>
      intro j hj
      have hj0 : j < 6 := by omega
      have hjc : (nI j).toNatClampNeg = j := nI_clamp (by omega)
      refine bX0_unlikePlaces_5 (lpN (N := 6) hj0 (by decide)) (fun _ => vp_in_nI hj0 (by decide)) (fun _ c => ?_) (fun _ c => ?_)
      · rw [hjc] at c
        rw [nI_1, cn_f (P := fun p => ¬ jbUn (sGl σ i0 v1 p) (sGl σ i0 v2 p) = 0) (fun h => h c)]
        exact ih (j + 1) (by omega)
      · rw [hjc] at c
        rw [cn_t (P := fun p => ¬ jbUn (sGl σ i0 v1 p) (sGl σ i0 v2 p) = 0) c, nI_1]
        exact ih (j + 1) (by omega)
  exact eX0_unlikePlaces (bX0_unlikePlaces_0 (key 6 0 rfl))
abbrev kX0_statesAhead_0 (d : Nat) (Q : Option ps_V → ps_S → Prop) (i0 : Nat) (v1 : Int32) (σ : ps_S) : Prop := ps_K mX0_statesAhead (d + 1) (ps_QF Q) 0 [some (.inr (.inr (3, i0))), some (.inl v1), none, none] [] σ
abbrev kX0_statesAhead_4 (d : Nat) (Q : Option ps_V → ps_S → Prop) (i0 : Nat) (v1 : Int32) (v2 : Int32) (v3 : Int32) (σ : ps_S) : Prop := ps_K mX0_statesAhead (d + 1) (ps_QF Q) 4 [some (.inr (.inr (3, i0))), some (.inl v1), some (.inl v2), some (.inl v3)] [] σ
theorem bX0_statesAhead_0 {d : Nat} {Q : Option ps_V → ps_S → Prop} {i0 : Nat} {v1 : Int32} {σ : ps_S} (h1 : kX0_statesAhead_4 d Q i0 v1 0 0 σ) : kX0_statesAhead_0 d Q i0 v1 σ := by
  refine ps_iconst (x := 0) (ps_at tX0_statesAhead_ok 0 rfl) (by decide) ?_
  refine ps_istore_n (L' := [some (.inr (.inr (3, i0))), some (.inl v1), some (.inl 0), none]) (ps_at tX0_statesAhead_ok 1 rfl) rfl (by decide) rfl ?_
  refine ps_iconst (x := 0) (ps_at tX0_statesAhead_ok 2 rfl) (by decide) ?_
  refine ps_istore_n (L' := [some (.inr (.inr (3, i0))), some (.inl v1), some (.inl 0), some (.inl 0)]) (ps_at tX0_statesAhead_ok 3 rfl) rfl (by decide) rfl ?_
  exact h1
theorem bX0_statesAhead_4 {d : Nat} {Q : Option ps_V → ps_S → Prop} {i0 : Nat} {v1 : Int32} {v2 : Int32} {v3 : Int32} {σ : ps_S} (h1 : 9 ≤ v3 → Q (some (.inl v2)) σ) (h2 : ¬ 9 ≤ v3 → vp_in v3 9) (h3 : ¬ 9 ≤ v3 → (σ 9 i0 v3.toNatClampNeg) = (-900009) → kX0_statesAhead_4 d Q i0 v1 v2 (v3 + 1) σ) (h4 : ¬ 9 ≤ v3 → ¬ (σ 9 i0 v3.toNatClampNeg) = (-900009) → (σ 9 i0 v3.toNatClampNeg) = v1 → kX0_statesAhead_4 d Q i0 v1 v2 (v3 + 1) σ) (h5 : ¬ 9 ≤ v3 → ¬ (σ 9 i0 v3.toNatClampNeg) = (-900009) → ¬ (σ 9 i0 v3.toNatClampNeg) = v1 → vp_in v1 9) (h6 : ¬ 9 ≤ v3 → ¬ (σ 9 i0 v3.toNatClampNeg) = (-900009) → ¬ (σ 9 i0 v3.toNatClampNeg) = v1 → (jX0_tellsAheadOf σ i0 v3 v1) = 0 → kX0_statesAhead_4 d Q i0 v1 v2 (v3 + 1) σ) (h7 : ¬ 9 ≤ v3 → ¬ (σ 9 i0 v3.toNatClampNeg) = (-900009) → ¬ (σ 9 i0 v3.toNatClampNeg) = v1 → ¬ (jX0_tellsAheadOf σ i0 v3 v1) = 0 → kX0_statesAhead_4 d Q i0 v1 (v2 ||| ((1 : Int32) <<< ((σ 9 i0 v3.toNatClampNeg) &&& 31))) (v3 + 1) σ) : kX0_statesAhead_4 d Q i0 v1 v2 v3 σ := by
  refine ps_iload_n (ps_at tX0_statesAhead_ok 4 rfl) rfl rfl ?_
  refine ps_bipush (x := 9) (ps_at tX0_statesAhead_ok 5 rfl) (by decide) ?_
  refine ps_icmp_ge (tgt := 57) (ps_at tX0_statesAhead_ok 6 rfl) (by decide) (fun c0 => ?_) (fun c0 => ?_)
  · skip
    refine ps_iload_n (ps_at tX0_statesAhead_ok 35 rfl) rfl rfl ?_
    exact ps_iret (ps_at tX0_statesAhead_ok 36 rfl) rfl ⟨rfl, rfl⟩ (h1 c0)
  · skip
    refine ps_aload_n (ps_at tX0_statesAhead_ok 7 rfl) rfl rfl ?_
    refine ps_getR (ps_at tX0_statesAhead_ok 8 rfl) flX0_26 sh_3 rfl ?_
    refine ps_iload_n (ps_at tX0_statesAhead_ok 9 rfl) rfl rfl ?_
    refine ps_iald (ps_at tX0_statesAhead_ok 10 rfl) sh_9 (h2 c0) ?_
    refine ps_ldc (ps_at tX0_statesAhead_ok 11 rfl) cnX0_32 ?_
    refine ps_icmp_eq (tgt := 51) (ps_at tX0_statesAhead_ok 12 rfl) (by decide) (fun c1 => ?_) (fun c1 => ?_)
    · skip
      refine ps_iinc (L' := [some (.inr (.inr (3, i0))), some (.inl v1), some (.inl v2), some (.inl (v3 + 1))]) (y := 1) (ps_at tX0_statesAhead_ok 33 rfl) rfl (by decide) (by decide) rfl ?_
      refine ps_goto (tgt := 4) (ps_at tX0_statesAhead_ok 34 rfl) (by decide) ?_
      exact h3 c0 c1
    · skip
      refine ps_aload_n (ps_at tX0_statesAhead_ok 13 rfl) rfl rfl ?_
      refine ps_getR (ps_at tX0_statesAhead_ok 14 rfl) flX0_26 sh_3 rfl ?_
      refine ps_iload_n (ps_at tX0_statesAhead_ok 15 rfl) rfl rfl ?_
      refine ps_iald (ps_at tX0_statesAhead_ok 16 rfl) sh_9 (h2 c0) ?_
      refine ps_iload_n (ps_at tX0_statesAhead_ok 17 rfl) rfl rfl ?_
      refine ps_icmp_eq (tgt := 51) (ps_at tX0_statesAhead_ok 18 rfl) (by decide) (fun c2 => ?_) (fun c2 => ?_)
      · skip
        refine ps_iinc (L' := [some (.inr (.inr (3, i0))), some (.inl v1), some (.inl v2), some (.inl (v3 + 1))]) (y := 1) (ps_at tX0_statesAhead_ok 33 rfl) rfl (by decide) (by decide) rfl ?_
        refine ps_goto (tgt := 4) (ps_at tX0_statesAhead_ok 34 rfl) (by decide) ?_
        exact h4 c0 c1 c2
      · skip
        refine ps_aload_n (ps_at tX0_statesAhead_ok 19 rfl) rfl rfl ?_
        refine ps_iload_n (ps_at tX0_statesAhead_ok 20 rfl) rfl rfl ?_
        refine ps_iload_n (ps_at tX0_statesAhead_ok 21 rfl) rfl rfl ?_
        refine ps_callV (M2 := mX0_tellsAheadOf) (av := [.inl v3, .inl v1]) (rest := []) (ps_at tX0_statesAhead_ok 22 rfl) cvX0_80 sh_3 rfl rfl (fun _ => Nat.le_of_ble_eq_true rfl) (pX0_tellsAheadOf (h2 c0) (h5 c0 c1 c2) ?_)
        refine ps_if_eq (tgt := 51) (ps_at tX0_statesAhead_ok 23 rfl) (by decide) (fun c3 => ?_) (fun c3 => ?_)
        · skip
          refine ps_iinc (L' := [some (.inr (.inr (3, i0))), some (.inl v1), some (.inl v2), some (.inl (v3 + 1))]) (y := 1) (ps_at tX0_statesAhead_ok 33 rfl) rfl (by decide) (by decide) rfl ?_
          refine ps_goto (tgt := 4) (ps_at tX0_statesAhead_ok 34 rfl) (by decide) ?_
          exact h6 c0 c1 c2 c3
        · skip
          refine ps_iload_n (ps_at tX0_statesAhead_ok 24 rfl) rfl rfl ?_
          refine ps_iconst (x := 1) (ps_at tX0_statesAhead_ok 25 rfl) (by decide) ?_
          refine ps_aload_n (ps_at tX0_statesAhead_ok 26 rfl) rfl rfl ?_
          refine ps_getR (ps_at tX0_statesAhead_ok 27 rfl) flX0_26 sh_3 rfl ?_
          refine ps_iload_n (ps_at tX0_statesAhead_ok 28 rfl) rfl rfl ?_
          refine ps_iald (ps_at tX0_statesAhead_ok 29 rfl) sh_9 (h2 c0) ?_
          refine ps_ishl (ps_at tX0_statesAhead_ok 30 rfl) ?_
          refine ps_ior (ps_at tX0_statesAhead_ok 31 rfl) ?_
          refine ps_istore_n (L' := [some (.inr (.inr (3, i0))), some (.inl v1), some (.inl (v2 ||| ((1 : Int32) <<< ((σ 9 i0 v3.toNatClampNeg) &&& 31)))), some (.inl v3)]) (ps_at tX0_statesAhead_ok 32 rfl) rfl (by decide) rfl ?_
          refine ps_iinc (L' := [some (.inr (.inr (3, i0))), some (.inl v1), some (.inl (v2 ||| ((1 : Int32) <<< ((σ 9 i0 v3.toNatClampNeg) &&& 31)))), some (.inl (v3 + 1))]) (y := 1) (ps_at tX0_statesAhead_ok 33 rfl) rfl (by decide) (by decide) rfl ?_
          refine ps_goto (tgt := 4) (ps_at tX0_statesAhead_ok 34 rfl) (by decide) ?_
          exact h7 c0 c1 c2 c3
theorem eX0_statesAhead {d : Nat} {Q : Option ps_V → ps_S → Prop} {i0 : Nat} {v1 : Int32} {σ : ps_S} (h : kX0_statesAhead_0 d Q i0 v1 σ) : ps_C mX0_statesAhead (d + 1) [.inr (.inr (3, i0)), .inl v1] σ Q := ps_enter (by decide) rfl ⟨rfl, rfl, rfl⟩ rfl (Nat.le_of_ble_eq_true rfl) h
theorem pX0_statesAhead {d : Nat} {Q : Option ps_V → ps_S → Prop} {i0 : Nat} {v1 : Int32} {σ : ps_S} (o1 : vp_in v1 9) (hq : Q (some (.inl (sAh σ i0 v1))) σ) : ps_C mX0_statesAhead (d + 1) [.inr (.inr (3, i0)), .inl v1] σ Q := by
  obtain ⟨g, hg⟩ : ∃ g : Nat → Int32, g = (fun a => if σ 9 i0 a = -900009 then 0 else if σ 9 i0 a = v1 then 0 else if jX0_tellsAheadOf σ i0 (nI a) v1 = 0 then 0 else (1 : Int32) <<< (σ 9 i0 a &&& 31)) := ⟨_, rfl⟩
  have hq : Q (some (.inl (jOrs 9 g))) σ := by rw [hg]; exact hq
  have or0 : ∀ x : Int32, x = x ||| 0 := fun x => (Int32.or_zero).symm
  have key : ∀ r j, j + r = 9 → kX0_statesAhead_4 d Q i0 v1 (jOrs j g) (nI j) σ := by
    intro r
    induction r with
    | zero =>
      intro j hj
      obtain rfl : j = 9 := by omega
      exact bX0_statesAhead_4 (fun _ => hq) (lpX (N := 9) (by decide)) (lpX (N := 9) (by decide)) (lpX (N := 9) (by decide)) (lpX (N := 9) (by decide)) (lpX (N := 9) (by decide)) (lpX (N := 9) (by decide))
    | succ r ih =>
      intro j hj
      have hj0 : j < 9 := by omega
      have hjc : (nI j).toNatClampNeg = j := nI_clamp (by omega)
      have ih2 := ih (j + 1) (by omega)
      rw [show jOrs (j + 1) g = jOrs j g ||| g j from rfl, ← nI_1] at ih2
      refine bX0_statesAhead_4 (lpN (N := 9) hj0 (by decide)) (fun _ => vp_in_nI hj0 (by decide)) (fun _ c => ?_) (fun _ c c2 => ?_) (fun _ _ _ => o1) (fun _ c c2 c3 => ?_) (fun _ c c2 c3 => ?_)
      · rw [hjc] at c
        have e : g j = 0 := by rw [hg]; simp only [c, if_true]
        rw [e, ← or0] at ih2
        exact ih2
      · rw [hjc] at c c2
        have e : g j = 0 := by rw [hg]; simp only [c2, if_true]; split <;> rfl
        rw [e, ← or0] at ih2
        exact ih2
      · rw [hjc] at c c2
        have e : g j = 0 := by rw [hg]; simp only [c, c2, c3, if_true, if_false]
        rw [e, ← or0] at ih2
        exact ih2
      · rw [hjc] at c c2 ⊢
        have e : g j = (1 : Int32) <<< (σ 9 i0 j &&& 31) := by rw [hg]; simp only [c, c2, c3, if_false]
        rw [e] at ih2
        exact ih2
  exact eX0_statesAhead (bX0_statesAhead_0 (key 9 0 rfl))
abbrev kX0_readersOf_0 (d : Nat) (Q : Option ps_V → ps_S → Prop) (i0 : Nat) (v1 : Int32) (v2 : Int32) (σ : ps_S) : Prop := ps_K mX0_readersOf d (ps_QF Q) 0 [some (.inr (.inr (3, i0))), some (.inl v1), some (.inl v2), none, none] [] σ
abbrev kX0_readersOf_5 (d : Nat) (Q : Option ps_V → ps_S → Prop) (i0 : Nat) (v1 : Int32) (v2 : Int32) (v3 : Int32) (v4 : Int32) (σ : ps_S) : Prop := ps_K mX0_readersOf d (ps_QF Q) 5 [some (.inr (.inr (3, i0))), some (.inl v1), some (.inl v2), some (.inl v3), some (.inl v4)] [] σ
theorem bX0_readersOf_0 {d : Nat} {Q : Option ps_V → ps_S → Prop} {i0 : Nat} {v1 : Int32} {v2 : Int32} {σ : ps_S} (h1 : kX0_readersOf_5 d Q i0 v1 v2 0 0 σ) : kX0_readersOf_0 d Q i0 v1 v2 σ := by
  refine ps_iconst (x := 0) (ps_at tX0_readersOf_ok 0 rfl) (by decide) ?_
  refine ps_istore_n (L' := [some (.inr (.inr (3, i0))), some (.inl v1), some (.inl v2), some (.inl 0), none]) (ps_at tX0_readersOf_ok 1 rfl) rfl (by decide) rfl ?_
  refine ps_iconst (x := 0) (ps_at tX0_readersOf_ok 2 rfl) (by decide) ?_
  refine ps_istore (L' := [some (.inr (.inr (3, i0))), some (.inl v1), some (.inl v2), some (.inl 0), some (.inl 0)]) (ps_at tX0_readersOf_ok 3 rfl) (by decide) rfl ?_
  exact h1
theorem bX0_readersOf_5 {d : Nat} {Q : Option ps_V → ps_S → Prop} {i0 : Nat} {v1 : Int32} {v2 : Int32} {v3 : Int32} {v4 : Int32} {σ : ps_S} (h1 : 9 ≤ v4 → Q (some (.inl v3)) σ) (h2 : ¬ 9 ≤ v4 → vp_in v4 9) (h3 : ¬ 9 ≤ v4 → vp_in v1 6) (h4 : ¬ 9 ≤ v4 → ¬ (σ 5 (9 * i0 + v4.toNatClampNeg) v1.toNatClampNeg) = v2 → kX0_readersOf_5 d Q i0 v1 v2 v3 (v4 + 1) σ) (h5 : ¬ 9 ≤ v4 → (σ 5 (9 * i0 + v4.toNatClampNeg) v1.toNatClampNeg) = v2 → kX0_readersOf_5 d Q i0 v1 v2 (v3 ||| ((1 : Int32) <<< (v4 &&& 31))) (v4 + 1) σ) : kX0_readersOf_5 d Q i0 v1 v2 v3 v4 σ := by
  refine ps_iload (ps_at tX0_readersOf_ok 4 rfl) rfl ?_
  refine ps_bipush (x := 9) (ps_at tX0_readersOf_ok 5 rfl) (by decide) ?_
  refine ps_icmp_ge (tgt := 38) (ps_at tX0_readersOf_ok 6 rfl) (by decide) (fun c0 => ?_) (fun c0 => ?_)
  · skip
    refine ps_iload_n (ps_at tX0_readersOf_ok 23 rfl) rfl rfl ?_
    exact ps_iret (ps_at tX0_readersOf_ok 24 rfl) rfl ⟨rfl, rfl⟩ (h1 c0)
  · skip
    refine ps_aload_n (ps_at tX0_readersOf_ok 7 rfl) rfl rfl ?_
    refine ps_getR (ps_at tX0_readersOf_ok 8 rfl) flX0_11 sh_3 rfl ?_
    refine ps_iload (ps_at tX0_readersOf_ok 9 rfl) rfl ?_
    refine ps_aald (ps_at tX0_readersOf_ok 10 rfl) sh_4 (Or.inl rfl) (h2 c0) ?_
    refine ps_iload_n (ps_at tX0_readersOf_ok 11 rfl) rfl rfl ?_
    refine ps_iald (ps_at tX0_readersOf_ok 12 rfl) sh_5 (h3 c0) ?_
    refine ps_iload_n (ps_at tX0_readersOf_ok 13 rfl) rfl rfl ?_
    refine ps_icmp_ne (tgt := 32) (ps_at tX0_readersOf_ok 14 rfl) (by decide) (fun c1 => ?_) (fun c1 => ?_)
    · skip
      refine ps_iinc (L' := [some (.inr (.inr (3, i0))), some (.inl v1), some (.inl v2), some (.inl v3), some (.inl (v4 + 1))]) (y := 1) (ps_at tX0_readersOf_ok 21 rfl) rfl (by decide) (by decide) rfl ?_
      refine ps_goto (tgt := 5) (ps_at tX0_readersOf_ok 22 rfl) (by decide) ?_
      exact h4 c0 c1
    · skip
      refine ps_iload_n (ps_at tX0_readersOf_ok 15 rfl) rfl rfl ?_
      refine ps_iconst (x := 1) (ps_at tX0_readersOf_ok 16 rfl) (by decide) ?_
      refine ps_iload (ps_at tX0_readersOf_ok 17 rfl) rfl ?_
      refine ps_ishl (ps_at tX0_readersOf_ok 18 rfl) ?_
      refine ps_ior (ps_at tX0_readersOf_ok 19 rfl) ?_
      refine ps_istore_n (L' := [some (.inr (.inr (3, i0))), some (.inl v1), some (.inl v2), some (.inl (v3 ||| ((1 : Int32) <<< (v4 &&& 31)))), some (.inl v4)]) (ps_at tX0_readersOf_ok 20 rfl) rfl (by decide) rfl ?_
      refine ps_iinc (L' := [some (.inr (.inr (3, i0))), some (.inl v1), some (.inl v2), some (.inl (v3 ||| ((1 : Int32) <<< (v4 &&& 31)))), some (.inl (v4 + 1))]) (y := 1) (ps_at tX0_readersOf_ok 21 rfl) rfl (by decide) (by decide) rfl ?_
      refine ps_goto (tgt := 5) (ps_at tX0_readersOf_ok 22 rfl) (by decide) ?_
      exact h5 c0 c1
theorem eX0_readersOf {d : Nat} {Q : Option ps_V → ps_S → Prop} {i0 : Nat} {v1 : Int32} {v2 : Int32} {σ : ps_S} (h : kX0_readersOf_0 d Q i0 v1 v2 σ) : ps_C mX0_readersOf d [.inr (.inr (3, i0)), .inl v1, .inl v2] σ Q := ps_enter (by decide) rfl ⟨rfl, rfl, rfl⟩ rfl (Nat.le_of_ble_eq_true rfl) h
theorem pX0_readersOf {d : Nat} {Q : Option ps_V → ps_S → Prop} {i0 : Nat} {v1 v2 : Int32} {σ : ps_S} (o1 : vp_in v1 6) (hq : Q (some (.inl (nI (mkN 9 (fun c => σ 5 (9 * i0 + c) v1.toNatClampNeg = v2))))) σ) : ps_C mX0_readersOf d [.inr (.inr (3, i0)), .inl v1, .inl v2] σ Q := by
  have key : ∀ r j, j + r = 9 → kX0_readersOf_5 d Q i0 v1 v2 (nI (mkN j (fun c => σ 5 (9 * i0 + c) v1.toNatClampNeg = v2))) (nI j) σ := by
    intro r
    induction r with
    | zero =>
      intro j hj
      obtain rfl : j = 9 := by omega
      exact bX0_readersOf_5 (fun _ => hq) (lpX (N := 9) (by decide)) (lpX (N := 9) (by decide)) (lpX (N := 9) (by decide)) (lpX (N := 9) (by decide))
    | succ r ih =>
      intro j hj
      have hj0 : j < 9 := by omega
      have hjc : (nI j).toNatClampNeg = j := nI_clamp (by omega)
      refine bX0_readersOf_5 (lpN (N := 9) hj0 (by decide)) (fun _ => vp_in_nI hj0 (by decide)) (fun _ => o1) (fun _ c => ?_) (fun _ c => ?_)
      · rw [hjc] at c
        rw [nI_1, mk_f (P := fun c => σ 5 (9 * i0 + c) v1.toNatClampNeg = v2) c]
        exact ih (j + 1) (by omega)
      · rw [hjc] at c
        rw [nI_1, mk_t (P := fun c => σ 5 (9 * i0 + c) v1.toNatClampNeg = v2) (by omega) c]
        exact ih (j + 1) (by omega)
  exact eX0_readersOf (bX0_readersOf_0 (key 9 0 rfl))
abbrev kX0_readingCount_0 (d : Nat) (Q : Option ps_V → ps_S → Prop) (i0 : Nat) (σ : ps_S) : Prop := ps_K mX0_readingCount d (ps_QF Q) 0 [some (.inr (.inr (3, i0))), none, none, none] [] σ
abbrev kX0_readingCount_4 (d : Nat) (Q : Option ps_V → ps_S → Prop) (i0 : Nat) (v1 : Int32) (v2 : Int32) (σ : ps_S) : Prop := ps_K mX0_readingCount d (ps_QF Q) 4 [some (.inr (.inr (3, i0))), some (.inl v1), some (.inl v2), none] [] σ
abbrev kX0_readingCount_12 (d : Nat) (Q : Option ps_V → ps_S → Prop) (i0 : Nat) (v1 : Int32) (v2 : Int32) (v3 : Int32) (σ : ps_S) : Prop := ps_K mX0_readingCount d (ps_QF Q) 12 [some (.inr (.inr (3, i0))), some (.inl v1), some (.inl v2), some (.inl v3)] [] σ
theorem bX0_readingCount_0 {d : Nat} {Q : Option ps_V → ps_S → Prop} {i0 : Nat} {σ : ps_S} (h1 : kX0_readingCount_4 d Q i0 0 0 σ) : kX0_readingCount_0 d Q i0 σ := by
  refine ps_iconst (x := 0) (ps_at tX0_readingCount_ok 0 rfl) (by decide) ?_
  refine ps_istore_n (L' := [some (.inr (.inr (3, i0))), some (.inl 0), none, none]) (ps_at tX0_readingCount_ok 1 rfl) rfl (by decide) rfl ?_
  refine ps_iconst (x := 0) (ps_at tX0_readingCount_ok 2 rfl) (by decide) ?_
  refine ps_istore_n (L' := [some (.inr (.inr (3, i0))), some (.inl 0), some (.inl 0), none]) (ps_at tX0_readingCount_ok 3 rfl) rfl (by decide) rfl ?_
  exact h1
theorem bX0_readingCount_4 {d : Nat} {Q : Option ps_V → ps_S → Prop} {i0 : Nat} {v1 : Int32} {v2 : Int32} {σ : ps_S} (h1 : 9 ≤ v2 → Q (some (.inl v1)) σ) (h2 : ¬ 9 ≤ v2 → kX0_readingCount_12 d Q i0 v1 v2 0 σ) : kX0_readingCount_4 d Q i0 v1 v2 σ := by
  refine ps_iload_n (ps_at tX0_readingCount_ok 4 rfl) rfl rfl ?_
  refine ps_bipush (x := 9) (ps_at tX0_readingCount_ok 5 rfl) (by decide) ?_
  refine ps_icmp_ge (tgt := 46) (ps_at tX0_readingCount_ok 6 rfl) (by decide) (fun c0 => ?_) (fun c0 => ?_)
  · skip
    refine ps_iload_n (ps_at tX0_readingCount_ok 25 rfl) rfl rfl ?_
    exact ps_iret (ps_at tX0_readingCount_ok 26 rfl) rfl ⟨rfl, rfl⟩ (h1 c0)
  · skip
    refine ps_iconst (x := 0) (ps_at tX0_readingCount_ok 7 rfl) (by decide) ?_
    refine ps_istore_n (L' := [some (.inr (.inr (3, i0))), some (.inl v1), some (.inl v2), some (.inl 0)]) (ps_at tX0_readingCount_ok 8 rfl) rfl (by decide) rfl ?_
    exact h2 c0
theorem bX0_readingCount_12 {d : Nat} {Q : Option ps_V → ps_S → Prop} {i0 : Nat} {v1 : Int32} {v2 : Int32} {v3 : Int32} {σ : ps_S} (h1 : 6 ≤ v3 → kX0_readingCount_4 d Q i0 v1 (v2 + 1) σ) (h2 : ¬ 6 ≤ v3 → vp_in v2 9) (h3 : ¬ 6 ≤ v3 → vp_in v3 6) (h4 : ¬ 6 ≤ v3 → (σ 5 (9 * i0 + v2.toNatClampNeg) v3.toNatClampNeg) = (-900009) → kX0_readingCount_12 d Q i0 v1 v2 (v3 + 1) σ) (h5 : ¬ 6 ≤ v3 → ¬ (σ 5 (9 * i0 + v2.toNatClampNeg) v3.toNatClampNeg) = (-900009) → kX0_readingCount_12 d Q i0 (v1 + 1) v2 (v3 + 1) σ) : kX0_readingCount_12 d Q i0 v1 v2 v3 σ := by
  refine ps_iload_n (ps_at tX0_readingCount_ok 9 rfl) rfl rfl ?_
  refine ps_bipush (x := 6) (ps_at tX0_readingCount_ok 10 rfl) (by decide) ?_
  refine ps_icmp_ge (tgt := 40) (ps_at tX0_readingCount_ok 11 rfl) (by decide) (fun c0 => ?_) (fun c0 => ?_)
  · skip
    refine ps_iinc (L' := [some (.inr (.inr (3, i0))), some (.inl v1), some (.inl (v2 + 1)), some (.inl v3)]) (y := 1) (ps_at tX0_readingCount_ok 23 rfl) rfl (by decide) (by decide) rfl ?_
    refine ps_goto (tgt := 4) (ps_at tX0_readingCount_ok 24 rfl) (by decide) ?_
    refine ps_forget (L' := [some (.inr (.inr (3, i0))), some (.inl v1), some (.inl (v2 + 1)), none]) (And.intro rfl (And.intro rfl (And.intro rfl trivial))) ?_
    exact h1 c0
  · skip
    refine ps_aload_n (ps_at tX0_readingCount_ok 12 rfl) rfl rfl ?_
    refine ps_getR (ps_at tX0_readingCount_ok 13 rfl) flX0_11 sh_3 rfl ?_
    refine ps_iload_n (ps_at tX0_readingCount_ok 14 rfl) rfl rfl ?_
    refine ps_aald (ps_at tX0_readingCount_ok 15 rfl) sh_4 (Or.inl rfl) (h2 c0) ?_
    refine ps_iload_n (ps_at tX0_readingCount_ok 16 rfl) rfl rfl ?_
    refine ps_iald (ps_at tX0_readingCount_ok 17 rfl) sh_5 (h3 c0) ?_
    refine ps_ldc (ps_at tX0_readingCount_ok 18 rfl) cnX0_32 ?_
    refine ps_icmp_eq (tgt := 34) (ps_at tX0_readingCount_ok 19 rfl) (by decide) (fun c1 => ?_) (fun c1 => ?_)
    · skip
      refine ps_iinc (L' := [some (.inr (.inr (3, i0))), some (.inl v1), some (.inl v2), some (.inl (v3 + 1))]) (y := 1) (ps_at tX0_readingCount_ok 21 rfl) rfl (by decide) (by decide) rfl ?_
      refine ps_goto (tgt := 12) (ps_at tX0_readingCount_ok 22 rfl) (by decide) ?_
      exact h4 c0 c1
    · skip
      refine ps_iinc (L' := [some (.inr (.inr (3, i0))), some (.inl (v1 + 1)), some (.inl v2), some (.inl v3)]) (y := 1) (ps_at tX0_readingCount_ok 20 rfl) rfl (by decide) (by decide) rfl ?_
      refine ps_iinc (L' := [some (.inr (.inr (3, i0))), some (.inl (v1 + 1)), some (.inl v2), some (.inl (v3 + 1))]) (y := 1) (ps_at tX0_readingCount_ok 21 rfl) rfl (by decide) (by decide) rfl ?_
      refine ps_goto (tgt := 12) (ps_at tX0_readingCount_ok 22 rfl) (by decide) ?_
      exact h5 c0 c1
theorem eX0_readingCount {d : Nat} {Q : Option ps_V → ps_S → Prop} {i0 : Nat} {σ : ps_S} (h : kX0_readingCount_0 d Q i0 σ) : ps_C mX0_readingCount d [.inr (.inr (3, i0))] σ Q := ps_enter (by decide) rfl ⟨rfl, rfl, rfl⟩ rfl (Nat.le_of_ble_eq_true rfl) h
theorem pX0_readingCount {d : Nat} {Q : Option ps_V → ps_S → Prop} {i0 : Nat} {σ : ps_S}  (hq : Q (some (.inl (nI (sumN 9 (fun c => cntN 6 (fun p => ¬ σ 5 (9 * i0 + c) p = -900009)))))) σ) : ps_C mX0_readingCount d [.inr (.inr (3, i0))] σ Q := by
  have inner : ∀ c0, c0 < 9 → ∀ acc, kX0_readingCount_4 d Q i0 (nI (acc + cntN 6 (fun p => ¬ σ 5 (9 * i0 + c0) p = -900009))) (nI c0 + 1) σ → ∀ r j, j + r = 6 → kX0_readingCount_12 d Q i0 (nI (acc + cntN j (fun p => ¬ σ 5 (9 * i0 + c0) p = -900009))) (nI c0) (nI j) σ := by
    intro c0 hc acc hk r
    have hcc : (nI c0).toNatClampNeg = c0 := nI_clamp (by omega)
    induction r with
    | zero =>
      intro j hj
      obtain rfl : j = 6 := by omega
      exact bX0_readingCount_12 (fun _ => hk) (lpX (N := 6) (by decide)) (lpX (N := 6) (by decide)) (lpX (N := 6) (by decide)) (lpX (N := 6) (by decide))
    | succ r ih =>
      intro j hj
      have hj0 : j < 6 := by omega
      have hjc : (nI j).toNatClampNeg = j := nI_clamp (by omega)
      refine bX0_readingCount_12 (lpN (N := 6) hj0 (by decide)) (fun _ => vp_in_nI hc (by decide)) (fun _ => vp_in_nI hj0 (by decide)) (fun _ e => ?_) (fun _ e => ?_)
      · rw [hcc, hjc] at e
        have h := ih (j + 1) (by omega)
        rw [show cntN (j + 1) (fun p => ¬ σ 5 (9 * i0 + c0) p = -900009) = cntN j (fun p => ¬ σ 5 (9 * i0 + c0) p = -900009) + jN ((fun p => ¬ σ 5 (9 * i0 + c0) p = -900009) j) from rfl, jN_f (fun q => q e), Nat.add_zero] at h
        rw [nI_1]
        exact h
      · rw [hcc, hjc] at e
        have h := ih (j + 1) (by omega)
        rw [show cntN (j + 1) (fun p => ¬ σ 5 (9 * i0 + c0) p = -900009) = cntN j (fun p => ¬ σ 5 (9 * i0 + c0) p = -900009) + jN ((fun p => ¬ σ 5 (9 * i0 + c0) p = -900009) j) from rfl, jN_t (show (fun p => ¬ σ 5 (9 * i0 + c0) p = -900009) j from e), ← Nat.add_assoc] at h
        rw [nI_1, nI_1]
        exact h
  have key : ∀ r j, j + r = 9 → kX0_readingCount_4 d Q i0 (nI (sumN j (fun c => cntN 6 (fun p => ¬ σ 5 (9 * i0 + c) p = -900009)))) (nI j) σ := by
    intro r
    induction r with
    | zero =>
      intro j hj
      obtain rfl : j = 9 := by omega
      exact bX0_readingCount_4 (fun _ => hq) (lpX (N := 9) (by decide))
    | succ r ih =>
      intro j hj
      have hj0 : j < 9 := by omega
      refine bX0_readingCount_4 (lpN (N := 9) hj0 (by decide)) (fun _ => inner j hj0 _ ?_ 6 0 rfl)
      rw [nI_1]
      exact ih (j + 1) (by omega)
  exact eX0_readingCount (bX0_readingCount_0 (key 9 0 rfl))
abbrev kX0_aheadCount_0 (d : Nat) (Q : Option ps_V → ps_S → Prop) (i0 : Nat) (σ : ps_S) : Prop := ps_K mX0_aheadCount (d + 1) (ps_QF Q) 0 [some (.inr (.inr (3, i0))), none, none] [] σ
abbrev kX0_aheadCount_4 (d : Nat) (Q : Option ps_V → ps_S → Prop) (i0 : Nat) (v1 : Int32) (v2 : Int32) (σ : ps_S) : Prop := ps_K mX0_aheadCount (d + 1) (ps_QF Q) 4 [some (.inr (.inr (3, i0))), some (.inl v1), some (.inl v2)] [] σ
theorem bX0_aheadCount_0 {d : Nat} {Q : Option ps_V → ps_S → Prop} {i0 : Nat} {σ : ps_S} (h1 : kX0_aheadCount_4 d Q i0 0 0 σ) : kX0_aheadCount_0 d Q i0 σ := by
  refine ps_iconst (x := 0) (ps_at tX0_aheadCount_ok 0 rfl) (by decide) ?_
  refine ps_istore_n (L' := [some (.inr (.inr (3, i0))), some (.inl 0), none]) (ps_at tX0_aheadCount_ok 1 rfl) rfl (by decide) rfl ?_
  refine ps_iconst (x := 0) (ps_at tX0_aheadCount_ok 2 rfl) (by decide) ?_
  refine ps_istore_n (L' := [some (.inr (.inr (3, i0))), some (.inl 0), some (.inl 0)]) (ps_at tX0_aheadCount_ok 3 rfl) rfl (by decide) rfl ?_
  exact h1
theorem bX0_aheadCount_4 {d : Nat} {Q : Option ps_V → ps_S → Prop} {i0 : Nat} {v1 : Int32} {v2 : Int32} {σ : ps_S} (h1 : 9 ≤ v2 → Q (some (.inl v1)) σ) (h2 : ¬ 9 ≤ v2 → vp_in v2 9) (h3 : ¬ 9 ≤ v2 → kX0_aheadCount_4 d Q i0 (v1 + (jbPop (σ 6 i0 v2.toNatClampNeg))) (v2 + 1) σ) : kX0_aheadCount_4 d Q i0 v1 v2 σ := by
  refine ps_iload_n (ps_at tX0_aheadCount_ok 4 rfl) rfl rfl ?_
  refine ps_bipush (x := 9) (ps_at tX0_aheadCount_ok 5 rfl) (by decide) ?_
  refine ps_icmp_ge (tgt := 28) (ps_at tX0_aheadCount_ok 6 rfl) (by decide) (fun c0 => ?_) (fun c0 => ?_)
  · skip
    refine ps_iload_n (ps_at tX0_aheadCount_ok 17 rfl) rfl rfl ?_
    exact ps_iret (ps_at tX0_aheadCount_ok 18 rfl) rfl ⟨rfl, rfl⟩ (h1 c0)
  · skip
    refine ps_iload_n (ps_at tX0_aheadCount_ok 7 rfl) rfl rfl ?_
    refine ps_aload_n (ps_at tX0_aheadCount_ok 8 rfl) rfl rfl ?_
    refine ps_getR (ps_at tX0_aheadCount_ok 9 rfl) flX0_16 sh_3 rfl ?_
    refine ps_iload_n (ps_at tX0_aheadCount_ok 10 rfl) rfl rfl ?_
    refine ps_iald (ps_at tX0_aheadCount_ok 11 rfl) sh_6 (h2 c0) ?_
    refine ps_callS (M2 := mJ6_bitCount_0f7a4) (av := [.inl (σ 6 i0 v2.toNatClampNeg)]) (rest := [.inl v1]) (ps_at tX0_aheadCount_ok 12 rfl) csX0_83 rfl rfl (fun _ => Nat.le_of_ble_eq_true rfl) (pJ6_bitCount_0f7a4 ?_)
    refine ps_iadd (ps_at tX0_aheadCount_ok 13 rfl) ?_
    refine ps_istore_n (L' := [some (.inr (.inr (3, i0))), some (.inl (v1 + (jbPop (σ 6 i0 v2.toNatClampNeg)))), some (.inl v2)]) (ps_at tX0_aheadCount_ok 14 rfl) rfl (by decide) rfl ?_
    refine ps_iinc (L' := [some (.inr (.inr (3, i0))), some (.inl (v1 + (jbPop (σ 6 i0 v2.toNatClampNeg)))), some (.inl (v2 + 1))]) (y := 1) (ps_at tX0_aheadCount_ok 15 rfl) rfl (by decide) (by decide) rfl ?_
    refine ps_goto (tgt := 4) (ps_at tX0_aheadCount_ok 16 rfl) (by decide) ?_
    exact h3 c0
theorem eX0_aheadCount {d : Nat} {Q : Option ps_V → ps_S → Prop} {i0 : Nat} {σ : ps_S} (h : kX0_aheadCount_0 d Q i0 σ) : ps_C mX0_aheadCount (d + 1) [.inr (.inr (3, i0))] σ Q := ps_enter (by decide) rfl ⟨rfl, rfl, rfl⟩ rfl (Nat.le_of_ble_eq_true rfl) h
theorem pX0_aheadCount {d : Nat} {Q : Option ps_V → ps_S → Prop} {i0 : Nat} {σ : ps_S}  (hq : Q (some (.inl (jSum 9 (fun a => jbPop (σ 6 i0 a))))) σ) : ps_C mX0_aheadCount (d + 1) [.inr (.inr (3, i0))] σ Q := by
  have key : ∀ r j, j + r = 9 → kX0_aheadCount_4 d Q i0 (jSum j (fun a => jbPop (σ 6 i0 a))) (nI j) σ := by
    intro r
    induction r with
    | zero =>
      intro j hj
      obtain rfl : j = 9 := by omega
      exact bX0_aheadCount_4 (fun _ => hq) (lpX (N := 9) (by decide)) (lpX (N := 9) (by decide))
    | succ r ih =>
      intro j hj
      have hj0 : j < 9 := by omega
      have hjc : (nI j).toNatClampNeg = j := nI_clamp (by omega)
      have h := ih (j + 1) (by omega)
      rw [← nI_1] at h
      refine bX0_aheadCount_4 (lpN (N := 9) hj0 (by decide)) (fun _ => vp_in_nI hj0 (by decide)) (fun _ => ?_)
      rw [hjc]
      exact h
  exact eX0_aheadCount (bX0_aheadCount_0 (key 9 0 rfl))
abbrev kX1_countSheets_0 (d : Nat) (Q : Option ps_V → ps_S → Prop)  (σ : ps_S) : Prop := ps_K mX1_countSheets d (ps_QF Q) 0 [some (.inr (.inr (30, 0))), none, none] [] σ
abbrev kX1_countSheets_4 (d : Nat) (Q : Option ps_V → ps_S → Prop) (v1 : Int32) (v2 : Int32) (σ : ps_S) : Prop := ps_K mX1_countSheets d (ps_QF Q) 4 [some (.inr (.inr (30, 0))), some (.inl v1), some (.inl v2)] [] σ
theorem bX1_countSheets_0 {d : Nat} {Q : Option ps_V → ps_S → Prop}  {σ : ps_S} (h1 : kX1_countSheets_4 d Q 0 0 σ) : kX1_countSheets_0 d Q σ := by
  refine ps_iconst (x := 0) (ps_at tX1_countSheets_ok 0 rfl) (by decide) ?_
  refine ps_istore_n (L' := [some (.inr (.inr (30, 0))), some (.inl 0), none]) (ps_at tX1_countSheets_ok 1 rfl) rfl (by decide) rfl ?_
  refine ps_iconst (x := 0) (ps_at tX1_countSheets_ok 2 rfl) (by decide) ?_
  refine ps_istore_n (L' := [some (.inr (.inr (30, 0))), some (.inl 0), some (.inl 0)]) (ps_at tX1_countSheets_ok 3 rfl) rfl (by decide) rfl ?_
  exact h1
theorem bX1_countSheets_4 {d : Nat} {Q : Option ps_V → ps_S → Prop} {v1 : Int32} {v2 : Int32} {σ : ps_S} (h1 : 6 ≤ v2 → Q (some (.inl v1)) σ) (h2 : ¬ 6 ≤ v2 → vp_in v2 6) (h3 : ¬ 6 ≤ v2 → kX1_countSheets_4 d Q (v1 + (σ 33 0 v2.toNatClampNeg)) (v2 + 1) σ) : kX1_countSheets_4 d Q v1 v2 σ := by
  refine ps_iload_n (ps_at tX1_countSheets_ok 4 rfl) rfl rfl ?_
  refine ps_bipush (x := 6) (ps_at tX1_countSheets_ok 5 rfl) (by decide) ?_
  refine ps_icmp_ge (tgt := 25) (ps_at tX1_countSheets_ok 6 rfl) (by decide) (fun c0 => ?_) (fun c0 => ?_)
  · skip
    refine ps_iload_n (ps_at tX1_countSheets_ok 16 rfl) rfl rfl ?_
    exact ps_iret (ps_at tX1_countSheets_ok 17 rfl) rfl ⟨rfl, rfl⟩ (h1 c0)
  · skip
    refine ps_iload_n (ps_at tX1_countSheets_ok 7 rfl) rfl rfl ?_
    refine ps_aload_n (ps_at tX1_countSheets_ok 8 rfl) rfl rfl ?_
    refine ps_getR (ps_at tX1_countSheets_ok 9 rfl) flX1_16 sh_30 rfl ?_
    refine ps_iload_n (ps_at tX1_countSheets_ok 10 rfl) rfl rfl ?_
    refine ps_iald (ps_at tX1_countSheets_ok 11 rfl) sh_33 (h2 c0) ?_
    refine ps_iadd (ps_at tX1_countSheets_ok 12 rfl) ?_
    refine ps_istore_n (L' := [some (.inr (.inr (30, 0))), some (.inl (v1 + (σ 33 0 v2.toNatClampNeg))), some (.inl v2)]) (ps_at tX1_countSheets_ok 13 rfl) rfl (by decide) rfl ?_
    refine ps_iinc (L' := [some (.inr (.inr (30, 0))), some (.inl (v1 + (σ 33 0 v2.toNatClampNeg))), some (.inl (v2 + 1))]) (y := 1) (ps_at tX1_countSheets_ok 14 rfl) rfl (by decide) (by decide) rfl ?_
    refine ps_goto (tgt := 4) (ps_at tX1_countSheets_ok 15 rfl) (by decide) ?_
    exact h3 c0
theorem eX1_countSheets {d : Nat} {Q : Option ps_V → ps_S → Prop}  {σ : ps_S} (h : kX1_countSheets_0 d Q σ) : ps_C mX1_countSheets d [.inr (.inr (30, 0))] σ Q := ps_enter (by decide) rfl ⟨rfl, rfl, rfl⟩ rfl (Nat.le_of_ble_eq_true rfl) h
theorem pX1_countSheets {d : Nat} {Q : Option ps_V → ps_S → Prop}  {σ : ps_S}  (hq : Q (some (.inl (jSum 6 (fun f => σ 33 0 f)))) σ) : ps_C mX1_countSheets d [.inr (.inr (30, 0))] σ Q := by
  have key : ∀ r j, j + r = 6 → kX1_countSheets_4 d Q (jSum j (fun f => σ 33 0 f)) (nI j) σ := by
    intro r
    induction r with
    | zero =>
      intro j hj
      obtain rfl : j = 6 := by omega
      exact bX1_countSheets_4 (fun _ => hq) (lpX (N := 6) (by decide)) (lpX (N := 6) (by decide))
    | succ r ih =>
      intro j hj
      have hj0 : j < 6 := by omega
      have hjc : (nI j).toNatClampNeg = j := nI_clamp (by omega)
      have h := ih (j + 1) (by omega)
      rw [← nI_1] at h
      refine bX1_countSheets_4 (lpN (N := 6) hj0 (by decide)) (fun _ => vp_in_nI hj0 (by decide)) (fun _ => ?_)
      rw [hjc]
      exact h
  exact eX1_countSheets (bX1_countSheets_0 (key 6 0 rfl))
abbrev kX1_countSeen_0 (d : Nat) (Q : Option ps_V → ps_S → Prop)  (σ : ps_S) : Prop := ps_K mX1_countSeen d (ps_QF Q) 0 [some (.inr (.inr (30, 0))), none, none, none] [] σ
abbrev kX1_countSeen_4 (d : Nat) (Q : Option ps_V → ps_S → Prop) (v1 : Int32) (v2 : Int32) (σ : ps_S) : Prop := ps_K mX1_countSeen d (ps_QF Q) 4 [some (.inr (.inr (30, 0))), some (.inl v1), some (.inl v2), none] [] σ
abbrev kX1_countSeen_12 (d : Nat) (Q : Option ps_V → ps_S → Prop) (v1 : Int32) (v2 : Int32) (v3 : Int32) (σ : ps_S) : Prop := ps_K mX1_countSeen d (ps_QF Q) 12 [some (.inr (.inr (30, 0))), some (.inl v1), some (.inl v2), some (.inl v3)] [] σ
theorem bX1_countSeen_0 {d : Nat} {Q : Option ps_V → ps_S → Prop}  {σ : ps_S} (h1 : kX1_countSeen_4 d Q 0 0 σ) : kX1_countSeen_0 d Q σ := by
  refine ps_iconst (x := 0) (ps_at tX1_countSeen_ok 0 rfl) (by decide) ?_
  refine ps_istore_n (L' := [some (.inr (.inr (30, 0))), some (.inl 0), none, none]) (ps_at tX1_countSeen_ok 1 rfl) rfl (by decide) rfl ?_
  refine ps_iconst (x := 0) (ps_at tX1_countSeen_ok 2 rfl) (by decide) ?_
  refine ps_istore_n (L' := [some (.inr (.inr (30, 0))), some (.inl 0), some (.inl 0), none]) (ps_at tX1_countSeen_ok 3 rfl) rfl (by decide) rfl ?_
  exact h1
theorem bX1_countSeen_4 {d : Nat} {Q : Option ps_V → ps_S → Prop} {v1 : Int32} {v2 : Int32} {σ : ps_S} (h1 : 6 ≤ v2 → Q (some (.inl v1)) σ) (h2 : ¬ 6 ≤ v2 → kX1_countSeen_12 d Q v1 v2 0 σ) : kX1_countSeen_4 d Q v1 v2 σ := by
  refine ps_iload_n (ps_at tX1_countSeen_ok 4 rfl) rfl rfl ?_
  refine ps_bipush (x := 6) (ps_at tX1_countSeen_ok 5 rfl) (by decide) ?_
  refine ps_icmp_ge (tgt := 46) (ps_at tX1_countSeen_ok 6 rfl) (by decide) (fun c0 => ?_) (fun c0 => ?_)
  · skip
    refine ps_iload_n (ps_at tX1_countSeen_ok 25 rfl) rfl rfl ?_
    exact ps_iret (ps_at tX1_countSeen_ok 26 rfl) rfl ⟨rfl, rfl⟩ (h1 c0)
  · skip
    refine ps_iconst (x := 0) (ps_at tX1_countSeen_ok 7 rfl) (by decide) ?_
    refine ps_istore_n (L' := [some (.inr (.inr (30, 0))), some (.inl v1), some (.inl v2), some (.inl 0)]) (ps_at tX1_countSeen_ok 8 rfl) rfl (by decide) rfl ?_
    exact h2 c0
theorem bX1_countSeen_12 {d : Nat} {Q : Option ps_V → ps_S → Prop} {v1 : Int32} {v2 : Int32} {v3 : Int32} {σ : ps_S} (h1 : 12 ≤ v3 → kX1_countSeen_4 d Q v1 (v2 + 1) σ) (h2 : ¬ 12 ≤ v3 → vp_in v2 6) (h3 : ¬ 12 ≤ v3 → vp_in v3 12) (h4 : ¬ 12 ≤ v3 → (σ 35 v2.toNatClampNeg v3.toNatClampNeg) = (-900009) → kX1_countSeen_12 d Q v1 v2 (v3 + 1) σ) (h5 : ¬ 12 ≤ v3 → ¬ (σ 35 v2.toNatClampNeg v3.toNatClampNeg) = (-900009) → kX1_countSeen_12 d Q (v1 + 1) v2 (v3 + 1) σ) : kX1_countSeen_12 d Q v1 v2 v3 σ := by
  refine ps_iload_n (ps_at tX1_countSeen_ok 9 rfl) rfl rfl ?_
  refine ps_bipush (x := 12) (ps_at tX1_countSeen_ok 10 rfl) (by decide) ?_
  refine ps_icmp_ge (tgt := 40) (ps_at tX1_countSeen_ok 11 rfl) (by decide) (fun c0 => ?_) (fun c0 => ?_)
  · skip
    refine ps_iinc (L' := [some (.inr (.inr (30, 0))), some (.inl v1), some (.inl (v2 + 1)), some (.inl v3)]) (y := 1) (ps_at tX1_countSeen_ok 23 rfl) rfl (by decide) (by decide) rfl ?_
    refine ps_goto (tgt := 4) (ps_at tX1_countSeen_ok 24 rfl) (by decide) ?_
    refine ps_forget (L' := [some (.inr (.inr (30, 0))), some (.inl v1), some (.inl (v2 + 1)), none]) (And.intro rfl (And.intro rfl (And.intro rfl trivial))) ?_
    exact h1 c0
  · skip
    refine ps_aload_n (ps_at tX1_countSeen_ok 12 rfl) rfl rfl ?_
    refine ps_getR (ps_at tX1_countSeen_ok 13 rfl) flX1_20 sh_30 rfl ?_
    refine ps_iload_n (ps_at tX1_countSeen_ok 14 rfl) rfl rfl ?_
    refine ps_aald0 (ps_at tX1_countSeen_ok 15 rfl) sh_34 (Or.inl rfl) (h2 c0) ?_
    refine ps_iload_n (ps_at tX1_countSeen_ok 16 rfl) rfl rfl ?_
    refine ps_iald (ps_at tX1_countSeen_ok 17 rfl) sh_35 (h3 c0) ?_
    refine ps_ldc (ps_at tX1_countSeen_ok 18 rfl) cnX1_27 ?_
    refine ps_icmp_eq (tgt := 34) (ps_at tX1_countSeen_ok 19 rfl) (by decide) (fun c1 => ?_) (fun c1 => ?_)
    · skip
      refine ps_iinc (L' := [some (.inr (.inr (30, 0))), some (.inl v1), some (.inl v2), some (.inl (v3 + 1))]) (y := 1) (ps_at tX1_countSeen_ok 21 rfl) rfl (by decide) (by decide) rfl ?_
      refine ps_goto (tgt := 12) (ps_at tX1_countSeen_ok 22 rfl) (by decide) ?_
      exact h4 c0 c1
    · skip
      refine ps_iinc (L' := [some (.inr (.inr (30, 0))), some (.inl (v1 + 1)), some (.inl v2), some (.inl v3)]) (y := 1) (ps_at tX1_countSeen_ok 20 rfl) rfl (by decide) (by decide) rfl ?_
      refine ps_iinc (L' := [some (.inr (.inr (30, 0))), some (.inl (v1 + 1)), some (.inl v2), some (.inl (v3 + 1))]) (y := 1) (ps_at tX1_countSeen_ok 21 rfl) rfl (by decide) (by decide) rfl ?_
      refine ps_goto (tgt := 12) (ps_at tX1_countSeen_ok 22 rfl) (by decide) ?_
      exact h5 c0 c1
theorem eX1_countSeen {d : Nat} {Q : Option ps_V → ps_S → Prop}  {σ : ps_S} (h : kX1_countSeen_0 d Q σ) : ps_C mX1_countSeen d [.inr (.inr (30, 0))] σ Q := ps_enter (by decide) rfl ⟨rfl, rfl, rfl⟩ rfl (Nat.le_of_ble_eq_true rfl) h
theorem pX1_countSeen {d : Nat} {Q : Option ps_V → ps_S → Prop}  {σ : ps_S}  (hq : Q (some (.inl (nI (sumN 6 (fun f => cntN 12 (fun b => ¬ σ 35 f b = -900009)))))) σ) : ps_C mX1_countSeen d [.inr (.inr (30, 0))] σ Q := by
  have inner : ∀ c0, c0 < 6 → ∀ acc, kX1_countSeen_4 d Q (nI (acc + cntN 12 (fun p => ¬ σ 35 c0 p = -900009))) (nI c0 + 1) σ → ∀ r j, j + r = 12 → kX1_countSeen_12 d Q (nI (acc + cntN j (fun p => ¬ σ 35 c0 p = -900009))) (nI c0) (nI j) σ := by
    intro c0 hc acc hk r
    have hcc : (nI c0).toNatClampNeg = c0 := nI_clamp (by omega)
    induction r with
    | zero =>
      intro j hj
      obtain rfl : j = 12 := by omega
      exact bX1_countSeen_12 (fun _ => hk) (lpX (N := 12) (by decide)) (lpX (N := 12) (by decide)) (lpX (N := 12) (by decide)) (lpX (N := 12) (by decide))
    | succ r ih =>
      intro j hj
      have hj0 : j < 12 := by omega
      have hjc : (nI j).toNatClampNeg = j := nI_clamp (by omega)
      refine bX1_countSeen_12 (lpN (N := 12) hj0 (by decide)) (fun _ => vp_in_nI hc (by decide)) (fun _ => vp_in_nI hj0 (by decide)) (fun _ e => ?_) (fun _ e => ?_)
      · rw [hcc, hjc] at e
        have h := ih (j + 1) (by omega)
        rw [show cntN (j + 1) (fun p => ¬ σ 35 c0 p = -900009) = cntN j (fun p => ¬ σ 35 c0 p = -900009) + jN ((fun p => ¬ σ 35 c0 p = -900009) j) from rfl, jN_f (fun q => q e), Nat.add_zero] at h
        rw [nI_1]
        exact h
      · rw [hcc, hjc] at e
        have h := ih (j + 1) (by omega)
        rw [show cntN (j + 1) (fun p => ¬ σ 35 c0 p = -900009) = cntN j (fun p => ¬ σ 35 c0 p = -900009) + jN ((fun p => ¬ σ 35 c0 p = -900009) j) from rfl, jN_t (show (fun p => ¬ σ 35 c0 p = -900009) j from e), ← Nat.add_assoc] at h
        rw [nI_1, nI_1]
        exact h
  have key : ∀ r j, j + r = 6 → kX1_countSeen_4 d Q (nI (sumN j (fun c => cntN 12 (fun p => ¬ σ 35 c p = -900009)))) (nI j) σ := by
    intro r
    induction r with
    | zero =>
      intro j hj
      obtain rfl : j = 6 := by omega
      exact bX1_countSeen_4 (fun _ => hq) (lpX (N := 6) (by decide))
    | succ r ih =>
      intro j hj
      have hj0 : j < 6 := by omega
      refine bX1_countSeen_4 (lpN (N := 6) hj0 (by decide)) (fun _ => inner j hj0 _ ?_ 12 0 rfl)
      rw [nI_1]
      exact ih (j + 1) (by omega)
  exact eX1_countSeen (bX1_countSeen_0 (key 6 0 rfl))
abbrev kX2_wordsAgainst_0 (d : Nat) (Q : Option ps_V → ps_S → Prop) (v1 : Int32) (v2 : Int32) (σ : ps_S) : Prop := ps_K mX2_wordsAgainst d (ps_QF Q) 0 [some (.inr (.inr (36, 0))), some (.inl v1), some (.inl v2), none, none, none] [] σ
abbrev kX2_wordsAgainst_5 (d : Nat) (Q : Option ps_V → ps_S → Prop) (v1 : Int32) (v2 : Int32) (v3 : Int32) (v4 : Int32) (σ : ps_S) : Prop := ps_K mX2_wordsAgainst d (ps_QF Q) 5 [some (.inr (.inr (36, 0))), some (.inl v1), some (.inl v2), some (.inl v3), some (.inl v4), none] [] σ
abbrev kX2_wordsAgainst_15 (d : Nat) (Q : Option ps_V → ps_S → Prop) (v1 : Int32) (v2 : Int32) (v3 : Int32) (v4 : Int32) (v5 : Int32) (σ : ps_S) : Prop := ps_K mX2_wordsAgainst d (ps_QF Q) 15 [some (.inr (.inr (36, 0))), some (.inl v1), some (.inl v2), some (.inl v3), some (.inl v4), some (.inl v5)] [] σ
theorem bX2_wordsAgainst_0 {d : Nat} {Q : Option ps_V → ps_S → Prop} {v1 : Int32} {v2 : Int32} {σ : ps_S} (h1 : kX2_wordsAgainst_5 d Q v1 v2 0 0 σ) : kX2_wordsAgainst_0 d Q v1 v2 σ := by
  refine ps_iconst (x := 0) (ps_at tX2_wordsAgainst_ok 0 rfl) (by decide) ?_
  refine ps_istore_n (L' := [some (.inr (.inr (36, 0))), some (.inl v1), some (.inl v2), some (.inl 0), none, none]) (ps_at tX2_wordsAgainst_ok 1 rfl) rfl (by decide) rfl ?_
  refine ps_iconst (x := 0) (ps_at tX2_wordsAgainst_ok 2 rfl) (by decide) ?_
  refine ps_istore (L' := [some (.inr (.inr (36, 0))), some (.inl v1), some (.inl v2), some (.inl 0), some (.inl 0), none]) (ps_at tX2_wordsAgainst_ok 3 rfl) (by decide) rfl ?_
  exact h1
theorem bX2_wordsAgainst_5 {d : Nat} {Q : Option ps_V → ps_S → Prop} {v1 : Int32} {v2 : Int32} {v3 : Int32} {v4 : Int32} {σ : ps_S} (h1 : 6 ≤ v4 → Q (some (.inl v3)) σ) (h2 : ¬ 6 ≤ v4 → kX2_wordsAgainst_15 d Q v1 v2 v3 v4 0 σ) : kX2_wordsAgainst_5 d Q v1 v2 v3 v4 σ := by
  refine ps_iload (ps_at tX2_wordsAgainst_ok 4 rfl) rfl ?_
  refine ps_bipush (x := 6) (ps_at tX2_wordsAgainst_ok 5 rfl) (by decide) ?_
  refine ps_icmp_ge (tgt := 78) (ps_at tX2_wordsAgainst_ok 6 rfl) (by decide) (fun c0 => ?_) (fun c0 => ?_)
  · skip
    refine ps_iload_n (ps_at tX2_wordsAgainst_ok 45 rfl) rfl rfl ?_
    exact ps_iret (ps_at tX2_wordsAgainst_ok 46 rfl) rfl ⟨rfl, rfl⟩ (h1 c0)
  · skip
    refine ps_iconst (x := 0) (ps_at tX2_wordsAgainst_ok 7 rfl) (by decide) ?_
    refine ps_istore (L' := [some (.inr (.inr (36, 0))), some (.inl v1), some (.inl v2), some (.inl v3), some (.inl v4), some (.inl 0)]) (ps_at tX2_wordsAgainst_ok 8 rfl) (by decide) rfl ?_
    exact h2 c0
theorem bX2_wordsAgainst_15 {d : Nat} {Q : Option ps_V → ps_S → Prop} {v1 : Int32} {v2 : Int32} {v3 : Int32} {v4 : Int32} {v5 : Int32} {σ : ps_S} (h1 : 2 ≤ v5 → kX2_wordsAgainst_5 d Q v1 v2 v3 (v4 + 1) σ) (h2 : ¬ 2 ≤ v5 → vp_in v2 4) (h3 : ¬ 2 ≤ v5 → vp_in v4 6) (h4 : ¬ 2 ≤ v5 → (σ 38 v2.toNatClampNeg v4.toNatClampNeg) = (-900009) → kX2_wordsAgainst_15 d Q v1 v2 v3 v4 (v5 + 1) σ) (h5 : ¬ 2 ≤ v5 → ¬ (σ 38 v2.toNatClampNeg v4.toNatClampNeg) = (-900009) → (σ 38 v2.toNatClampNeg v4.toNatClampNeg) = v5 → kX2_wordsAgainst_15 d Q v1 v2 v3 v4 (v5 + 1) σ) (h6 : ¬ 2 ≤ v5 → ¬ (σ 38 v2.toNatClampNeg v4.toNatClampNeg) = (-900009) → ¬ (σ 38 v2.toNatClampNeg v4.toNatClampNeg) = v5 → vp_in v1 12) (h7 : ¬ 2 ≤ v5 → ¬ (σ 38 v2.toNatClampNeg v4.toNatClampNeg) = (-900009) → ¬ (σ 38 v2.toNatClampNeg v4.toNatClampNeg) = v5 → vp_in ((v4 * 2) + v5) 12) (h8 : ¬ 2 ≤ v5 → ¬ (σ 38 v2.toNatClampNeg v4.toNatClampNeg) = (-900009) → ¬ (σ 38 v2.toNatClampNeg v4.toNatClampNeg) = v5 → kX2_wordsAgainst_15 d Q v1 v2 (v3 + (σ 40 v1.toNatClampNeg ((v4 * 2) + v5).toNatClampNeg)) v4 (v5 + 1) σ) : kX2_wordsAgainst_15 d Q v1 v2 v3 v4 v5 σ := by
  refine ps_iload (ps_at tX2_wordsAgainst_ok 9 rfl) rfl ?_
  refine ps_iconst (x := 2) (ps_at tX2_wordsAgainst_ok 10 rfl) (by decide) ?_
  refine ps_icmp_ge (tgt := 72) (ps_at tX2_wordsAgainst_ok 11 rfl) (by decide) (fun c0 => ?_) (fun c0 => ?_)
  · skip
    refine ps_iinc (L' := [some (.inr (.inr (36, 0))), some (.inl v1), some (.inl v2), some (.inl v3), some (.inl (v4 + 1)), some (.inl v5)]) (y := 1) (ps_at tX2_wordsAgainst_ok 43 rfl) rfl (by decide) (by decide) rfl ?_
    refine ps_goto (tgt := 5) (ps_at tX2_wordsAgainst_ok 44 rfl) (by decide) ?_
    refine ps_forget (L' := [some (.inr (.inr (36, 0))), some (.inl v1), some (.inl v2), some (.inl v3), some (.inl (v4 + 1)), none]) (And.intro rfl (And.intro rfl (And.intro rfl (And.intro rfl (And.intro rfl trivial))))) ?_
    exact h1 c0
  · skip
    refine ps_aload_n (ps_at tX2_wordsAgainst_ok 12 rfl) rfl rfl ?_
    refine ps_getR (ps_at tX2_wordsAgainst_ok 13 rfl) flX2_11 sh_36 rfl ?_
    refine ps_iload_n (ps_at tX2_wordsAgainst_ok 14 rfl) rfl rfl ?_
    refine ps_aald0 (ps_at tX2_wordsAgainst_ok 15 rfl) sh_37 (Or.inl rfl) (h2 c0) ?_
    refine ps_iload (ps_at tX2_wordsAgainst_ok 16 rfl) rfl ?_
    refine ps_iald (ps_at tX2_wordsAgainst_ok 17 rfl) sh_38 (h3 c0) ?_
    refine ps_ldc (ps_at tX2_wordsAgainst_ok 18 rfl) cnX2_41 ?_
    refine ps_icmp_eq (tgt := 66) (ps_at tX2_wordsAgainst_ok 19 rfl) (by decide) (fun c1 => ?_) (fun c1 => ?_)
    · skip
      refine ps_iinc (L' := [some (.inr (.inr (36, 0))), some (.inl v1), some (.inl v2), some (.inl v3), some (.inl v4), some (.inl (v5 + 1))]) (y := 1) (ps_at tX2_wordsAgainst_ok 41 rfl) rfl (by decide) (by decide) rfl ?_
      refine ps_goto (tgt := 15) (ps_at tX2_wordsAgainst_ok 42 rfl) (by decide) ?_
      exact h4 c0 c1
    · skip
      refine ps_aload_n (ps_at tX2_wordsAgainst_ok 20 rfl) rfl rfl ?_
      refine ps_getR (ps_at tX2_wordsAgainst_ok 21 rfl) flX2_11 sh_36 rfl ?_
      refine ps_iload_n (ps_at tX2_wordsAgainst_ok 22 rfl) rfl rfl ?_
      refine ps_aald0 (ps_at tX2_wordsAgainst_ok 23 rfl) sh_37 (Or.inl rfl) (h2 c0) ?_
      refine ps_iload (ps_at tX2_wordsAgainst_ok 24 rfl) rfl ?_
      refine ps_iald (ps_at tX2_wordsAgainst_ok 25 rfl) sh_38 (h3 c0) ?_
      refine ps_iload (ps_at tX2_wordsAgainst_ok 26 rfl) rfl ?_
      refine ps_icmp_eq (tgt := 66) (ps_at tX2_wordsAgainst_ok 27 rfl) (by decide) (fun c2 => ?_) (fun c2 => ?_)
      · skip
        refine ps_iinc (L' := [some (.inr (.inr (36, 0))), some (.inl v1), some (.inl v2), some (.inl v3), some (.inl v4), some (.inl (v5 + 1))]) (y := 1) (ps_at tX2_wordsAgainst_ok 41 rfl) rfl (by decide) (by decide) rfl ?_
        refine ps_goto (tgt := 15) (ps_at tX2_wordsAgainst_ok 42 rfl) (by decide) ?_
        exact h5 c0 c1 c2
      · skip
        refine ps_iload_n (ps_at tX2_wordsAgainst_ok 28 rfl) rfl rfl ?_
        refine ps_aload_n (ps_at tX2_wordsAgainst_ok 29 rfl) rfl rfl ?_
        refine ps_getR (ps_at tX2_wordsAgainst_ok 30 rfl) flX2_16 sh_36 rfl ?_
        refine ps_iload_n (ps_at tX2_wordsAgainst_ok 31 rfl) rfl rfl ?_
        refine ps_aald0 (ps_at tX2_wordsAgainst_ok 32 rfl) sh_39 (Or.inl rfl) (h6 c0 c1 c2) ?_
        refine ps_iload (ps_at tX2_wordsAgainst_ok 33 rfl) rfl ?_
        refine ps_iconst (x := 2) (ps_at tX2_wordsAgainst_ok 34 rfl) (by decide) ?_
        refine ps_imul (ps_at tX2_wordsAgainst_ok 35 rfl) ?_
        refine ps_iload (ps_at tX2_wordsAgainst_ok 36 rfl) rfl ?_
        refine ps_iadd (ps_at tX2_wordsAgainst_ok 37 rfl) ?_
        refine ps_iald (ps_at tX2_wordsAgainst_ok 38 rfl) sh_40 (h7 c0 c1 c2) ?_
        refine ps_iadd (ps_at tX2_wordsAgainst_ok 39 rfl) ?_
        refine ps_istore_n (L' := [some (.inr (.inr (36, 0))), some (.inl v1), some (.inl v2), some (.inl (v3 + (σ 40 v1.toNatClampNeg ((v4 * 2) + v5).toNatClampNeg))), some (.inl v4), some (.inl v5)]) (ps_at tX2_wordsAgainst_ok 40 rfl) rfl (by decide) rfl ?_
        refine ps_iinc (L' := [some (.inr (.inr (36, 0))), some (.inl v1), some (.inl v2), some (.inl (v3 + (σ 40 v1.toNatClampNeg ((v4 * 2) + v5).toNatClampNeg))), some (.inl v4), some (.inl (v5 + 1))]) (y := 1) (ps_at tX2_wordsAgainst_ok 41 rfl) rfl (by decide) (by decide) rfl ?_
        refine ps_goto (tgt := 15) (ps_at tX2_wordsAgainst_ok 42 rfl) (by decide) ?_
        exact h8 c0 c1 c2
theorem eX2_wordsAgainst {d : Nat} {Q : Option ps_V → ps_S → Prop} {v1 : Int32} {v2 : Int32} {σ : ps_S} (h : kX2_wordsAgainst_0 d Q v1 v2 σ) : ps_C mX2_wordsAgainst d [.inr (.inr (36, 0)), .inl v1, .inl v2] σ Q := ps_enter (by decide) rfl ⟨rfl, rfl, rfl⟩ rfl (Nat.le_of_ble_eq_true rfl) h
theorem pX2_wordsAgainst {d : Nat} {Q : Option ps_V → ps_S → Prop} {v1 v2 : Int32} {σ : ps_S} (o1 : vp_in v1 12) (o2 : vp_in v2 4) (hq : Q (some (.inl (sWa σ v1.toNatClampNeg v2.toNatClampNeg))) σ) : ps_C mX2_wordsAgainst d [.inr (.inr (36, 0)), .inl v1, .inl v2] σ Q := by
  obtain ⟨g, hg⟩ : ∃ g : Nat → Nat → Int32, g = (fun w fo => if σ 38 v2.toNatClampNeg w = -900009 then 0 else if σ 38 v2.toNatClampNeg w = nI fo then 0 else σ 40 v1.toNatClampNeg (2 * w + fo)) := ⟨_, rfl⟩
  have hq : Q (some (.inl (jSum 6 (fun w => jSum 2 (g w))))) σ := by rw [hg]; exact hq
  have inner : ∀ w, w < 6 → ∀ acc, kX2_wordsAgainst_5 d Q v1 v2 (acc + jSum 2 (g w)) (nI w + 1) σ → ∀ r j, j + r = 2 → kX2_wordsAgainst_15 d Q v1 v2 (acc + jSum j (g w)) (nI w) (nI j) σ := by
    intro w hw acc hk r
    have hcc : (nI w).toNatClampNeg = w := nI_clamp (by omega)
    induction r with
    | zero =>
      intro j hj
      obtain rfl : j = 2 := by omega
      exact bX2_wordsAgainst_15 (fun _ => hk) (lpX (N := 2) (by decide)) (lpX (N := 2) (by decide)) (lpX (N := 2) (by decide)) (lpX (N := 2) (by decide)) (lpX (N := 2) (by decide)) (lpX (N := 2) (by decide)) (lpX (N := 2) (by decide))
    | succ r ih =>
      intro j hj
      have hj0 : j < 2 := by omega
      have e5 : (nI w * 2) + nI j = nI (2 * w + j) := by rw [show nI w * 2 = nI (w * 2) from ix_mul w 2, nI_add]; congr 1; omega
      have h := ih (j + 1) (by omega)
      rw [show jSum (j + 1) (g w) = jSum j (g w) + g w j from rfl, ← Int32.add_assoc, ← nI_1] at h
      refine bX2_wordsAgainst_15 (lpN (N := 2) hj0 (by decide)) (fun _ => o2) (fun _ => vp_in_nI hw (by decide)) (fun _ c => ?_) (fun _ c c2 => ?_) (fun _ _ _ => o1) (fun _ _ _ => by rw [e5]; exact vp_in_nI (by omega) (by decide)) (fun _ c c2 => ?_)
      · rw [hcc] at c
        have e : g w j = 0 := by rw [hg]; simp only [c, if_true]
        rw [e, Int32.add_zero] at h
        exact h
      · rw [hcc] at c c2
        have e : g w j = 0 := by rw [hg]; simp only [c2, if_true]; split <;> rfl
        rw [e, Int32.add_zero] at h
        exact h
      · rw [hcc] at c c2
        have e : g w j = σ 40 v1.toNatClampNeg (2 * w + j) := by rw [hg]; simp only [c, c2, if_false]
        rw [e5, nI_clamp (by omega)]
        rw [e] at h
        exact h
  have key : ∀ r j, j + r = 6 → kX2_wordsAgainst_5 d Q v1 v2 (jSum j (fun w => jSum 2 (g w))) (nI j) σ := by
    intro r
    induction r with
    | zero =>
      intro j hj
      obtain rfl : j = 6 := by omega
      exact bX2_wordsAgainst_5 (fun _ => hq) (lpX (N := 6) (by decide))
    | succ r ih =>
      intro j hj
      have hj0 : j < 6 := by omega
      refine bX2_wordsAgainst_5 (lpN (N := 6) hj0 (by decide)) (fun _ => ?_)
      have h := inner j hj0 (jSum j (fun w => jSum 2 (g w))) (by rw [nI_1]; exact ih (j + 1) (by omega)) 2 0 rfl
      rw [show jSum 0 (g j) = 0 from rfl, Int32.add_zero] at h
      exact h
  exact eX2_wordsAgainst (bX2_wordsAgainst_0 (key 6 0 rfl))
abbrev kX6_formesWith_0 (d : Nat) (Q : Option ps_V → ps_S → Prop) (i0 : Nat) (v1 : Int32) (σ : ps_S) : Prop := ps_K mX6_formesWith d (ps_QF Q) 0 [some (.inr (.inr (21, i0))), some (.inl v1), none, none] [] σ
abbrev kX6_formesWith_4 (d : Nat) (Q : Option ps_V → ps_S → Prop) (i0 : Nat) (v1 : Int32) (v2 : Int32) (v3 : Int32) (σ : ps_S) : Prop := ps_K mX6_formesWith d (ps_QF Q) 4 [some (.inr (.inr (21, i0))), some (.inl v1), some (.inl v2), some (.inl v3)] [] σ
theorem bX6_formesWith_0 {d : Nat} {Q : Option ps_V → ps_S → Prop} {i0 : Nat} {v1 : Int32} {σ : ps_S} (h1 : kX6_formesWith_4 d Q i0 v1 0 0 σ) : kX6_formesWith_0 d Q i0 v1 σ := by
  refine ps_iconst (x := 0) (ps_at tX6_formesWith_ok 0 rfl) (by decide) ?_
  refine ps_istore_n (L' := [some (.inr (.inr (21, i0))), some (.inl v1), some (.inl 0), none]) (ps_at tX6_formesWith_ok 1 rfl) rfl (by decide) rfl ?_
  refine ps_iconst (x := 0) (ps_at tX6_formesWith_ok 2 rfl) (by decide) ?_
  refine ps_istore_n (L' := [some (.inr (.inr (21, i0))), some (.inl v1), some (.inl 0), some (.inl 0)]) (ps_at tX6_formesWith_ok 3 rfl) rfl (by decide) rfl ?_
  exact h1
theorem bX6_formesWith_4 {d : Nat} {Q : Option ps_V → ps_S → Prop} {i0 : Nat} {v1 : Int32} {v2 : Int32} {v3 : Int32} {σ : ps_S} (h1 : 6 ≤ v3 → Q (some (.inl v2)) σ) (h2 : ¬ 6 ≤ v3 → vp_in v3 6) (h3 : ¬ 6 ≤ v3 → ¬ (σ 21 i0 v3.toNatClampNeg) = v1 → kX6_formesWith_4 d Q i0 v1 v2 (v3 + 1) σ) (h4 : ¬ 6 ≤ v3 → (σ 21 i0 v3.toNatClampNeg) = v1 → kX6_formesWith_4 d Q i0 v1 (v2 ||| ((1 : Int32) <<< (v3 &&& 31))) (v3 + 1) σ) : kX6_formesWith_4 d Q i0 v1 v2 v3 σ := by
  refine ps_iload_n (ps_at tX6_formesWith_ok 4 rfl) rfl rfl ?_
  refine ps_bipush (x := 6) (ps_at tX6_formesWith_ok 5 rfl) (by decide) ?_
  refine ps_icmp_ge (tgt := 29) (ps_at tX6_formesWith_ok 6 rfl) (by decide) (fun c0 => ?_) (fun c0 => ?_)
  · skip
    refine ps_iload_n (ps_at tX6_formesWith_ok 20 rfl) rfl rfl ?_
    exact ps_iret (ps_at tX6_formesWith_ok 21 rfl) rfl ⟨rfl, rfl⟩ (h1 c0)
  · skip
    refine ps_aload_n (ps_at tX6_formesWith_ok 7 rfl) rfl rfl ?_
    refine ps_iload_n (ps_at tX6_formesWith_ok 8 rfl) rfl rfl ?_
    refine ps_iald (ps_at tX6_formesWith_ok 9 rfl) sh_21 (h2 c0) ?_
    refine ps_iload_n (ps_at tX6_formesWith_ok 10 rfl) rfl rfl ?_
    refine ps_icmp_ne (tgt := 23) (ps_at tX6_formesWith_ok 11 rfl) (by decide) (fun c1 => ?_) (fun c1 => ?_)
    · skip
      refine ps_iinc (L' := [some (.inr (.inr (21, i0))), some (.inl v1), some (.inl v2), some (.inl (v3 + 1))]) (y := 1) (ps_at tX6_formesWith_ok 18 rfl) rfl (by decide) (by decide) rfl ?_
      refine ps_goto (tgt := 4) (ps_at tX6_formesWith_ok 19 rfl) (by decide) ?_
      exact h3 c0 c1
    · skip
      refine ps_iload_n (ps_at tX6_formesWith_ok 12 rfl) rfl rfl ?_
      refine ps_iconst (x := 1) (ps_at tX6_formesWith_ok 13 rfl) (by decide) ?_
      refine ps_iload_n (ps_at tX6_formesWith_ok 14 rfl) rfl rfl ?_
      refine ps_ishl (ps_at tX6_formesWith_ok 15 rfl) ?_
      refine ps_ior (ps_at tX6_formesWith_ok 16 rfl) ?_
      refine ps_istore_n (L' := [some (.inr (.inr (21, i0))), some (.inl v1), some (.inl (v2 ||| ((1 : Int32) <<< (v3 &&& 31)))), some (.inl v3)]) (ps_at tX6_formesWith_ok 17 rfl) rfl (by decide) rfl ?_
      refine ps_iinc (L' := [some (.inr (.inr (21, i0))), some (.inl v1), some (.inl (v2 ||| ((1 : Int32) <<< (v3 &&& 31)))), some (.inl (v3 + 1))]) (y := 1) (ps_at tX6_formesWith_ok 18 rfl) rfl (by decide) (by decide) rfl ?_
      refine ps_goto (tgt := 4) (ps_at tX6_formesWith_ok 19 rfl) (by decide) ?_
      exact h4 c0 c1
theorem eX6_formesWith {d : Nat} {Q : Option ps_V → ps_S → Prop} {i0 : Nat} {v1 : Int32} {σ : ps_S} (h : kX6_formesWith_0 d Q i0 v1 σ) : ps_C mX6_formesWith d [.inr (.inr (21, i0)), .inl v1] σ Q := ps_enter (by decide) rfl ⟨rfl, rfl, rfl⟩ rfl (Nat.le_of_ble_eq_true rfl) h
theorem pX6_formesWith {d : Nat} {Q : Option ps_V → ps_S → Prop} {i0 : Nat} {v1 : Int32} {σ : ps_S}  (hq : Q (some (.inl (nI (mkN 6 (fun f => σ 21 i0 f = v1))))) σ) : ps_C mX6_formesWith d [.inr (.inr (21, i0)), .inl v1] σ Q := by
  have key : ∀ r j, j + r = 6 → kX6_formesWith_4 d Q i0 v1 (nI (mkN j (fun f => σ 21 i0 f = v1))) (nI j) σ := by
    intro r
    induction r with
    | zero =>
      intro j hj
      obtain rfl : j = 6 := by omega
      exact bX6_formesWith_4 (fun _ => hq) (lpX (N := 6) (by decide)) (lpX (N := 6) (by decide)) (lpX (N := 6) (by decide))
    | succ r ih =>
      intro j hj
      have hj0 : j < 6 := by omega
      have hjc : (nI j).toNatClampNeg = j := nI_clamp (by omega)
      refine bX6_formesWith_4 (lpN (N := 6) hj0 (by decide)) (fun _ => vp_in_nI hj0 (by decide)) (fun _ c => ?_) (fun _ c => ?_)
      · rw [hjc] at c
        rw [nI_1, mk_f (P := fun f => σ 21 i0 f = v1) c]
        exact ih (j + 1) (by omega)
      · rw [hjc] at c
        rw [nI_1, mk_t (P := fun f => σ 21 i0 f = v1) (by omega) c]
        exact ih (j + 1) (by omega)
  exact eX6_formesWith (bX6_formesWith_0 (key 6 0 rfl))
abbrev kX6_ringSize_0 (d : Nat) (Q : Option ps_V → ps_S → Prop)  (σ : ps_S) : Prop := ps_K mX6_ringSize d (ps_QF Q) 0 [some (.inr (.inr (19, 0))), none, none] [] σ
abbrev kX6_ringSize_4 (d : Nat) (Q : Option ps_V → ps_S → Prop) (v1 : Int32) (v2 : Int32) (σ : ps_S) : Prop := ps_K mX6_ringSize d (ps_QF Q) 4 [some (.inr (.inr (19, 0))), some (.inl v1), some (.inl v2)] [] σ
theorem bX6_ringSize_0 {d : Nat} {Q : Option ps_V → ps_S → Prop}  {σ : ps_S} (h1 : kX6_ringSize_4 d Q 0 0 σ) : kX6_ringSize_0 d Q σ := by
  refine ps_iconst (x := 0) (ps_at tX6_ringSize_ok 0 rfl) (by decide) ?_
  refine ps_istore_n (L' := [some (.inr (.inr (19, 0))), some (.inl 0), none]) (ps_at tX6_ringSize_ok 1 rfl) rfl (by decide) rfl ?_
  refine ps_iconst (x := 0) (ps_at tX6_ringSize_ok 2 rfl) (by decide) ?_
  refine ps_istore_n (L' := [some (.inr (.inr (19, 0))), some (.inl 0), some (.inl 0)]) (ps_at tX6_ringSize_ok 3 rfl) rfl (by decide) rfl ?_
  exact h1
theorem bX6_ringSize_4 {d : Nat} {Q : Option ps_V → ps_S → Prop} {v1 : Int32} {v2 : Int32} {σ : ps_S} (h1 : 6 ≤ v2 → Q (some (.inl v1)) σ) (h2 : ¬ 6 ≤ v2 → vp_in v2 6) (h3 : ¬ 6 ≤ v2 → kX6_ringSize_4 d Q (v1 + (((σ 23 0 v2.toNatClampNeg) >>> (v2 &&& 31)) &&& 1)) (v2 + 1) σ) : kX6_ringSize_4 d Q v1 v2 σ := by
  refine ps_iload_n (ps_at tX6_ringSize_ok 4 rfl) rfl rfl ?_
  refine ps_bipush (x := 6) (ps_at tX6_ringSize_ok 5 rfl) (by decide) ?_
  refine ps_icmp_ge (tgt := 29) (ps_at tX6_ringSize_ok 6 rfl) (by decide) (fun c0 => ?_) (fun c0 => ?_)
  · skip
    refine ps_iload_n (ps_at tX6_ringSize_ok 20 rfl) rfl rfl ?_
    exact ps_iret (ps_at tX6_ringSize_ok 21 rfl) rfl ⟨rfl, rfl⟩ (h1 c0)
  · skip
    refine ps_iload_n (ps_at tX6_ringSize_ok 7 rfl) rfl rfl ?_
    refine ps_aload_n (ps_at tX6_ringSize_ok 8 rfl) rfl rfl ?_
    refine ps_getR (ps_at tX6_ringSize_ok 9 rfl) flX6_20 sh_19 rfl ?_
    refine ps_iload_n (ps_at tX6_ringSize_ok 10 rfl) rfl rfl ?_
    refine ps_iald (ps_at tX6_ringSize_ok 11 rfl) sh_23 (h2 c0) ?_
    refine ps_iload_n (ps_at tX6_ringSize_ok 12 rfl) rfl rfl ?_
    refine ps_ishr (ps_at tX6_ringSize_ok 13 rfl) ?_
    refine ps_iconst (x := 1) (ps_at tX6_ringSize_ok 14 rfl) (by decide) ?_
    refine ps_iand (ps_at tX6_ringSize_ok 15 rfl) ?_
    refine ps_iadd (ps_at tX6_ringSize_ok 16 rfl) ?_
    refine ps_istore_n (L' := [some (.inr (.inr (19, 0))), some (.inl (v1 + (((σ 23 0 v2.toNatClampNeg) >>> (v2 &&& 31)) &&& 1))), some (.inl v2)]) (ps_at tX6_ringSize_ok 17 rfl) rfl (by decide) rfl ?_
    refine ps_iinc (L' := [some (.inr (.inr (19, 0))), some (.inl (v1 + (((σ 23 0 v2.toNatClampNeg) >>> (v2 &&& 31)) &&& 1))), some (.inl (v2 + 1))]) (y := 1) (ps_at tX6_ringSize_ok 18 rfl) rfl (by decide) (by decide) rfl ?_
    refine ps_goto (tgt := 4) (ps_at tX6_ringSize_ok 19 rfl) (by decide) ?_
    exact h3 c0
theorem eX6_ringSize {d : Nat} {Q : Option ps_V → ps_S → Prop}  {σ : ps_S} (h : kX6_ringSize_0 d Q σ) : ps_C mX6_ringSize d [.inr (.inr (19, 0))] σ Q := ps_enter (by decide) rfl ⟨rfl, rfl, rfl⟩ rfl (Nat.le_of_ble_eq_true rfl) h
theorem pX6_ringSize {d : Nat} {Q : Option ps_V → ps_S → Prop}  {σ : ps_S}  (hq : Q (some (.inl (jSum 6 (fun f => (σ 23 0 f >>> (nI f &&& 31)) &&& 1)))) σ) : ps_C mX6_ringSize d [.inr (.inr (19, 0))] σ Q := by
  have key : ∀ r j, j + r = 6 → kX6_ringSize_4 d Q (jSum j (fun f => (σ 23 0 f >>> (nI f &&& 31)) &&& 1)) (nI j) σ := by
    intro r
    induction r with
    | zero =>
      intro j hj
      obtain rfl : j = 6 := by omega
      exact bX6_ringSize_4 (fun _ => hq) (lpX (N := 6) (by decide)) (lpX (N := 6) (by decide))
    | succ r ih =>
      intro j hj
      have hj0 : j < 6 := by omega
      have hjc : (nI j).toNatClampNeg = j := nI_clamp (by omega)
      have h := ih (j + 1) (by omega)
      rw [← nI_1] at h
      refine bX6_ringSize_4 (lpN (N := 6) hj0 (by decide)) (fun _ => vp_in_nI hj0 (by decide)) (fun _ => ?_)
      rw [hjc]
      exact h
  exact eX6_ringSize (bX6_ringSize_0 (key 6 0 rfl))
abbrev kX7_countReadings_0 (d : Nat) (Q : Option ps_V → ps_S → Prop)  (σ : ps_S) : Prop := ps_K mX7_countReadings (d + 1) (ps_QF Q) 0 [some (.inr (.inr (1, 0))), none, none] [] σ
abbrev kX7_countReadings_4 (d : Nat) (Q : Option ps_V → ps_S → Prop) (v1 : Int32) (v2 : Int32) (σ : ps_S) : Prop := ps_K mX7_countReadings (d + 1) (ps_QF Q) 4 [some (.inr (.inr (1, 0))), some (.inl v1), some (.inl v2)] [] σ
theorem bX7_countReadings_0 {d : Nat} {Q : Option ps_V → ps_S → Prop}  {σ : ps_S} (h1 : kX7_countReadings_4 d Q 0 0 σ) : kX7_countReadings_0 d Q σ := by
  refine ps_iconst (x := 0) (ps_at tX7_countReadings_ok 0 rfl) (by decide) ?_
  refine ps_istore_n (L' := [some (.inr (.inr (1, 0))), some (.inl 0), none]) (ps_at tX7_countReadings_ok 1 rfl) rfl (by decide) rfl ?_
  refine ps_iconst (x := 0) (ps_at tX7_countReadings_ok 2 rfl) (by decide) ?_
  refine ps_istore_n (L' := [some (.inr (.inr (1, 0))), some (.inl 0), some (.inl 0)]) (ps_at tX7_countReadings_ok 3 rfl) rfl (by decide) rfl ?_
  exact h1
theorem bX7_countReadings_4 {d : Nat} {Q : Option ps_V → ps_S → Prop} {v1 : Int32} {v2 : Int32} {σ : ps_S} (h1 : 6 ≤ v2 → Q (some (.inl v1)) σ) (h2 : ¬ 6 ≤ v2 → vp_in v2 6) (h3 : ¬ 6 ≤ v2 → kX7_countReadings_4 d Q (v1 + (nI (sumN 9 (fun c => cntN 6 (fun p => ¬ σ 5 (9 * v2.toNatClampNeg + c) p = -900009))))) (v2 + 1) σ) : kX7_countReadings_4 d Q v1 v2 σ := by
  refine ps_iload_n (ps_at tX7_countReadings_ok 4 rfl) rfl rfl ?_
  refine ps_bipush (x := 6) (ps_at tX7_countReadings_ok 5 rfl) (by decide) ?_
  refine ps_icmp_ge (tgt := 28) (ps_at tX7_countReadings_ok 6 rfl) (by decide) (fun c0 => ?_) (fun c0 => ?_)
  · skip
    refine ps_iload_n (ps_at tX7_countReadings_ok 17 rfl) rfl rfl ?_
    exact ps_iret (ps_at tX7_countReadings_ok 18 rfl) rfl ⟨rfl, rfl⟩ (h1 c0)
  · skip
    refine ps_iload_n (ps_at tX7_countReadings_ok 7 rfl) rfl rfl ?_
    refine ps_aload_n (ps_at tX7_countReadings_ok 8 rfl) rfl rfl ?_
    refine ps_getR (ps_at tX7_countReadings_ok 9 rfl) flX7_11 sh_1 rfl ?_
    refine ps_iload_n (ps_at tX7_countReadings_ok 10 rfl) rfl rfl ?_
    refine ps_aald0 (ps_at tX7_countReadings_ok 11 rfl) sh_2 (Or.inr rfl) (h2 c0) ?_
    refine ps_callV (M2 := mX0_readingCount) (av := []) (rest := [.inl v1]) (ps_at tX7_countReadings_ok 12 rfl) cvX7_241 sh_3 rfl rfl (fun _ => Nat.le_of_ble_eq_true rfl) (pX0_readingCount ?_)
    refine ps_iadd (ps_at tX7_countReadings_ok 13 rfl) ?_
    refine ps_istore_n (L' := [some (.inr (.inr (1, 0))), some (.inl (v1 + (nI (sumN 9 (fun c => cntN 6 (fun p => ¬ σ 5 (9 * v2.toNatClampNeg + c) p = -900009)))))), some (.inl v2)]) (ps_at tX7_countReadings_ok 14 rfl) rfl (by decide) rfl ?_
    refine ps_iinc (L' := [some (.inr (.inr (1, 0))), some (.inl (v1 + (nI (sumN 9 (fun c => cntN 6 (fun p => ¬ σ 5 (9 * v2.toNatClampNeg + c) p = -900009)))))), some (.inl (v2 + 1))]) (y := 1) (ps_at tX7_countReadings_ok 15 rfl) rfl (by decide) (by decide) rfl ?_
    refine ps_goto (tgt := 4) (ps_at tX7_countReadings_ok 16 rfl) (by decide) ?_
    exact h3 c0
theorem eX7_countReadings {d : Nat} {Q : Option ps_V → ps_S → Prop}  {σ : ps_S} (h : kX7_countReadings_0 d Q σ) : ps_C mX7_countReadings (d + 1) [.inr (.inr (1, 0))] σ Q := ps_enter (by decide) rfl ⟨rfl, rfl, rfl⟩ rfl (Nat.le_of_ble_eq_true rfl) h
theorem pX7_countReadings {d : Nat} {Q : Option ps_V → ps_S → Prop}  {σ : ps_S}  (hq : Q (some (.inl (jSum 6 (fun f => nI (sumN 9 (fun c => cntN 6 (fun p => ¬ σ 5 (9 * f + c) p = -900009))))))) σ) : ps_C mX7_countReadings (d + 1) [.inr (.inr (1, 0))] σ Q := by
  have key : ∀ r j, j + r = 6 → kX7_countReadings_4 d Q (jSum j (fun f => nI (sumN 9 (fun c => cntN 6 (fun p => ¬ σ 5 (9 * f + c) p = -900009))))) (nI j) σ := by
    intro r
    induction r with
    | zero =>
      intro j hj
      obtain rfl : j = 6 := by omega
      exact bX7_countReadings_4 (fun _ => hq) (lpX (N := 6) (by decide)) (lpX (N := 6) (by decide))
    | succ r ih =>
      intro j hj
      have hj0 : j < 6 := by omega
      have hjc : (nI j).toNatClampNeg = j := nI_clamp (by omega)
      have h := ih (j + 1) (by omega)
      rw [← nI_1] at h
      refine bX7_countReadings_4 (lpN (N := 6) hj0 (by decide)) (fun _ => vp_in_nI hj0 (by decide)) (fun _ => ?_)
      rw [hjc]
      exact h
  exact eX7_countReadings (bX7_countReadings_0 (key 6 0 rfl))
abbrev kX7_countAhead_0 (d : Nat) (Q : Option ps_V → ps_S → Prop)  (σ : ps_S) : Prop := ps_K mX7_countAhead (d + 2) (ps_QF Q) 0 [some (.inr (.inr (1, 0))), none, none] [] σ
abbrev kX7_countAhead_4 (d : Nat) (Q : Option ps_V → ps_S → Prop) (v1 : Int32) (v2 : Int32) (σ : ps_S) : Prop := ps_K mX7_countAhead (d + 2) (ps_QF Q) 4 [some (.inr (.inr (1, 0))), some (.inl v1), some (.inl v2)] [] σ
theorem bX7_countAhead_0 {d : Nat} {Q : Option ps_V → ps_S → Prop}  {σ : ps_S} (h1 : kX7_countAhead_4 d Q 0 0 σ) : kX7_countAhead_0 d Q σ := by
  refine ps_iconst (x := 0) (ps_at tX7_countAhead_ok 0 rfl) (by decide) ?_
  refine ps_istore_n (L' := [some (.inr (.inr (1, 0))), some (.inl 0), none]) (ps_at tX7_countAhead_ok 1 rfl) rfl (by decide) rfl ?_
  refine ps_iconst (x := 0) (ps_at tX7_countAhead_ok 2 rfl) (by decide) ?_
  refine ps_istore_n (L' := [some (.inr (.inr (1, 0))), some (.inl 0), some (.inl 0)]) (ps_at tX7_countAhead_ok 3 rfl) rfl (by decide) rfl ?_
  exact h1
theorem bX7_countAhead_4 {d : Nat} {Q : Option ps_V → ps_S → Prop} {v1 : Int32} {v2 : Int32} {σ : ps_S} (h1 : 6 ≤ v2 → Q (some (.inl v1)) σ) (h2 : ¬ 6 ≤ v2 → vp_in v2 6) (h3 : ¬ 6 ≤ v2 → kX7_countAhead_4 d Q (v1 + (jSum 9 (fun a => jbPop (σ 6 v2.toNatClampNeg a)))) (v2 + 1) σ) : kX7_countAhead_4 d Q v1 v2 σ := by
  refine ps_iload_n (ps_at tX7_countAhead_ok 4 rfl) rfl rfl ?_
  refine ps_bipush (x := 6) (ps_at tX7_countAhead_ok 5 rfl) (by decide) ?_
  refine ps_icmp_ge (tgt := 28) (ps_at tX7_countAhead_ok 6 rfl) (by decide) (fun c0 => ?_) (fun c0 => ?_)
  · skip
    refine ps_iload_n (ps_at tX7_countAhead_ok 17 rfl) rfl rfl ?_
    exact ps_iret (ps_at tX7_countAhead_ok 18 rfl) rfl ⟨rfl, rfl⟩ (h1 c0)
  · skip
    refine ps_iload_n (ps_at tX7_countAhead_ok 7 rfl) rfl rfl ?_
    refine ps_aload_n (ps_at tX7_countAhead_ok 8 rfl) rfl rfl ?_
    refine ps_getR (ps_at tX7_countAhead_ok 9 rfl) flX7_11 sh_1 rfl ?_
    refine ps_iload_n (ps_at tX7_countAhead_ok 10 rfl) rfl rfl ?_
    refine ps_aald0 (ps_at tX7_countAhead_ok 11 rfl) sh_2 (Or.inr rfl) (h2 c0) ?_
    refine ps_callV (M2 := mX0_aheadCount) (av := []) (rest := [.inl v1]) (ps_at tX7_countAhead_ok 12 rfl) cvX7_244 sh_3 rfl rfl (fun _ => Nat.le_of_ble_eq_true rfl) (pX0_aheadCount ?_)
    refine ps_iadd (ps_at tX7_countAhead_ok 13 rfl) ?_
    refine ps_istore_n (L' := [some (.inr (.inr (1, 0))), some (.inl (v1 + (jSum 9 (fun a => jbPop (σ 6 v2.toNatClampNeg a))))), some (.inl v2)]) (ps_at tX7_countAhead_ok 14 rfl) rfl (by decide) rfl ?_
    refine ps_iinc (L' := [some (.inr (.inr (1, 0))), some (.inl (v1 + (jSum 9 (fun a => jbPop (σ 6 v2.toNatClampNeg a))))), some (.inl (v2 + 1))]) (y := 1) (ps_at tX7_countAhead_ok 15 rfl) rfl (by decide) (by decide) rfl ?_
    refine ps_goto (tgt := 4) (ps_at tX7_countAhead_ok 16 rfl) (by decide) ?_
    exact h3 c0
theorem eX7_countAhead {d : Nat} {Q : Option ps_V → ps_S → Prop}  {σ : ps_S} (h : kX7_countAhead_0 d Q σ) : ps_C mX7_countAhead (d + 2) [.inr (.inr (1, 0))] σ Q := ps_enter (by decide) rfl ⟨rfl, rfl, rfl⟩ rfl (Nat.le_of_ble_eq_true rfl) h
theorem pX7_countAhead {d : Nat} {Q : Option ps_V → ps_S → Prop}  {σ : ps_S}  (hq : Q (some (.inl (jSum 6 (fun f => jSum 9 (fun a => jbPop (σ 6 f a)))))) σ) : ps_C mX7_countAhead (d + 2) [.inr (.inr (1, 0))] σ Q := by
  have key : ∀ r j, j + r = 6 → kX7_countAhead_4 d Q (jSum j (fun f => jSum 9 (fun a => jbPop (σ 6 f a)))) (nI j) σ := by
    intro r
    induction r with
    | zero =>
      intro j hj
      obtain rfl : j = 6 := by omega
      exact bX7_countAhead_4 (fun _ => hq) (lpX (N := 6) (by decide)) (lpX (N := 6) (by decide))
    | succ r ih =>
      intro j hj
      have hj0 : j < 6 := by omega
      have hjc : (nI j).toNatClampNeg = j := nI_clamp (by omega)
      have h := ih (j + 1) (by omega)
      rw [← nI_1] at h
      refine bX7_countAhead_4 (lpN (N := 6) hj0 (by decide)) (fun _ => vp_in_nI hj0 (by decide)) (fun _ => ?_)
      rw [hjc]
      exact h
  exact eX7_countAhead (bX7_countAhead_0 (key 6 0 rfl))
abbrev kX8_isLooked_0 (d : Nat) (Q : Option ps_V → ps_S → Prop) (v1 : Int32) (v2 : Int32) (σ : ps_S) : Prop := ps_K mX8_isLooked (d + 1) (ps_QF Q) 0 [some (.inr (.inr (50, 0))), some (.inl v1), some (.inl v2), none, none] [] σ
abbrev kX8_isLooked_5 (d : Nat) (Q : Option ps_V → ps_S → Prop) (v1 : Int32) (v2 : Int32) (v3 : Int32) (v4 : Int32) (σ : ps_S) : Prop := ps_K mX8_isLooked (d + 1) (ps_QF Q) 5 [some (.inr (.inr (50, 0))), some (.inl v1), some (.inl v2), some (.inl v3), some (.inl v4)] [] σ
theorem bX8_isLooked_0 {d : Nat} {Q : Option ps_V → ps_S → Prop} {v1 : Int32} {v2 : Int32} {σ : ps_S} (h1 : kX8_isLooked_5 d Q v1 v2 0 0 σ) : kX8_isLooked_0 d Q v1 v2 σ := by
  refine ps_iconst (x := 0) (ps_at tX8_isLooked_ok 0 rfl) (by decide) ?_
  refine ps_istore_n (L' := [some (.inr (.inr (50, 0))), some (.inl v1), some (.inl v2), some (.inl 0), none]) (ps_at tX8_isLooked_ok 1 rfl) rfl (by decide) rfl ?_
  refine ps_iconst (x := 0) (ps_at tX8_isLooked_ok 2 rfl) (by decide) ?_
  refine ps_istore (L' := [some (.inr (.inr (50, 0))), some (.inl v1), some (.inl v2), some (.inl 0), some (.inl 0)]) (ps_at tX8_isLooked_ok 3 rfl) (by decide) rfl ?_
  exact h1
theorem bX8_isLooked_5 {d : Nat} {Q : Option ps_V → ps_S → Prop} {v1 : Int32} {v2 : Int32} {v3 : Int32} {v4 : Int32} {σ : ps_S} (h1 : 6 ≤ v4 → (v3 = 0 ∨ v3 = 1)) (h2 : 6 ≤ v4 → Q (some (.inl v3)) σ) (h3 : ¬ 6 ≤ v4 → ¬ v3 = 0 → kX8_isLooked_5 d Q v1 v2 1 (v4 + 1) σ) (h4 : ¬ 6 ≤ v4 → v3 = 0 → vp_in (((54 * v1) + (6 * v2)) + v4) 324) (h5 : ¬ 6 ≤ v4 → v3 = 0 → (jX8_letterAt σ v1 v2 v4) = (-900009) → kX8_isLooked_5 d Q v1 v2 0 (v4 + 1) σ) (h6 : ¬ 6 ≤ v4 → v3 = 0 → ¬ (jX8_letterAt σ v1 v2 v4) = (-900009) → kX8_isLooked_5 d Q v1 v2 1 (v4 + 1) σ) : kX8_isLooked_5 d Q v1 v2 v3 v4 σ := by
  refine ps_iload (ps_at tX8_isLooked_ok 4 rfl) rfl ?_
  refine ps_bipush (x := 6) (ps_at tX8_isLooked_ok 5 rfl) (by decide) ?_
  refine ps_icmp_ge (tgt := 41) (ps_at tX8_isLooked_ok 6 rfl) (by decide) (fun c0 => ?_) (fun c0 => ?_)
  · skip
    refine ps_iload_n (ps_at tX8_isLooked_ok 22 rfl) rfl rfl ?_
    exact ps_zret (ps_at tX8_isLooked_ok 23 rfl) rfl ⟨rfl, rfl⟩ (h1 c0) (h2 c0)
  · skip
    refine ps_iload_n (ps_at tX8_isLooked_ok 7 rfl) rfl rfl ?_
    refine ps_if_ne (tgt := 29) (ps_at tX8_isLooked_ok 8 rfl) (by decide) (fun c1 => ?_) (fun c1 => ?_)
    · skip
      refine ps_iconst (x := 1) (ps_at tX8_isLooked_ok 16 rfl) (by decide) ?_
      refine ps_goto (tgt := 34) (ps_at tX8_isLooked_ok 17 rfl) (by decide) ?_
      refine ps_istore_n (L' := [some (.inr (.inr (50, 0))), some (.inl v1), some (.inl v2), some (.inl 1), some (.inl v4)]) (ps_at tX8_isLooked_ok 19 rfl) rfl (by decide) rfl ?_
      refine ps_iinc (L' := [some (.inr (.inr (50, 0))), some (.inl v1), some (.inl v2), some (.inl 1), some (.inl (v4 + 1))]) (y := 1) (ps_at tX8_isLooked_ok 20 rfl) rfl (by decide) (by decide) rfl ?_
      refine ps_goto (tgt := 5) (ps_at tX8_isLooked_ok 21 rfl) (by decide) ?_
      exact h3 c0 c1
    · skip
      refine ps_aload_n (ps_at tX8_isLooked_ok 9 rfl) rfl rfl ?_
      refine ps_iload_n (ps_at tX8_isLooked_ok 10 rfl) rfl rfl ?_
      refine ps_iload_n (ps_at tX8_isLooked_ok 11 rfl) rfl rfl ?_
      refine ps_iload (ps_at tX8_isLooked_ok 12 rfl) rfl ?_
      refine ps_callV (M2 := mX8_letterAt) (av := [.inl v1, .inl v2, .inl v4]) (rest := []) (ps_at tX8_isLooked_ok 13 rfl) cvX8_116 sh_50 rfl rfl (fun _ => Nat.le_of_ble_eq_true rfl) (pX8_letterAt (h4 c0 c1) ?_)
      refine ps_ldc (ps_at tX8_isLooked_ok 14 rfl) cnX8_96 ?_
      refine ps_icmp_eq (tgt := 33) (ps_at tX8_isLooked_ok 15 rfl) (by decide) (fun c2 => ?_) (fun c2 => ?_)
      · skip
        refine ps_iconst (x := 0) (ps_at tX8_isLooked_ok 18 rfl) (by decide) ?_
        refine ps_istore_n (L' := [some (.inr (.inr (50, 0))), some (.inl v1), some (.inl v2), some (.inl 0), some (.inl v4)]) (ps_at tX8_isLooked_ok 19 rfl) rfl (by decide) rfl ?_
        refine ps_iinc (L' := [some (.inr (.inr (50, 0))), some (.inl v1), some (.inl v2), some (.inl 0), some (.inl (v4 + 1))]) (y := 1) (ps_at tX8_isLooked_ok 20 rfl) rfl (by decide) (by decide) rfl ?_
        refine ps_goto (tgt := 5) (ps_at tX8_isLooked_ok 21 rfl) (by decide) ?_
        exact h5 c0 c1 c2
      · skip
        refine ps_iconst (x := 1) (ps_at tX8_isLooked_ok 16 rfl) (by decide) ?_
        refine ps_goto (tgt := 34) (ps_at tX8_isLooked_ok 17 rfl) (by decide) ?_
        refine ps_istore_n (L' := [some (.inr (.inr (50, 0))), some (.inl v1), some (.inl v2), some (.inl 1), some (.inl v4)]) (ps_at tX8_isLooked_ok 19 rfl) rfl (by decide) rfl ?_
        refine ps_iinc (L' := [some (.inr (.inr (50, 0))), some (.inl v1), some (.inl v2), some (.inl 1), some (.inl (v4 + 1))]) (y := 1) (ps_at tX8_isLooked_ok 20 rfl) rfl (by decide) (by decide) rfl ?_
        refine ps_goto (tgt := 5) (ps_at tX8_isLooked_ok 21 rfl) (by decide) ?_
        exact h6 c0 c1 c2
theorem eX8_isLooked {d : Nat} {Q : Option ps_V → ps_S → Prop} {v1 : Int32} {v2 : Int32} {σ : ps_S} (h : kX8_isLooked_0 d Q v1 v2 σ) : ps_C mX8_isLooked (d + 1) [.inr (.inr (50, 0)), .inl v1, .inl v2] σ Q := ps_enter (by decide) rfl ⟨rfl, rfl, rfl⟩ rfl (Nat.le_of_ble_eq_true rfl) h
theorem pX8_isLooked {d : Nat} {Q : Option ps_V → ps_S → Prop} {v1 v2 : Int32} {σ : ps_S} (o1 : vp_in v1 6) (o2 : vp_in v2 9) (hq : Q (some (.inl (jbP (mLk σ v1.toNatClampNeg v2.toNatClampNeg)))) σ) : ps_C mX8_isLooked (d + 1) [.inr (.inr (50, 0)), .inl v1, .inl v2] σ Q := by
  obtain ⟨f, hf, rfl⟩ := vp_in_of o1 (by decide)
  obtain ⟨c, hc, rfl⟩ := vp_in_of o2 (by decide)
  rw [nI_clamp (by omega), nI_clamp (by omega)] at hq
  have key : ∀ r j, j + r = 6 → kX8_isLooked_5 d Q (nI f) (nI c) (jbP (∃ p, p < j ∧ ¬ σ 51 0 (54 * f + 6 * c + p) = -900009)) (nI j) σ := by
    intro r
    induction r with
    | zero =>
      intro j hj
      obtain rfl : j = 6 := by omega
      exact bX8_isLooked_5 (fun _ => ps_bitP _) (fun _ => hq) (lpX (N := 6) (by decide)) (lpX (N := 6) (by decide)) (lpX (N := 6) (by decide)) (lpX (N := 6) (by decide))
    | succ r ih =>
      intro j hj
      have hj0 : j < 6 := by omega
      have e5 := ix_let hf hc hj0
      have e6 : jX8_letterAt σ (nI f) (nI c) (nI j) = σ 51 0 (54 * f + 6 * c + j) := by unfold jX8_letterAt; rw [e5, nI_clamp (by omega)]
      have h := ih (j + 1) (by omega)
      rw [← nI_1] at h
      refine bX8_isLooked_5 (lpN (N := 6) hj0 (by decide)) (lpN (N := 6) hj0 (by decide)) (fun _ c1 => ?_) (fun _ _ => by rw [e5]; exact vp_in_nI (by omega) (by decide)) (fun _ c1 c2 => ?_) (fun _ c1 c2 => ?_)
      · rw [jbP_0, Classical.not_not] at c1
        obtain ⟨p, hp, hn⟩ := c1
        rw [jbP_t ⟨p, by omega, hn⟩] at h
        exact h
      · rw [jbP_0] at c1
        rw [e6] at c2
        rw [jbP_f] at h
        · exact h
        · rintro ⟨p, hp, hn⟩
          rcases Nat.lt_or_eq_of_le (Nat.le_of_lt_succ hp) with q | q
          · exact c1 ⟨p, q, hn⟩
          · subst q; exact hn c2
      · rw [e6] at c2
        rw [jbP_t ⟨j, by omega, c2⟩] at h
        exact h
  have h0 := key 6 0 rfl
  rw [jbP_f (by rintro ⟨p, hp, _⟩; omega)] at h0
  exact eX8_isLooked (bX8_isLooked_0 h0)
abbrev kX8_agrees_0 (d : Nat) (Q : Option ps_V → ps_S → Prop) (v1 : Int32) (v2 : Int32) (v3 : Int32) (σ : ps_S) : Prop := ps_K mX8_agrees (d + 1) (ps_QF Q) 0 [some (.inr (.inr (50, 0))), some (.inl v1), some (.inl v2), some (.inl v3), none, none, none, none] [] σ
abbrev kX8_agrees_6 (d : Nat) (Q : Option ps_V → ps_S → Prop) (v1 : Int32) (v2 : Int32) (v3 : Int32) (v4 : Int32) (v5 : Int32) (σ : ps_S) : Prop := ps_K mX8_agrees (d + 1) (ps_QF Q) 6 [some (.inr (.inr (50, 0))), some (.inl v1), some (.inl v2), some (.inl v3), some (.inl v4), some (.inl v5), none, none] [] σ
theorem bX8_agrees_0 {d : Nat} {Q : Option ps_V → ps_S → Prop} {v1 : Int32} {v2 : Int32} {v3 : Int32} {σ : ps_S} (h1 : kX8_agrees_6 d Q v1 v2 v3 1 0 σ) : kX8_agrees_0 d Q v1 v2 v3 σ := by
  refine ps_iconst (x := 1) (ps_at tX8_agrees_ok 0 rfl) (by decide) ?_
  refine ps_istore (L' := [some (.inr (.inr (50, 0))), some (.inl v1), some (.inl v2), some (.inl v3), some (.inl 1), none, none, none]) (ps_at tX8_agrees_ok 1 rfl) (by decide) rfl ?_
  refine ps_iconst (x := 0) (ps_at tX8_agrees_ok 2 rfl) (by decide) ?_
  refine ps_istore (L' := [some (.inr (.inr (50, 0))), some (.inl v1), some (.inl v2), some (.inl v3), some (.inl 1), some (.inl 0), none, none]) (ps_at tX8_agrees_ok 3 rfl) (by decide) rfl ?_
  exact h1
theorem bX8_agrees_6 {d : Nat} {Q : Option ps_V → ps_S → Prop} {v1 : Int32} {v2 : Int32} {v3 : Int32} {v4 : Int32} {v5 : Int32} {σ : ps_S} (h1 : 6 ≤ v5 → (v4 = 0 ∨ v4 = 1)) (h2 : 6 ≤ v5 → Q (some (.inl v4)) σ) (h3 : ¬ 6 ≤ v5 → vp_in (((54 * v1) + (6 * v2)) + v5) 324) (h4 : ¬ 6 ≤ v5 → vp_in (((54 * v1) + (6 * v3)) + v5) 324) (h5 : ¬ 6 ≤ v5 → v4 = 0 → kX8_agrees_6 d Q v1 v2 v3 0 (v5 + 1) σ) (h6 : ¬ 6 ≤ v5 → ¬ v4 = 0 → (jX8_letterAt σ v1 v2 v5) = (-900009) → kX8_agrees_6 d Q v1 v2 v3 1 (v5 + 1) σ) (h7 : ¬ 6 ≤ v5 → ¬ v4 = 0 → ¬ (jX8_letterAt σ v1 v2 v5) = (-900009) → (jX8_letterAt σ v1 v3 v5) = (-900009) → kX8_agrees_6 d Q v1 v2 v3 1 (v5 + 1) σ) (h8 : ¬ 6 ≤ v5 → ¬ v4 = 0 → ¬ (jX8_letterAt σ v1 v2 v5) = (-900009) → ¬ (jX8_letterAt σ v1 v3 v5) = (-900009) → ¬ (jX8_letterAt σ v1 v2 v5) = (jX8_letterAt σ v1 v3 v5) → kX8_agrees_6 d Q v1 v2 v3 0 (v5 + 1) σ) (h9 : ¬ 6 ≤ v5 → ¬ v4 = 0 → ¬ (jX8_letterAt σ v1 v2 v5) = (-900009) → ¬ (jX8_letterAt σ v1 v3 v5) = (-900009) → (jX8_letterAt σ v1 v2 v5) = (jX8_letterAt σ v1 v3 v5) → kX8_agrees_6 d Q v1 v2 v3 1 (v5 + 1) σ) : kX8_agrees_6 d Q v1 v2 v3 v4 v5 σ := by
  refine ps_iload (ps_at tX8_agrees_ok 4 rfl) rfl ?_
  refine ps_bipush (x := 6) (ps_at tX8_agrees_ok 5 rfl) (by decide) ?_
  refine ps_icmp_ge (tgt := 72) (ps_at tX8_agrees_ok 6 rfl) (by decide) (fun c0 => ?_) (fun c0 => ?_)
  · skip
    refine ps_iload (ps_at tX8_agrees_ok 36 rfl) rfl ?_
    exact ps_zret (ps_at tX8_agrees_ok 37 rfl) rfl ⟨rfl, rfl⟩ (h1 c0) (h2 c0)
  · skip
    refine ps_aload_n (ps_at tX8_agrees_ok 7 rfl) rfl rfl ?_
    refine ps_iload_n (ps_at tX8_agrees_ok 8 rfl) rfl rfl ?_
    refine ps_iload_n (ps_at tX8_agrees_ok 9 rfl) rfl rfl ?_
    refine ps_iload (ps_at tX8_agrees_ok 10 rfl) rfl ?_
    refine ps_callV (M2 := mX8_letterAt) (av := [.inl v1, .inl v2, .inl v5]) (rest := []) (ps_at tX8_agrees_ok 11 rfl) cvX8_116 sh_50 rfl rfl (fun _ => Nat.le_of_ble_eq_true rfl) (pX8_letterAt (h3 c0) ?_)
    refine ps_istore (L' := [some (.inr (.inr (50, 0))), some (.inl v1), some (.inl v2), some (.inl v3), some (.inl v4), some (.inl v5), some (.inl (jX8_letterAt σ v1 v2 v5)), none]) (ps_at tX8_agrees_ok 12 rfl) (by decide) rfl ?_
    refine ps_aload_n (ps_at tX8_agrees_ok 13 rfl) rfl rfl ?_
    refine ps_iload_n (ps_at tX8_agrees_ok 14 rfl) rfl rfl ?_
    refine ps_iload_n (ps_at tX8_agrees_ok 15 rfl) rfl rfl ?_
    refine ps_iload (ps_at tX8_agrees_ok 16 rfl) rfl ?_
    refine ps_callV (M2 := mX8_letterAt) (av := [.inl v1, .inl v3, .inl v5]) (rest := []) (ps_at tX8_agrees_ok 17 rfl) cvX8_116 sh_50 rfl rfl (fun _ => Nat.le_of_ble_eq_true rfl) (pX8_letterAt (h4 c0) ?_)
    refine ps_istore (L' := [some (.inr (.inr (50, 0))), some (.inl v1), some (.inl v2), some (.inl v3), some (.inl v4), some (.inl v5), some (.inl (jX8_letterAt σ v1 v2 v5)), some (.inl (jX8_letterAt σ v1 v3 v5))]) (ps_at tX8_agrees_ok 18 rfl) (by decide) rfl ?_
    refine ps_iload (ps_at tX8_agrees_ok 19 rfl) rfl ?_
    refine ps_if_eq (tgt := 63) (ps_at tX8_agrees_ok 20 rfl) (by decide) (fun c1 => ?_) (fun c1 => ?_)
    · skip
      refine ps_iconst (x := 0) (ps_at tX8_agrees_ok 32 rfl) (by decide) ?_
      refine ps_istore (L' := [some (.inr (.inr (50, 0))), some (.inl v1), some (.inl v2), some (.inl v3), some (.inl 0), some (.inl v5), some (.inl (jX8_letterAt σ v1 v2 v5)), some (.inl (jX8_letterAt σ v1 v3 v5))]) (ps_at tX8_agrees_ok 33 rfl) (by decide) rfl ?_
      refine ps_iinc (L' := [some (.inr (.inr (50, 0))), some (.inl v1), some (.inl v2), some (.inl v3), some (.inl 0), some (.inl (v5 + 1)), some (.inl (jX8_letterAt σ v1 v2 v5)), some (.inl (jX8_letterAt σ v1 v3 v5))]) (y := 1) (ps_at tX8_agrees_ok 34 rfl) rfl (by decide) (by decide) rfl ?_
      refine ps_goto (tgt := 6) (ps_at tX8_agrees_ok 35 rfl) (by decide) ?_
      refine ps_forget (L' := [some (.inr (.inr (50, 0))), some (.inl v1), some (.inl v2), some (.inl v3), some (.inl 0), some (.inl (v5 + 1)), none, none]) (And.intro rfl (And.intro rfl (And.intro rfl (And.intro rfl (And.intro rfl (And.intro rfl trivial)))))) ?_
      exact h5 c0 c1
    · skip
      refine ps_iload (ps_at tX8_agrees_ok 21 rfl) rfl ?_
      refine ps_ldc (ps_at tX8_agrees_ok 22 rfl) cnX8_96 ?_
      refine ps_icmp_eq (tgt := 59) (ps_at tX8_agrees_ok 23 rfl) (by decide) (fun c2 => ?_) (fun c2 => ?_)
      · skip
        refine ps_iconst (x := 1) (ps_at tX8_agrees_ok 30 rfl) (by decide) ?_
        refine ps_goto (tgt := 64) (ps_at tX8_agrees_ok 31 rfl) (by decide) ?_
        refine ps_istore (L' := [some (.inr (.inr (50, 0))), some (.inl v1), some (.inl v2), some (.inl v3), some (.inl 1), some (.inl v5), some (.inl (jX8_letterAt σ v1 v2 v5)), some (.inl (jX8_letterAt σ v1 v3 v5))]) (ps_at tX8_agrees_ok 33 rfl) (by decide) rfl ?_
        refine ps_iinc (L' := [some (.inr (.inr (50, 0))), some (.inl v1), some (.inl v2), some (.inl v3), some (.inl 1), some (.inl (v5 + 1)), some (.inl (jX8_letterAt σ v1 v2 v5)), some (.inl (jX8_letterAt σ v1 v3 v5))]) (y := 1) (ps_at tX8_agrees_ok 34 rfl) rfl (by decide) (by decide) rfl ?_
        refine ps_goto (tgt := 6) (ps_at tX8_agrees_ok 35 rfl) (by decide) ?_
        refine ps_forget (L' := [some (.inr (.inr (50, 0))), some (.inl v1), some (.inl v2), some (.inl v3), some (.inl 1), some (.inl (v5 + 1)), none, none]) (And.intro rfl (And.intro rfl (And.intro rfl (And.intro rfl (And.intro rfl (And.intro rfl trivial)))))) ?_
        exact h6 c0 c1 c2
      · skip
        refine ps_iload (ps_at tX8_agrees_ok 24 rfl) rfl ?_
        refine ps_ldc (ps_at tX8_agrees_ok 25 rfl) cnX8_96 ?_
        refine ps_icmp_eq (tgt := 59) (ps_at tX8_agrees_ok 26 rfl) (by decide) (fun c3 => ?_) (fun c3 => ?_)
        · skip
          refine ps_iconst (x := 1) (ps_at tX8_agrees_ok 30 rfl) (by decide) ?_
          refine ps_goto (tgt := 64) (ps_at tX8_agrees_ok 31 rfl) (by decide) ?_
          refine ps_istore (L' := [some (.inr (.inr (50, 0))), some (.inl v1), some (.inl v2), some (.inl v3), some (.inl 1), some (.inl v5), some (.inl (jX8_letterAt σ v1 v2 v5)), some (.inl (jX8_letterAt σ v1 v3 v5))]) (ps_at tX8_agrees_ok 33 rfl) (by decide) rfl ?_
          refine ps_iinc (L' := [some (.inr (.inr (50, 0))), some (.inl v1), some (.inl v2), some (.inl v3), some (.inl 1), some (.inl (v5 + 1)), some (.inl (jX8_letterAt σ v1 v2 v5)), some (.inl (jX8_letterAt σ v1 v3 v5))]) (y := 1) (ps_at tX8_agrees_ok 34 rfl) rfl (by decide) (by decide) rfl ?_
          refine ps_goto (tgt := 6) (ps_at tX8_agrees_ok 35 rfl) (by decide) ?_
          refine ps_forget (L' := [some (.inr (.inr (50, 0))), some (.inl v1), some (.inl v2), some (.inl v3), some (.inl 1), some (.inl (v5 + 1)), none, none]) (And.intro rfl (And.intro rfl (And.intro rfl (And.intro rfl (And.intro rfl (And.intro rfl trivial)))))) ?_
          exact h7 c0 c1 c2 c3
        · skip
          refine ps_iload (ps_at tX8_agrees_ok 27 rfl) rfl ?_
          refine ps_iload (ps_at tX8_agrees_ok 28 rfl) rfl ?_
          refine ps_icmp_ne (tgt := 63) (ps_at tX8_agrees_ok 29 rfl) (by decide) (fun c4 => ?_) (fun c4 => ?_)
          · skip
            refine ps_iconst (x := 0) (ps_at tX8_agrees_ok 32 rfl) (by decide) ?_
            refine ps_istore (L' := [some (.inr (.inr (50, 0))), some (.inl v1), some (.inl v2), some (.inl v3), some (.inl 0), some (.inl v5), some (.inl (jX8_letterAt σ v1 v2 v5)), some (.inl (jX8_letterAt σ v1 v3 v5))]) (ps_at tX8_agrees_ok 33 rfl) (by decide) rfl ?_
            refine ps_iinc (L' := [some (.inr (.inr (50, 0))), some (.inl v1), some (.inl v2), some (.inl v3), some (.inl 0), some (.inl (v5 + 1)), some (.inl (jX8_letterAt σ v1 v2 v5)), some (.inl (jX8_letterAt σ v1 v3 v5))]) (y := 1) (ps_at tX8_agrees_ok 34 rfl) rfl (by decide) (by decide) rfl ?_
            refine ps_goto (tgt := 6) (ps_at tX8_agrees_ok 35 rfl) (by decide) ?_
            refine ps_forget (L' := [some (.inr (.inr (50, 0))), some (.inl v1), some (.inl v2), some (.inl v3), some (.inl 0), some (.inl (v5 + 1)), none, none]) (And.intro rfl (And.intro rfl (And.intro rfl (And.intro rfl (And.intro rfl (And.intro rfl trivial)))))) ?_
            exact h8 c0 c1 c2 c3 c4
          · skip
            refine ps_iconst (x := 1) (ps_at tX8_agrees_ok 30 rfl) (by decide) ?_
            refine ps_goto (tgt := 64) (ps_at tX8_agrees_ok 31 rfl) (by decide) ?_
            refine ps_istore (L' := [some (.inr (.inr (50, 0))), some (.inl v1), some (.inl v2), some (.inl v3), some (.inl 1), some (.inl v5), some (.inl (jX8_letterAt σ v1 v2 v5)), some (.inl (jX8_letterAt σ v1 v3 v5))]) (ps_at tX8_agrees_ok 33 rfl) (by decide) rfl ?_
            refine ps_iinc (L' := [some (.inr (.inr (50, 0))), some (.inl v1), some (.inl v2), some (.inl v3), some (.inl 1), some (.inl (v5 + 1)), some (.inl (jX8_letterAt σ v1 v2 v5)), some (.inl (jX8_letterAt σ v1 v3 v5))]) (y := 1) (ps_at tX8_agrees_ok 34 rfl) rfl (by decide) (by decide) rfl ?_
            refine ps_goto (tgt := 6) (ps_at tX8_agrees_ok 35 rfl) (by decide) ?_
            refine ps_forget (L' := [some (.inr (.inr (50, 0))), some (.inl v1), some (.inl v2), some (.inl v3), some (.inl 1), some (.inl (v5 + 1)), none, none]) (And.intro rfl (And.intro rfl (And.intro rfl (And.intro rfl (And.intro rfl (And.intro rfl trivial)))))) ?_
            exact h9 c0 c1 c2 c3 c4
theorem eX8_agrees {d : Nat} {Q : Option ps_V → ps_S → Prop} {v1 : Int32} {v2 : Int32} {v3 : Int32} {σ : ps_S} (h : kX8_agrees_0 d Q v1 v2 v3 σ) : ps_C mX8_agrees (d + 1) [.inr (.inr (50, 0)), .inl v1, .inl v2, .inl v3] σ Q := ps_enter (by decide) rfl ⟨rfl, rfl, rfl⟩ rfl (Nat.le_of_ble_eq_true rfl) h
theorem pX8_agrees {d : Nat} {Q : Option ps_V → ps_S → Prop} {v1 v2 v3 : Int32} {σ : ps_S} (o1 : vp_in v1 6) (o2 : vp_in v2 9) (o3 : vp_in v3 9) (hq : Q (some (.inl (jbP (mAlk σ v1.toNatClampNeg v2.toNatClampNeg v3.toNatClampNeg)))) σ) : ps_C mX8_agrees (d + 1) [.inr (.inr (50, 0)), .inl v1, .inl v2, .inl v3] σ Q := by
  obtain ⟨f, hf, rfl⟩ := vp_in_of o1 (by decide)
  obtain ⟨a, ha, rfl⟩ := vp_in_of o2 (by decide)
  obtain ⟨b, hb, rfl⟩ := vp_in_of o3 (by decide)
  rw [nI_clamp (by omega), nI_clamp (by omega), nI_clamp (by omega)] at hq
  have key : ∀ r j, j + r = 6 → kX8_agrees_6 d Q (nI f) (nI a) (nI b) (jbP (∀ p, p < j → jbUn (σ 51 0 (54 * f + 6 * a + p)) (σ 51 0 (54 * f + 6 * b + p)) = 0)) (nI j) σ := by
    intro r
    induction r with
    | zero =>
      intro j hj
      obtain rfl : j = 6 := by omega
      exact bX8_agrees_6 (fun _ => ps_bitP _) (fun _ => hq) (lpX (N := 6) (by decide)) (lpX (N := 6) (by decide)) (lpX (N := 6) (by decide)) (lpX (N := 6) (by decide)) (lpX (N := 6) (by decide)) (lpX (N := 6) (by decide)) (lpX (N := 6) (by decide))
    | succ r ih =>
      intro j hj
      have hj0 : j < 6 := by omega
      have e5 := ix_let hf ha hj0
      have e7 := ix_let hf hb hj0
      have e6 : jX8_letterAt σ (nI f) (nI a) (nI j) = σ 51 0 (54 * f + 6 * a + j) := by unfold jX8_letterAt; rw [e5, nI_clamp (by omega)]
      have e8 : jX8_letterAt σ (nI f) (nI b) (nI j) = σ 51 0 (54 * f + 6 * b + j) := by unfold jX8_letterAt; rw [e7, nI_clamp (by omega)]
      have h := ih (j + 1) (by omega)
      rw [← nI_1] at h
      have yes : (∀ p, p < j → jbUn (σ 51 0 (54 * f + 6 * a + p)) (σ 51 0 (54 * f + 6 * b + p)) = 0) → jbUn (σ 51 0 (54 * f + 6 * a + j)) (σ 51 0 (54 * f + 6 * b + j)) = 0 → kX8_agrees_6 d Q (nI f) (nI a) (nI b) 1 (nI j + 1) σ := by
        intro h1 h2
        rw [jbP_t] at h
        · exact h
        · intro p hp
          rcases Nat.lt_or_eq_of_le (Nat.le_of_lt_succ hp) with q | q
          · exact h1 p q
          · subst q; exact h2
      refine bX8_agrees_6 (lpN (N := 6) hj0 (by decide)) (lpN (N := 6) hj0 (by decide)) (fun _ => by rw [e5]; exact vp_in_nI (by omega) (by decide)) (fun _ => by rw [e7]; exact vp_in_nI (by omega) (by decide)) (fun _ c1 => ?_) (fun _ c1 c2 => ?_) (fun _ c1 c2 c3 => ?_) (fun _ c1 c2 c3 c4 => ?_) (fun _ c1 c2 c3 c4 => ?_)
      · rw [jbP_0] at c1
        rw [jbP_f (fun q => c1 (fun p hp => q p (by omega)))] at h
        exact h
      · rw [jbP_0, Classical.not_not] at c1
        rw [e6] at c2
        exact yes c1 (jbUn_0.mpr (Or.inl c2))
      · rw [jbP_0, Classical.not_not] at c1
        rw [e8] at c3
        exact yes c1 (jbUn_0.mpr (Or.inr (Or.inl c3)))
      · rw [e6, e8] at c4
        rw [e6] at c2
        rw [e8] at c3
        rw [jbP_f] at h
        · exact h
        · intro q
          rcases jbUn_0.mp (q j (by omega)) with z | z | z
          · exact c2 z
          · exact c3 z
          · exact c4 z
      · rw [jbP_0, Classical.not_not] at c1
        rw [e6, e8] at c4
        exact yes c1 (jbUn_0.mpr (Or.inr (Or.inr c4)))
  have h0 := key 6 0 rfl
  rw [jbP_t (fun p hp => absurd hp (Nat.not_lt_zero p))] at h0
  exact eX8_agrees (bX8_agrees_0 h0)
abbrev kX8_letterOf_0 (d : Nat) (Q : Option ps_V → ps_S → Prop) (v1 : Int32) (v2 : Int32) (v3 : Int32) (σ : ps_S) : Prop := ps_K mX8_letterOf (d + 1) (ps_QF Q) 0 [some (.inr (.inr (50, 0))), some (.inl v1), some (.inl v2), some (.inl v3), none] [] σ
abbrev kX8_letterOf_3 (d : Nat) (Q : Option ps_V → ps_S → Prop) (v1 : Int32) (v2 : Int32) (v3 : Int32) (v4 : Int32) (σ : ps_S) : Prop := ps_K mX8_letterOf (d + 1) (ps_QF Q) 3 [some (.inr (.inr (50, 0))), some (.inl v1), some (.inl v2), some (.inl v3), some (.inl v4)] [] σ
theorem bX8_letterOf_0 {d : Nat} {Q : Option ps_V → ps_S → Prop} {v1 : Int32} {v2 : Int32} {v3 : Int32} {σ : ps_S} (h1 : kX8_letterOf_3 d Q v1 v2 v3 0 σ) : kX8_letterOf_0 d Q v1 v2 v3 σ := by
  refine ps_iconst (x := 0) (ps_at tX8_letterOf_ok 0 rfl) (by decide) ?_
  refine ps_istore (L' := [some (.inr (.inr (50, 0))), some (.inl v1), some (.inl v2), some (.inl v3), some (.inl 0)]) (ps_at tX8_letterOf_ok 1 rfl) (by decide) rfl ?_
  exact h1
theorem bX8_letterOf_3 {d : Nat} {Q : Option ps_V → ps_S → Prop} {v1 : Int32} {v2 : Int32} {v3 : Int32} {v4 : Int32} {σ : ps_S} (h1 : 9 ≤ v4 → Q (some (.inl (-900009))) σ) (h2 : ¬ 9 ≤ v4 → vp_in v4 9) (h3 : ¬ 9 ≤ v4 → ¬ (σ 53 0 v4.toNatClampNeg) = v2 → kX8_letterOf_3 d Q v1 v2 v3 (v4 + 1) σ) (h4 : ¬ 9 ≤ v4 → (σ 53 0 v4.toNatClampNeg) = v2 → vp_in (((54 * v1) + (6 * v4)) + v3) 324) (h5 : ¬ 9 ≤ v4 → (σ 53 0 v4.toNatClampNeg) = v2 → (jX8_letterAt σ v1 v4 v3) = (-900009) → kX8_letterOf_3 d Q v1 v2 v3 (v4 + 1) σ) (h6 : ¬ 9 ≤ v4 → (σ 53 0 v4.toNatClampNeg) = v2 → ¬ (jX8_letterAt σ v1 v4 v3) = (-900009) → Q (some (.inl (jX8_letterAt σ v1 v4 v3))) σ) : kX8_letterOf_3 d Q v1 v2 v3 v4 σ := by
  refine ps_iload (ps_at tX8_letterOf_ok 2 rfl) rfl ?_
  refine ps_bipush (x := 9) (ps_at tX8_letterOf_ok 3 rfl) (by decide) ?_
  refine ps_icmp_ge (tgt := 49) (ps_at tX8_letterOf_ok 4 rfl) (by decide) (fun c0 => ?_) (fun c0 => ?_)
  · skip
    refine ps_ldc (ps_at tX8_letterOf_ok 26 rfl) cnX8_96 ?_
    exact ps_iret (ps_at tX8_letterOf_ok 27 rfl) rfl ⟨rfl, rfl⟩ (h1 c0)
  · skip
    refine ps_aload_n (ps_at tX8_letterOf_ok 5 rfl) rfl rfl ?_
    refine ps_getR (ps_at tX8_letterOf_ok 6 rfl) flX8_13 sh_50 rfl ?_
    refine ps_iload (ps_at tX8_letterOf_ok 7 rfl) rfl ?_
    refine ps_iald (ps_at tX8_letterOf_ok 8 rfl) sh_53 (h2 c0) ?_
    refine ps_iload_n (ps_at tX8_letterOf_ok 9 rfl) rfl rfl ?_
    refine ps_icmp_ne (tgt := 43) (ps_at tX8_letterOf_ok 10 rfl) (by decide) (fun c1 => ?_) (fun c1 => ?_)
    · skip
      refine ps_iinc (L' := [some (.inr (.inr (50, 0))), some (.inl v1), some (.inl v2), some (.inl v3), some (.inl (v4 + 1))]) (y := 1) (ps_at tX8_letterOf_ok 24 rfl) rfl (by decide) (by decide) rfl ?_
      refine ps_goto (tgt := 3) (ps_at tX8_letterOf_ok 25 rfl) (by decide) ?_
      exact h3 c0 c1
    · skip
      refine ps_aload_n (ps_at tX8_letterOf_ok 11 rfl) rfl rfl ?_
      refine ps_iload_n (ps_at tX8_letterOf_ok 12 rfl) rfl rfl ?_
      refine ps_iload (ps_at tX8_letterOf_ok 13 rfl) rfl ?_
      refine ps_iload_n (ps_at tX8_letterOf_ok 14 rfl) rfl rfl ?_
      refine ps_callV (M2 := mX8_letterAt) (av := [.inl v1, .inl v4, .inl v3]) (rest := []) (ps_at tX8_letterOf_ok 15 rfl) cvX8_116 sh_50 rfl rfl (fun _ => Nat.le_of_ble_eq_true rfl) (pX8_letterAt (h4 c0 c1) ?_)
      refine ps_ldc (ps_at tX8_letterOf_ok 16 rfl) cnX8_96 ?_
      refine ps_icmp_eq (tgt := 43) (ps_at tX8_letterOf_ok 17 rfl) (by decide) (fun c2 => ?_) (fun c2 => ?_)
      · skip
        refine ps_iinc (L' := [some (.inr (.inr (50, 0))), some (.inl v1), some (.inl v2), some (.inl v3), some (.inl (v4 + 1))]) (y := 1) (ps_at tX8_letterOf_ok 24 rfl) rfl (by decide) (by decide) rfl ?_
        refine ps_goto (tgt := 3) (ps_at tX8_letterOf_ok 25 rfl) (by decide) ?_
        exact h5 c0 c1 c2
      · skip
        refine ps_aload_n (ps_at tX8_letterOf_ok 18 rfl) rfl rfl ?_
        refine ps_iload_n (ps_at tX8_letterOf_ok 19 rfl) rfl rfl ?_
        refine ps_iload (ps_at tX8_letterOf_ok 20 rfl) rfl ?_
        refine ps_iload_n (ps_at tX8_letterOf_ok 21 rfl) rfl rfl ?_
        refine ps_callV (M2 := mX8_letterAt) (av := [.inl v1, .inl v4, .inl v3]) (rest := []) (ps_at tX8_letterOf_ok 22 rfl) cvX8_116 sh_50 rfl rfl (fun _ => Nat.le_of_ble_eq_true rfl) (pX8_letterAt (h4 c0 c1) ?_)
        exact ps_iret (ps_at tX8_letterOf_ok 23 rfl) rfl ⟨rfl, rfl⟩ (h6 c0 c1 c2)
theorem eX8_letterOf {d : Nat} {Q : Option ps_V → ps_S → Prop} {v1 : Int32} {v2 : Int32} {v3 : Int32} {σ : ps_S} (h : kX8_letterOf_0 d Q v1 v2 v3 σ) : ps_C mX8_letterOf (d + 1) [.inr (.inr (50, 0)), .inl v1, .inl v2, .inl v3] σ Q := ps_enter (by decide) rfl ⟨rfl, rfl, rfl⟩ rfl (Nat.le_of_ble_eq_true rfl) h
theorem pX8_letterOf {d : Nat} {Q : Option ps_V → ps_S → Prop} {v1 v2 v3 : Int32} {σ : ps_S} (o1 : vp_in v1 6) (o2 : vp_in v3 6) (hq : Q (some (.inl (mGl σ v1.toNatClampNeg v2 v3.toNatClampNeg))) σ) : ps_C mX8_letterOf (d + 1) [.inr (.inr (50, 0)), .inl v1, .inl v2, .inl v3] σ Q := by
  obtain ⟨f, hf, rfl⟩ := vp_in_of o1 (by decide)
  obtain ⟨p, hp, rfl⟩ := vp_in_of o2 (by decide)
  rw [nI_clamp (by omega), nI_clamp (by omega)] at hq
  have key : ∀ r j, j + r = 9 → Q (some (.inl (match fstN r j (fun c => σ 53 0 c = v2 ∧ ¬ σ 51 0 (54 * f + 6 * c + p) = -900009) with | some c => σ 51 0 (54 * f + 6 * c + p) | none => -900009))) σ → kX8_letterOf_3 d Q (nI f) v2 (nI p) (nI j) σ := by
    intro r
    induction r with
    | zero =>
      intro j hj hh
      obtain rfl : j = 9 := by omega
      exact bX8_letterOf_3 (fun _ => hh) (lpX (N := 9) (by decide)) (lpX (N := 9) (by decide)) (lpX (N := 9) (by decide)) (lpX (N := 9) (by decide)) (lpX (N := 9) (by decide))
    | succ r ih =>
      intro j hj hh
      have hj0 : j < 9 := by omega
      have hjc : (nI j).toNatClampNeg = j := nI_clamp (by omega)
      have e5 := ix_let hf hj0 hp
      have e6 : jX8_letterAt σ (nI f) (nI j) (nI p) = σ 51 0 (54 * f + 6 * j + p) := by unfold jX8_letterAt; rw [e5, nI_clamp (by omega)]
      refine bX8_letterOf_3 (lpN (N := 9) hj0 (by decide)) (fun _ => vp_in_nI hj0 (by decide)) (fun _ c => ?_) (fun _ _ => by rw [e5]; exact vp_in_nI (by omega) (by decide)) (fun _ c c2 => ?_) (fun _ c c2 => ?_)
      · rw [hjc] at c
        rw [fst_f (fun h => c h.1)] at hh
        rw [nI_1]
        exact ih (j + 1) (by omega) hh
      · rw [hjc] at c
        rw [e6] at c2
        rw [fst_f (fun h => h.2 c2)] at hh
        rw [nI_1]
        exact ih (j + 1) (by omega) hh
      · rw [hjc] at c
        rw [e6] at c2 ⊢
        rw [fst_t ⟨c, c2⟩] at hh
        exact hh
  exact eX8_letterOf (bX8_letterOf_0 (key 9 0 rfl hq))
abbrev kX8_changesOf_0 (d : Nat) (Q : Option ps_V → ps_S → Prop) (v1 : Int32) (v2 : Int32) (v3 : Int32) (σ : ps_S) : Prop := ps_K mX8_changesOf (d + 2) (ps_QF Q) 0 [some (.inr (.inr (50, 0))), some (.inl v1), some (.inl v2), some (.inl v3), none, none, none, none] [] σ
abbrev kX8_changesOf_6 (d : Nat) (Q : Option ps_V → ps_S → Prop) (v1 : Int32) (v2 : Int32) (v3 : Int32) (v4 : Int32) (v5 : Int32) (σ : ps_S) : Prop := ps_K mX8_changesOf (d + 2) (ps_QF Q) 6 [some (.inr (.inr (50, 0))), some (.inl v1), some (.inl v2), some (.inl v3), some (.inl v4), some (.inl v5), none, none] [] σ
theorem bX8_changesOf_0 {d : Nat} {Q : Option ps_V → ps_S → Prop} {v1 : Int32} {v2 : Int32} {v3 : Int32} {σ : ps_S} (h1 : kX8_changesOf_6 d Q v1 v2 v3 0 0 σ) : kX8_changesOf_0 d Q v1 v2 v3 σ := by
  refine ps_iconst (x := 0) (ps_at tX8_changesOf_ok 0 rfl) (by decide) ?_
  refine ps_istore (L' := [some (.inr (.inr (50, 0))), some (.inl v1), some (.inl v2), some (.inl v3), some (.inl 0), none, none, none]) (ps_at tX8_changesOf_ok 1 rfl) (by decide) rfl ?_
  refine ps_iconst (x := 0) (ps_at tX8_changesOf_ok 2 rfl) (by decide) ?_
  refine ps_istore (L' := [some (.inr (.inr (50, 0))), some (.inl v1), some (.inl v2), some (.inl v3), some (.inl 0), some (.inl 0), none, none]) (ps_at tX8_changesOf_ok 3 rfl) (by decide) rfl ?_
  exact h1
theorem bX8_changesOf_6 {d : Nat} {Q : Option ps_V → ps_S → Prop} {v1 : Int32} {v2 : Int32} {v3 : Int32} {v4 : Int32} {v5 : Int32} {σ : ps_S} (h1 : 6 ≤ v5 → Q (some (.inl v4)) σ) (h2 : ¬ 6 ≤ v5 → vp_in v1 6) (h3 : ¬ 6 ≤ v5 → vp_in v5 6) (h4 : ¬ 6 ≤ v5 → (mGl σ v1.toNatClampNeg v2 v5.toNatClampNeg) = (-900009) → kX8_changesOf_6 d Q v1 v2 v3 (v4 + 0) (v5 + 1) σ) (h5 : ¬ 6 ≤ v5 → ¬ (mGl σ v1.toNatClampNeg v2 v5.toNatClampNeg) = (-900009) → (mGl σ v1.toNatClampNeg v3 v5.toNatClampNeg) = (-900009) → kX8_changesOf_6 d Q v1 v2 v3 (v4 + 0) (v5 + 1) σ) (h6 : ¬ 6 ≤ v5 → ¬ (mGl σ v1.toNatClampNeg v2 v5.toNatClampNeg) = (-900009) → ¬ (mGl σ v1.toNatClampNeg v3 v5.toNatClampNeg) = (-900009) → (mGl σ v1.toNatClampNeg v2 v5.toNatClampNeg) = (mGl σ v1.toNatClampNeg v3 v5.toNatClampNeg) → kX8_changesOf_6 d Q v1 v2 v3 (v4 + 0) (v5 + 1) σ) (h7 : ¬ 6 ≤ v5 → ¬ (mGl σ v1.toNatClampNeg v2 v5.toNatClampNeg) = (-900009) → ¬ (mGl σ v1.toNatClampNeg v3 v5.toNatClampNeg) = (-900009) → ¬ (mGl σ v1.toNatClampNeg v2 v5.toNatClampNeg) = (mGl σ v1.toNatClampNeg v3 v5.toNatClampNeg) → kX8_changesOf_6 d Q v1 v2 v3 (v4 + 1) (v5 + 1) σ) : kX8_changesOf_6 d Q v1 v2 v3 v4 v5 σ := by
  refine ps_iload (ps_at tX8_changesOf_ok 4 rfl) rfl ?_
  refine ps_bipush (x := 6) (ps_at tX8_changesOf_ok 5 rfl) (by decide) ?_
  refine ps_icmp_ge (tgt := 70) (ps_at tX8_changesOf_ok 6 rfl) (by decide) (fun c0 => ?_) (fun c0 => ?_)
  · skip
    refine ps_iload (ps_at tX8_changesOf_ok 36 rfl) rfl ?_
    exact ps_iret (ps_at tX8_changesOf_ok 37 rfl) rfl ⟨rfl, rfl⟩ (h1 c0)
  · skip
    refine ps_aload_n (ps_at tX8_changesOf_ok 7 rfl) rfl rfl ?_
    refine ps_iload_n (ps_at tX8_changesOf_ok 8 rfl) rfl rfl ?_
    refine ps_iload_n (ps_at tX8_changesOf_ok 9 rfl) rfl rfl ?_
    refine ps_iload (ps_at tX8_changesOf_ok 10 rfl) rfl ?_
    refine ps_callV (M2 := mX8_letterOf) (av := [.inl v1, .inl v2, .inl v5]) (rest := []) (ps_at tX8_changesOf_ok 11 rfl) cvX8_141 sh_50 rfl rfl (fun _ => Nat.le_of_ble_eq_true rfl) (pX8_letterOf (h2 c0) (h3 c0) ?_)
    refine ps_istore (L' := [some (.inr (.inr (50, 0))), some (.inl v1), some (.inl v2), some (.inl v3), some (.inl v4), some (.inl v5), some (.inl (mGl σ v1.toNatClampNeg v2 v5.toNatClampNeg)), none]) (ps_at tX8_changesOf_ok 12 rfl) (by decide) rfl ?_
    refine ps_aload_n (ps_at tX8_changesOf_ok 13 rfl) rfl rfl ?_
    refine ps_iload_n (ps_at tX8_changesOf_ok 14 rfl) rfl rfl ?_
    refine ps_iload_n (ps_at tX8_changesOf_ok 15 rfl) rfl rfl ?_
    refine ps_iload (ps_at tX8_changesOf_ok 16 rfl) rfl ?_
    refine ps_callV (M2 := mX8_letterOf) (av := [.inl v1, .inl v3, .inl v5]) (rest := []) (ps_at tX8_changesOf_ok 17 rfl) cvX8_141 sh_50 rfl rfl (fun _ => Nat.le_of_ble_eq_true rfl) (pX8_letterOf (h2 c0) (h3 c0) ?_)
    refine ps_istore (L' := [some (.inr (.inr (50, 0))), some (.inl v1), some (.inl v2), some (.inl v3), some (.inl v4), some (.inl v5), some (.inl (mGl σ v1.toNatClampNeg v2 v5.toNatClampNeg)), some (.inl (mGl σ v1.toNatClampNeg v3 v5.toNatClampNeg))]) (ps_at tX8_changesOf_ok 18 rfl) (by decide) rfl ?_
    refine ps_iload (ps_at tX8_changesOf_ok 19 rfl) rfl ?_
    refine ps_iload (ps_at tX8_changesOf_ok 20 rfl) rfl ?_
    refine ps_ldc (ps_at tX8_changesOf_ok 21 rfl) cnX8_96 ?_
    refine ps_icmp_eq (tgt := 60) (ps_at tX8_changesOf_ok 22 rfl) (by decide) (fun c1 => ?_) (fun c1 => ?_)
    · skip
      refine ps_iconst (x := 0) (ps_at tX8_changesOf_ok 31 rfl) (by decide) ?_
      refine ps_iadd (ps_at tX8_changesOf_ok 32 rfl) ?_
      refine ps_istore (L' := [some (.inr (.inr (50, 0))), some (.inl v1), some (.inl v2), some (.inl v3), some (.inl (v4 + 0)), some (.inl v5), some (.inl (mGl σ v1.toNatClampNeg v2 v5.toNatClampNeg)), some (.inl (mGl σ v1.toNatClampNeg v3 v5.toNatClampNeg))]) (ps_at tX8_changesOf_ok 33 rfl) (by decide) rfl ?_
      refine ps_iinc (L' := [some (.inr (.inr (50, 0))), some (.inl v1), some (.inl v2), some (.inl v3), some (.inl (v4 + 0)), some (.inl (v5 + 1)), some (.inl (mGl σ v1.toNatClampNeg v2 v5.toNatClampNeg)), some (.inl (mGl σ v1.toNatClampNeg v3 v5.toNatClampNeg))]) (y := 1) (ps_at tX8_changesOf_ok 34 rfl) rfl (by decide) (by decide) rfl ?_
      refine ps_goto (tgt := 6) (ps_at tX8_changesOf_ok 35 rfl) (by decide) ?_
      refine ps_forget (L' := [some (.inr (.inr (50, 0))), some (.inl v1), some (.inl v2), some (.inl v3), some (.inl (v4 + 0)), some (.inl (v5 + 1)), none, none]) (And.intro rfl (And.intro rfl (And.intro rfl (And.intro rfl (And.intro rfl (And.intro rfl trivial)))))) ?_
      exact h4 c0 c1
    · skip
      refine ps_iload (ps_at tX8_changesOf_ok 23 rfl) rfl ?_
      refine ps_ldc (ps_at tX8_changesOf_ok 24 rfl) cnX8_96 ?_
      refine ps_icmp_eq (tgt := 60) (ps_at tX8_changesOf_ok 25 rfl) (by decide) (fun c2 => ?_) (fun c2 => ?_)
      · skip
        refine ps_iconst (x := 0) (ps_at tX8_changesOf_ok 31 rfl) (by decide) ?_
        refine ps_iadd (ps_at tX8_changesOf_ok 32 rfl) ?_
        refine ps_istore (L' := [some (.inr (.inr (50, 0))), some (.inl v1), some (.inl v2), some (.inl v3), some (.inl (v4 + 0)), some (.inl v5), some (.inl (mGl σ v1.toNatClampNeg v2 v5.toNatClampNeg)), some (.inl (mGl σ v1.toNatClampNeg v3 v5.toNatClampNeg))]) (ps_at tX8_changesOf_ok 33 rfl) (by decide) rfl ?_
        refine ps_iinc (L' := [some (.inr (.inr (50, 0))), some (.inl v1), some (.inl v2), some (.inl v3), some (.inl (v4 + 0)), some (.inl (v5 + 1)), some (.inl (mGl σ v1.toNatClampNeg v2 v5.toNatClampNeg)), some (.inl (mGl σ v1.toNatClampNeg v3 v5.toNatClampNeg))]) (y := 1) (ps_at tX8_changesOf_ok 34 rfl) rfl (by decide) (by decide) rfl ?_
        refine ps_goto (tgt := 6) (ps_at tX8_changesOf_ok 35 rfl) (by decide) ?_
        refine ps_forget (L' := [some (.inr (.inr (50, 0))), some (.inl v1), some (.inl v2), some (.inl v3), some (.inl (v4 + 0)), some (.inl (v5 + 1)), none, none]) (And.intro rfl (And.intro rfl (And.intro rfl (And.intro rfl (And.intro rfl (And.intro rfl trivial)))))) ?_
        exact h5 c0 c1 c2
      · skip
        refine ps_iload (ps_at tX8_changesOf_ok 26 rfl) rfl ?_
        refine ps_iload (ps_at tX8_changesOf_ok 27 rfl) rfl ?_
        refine ps_icmp_eq (tgt := 60) (ps_at tX8_changesOf_ok 28 rfl) (by decide) (fun c3 => ?_) (fun c3 => ?_)
        · skip
          refine ps_iconst (x := 0) (ps_at tX8_changesOf_ok 31 rfl) (by decide) ?_
          refine ps_iadd (ps_at tX8_changesOf_ok 32 rfl) ?_
          refine ps_istore (L' := [some (.inr (.inr (50, 0))), some (.inl v1), some (.inl v2), some (.inl v3), some (.inl (v4 + 0)), some (.inl v5), some (.inl (mGl σ v1.toNatClampNeg v2 v5.toNatClampNeg)), some (.inl (mGl σ v1.toNatClampNeg v3 v5.toNatClampNeg))]) (ps_at tX8_changesOf_ok 33 rfl) (by decide) rfl ?_
          refine ps_iinc (L' := [some (.inr (.inr (50, 0))), some (.inl v1), some (.inl v2), some (.inl v3), some (.inl (v4 + 0)), some (.inl (v5 + 1)), some (.inl (mGl σ v1.toNatClampNeg v2 v5.toNatClampNeg)), some (.inl (mGl σ v1.toNatClampNeg v3 v5.toNatClampNeg))]) (y := 1) (ps_at tX8_changesOf_ok 34 rfl) rfl (by decide) (by decide) rfl ?_
          refine ps_goto (tgt := 6) (ps_at tX8_changesOf_ok 35 rfl) (by decide) ?_
          refine ps_forget (L' := [some (.inr (.inr (50, 0))), some (.inl v1), some (.inl v2), some (.inl v3), some (.inl (v4 + 0)), some (.inl (v5 + 1)), none, none]) (And.intro rfl (And.intro rfl (And.intro rfl (And.intro rfl (And.intro rfl (And.intro rfl trivial)))))) ?_
          exact h6 c0 c1 c2 c3
        · skip
          refine ps_iconst (x := 1) (ps_at tX8_changesOf_ok 29 rfl) (by decide) ?_
          refine ps_goto (tgt := 61) (ps_at tX8_changesOf_ok 30 rfl) (by decide) ?_
          refine ps_iadd (ps_at tX8_changesOf_ok 32 rfl) ?_
          refine ps_istore (L' := [some (.inr (.inr (50, 0))), some (.inl v1), some (.inl v2), some (.inl v3), some (.inl (v4 + 1)), some (.inl v5), some (.inl (mGl σ v1.toNatClampNeg v2 v5.toNatClampNeg)), some (.inl (mGl σ v1.toNatClampNeg v3 v5.toNatClampNeg))]) (ps_at tX8_changesOf_ok 33 rfl) (by decide) rfl ?_
          refine ps_iinc (L' := [some (.inr (.inr (50, 0))), some (.inl v1), some (.inl v2), some (.inl v3), some (.inl (v4 + 1)), some (.inl (v5 + 1)), some (.inl (mGl σ v1.toNatClampNeg v2 v5.toNatClampNeg)), some (.inl (mGl σ v1.toNatClampNeg v3 v5.toNatClampNeg))]) (y := 1) (ps_at tX8_changesOf_ok 34 rfl) rfl (by decide) (by decide) rfl ?_
          refine ps_goto (tgt := 6) (ps_at tX8_changesOf_ok 35 rfl) (by decide) ?_
          refine ps_forget (L' := [some (.inr (.inr (50, 0))), some (.inl v1), some (.inl v2), some (.inl v3), some (.inl (v4 + 1)), some (.inl (v5 + 1)), none, none]) (And.intro rfl (And.intro rfl (And.intro rfl (And.intro rfl (And.intro rfl (And.intro rfl trivial)))))) ?_
          exact h7 c0 c1 c2 c3
theorem eX8_changesOf {d : Nat} {Q : Option ps_V → ps_S → Prop} {v1 : Int32} {v2 : Int32} {v3 : Int32} {σ : ps_S} (h : kX8_changesOf_0 d Q v1 v2 v3 σ) : ps_C mX8_changesOf (d + 2) [.inr (.inr (50, 0)), .inl v1, .inl v2, .inl v3] σ Q := ps_enter (by decide) rfl ⟨rfl, rfl, rfl⟩ rfl (Nat.le_of_ble_eq_true rfl) h
theorem pX8_changesOf {d : Nat} {Q : Option ps_V → ps_S → Prop} {v1 v2 v3 : Int32} {σ : ps_S} (o1 : vp_in v1 6) (hq : Q (some (.inl (nI (cntN 6 (fun p => ¬ jbUn (mGl σ v1.toNatClampNeg v2 p) (mGl σ v1.toNatClampNeg v3 p) = 0))))) σ) : ps_C mX8_changesOf (d + 2) [.inr (.inr (50, 0)), .inl v1, .inl v2, .inl v3] σ Q := by
  have key : ∀ r j, j + r = 6 → kX8_changesOf_6 d Q v1 v2 v3 (nI (cntN j (fun p => ¬ jbUn (mGl σ v1.toNatClampNeg v2 p) (mGl σ v1.toNatClampNeg v3 p) = 0))) (nI j) σ := by
    intro r
    induction r with
    | zero =>
      intro j hj
      obtain rfl : j = 6 := by omega
      exact bX8_changesOf_6 (fun _ => hq) (lpX (N := 6) (by decide)) (lpX (N := 6) (by decide)) (lpX (N := 6) (by decide)) (lpX (N := 6) (by decide)) (lpX (N := 6) (by decide)) (lpX (N := 6) (by decide))
    | succ r ih =>
      intro j hj
      have hj0 : j < 6 := by omega
      have hjc : (nI j).toNatClampNeg = j := nI_clamp (by omega)
      have no : jbUn (mGl σ v1.toNatClampNeg v2 j) (mGl σ v1.toNatClampNeg v3 j) = 0 → kX8_changesOf_6 d Q v1 v2 v3 (nI (cntN j (fun p => ¬ jbUn (mGl σ v1.toNatClampNeg v2 p) (mGl σ v1.toNatClampNeg v3 p) = 0)) + 0) (nI j + 1) σ := by
        intro c
        rw [Int32.add_zero, nI_1, cn_f (P := fun p => ¬ jbUn (mGl σ v1.toNatClampNeg v2 p) (mGl σ v1.toNatClampNeg v3 p) = 0) (fun h => h c)]
        exact ih (j + 1) (by omega)
      refine bX8_changesOf_6 (lpN (N := 6) hj0 (by decide)) (fun _ => o1) (fun _ => vp_in_nI hj0 (by decide)) (fun _ c => ?_) (fun _ c c2 => ?_) (fun _ c c2 c3 => ?_) (fun _ c c2 c3 => ?_)
      · rw [hjc] at c
        exact no (jbUn_0.mpr (Or.inl c))
      · rw [hjc] at c2
        exact no (jbUn_0.mpr (Or.inr (Or.inl c2)))
      · rw [hjc] at c3
        exact no (jbUn_0.mpr (Or.inr (Or.inr c3)))
      · rw [hjc] at c c2 c3
        rw [cn_t (P := fun p => ¬ jbUn (mGl σ v1.toNatClampNeg v2 p) (mGl σ v1.toNatClampNeg v3 p) = 0)]
        · rw [nI_1]
          exact ih (j + 1) (by omega)
        · intro h
          rcases jbUn_0.mp h with z | z | z
          · exact c z
          · exact c2 z
          · exact c3 z
  exact eX8_changesOf (bX8_changesOf_0 (key 6 0 rfl))
abbrev kX8_shares_0 (d : Nat) (Q : Option ps_V → ps_S → Prop) (v1 : Int32) (v2 : Int32) (σ : ps_S) : Prop := ps_K mX8_shares d (ps_QF Q) 0 [some (.inr (.inr (50, 0))), some (.inl v1), some (.inl v2), none, none] [] σ
abbrev kX8_shares_5 (d : Nat) (Q : Option ps_V → ps_S → Prop) (v1 : Int32) (v2 : Int32) (v3 : Int32) (v4 : Int32) (σ : ps_S) : Prop := ps_K mX8_shares d (ps_QF Q) 5 [some (.inr (.inr (50, 0))), some (.inl v1), some (.inl v2), some (.inl v3), some (.inl v4)] [] σ
theorem bX8_shares_0 {d : Nat} {Q : Option ps_V → ps_S → Prop} {v1 : Int32} {v2 : Int32} {σ : ps_S} (h1 : kX8_shares_5 d Q v1 v2 0 0 σ) : kX8_shares_0 d Q v1 v2 σ := by
  refine ps_iconst (x := 0) (ps_at tX8_shares_ok 0 rfl) (by decide) ?_
  refine ps_istore_n (L' := [some (.inr (.inr (50, 0))), some (.inl v1), some (.inl v2), some (.inl 0), none]) (ps_at tX8_shares_ok 1 rfl) rfl (by decide) rfl ?_
  refine ps_iconst (x := 0) (ps_at tX8_shares_ok 2 rfl) (by decide) ?_
  refine ps_istore (L' := [some (.inr (.inr (50, 0))), some (.inl v1), some (.inl v2), some (.inl 0), some (.inl 0)]) (ps_at tX8_shares_ok 3 rfl) (by decide) rfl ?_
  exact h1
theorem bX8_shares_5 {d : Nat} {Q : Option ps_V → ps_S → Prop} {v1 : Int32} {v2 : Int32} {v3 : Int32} {v4 : Int32} {σ : ps_S} (h1 : 16 ≤ v4 → (v3 = 0 ∨ v3 = 1)) (h2 : 16 ≤ v4 → Q (some (.inl v3)) σ) (h3 : ¬ 16 ≤ v4 → ¬ v3 = 0 → kX8_shares_5 d Q v1 v2 1 (v4 + 1) σ) (h4 : ¬ 16 ≤ v4 → v3 = 0 → vp_in ((6 * v4) + v1) 96) (h5 : ¬ 16 ≤ v4 → v3 = 0 → (σ 63 0 ((6 * v4) + v1).toNatClampNeg) = (-900009) → kX8_shares_5 d Q v1 v2 0 (v4 + 1) σ) (h6 : ¬ 16 ≤ v4 → v3 = 0 → ¬ (σ 63 0 ((6 * v4) + v1).toNatClampNeg) = (-900009) → vp_in ((6 * v4) + v2) 96) (h7 : ¬ 16 ≤ v4 → v3 = 0 → ¬ (σ 63 0 ((6 * v4) + v1).toNatClampNeg) = (-900009) → (σ 63 0 ((6 * v4) + v2).toNatClampNeg) = (-900009) → kX8_shares_5 d Q v1 v2 0 (v4 + 1) σ) (h8 : ¬ 16 ≤ v4 → v3 = 0 → ¬ (σ 63 0 ((6 * v4) + v1).toNatClampNeg) = (-900009) → ¬ (σ 63 0 ((6 * v4) + v2).toNatClampNeg) = (-900009) → kX8_shares_5 d Q v1 v2 1 (v4 + 1) σ) : kX8_shares_5 d Q v1 v2 v3 v4 σ := by
  refine ps_iload (ps_at tX8_shares_ok 4 rfl) rfl ?_
  refine ps_bipush (x := 16) (ps_at tX8_shares_ok 5 rfl) (by decide) ?_
  refine ps_icmp_ge (tgt := 62) (ps_at tX8_shares_ok 6 rfl) (by decide) (fun c0 => ?_) (fun c0 => ?_)
  · skip
    refine ps_iload_n (ps_at tX8_shares_ok 35 rfl) rfl rfl ?_
    exact ps_zret (ps_at tX8_shares_ok 36 rfl) rfl ⟨rfl, rfl⟩ (h1 c0) (h2 c0)
  · skip
    refine ps_iload_n (ps_at tX8_shares_ok 7 rfl) rfl rfl ?_
    refine ps_if_ne (tgt := 50) (ps_at tX8_shares_ok 8 rfl) (by decide) (fun c1 => ?_) (fun c1 => ?_)
    · skip
      refine ps_iconst (x := 1) (ps_at tX8_shares_ok 29 rfl) (by decide) ?_
      refine ps_goto (tgt := 55) (ps_at tX8_shares_ok 30 rfl) (by decide) ?_
      refine ps_istore_n (L' := [some (.inr (.inr (50, 0))), some (.inl v1), some (.inl v2), some (.inl 1), some (.inl v4)]) (ps_at tX8_shares_ok 32 rfl) rfl (by decide) rfl ?_
      refine ps_iinc (L' := [some (.inr (.inr (50, 0))), some (.inl v1), some (.inl v2), some (.inl 1), some (.inl (v4 + 1))]) (y := 1) (ps_at tX8_shares_ok 33 rfl) rfl (by decide) (by decide) rfl ?_
      refine ps_goto (tgt := 5) (ps_at tX8_shares_ok 34 rfl) (by decide) ?_
      exact h3 c0 c1
    · skip
      refine ps_aload_n (ps_at tX8_shares_ok 9 rfl) rfl rfl ?_
      refine ps_getR (ps_at tX8_shares_ok 10 rfl) flX8_44 sh_50 rfl ?_
      refine ps_bipush (x := 6) (ps_at tX8_shares_ok 11 rfl) (by decide) ?_
      refine ps_iload (ps_at tX8_shares_ok 12 rfl) rfl ?_
      refine ps_imul (ps_at tX8_shares_ok 13 rfl) ?_
      refine ps_iload_n (ps_at tX8_shares_ok 14 rfl) rfl rfl ?_
      refine ps_iadd (ps_at tX8_shares_ok 15 rfl) ?_
      refine ps_iald (ps_at tX8_shares_ok 16 rfl) sh_63 (h4 c0 c1) ?_
      refine ps_ldc (ps_at tX8_shares_ok 17 rfl) cnX8_96 ?_
      refine ps_icmp_eq (tgt := 54) (ps_at tX8_shares_ok 18 rfl) (by decide) (fun c2 => ?_) (fun c2 => ?_)
      · skip
        refine ps_iconst (x := 0) (ps_at tX8_shares_ok 31 rfl) (by decide) ?_
        refine ps_istore_n (L' := [some (.inr (.inr (50, 0))), some (.inl v1), some (.inl v2), some (.inl 0), some (.inl v4)]) (ps_at tX8_shares_ok 32 rfl) rfl (by decide) rfl ?_
        refine ps_iinc (L' := [some (.inr (.inr (50, 0))), some (.inl v1), some (.inl v2), some (.inl 0), some (.inl (v4 + 1))]) (y := 1) (ps_at tX8_shares_ok 33 rfl) rfl (by decide) (by decide) rfl ?_
        refine ps_goto (tgt := 5) (ps_at tX8_shares_ok 34 rfl) (by decide) ?_
        exact h5 c0 c1 c2
      · skip
        refine ps_aload_n (ps_at tX8_shares_ok 19 rfl) rfl rfl ?_
        refine ps_getR (ps_at tX8_shares_ok 20 rfl) flX8_44 sh_50 rfl ?_
        refine ps_bipush (x := 6) (ps_at tX8_shares_ok 21 rfl) (by decide) ?_
        refine ps_iload (ps_at tX8_shares_ok 22 rfl) rfl ?_
        refine ps_imul (ps_at tX8_shares_ok 23 rfl) ?_
        refine ps_iload_n (ps_at tX8_shares_ok 24 rfl) rfl rfl ?_
        refine ps_iadd (ps_at tX8_shares_ok 25 rfl) ?_
        refine ps_iald (ps_at tX8_shares_ok 26 rfl) sh_63 (h6 c0 c1 c2) ?_
        refine ps_ldc (ps_at tX8_shares_ok 27 rfl) cnX8_96 ?_
        refine ps_icmp_eq (tgt := 54) (ps_at tX8_shares_ok 28 rfl) (by decide) (fun c3 => ?_) (fun c3 => ?_)
        · skip
          refine ps_iconst (x := 0) (ps_at tX8_shares_ok 31 rfl) (by decide) ?_
          refine ps_istore_n (L' := [some (.inr (.inr (50, 0))), some (.inl v1), some (.inl v2), some (.inl 0), some (.inl v4)]) (ps_at tX8_shares_ok 32 rfl) rfl (by decide) rfl ?_
          refine ps_iinc (L' := [some (.inr (.inr (50, 0))), some (.inl v1), some (.inl v2), some (.inl 0), some (.inl (v4 + 1))]) (y := 1) (ps_at tX8_shares_ok 33 rfl) rfl (by decide) (by decide) rfl ?_
          refine ps_goto (tgt := 5) (ps_at tX8_shares_ok 34 rfl) (by decide) ?_
          exact h7 c0 c1 c2 c3
        · skip
          refine ps_iconst (x := 1) (ps_at tX8_shares_ok 29 rfl) (by decide) ?_
          refine ps_goto (tgt := 55) (ps_at tX8_shares_ok 30 rfl) (by decide) ?_
          refine ps_istore_n (L' := [some (.inr (.inr (50, 0))), some (.inl v1), some (.inl v2), some (.inl 1), some (.inl v4)]) (ps_at tX8_shares_ok 32 rfl) rfl (by decide) rfl ?_
          refine ps_iinc (L' := [some (.inr (.inr (50, 0))), some (.inl v1), some (.inl v2), some (.inl 1), some (.inl (v4 + 1))]) (y := 1) (ps_at tX8_shares_ok 33 rfl) rfl (by decide) (by decide) rfl ?_
          refine ps_goto (tgt := 5) (ps_at tX8_shares_ok 34 rfl) (by decide) ?_
          exact h8 c0 c1 c2 c3
theorem eX8_shares {d : Nat} {Q : Option ps_V → ps_S → Prop} {v1 : Int32} {v2 : Int32} {σ : ps_S} (h : kX8_shares_0 d Q v1 v2 σ) : ps_C mX8_shares d [.inr (.inr (50, 0)), .inl v1, .inl v2] σ Q := ps_enter (by decide) rfl ⟨rfl, rfl, rfl⟩ rfl (Nat.le_of_ble_eq_true rfl) h
theorem pX8_shares {d : Nat} {Q : Option ps_V → ps_S → Prop} {v1 v2 : Int32} {σ : ps_S} (o1 : vp_in v1 6) (o2 : vp_in v2 6) (hq : Q (some (.inl (jbP (mSh σ v1.toNatClampNeg v2.toNatClampNeg)))) σ) : ps_C mX8_shares d [.inr (.inr (50, 0)), .inl v1, .inl v2] σ Q := by
  obtain ⟨a, ha, rfl⟩ := vp_in_of o1 (by decide)
  obtain ⟨b, hb, rfl⟩ := vp_in_of o2 (by decide)
  rw [nI_clamp (by omega), nI_clamp (by omega)] at hq
  have key : ∀ r j, j + r = 16 → kX8_shares_5 d Q (nI a) (nI b) (jbP (∃ p, p < j ∧ ¬ σ 63 0 (6 * p + a) = -900009 ∧ ¬ σ 63 0 (6 * p + b) = -900009)) (nI j) σ := by
    intro r
    induction r with
    | zero =>
      intro j hj
      obtain rfl : j = 16 := by omega
      exact bX8_shares_5 (fun _ => ps_bitP _) (fun _ => hq) (lpX (N := 16) (by decide)) (lpX (N := 16) (by decide)) (lpX (N := 16) (by decide)) (lpX (N := 16) (by decide)) (lpX (N := 16) (by decide)) (lpX (N := 16) (by decide))
    | succ r ih =>
      intro j hj
      have hj0 : j < 16 := by omega
      have e5 : ((6 : Int32) * nI j) + nI a = nI (6 * j + a) := by rw [show (6 : Int32) * nI j = nI (6 * j) from ix_mul 6 j, nI_add]
      have e6 : ((6 : Int32) * nI j) + nI b = nI (6 * j + b) := by rw [show (6 : Int32) * nI j = nI (6 * j) from ix_mul 6 j, nI_add]
      have h := ih (j + 1) (by omega)
      rw [← nI_1] at h
      have no : ¬ (∃ p, p < j ∧ ¬ σ 63 0 (6 * p + a) = -900009 ∧ ¬ σ 63 0 (6 * p + b) = -900009) → (σ 63 0 (6 * j + a) = -900009 ∨ σ 63 0 (6 * j + b) = -900009) → kX8_shares_5 d Q (nI a) (nI b) 0 (nI j + 1) σ := by
        intro c1 c2
        rw [jbP_f] at h
        · exact h
        · rintro ⟨p, hp, h1, h2⟩
          rcases Nat.lt_or_eq_of_le (Nat.le_of_lt_succ hp) with q | q
          · exact c1 ⟨p, q, h1, h2⟩
          · subst q
            rcases c2 with c2 | c2
            · exact h1 c2
            · exact h2 c2
      refine bX8_shares_5 (lpN (N := 16) hj0 (by decide)) (lpN (N := 16) hj0 (by decide)) (fun _ c1 => ?_) (fun _ _ => by rw [e5]; exact vp_in_nI (by omega) (by decide)) (fun _ c1 c2 => ?_) (fun _ _ _ => by rw [e6]; exact vp_in_nI (by omega) (by decide)) (fun _ c1 c2 c3 => ?_) (fun _ c1 c2 c3 => ?_)
      · rw [jbP_0, Classical.not_not] at c1
        obtain ⟨p, hp, hn⟩ := c1
        rw [jbP_t ⟨p, by omega, hn⟩] at h
        exact h
      · rw [jbP_0] at c1
        rw [e5, nI_clamp (by omega)] at c2
        exact no c1 (Or.inl c2)
      · rw [jbP_0] at c1
        rw [e6, nI_clamp (by omega)] at c3
        exact no c1 (Or.inr c3)
      · rw [e5, nI_clamp (by omega)] at c2
        rw [e6, nI_clamp (by omega)] at c3
        rw [jbP_t ⟨j, by omega, c2, c3⟩] at h
        exact h
  have h0 := key 16 0 rfl
  rw [jbP_f (by rintro ⟨p, hp, _⟩; omega)] at h0
  exact eX8_shares (bX8_shares_0 h0)
abbrev kX8_againstOf_0 (d : Nat) (Q : Option ps_V → ps_S → Prop) (v1 : Int32) (v2 : Int32) (σ : ps_S) : Prop := ps_K mX8_againstOf d (ps_QF Q) 0 [some (.inr (.inr (50, 0))), some (.inl v1), some (.inl v2), none, none, none] [] σ
abbrev kX8_againstOf_5 (d : Nat) (Q : Option ps_V → ps_S → Prop) (v1 : Int32) (v2 : Int32) (v3 : Int32) (v4 : Int32) (σ : ps_S) : Prop := ps_K mX8_againstOf d (ps_QF Q) 5 [some (.inr (.inr (50, 0))), some (.inl v1), some (.inl v2), some (.inl v3), some (.inl v4), none] [] σ
theorem bX8_againstOf_0 {d : Nat} {Q : Option ps_V → ps_S → Prop} {v1 : Int32} {v2 : Int32} {σ : ps_S} (h1 : kX8_againstOf_5 d Q v1 v2 0 0 σ) : kX8_againstOf_0 d Q v1 v2 σ := by
  refine ps_iconst (x := 0) (ps_at tX8_againstOf_ok 0 rfl) (by decide) ?_
  refine ps_istore_n (L' := [some (.inr (.inr (50, 0))), some (.inl v1), some (.inl v2), some (.inl 0), none, none]) (ps_at tX8_againstOf_ok 1 rfl) rfl (by decide) rfl ?_
  refine ps_iconst (x := 0) (ps_at tX8_againstOf_ok 2 rfl) (by decide) ?_
  refine ps_istore (L' := [some (.inr (.inr (50, 0))), some (.inl v1), some (.inl v2), some (.inl 0), some (.inl 0), none]) (ps_at tX8_againstOf_ok 3 rfl) (by decide) rfl ?_
  exact h1
theorem bX8_againstOf_5 {d : Nat} {Q : Option ps_V → ps_S → Prop} {v1 : Int32} {v2 : Int32} {v3 : Int32} {v4 : Int32} {σ : ps_S} (h1 : 6 ≤ v4 → Q (some (.inl v3)) σ) (h2 : ¬ 6 ≤ v4 → vp_in ((6 * v2) + v4) 24) (h3 : ¬ 6 ≤ v4 → ¬ (σ 74 0 ((6 * v2) + v4).toNatClampNeg) = (-900009) → vp_in ((((12 * v1) + (2 * v4)) + 1) - (σ 74 0 ((6 * v2) + v4).toNatClampNeg)) 144) (h4 : ¬ 6 ≤ v4 → ¬ (σ 74 0 ((6 * v2) + v4).toNatClampNeg) = (-900009) → kX8_againstOf_5 d Q v1 v2 (v3 + (σ 75 0 ((((12 * v1) + (2 * v4)) + 1) - (σ 74 0 ((6 * v2) + v4).toNatClampNeg)).toNatClampNeg)) (v4 + 1) σ) (h5 : ¬ 6 ≤ v4 → (σ 74 0 ((6 * v2) + v4).toNatClampNeg) = (-900009) → kX8_againstOf_5 d Q v1 v2 (v3 + 0) (v4 + 1) σ) : kX8_againstOf_5 d Q v1 v2 v3 v4 σ := by
  refine ps_iload (ps_at tX8_againstOf_ok 4 rfl) rfl ?_
  refine ps_bipush (x := 6) (ps_at tX8_againstOf_ok 5 rfl) (by decide) ?_
  refine ps_icmp_ge (tgt := 65) (ps_at tX8_againstOf_ok 6 rfl) (by decide) (fun c0 => ?_) (fun c0 => ?_)
  · skip
    refine ps_iload_n (ps_at tX8_againstOf_ok 40 rfl) rfl rfl ?_
    exact ps_iret (ps_at tX8_againstOf_ok 41 rfl) rfl ⟨rfl, rfl⟩ (h1 c0)
  · skip
    refine ps_aload_n (ps_at tX8_againstOf_ok 7 rfl) rfl rfl ?_
    refine ps_getR (ps_at tX8_againstOf_ok 8 rfl) flX8_78 sh_50 rfl ?_
    refine ps_bipush (x := 6) (ps_at tX8_againstOf_ok 9 rfl) (by decide) ?_
    refine ps_iload_n (ps_at tX8_againstOf_ok 10 rfl) rfl rfl ?_
    refine ps_imul (ps_at tX8_againstOf_ok 11 rfl) ?_
    refine ps_iload (ps_at tX8_againstOf_ok 12 rfl) rfl ?_
    refine ps_iadd (ps_at tX8_againstOf_ok 13 rfl) ?_
    refine ps_iald (ps_at tX8_againstOf_ok 14 rfl) sh_74 (h2 c0) ?_
    refine ps_istore (L' := [some (.inr (.inr (50, 0))), some (.inl v1), some (.inl v2), some (.inl v3), some (.inl v4), some (.inl (σ 74 0 ((6 * v2) + v4).toNatClampNeg))]) (ps_at tX8_againstOf_ok 15 rfl) (by decide) rfl ?_
    refine ps_iload_n (ps_at tX8_againstOf_ok 16 rfl) rfl rfl ?_
    refine ps_iload (ps_at tX8_againstOf_ok 17 rfl) rfl ?_
    refine ps_ldc (ps_at tX8_againstOf_ok 18 rfl) cnX8_96 ?_
    refine ps_icmp_ne (tgt := 38) (ps_at tX8_againstOf_ok 19 rfl) (by decide) (fun c1 => ?_) (fun c1 => ?_)
    · skip
      refine ps_aload_n (ps_at tX8_againstOf_ok 22 rfl) rfl rfl ?_
      refine ps_getR (ps_at tX8_againstOf_ok 23 rfl) flX8_81 sh_50 rfl ?_
      refine ps_bipush (x := 12) (ps_at tX8_againstOf_ok 24 rfl) (by decide) ?_
      refine ps_iload_n (ps_at tX8_againstOf_ok 25 rfl) rfl rfl ?_
      refine ps_imul (ps_at tX8_againstOf_ok 26 rfl) ?_
      refine ps_iconst (x := 2) (ps_at tX8_againstOf_ok 27 rfl) (by decide) ?_
      refine ps_iload (ps_at tX8_againstOf_ok 28 rfl) rfl ?_
      refine ps_imul (ps_at tX8_againstOf_ok 29 rfl) ?_
      refine ps_iadd (ps_at tX8_againstOf_ok 30 rfl) ?_
      refine ps_iconst (x := 1) (ps_at tX8_againstOf_ok 31 rfl) (by decide) ?_
      refine ps_iadd (ps_at tX8_againstOf_ok 32 rfl) ?_
      refine ps_iload (ps_at tX8_againstOf_ok 33 rfl) rfl ?_
      refine ps_isub (ps_at tX8_againstOf_ok 34 rfl) ?_
      refine ps_iald (ps_at tX8_againstOf_ok 35 rfl) sh_75 (h3 c0 c1) ?_
      refine ps_iadd (ps_at tX8_againstOf_ok 36 rfl) ?_
      refine ps_istore_n (L' := [some (.inr (.inr (50, 0))), some (.inl v1), some (.inl v2), some (.inl (v3 + (σ 75 0 ((((12 * v1) + (2 * v4)) + 1) - (σ 74 0 ((6 * v2) + v4).toNatClampNeg)).toNatClampNeg))), some (.inl v4), some (.inl (σ 74 0 ((6 * v2) + v4).toNatClampNeg))]) (ps_at tX8_againstOf_ok 37 rfl) rfl (by decide) rfl ?_
      refine ps_iinc (L' := [some (.inr (.inr (50, 0))), some (.inl v1), some (.inl v2), some (.inl (v3 + (σ 75 0 ((((12 * v1) + (2 * v4)) + 1) - (σ 74 0 ((6 * v2) + v4).toNatClampNeg)).toNatClampNeg))), some (.inl (v4 + 1)), some (.inl (σ 74 0 ((6 * v2) + v4).toNatClampNeg))]) (y := 1) (ps_at tX8_againstOf_ok 38 rfl) rfl (by decide) (by decide) rfl ?_
      refine ps_goto (tgt := 5) (ps_at tX8_againstOf_ok 39 rfl) (by decide) ?_
      refine ps_forget (L' := [some (.inr (.inr (50, 0))), some (.inl v1), some (.inl v2), some (.inl (v3 + (σ 75 0 ((((12 * v1) + (2 * v4)) + 1) - (σ 74 0 ((6 * v2) + v4).toNatClampNeg)).toNatClampNeg))), some (.inl (v4 + 1)), none]) (And.intro rfl (And.intro rfl (And.intro rfl (And.intro rfl (And.intro rfl trivial))))) ?_
      exact h4 c0 c1
    · skip
      refine ps_iconst (x := 0) (ps_at tX8_againstOf_ok 20 rfl) (by decide) ?_
      refine ps_goto (tgt := 57) (ps_at tX8_againstOf_ok 21 rfl) (by decide) ?_
      refine ps_iadd (ps_at tX8_againstOf_ok 36 rfl) ?_
      refine ps_istore_n (L' := [some (.inr (.inr (50, 0))), some (.inl v1), some (.inl v2), some (.inl (v3 + 0)), some (.inl v4), some (.inl (σ 74 0 ((6 * v2) + v4).toNatClampNeg))]) (ps_at tX8_againstOf_ok 37 rfl) rfl (by decide) rfl ?_
      refine ps_iinc (L' := [some (.inr (.inr (50, 0))), some (.inl v1), some (.inl v2), some (.inl (v3 + 0)), some (.inl (v4 + 1)), some (.inl (σ 74 0 ((6 * v2) + v4).toNatClampNeg))]) (y := 1) (ps_at tX8_againstOf_ok 38 rfl) rfl (by decide) (by decide) rfl ?_
      refine ps_goto (tgt := 5) (ps_at tX8_againstOf_ok 39 rfl) (by decide) ?_
      refine ps_forget (L' := [some (.inr (.inr (50, 0))), some (.inl v1), some (.inl v2), some (.inl (v3 + 0)), some (.inl (v4 + 1)), none]) (And.intro rfl (And.intro rfl (And.intro rfl (And.intro rfl (And.intro rfl trivial))))) ?_
      exact h5 c0 c1
theorem eX8_againstOf {d : Nat} {Q : Option ps_V → ps_S → Prop} {v1 : Int32} {v2 : Int32} {σ : ps_S} (h : kX8_againstOf_0 d Q v1 v2 σ) : ps_C mX8_againstOf d [.inr (.inr (50, 0)), .inl v1, .inl v2] σ Q := ps_enter (by decide) rfl ⟨rfl, rfl, rfl⟩ rfl (Nat.le_of_ble_eq_true rfl) h
theorem pX8_againstOf {d : Nat} {Q : Option ps_V → ps_S → Prop} {v1 v2 : Int32} {σ : ps_S} (o1 : vp_in v1 12) (o2 : vp_in v2 4) (o3 : mHab σ v2.toNatClampNeg) (hq : Q (some (.inl (mWa σ v1.toNatClampNeg v2.toNatClampNeg))) σ) : ps_C mX8_againstOf d [.inr (.inr (50, 0)), .inl v1, .inl v2] σ Q := by
  obtain ⟨p, hp, rfl⟩ := vp_in_of o1 (by decide)
  obtain ⟨m, hm, rfl⟩ := vp_in_of o2 (by decide)
  rw [nI_clamp (by omega), nI_clamp (by omega)] at hq
  rw [nI_clamp (by omega)] at o3
  obtain ⟨g, hg⟩ : ∃ g : Nat → Int32, g = (fun w => if σ 74 0 (6 * m + w) = -900009 then 0 else if σ 74 0 (6 * m + w) = 0 then σ 75 0 (12 * p + 2 * w + 1) else σ 75 0 (12 * p + 2 * w)) := ⟨_, rfl⟩
  have hq : Q (some (.inl (jSum 6 g))) σ := by rw [hg]; exact hq
  have key : ∀ r j, j + r = 6 → kX8_againstOf_5 d Q (nI p) (nI m) (jSum j g) (nI j) σ := by
    intro r
    induction r with
    | zero =>
      intro j hj
      obtain rfl : j = 6 := by omega
      exact bX8_againstOf_5 (fun _ => hq) (lpX (N := 6) (by decide)) (lpX (N := 6) (by decide)) (lpX (N := 6) (by decide)) (lpX (N := 6) (by decide))
    | succ r ih =>
      intro j hj
      have hj0 : j < 6 := by omega
      have hjc : (nI j).toNatClampNeg = j := nI_clamp (by omega)
      have e5 : ((6 : Int32) * nI m) + nI j = nI (6 * m + j) := by rw [show (6 : Int32) * nI m = nI (6 * m) from ix_mul 6 m, nI_add]
      have e6 : (((12 : Int32) * nI p) + (2 * nI j)) + 1 = nI (12 * p + 2 * j + 1) := by rw [show (12 : Int32) * nI p = nI (12 * p) from ix_mul 12 p, show (2 : Int32) * nI j = nI (2 * j) from ix_mul 2 j, nI_add, nI_1]
      have ec : (nI (6 * m + j)).toNatClampNeg = 6 * m + j := nI_clamp (by omega)
      have h := ih (j + 1) (by omega)
      rw [← nI_1, show jSum (j + 1) g = jSum j g + g j from rfl] at h
      have ix : ¬ σ 74 0 (6 * m + j) = -900009 → ∃ q, q < 144 ∧ nI (12 * p + 2 * j + 1) - σ 74 0 (6 * m + j) = nI q ∧ g j = σ 75 0 q := by
        intro c
        rcases o3 j hj0 with z | z | z
        · exact absurd z c
        · refine ⟨12 * p + 2 * j + 1, by omega, by rw [z, Int32.sub_zero], ?_⟩
          rw [hg]
          simp only [z, if_true]
          simp
        · refine ⟨12 * p + 2 * j, by omega, by rw [z, nI_pred], ?_⟩
          rw [hg]
          simp only [z]
          simp
      refine bX8_againstOf_5 (lpN (N := 6) hj0 (by decide)) (fun _ => by rw [e5]; exact vp_in_nI (by omega) (by decide)) (fun _ c => ?_) (fun _ c => ?_) (fun _ c => ?_)
      · rw [e5, ec] at c ⊢
        obtain ⟨q, hq1, hq2, _⟩ := ix c
        rw [e6, hq2]
        exact vp_in_nI hq1 (by decide)
      · rw [e5, ec] at c ⊢
        obtain ⟨q, hq1, hq2, hq3⟩ := ix c
        rw [e6, hq2, nI_clamp (by omega), ← hq3]
        exact h
      · rw [e5, ec] at c
        have e : g j = 0 := by rw [hg]; simp only [c, if_true]
        rw [e] at h
        exact h
  exact eX8_againstOf (bX8_againstOf_0 (key 6 0 rfl))
abbrev kX8_best_0 (d : Nat) (Q : Option ps_V → ps_S → Prop)  (σ : ps_S) : Prop := ps_K mX8_best d (ps_QF Q) 0 [some (.inr (.inr (50, 0))), none, none] [] σ
abbrev kX8_best_5 (d : Nat) (Q : Option ps_V → ps_S → Prop) (v1 : Int32) (v2 : Int32) (σ : ps_S) : Prop := ps_K mX8_best d (ps_QF Q) 5 [some (.inr (.inr (50, 0))), some (.inl v1), some (.inl v2)] [] σ
theorem bX8_best_0 {d : Nat} {Q : Option ps_V → ps_S → Prop}  {σ : ps_S} (h1 : kX8_best_5 d Q 100000000 0 σ) : kX8_best_0 d Q σ := by
  refine ps_ldc (ps_at tX8_best_ok 0 rfl) cnX8_152 ?_
  refine ps_istore_n (L' := [some (.inr (.inr (50, 0))), some (.inl 100000000), none]) (ps_at tX8_best_ok 1 rfl) rfl (by decide) rfl ?_
  refine ps_iconst (x := 0) (ps_at tX8_best_ok 2 rfl) (by decide) ?_
  refine ps_istore_n (L' := [some (.inr (.inr (50, 0))), some (.inl 100000000), some (.inl 0)]) (ps_at tX8_best_ok 3 rfl) rfl (by decide) rfl ?_
  exact h1
theorem bX8_best_5 {d : Nat} {Q : Option ps_V → ps_S → Prop} {v1 : Int32} {v2 : Int32} {σ : ps_S} (h1 : (σ 50 0 21) ≤ v2 → Q (some (.inl v1)) σ) (h2 : ¬ (σ 50 0 21) ≤ v2 → vp_in v2 52) (h3 : ¬ (σ 50 0 21) ≤ v2 → v1 ≤ (σ 77 0 v2.toNatClampNeg) → kX8_best_5 d Q v1 (v2 + 1) σ) (h4 : ¬ (σ 50 0 21) ≤ v2 → ¬ v1 ≤ (σ 77 0 v2.toNatClampNeg) → kX8_best_5 d Q (σ 77 0 v2.toNatClampNeg) (v2 + 1) σ) : kX8_best_5 d Q v1 v2 σ := by
  refine ps_iload_n (ps_at tX8_best_ok 4 rfl) rfl rfl ?_
  refine ps_aload_n (ps_at tX8_best_ok 5 rfl) rfl rfl ?_
  refine ps_getI (ps_at tX8_best_ok 6 rfl) flX8_72 sh_50 rfl ?_
  refine ps_icmp_ge (tgt := 40) (ps_at tX8_best_ok 7 rfl) (by decide) (fun c0 => ?_) (fun c0 => ?_)
  · skip
    refine ps_iload_n (ps_at tX8_best_ok 23 rfl) rfl rfl ?_
    exact ps_iret (ps_at tX8_best_ok 24 rfl) rfl ⟨rfl, rfl⟩ (h1 c0)
  · skip
    refine ps_aload_n (ps_at tX8_best_ok 8 rfl) rfl rfl ?_
    refine ps_getR (ps_at tX8_best_ok 9 rfl) flX8_87 sh_50 rfl ?_
    refine ps_iload_n (ps_at tX8_best_ok 10 rfl) rfl rfl ?_
    refine ps_iald (ps_at tX8_best_ok 11 rfl) sh_77 (h2 c0) ?_
    refine ps_iload_n (ps_at tX8_best_ok 12 rfl) rfl rfl ?_
    refine ps_icmp_ge (tgt := 32) (ps_at tX8_best_ok 13 rfl) (by decide) (fun c1 => ?_) (fun c1 => ?_)
    · skip
      refine ps_iload_n (ps_at tX8_best_ok 19 rfl) rfl rfl ?_
      refine ps_istore_n (L' := [some (.inr (.inr (50, 0))), some (.inl v1), some (.inl v2)]) (ps_at tX8_best_ok 20 rfl) rfl (by decide) rfl ?_
      refine ps_iinc (L' := [some (.inr (.inr (50, 0))), some (.inl v1), some (.inl (v2 + 1))]) (y := 1) (ps_at tX8_best_ok 21 rfl) rfl (by decide) (by decide) rfl ?_
      refine ps_goto (tgt := 5) (ps_at tX8_best_ok 22 rfl) (by decide) ?_
      exact h3 c0 c1
    · skip
      refine ps_aload_n (ps_at tX8_best_ok 14 rfl) rfl rfl ?_
      refine ps_getR (ps_at tX8_best_ok 15 rfl) flX8_87 sh_50 rfl ?_
      refine ps_iload_n (ps_at tX8_best_ok 16 rfl) rfl rfl ?_
      refine ps_iald (ps_at tX8_best_ok 17 rfl) sh_77 (h2 c0) ?_
      refine ps_goto (tgt := 33) (ps_at tX8_best_ok 18 rfl) (by decide) ?_
      refine ps_istore_n (L' := [some (.inr (.inr (50, 0))), some (.inl (σ 77 0 v2.toNatClampNeg)), some (.inl v2)]) (ps_at tX8_best_ok 20 rfl) rfl (by decide) rfl ?_
      refine ps_iinc (L' := [some (.inr (.inr (50, 0))), some (.inl (σ 77 0 v2.toNatClampNeg)), some (.inl (v2 + 1))]) (y := 1) (ps_at tX8_best_ok 21 rfl) rfl (by decide) (by decide) rfl ?_
      refine ps_goto (tgt := 5) (ps_at tX8_best_ok 22 rfl) (by decide) ?_
      exact h4 c0 c1
theorem eX8_best {d : Nat} {Q : Option ps_V → ps_S → Prop}  {σ : ps_S} (h : kX8_best_0 d Q σ) : ps_C mX8_best d [.inr (.inr (50, 0))] σ Q := ps_enter (by decide) rfl ⟨rfl, rfl, rfl⟩ rfl (Nat.le_of_ble_eq_true rfl) h
theorem pX8_best {d : Nat} {Q : Option ps_V → ps_S → Prop}  {σ : ps_S} (o1 : vp_in (σ 50 0 21) 5) (hq : Q (some (.inl (mBest σ))) σ) : ps_C mX8_best d [.inr (.inr (50, 0))] σ Q := by
  obtain ⟨n, hn, he⟩ := vp_in_of o1 (by decide)
  have hq : Q (some (.inl (mMin n (fun m => σ 77 0 m) 100000000))) σ := by
    unfold mBest at hq
    rw [he, nI_clamp (by omega)] at hq
    exact hq
  have key : ∀ r j, j + r = n → kX8_best_5 d Q (mMin j (fun m => σ 77 0 m) 100000000) (nI j) σ := by
    intro r
    induction r with
    | zero =>
      intro j hj
      obtain rfl : j = n := by omega
      have hx : ¬ σ 50 0 21 ≤ nI j → False := fun c => c (by rw [he]; exact nI_le (Nat.le_refl _) (by omega))
      exact bX8_best_5 (fun _ => hq) (fun c => (hx c).elim) (fun c => (hx c).elim) (fun c => (hx c).elim)
    | succ r ih =>
      intro j hj
      have hj0 : j < n := by omega
      have hjc : (nI j).toNatClampNeg = j := nI_clamp (by omega)
      have h := ih (j + 1) (by omega)
      rw [← nI_1] at h
      refine bX8_best_5 (fun c => absurd c (by rw [he]; exact nI_ge hj0 (by omega))) (fun _ => vp_in_nI (by omega) (by decide)) (fun _ c => ?_) (fun _ c => ?_)
      · rw [hjc] at c
        rw [show mMin (j + 1) (fun m => σ 77 0 m) 100000000 = (if σ 77 0 j < mMin j (fun m => σ 77 0 m) 100000000 then σ 77 0 j else mMin j (fun m => σ 77 0 m) 100000000) from rfl, if_neg (Int32.not_lt.mpr c)] at h
        exact h
      · rw [hjc] at c ⊢
        rw [show mMin (j + 1) (fun m => σ 77 0 m) 100000000 = (if σ 77 0 j < mMin j (fun m => σ 77 0 m) 100000000 then σ 77 0 j else mMin j (fun m => σ 77 0 m) 100000000) from rfl, if_pos (Int32.not_le.mp c)] at h
        exact h
  exact eX8_best (bX8_best_0 (key n 0 (by omega)))

/-! ===== printed by wip/whole/gen.py: block rows ===== -/
abbrev kJ6_bitCount_0f7a4_0 (d : Nat) (Q : Option ps_V → ps_S → Prop) (v0 : Int32) (σ : ps_S) : Prop := ps_K mJ6_bitCount_0f7a4 d (ps_QF Q) 0 [some (.inl v0)] [] σ
theorem bJ6_bitCount_0f7a4_0 {d : Nat} {Q : Option ps_V → ps_S → Prop} {v0 : Int32} {σ : ps_S} (h1 : Q (some (.inl ((((((((v0 - (((v0.toUInt32 >>> ((1 : Int32).toUInt32 &&& Int32.toUInt32 31)).toInt32) &&& 1431655765)) &&& 858993459) + ((((v0 - (((v0.toUInt32 >>> ((1 : Int32).toUInt32 &&& Int32.toUInt32 31)).toInt32) &&& 1431655765)).toUInt32 >>> ((2 : Int32).toUInt32 &&& Int32.toUInt32 31)).toInt32) &&& 858993459)) + (((((v0 - (((v0.toUInt32 >>> ((1 : Int32).toUInt32 &&& Int32.toUInt32 31)).toInt32) &&& 1431655765)) &&& 858993459) + ((((v0 - (((v0.toUInt32 >>> ((1 : Int32).toUInt32 &&& Int32.toUInt32 31)).toInt32) &&& 1431655765)).toUInt32 >>> ((2 : Int32).toUInt32 &&& Int32.toUInt32 31)).toInt32) &&& 858993459)).toUInt32 >>> ((4 : Int32).toUInt32 &&& Int32.toUInt32 31)).toInt32)) &&& 252645135) + (((((((v0 - (((v0.toUInt32 >>> ((1 : Int32).toUInt32 &&& Int32.toUInt32 31)).toInt32) &&& 1431655765)) &&& 858993459) + ((((v0 - (((v0.toUInt32 >>> ((1 : Int32).toUInt32 &&& Int32.toUInt32 31)).toInt32) &&& 1431655765)).toUInt32 >>> ((2 : Int32).toUInt32 &&& Int32.toUInt32 31)).toInt32) &&& 858993459)) + (((((v0 - (((v0.toUInt32 >>> ((1 : Int32).toUInt32 &&& Int32.toUInt32 31)).toInt32) &&& 1431655765)) &&& 858993459) + ((((v0 - (((v0.toUInt32 >>> ((1 : Int32).toUInt32 &&& Int32.toUInt32 31)).toInt32) &&& 1431655765)).toUInt32 >>> ((2 : Int32).toUInt32 &&& Int32.toUInt32 31)).toInt32) &&& 858993459)).toUInt32 >>> ((4 : Int32).toUInt32 &&& Int32.toUInt32 31)).toInt32)) &&& 252645135).toUInt32 >>> ((8 : Int32).toUInt32 &&& Int32.toUInt32 31)).toInt32)) + ((((((((v0 - (((v0.toUInt32 >>> ((1 : Int32).toUInt32 &&& Int32.toUInt32 31)).toInt32) &&& 1431655765)) &&& 858993459) + ((((v0 - (((v0.toUInt32 >>> ((1 : Int32).toUInt32 &&& Int32.toUInt32 31)).toInt32) &&& 1431655765)).toUInt32 >>> ((2 : Int32).toUInt32 &&& Int32.toUInt32 31)).toInt32) &&& 858993459)) + (((((v0 - (((v0.toUInt32 >>> ((1 : Int32).toUInt32 &&& Int32.toUInt32 31)).toInt32) &&& 1431655765)) &&& 858993459) + ((((v0 - (((v0.toUInt32 >>> ((1 : Int32).toUInt32 &&& Int32.toUInt32 31)).toInt32) &&& 1431655765)).toUInt32 >>> ((2 : Int32).toUInt32 &&& Int32.toUInt32 31)).toInt32) &&& 858993459)).toUInt32 >>> ((4 : Int32).toUInt32 &&& Int32.toUInt32 31)).toInt32)) &&& 252645135) + (((((((v0 - (((v0.toUInt32 >>> ((1 : Int32).toUInt32 &&& Int32.toUInt32 31)).toInt32) &&& 1431655765)) &&& 858993459) + ((((v0 - (((v0.toUInt32 >>> ((1 : Int32).toUInt32 &&& Int32.toUInt32 31)).toInt32) &&& 1431655765)).toUInt32 >>> ((2 : Int32).toUInt32 &&& Int32.toUInt32 31)).toInt32) &&& 858993459)) + (((((v0 - (((v0.toUInt32 >>> ((1 : Int32).toUInt32 &&& Int32.toUInt32 31)).toInt32) &&& 1431655765)) &&& 858993459) + ((((v0 - (((v0.toUInt32 >>> ((1 : Int32).toUInt32 &&& Int32.toUInt32 31)).toInt32) &&& 1431655765)).toUInt32 >>> ((2 : Int32).toUInt32 &&& Int32.toUInt32 31)).toInt32) &&& 858993459)).toUInt32 >>> ((4 : Int32).toUInt32 &&& Int32.toUInt32 31)).toInt32)) &&& 252645135).toUInt32 >>> ((8 : Int32).toUInt32 &&& Int32.toUInt32 31)).toInt32)).toUInt32 >>> ((16 : Int32).toUInt32 &&& Int32.toUInt32 31)).toInt32)) &&& 63))) σ) : kJ6_bitCount_0f7a4_0 d Q v0 σ := by
  refine ps_iload_n (ps_at tJ6_bitCount_0f7a4_ok 0 rfl) rfl rfl ?_
  refine ps_iload_n (ps_at tJ6_bitCount_0f7a4_ok 1 rfl) rfl rfl ?_
  refine ps_iconst (x := 1) (ps_at tJ6_bitCount_0f7a4_ok 2 rfl) (by decide) ?_
  refine ps_iushr (ps_at tJ6_bitCount_0f7a4_ok 3 rfl) ?_
  refine ps_ldcw (ps_at tJ6_bitCount_0f7a4_ok 4 rfl) cnJ6_265 ?_
  refine ps_iand (ps_at tJ6_bitCount_0f7a4_ok 5 rfl) ?_
  refine ps_isub (ps_at tJ6_bitCount_0f7a4_ok 6 rfl) ?_
  refine ps_istore_n (L' := [some (.inl (v0 - (((v0.toUInt32 >>> ((1 : Int32).toUInt32 &&& Int32.toUInt32 31)).toInt32) &&& 1431655765)))]) (ps_at tJ6_bitCount_0f7a4_ok 7 rfl) rfl (by decide) rfl ?_
  refine ps_iload_n (ps_at tJ6_bitCount_0f7a4_ok 8 rfl) rfl rfl ?_
  refine ps_ldcw (ps_at tJ6_bitCount_0f7a4_ok 9 rfl) cnJ6_266 ?_
  refine ps_iand (ps_at tJ6_bitCount_0f7a4_ok 10 rfl) ?_
  refine ps_iload_n (ps_at tJ6_bitCount_0f7a4_ok 11 rfl) rfl rfl ?_
  refine ps_iconst (x := 2) (ps_at tJ6_bitCount_0f7a4_ok 12 rfl) (by decide) ?_
  refine ps_iushr (ps_at tJ6_bitCount_0f7a4_ok 13 rfl) ?_
  refine ps_ldcw (ps_at tJ6_bitCount_0f7a4_ok 14 rfl) cnJ6_266 ?_
  refine ps_iand (ps_at tJ6_bitCount_0f7a4_ok 15 rfl) ?_
  refine ps_iadd (ps_at tJ6_bitCount_0f7a4_ok 16 rfl) ?_
  refine ps_istore_n (L' := [some (.inl (((v0 - (((v0.toUInt32 >>> ((1 : Int32).toUInt32 &&& Int32.toUInt32 31)).toInt32) &&& 1431655765)) &&& 858993459) + ((((v0 - (((v0.toUInt32 >>> ((1 : Int32).toUInt32 &&& Int32.toUInt32 31)).toInt32) &&& 1431655765)).toUInt32 >>> ((2 : Int32).toUInt32 &&& Int32.toUInt32 31)).toInt32) &&& 858993459)))]) (ps_at tJ6_bitCount_0f7a4_ok 17 rfl) rfl (by decide) rfl ?_
  refine ps_iload_n (ps_at tJ6_bitCount_0f7a4_ok 18 rfl) rfl rfl ?_
  refine ps_iload_n (ps_at tJ6_bitCount_0f7a4_ok 19 rfl) rfl rfl ?_
  refine ps_iconst (x := 4) (ps_at tJ6_bitCount_0f7a4_ok 20 rfl) (by decide) ?_
  refine ps_iushr (ps_at tJ6_bitCount_0f7a4_ok 21 rfl) ?_
  refine ps_iadd (ps_at tJ6_bitCount_0f7a4_ok 22 rfl) ?_
  refine ps_ldcw (ps_at tJ6_bitCount_0f7a4_ok 23 rfl) cnJ6_267 ?_
  refine ps_iand (ps_at tJ6_bitCount_0f7a4_ok 24 rfl) ?_
  refine ps_istore_n (L' := [some (.inl (((((v0 - (((v0.toUInt32 >>> ((1 : Int32).toUInt32 &&& Int32.toUInt32 31)).toInt32) &&& 1431655765)) &&& 858993459) + ((((v0 - (((v0.toUInt32 >>> ((1 : Int32).toUInt32 &&& Int32.toUInt32 31)).toInt32) &&& 1431655765)).toUInt32 >>> ((2 : Int32).toUInt32 &&& Int32.toUInt32 31)).toInt32) &&& 858993459)) + (((((v0 - (((v0.toUInt32 >>> ((1 : Int32).toUInt32 &&& Int32.toUInt32 31)).toInt32) &&& 1431655765)) &&& 858993459) + ((((v0 - (((v0.toUInt32 >>> ((1 : Int32).toUInt32 &&& Int32.toUInt32 31)).toInt32) &&& 1431655765)).toUInt32 >>> ((2 : Int32).toUInt32 &&& Int32.toUInt32 31)).toInt32) &&& 858993459)).toUInt32 >>> ((4 : Int32).toUInt32 &&& Int32.toUInt32 31)).toInt32)) &&& 252645135))]) (ps_at tJ6_bitCount_0f7a4_ok 25 rfl) rfl (by decide) rfl ?_
  refine ps_iload_n (ps_at tJ6_bitCount_0f7a4_ok 26 rfl) rfl rfl ?_
  refine ps_iload_n (ps_at tJ6_bitCount_0f7a4_ok 27 rfl) rfl rfl ?_
  refine ps_bipush (x := 8) (ps_at tJ6_bitCount_0f7a4_ok 28 rfl) (by decide) ?_
  refine ps_iushr (ps_at tJ6_bitCount_0f7a4_ok 29 rfl) ?_
  refine ps_iadd (ps_at tJ6_bitCount_0f7a4_ok 30 rfl) ?_
  refine ps_istore_n (L' := [some (.inl ((((((v0 - (((v0.toUInt32 >>> ((1 : Int32).toUInt32 &&& Int32.toUInt32 31)).toInt32) &&& 1431655765)) &&& 858993459) + ((((v0 - (((v0.toUInt32 >>> ((1 : Int32).toUInt32 &&& Int32.toUInt32 31)).toInt32) &&& 1431655765)).toUInt32 >>> ((2 : Int32).toUInt32 &&& Int32.toUInt32 31)).toInt32) &&& 858993459)) + (((((v0 - (((v0.toUInt32 >>> ((1 : Int32).toUInt32 &&& Int32.toUInt32 31)).toInt32) &&& 1431655765)) &&& 858993459) + ((((v0 - (((v0.toUInt32 >>> ((1 : Int32).toUInt32 &&& Int32.toUInt32 31)).toInt32) &&& 1431655765)).toUInt32 >>> ((2 : Int32).toUInt32 &&& Int32.toUInt32 31)).toInt32) &&& 858993459)).toUInt32 >>> ((4 : Int32).toUInt32 &&& Int32.toUInt32 31)).toInt32)) &&& 252645135) + (((((((v0 - (((v0.toUInt32 >>> ((1 : Int32).toUInt32 &&& Int32.toUInt32 31)).toInt32) &&& 1431655765)) &&& 858993459) + ((((v0 - (((v0.toUInt32 >>> ((1 : Int32).toUInt32 &&& Int32.toUInt32 31)).toInt32) &&& 1431655765)).toUInt32 >>> ((2 : Int32).toUInt32 &&& Int32.toUInt32 31)).toInt32) &&& 858993459)) + (((((v0 - (((v0.toUInt32 >>> ((1 : Int32).toUInt32 &&& Int32.toUInt32 31)).toInt32) &&& 1431655765)) &&& 858993459) + ((((v0 - (((v0.toUInt32 >>> ((1 : Int32).toUInt32 &&& Int32.toUInt32 31)).toInt32) &&& 1431655765)).toUInt32 >>> ((2 : Int32).toUInt32 &&& Int32.toUInt32 31)).toInt32) &&& 858993459)).toUInt32 >>> ((4 : Int32).toUInt32 &&& Int32.toUInt32 31)).toInt32)) &&& 252645135).toUInt32 >>> ((8 : Int32).toUInt32 &&& Int32.toUInt32 31)).toInt32)))]) (ps_at tJ6_bitCount_0f7a4_ok 31 rfl) rfl (by decide) rfl ?_
  refine ps_iload_n (ps_at tJ6_bitCount_0f7a4_ok 32 rfl) rfl rfl ?_
  refine ps_iload_n (ps_at tJ6_bitCount_0f7a4_ok 33 rfl) rfl rfl ?_
  refine ps_bipush (x := 16) (ps_at tJ6_bitCount_0f7a4_ok 34 rfl) (by decide) ?_
  refine ps_iushr (ps_at tJ6_bitCount_0f7a4_ok 35 rfl) ?_
  refine ps_iadd (ps_at tJ6_bitCount_0f7a4_ok 36 rfl) ?_
  refine ps_istore_n (L' := [some (.inl (((((((v0 - (((v0.toUInt32 >>> ((1 : Int32).toUInt32 &&& Int32.toUInt32 31)).toInt32) &&& 1431655765)) &&& 858993459) + ((((v0 - (((v0.toUInt32 >>> ((1 : Int32).toUInt32 &&& Int32.toUInt32 31)).toInt32) &&& 1431655765)).toUInt32 >>> ((2 : Int32).toUInt32 &&& Int32.toUInt32 31)).toInt32) &&& 858993459)) + (((((v0 - (((v0.toUInt32 >>> ((1 : Int32).toUInt32 &&& Int32.toUInt32 31)).toInt32) &&& 1431655765)) &&& 858993459) + ((((v0 - (((v0.toUInt32 >>> ((1 : Int32).toUInt32 &&& Int32.toUInt32 31)).toInt32) &&& 1431655765)).toUInt32 >>> ((2 : Int32).toUInt32 &&& Int32.toUInt32 31)).toInt32) &&& 858993459)).toUInt32 >>> ((4 : Int32).toUInt32 &&& Int32.toUInt32 31)).toInt32)) &&& 252645135) + (((((((v0 - (((v0.toUInt32 >>> ((1 : Int32).toUInt32 &&& Int32.toUInt32 31)).toInt32) &&& 1431655765)) &&& 858993459) + ((((v0 - (((v0.toUInt32 >>> ((1 : Int32).toUInt32 &&& Int32.toUInt32 31)).toInt32) &&& 1431655765)).toUInt32 >>> ((2 : Int32).toUInt32 &&& Int32.toUInt32 31)).toInt32) &&& 858993459)) + (((((v0 - (((v0.toUInt32 >>> ((1 : Int32).toUInt32 &&& Int32.toUInt32 31)).toInt32) &&& 1431655765)) &&& 858993459) + ((((v0 - (((v0.toUInt32 >>> ((1 : Int32).toUInt32 &&& Int32.toUInt32 31)).toInt32) &&& 1431655765)).toUInt32 >>> ((2 : Int32).toUInt32 &&& Int32.toUInt32 31)).toInt32) &&& 858993459)).toUInt32 >>> ((4 : Int32).toUInt32 &&& Int32.toUInt32 31)).toInt32)) &&& 252645135).toUInt32 >>> ((8 : Int32).toUInt32 &&& Int32.toUInt32 31)).toInt32)) + ((((((((v0 - (((v0.toUInt32 >>> ((1 : Int32).toUInt32 &&& Int32.toUInt32 31)).toInt32) &&& 1431655765)) &&& 858993459) + ((((v0 - (((v0.toUInt32 >>> ((1 : Int32).toUInt32 &&& Int32.toUInt32 31)).toInt32) &&& 1431655765)).toUInt32 >>> ((2 : Int32).toUInt32 &&& Int32.toUInt32 31)).toInt32) &&& 858993459)) + (((((v0 - (((v0.toUInt32 >>> ((1 : Int32).toUInt32 &&& Int32.toUInt32 31)).toInt32) &&& 1431655765)) &&& 858993459) + ((((v0 - (((v0.toUInt32 >>> ((1 : Int32).toUInt32 &&& Int32.toUInt32 31)).toInt32) &&& 1431655765)).toUInt32 >>> ((2 : Int32).toUInt32 &&& Int32.toUInt32 31)).toInt32) &&& 858993459)).toUInt32 >>> ((4 : Int32).toUInt32 &&& Int32.toUInt32 31)).toInt32)) &&& 252645135) + (((((((v0 - (((v0.toUInt32 >>> ((1 : Int32).toUInt32 &&& Int32.toUInt32 31)).toInt32) &&& 1431655765)) &&& 858993459) + ((((v0 - (((v0.toUInt32 >>> ((1 : Int32).toUInt32 &&& Int32.toUInt32 31)).toInt32) &&& 1431655765)).toUInt32 >>> ((2 : Int32).toUInt32 &&& Int32.toUInt32 31)).toInt32) &&& 858993459)) + (((((v0 - (((v0.toUInt32 >>> ((1 : Int32).toUInt32 &&& Int32.toUInt32 31)).toInt32) &&& 1431655765)) &&& 858993459) + ((((v0 - (((v0.toUInt32 >>> ((1 : Int32).toUInt32 &&& Int32.toUInt32 31)).toInt32) &&& 1431655765)).toUInt32 >>> ((2 : Int32).toUInt32 &&& Int32.toUInt32 31)).toInt32) &&& 858993459)).toUInt32 >>> ((4 : Int32).toUInt32 &&& Int32.toUInt32 31)).toInt32)) &&& 252645135).toUInt32 >>> ((8 : Int32).toUInt32 &&& Int32.toUInt32 31)).toInt32)).toUInt32 >>> ((16 : Int32).toUInt32 &&& Int32.toUInt32 31)).toInt32)))]) (ps_at tJ6_bitCount_0f7a4_ok 37 rfl) rfl (by decide) rfl ?_
  refine ps_iload_n (ps_at tJ6_bitCount_0f7a4_ok 38 rfl) rfl rfl ?_
  refine ps_bipush (x := 63) (ps_at tJ6_bitCount_0f7a4_ok 39 rfl) (by decide) ?_
  refine ps_iand (ps_at tJ6_bitCount_0f7a4_ok 40 rfl) ?_
  exact ps_iret (ps_at tJ6_bitCount_0f7a4_ok 41 rfl) rfl ⟨rfl, rfl⟩ (h1)
theorem eJ6_bitCount_0f7a4 {d : Nat} {Q : Option ps_V → ps_S → Prop} {v0 : Int32} {σ : ps_S} (h : kJ6_bitCount_0f7a4_0 d Q v0 σ) : ps_C mJ6_bitCount_0f7a4 d [.inl v0] σ Q := ps_enter (by decide) rfl ⟨rfl, rfl, rfl⟩ rfl (Nat.le_of_ble_eq_true rfl) h
theorem pJ6_bitCount_0f7a4 {d : Nat} {Q : Option ps_V → ps_S → Prop} {v0 : Int32} {σ : ps_S}  (hq : Q (some (.inl (jbPop v0))) σ) : ps_C mJ6_bitCount_0f7a4 d [.inl v0] σ Q := eJ6_bitCount_0f7a4 (bJ6_bitCount_0f7a4_0 hq)
abbrev kX8_isForme_0 (d : Nat) (Q : Option ps_V → ps_S → Prop) (v0 : Int32) (σ : ps_S) : Prop := ps_K mX8_isForme (d + 1) (ps_QF Q) 0 [some (.inl v0)] [] σ
theorem bX8_isForme_0 {d : Nat} {Q : Option ps_V → ps_S → Prop} {v0 : Int32} {σ : ps_S} (h1 : Q (some (.inl (jbIn v0.toInt64 0 5))) σ) : kX8_isForme_0 d Q v0 σ := by
  refine ps_iload_n (ps_at tX8_isForme_ok 0 rfl) rfl rfl ?_
  refine ps_i2l (ps_at tX8_isForme_ok 1 rfl) ?_
  refine ps_lconst (x := 0) (ps_at tX8_isForme_ok 2 rfl) (by decide) ?_
  refine ps_ldc2 (ps_at tX8_isForme_ok 3 rfl) clX8_97 ?_
  refine ps_callS (M2 := mX8_in) (av := [.inr (.inl v0.toInt64), .inr (.inl 0), .inr (.inl 5)]) (rest := []) (ps_at tX8_isForme_ok 4 rfl) csX8_99 rfl rfl (fun _ => Nat.le_of_ble_eq_true rfl) (pX8_in ?_)
  exact ps_zret (ps_at tX8_isForme_ok 5 rfl) rfl ⟨rfl, rfl⟩ (ps_bitI _ _ _) (h1)
theorem eX8_isForme {d : Nat} {Q : Option ps_V → ps_S → Prop} {v0 : Int32} {σ : ps_S} (h : kX8_isForme_0 d Q v0 σ) : ps_C mX8_isForme (d + 1) [.inl v0] σ Q := ps_enter (by decide) rfl ⟨rfl, rfl, rfl⟩ rfl (Nat.le_of_ble_eq_true rfl) h
theorem pX8_isForme {d : Nat} {Q : Option ps_V → ps_S → Prop} {v0 : Int32} {σ : ps_S}  (hq : Q (some (.inl (jbIn v0.toInt64 0 5))) σ) : ps_C mX8_isForme (d + 1) [.inl v0] σ Q := eX8_isForme (bX8_isForme_0 hq)
abbrev kX8_isCopy_0 (d : Nat) (Q : Option ps_V → ps_S → Prop) (v0 : Int32) (σ : ps_S) : Prop := ps_K mX8_isCopy (d + 1) (ps_QF Q) 0 [some (.inl v0)] [] σ
theorem bX8_isCopy_0 {d : Nat} {Q : Option ps_V → ps_S → Prop} {v0 : Int32} {σ : ps_S} (h1 : Q (some (.inl (jbIn v0.toInt64 0 8))) σ) : kX8_isCopy_0 d Q v0 σ := by
  refine ps_iload_n (ps_at tX8_isCopy_ok 0 rfl) rfl rfl ?_
  refine ps_i2l (ps_at tX8_isCopy_ok 1 rfl) ?_
  refine ps_lconst (x := 0) (ps_at tX8_isCopy_ok 2 rfl) (by decide) ?_
  refine ps_ldc2 (ps_at tX8_isCopy_ok 3 rfl) clX8_103 ?_
  refine ps_callS (M2 := mX8_in) (av := [.inr (.inl v0.toInt64), .inr (.inl 0), .inr (.inl 8)]) (rest := []) (ps_at tX8_isCopy_ok 4 rfl) csX8_99 rfl rfl (fun _ => Nat.le_of_ble_eq_true rfl) (pX8_in ?_)
  exact ps_zret (ps_at tX8_isCopy_ok 5 rfl) rfl ⟨rfl, rfl⟩ (ps_bitI _ _ _) (h1)
theorem eX8_isCopy {d : Nat} {Q : Option ps_V → ps_S → Prop} {v0 : Int32} {σ : ps_S} (h : kX8_isCopy_0 d Q v0 σ) : ps_C mX8_isCopy (d + 1) [.inl v0] σ Q := ps_enter (by decide) rfl ⟨rfl, rfl, rfl⟩ rfl (Nat.le_of_ble_eq_true rfl) h
theorem pX8_isCopy {d : Nat} {Q : Option ps_V → ps_S → Prop} {v0 : Int32} {σ : ps_S}  (hq : Q (some (.inl (jbIn v0.toInt64 0 8))) σ) : ps_C mX8_isCopy (d + 1) [.inl v0] σ Q := eX8_isCopy (bX8_isCopy_0 hq)
abbrev kX7_within_0 (d : Nat) (Q : Option ps_V → ps_S → Prop) (v0 : Int32) (v1 : Int32) (σ : ps_S) : Prop := ps_K mX7_within d (ps_QF Q) 0 [some (.inl v0), some (.inl v1)] [] σ
theorem bX7_within_0 {d : Nat} {Q : Option ps_V → ps_S → Prop} {v0 : Int32} {v1 : Int32} {σ : ps_S} (h1 : v0 < 0 → Q (some (.inl 0)) σ) (h2 : ¬ v0 < 0 → v1 ≤ v0 → Q (some (.inl 0)) σ) (h3 : ¬ v0 < 0 → ¬ v1 ≤ v0 → Q (some (.inl 1)) σ) : kX7_within_0 d Q v0 v1 σ := by
  refine ps_iload_n (ps_at tX7_within_ok 0 rfl) rfl rfl ?_
  refine ps_if_lt (tgt := 13) (ps_at tX7_within_ok 1 rfl) (by decide) (fun c0 => ?_) (fun c0 => ?_)
  · skip
    refine ps_iconst (x := 0) (ps_at tX7_within_ok 7 rfl) (by decide) ?_
    exact ps_zret (ps_at tX7_within_ok 8 rfl) rfl ⟨rfl, rfl⟩ (Or.inl rfl) (h1 c0)
  · skip
    refine ps_iload_n (ps_at tX7_within_ok 2 rfl) rfl rfl ?_
    refine ps_iload_n (ps_at tX7_within_ok 3 rfl) rfl rfl ?_
    refine ps_icmp_ge (tgt := 13) (ps_at tX7_within_ok 4 rfl) (by decide) (fun c1 => ?_) (fun c1 => ?_)
    · skip
      refine ps_iconst (x := 0) (ps_at tX7_within_ok 7 rfl) (by decide) ?_
      exact ps_zret (ps_at tX7_within_ok 8 rfl) rfl ⟨rfl, rfl⟩ (Or.inl rfl) (h2 c0 c1)
    · skip
      refine ps_iconst (x := 1) (ps_at tX7_within_ok 5 rfl) (by decide) ?_
      refine ps_goto (tgt := 14) (ps_at tX7_within_ok 6 rfl) (by decide) ?_
      exact ps_zret (ps_at tX7_within_ok 8 rfl) rfl ⟨rfl, rfl⟩ (Or.inr rfl) (h3 c0 c1)
theorem eX7_within {d : Nat} {Q : Option ps_V → ps_S → Prop} {v0 : Int32} {v1 : Int32} {σ : ps_S} (h : kX7_within_0 d Q v0 v1 σ) : ps_C mX7_within d [.inl v0, .inl v1] σ Q := ps_enter (by decide) rfl ⟨rfl, rfl, rfl⟩ rfl (Nat.le_of_ble_eq_true rfl) h
theorem pX7_within {d : Nat} {Q : Option ps_V → ps_S → Prop} {v0 v1 : Int32} {σ : ps_S}  (hq : Q (some (.inl (jbWi v0 v1))) σ) : ps_C mX7_within d [.inl v0, .inl v1] σ Q := eX7_within (bX7_within_0 (fun c => by simpa [jbWi, c] using hq) (fun c c2 => by simpa [jbWi, c, c2] using hq) (fun c c2 => by simpa [jbWi, c, c2] using hq))
abbrev kX7_isCopy_0 (d : Nat) (Q : Option ps_V → ps_S → Prop) (v0 : Int32) (σ : ps_S) : Prop := ps_K mX7_isCopy (d + 1) (ps_QF Q) 0 [some (.inl v0)] [] σ
theorem bX7_isCopy_0 {d : Nat} {Q : Option ps_V → ps_S → Prop} {v0 : Int32} {σ : ps_S} (h1 : Q (some (.inl (jbWi v0 9))) σ) : kX7_isCopy_0 d Q v0 σ := by
  refine ps_iload_n (ps_at tX7_isCopy_ok 0 rfl) rfl rfl ?_
  refine ps_bipush (x := 9) (ps_at tX7_isCopy_ok 1 rfl) (by decide) ?_
  refine ps_callS (M2 := mX7_within) (av := [.inl v0, .inl 9]) (rest := []) (ps_at tX7_isCopy_ok 2 rfl) csX7_65 rfl rfl (fun _ => Nat.le_of_ble_eq_true rfl) (pX7_within ?_)
  exact ps_zret (ps_at tX7_isCopy_ok 3 rfl) rfl ⟨rfl, rfl⟩ (ps_bitW _ _) (h1)
theorem eX7_isCopy {d : Nat} {Q : Option ps_V → ps_S → Prop} {v0 : Int32} {σ : ps_S} (h : kX7_isCopy_0 d Q v0 σ) : ps_C mX7_isCopy (d + 1) [.inl v0] σ Q := ps_enter (by decide) rfl ⟨rfl, rfl, rfl⟩ rfl (Nat.le_of_ble_eq_true rfl) h
theorem pX7_isCopy {d : Nat} {Q : Option ps_V → ps_S → Prop} {v0 : Int32} {σ : ps_S}  (hq : Q (some (.inl (jbWi v0 9))) σ) : ps_C mX7_isCopy (d + 1) [.inl v0] σ Q := eX7_isCopy (bX7_isCopy_0 hq)
abbrev kX7_isForme_0 (d : Nat) (Q : Option ps_V → ps_S → Prop) (v0 : Int32) (σ : ps_S) : Prop := ps_K mX7_isForme (d + 1) (ps_QF Q) 0 [some (.inl v0)] [] σ
theorem bX7_isForme_0 {d : Nat} {Q : Option ps_V → ps_S → Prop} {v0 : Int32} {σ : ps_S} (h1 : Q (some (.inl (jbWi v0 6))) σ) : kX7_isForme_0 d Q v0 σ := by
  refine ps_iload_n (ps_at tX7_isForme_ok 0 rfl) rfl rfl ?_
  refine ps_bipush (x := 6) (ps_at tX7_isForme_ok 1 rfl) (by decide) ?_
  refine ps_callS (M2 := mX7_within) (av := [.inl v0, .inl 6]) (rest := []) (ps_at tX7_isForme_ok 2 rfl) csX7_65 rfl rfl (fun _ => Nat.le_of_ble_eq_true rfl) (pX7_within ?_)
  exact ps_zret (ps_at tX7_isForme_ok 3 rfl) rfl ⟨rfl, rfl⟩ (ps_bitW _ _) (h1)
theorem eX7_isForme {d : Nat} {Q : Option ps_V → ps_S → Prop} {v0 : Int32} {σ : ps_S} (h : kX7_isForme_0 d Q v0 σ) : ps_C mX7_isForme (d + 1) [.inl v0] σ Q := ps_enter (by decide) rfl ⟨rfl, rfl, rfl⟩ rfl (Nat.le_of_ble_eq_true rfl) h
theorem pX7_isForme {d : Nat} {Q : Option ps_V → ps_S → Prop} {v0 : Int32} {σ : ps_S}  (hq : Q (some (.inl (jbWi v0 6))) σ) : ps_C mX7_isForme (d + 1) [.inl v0] σ Q := eX7_isForme (bX7_isForme_0 hq)
abbrev kX7_isDays_0 (d : Nat) (Q : Option ps_V → ps_S → Prop) (v0 : Int32) (σ : ps_S) : Prop := ps_K mX7_isDays d (ps_QF Q) 0 [some (.inl v0)] [] σ
theorem bX7_isDays_0 {d : Nat} {Q : Option ps_V → ps_S → Prop} {v0 : Int32} {σ : ps_S} (h1 : v0 < 1 → Q (some (.inl 0)) σ) (h2 : ¬ v0 < 1 → 6 < v0 → Q (some (.inl 0)) σ) (h3 : ¬ v0 < 1 → ¬ 6 < v0 → Q (some (.inl 1)) σ) : kX7_isDays_0 d Q v0 σ := by
  refine ps_iload_n (ps_at tX7_isDays_ok 0 rfl) rfl rfl ?_
  refine ps_iconst (x := 1) (ps_at tX7_isDays_ok 1 rfl) (by decide) ?_
  refine ps_icmp_lt (tgt := 15) (ps_at tX7_isDays_ok 2 rfl) (by decide) (fun c0 => ?_) (fun c0 => ?_)
  · skip
    refine ps_iconst (x := 0) (ps_at tX7_isDays_ok 8 rfl) (by decide) ?_
    exact ps_zret (ps_at tX7_isDays_ok 9 rfl) rfl ⟨rfl, rfl⟩ (Or.inl rfl) (h1 c0)
  · skip
    refine ps_iload_n (ps_at tX7_isDays_ok 3 rfl) rfl rfl ?_
    refine ps_bipush (x := 6) (ps_at tX7_isDays_ok 4 rfl) (by decide) ?_
    refine ps_icmp_gt (tgt := 15) (ps_at tX7_isDays_ok 5 rfl) (by decide) (fun c1 => ?_) (fun c1 => ?_)
    · skip
      refine ps_iconst (x := 0) (ps_at tX7_isDays_ok 8 rfl) (by decide) ?_
      exact ps_zret (ps_at tX7_isDays_ok 9 rfl) rfl ⟨rfl, rfl⟩ (Or.inl rfl) (h2 c0 c1)
    · skip
      refine ps_iconst (x := 1) (ps_at tX7_isDays_ok 6 rfl) (by decide) ?_
      refine ps_goto (tgt := 16) (ps_at tX7_isDays_ok 7 rfl) (by decide) ?_
      exact ps_zret (ps_at tX7_isDays_ok 9 rfl) rfl ⟨rfl, rfl⟩ (Or.inr rfl) (h3 c0 c1)
theorem eX7_isDays {d : Nat} {Q : Option ps_V → ps_S → Prop} {v0 : Int32} {σ : ps_S} (h : kX7_isDays_0 d Q v0 σ) : ps_C mX7_isDays d [.inl v0] σ Q := ps_enter (by decide) rfl ⟨rfl, rfl, rfl⟩ rfl (Nat.le_of_ble_eq_true rfl) h
theorem pX7_isDays {d : Nat} {Q : Option ps_V → ps_S → Prop} {v0 : Int32} {σ : ps_S}  (hq : Q (some (.inl (jbDays v0))) σ) : ps_C mX7_isDays d [.inl v0] σ Q := eX7_isDays (bX7_isDays_0 (fun c => by simpa [jbDays, c] using hq) (fun c c2 => by simpa [jbDays, c, c2] using hq) (fun c c2 => by simpa [jbDays, c, c2] using hq))
abbrev kX0_areUnlike_0 (d : Nat) (Q : Option ps_V → ps_S → Prop) (v0 : Int32) (v1 : Int32) (σ : ps_S) : Prop := ps_K mX0_areUnlike d (ps_QF Q) 0 [some (.inl v0), some (.inl v1)] [] σ
theorem bX0_areUnlike_0 {d : Nat} {Q : Option ps_V → ps_S → Prop} {v0 : Int32} {v1 : Int32} {σ : ps_S} (h1 : v0 = (-900009) → Q (some (.inl 0)) σ) (h2 : ¬ v0 = (-900009) → v1 = (-900009) → Q (some (.inl 0)) σ) (h3 : ¬ v0 = (-900009) → ¬ v1 = (-900009) → v0 = v1 → Q (some (.inl 0)) σ) (h4 : ¬ v0 = (-900009) → ¬ v1 = (-900009) → ¬ v0 = v1 → Q (some (.inl 1)) σ) : kX0_areUnlike_0 d Q v0 v1 σ := by
  refine ps_iload_n (ps_at tX0_areUnlike_ok 0 rfl) rfl rfl ?_
  refine ps_ldc (ps_at tX0_areUnlike_ok 1 rfl) cnX0_32 ?_
  refine ps_icmp_eq (tgt := 21) (ps_at tX0_areUnlike_ok 2 rfl) (by decide) (fun c0 => ?_) (fun c0 => ?_)
  · skip
    refine ps_iconst (x := 0) (ps_at tX0_areUnlike_ok 11 rfl) (by decide) ?_
    exact ps_zret (ps_at tX0_areUnlike_ok 12 rfl) rfl ⟨rfl, rfl⟩ (Or.inl rfl) (h1 c0)
  · skip
    refine ps_iload_n (ps_at tX0_areUnlike_ok 3 rfl) rfl rfl ?_
    refine ps_ldc (ps_at tX0_areUnlike_ok 4 rfl) cnX0_32 ?_
    refine ps_icmp_eq (tgt := 21) (ps_at tX0_areUnlike_ok 5 rfl) (by decide) (fun c1 => ?_) (fun c1 => ?_)
    · skip
      refine ps_iconst (x := 0) (ps_at tX0_areUnlike_ok 11 rfl) (by decide) ?_
      exact ps_zret (ps_at tX0_areUnlike_ok 12 rfl) rfl ⟨rfl, rfl⟩ (Or.inl rfl) (h2 c0 c1)
    · skip
      refine ps_iload_n (ps_at tX0_areUnlike_ok 6 rfl) rfl rfl ?_
      refine ps_iload_n (ps_at tX0_areUnlike_ok 7 rfl) rfl rfl ?_
      refine ps_icmp_eq (tgt := 21) (ps_at tX0_areUnlike_ok 8 rfl) (by decide) (fun c2 => ?_) (fun c2 => ?_)
      · skip
        refine ps_iconst (x := 0) (ps_at tX0_areUnlike_ok 11 rfl) (by decide) ?_
        exact ps_zret (ps_at tX0_areUnlike_ok 12 rfl) rfl ⟨rfl, rfl⟩ (Or.inl rfl) (h3 c0 c1 c2)
      · skip
        refine ps_iconst (x := 1) (ps_at tX0_areUnlike_ok 9 rfl) (by decide) ?_
        refine ps_goto (tgt := 22) (ps_at tX0_areUnlike_ok 10 rfl) (by decide) ?_
        exact ps_zret (ps_at tX0_areUnlike_ok 12 rfl) rfl ⟨rfl, rfl⟩ (Or.inr rfl) (h4 c0 c1 c2)
theorem eX0_areUnlike {d : Nat} {Q : Option ps_V → ps_S → Prop} {v0 : Int32} {v1 : Int32} {σ : ps_S} (h : kX0_areUnlike_0 d Q v0 v1 σ) : ps_C mX0_areUnlike d [.inl v0, .inl v1] σ Q := ps_enter (by decide) rfl ⟨rfl, rfl, rfl⟩ rfl (Nat.le_of_ble_eq_true rfl) h
theorem pX0_areUnlike {d : Nat} {Q : Option ps_V → ps_S → Prop} {v0 v1 : Int32} {σ : ps_S}  (hq : Q (some (.inl (jbUn v0 v1))) σ) : ps_C mX0_areUnlike d [.inl v0, .inl v1] σ Q := eX0_areUnlike (bX0_areUnlike_0 (fun c => by simpa [jbUn, c] using hq) (fun c c2 => by simpa [jbUn, c, c2] using hq) (fun c c2 c3 => by simpa [jbUn, c, c2, c3] using hq) (fun c c2 c3 => by simpa [jbUn, c, c2, c3] using hq))
abbrev kJ7_fill_53178_0 (d : Nat) (Q : Option ps_V → ps_S → Prop) (g : Nat) (i0 : Nat) (v1 : Int32) (σ : ps_S) : Prop := ps_K mJ7_fill_53178 d (ps_QF Q) 0 [some (.inr (.inr (g, i0))), some (.inl v1), none, none] [] σ
abbrev kJ7_fill_53178_5 (d : Nat) (Q : Option ps_V → ps_S → Prop) (g : Nat) (i0 : Nat) (v1 : Int32) (v2 : Int32) (v3 : Int32) (σ : ps_S) : Prop := ps_K mJ7_fill_53178 d (ps_QF Q) 5 [some (.inr (.inr (g, i0))), some (.inl v1), some (.inl v2), some (.inl v3)] [] σ
theorem bJ7_fill_53178_0 {d : Nat} {Q : Option ps_V → ps_S → Prop} {i0 : Nat} {v1 : Int32} {σ : ps_S} {g n : Nat} (hs : (ps_sh g).2 = .inr (0, n, none)) (hn : n ≠ 0) (h1 : kJ7_fill_53178_5 d Q g i0 v1 0 (Int32.ofNat n) σ) : kJ7_fill_53178_0 d Q g i0 v1 σ := by
  refine ps_iconst (x := 0) (ps_at tJ7_fill_53178_ok 0 rfl) (by decide) ?_
  refine ps_istore_n (L' := [some (.inr (.inr (g, i0))), some (.inl v1), some (.inl 0), none]) (ps_at tJ7_fill_53178_ok 1 rfl) rfl (by decide) rfl ?_
  refine ps_aload_n (ps_at tJ7_fill_53178_ok 2 rfl) rfl rfl ?_
  refine ps_alen (ps_at tJ7_fill_53178_ok 3 rfl) hs hn rfl ?_
  refine ps_istore_n (L' := [some (.inr (.inr (g, i0))), some (.inl v1), some (.inl 0), some (.inl (Int32.ofNat n))]) (ps_at tJ7_fill_53178_ok 4 rfl) rfl (by decide) rfl ?_
  exact h1
theorem bJ7_fill_53178_5 {d : Nat} {Q : Option ps_V → ps_S → Prop} {i0 : Nat} {v1 : Int32} {v2 : Int32} {v3 : Int32} {σ : ps_S} {g n : Nat} (hs : (ps_sh g).2 = .inr (0, n, none)) (hn : n ≠ 0) (h1 : v3 ≤ v2 → Q none σ) (h2 : ¬ v3 ≤ v2 → vp_in v2 n) (h3 : ¬ v3 ≤ v2 → kJ7_fill_53178_5 d Q g i0 v1 (v2 + 1) v3 (ps_up σ g i0 v2.toNatClampNeg v1)) : kJ7_fill_53178_5 d Q g i0 v1 v2 v3 σ := by
  refine ps_iload_n (ps_at tJ7_fill_53178_ok 5 rfl) rfl rfl ?_
  refine ps_iload_n (ps_at tJ7_fill_53178_ok 6 rfl) rfl rfl ?_
  refine ps_icmp_ge (tgt := 20) (ps_at tJ7_fill_53178_ok 7 rfl) (by decide) (fun c0 => ?_) (fun c0 => ?_)
  · skip
    exact ps_vret (ps_at tJ7_fill_53178_ok 14 rfl) rfl ⟨rfl, rfl⟩ (h1 c0)
  · skip
    refine ps_aload_n (ps_at tJ7_fill_53178_ok 8 rfl) rfl rfl ?_
    refine ps_iload_n (ps_at tJ7_fill_53178_ok 9 rfl) rfl rfl ?_
    refine ps_iload_n (ps_at tJ7_fill_53178_ok 10 rfl) rfl rfl ?_
    refine ps_iast (ps_at tJ7_fill_53178_ok 11 rfl) hs (h2 c0) ?_
    refine ps_iinc (L' := [some (.inr (.inr (g, i0))), some (.inl v1), some (.inl (v2 + 1)), some (.inl v3)]) (y := 1) (ps_at tJ7_fill_53178_ok 12 rfl) rfl (by decide) (by decide) rfl ?_
    refine ps_goto (tgt := 5) (ps_at tJ7_fill_53178_ok 13 rfl) (by decide) ?_
    exact h3 c0
theorem eJ7_fill_53178 {d : Nat} {Q : Option ps_V → ps_S → Prop} {g : Nat} {i0 : Nat} {v1 : Int32} {σ : ps_S} (h : kJ7_fill_53178_0 d Q g i0 v1 σ) : ps_C mJ7_fill_53178 d [.inr (.inr (g, i0)), .inl v1] σ Q := ps_enter (by decide) rfl ⟨rfl, rfl, rfl⟩ rfl (Nat.le_of_ble_eq_true rfl) h

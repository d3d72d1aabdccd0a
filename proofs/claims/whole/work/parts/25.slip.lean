/-! ===== printed by wip/whole/gen.py: block rows ===== -/
abbrev kX5_fewestSlips_0 (d : Nat) (Q : Option ps_V → ps_S → Prop) (i1 : Nat) (v2 : Int32) (σ : ps_S) : Prop := ps_K mX5_fewestSlips (d + 1) (ps_QF Q) 0 [some (.inr (.inr (11, 0))), some (.inr (.inr (3, i1))), some (.inl v2), none, none] [] σ
abbrev kX5_fewestSlips_21 (d : Nat) (Q : Option ps_V → ps_S → Prop) (v2 : Int32) (v3 : Int32) (σ : ps_S) : Prop := ps_K mX5_fewestSlips (d + 1) (ps_QF Q) 21 [some (.inr (.inr (11, 0))), none, some (.inl v2), some (.inl v3), none] [] σ
abbrev kX5_fewestSlips_52 (d : Nat) (Q : Option ps_V → ps_S → Prop) (v2 : Int32) (v3 : Int32) (v4 : Int32) (σ : ps_S) : Prop := ps_K mX5_fewestSlips (d + 1) (ps_QF Q) 52 [some (.inr (.inr (11, 0))), none, some (.inl v2), some (.inl v3), some (.inl v4)] [] σ
abbrev kX5_fewestSlips_74 (d : Nat) (Q : Option ps_V → ps_S → Prop) (s0 : Int32) (σ : ps_S) : Prop := ps_K mX5_fewestSlips (d + 1) (ps_QF Q) 74 [none, none, none, none, none] [.inl s0] σ
abbrev kX5_fewestSlips_63 (d : Nat) (Q : Option ps_V → ps_S → Prop) (v2 : Int32) (v3 : Int32) (v4 : Int32) (σ : ps_S) : Prop := ps_K mX5_fewestSlips (d + 1) (ps_QF Q) 63 [some (.inr (.inr (11, 0))), none, some (.inl v2), some (.inl v3), some (.inl v4)] [] σ
theorem bX5_fewestSlips_0 {d : Nat} {Q : Option ps_V → ps_S → Prop} {i1 : Nat} {v2 : Int32} {σ : ps_S} (h1 : v2 < (σ 3 i1 6) → ps_C mX5_countAlone d [.inr (.inr (11, 0)), .inr (.inr (3, i1)), .inl (σ 3 i1 5)] σ (ps_rv (fun σ1 => kX5_fewestSlips_21 d Q v2 (σ 3 i1 5) σ1))) (h2 : ¬ v2 < (σ 3 i1 6) → Q (some (.inl 0)) σ) : kX5_fewestSlips_0 d Q i1 v2 σ := by
  refine ps_iload_n (ps_at tX5_fewestSlips_ok 0 rfl) rfl rfl ?_
  refine ps_aload_n (ps_at tX5_fewestSlips_ok 1 rfl) rfl rfl ?_
  refine ps_getI (ps_at tX5_fewestSlips_ok 2 rfl) flX5_21 sh_3 rfl ?_
  refine ps_icmp_lt (tgt := 10) (ps_at tX5_fewestSlips_ok 3 rfl) (by decide) (fun c0 => ?_) (fun c0 => ?_)
  · skip
    refine ps_aload_n (ps_at tX5_fewestSlips_ok 6 rfl) rfl rfl ?_
    refine ps_getI (ps_at tX5_fewestSlips_ok 7 rfl) flX5_27 sh_3 rfl ?_
    refine ps_istore_n (L' := [some (.inr (.inr (11, 0))), some (.inr (.inr (3, i1))), some (.inl v2), some (.inl (σ 3 i1 5)), none]) (ps_at tX5_fewestSlips_ok 8 rfl) rfl (by decide) rfl ?_
    refine ps_aload_n (ps_at tX5_fewestSlips_ok 9 rfl) rfl rfl ?_
    refine ps_aload_n (ps_at tX5_fewestSlips_ok 10 rfl) rfl rfl ?_
    refine ps_iload_n (ps_at tX5_fewestSlips_ok 11 rfl) rfl rfl ?_
    refine ps_callV (M2 := mX5_countAlone) (av := [.inr (.inr (3, i1)), .inl (σ 3 i1 5)]) (rest := []) (ps_at tX5_fewestSlips_ok 12 rfl) cvX5_30 sh_11 rfl rfl (fun _ => Nat.le_of_ble_eq_true rfl) ?_
    refine ps_C.imp ?_ (h1 c0)
    rintro _ σ1 ⟨rfl, hx⟩
    exact ps_forget (L' := [some (.inr (.inr (11, 0))), none, some (.inl v2), some (.inl (σ 3 i1 5)), none]) (And.intro rfl (And.intro rfl (And.intro rfl trivial))) hx
  · skip
    refine ps_iconst (x := 0) (ps_at tX5_fewestSlips_ok 4 rfl) (by decide) ?_
    exact ps_iret (ps_at tX5_fewestSlips_ok 5 rfl) rfl ⟨rfl, rfl⟩ (h2 c0)
theorem bX5_fewestSlips_21 {d : Nat} {Q : Option ps_V → ps_S → Prop} {v2 : Int32} {v3 : Int32} {σ : ps_S} (h1 : ¬ v2 = 1 → kX5_fewestSlips_52 d Q v2 v3 2 (ps_cpy σ 12 0 13 0 512)) (h2 : v2 = 1 → vp_in v3 512) (h3 : v2 = 1 → Q (some (.inl (σ 12 0 v3.toNatClampNeg))) σ) : kX5_fewestSlips_21 d Q v2 v3 σ := by
  refine ps_iload_n (ps_at tX5_fewestSlips_ok 13 rfl) rfl rfl ?_
  refine ps_iconst (x := 1) (ps_at tX5_fewestSlips_ok 14 rfl) (by decide) ?_
  refine ps_icmp_ne (tgt := 33) (ps_at tX5_fewestSlips_ok 15 rfl) (by decide) (fun c0 => ?_) (fun c0 => ?_)
  · skip
    refine ps_aload_n (ps_at tX5_fewestSlips_ok 21 rfl) rfl rfl ?_
    refine ps_getR (ps_at tX5_fewestSlips_ok 22 rfl) flX5_9 sh_11 rfl ?_
    refine ps_iconst (x := 0) (ps_at tX5_fewestSlips_ok 23 rfl) (by decide) ?_
    refine ps_aload_n (ps_at tX5_fewestSlips_ok 24 rfl) rfl rfl ?_
    refine ps_getR (ps_at tX5_fewestSlips_ok 25 rfl) flX5_15 sh_11 rfl ?_
    refine ps_iconst (x := 0) (ps_at tX5_fewestSlips_ok 26 rfl) (by decide) ?_
    refine ps_sipush (x := 512) (ps_at tX5_fewestSlips_ok 27 rfl) (by decide) ?_
    refine ps_copy (ps_at tX5_fewestSlips_ok 28 rfl) cpX5_34 sh_12 sh_13 (by decide) (by decide) ?_
    refine ps_iconst (x := 2) (ps_at tX5_fewestSlips_ok 29 rfl) (by decide) ?_
    refine ps_istore (L' := [some (.inr (.inr (11, 0))), none, some (.inl v2), some (.inl v3), some (.inl 2)]) (ps_at tX5_fewestSlips_ok 30 rfl) (by decide) rfl ?_
    exact h1 c0
  · skip
    refine ps_aload_n (ps_at tX5_fewestSlips_ok 16 rfl) rfl rfl ?_
    refine ps_getR (ps_at tX5_fewestSlips_ok 17 rfl) flX5_9 sh_11 rfl ?_
    refine ps_iload_n (ps_at tX5_fewestSlips_ok 18 rfl) rfl rfl ?_
    refine ps_iald (ps_at tX5_fewestSlips_ok 19 rfl) sh_12 (h2 c0) ?_
    exact ps_iret (ps_at tX5_fewestSlips_ok 20 rfl) rfl ⟨rfl, rfl⟩ (h3 c0)
theorem bX5_fewestSlips_52 {d : Nat} {Q : Option ps_V → ps_S → Prop} {v2 : Int32} {v3 : Int32} {v4 : Int32} {σ : ps_S} (h1 : v2 ≤ v4 → ps_C mX5_slipsWithOneMore d [.inr (.inr (11, 0)), .inl v3] σ (ps_ri (fun x σ1 => kX5_fewestSlips_74 d Q x σ1))) (h2 : ¬ v2 ≤ v4 → ps_C mX5_allowOneMore d [.inr (.inr (11, 0)), .inl v3] σ (ps_rv (fun σ1 => kX5_fewestSlips_63 d Q v2 v3 v4 σ1))) : kX5_fewestSlips_52 d Q v2 v3 v4 σ := by
  refine ps_iload (ps_at tX5_fewestSlips_ok 31 rfl) rfl ?_
  refine ps_iload_n (ps_at tX5_fewestSlips_ok 32 rfl) rfl rfl ?_
  refine ps_icmp_ge (tgt := 69) (ps_at tX5_fewestSlips_ok 33 rfl) (by decide) (fun c0 => ?_) (fun c0 => ?_)
  · skip
    refine ps_aload_n (ps_at tX5_fewestSlips_ok 39 rfl) rfl rfl ?_
    refine ps_iload_n (ps_at tX5_fewestSlips_ok 40 rfl) rfl rfl ?_
    refine ps_callV (M2 := mX5_slipsWithOneMore) (av := [.inl v3]) (rest := []) (ps_at tX5_fewestSlips_ok 41 rfl) cvX5_44 sh_11 rfl rfl (fun _ => Nat.le_of_ble_eq_true rfl) ?_
    refine ps_C.imp ?_ (h1 c0)
    rintro _ σ1 ⟨x, rfl, hx⟩
    exact ps_forget (L' := [none, none, none, none, none]) trivial hx
  · skip
    refine ps_aload_n (ps_at tX5_fewestSlips_ok 34 rfl) rfl rfl ?_
    refine ps_iload_n (ps_at tX5_fewestSlips_ok 35 rfl) rfl rfl ?_
    refine ps_callV (M2 := mX5_allowOneMore) (av := [.inl v3]) (rest := []) (ps_at tX5_fewestSlips_ok 36 rfl) cvX5_40 sh_11 rfl rfl (fun _ => Nat.le_of_ble_eq_true rfl) ?_
    refine ps_C.imp ?_ (h2 c0)
    rintro _ σ1 ⟨rfl, hx⟩
    exact hx
theorem bX5_fewestSlips_74 {d : Nat} {Q : Option ps_V → ps_S → Prop} {s0 : Int32} {σ : ps_S} (h1 : Q (some (.inl s0)) σ) : kX5_fewestSlips_74 d Q s0 σ := by
  exact ps_iret (ps_at tX5_fewestSlips_ok 42 rfl) rfl ⟨rfl, rfl⟩ (h1)
theorem bX5_fewestSlips_63 {d : Nat} {Q : Option ps_V → ps_S → Prop} {v2 : Int32} {v3 : Int32} {v4 : Int32} {σ : ps_S} (h1 : kX5_fewestSlips_52 d Q v2 v3 (v4 + 1) σ) : kX5_fewestSlips_63 d Q v2 v3 v4 σ := by
  refine ps_iinc (L' := [some (.inr (.inr (11, 0))), none, some (.inl v2), some (.inl v3), some (.inl (v4 + 1))]) (y := 1) (ps_at tX5_fewestSlips_ok 37 rfl) rfl (by decide) (by decide) rfl ?_
  refine ps_goto (tgt := 52) (ps_at tX5_fewestSlips_ok 38 rfl) (by decide) ?_
  exact h1
theorem eX5_fewestSlips {d : Nat} {Q : Option ps_V → ps_S → Prop} {i1 : Nat} {v2 : Int32} {σ : ps_S} (h : kX5_fewestSlips_0 d Q i1 v2 σ) : ps_C mX5_fewestSlips (d + 1) [.inr (.inr (11, 0)), .inr (.inr (3, i1)), .inl v2] σ Q := ps_enter (by decide) rfl ⟨rfl, rfl, rfl⟩ rfl (Nat.le_of_ble_eq_true rfl) h
abbrev kX5_countAlone_0 (d : Nat) (Q : Option ps_V → ps_S → Prop) (i1 : Nat) (v2 : Int32) (σ : ps_S) : Prop := ps_K mX5_countAlone (d + 1) (ps_QF Q) 0 [some (.inr (.inr (11, 0))), some (.inr (.inr (3, i1))), some (.inl v2), none, none] [] σ
abbrev kX5_countAlone_8 (d : Nat) (Q : Option ps_V → ps_S → Prop) (i1 : Nat) (v2 : Int32) (σ : ps_S) : Prop := ps_K mX5_countAlone (d + 1) (ps_QF Q) 8 [some (.inr (.inr (11, 0))), some (.inr (.inr (3, i1))), some (.inl v2), none, none] [] σ
abbrev kX5_countAlone_10 (d : Nat) (Q : Option ps_V → ps_S → Prop) (i1 : Nat) (v2 : Int32) (v3 : Int32) (σ : ps_S) : Prop := ps_K mX5_countAlone (d + 1) (ps_QF Q) 10 [some (.inr (.inr (11, 0))), some (.inr (.inr (3, i1))), some (.inl v2), some (.inl v3), none] [] σ
abbrev kX5_countAlone_22 (d : Nat) (Q : Option ps_V → ps_S → Prop) (i1 : Nat) (v2 : Int32) (v3 : Int32) (σ : ps_S) : Prop := ps_K mX5_countAlone (d + 1) (ps_QF Q) 22 [some (.inr (.inr (11, 0))), some (.inr (.inr (3, i1))), some (.inl v2), some (.inl v3), none] [] σ
abbrev kX5_countAlone_25 (d : Nat) (Q : Option ps_V → ps_S → Prop) (i1 : Nat) (v2 : Int32) (v3 : Int32) (v4 : Int32) (σ : ps_S) : Prop := ps_K mX5_countAlone (d + 1) (ps_QF Q) 25 [some (.inr (.inr (11, 0))), some (.inr (.inr (3, i1))), some (.inl v2), some (.inl v3), some (.inl v4)] [] σ
abbrev kX5_countAlone_44 (d : Nat) (Q : Option ps_V → ps_S → Prop) (i1 : Nat) (v2 : Int32) (v3 : Int32) (v4 : Int32) (s0 : Int32) (s1 : Int32) (s2 : Int32) (σ : ps_S) : Prop := ps_K mX5_countAlone (d + 1) (ps_QF Q) 44 [some (.inr (.inr (11, 0))), some (.inr (.inr (3, i1))), some (.inl v2), some (.inl v3), some (.inl v4)] [.inl s0, .inl s1, .inl s2, .inr (.inr (12, 0))] σ
theorem bX5_countAlone_0 {d : Nat} {Q : Option ps_V → ps_S → Prop} {i1 : Nat} {v2 : Int32} {σ : ps_S} (h1 : ps_C mJ7_fill_53178 d [.inr (.inr (12, 0)), .inl 0] σ (ps_rv (fun σ1 => kX5_countAlone_8 d Q i1 v2 σ1))) : kX5_countAlone_0 d Q i1 v2 σ := by
  refine ps_aload_n (ps_at tX5_countAlone_ok 0 rfl) rfl rfl ?_
  refine ps_getR (ps_at tX5_countAlone_ok 1 rfl) flX5_9 sh_11 rfl ?_
  refine ps_iconst (x := 0) (ps_at tX5_countAlone_ok 2 rfl) (by decide) ?_
  refine ps_callS (M2 := mJ7_fill_53178) (av := [.inr (.inr (12, 0)), .inl 0]) (rest := []) (ps_at tX5_countAlone_ok 3 rfl) csX5_48 rfl rfl (fun _ => Nat.le_of_ble_eq_true rfl) ?_
  refine ps_C.imp ?_ (h1)
  rintro _ σ1 ⟨rfl, hx⟩
  exact hx
theorem bX5_countAlone_8 {d : Nat} {Q : Option ps_V → ps_S → Prop} {i1 : Nat} {v2 : Int32} {σ : ps_S} (h1 : kX5_countAlone_10 d Q i1 v2 0 σ) : kX5_countAlone_8 d Q i1 v2 σ := by
  refine ps_iconst (x := 0) (ps_at tX5_countAlone_ok 4 rfl) (by decide) ?_
  refine ps_istore_n (L' := [some (.inr (.inr (11, 0))), some (.inr (.inr (3, i1))), some (.inl v2), some (.inl 0), none]) (ps_at tX5_countAlone_ok 5 rfl) rfl (by decide) rfl ?_
  exact h1
theorem bX5_countAlone_10 {d : Nat} {Q : Option ps_V → ps_S → Prop} {i1 : Nat} {v2 : Int32} {v3 : Int32} {σ : ps_S} (h1 : 6 ≤ v3 → Q none σ) (h2 : ¬ 6 ≤ v3 → ps_C mX5_takeReaders d [.inr (.inr (11, 0)), .inr (.inr (3, i1)), .inl v3] σ (ps_rv (fun σ1 => kX5_countAlone_22 d Q i1 v2 v3 σ1))) : kX5_countAlone_10 d Q i1 v2 v3 σ := by
  refine ps_iload_n (ps_at tX5_countAlone_ok 6 rfl) rfl rfl ?_
  refine ps_bipush (x := 6) (ps_at tX5_countAlone_ok 7 rfl) (by decide) ?_
  refine ps_icmp_ge (tgt := 63) (ps_at tX5_countAlone_ok 8 rfl) (by decide) (fun c0 => ?_) (fun c0 => ?_)
  · skip
    exact ps_vret (ps_at tX5_countAlone_ok 36 rfl) rfl ⟨rfl, rfl⟩ (h1 c0)
  · skip
    refine ps_aload_n (ps_at tX5_countAlone_ok 9 rfl) rfl rfl ?_
    refine ps_aload_n (ps_at tX5_countAlone_ok 10 rfl) rfl rfl ?_
    refine ps_iload_n (ps_at tX5_countAlone_ok 11 rfl) rfl rfl ?_
    refine ps_callV (M2 := mX5_takeReaders) (av := [.inr (.inr (3, i1)), .inl v3]) (rest := []) (ps_at tX5_countAlone_ok 12 rfl) cvX5_54 sh_11 rfl rfl (fun _ => Nat.le_of_ble_eq_true rfl) ?_
    refine ps_C.imp ?_ (h2 c0)
    rintro _ σ1 ⟨rfl, hx⟩
    exact hx
theorem bX5_countAlone_22 {d : Nat} {Q : Option ps_V → ps_S → Prop} {i1 : Nat} {v2 : Int32} {v3 : Int32} {σ : ps_S} (h1 : kX5_countAlone_25 d Q i1 v2 v3 v2 σ) : kX5_countAlone_22 d Q i1 v2 v3 σ := by
  refine ps_iload_n (ps_at tX5_countAlone_ok 13 rfl) rfl rfl ?_
  refine ps_istore (L' := [some (.inr (.inr (11, 0))), some (.inr (.inr (3, i1))), some (.inl v2), some (.inl v3), some (.inl v2)]) (ps_at tX5_countAlone_ok 14 rfl) (by decide) rfl ?_
  exact h1
theorem bX5_countAlone_25 {d : Nat} {Q : Option ps_V → ps_S → Prop} {i1 : Nat} {v2 : Int32} {v3 : Int32} {v4 : Int32} {σ : ps_S} (h1 : v4 ≤ 0 → kX5_countAlone_10 d Q i1 v2 (v3 + 1) σ) (h2 : ¬ v4 ≤ 0 → vp_in v4 512) (h3 : ¬ v4 ≤ 0 → ps_C mX5_slipsAtPlace d [.inr (.inr (11, 0)), .inl v4] σ (ps_ri (fun x σ1 => kX5_countAlone_44 d Q i1 v2 v3 v4 x (σ 12 0 v4.toNatClampNeg) v4 σ1))) : kX5_countAlone_25 d Q i1 v2 v3 v4 σ := by
  refine ps_iload (ps_at tX5_countAlone_ok 15 rfl) rfl ?_
  refine ps_if_le (tgt := 57) (ps_at tX5_countAlone_ok 16 rfl) (by decide) (fun c0 => ?_) (fun c0 => ?_)
  · skip
    refine ps_iinc (L' := [some (.inr (.inr (11, 0))), some (.inr (.inr (3, i1))), some (.inl v2), some (.inl (v3 + 1)), some (.inl v4)]) (y := 1) (ps_at tX5_countAlone_ok 34 rfl) rfl (by decide) (by decide) rfl ?_
    refine ps_goto (tgt := 10) (ps_at tX5_countAlone_ok 35 rfl) (by decide) ?_
    refine ps_forget (L' := [some (.inr (.inr (11, 0))), some (.inr (.inr (3, i1))), some (.inl v2), some (.inl (v3 + 1)), none]) (And.intro rfl (And.intro rfl (And.intro rfl (And.intro rfl trivial)))) ?_
    exact h1 c0
  · skip
    refine ps_aload_n (ps_at tX5_countAlone_ok 17 rfl) rfl rfl ?_
    refine ps_getR (ps_at tX5_countAlone_ok 18 rfl) flX5_9 sh_11 rfl ?_
    refine ps_iload (ps_at tX5_countAlone_ok 19 rfl) rfl ?_
    refine ps_dup2 (ps_at tX5_countAlone_ok 20 rfl) ?_
    refine ps_iald (ps_at tX5_countAlone_ok 21 rfl) sh_12 (h2 c0) ?_
    refine ps_aload_n (ps_at tX5_countAlone_ok 22 rfl) rfl rfl ?_
    refine ps_iload (ps_at tX5_countAlone_ok 23 rfl) rfl ?_
    refine ps_callV (M2 := mX5_slipsAtPlace) (av := [.inl v4]) (rest := [.inl (σ 12 0 v4.toNatClampNeg), .inl v4, .inr (.inr (12, 0))]) (ps_at tX5_countAlone_ok 24 rfl) cvX5_57 sh_11 rfl rfl (fun _ => Nat.le_of_ble_eq_true rfl) ?_
    refine ps_C.imp ?_ (h3 c0)
    rintro _ σ1 ⟨x, rfl, hx⟩
    exact hx
theorem bX5_countAlone_44 {d : Nat} {Q : Option ps_V → ps_S → Prop} {i1 : Nat} {v2 : Int32} {v3 : Int32} {v4 : Int32} {s0 : Int32} {s1 : Int32} {s2 : Int32} {σ : ps_S} (h1 : vp_in s2 512) (h2 : kX5_countAlone_25 d Q i1 v2 v3 ((v4 - 1) &&& v2) (ps_up σ 12 0 s2.toNatClampNeg (s1 + s0))) : kX5_countAlone_44 d Q i1 v2 v3 v4 s0 s1 s2 σ := by
  refine ps_iadd (ps_at tX5_countAlone_ok 25 rfl) ?_
  refine ps_iast (ps_at tX5_countAlone_ok 26 rfl) sh_12 (h1) ?_
  refine ps_iload (ps_at tX5_countAlone_ok 27 rfl) rfl ?_
  refine ps_iconst (x := 1) (ps_at tX5_countAlone_ok 28 rfl) (by decide) ?_
  refine ps_isub (ps_at tX5_countAlone_ok 29 rfl) ?_
  refine ps_iload_n (ps_at tX5_countAlone_ok 30 rfl) rfl rfl ?_
  refine ps_iand (ps_at tX5_countAlone_ok 31 rfl) ?_
  refine ps_istore (L' := [some (.inr (.inr (11, 0))), some (.inr (.inr (3, i1))), some (.inl v2), some (.inl v3), some (.inl ((v4 - 1) &&& v2))]) (ps_at tX5_countAlone_ok 32 rfl) (by decide) rfl ?_
  refine ps_goto (tgt := 25) (ps_at tX5_countAlone_ok 33 rfl) (by decide) ?_
  exact h2
theorem eX5_countAlone {d : Nat} {Q : Option ps_V → ps_S → Prop} {i1 : Nat} {v2 : Int32} {σ : ps_S} (h : kX5_countAlone_0 d Q i1 v2 σ) : ps_C mX5_countAlone (d + 1) [.inr (.inr (11, 0)), .inr (.inr (3, i1)), .inl v2] σ Q := ps_enter (by decide) rfl ⟨rfl, rfl, rfl⟩ rfl (Nat.le_of_ble_eq_true rfl) h
abbrev kX5_takeReaders_0 (d : Nat) (Q : Option ps_V → ps_S → Prop) (i1 : Nat) (v2 : Int32) (σ : ps_S) : Prop := ps_K mX5_takeReaders (d + 1) (ps_QF Q) 0 [some (.inr (.inr (11, 0))), some (.inr (.inr (3, i1))), some (.inl v2), none, none] [] σ
abbrev kX5_takeReaders_7 (d : Nat) (Q : Option ps_V → ps_S → Prop) (i1 : Nat) (v2 : Int32) (v3 : Int32) (σ : ps_S) : Prop := ps_K mX5_takeReaders (d + 1) (ps_QF Q) 7 [some (.inr (.inr (11, 0))), some (.inr (.inr (3, i1))), some (.inl v2), some (.inl v3), none] [] σ
theorem bX5_takeReaders_0 {d : Nat} {Q : Option ps_V → ps_S → Prop} {i1 : Nat} {v2 : Int32} {σ : ps_S} (h1 : kX5_takeReaders_7 d Q i1 v2 0 (ps_up σ 11 0 3 0)) : kX5_takeReaders_0 d Q i1 v2 σ := by
  refine ps_aload_n (ps_at tX5_takeReaders_ok 0 rfl) rfl rfl ?_
  refine ps_iconst (x := 0) (ps_at tX5_takeReaders_ok 1 rfl) (by decide) ?_
  refine ps_putI (ps_at tX5_takeReaders_ok 2 rfl) fpX5_60 sh_11 rfl ?_
  refine ps_iconst (x := 0) (ps_at tX5_takeReaders_ok 3 rfl) (by decide) ?_
  refine ps_istore_n (L' := [some (.inr (.inr (11, 0))), some (.inr (.inr (3, i1))), some (.inl v2), some (.inl 0), none]) (ps_at tX5_takeReaders_ok 4 rfl) rfl (by decide) rfl ?_
  exact h1
theorem bX5_takeReaders_7 {d : Nat} {Q : Option ps_V → ps_S → Prop} {i1 : Nat} {v2 : Int32} {v3 : Int32} {σ : ps_S} (h1 : 10 ≤ v3 → Q none σ) (h2 : ¬ 10 ≤ v3 → vp_in v2 6) (h3 : ¬ 10 ≤ v3 → (nI (mkN 9 (fun c => σ 5 (9 * i1 + c) v2.toNatClampNeg = v3))) = 0 → kX5_takeReaders_7 d Q i1 v2 (v3 + 1) σ) (h4 : ¬ 10 ≤ v3 → ¬ (nI (mkN 9 (fun c => σ 5 (9 * i1 + c) v2.toNatClampNeg = v3))) = 0 → vp_in (σ 11 0 3) 10) (h5 : ¬ 10 ≤ v3 → ¬ (nI (mkN 9 (fun c => σ 5 (9 * i1 + c) v2.toNatClampNeg = v3))) = 0 → kX5_takeReaders_7 d Q i1 v2 (v3 + 1) (ps_up (ps_up σ 14 0 (σ 11 0 3).toNatClampNeg (nI (mkN 9 (fun c => σ 5 (9 * i1 + c) v2.toNatClampNeg = v3)))) 11 0 3 (((ps_up σ 14 0 (σ 11 0 3).toNatClampNeg (nI (mkN 9 (fun c => σ 5 (9 * i1 + c) v2.toNatClampNeg = v3)))) 11 0 3) + 1))) : kX5_takeReaders_7 d Q i1 v2 v3 σ := by
  refine ps_iload_n (ps_at tX5_takeReaders_ok 5 rfl) rfl rfl ?_
  refine ps_bipush (x := 10) (ps_at tX5_takeReaders_ok 6 rfl) (by decide) ?_
  refine ps_icmp_ge (tgt := 53) (ps_at tX5_takeReaders_ok 7 rfl) (by decide) (fun c0 => ?_) (fun c0 => ?_)
  · skip
    exact ps_vret (ps_at tX5_takeReaders_ok 29 rfl) rfl ⟨rfl, rfl⟩ (h1 c0)
  · skip
    refine ps_aload_n (ps_at tX5_takeReaders_ok 8 rfl) rfl rfl ?_
    refine ps_iload_n (ps_at tX5_takeReaders_ok 9 rfl) rfl rfl ?_
    refine ps_iload_n (ps_at tX5_takeReaders_ok 10 rfl) rfl rfl ?_
    refine ps_callV (M2 := mX0_readersOf) (av := [.inl v2, .inl v3]) (rest := []) (ps_at tX5_takeReaders_ok 11 rfl) cvX5_63 sh_3 rfl rfl (fun _ => Nat.le_of_ble_eq_true rfl) (pX0_readersOf (h2 c0) ?_)
    refine ps_istore (L' := [some (.inr (.inr (11, 0))), some (.inr (.inr (3, i1))), some (.inl v2), some (.inl v3), some (.inl (nI (mkN 9 (fun c => σ 5 (9 * i1 + c) v2.toNatClampNeg = v3))))]) (ps_at tX5_takeReaders_ok 12 rfl) (by decide) rfl ?_
    refine ps_iload (ps_at tX5_takeReaders_ok 13 rfl) rfl ?_
    refine ps_if_eq (tgt := 47) (ps_at tX5_takeReaders_ok 14 rfl) (by decide) (fun c1 => ?_) (fun c1 => ?_)
    · skip
      refine ps_iinc (L' := [some (.inr (.inr (11, 0))), some (.inr (.inr (3, i1))), some (.inl v2), some (.inl (v3 + 1)), some (.inl (nI (mkN 9 (fun c => σ 5 (9 * i1 + c) v2.toNatClampNeg = v3))))]) (y := 1) (ps_at tX5_takeReaders_ok 27 rfl) rfl (by decide) (by decide) rfl ?_
      refine ps_goto (tgt := 7) (ps_at tX5_takeReaders_ok 28 rfl) (by decide) ?_
      refine ps_forget (L' := [some (.inr (.inr (11, 0))), some (.inr (.inr (3, i1))), some (.inl v2), some (.inl (v3 + 1)), none]) (And.intro rfl (And.intro rfl (And.intro rfl (And.intro rfl trivial)))) ?_
      exact h3 c0 c1
    · skip
      refine ps_aload_n (ps_at tX5_takeReaders_ok 15 rfl) rfl rfl ?_
      refine ps_getR (ps_at tX5_takeReaders_ok 16 rfl) flX5_18 sh_11 rfl ?_
      refine ps_aload_n (ps_at tX5_takeReaders_ok 17 rfl) rfl rfl ?_
      refine ps_getI (ps_at tX5_takeReaders_ok 18 rfl) flX5_60 sh_11 rfl ?_
      refine ps_iload (ps_at tX5_takeReaders_ok 19 rfl) rfl ?_
      refine ps_iast (ps_at tX5_takeReaders_ok 20 rfl) sh_14 (h4 c0 c1) ?_
      refine ps_aload_n (ps_at tX5_takeReaders_ok 21 rfl) rfl rfl ?_
      refine ps_dup_r (ps_at tX5_takeReaders_ok 22 rfl) ?_
      refine ps_getI (ps_at tX5_takeReaders_ok 23 rfl) flX5_60 sh_11 rfl ?_
      refine ps_iconst (x := 1) (ps_at tX5_takeReaders_ok 24 rfl) (by decide) ?_
      refine ps_iadd (ps_at tX5_takeReaders_ok 25 rfl) ?_
      refine ps_putI (ps_at tX5_takeReaders_ok 26 rfl) fpX5_60 sh_11 rfl ?_
      refine ps_iinc (L' := [some (.inr (.inr (11, 0))), some (.inr (.inr (3, i1))), some (.inl v2), some (.inl (v3 + 1)), some (.inl (nI (mkN 9 (fun c => σ 5 (9 * i1 + c) v2.toNatClampNeg = v3))))]) (y := 1) (ps_at tX5_takeReaders_ok 27 rfl) rfl (by decide) (by decide) rfl ?_
      refine ps_goto (tgt := 7) (ps_at tX5_takeReaders_ok 28 rfl) (by decide) ?_
      refine ps_forget (L' := [some (.inr (.inr (11, 0))), some (.inr (.inr (3, i1))), some (.inl v2), some (.inl (v3 + 1)), none]) (And.intro rfl (And.intro rfl (And.intro rfl (And.intro rfl trivial)))) ?_
      exact h5 c0 c1
theorem eX5_takeReaders {d : Nat} {Q : Option ps_V → ps_S → Prop} {i1 : Nat} {v2 : Int32} {σ : ps_S} (h : kX5_takeReaders_0 d Q i1 v2 σ) : ps_C mX5_takeReaders (d + 1) [.inr (.inr (11, 0)), .inr (.inr (3, i1)), .inl v2] σ Q := ps_enter (by decide) rfl ⟨rfl, rfl, rfl⟩ rfl (Nat.le_of_ble_eq_true rfl) h
abbrev kX5_slipsAtPlace_0 (d : Nat) (Q : Option ps_V → ps_S → Prop) (v1 : Int32) (σ : ps_S) : Prop := ps_K mX5_slipsAtPlace (d + 1) (ps_QF Q) 0 [some (.inr (.inr (11, 0))), some (.inl v1), none, none, none, none] [] σ
abbrev kX5_slipsAtPlace_7 (d : Nat) (Q : Option ps_V → ps_S → Prop) (v1 : Int32) (v2 : Int32) (v3 : Int32) (v4 : Int32) (σ : ps_S) : Prop := ps_K mX5_slipsAtPlace (d + 1) (ps_QF Q) 7 [some (.inr (.inr (11, 0))), some (.inl v1), some (.inl v2), some (.inl v3), some (.inl v4), none] [] σ
theorem bX5_slipsAtPlace_0 {d : Nat} {Q : Option ps_V → ps_S → Prop} {v1 : Int32} {σ : ps_S} (h1 : kX5_slipsAtPlace_7 d Q v1 0 0 0 σ) : kX5_slipsAtPlace_0 d Q v1 σ := by
  refine ps_iconst (x := 0) (ps_at tX5_slipsAtPlace_ok 0 rfl) (by decide) ?_
  refine ps_istore_n (L' := [some (.inr (.inr (11, 0))), some (.inl v1), some (.inl 0), none, none, none]) (ps_at tX5_slipsAtPlace_ok 1 rfl) rfl (by decide) rfl ?_
  refine ps_iconst (x := 0) (ps_at tX5_slipsAtPlace_ok 2 rfl) (by decide) ?_
  refine ps_istore_n (L' := [some (.inr (.inr (11, 0))), some (.inl v1), some (.inl 0), some (.inl 0), none, none]) (ps_at tX5_slipsAtPlace_ok 3 rfl) rfl (by decide) rfl ?_
  refine ps_iconst (x := 0) (ps_at tX5_slipsAtPlace_ok 4 rfl) (by decide) ?_
  refine ps_istore (L' := [some (.inr (.inr (11, 0))), some (.inl v1), some (.inl 0), some (.inl 0), some (.inl 0), none]) (ps_at tX5_slipsAtPlace_ok 5 rfl) (by decide) rfl ?_
  exact h1
theorem bX5_slipsAtPlace_7 {d : Nat} {Q : Option ps_V → ps_S → Prop} {v1 : Int32} {v2 : Int32} {v3 : Int32} {v4 : Int32} {σ : ps_S} (h1 : (σ 11 0 3) ≤ v4 → Q (some (.inl (v2 - v3))) σ) (h2 : ¬ (σ 11 0 3) ≤ v4 → vp_in v4 10) (h3 : ¬ (σ 11 0 3) ≤ v4 → kX5_slipsAtPlace_7 d Q v1 (v2 + (jbPop (v1 &&& (σ 14 0 v4.toNatClampNeg)))) (jbMax v3 (jbPop (v1 &&& (σ 14 0 v4.toNatClampNeg)))) (v4 + 1) σ) : kX5_slipsAtPlace_7 d Q v1 v2 v3 v4 σ := by
  refine ps_iload (ps_at tX5_slipsAtPlace_ok 6 rfl) rfl ?_
  refine ps_aload_n (ps_at tX5_slipsAtPlace_ok 7 rfl) rfl rfl ?_
  refine ps_getI (ps_at tX5_slipsAtPlace_ok 8 rfl) flX5_60 sh_11 rfl ?_
  refine ps_icmp_ge (tgt := 48) (ps_at tX5_slipsAtPlace_ok 9 rfl) (by decide) (fun c0 => ?_) (fun c0 => ?_)
  · skip
    refine ps_iload_n (ps_at tX5_slipsAtPlace_ok 28 rfl) rfl rfl ?_
    refine ps_iload_n (ps_at tX5_slipsAtPlace_ok 29 rfl) rfl rfl ?_
    refine ps_isub (ps_at tX5_slipsAtPlace_ok 30 rfl) ?_
    exact ps_iret (ps_at tX5_slipsAtPlace_ok 31 rfl) rfl ⟨rfl, rfl⟩ (h1 c0)
  · skip
    refine ps_iload_n (ps_at tX5_slipsAtPlace_ok 10 rfl) rfl rfl ?_
    refine ps_aload_n (ps_at tX5_slipsAtPlace_ok 11 rfl) rfl rfl ?_
    refine ps_getR (ps_at tX5_slipsAtPlace_ok 12 rfl) flX5_18 sh_11 rfl ?_
    refine ps_iload (ps_at tX5_slipsAtPlace_ok 13 rfl) rfl ?_
    refine ps_iald (ps_at tX5_slipsAtPlace_ok 14 rfl) sh_14 (h2 c0) ?_
    refine ps_iand (ps_at tX5_slipsAtPlace_ok 15 rfl) ?_
    refine ps_callS (M2 := mJ6_bitCount_0f7a4) (av := [.inl (v1 &&& (σ 14 0 v4.toNatClampNeg))]) (rest := []) (ps_at tX5_slipsAtPlace_ok 16 rfl) csX5_67 rfl rfl (fun _ => Nat.le_of_ble_eq_true rfl) (pJ6_bitCount_0f7a4 ?_)
    refine ps_istore (L' := [some (.inr (.inr (11, 0))), some (.inl v1), some (.inl v2), some (.inl v3), some (.inl v4), some (.inl (jbPop (v1 &&& (σ 14 0 v4.toNatClampNeg))))]) (ps_at tX5_slipsAtPlace_ok 17 rfl) (by decide) rfl ?_
    refine ps_iload_n (ps_at tX5_slipsAtPlace_ok 18 rfl) rfl rfl ?_
    refine ps_iload (ps_at tX5_slipsAtPlace_ok 19 rfl) rfl ?_
    refine ps_iadd (ps_at tX5_slipsAtPlace_ok 20 rfl) ?_
    refine ps_istore_n (L' := [some (.inr (.inr (11, 0))), some (.inl v1), some (.inl (v2 + (jbPop (v1 &&& (σ 14 0 v4.toNatClampNeg))))), some (.inl v3), some (.inl v4), some (.inl (jbPop (v1 &&& (σ 14 0 v4.toNatClampNeg))))]) (ps_at tX5_slipsAtPlace_ok 21 rfl) rfl (by decide) rfl ?_
    refine ps_iload_n (ps_at tX5_slipsAtPlace_ok 22 rfl) rfl rfl ?_
    refine ps_iload (ps_at tX5_slipsAtPlace_ok 23 rfl) rfl ?_
    refine ps_mmax (ps_at tX5_slipsAtPlace_ok 24 rfl) cmX5_72 (fun _ => Nat.le_of_ble_eq_true rfl) ?_
    refine ps_istore_n (L' := [some (.inr (.inr (11, 0))), some (.inl v1), some (.inl (v2 + (jbPop (v1 &&& (σ 14 0 v4.toNatClampNeg))))), some (.inl (jbMax v3 (jbPop (v1 &&& (σ 14 0 v4.toNatClampNeg))))), some (.inl v4), some (.inl (jbPop (v1 &&& (σ 14 0 v4.toNatClampNeg))))]) (ps_at tX5_slipsAtPlace_ok 25 rfl) rfl (by decide) rfl ?_
    refine ps_iinc (L' := [some (.inr (.inr (11, 0))), some (.inl v1), some (.inl (v2 + (jbPop (v1 &&& (σ 14 0 v4.toNatClampNeg))))), some (.inl (jbMax v3 (jbPop (v1 &&& (σ 14 0 v4.toNatClampNeg))))), some (.inl (v4 + 1)), some (.inl (jbPop (v1 &&& (σ 14 0 v4.toNatClampNeg))))]) (y := 1) (ps_at tX5_slipsAtPlace_ok 26 rfl) rfl (by decide) (by decide) rfl ?_
    refine ps_goto (tgt := 7) (ps_at tX5_slipsAtPlace_ok 27 rfl) (by decide) ?_
    refine ps_forget (L' := [some (.inr (.inr (11, 0))), some (.inl v1), some (.inl (v2 + (jbPop (v1 &&& (σ 14 0 v4.toNatClampNeg))))), some (.inl (jbMax v3 (jbPop (v1 &&& (σ 14 0 v4.toNatClampNeg))))), some (.inl (v4 + 1)), none]) (And.intro rfl (And.intro rfl (And.intro rfl (And.intro rfl (And.intro rfl trivial))))) ?_
    exact h3 c0
theorem eX5_slipsAtPlace {d : Nat} {Q : Option ps_V → ps_S → Prop} {v1 : Int32} {σ : ps_S} (h : kX5_slipsAtPlace_0 d Q v1 σ) : ps_C mX5_slipsAtPlace (d + 1) [.inr (.inr (11, 0)), .inl v1] σ Q := ps_enter (by decide) rfl ⟨rfl, rfl, rfl⟩ rfl (Nat.le_of_ble_eq_true rfl) h
abbrev kX5_allowOneMore_0 (d : Nat) (Q : Option ps_V → ps_S → Prop) (v1 : Int32) (σ : ps_S) : Prop := ps_K mX5_allowOneMore (d + 1) (ps_QF Q) 0 [some (.inr (.inr (11, 0))), some (.inl v1), none] [] σ
abbrev kX5_allowOneMore_2 (d : Nat) (Q : Option ps_V → ps_S → Prop) (v1 : Int32) (v2 : Int32) (σ : ps_S) : Prop := ps_K mX5_allowOneMore (d + 1) (ps_QF Q) 2 [some (.inr (.inr (11, 0))), some (.inl v1), some (.inl v2)] [] σ
abbrev kX5_allowOneMore_16 (d : Nat) (Q : Option ps_V → ps_S → Prop) (v1 : Int32) (v2 : Int32) (s0 : Int32) (s1 : Int32) (σ : ps_S) : Prop := ps_K mX5_allowOneMore (d + 1) (ps_QF Q) 16 [some (.inr (.inr (11, 0))), some (.inl v1), some (.inl v2)] [.inl s0, .inl s1, .inr (.inr (13, 0))] σ
theorem bX5_allowOneMore_0 {d : Nat} {Q : Option ps_V → ps_S → Prop} {v1 : Int32} {σ : ps_S} (h1 : kX5_allowOneMore_2 d Q v1 v1 σ) : kX5_allowOneMore_0 d Q v1 σ := by
  refine ps_iload_n (ps_at tX5_allowOneMore_ok 0 rfl) rfl rfl ?_
  refine ps_istore_n (L' := [some (.inr (.inr (11, 0))), some (.inl v1), some (.inl v1)]) (ps_at tX5_allowOneMore_ok 1 rfl) rfl (by decide) rfl ?_
  exact h1
theorem bX5_allowOneMore_2 {d : Nat} {Q : Option ps_V → ps_S → Prop} {v1 : Int32} {v2 : Int32} {σ : ps_S} (h1 : v2 ≤ 0 → Q none σ) (h2 : ¬ v2 ≤ 0 → ps_C mX5_slipsWithOneMore d [.inr (.inr (11, 0)), .inl v2] σ (ps_ri (fun x σ1 => kX5_allowOneMore_16 d Q v1 v2 x v2 σ1))) : kX5_allowOneMore_2 d Q v1 v2 σ := by
  refine ps_iload_n (ps_at tX5_allowOneMore_ok 2 rfl) rfl rfl ?_
  refine ps_if_le (tgt := 26) (ps_at tX5_allowOneMore_ok 3 rfl) (by decide) (fun c0 => ?_) (fun c0 => ?_)
  · skip
    exact ps_vret (ps_at tX5_allowOneMore_ok 18 rfl) rfl ⟨rfl, rfl⟩ (h1 c0)
  · skip
    refine ps_aload_n (ps_at tX5_allowOneMore_ok 4 rfl) rfl rfl ?_
    refine ps_getR (ps_at tX5_allowOneMore_ok 5 rfl) flX5_15 sh_11 rfl ?_
    refine ps_iload_n (ps_at tX5_allowOneMore_ok 6 rfl) rfl rfl ?_
    refine ps_aload_n (ps_at tX5_allowOneMore_ok 7 rfl) rfl rfl ?_
    refine ps_iload_n (ps_at tX5_allowOneMore_ok 8 rfl) rfl rfl ?_
    refine ps_callV (M2 := mX5_slipsWithOneMore) (av := [.inl v2]) (rest := [.inl v2, .inr (.inr (13, 0))]) (ps_at tX5_allowOneMore_ok 9 rfl) cvX5_44 sh_11 rfl rfl (fun _ => Nat.le_of_ble_eq_true rfl) ?_
    refine ps_C.imp ?_ (h2 c0)
    rintro _ σ1 ⟨x, rfl, hx⟩
    exact hx
theorem bX5_allowOneMore_16 {d : Nat} {Q : Option ps_V → ps_S → Prop} {v1 : Int32} {v2 : Int32} {s0 : Int32} {s1 : Int32} {σ : ps_S} (h1 : vp_in s1 512) (h2 : kX5_allowOneMore_2 d Q v1 ((v2 - 1) &&& v1) (ps_up σ 13 0 s1.toNatClampNeg s0)) : kX5_allowOneMore_16 d Q v1 v2 s0 s1 σ := by
  refine ps_iast (ps_at tX5_allowOneMore_ok 10 rfl) sh_13 (h1) ?_
  refine ps_iload_n (ps_at tX5_allowOneMore_ok 11 rfl) rfl rfl ?_
  refine ps_iconst (x := 1) (ps_at tX5_allowOneMore_ok 12 rfl) (by decide) ?_
  refine ps_isub (ps_at tX5_allowOneMore_ok 13 rfl) ?_
  refine ps_iload_n (ps_at tX5_allowOneMore_ok 14 rfl) rfl rfl ?_
  refine ps_iand (ps_at tX5_allowOneMore_ok 15 rfl) ?_
  refine ps_istore_n (L' := [some (.inr (.inr (11, 0))), some (.inl v1), some (.inl ((v2 - 1) &&& v1))]) (ps_at tX5_allowOneMore_ok 16 rfl) rfl (by decide) rfl ?_
  refine ps_goto (tgt := 2) (ps_at tX5_allowOneMore_ok 17 rfl) (by decide) ?_
  exact h2
theorem eX5_allowOneMore {d : Nat} {Q : Option ps_V → ps_S → Prop} {v1 : Int32} {σ : ps_S} (h : kX5_allowOneMore_0 d Q v1 σ) : ps_C mX5_allowOneMore (d + 1) [.inr (.inr (11, 0)), .inl v1] σ Q := ps_enter (by decide) rfl ⟨rfl, rfl, rfl⟩ rfl (Nat.le_of_ble_eq_true rfl) h
abbrev kX5_slipsWithOneMore_0 (d : Nat) (Q : Option ps_V → ps_S → Prop) (v1 : Int32) (σ : ps_S) : Prop := ps_K mX5_slipsWithOneMore (d + 1) (ps_QF Q) 0 [some (.inr (.inr (11, 0))), some (.inl v1), none, none, none, none] [] σ
abbrev kX5_slipsWithOneMore_20 (d : Nat) (Q : Option ps_V → ps_S → Prop) (v2 : Int32) (v3 : Int32) (v4 : Int32) (v5 : Int32) (σ : ps_S) : Prop := ps_K mX5_slipsWithOneMore (d + 1) (ps_QF Q) 20 [some (.inr (.inr (11, 0))), none, some (.inl v2), some (.inl v3), some (.inl v4), some (.inl v5)] [] σ
theorem bX5_slipsWithOneMore_0 {d : Nat} {Q : Option ps_V → ps_S → Prop} {v1 : Int32} {σ : ps_S} (h1 : vp_in (v1 ^^^ (v1 &&& (-v1))) 512) (h2 : kX5_slipsWithOneMore_20 d Q (v1 &&& (-v1)) (v1 ^^^ (v1 &&& (-v1))) (σ 13 0 (v1 ^^^ (v1 &&& (-v1))).toNatClampNeg) (v1 ^^^ (v1 &&& (-v1))) σ) : kX5_slipsWithOneMore_0 d Q v1 σ := by
  refine ps_iload_n (ps_at tX5_slipsWithOneMore_ok 0 rfl) rfl rfl ?_
  refine ps_iload_n (ps_at tX5_slipsWithOneMore_ok 1 rfl) rfl rfl ?_
  refine ps_ineg (ps_at tX5_slipsWithOneMore_ok 2 rfl) ?_
  refine ps_iand (ps_at tX5_slipsWithOneMore_ok 3 rfl) ?_
  refine ps_istore_n (L' := [some (.inr (.inr (11, 0))), some (.inl v1), some (.inl (v1 &&& (-v1))), none, none, none]) (ps_at tX5_slipsWithOneMore_ok 4 rfl) rfl (by decide) rfl ?_
  refine ps_iload_n (ps_at tX5_slipsWithOneMore_ok 5 rfl) rfl rfl ?_
  refine ps_iload_n (ps_at tX5_slipsWithOneMore_ok 6 rfl) rfl rfl ?_
  refine ps_ixor (ps_at tX5_slipsWithOneMore_ok 7 rfl) ?_
  refine ps_istore_n (L' := [some (.inr (.inr (11, 0))), some (.inl v1), some (.inl (v1 &&& (-v1))), some (.inl (v1 ^^^ (v1 &&& (-v1)))), none, none]) (ps_at tX5_slipsWithOneMore_ok 8 rfl) rfl (by decide) rfl ?_
  refine ps_aload_n (ps_at tX5_slipsWithOneMore_ok 9 rfl) rfl rfl ?_
  refine ps_getR (ps_at tX5_slipsWithOneMore_ok 10 rfl) flX5_15 sh_11 rfl ?_
  refine ps_iload_n (ps_at tX5_slipsWithOneMore_ok 11 rfl) rfl rfl ?_
  refine ps_iald (ps_at tX5_slipsWithOneMore_ok 12 rfl) sh_13 (h1) ?_
  refine ps_istore (L' := [some (.inr (.inr (11, 0))), some (.inl v1), some (.inl (v1 &&& (-v1))), some (.inl (v1 ^^^ (v1 &&& (-v1)))), some (.inl (σ 13 0 (v1 ^^^ (v1 &&& (-v1))).toNatClampNeg)), none]) (ps_at tX5_slipsWithOneMore_ok 13 rfl) (by decide) rfl ?_
  refine ps_iload_n (ps_at tX5_slipsWithOneMore_ok 14 rfl) rfl rfl ?_
  refine ps_istore (L' := [some (.inr (.inr (11, 0))), some (.inl v1), some (.inl (v1 &&& (-v1))), some (.inl (v1 ^^^ (v1 &&& (-v1)))), some (.inl (σ 13 0 (v1 ^^^ (v1 &&& (-v1))).toNatClampNeg)), some (.inl (v1 ^^^ (v1 &&& (-v1))))]) (ps_at tX5_slipsWithOneMore_ok 15 rfl) (by decide) rfl ?_
  refine ps_forget (L' := [some (.inr (.inr (11, 0))), none, some (.inl (v1 &&& (-v1))), some (.inl (v1 ^^^ (v1 &&& (-v1)))), some (.inl (σ 13 0 (v1 ^^^ (v1 &&& (-v1))).toNatClampNeg)), some (.inl (v1 ^^^ (v1 &&& (-v1))))]) (And.intro rfl (And.intro rfl (And.intro rfl (And.intro rfl (And.intro rfl trivial))))) ?_
  exact h2
theorem bX5_slipsWithOneMore_20 {d : Nat} {Q : Option ps_V → ps_S → Prop} {v2 : Int32} {v3 : Int32} {v4 : Int32} {v5 : Int32} {σ : ps_S} (h1 : v5 ≤ 0 → Q (some (.inl v4)) σ) (h2 : ¬ v5 ≤ 0 → vp_in (v5 ||| v2) 512) (h3 : ¬ v5 ≤ 0 → vp_in (v3 ^^^ v5) 512) (h4 : ¬ v5 ≤ 0 → kX5_slipsWithOneMore_20 d Q v2 v3 (jbMin v4 ((σ 12 0 (v5 ||| v2).toNatClampNeg) + (σ 13 0 (v3 ^^^ v5).toNatClampNeg))) ((v5 - 1) &&& v3) σ) : kX5_slipsWithOneMore_20 d Q v2 v3 v4 v5 σ := by
  refine ps_iload (ps_at tX5_slipsWithOneMore_ok 16 rfl) rfl ?_
  refine ps_if_le (tgt := 62) (ps_at tX5_slipsWithOneMore_ok 17 rfl) (by decide) (fun c0 => ?_) (fun c0 => ?_)
  · skip
    refine ps_iload (ps_at tX5_slipsWithOneMore_ok 41 rfl) rfl ?_
    exact ps_iret (ps_at tX5_slipsWithOneMore_ok 42 rfl) rfl ⟨rfl, rfl⟩ (h1 c0)
  · skip
    refine ps_iload (ps_at tX5_slipsWithOneMore_ok 18 rfl) rfl ?_
    refine ps_aload_n (ps_at tX5_slipsWithOneMore_ok 19 rfl) rfl rfl ?_
    refine ps_getR (ps_at tX5_slipsWithOneMore_ok 20 rfl) flX5_9 sh_11 rfl ?_
    refine ps_iload (ps_at tX5_slipsWithOneMore_ok 21 rfl) rfl ?_
    refine ps_iload_n (ps_at tX5_slipsWithOneMore_ok 22 rfl) rfl rfl ?_
    refine ps_ior (ps_at tX5_slipsWithOneMore_ok 23 rfl) ?_
    refine ps_iald (ps_at tX5_slipsWithOneMore_ok 24 rfl) sh_12 (h2 c0) ?_
    refine ps_aload_n (ps_at tX5_slipsWithOneMore_ok 25 rfl) rfl rfl ?_
    refine ps_getR (ps_at tX5_slipsWithOneMore_ok 26 rfl) flX5_15 sh_11 rfl ?_
    refine ps_iload_n (ps_at tX5_slipsWithOneMore_ok 27 rfl) rfl rfl ?_
    refine ps_iload (ps_at tX5_slipsWithOneMore_ok 28 rfl) rfl ?_
    refine ps_ixor (ps_at tX5_slipsWithOneMore_ok 29 rfl) ?_
    refine ps_iald (ps_at tX5_slipsWithOneMore_ok 30 rfl) sh_13 (h3 c0) ?_
    refine ps_iadd (ps_at tX5_slipsWithOneMore_ok 31 rfl) ?_
    refine ps_mmin (ps_at tX5_slipsWithOneMore_ok 32 rfl) cmX5_77 (fun _ => Nat.le_of_ble_eq_true rfl) ?_
    refine ps_istore (L' := [some (.inr (.inr (11, 0))), none, some (.inl v2), some (.inl v3), some (.inl (jbMin v4 ((σ 12 0 (v5 ||| v2).toNatClampNeg) + (σ 13 0 (v3 ^^^ v5).toNatClampNeg)))), some (.inl v5)]) (ps_at tX5_slipsWithOneMore_ok 33 rfl) (by decide) rfl ?_
    refine ps_iload (ps_at tX5_slipsWithOneMore_ok 34 rfl) rfl ?_
    refine ps_iconst (x := 1) (ps_at tX5_slipsWithOneMore_ok 35 rfl) (by decide) ?_
    refine ps_isub (ps_at tX5_slipsWithOneMore_ok 36 rfl) ?_
    refine ps_iload_n (ps_at tX5_slipsWithOneMore_ok 37 rfl) rfl rfl ?_
    refine ps_iand (ps_at tX5_slipsWithOneMore_ok 38 rfl) ?_
    refine ps_istore (L' := [some (.inr (.inr (11, 0))), none, some (.inl v2), some (.inl v3), some (.inl (jbMin v4 ((σ 12 0 (v5 ||| v2).toNatClampNeg) + (σ 13 0 (v3 ^^^ v5).toNatClampNeg)))), some (.inl ((v5 - 1) &&& v3))]) (ps_at tX5_slipsWithOneMore_ok 39 rfl) (by decide) rfl ?_
    refine ps_goto (tgt := 20) (ps_at tX5_slipsWithOneMore_ok 40 rfl) (by decide) ?_
    exact h4 c0
theorem eX5_slipsWithOneMore {d : Nat} {Q : Option ps_V → ps_S → Prop} {v1 : Int32} {σ : ps_S} (h : kX5_slipsWithOneMore_0 d Q v1 σ) : ps_C mX5_slipsWithOneMore (d + 1) [.inr (.inr (11, 0)), .inl v1] σ Q := ps_enter (by decide) rfl ⟨rfl, rfl, rfl⟩ rfl (Nat.le_of_ble_eq_true rfl) h

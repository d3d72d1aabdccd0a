/-! ===== printed by wip/whole/gen.py: block rows ===== -/
abbrev kX6_putPiece_0 (d : Nat) (Q : Option ps_V → ps_S → Prop) (v1 : Int32) (v2 : Int32) (v3 : Int32) (σ : ps_S) : Prop := ps_K mX6_putPiece (d + 1) (ps_QF Q) 0 [some (.inr (.inr (19, 0))), some (.inl v1), some (.inl v2), some (.inl v3), none] [] σ
abbrev kX6_putPiece_23 (d : Nat) (Q : Option ps_V → ps_S → Prop) (v4 : Int32) (σ : ps_S) : Prop := ps_K mX6_putPiece (d + 1) (ps_QF Q) 23 [none, none, none, none, some (.inl v4)] [] σ
theorem bX6_putPiece_0 {d : Nat} {Q : Option ps_V → ps_S → Prop} {v1 : Int32} {v2 : Int32} {v3 : Int32} {σ : ps_S} (h1 : vp_in v1 16) (h2 : vp_in v2 6) (h3 : ps_C mX6_link d [.inr (.inr (19, 0))] (ps_up σ 21 v1.toNatClampNeg v2.toNatClampNeg v3) (ps_rv (fun σ1 => kX6_putPiece_23 d Q (σ 21 v1.toNatClampNeg v2.toNatClampNeg) σ1))) : kX6_putPiece_0 d Q v1 v2 v3 σ := by
  refine ps_aload_n (ps_at tX6_putPiece_ok 0 rfl) rfl rfl ?_
  refine ps_getR (ps_at tX6_putPiece_ok 1 rfl) flX6_11 sh_19 rfl ?_
  refine ps_iload_n (ps_at tX6_putPiece_ok 2 rfl) rfl rfl ?_
  refine ps_aald0 (ps_at tX6_putPiece_ok 3 rfl) sh_20 (Or.inl rfl) (h1) ?_
  refine ps_iload_n (ps_at tX6_putPiece_ok 4 rfl) rfl rfl ?_
  refine ps_iald (ps_at tX6_putPiece_ok 5 rfl) sh_21 (h2) ?_
  refine ps_istore (L' := [some (.inr (.inr (19, 0))), some (.inl v1), some (.inl v2), some (.inl v3), some (.inl (σ 21 v1.toNatClampNeg v2.toNatClampNeg))]) (ps_at tX6_putPiece_ok 6 rfl) (by decide) rfl ?_
  refine ps_aload_n (ps_at tX6_putPiece_ok 7 rfl) rfl rfl ?_
  refine ps_getR (ps_at tX6_putPiece_ok 8 rfl) flX6_11 sh_19 rfl ?_
  refine ps_iload_n (ps_at tX6_putPiece_ok 9 rfl) rfl rfl ?_
  refine ps_aald0 (ps_at tX6_putPiece_ok 10 rfl) sh_20 (Or.inl rfl) (h1) ?_
  refine ps_iload_n (ps_at tX6_putPiece_ok 11 rfl) rfl rfl ?_
  refine ps_iload_n (ps_at tX6_putPiece_ok 12 rfl) rfl rfl ?_
  refine ps_iast (ps_at tX6_putPiece_ok 13 rfl) sh_21 (h2) ?_
  refine ps_aload_n (ps_at tX6_putPiece_ok 14 rfl) rfl rfl ?_
  refine ps_callV (M2 := mX6_link) (av := []) (rest := []) (ps_at tX6_putPiece_ok 15 rfl) cvX6_30 sh_19 rfl rfl (fun _ => Nat.le_of_ble_eq_true rfl) ?_
  refine ps_C.imp ?_ (h3)
  rintro _ σ1 ⟨rfl, hx⟩
  exact ps_forget (L' := [none, none, none, none, some (.inl (σ 21 v1.toNatClampNeg v2.toNatClampNeg))]) (And.intro rfl trivial) hx
theorem bX6_putPiece_23 {d : Nat} {Q : Option ps_V → ps_S → Prop} {v4 : Int32} {σ : ps_S} (h1 : Q (some (.inl v4)) σ) : kX6_putPiece_23 d Q v4 σ := by
  refine ps_iload (ps_at tX6_putPiece_ok 16 rfl) rfl ?_
  exact ps_iret (ps_at tX6_putPiece_ok 17 rfl) rfl ⟨rfl, rfl⟩ (h1)
theorem eX6_putPiece {d : Nat} {Q : Option ps_V → ps_S → Prop} {v1 : Int32} {v2 : Int32} {v3 : Int32} {σ : ps_S} (h : kX6_putPiece_0 d Q v1 v2 v3 σ) : ps_C mX6_putPiece (d + 1) [.inr (.inr (19, 0)), .inl v1, .inl v2, .inl v3] σ Q := ps_enter (by decide) rfl ⟨rfl, rfl, rfl⟩ rfl (Nat.le_of_ble_eq_true rfl) h
abbrev kX6_link_0 (d : Nat) (Q : Option ps_V → ps_S → Prop)  (σ : ps_S) : Prop := ps_K mX6_link (d + 1) (ps_QF Q) 0 [some (.inr (.inr (19, 0))), none] [] σ
abbrev kX6_link_8 (d : Nat) (Q : Option ps_V → ps_S → Prop)  (σ : ps_S) : Prop := ps_K mX6_link (d + 1) (ps_QF Q) 8 [some (.inr (.inr (19, 0))), none] [] σ
abbrev kX6_link_16 (d : Nat) (Q : Option ps_V → ps_S → Prop)  (σ : ps_S) : Prop := ps_K mX6_link (d + 1) (ps_QF Q) 16 [some (.inr (.inr (19, 0))), none] [] σ
abbrev kX6_link_18 (d : Nat) (Q : Option ps_V → ps_S → Prop) (v1 : Int32) (σ : ps_S) : Prop := ps_K mX6_link (d + 1) (ps_QF Q) 18 [some (.inr (.inr (19, 0))), some (.inl v1)] [] σ
abbrev kX6_link_47 (d : Nat) (Q : Option ps_V → ps_S → Prop) (v1 : Int32) (σ : ps_S) : Prop := ps_K mX6_link (d + 1) (ps_QF Q) 47 [some (.inr (.inr (19, 0))), some (.inl v1)] [] σ
abbrev kX6_link_34 (d : Nat) (Q : Option ps_V → ps_S → Prop) (v1 : Int32) (σ : ps_S) : Prop := ps_K mX6_link (d + 1) (ps_QF Q) 34 [some (.inr (.inr (19, 0))), some (.inl v1)] [] σ
abbrev kX6_link_78 (d : Nat) (Q : Option ps_V → ps_S → Prop)  (σ : ps_S) : Prop := ps_K mX6_link (d + 1) (ps_QF Q) 78 [none, none] [] σ
theorem bX6_link_0 {d : Nat} {Q : Option ps_V → ps_S → Prop}  {σ : ps_S} (h1 : ps_C mJ7_fill_53178 d [.inr (.inr (22, 0)), .inl 0] σ (ps_rv (fun σ1 => kX6_link_8 d Q σ1))) : kX6_link_0 d Q σ := by
  refine ps_aload_n (ps_at tX6_link_ok 0 rfl) rfl rfl ?_
  refine ps_getR (ps_at tX6_link_ok 1 rfl) flX6_16 sh_19 rfl ?_
  refine ps_iconst (x := 0) (ps_at tX6_link_ok 2 rfl) (by decide) ?_
  refine ps_callS (M2 := mJ7_fill_53178) (av := [.inr (.inr (22, 0)), .inl 0]) (rest := []) (ps_at tX6_link_ok 3 rfl) csX6_24 rfl rfl (fun _ => Nat.le_of_ble_eq_true rfl) ?_
  refine ps_C.imp ?_ (h1)
  rintro _ σ1 ⟨rfl, hx⟩
  exact hx
theorem bX6_link_8 {d : Nat} {Q : Option ps_V → ps_S → Prop}  {σ : ps_S} (h1 : ps_C mJ7_fill_53178 d [.inr (.inr (23, 0)), .inl 0] σ (ps_rv (fun σ1 => kX6_link_16 d Q σ1))) : kX6_link_8 d Q σ := by
  refine ps_aload_n (ps_at tX6_link_ok 4 rfl) rfl rfl ?_
  refine ps_getR (ps_at tX6_link_ok 5 rfl) flX6_20 sh_19 rfl ?_
  refine ps_iconst (x := 0) (ps_at tX6_link_ok 6 rfl) (by decide) ?_
  refine ps_callS (M2 := mJ7_fill_53178) (av := [.inr (.inr (23, 0)), .inl 0]) (rest := []) (ps_at tX6_link_ok 7 rfl) csX6_24 rfl rfl (fun _ => Nat.le_of_ble_eq_true rfl) ?_
  refine ps_C.imp ?_ (h1)
  rintro _ σ1 ⟨rfl, hx⟩
  exact hx
theorem bX6_link_16 {d : Nat} {Q : Option ps_V → ps_S → Prop}  {σ : ps_S} (h1 : kX6_link_18 d Q 0 σ) : kX6_link_16 d Q σ := by
  refine ps_iconst (x := 0) (ps_at tX6_link_ok 8 rfl) (by decide) ?_
  refine ps_istore_n (L' := [some (.inr (.inr (19, 0))), some (.inl 0)]) (ps_at tX6_link_ok 9 rfl) rfl (by decide) rfl ?_
  exact h1
theorem bX6_link_18 {d : Nat} {Q : Option ps_V → ps_S → Prop} {v1 : Int32} {σ : ps_S} (h1 : 16 ≤ v1 → kX6_link_47 d Q 0 (ps_up σ 19 0 3 0)) (h2 : ¬ 16 ≤ v1 → vp_in v1 16) (h3 : ¬ 16 ≤ v1 → ps_C mX6_linkPiece d [.inr (.inr (19, 0)), .inr (.inr (21, v1.toNatClampNeg))] σ (ps_rv (fun σ1 => kX6_link_34 d Q v1 σ1))) : kX6_link_18 d Q v1 σ := by
  refine ps_iload_n (ps_at tX6_link_ok 10 rfl) rfl rfl ?_
  refine ps_bipush (x := 16) (ps_at tX6_link_ok 11 rfl) (by decide) ?_
  refine ps_icmp_ge (tgt := 40) (ps_at tX6_link_ok 12 rfl) (by decide) (fun c0 => ?_) (fun c0 => ?_)
  · skip
    refine ps_aload_n (ps_at tX6_link_ok 21 rfl) rfl rfl ?_
    refine ps_iconst (x := 0) (ps_at tX6_link_ok 22 rfl) (by decide) ?_
    refine ps_putI (ps_at tX6_link_ok 23 rfl) fpX6_37 sh_19 rfl ?_
    refine ps_iconst (x := 0) (ps_at tX6_link_ok 24 rfl) (by decide) ?_
    refine ps_istore_n (L' := [some (.inr (.inr (19, 0))), some (.inl 0)]) (ps_at tX6_link_ok 25 rfl) rfl (by decide) rfl ?_
    exact h1 c0
  · skip
    refine ps_aload_n (ps_at tX6_link_ok 13 rfl) rfl rfl ?_
    refine ps_aload_n (ps_at tX6_link_ok 14 rfl) rfl rfl ?_
    refine ps_getR (ps_at tX6_link_ok 15 rfl) flX6_11 sh_19 rfl ?_
    refine ps_iload_n (ps_at tX6_link_ok 16 rfl) rfl rfl ?_
    refine ps_aald0 (ps_at tX6_link_ok 17 rfl) sh_20 (Or.inl rfl) (h2 c0) ?_
    refine ps_callV (M2 := mX6_linkPiece) (av := [.inr (.inr (21, v1.toNatClampNeg))]) (rest := []) (ps_at tX6_link_ok 18 rfl) cvX6_33 sh_19 rfl rfl (fun _ => Nat.le_of_ble_eq_true rfl) ?_
    refine ps_C.imp ?_ (h3 c0)
    rintro _ σ1 ⟨rfl, hx⟩
    exact hx
theorem bX6_link_47 {d : Nat} {Q : Option ps_V → ps_S → Prop} {v1 : Int32} {σ : ps_S} (h1 : 6 ≤ v1 → ps_C mX6_reachOn d [.inr (.inr (19, 0))] σ (ps_rv (fun σ1 => kX6_link_78 d Q σ1))) (h2 : ¬ 6 ≤ v1 → vp_in v1 6) (h3 : ¬ 6 ≤ v1 → kX6_link_47 d Q (v1 + 1) (ps_up σ 19 0 3 ((σ 19 0 3) ||| (σ 22 0 v1.toNatClampNeg)))) : kX6_link_47 d Q v1 σ := by
  refine ps_iload_n (ps_at tX6_link_ok 26 rfl) rfl rfl ?_
  refine ps_bipush (x := 6) (ps_at tX6_link_ok 27 rfl) (by decide) ?_
  refine ps_icmp_ge (tgt := 74) (ps_at tX6_link_ok 28 rfl) (by decide) (fun c0 => ?_) (fun c0 => ?_)
  · skip
    refine ps_aload_n (ps_at tX6_link_ok 40 rfl) rfl rfl ?_
    refine ps_callV (M2 := mX6_reachOn) (av := []) (rest := []) (ps_at tX6_link_ok 41 rfl) cvX6_41 sh_19 rfl rfl (fun _ => Nat.le_of_ble_eq_true rfl) ?_
    refine ps_C.imp ?_ (h1 c0)
    rintro _ σ1 ⟨rfl, hx⟩
    exact ps_forget (L' := [none, none]) trivial hx
  · skip
    refine ps_aload_n (ps_at tX6_link_ok 29 rfl) rfl rfl ?_
    refine ps_dup_r (ps_at tX6_link_ok 30 rfl) ?_
    refine ps_getI (ps_at tX6_link_ok 31 rfl) flX6_37 sh_19 rfl ?_
    refine ps_aload_n (ps_at tX6_link_ok 32 rfl) rfl rfl ?_
    refine ps_getR (ps_at tX6_link_ok 33 rfl) flX6_16 sh_19 rfl ?_
    refine ps_iload_n (ps_at tX6_link_ok 34 rfl) rfl rfl ?_
    refine ps_iald (ps_at tX6_link_ok 35 rfl) sh_22 (h2 c0) ?_
    refine ps_ior (ps_at tX6_link_ok 36 rfl) ?_
    refine ps_putI (ps_at tX6_link_ok 37 rfl) fpX6_37 sh_19 rfl ?_
    refine ps_iinc (L' := [some (.inr (.inr (19, 0))), some (.inl (v1 + 1))]) (y := 1) (ps_at tX6_link_ok 38 rfl) rfl (by decide) (by decide) rfl ?_
    refine ps_goto (tgt := 47) (ps_at tX6_link_ok 39 rfl) (by decide) ?_
    exact h3 c0
theorem bX6_link_34 {d : Nat} {Q : Option ps_V → ps_S → Prop} {v1 : Int32} {σ : ps_S} (h1 : kX6_link_18 d Q (v1 + 1) σ) : kX6_link_34 d Q v1 σ := by
  refine ps_iinc (L' := [some (.inr (.inr (19, 0))), some (.inl (v1 + 1))]) (y := 1) (ps_at tX6_link_ok 19 rfl) rfl (by decide) (by decide) rfl ?_
  refine ps_goto (tgt := 18) (ps_at tX6_link_ok 20 rfl) (by decide) ?_
  exact h1
theorem bX6_link_78 {d : Nat} {Q : Option ps_V → ps_S → Prop}  {σ : ps_S} (h1 : Q none σ) : kX6_link_78 d Q σ := by
  exact ps_vret (ps_at tX6_link_ok 42 rfl) rfl ⟨rfl, rfl⟩ (h1)
theorem eX6_link {d : Nat} {Q : Option ps_V → ps_S → Prop}  {σ : ps_S} (h : kX6_link_0 d Q σ) : ps_C mX6_link (d + 1) [.inr (.inr (19, 0))] σ Q := ps_enter (by decide) rfl ⟨rfl, rfl, rfl⟩ rfl (Nat.le_of_ble_eq_true rfl) h
abbrev kX6_linkPiece_0 (d : Nat) (Q : Option ps_V → ps_S → Prop) (i1 : Nat) (σ : ps_S) : Prop := ps_K mX6_linkPiece (d + 1) (ps_QF Q) 0 [some (.inr (.inr (19, 0))), some (.inr (.inr (21, i1))), none, none, none] [] σ
abbrev kX6_linkPiece_15 (d : Nat) (Q : Option ps_V → ps_S → Prop) (i1 : Nat) (v2 : Int32) (v3 : Int32) (v4 : Int32) (σ : ps_S) : Prop := ps_K mX6_linkPiece (d + 1) (ps_QF Q) 15 [some (.inr (.inr (19, 0))), some (.inr (.inr (21, i1))), some (.inl v2), some (.inl v3), some (.inl v4)] [] σ
abbrev kX6_linkPiece_44 (d : Nat) (Q : Option ps_V → ps_S → Prop) (i1 : Nat) (v2 : Int32) (v3 : Int32) (v4 : Int32) (σ : ps_S) : Prop := ps_K mX6_linkPiece (d + 1) (ps_QF Q) 44 [some (.inr (.inr (19, 0))), some (.inr (.inr (21, i1))), some (.inl v2), some (.inl v3), some (.inl v4)] [] σ
theorem bX6_linkPiece_0 {d : Nat} {Q : Option ps_V → ps_S → Prop} {i1 : Nat} {σ : ps_S} (h1 : kX6_linkPiece_15 d Q i1 (nI (mkN 6 (fun f => σ 21 i1 f = 0))) (nI (mkN 6 (fun f => σ 21 i1 f = 1))) 0 σ) : kX6_linkPiece_0 d Q i1 σ := by
  refine ps_aload_n (ps_at tX6_linkPiece_ok 0 rfl) rfl rfl ?_
  refine ps_iconst (x := 0) (ps_at tX6_linkPiece_ok 1 rfl) (by decide) ?_
  refine ps_callS (M2 := mX6_formesWith) (av := [.inr (.inr (21, i1)), .inl 0]) (rest := []) (ps_at tX6_linkPiece_ok 2 rfl) csX6_44 rfl rfl (fun _ => Nat.le_of_ble_eq_true rfl) (pX6_formesWith ?_)
  refine ps_istore_n (L' := [some (.inr (.inr (19, 0))), some (.inr (.inr (21, i1))), some (.inl (nI (mkN 6 (fun f => σ 21 i1 f = 0)))), none, none]) (ps_at tX6_linkPiece_ok 3 rfl) rfl (by decide) rfl ?_
  refine ps_aload_n (ps_at tX6_linkPiece_ok 4 rfl) rfl rfl ?_
  refine ps_iconst (x := 1) (ps_at tX6_linkPiece_ok 5 rfl) (by decide) ?_
  refine ps_callS (M2 := mX6_formesWith) (av := [.inr (.inr (21, i1)), .inl 1]) (rest := []) (ps_at tX6_linkPiece_ok 6 rfl) csX6_44 rfl rfl (fun _ => Nat.le_of_ble_eq_true rfl) (pX6_formesWith ?_)
  refine ps_istore_n (L' := [some (.inr (.inr (19, 0))), some (.inr (.inr (21, i1))), some (.inl (nI (mkN 6 (fun f => σ 21 i1 f = 0)))), some (.inl (nI (mkN 6 (fun f => σ 21 i1 f = 1)))), none]) (ps_at tX6_linkPiece_ok 7 rfl) rfl (by decide) rfl ?_
  refine ps_iconst (x := 0) (ps_at tX6_linkPiece_ok 8 rfl) (by decide) ?_
  refine ps_istore (L' := [some (.inr (.inr (19, 0))), some (.inr (.inr (21, i1))), some (.inl (nI (mkN 6 (fun f => σ 21 i1 f = 0)))), some (.inl (nI (mkN 6 (fun f => σ 21 i1 f = 1)))), some (.inl 0)]) (ps_at tX6_linkPiece_ok 9 rfl) (by decide) rfl ?_
  exact h1
theorem bX6_linkPiece_15 {d : Nat} {Q : Option ps_V → ps_S → Prop} {i1 : Nat} {v2 : Int32} {v3 : Int32} {v4 : Int32} {σ : ps_S} (h1 : 6 ≤ v4 → Q none σ) (h2 : ¬ 6 ≤ v4 → vp_in v4 6) (h3 : ¬ 6 ≤ v4 → (σ 21 i1 v4.toNatClampNeg) = (-900009) → kX6_linkPiece_44 d Q i1 v2 v3 v4 σ) (h4 : ¬ 6 ≤ v4 → ¬ (σ 21 i1 v4.toNatClampNeg) = (-900009) → kX6_linkPiece_44 d Q i1 v2 v3 v4 (ps_up σ 22 0 v4.toNatClampNeg ((σ 22 0 v4.toNatClampNeg) ||| (v2 ||| v3)))) : kX6_linkPiece_15 d Q i1 v2 v3 v4 σ := by
  refine ps_iload (ps_at tX6_linkPiece_ok 10 rfl) rfl ?_
  refine ps_bipush (x := 6) (ps_at tX6_linkPiece_ok 11 rfl) (by decide) ?_
  refine ps_icmp_ge (tgt := 68) (ps_at tX6_linkPiece_ok 12 rfl) (by decide) (fun c0 => ?_) (fun c0 => ?_)
  · skip
    exact ps_vret (ps_at tX6_linkPiece_ok 42 rfl) rfl ⟨rfl, rfl⟩ (h1 c0)
  · skip
    refine ps_aload_n (ps_at tX6_linkPiece_ok 13 rfl) rfl rfl ?_
    refine ps_iload (ps_at tX6_linkPiece_ok 14 rfl) rfl ?_
    refine ps_iald (ps_at tX6_linkPiece_ok 15 rfl) sh_21 (h2 c0) ?_
    refine ps_ldc (ps_at tX6_linkPiece_ok 16 rfl) cnX6_23 ?_
    refine ps_icmp_eq (tgt := 44) (ps_at tX6_linkPiece_ok 17 rfl) (by decide) (fun c1 => ?_) (fun c1 => ?_)
    · skip
      exact h3 c0 c1
    · skip
      refine ps_aload_n (ps_at tX6_linkPiece_ok 18 rfl) rfl rfl ?_
      refine ps_getR (ps_at tX6_linkPiece_ok 19 rfl) flX6_16 sh_19 rfl ?_
      refine ps_iload (ps_at tX6_linkPiece_ok 20 rfl) rfl ?_
      refine ps_dup2 (ps_at tX6_linkPiece_ok 21 rfl) ?_
      refine ps_iald (ps_at tX6_linkPiece_ok 22 rfl) sh_22 (h2 c0) ?_
      refine ps_iload_n (ps_at tX6_linkPiece_ok 23 rfl) rfl rfl ?_
      refine ps_iload_n (ps_at tX6_linkPiece_ok 24 rfl) rfl rfl ?_
      refine ps_ior (ps_at tX6_linkPiece_ok 25 rfl) ?_
      refine ps_ior (ps_at tX6_linkPiece_ok 26 rfl) ?_
      refine ps_iast (ps_at tX6_linkPiece_ok 27 rfl) sh_22 (h2 c0) ?_
      exact h4 c0 c1
theorem bX6_linkPiece_44 {d : Nat} {Q : Option ps_V → ps_S → Prop} {i1 : Nat} {v2 : Int32} {v3 : Int32} {v4 : Int32} {σ : ps_S} (h1 : vp_in v4 6) (h2 : ¬ (σ 21 i1 v4.toNatClampNeg) = 0 → kX6_linkPiece_15 d Q i1 v2 v3 (v4 + 1) σ) (h3 : (σ 21 i1 v4.toNatClampNeg) = 0 → kX6_linkPiece_15 d Q i1 v2 v3 (v4 + 1) (ps_up σ 23 0 v4.toNatClampNeg ((σ 23 0 v4.toNatClampNeg) ||| v3))) : kX6_linkPiece_44 d Q i1 v2 v3 v4 σ := by
  refine ps_aload_n (ps_at tX6_linkPiece_ok 28 rfl) rfl rfl ?_
  refine ps_iload (ps_at tX6_linkPiece_ok 29 rfl) rfl ?_
  refine ps_iald (ps_at tX6_linkPiece_ok 30 rfl) sh_21 (h1) ?_
  refine ps_if_ne (tgt := 62) (ps_at tX6_linkPiece_ok 31 rfl) (by decide) (fun c0 => ?_) (fun c0 => ?_)
  · skip
    refine ps_iinc (L' := [some (.inr (.inr (19, 0))), some (.inr (.inr (21, i1))), some (.inl v2), some (.inl v3), some (.inl (v4 + 1))]) (y := 1) (ps_at tX6_linkPiece_ok 40 rfl) rfl (by decide) (by decide) rfl ?_
    refine ps_goto (tgt := 15) (ps_at tX6_linkPiece_ok 41 rfl) (by decide) ?_
    exact h2 c0
  · skip
    refine ps_aload_n (ps_at tX6_linkPiece_ok 32 rfl) rfl rfl ?_
    refine ps_getR (ps_at tX6_linkPiece_ok 33 rfl) flX6_20 sh_19 rfl ?_
    refine ps_iload (ps_at tX6_linkPiece_ok 34 rfl) rfl ?_
    refine ps_dup2 (ps_at tX6_linkPiece_ok 35 rfl) ?_
    refine ps_iald (ps_at tX6_linkPiece_ok 36 rfl) sh_23 (h1) ?_
    refine ps_iload_n (ps_at tX6_linkPiece_ok 37 rfl) rfl rfl ?_
    refine ps_ior (ps_at tX6_linkPiece_ok 38 rfl) ?_
    refine ps_iast (ps_at tX6_linkPiece_ok 39 rfl) sh_23 (h1) ?_
    refine ps_iinc (L' := [some (.inr (.inr (19, 0))), some (.inr (.inr (21, i1))), some (.inl v2), some (.inl v3), some (.inl (v4 + 1))]) (y := 1) (ps_at tX6_linkPiece_ok 40 rfl) rfl (by decide) (by decide) rfl ?_
    refine ps_goto (tgt := 15) (ps_at tX6_linkPiece_ok 41 rfl) (by decide) ?_
    exact h3 c0
theorem eX6_linkPiece {d : Nat} {Q : Option ps_V → ps_S → Prop} {i1 : Nat} {σ : ps_S} (h : kX6_linkPiece_0 d Q i1 σ) : ps_C mX6_linkPiece (d + 1) [.inr (.inr (19, 0)), .inr (.inr (21, i1))] σ Q := ps_enter (by decide) rfl ⟨rfl, rfl, rfl⟩ rfl (Nat.le_of_ble_eq_true rfl) h
abbrev kX6_reachOn_0 (d : Nat) (Q : Option ps_V → ps_S → Prop)  (σ : ps_S) : Prop := ps_K mX6_reachOn d (ps_QF Q) 0 [some (.inr (.inr (19, 0))), none, none] [] σ
abbrev kX6_reachOn_2 (d : Nat) (Q : Option ps_V → ps_S → Prop) (v1 : Int32) (σ : ps_S) : Prop := ps_K mX6_reachOn d (ps_QF Q) 2 [some (.inr (.inr (19, 0))), some (.inl v1), none] [] σ
abbrev kX6_reachOn_10 (d : Nat) (Q : Option ps_V → ps_S → Prop) (v1 : Int32) (v2 : Int32) (σ : ps_S) : Prop := ps_K mX6_reachOn d (ps_QF Q) 10 [some (.inr (.inr (19, 0))), some (.inl v1), some (.inl v2)] [] σ
theorem bX6_reachOn_0 {d : Nat} {Q : Option ps_V → ps_S → Prop}  {σ : ps_S} (h1 : kX6_reachOn_2 d Q 0 σ) : kX6_reachOn_0 d Q σ := by
  refine ps_iconst (x := 0) (ps_at tX6_reachOn_ok 0 rfl) (by decide) ?_
  refine ps_istore_n (L' := [some (.inr (.inr (19, 0))), some (.inl 0), none]) (ps_at tX6_reachOn_ok 1 rfl) rfl (by decide) rfl ?_
  exact h1
theorem bX6_reachOn_2 {d : Nat} {Q : Option ps_V → ps_S → Prop} {v1 : Int32} {σ : ps_S} (h1 : 6 ≤ v1 → Q none σ) (h2 : ¬ 6 ≤ v1 → kX6_reachOn_10 d Q v1 0 σ) : kX6_reachOn_2 d Q v1 σ := by
  refine ps_iload_n (ps_at tX6_reachOn_ok 2 rfl) rfl rfl ?_
  refine ps_bipush (x := 6) (ps_at tX6_reachOn_ok 3 rfl) (by decide) ?_
  refine ps_icmp_ge (tgt := 56) (ps_at tX6_reachOn_ok 4 rfl) (by decide) (fun c0 => ?_) (fun c0 => ?_)
  · skip
    exact ps_vret (ps_at tX6_reachOn_ok 34 rfl) rfl ⟨rfl, rfl⟩ (h1 c0)
  · skip
    refine ps_iconst (x := 0) (ps_at tX6_reachOn_ok 5 rfl) (by decide) ?_
    refine ps_istore_n (L' := [some (.inr (.inr (19, 0))), some (.inl v1), some (.inl 0)]) (ps_at tX6_reachOn_ok 6 rfl) rfl (by decide) rfl ?_
    exact h2 c0
theorem bX6_reachOn_10 {d : Nat} {Q : Option ps_V → ps_S → Prop} {v1 : Int32} {v2 : Int32} {σ : ps_S} (h1 : 6 ≤ v2 → kX6_reachOn_2 d Q (v1 + 1) σ) (h2 : ¬ 6 ≤ v2 → vp_in v2 6) (h3 : ¬ 6 ≤ v2 → (((σ 23 0 v2.toNatClampNeg) >>> (v1 &&& 31)) &&& 1) = 0 → kX6_reachOn_10 d Q v1 (v2 + 1) σ) (h4 : ¬ 6 ≤ v2 → ¬ (((σ 23 0 v2.toNatClampNeg) >>> (v1 &&& 31)) &&& 1) = 0 → vp_in v1 6) (h5 : ¬ 6 ≤ v2 → ¬ (((σ 23 0 v2.toNatClampNeg) >>> (v1 &&& 31)) &&& 1) = 0 → kX6_reachOn_10 d Q v1 (v2 + 1) (ps_up σ 23 0 v2.toNatClampNeg ((σ 23 0 v2.toNatClampNeg) ||| (σ 23 0 v1.toNatClampNeg)))) : kX6_reachOn_10 d Q v1 v2 σ := by
  refine ps_iload_n (ps_at tX6_reachOn_ok 7 rfl) rfl rfl ?_
  refine ps_bipush (x := 6) (ps_at tX6_reachOn_ok 8 rfl) (by decide) ?_
  refine ps_icmp_ge (tgt := 50) (ps_at tX6_reachOn_ok 9 rfl) (by decide) (fun c0 => ?_) (fun c0 => ?_)
  · skip
    refine ps_iinc (L' := [some (.inr (.inr (19, 0))), some (.inl (v1 + 1)), some (.inl v2)]) (y := 1) (ps_at tX6_reachOn_ok 32 rfl) rfl (by decide) (by decide) rfl ?_
    refine ps_goto (tgt := 2) (ps_at tX6_reachOn_ok 33 rfl) (by decide) ?_
    refine ps_forget (L' := [some (.inr (.inr (19, 0))), some (.inl (v1 + 1)), none]) (And.intro rfl (And.intro rfl trivial)) ?_
    exact h1 c0
  · skip
    refine ps_aload_n (ps_at tX6_reachOn_ok 10 rfl) rfl rfl ?_
    refine ps_getR (ps_at tX6_reachOn_ok 11 rfl) flX6_20 sh_19 rfl ?_
    refine ps_iload_n (ps_at tX6_reachOn_ok 12 rfl) rfl rfl ?_
    refine ps_iald (ps_at tX6_reachOn_ok 13 rfl) sh_23 (h2 c0) ?_
    refine ps_iload_n (ps_at tX6_reachOn_ok 14 rfl) rfl rfl ?_
    refine ps_ishr (ps_at tX6_reachOn_ok 15 rfl) ?_
    refine ps_iconst (x := 1) (ps_at tX6_reachOn_ok 16 rfl) (by decide) ?_
    refine ps_iand (ps_at tX6_reachOn_ok 17 rfl) ?_
    refine ps_if_eq (tgt := 44) (ps_at tX6_reachOn_ok 18 rfl) (by decide) (fun c1 => ?_) (fun c1 => ?_)
    · skip
      refine ps_iinc (L' := [some (.inr (.inr (19, 0))), some (.inl v1), some (.inl (v2 + 1))]) (y := 1) (ps_at tX6_reachOn_ok 30 rfl) rfl (by decide) (by decide) rfl ?_
      refine ps_goto (tgt := 10) (ps_at tX6_reachOn_ok 31 rfl) (by decide) ?_
      exact h3 c0 c1
    · skip
      refine ps_aload_n (ps_at tX6_reachOn_ok 19 rfl) rfl rfl ?_
      refine ps_getR (ps_at tX6_reachOn_ok 20 rfl) flX6_20 sh_19 rfl ?_
      refine ps_iload_n (ps_at tX6_reachOn_ok 21 rfl) rfl rfl ?_
      refine ps_dup2 (ps_at tX6_reachOn_ok 22 rfl) ?_
      refine ps_iald (ps_at tX6_reachOn_ok 23 rfl) sh_23 (h2 c0) ?_
      refine ps_aload_n (ps_at tX6_reachOn_ok 24 rfl) rfl rfl ?_
      refine ps_getR (ps_at tX6_reachOn_ok 25 rfl) flX6_20 sh_19 rfl ?_
      refine ps_iload_n (ps_at tX6_reachOn_ok 26 rfl) rfl rfl ?_
      refine ps_iald (ps_at tX6_reachOn_ok 27 rfl) sh_23 (h4 c0 c1) ?_
      refine ps_ior (ps_at tX6_reachOn_ok 28 rfl) ?_
      refine ps_iast (ps_at tX6_reachOn_ok 29 rfl) sh_23 (h2 c0) ?_
      refine ps_iinc (L' := [some (.inr (.inr (19, 0))), some (.inl v1), some (.inl (v2 + 1))]) (y := 1) (ps_at tX6_reachOn_ok 30 rfl) rfl (by decide) (by decide) rfl ?_
      refine ps_goto (tgt := 10) (ps_at tX6_reachOn_ok 31 rfl) (by decide) ?_
      exact h5 c0 c1
theorem eX6_reachOn {d : Nat} {Q : Option ps_V → ps_S → Prop}  {σ : ps_S} (h : kX6_reachOn_0 d Q σ) : ps_C mX6_reachOn d [.inr (.inr (19, 0))] σ Q := ps_enter (by decide) rfl ⟨rfl, rfl, rfl⟩ rfl (Nat.le_of_ble_eq_true rfl) h

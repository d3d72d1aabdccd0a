/-! ===== printed by wip/whole/cons.py ===== -/
set_option maxHeartbeats 4000000 in
set_option maxRecDepth 100000 in
theorem kX2_init {d : Nat} {g : cs_G} {h0 : Nat} : cs_C mX2_init (d + 2) g [.ref h0] [(h0, .inr (2, [.null, .null, .int 0, .int 0, .int 0, .null, .null, .null, .null, .int 0, .int 0]))] (cs_Post lcX2 36 g h0) := by
  refine cs_enter (by decide) rfl (Nat.le_of_ble_eq_true rfl) ?_
  refine cs_aload 0 (ps_at tX2_init_ok 0 rfl) rfl rfl ?_
  refine cs_objInit (ps_at tX2_init_ok 1 rfl) obX2_3 (Nat.zero_le _) ?_
  refine cs_aload 0 (ps_at tX2_init_ok 2 rfl) rfl rfl ?_
  refine cs_iconst (v := 4) (ps_at tX2_init_ok 3 rfl) (by decide) ?_
  refine cs_bipush (v := 6) (ps_at tX2_init_ok 4 rfl) (by decide) ?_
  refine cs_mna (N := 4) (K := 6) (ps_at tX2_init_ok 5 rfl) cqX2_9 (by decide) (by decide) (by decide) (by decide) (by decide) (by decide) (by decide) (by decide) (fun q1 r1 => ?_)
  refine cs_putF 0 rfl (ps_at tX2_init_ok 6 rfl) cfX2_11 rfl (Nat.le_of_ble_eq_true rfl) ?_
  show cs_K mX2_init (d + 2) g _ _ 15 _ _ ((h0, .inr (2, [.ref q1, .null, .int 0, .int 0, .int 0, .null, .null, .null, .null, .int 0, .int 0])) :: (([] ++ [(q1, .inl (g.2 2, 4, .inr (.inr (.inr (.inr (cs_rf 4 r1))))))]) ++ cs_rows g 4 6 r1 (fun _ _ => 0))) 5 28
  refine cs_aload 0 (ps_at tX2_init_ok 7 rfl) rfl rfl ?_
  refine cs_bipush (v := 12) (ps_at tX2_init_ok 8 rfl) (by decide) ?_
  refine cs_bipush (v := 12) (ps_at tX2_init_ok 9 rfl) (by decide) ?_
  refine cs_mna (N := 12) (K := 12) (ps_at tX2_init_ok 10 rfl) cqX2_9 (by decide) (by decide) (by decide) (by decide) (by decide) (by decide) (by decide) (by decide) (fun q2 r2 => ?_)
  refine cs_putF 0 rfl (ps_at tX2_init_ok 11 rfl) cfX2_16 rfl (Nat.le_of_ble_eq_true rfl) ?_
  show cs_K mX2_init (d + 2) g _ _ 27 _ _ ((h0, .inr (2, [.ref q1, .ref q2, .int 0, .int 0, .int 0, .null, .null, .null, .null, .int 0, .int 0])) :: (((([] ++ [(q1, .inl (g.2 2, 4, .inr (.inr (.inr (.inr (cs_rf 4 r1))))))]) ++ cs_rows g 4 6 r1 (fun _ _ => 0)) ++ [(q2, .inl (g.2 2, 12, .inr (.inr (.inr (.inr (cs_rf 12 r2))))))]) ++ cs_rows g 12 12 r2 (fun _ _ => 0))) 18 184
  refine cs_aload 0 (ps_at tX2_init_ok 12 rfl) rfl rfl ?_
  refine cs_iconst (v := 2) (ps_at tX2_init_ok 13 rfl) (by decide) ?_
  refine cs_putI 0 (ps_at tX2_init_ok 14 rfl) fpX2_19 rfl (Nat.le_of_ble_eq_true rfl) ?_
  show cs_K mX2_init (d + 2) g _ _ 32 _ _ ((h0, .inr (2, [.ref q1, .ref q2, .int 2, .int 0, .int 0, .null, .null, .null, .null, .int 0, .int 0])) :: (((([] ++ [(q1, .inl (g.2 2, 4, .inr (.inr (.inr (.inr (cs_rf 4 r1))))))]) ++ cs_rows g 4 6 r1 (fun _ _ => 0)) ++ [(q2, .inl (g.2 2, 12, .inr (.inr (.inr (.inr (cs_rf 12 r2))))))]) ++ cs_rows g 12 12 r2 (fun _ _ => 0))) 18 184
  refine cs_aload 0 (ps_at tX2_init_ok 15 rfl) rfl rfl ?_
  refine cs_iconst (v := 4) (ps_at tX2_init_ok 16 rfl) (by decide) ?_
  refine cs_putI 0 (ps_at tX2_init_ok 17 rfl) fpX2_23 rfl (Nat.le_of_ble_eq_true rfl) ?_
  show cs_K mX2_init (d + 2) g _ _ 37 _ _ ((h0, .inr (2, [.ref q1, .ref q2, .int 2, .int 4, .int 0, .null, .null, .null, .null, .int 0, .int 0])) :: (((([] ++ [(q1, .inl (g.2 2, 4, .inr (.inr (.inr (.inr (cs_rf 4 r1))))))]) ++ cs_rows g 4 6 r1 (fun _ _ => 0)) ++ [(q2, .inl (g.2 2, 12, .inr (.inr (.inr (.inr (cs_rf 12 r2))))))]) ++ cs_rows g 12 12 r2 (fun _ _ => 0))) 18 184
  refine cs_aload 0 (ps_at tX2_init_ok 18 rfl) rfl rfl ?_
  refine cs_iconst (v := 3) (ps_at tX2_init_ok 19 rfl) (by decide) ?_
  refine cs_putI 0 (ps_at tX2_init_ok 20 rfl) fpX2_26 rfl (Nat.le_of_ble_eq_true rfl) ?_
  show cs_K mX2_init (d + 2) g _ _ 42 _ _ ((h0, .inr (2, [.ref q1, .ref q2, .int 2, .int 4, .int 3, .null, .null, .null, .null, .int 0, .int 0])) :: (((([] ++ [(q1, .inl (g.2 2, 4, .inr (.inr (.inr (.inr (cs_rf 4 r1))))))]) ++ cs_rows g 4 6 r1 (fun _ _ => 0)) ++ [(q2, .inl (g.2 2, 12, .inr (.inr (.inr (.inr (cs_rf 12 r2))))))]) ++ cs_rows g 12 12 r2 (fun _ _ => 0))) 18 184
  refine cs_aload 0 (ps_at tX2_init_ok 21 rfl) rfl rfl ?_
  refine cs_bipush (v := 12) (ps_at tX2_init_ok 22 rfl) (by decide) ?_
  refine cs_iconst (v := 4) (ps_at tX2_init_ok 23 rfl) (by decide) ?_
  refine cs_mna (N := 12) (K := 4) (ps_at tX2_init_ok 24 rfl) cqX2_9 (by decide) (by decide) (by decide) (by decide) (by decide) (by decide) (by decide) (by decide) (fun q3 r3 => ?_)
  refine cs_putF 0 rfl (ps_at tX2_init_ok 25 rfl) cfX2_29 rfl (Nat.le_of_ble_eq_true rfl) ?_
  show cs_K mX2_init (d + 2) g _ _ 53 _ _ ((h0, .inr (2, [.ref q1, .ref q2, .int 2, .int 4, .int 3, .ref q3, .null, .null, .null, .int 0, .int 0])) :: (((((([] ++ [(q1, .inl (g.2 2, 4, .inr (.inr (.inr (.inr (cs_rf 4 r1))))))]) ++ cs_rows g 4 6 r1 (fun _ _ => 0)) ++ [(q2, .inl (g.2 2, 12, .inr (.inr (.inr (.inr (cs_rf 12 r2))))))]) ++ cs_rows g 12 12 r2 (fun _ _ => 0)) ++ [(q3, .inl (g.2 2, 12, .inr (.inr (.inr (.inr (cs_rf 12 r3))))))]) ++ cs_rows g 12 4 r3 (fun _ _ => 0))) 31 244
  refine cs_aload 0 (ps_at tX2_init_ok 26 rfl) rfl rfl ?_
  refine cs_bipush (v := 12) (ps_at tX2_init_ok 27 rfl) (by decide) ?_
  refine cs_iconst (v := 4) (ps_at tX2_init_ok 28 rfl) (by decide) ?_
  refine cs_mna (N := 12) (K := 4) (ps_at tX2_init_ok 29 rfl) cqX2_9 (by decide) (by decide) (by decide) (by decide) (by decide) (by decide) (by decide) (by decide) (fun q4 r4 => ?_)
  refine cs_putF 0 rfl (ps_at tX2_init_ok 30 rfl) cfX2_32 rfl (Nat.le_of_ble_eq_true rfl) ?_
  show cs_K mX2_init (d + 2) g _ _ 64 _ _ ((h0, .inr (2, [.ref q1, .ref q2, .int 2, .int 4, .int 3, .ref q3, .ref q4, .null, .null, .int 0, .int 0])) :: (((((((([] ++ [(q1, .inl (g.2 2, 4, .inr (.inr (.inr (.inr (cs_rf 4 r1))))))]) ++ cs_rows g 4 6 r1 (fun _ _ => 0)) ++ [(q2, .inl (g.2 2, 12, .inr (.inr (.inr (.inr (cs_rf 12 r2))))))]) ++ cs_rows g 12 12 r2 (fun _ _ => 0)) ++ [(q3, .inl (g.2 2, 12, .inr (.inr (.inr (.inr (cs_rf 12 r3))))))]) ++ cs_rows g 12 4 r3 (fun _ _ => 0)) ++ [(q4, .inl (g.2 2, 12, .inr (.inr (.inr (.inr (cs_rf 12 r4))))))]) ++ cs_rows g 12 4 r4 (fun _ _ => 0))) 44 304
  refine cs_aload 0 (ps_at tX2_init_ok 31 rfl) rfl rfl ?_
  refine cs_bipush (v := 12) (ps_at tX2_init_ok 32 rfl) (by decide) ?_
  refine cs_iconst (v := 4) (ps_at tX2_init_ok 33 rfl) (by decide) ?_
  refine cs_mna (N := 12) (K := 4) (ps_at tX2_init_ok 34 rfl) cqX2_9 (by decide) (by decide) (by decide) (by decide) (by decide) (by decide) (by decide) (by decide) (fun q5 r5 => ?_)
  refine cs_putF 0 rfl (ps_at tX2_init_ok 35 rfl) cfX2_35 rfl (Nat.le_of_ble_eq_true rfl) ?_
  show cs_K mX2_init (d + 2) g _ _ 75 _ _ ((h0, .inr (2, [.ref q1, .ref q2, .int 2, .int 4, .int 3, .ref q3, .ref q4, .ref q5, .null, .int 0, .int 0])) :: (((((((((([] ++ [(q1, .inl (g.2 2, 4, .inr (.inr (.inr (.inr (cs_rf 4 r1))))))]) ++ cs_rows g 4 6 r1 (fun _ _ => 0)) ++ [(q2, .inl (g.2 2, 12, .inr (.inr (.inr (.inr (cs_rf 12 r2))))))]) ++ cs_rows g 12 12 r2 (fun _ _ => 0)) ++ [(q3, .inl (g.2 2, 12, .inr (.inr (.inr (.inr (cs_rf 12 r3))))))]) ++ cs_rows g 12 4 r3 (fun _ _ => 0)) ++ [(q4, .inl (g.2 2, 12, .inr (.inr (.inr (.inr (cs_rf 12 r4))))))]) ++ cs_rows g 12 4 r4 (fun _ _ => 0)) ++ [(q5, .inl (g.2 2, 12, .inr (.inr (.inr (.inr (cs_rf 12 r5))))))]) ++ cs_rows g 12 4 r5 (fun _ _ => 0))) 57 364
  refine cs_aload 0 (ps_at tX2_init_ok 36 rfl) rfl rfl ?_
  refine cs_bipush (v := 12) (ps_at tX2_init_ok 37 rfl) (by decide) ?_
  refine cs_iconst (v := 4) (ps_at tX2_init_ok 38 rfl) (by decide) ?_
  refine cs_mna (N := 12) (K := 4) (ps_at tX2_init_ok 39 rfl) cqX2_9 (by decide) (by decide) (by decide) (by decide) (by decide) (by decide) (by decide) (by decide) (fun q6 r6 => ?_)
  refine cs_putF 0 rfl (ps_at tX2_init_ok 40 rfl) cfX2_38 rfl (Nat.le_of_ble_eq_true rfl) ?_
  show cs_K mX2_init (d + 2) g _ _ 86 _ _ ((h0, .inr (2, [.ref q1, .ref q2, .int 2, .int 4, .int 3, .ref q3, .ref q4, .ref q5, .ref q6, .int 0, .int 0])) :: (((((((((((([] ++ [(q1, .inl (g.2 2, 4, .inr (.inr (.inr (.inr (cs_rf 4 r1))))))]) ++ cs_rows g 4 6 r1 (fun _ _ => 0)) ++ [(q2, .inl (g.2 2, 12, .inr (.inr (.inr (.inr (cs_rf 12 r2))))))]) ++ cs_rows g 12 12 r2 (fun _ _ => 0)) ++ [(q3, .inl (g.2 2, 12, .inr (.inr (.inr (.inr (cs_rf 12 r3))))))]) ++ cs_rows g 12 4 r3 (fun _ _ => 0)) ++ [(q4, .inl (g.2 2, 12, .inr (.inr (.inr (.inr (cs_rf 12 r4))))))]) ++ cs_rows g 12 4 r4 (fun _ _ => 0)) ++ [(q5, .inl (g.2 2, 12, .inr (.inr (.inr (.inr (cs_rf 12 r5))))))]) ++ cs_rows g 12 4 r5 (fun _ _ => 0)) ++ [(q6, .inl (g.2 2, 12, .inr (.inr (.inr (.inr (cs_rf 12 r6))))))]) ++ cs_rows g 12 4 r6 (fun _ _ => 0))) 70 424
  refine cs_iconst (v := 0) (ps_at tX2_init_ok 41 rfl) (by decide) ?_
  refine cs_istore (L' := [(1, .int 0), (0, .ref h0)]) (ps_at tX2_init_ok 42 rfl) rfl (by decide) rfl ?_
  have hw : (((h0, .inr (2, [.ref q1, .ref q2, .int 2, .int 4, .int 3, .ref q3, .ref q4, .ref q5, .ref q6, .int 0, .int 0])) :: (((((((((((([] ++ [(q1, .inl (g.2 2, 4, .inr (.inr (.inr (.inr (cs_rf 4 r1))))))]) ++ cs_rows g 4 6 r1 (fun _ _ => 0)) ++ [(q2, .inl (g.2 2, 12, .inr (.inr (.inr (.inr (cs_rf 12 r2))))))]) ++ cs_rows g 12 12 r2 (fun _ _ => 0)) ++ [(q3, .inl (g.2 2, 12, .inr (.inr (.inr (.inr (cs_rf 12 r3))))))]) ++ cs_rows g 12 4 r3 (fun _ _ => 0)) ++ [(q4, .inl (g.2 2, 12, .inr (.inr (.inr (.inr (cs_rf 12 r4))))))]) ++ cs_rows g 12 4 r4 (fun _ _ => 0)) ++ [(q5, .inl (g.2 2, 12, .inr (.inr (.inr (.inr (cs_rf 12 r5))))))]) ++ cs_rows g 12 4 r5 (fun _ _ => 0)) ++ [(q6, .inl (g.2 2, 12, .inr (.inr (.inr (.inr (cs_rf 12 r6))))))]) ++ cs_rows g 12 4 r6 (fun _ _ => 0))) : va_W) = ((([(h0, .inr (2, [.ref q1, .ref q2, .int 2, .int 4, .int 3, .ref q3, .ref q4, .ref q5, .ref q6, .int 0, .int 0]))] ++ [(q1, .inl (g.2 2, 4, .inr (.inr (.inr (.inr (cs_rf 4 r1))))))]) ++ cs_rows g 4 6 r1 (cs_fj 6 (-900009) 0)) ++ ([(q2, .inl (g.2 2, 12, .inr (.inr (.inr (.inr (cs_rf 12 r2))))))] ++ cs_rows g 12 12 r2 (fun _ _ => 0) ++ [(q3, .inl (g.2 2, 12, .inr (.inr (.inr (.inr (cs_rf 12 r3))))))] ++ cs_rows g 12 4 r3 (fun _ _ => 0) ++ [(q4, .inl (g.2 2, 12, .inr (.inr (.inr (.inr (cs_rf 12 r4))))))] ++ cs_rows g 12 4 r4 (fun _ _ => 0) ++ [(q5, .inl (g.2 2, 12, .inr (.inr (.inr (.inr (cs_rf 12 r5))))))] ++ cs_rows g 12 4 r5 (fun _ _ => 0) ++ [(q6, .inl (g.2 2, 12, .inr (.inr (.inr (.inr (cs_rf 12 r6))))))] ++ cs_rows g 12 4 r6 (fun _ _ => 0))) := by rw [cs_fj0]; simp only [List.nil_append, List.cons_append, List.append_assoc, List.append_nil]
  rw [hw]
  refine cs_fillLoop (M := mX2_init) (d := d + 1) (g := g) (cells := 70) (slots := 424) (hp := 88) (pl := 1) (N := 4) (K := 6) (end_ := 110) (po := 1) (P := ([(h0, .inr (2, [.ref q1, .ref q2, .int 2, .int 4, .int 3, .ref q3, .ref q4, .ref q5, .ref q6, .int 0, .int 0]))] ++ [(q1, .inl (g.2 2, 4, .inr (.inr (.inr (.inr (cs_rf 4 r1))))))])) (S := ([(q2, .inl (g.2 2, 12, .inr (.inr (.inr (.inr (cs_rf 12 r2))))))] ++ cs_rows g 12 12 r2 (fun _ _ => 0) ++ [(q3, .inl (g.2 2, 12, .inr (.inr (.inr (.inr (cs_rf 12 r3))))))] ++ cs_rows g 12 4 r3 (fun _ _ => 0) ++ [(q4, .inl (g.2 2, 12, .inr (.inr (.inr (.inr (cs_rf 12 r4))))))] ++ cs_rows g 12 4 r4 (fun _ _ => 0) ++ [(q5, .inl (g.2 2, 12, .inr (.inr (.inr (.inr (cs_rf 12 r5))))))] ++ cs_rows g 12 4 r5 (fun _ _ => 0) ++ [(q6, .inl (g.2 2, 12, .inr (.inr (.inr (.inr (cs_rf 12 r6))))))] ++ cs_rows g 12 4 r6 (fun _ _ => 0))) (by decide) (by decide) (by decide) (ps_at tX2_init_ok 43 rfl) (fun L st ws k => cs_iconst (v := nI 4) (ps_at tX2_init_ok 44 rfl) (by decide) k) (ps_at tX2_init_ok 45 rfl) (by decide) (ps_at tX2_init_ok 46 rfl) (ps_at tX2_init_ok 47 rfl) flX2_11 (ps_at tX2_init_ok 48 rfl) (ps_at tX2_init_ok 49 rfl) (ps_at tX2_init_ok 50 rfl) cnX2_41 (ps_at tX2_init_ok 51 rfl) csX2_42 (ps_at tX2_init_ok 52 rfl) (ps_at tX2_init_ok 53 rfl) (by decide) (by decide) (by decide) rfl rfl rfl ?_ 4 0 rfl
  rw [cs_rows_full]
  refine cs_vret (ps_at tX2_init_ok 54 rfl) rfl (by decide) (by decide) ?_
  refine ⟨fun f k => if f = 36 then h0 else if f = 37 then q1 else if f = 38 then r1 k else if f = 39 then q2 else if f = 40 then r2 k else if f = 41 then q3 else if f = 42 then r3 k else if f = 43 then q4 else if f = 44 then r4 k else if f = 45 then q5 else if f = 46 then r5 k else if f = 47 then q6 else if f = 48 then r6 k else 0, rfl, ?_⟩
  simp only [cs_blk, lcX2, List.map_append, List.map_cons, List.map_nil, List.map_map, Function.comp_def, cs_eR sh_37, cs_eR sh_39, cs_eR sh_41, cs_eR sh_43, cs_eR sh_45, cs_eR sh_47] <;> rfl

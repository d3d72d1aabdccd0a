/-! ===== printed by wip/whole/cons.py ===== -/
set_option maxHeartbeats 4000000 in
set_option maxRecDepth 100000 in
theorem kX1_init {d : Nat} {g : cs_G} {h0 : Nat} : cs_C mX1_init (d + 2) g [.ref h0] [(h0, .inr (1, [.null, .null, .null, .int 0]))] (cs_Post lcX1 30 g h0) := by
  refine cs_enter (by decide) rfl (Nat.le_of_ble_eq_true rfl) ?_
  refine cs_aload 0 (ps_at tX1_init_ok 0 rfl) rfl rfl ?_
  refine cs_objInit (ps_at tX1_init_ok 1 rfl) obX1_3 (Nat.zero_le _) ?_
  refine cs_aload 0 (ps_at tX1_init_ok 2 rfl) rfl rfl ?_
  refine cs_bipush (v := 6) (ps_at tX1_init_ok 3 rfl) (by decide) ?_
  refine cs_bipush (v := 12) (ps_at tX1_init_ok 4 rfl) (by decide) ?_
  refine cs_mna (N := 6) (K := 12) (ps_at tX1_init_ok 5 rfl) cqX1_9 (by decide) (by decide) (by decide) (by decide) (by decide) (by decide) (by decide) (by decide) (fun q1 r1 => ?_)
  refine cs_putF 0 rfl (ps_at tX1_init_ok 6 rfl) cfX1_11 rfl (Nat.le_of_ble_eq_true rfl) ?_
  show cs_K mX1_init (d + 2) g _ _ 16 _ _ ((h0, .inr (1, [.ref q1, .null, .null, .int 0])) :: (([] ++ [(q1, .inl (g.2 2, 6, .inr (.inr (.inr (.inr (cs_rf 6 r1))))))]) ++ cs_rows g 6 12 r1 (fun _ _ => 0))) 7 78
  refine cs_aload 0 (ps_at tX1_init_ok 7 rfl) rfl rfl ?_
  refine cs_bipush (v := 6) (ps_at tX1_init_ok 8 rfl) (by decide) ?_
  refine cs_newI (N := 6) (ps_at tX1_init_ok 9 rfl) (by decide) (by decide) (by decide) (by decide) (by decide) (fun q2 => ?_)
  refine cs_putF 0 rfl (ps_at tX1_init_ok 10 rfl) cfX1_16 rfl (Nat.le_of_ble_eq_true rfl) ?_
  show cs_K mX1_init (d + 2) g _ _ 24 _ _ ((h0, .inr (1, [.ref q1, .ref q2, .null, .int 0])) :: ((([] ++ [(q1, .inl (g.2 2, 6, .inr (.inr (.inr (.inr (cs_rf 6 r1))))))]) ++ cs_rows g 6 12 r1 (fun _ _ => 0)) ++ [(q2, .inl (g.2 0, 6, .inl (fun _ => 0)))])) 8 84
  refine cs_aload 0 (ps_at tX1_init_ok 11 rfl) rfl rfl ?_
  refine cs_bipush (v := 6) (ps_at tX1_init_ok 12 rfl) (by decide) ?_
  refine cs_bipush (v := 12) (ps_at tX1_init_ok 13 rfl) (by decide) ?_
  refine cs_mna (N := 6) (K := 12) (ps_at tX1_init_ok 14 rfl) cqX1_9 (by decide) (by decide) (by decide) (by decide) (by decide) (by decide) (by decide) (by decide) (fun q3 r3 => ?_)
  refine cs_putF 0 rfl (ps_at tX1_init_ok 15 rfl) cfX1_20 rfl (Nat.le_of_ble_eq_true rfl) ?_
  show cs_K mX1_init (d + 2) g _ _ 36 _ _ ((h0, .inr (1, [.ref q1, .ref q2, .ref q3, .int 0])) :: ((((([] ++ [(q1, .inl (g.2 2, 6, .inr (.inr (.inr (.inr (cs_rf 6 r1))))))]) ++ cs_rows g 6 12 r1 (fun _ _ => 0)) ++ [(q2, .inl (g.2 0, 6, .inl (fun _ => 0)))]) ++ [(q3, .inl (g.2 2, 6, .inr (.inr (.inr (.inr (cs_rf 6 r3))))))]) ++ cs_rows g 6 12 r3 (fun _ _ => 0))) 15 162
  refine cs_aload 0 (ps_at tX1_init_ok 16 rfl) rfl rfl ?_
  refine cs_iconst (v := 4) (ps_at tX1_init_ok 17 rfl) (by decide) ?_
  refine cs_putI 0 (ps_at tX1_init_ok 18 rfl) fpX1_23 rfl (Nat.le_of_ble_eq_true rfl) ?_
  show cs_K mX1_init (d + 2) g _ _ 41 _ _ ((h0, .inr (1, [.ref q1, .ref q2, .ref q3, .int 4])) :: ((((([] ++ [(q1, .inl (g.2 2, 6, .inr (.inr (.inr (.inr (cs_rf 6 r1))))))]) ++ cs_rows g 6 12 r1 (fun _ _ => 0)) ++ [(q2, .inl (g.2 0, 6, .inl (fun _ => 0)))]) ++ [(q3, .inl (g.2 2, 6, .inr (.inr (.inr (.inr (cs_rf 6 r3))))))]) ++ cs_rows g 6 12 r3 (fun _ _ => 0))) 15 162
  refine cs_iconst (v := 0) (ps_at tX1_init_ok 19 rfl) (by decide) ?_
  refine cs_istore (L' := [(1, .int 0), (0, .ref h0)]) (ps_at tX1_init_ok 20 rfl) rfl (by decide) rfl ?_
  have hw : (((h0, .inr (1, [.ref q1, .ref q2, .ref q3, .int 4])) :: ((((([] ++ [(q1, .inl (g.2 2, 6, .inr (.inr (.inr (.inr (cs_rf 6 r1))))))]) ++ cs_rows g 6 12 r1 (fun _ _ => 0)) ++ [(q2, .inl (g.2 0, 6, .inl (fun _ => 0)))]) ++ [(q3, .inl (g.2 2, 6, .inr (.inr (.inr (.inr (cs_rf 6 r3))))))]) ++ cs_rows g 6 12 r3 (fun _ _ => 0))) : va_W) = ((([(h0, .inr (1, [.ref q1, .ref q2, .ref q3, .int 4]))] ++ [(q1, .inl (g.2 2, 6, .inr (.inr (.inr (.inr (cs_rf 6 r1))))))] ++ cs_rows g 6 12 r1 (fun _ _ => 0) ++ [(q2, .inl (g.2 0, 6, .inl (fun _ => 0)))] ++ [(q3, .inl (g.2 2, 6, .inr (.inr (.inr (.inr (cs_rf 6 r3))))))]) ++ cs_rows g 6 12 r3 (cs_fj 12 (-900009) 0)) ++ []) := by rw [cs_fj0]; simp only [List.nil_append, List.cons_append, List.append_assoc, List.append_nil]
  rw [hw]
  refine cs_fillLoop (M := mX1_init) (d := d + 1) (g := g) (cells := 15) (slots := 162) (hp := 43) (pl := 2) (N := 6) (K := 12) (end_ := 66) (po := 9) (P := ([(h0, .inr (1, [.ref q1, .ref q2, .ref q3, .int 4]))] ++ [(q1, .inl (g.2 2, 6, .inr (.inr (.inr (.inr (cs_rf 6 r1))))))] ++ cs_rows g 6 12 r1 (fun _ _ => 0) ++ [(q2, .inl (g.2 0, 6, .inl (fun _ => 0)))] ++ [(q3, .inl (g.2 2, 6, .inr (.inr (.inr (.inr (cs_rf 6 r3))))))])) (S := []) (by decide) (by decide) (by decide) (ps_at tX1_init_ok 21 rfl) (fun L st ws k => cs_bipush (v := nI 6) (ps_at tX1_init_ok 22 rfl) (by decide) k) (ps_at tX1_init_ok 23 rfl) (by decide) (ps_at tX1_init_ok 24 rfl) (ps_at tX1_init_ok 25 rfl) flX1_20 (ps_at tX1_init_ok 26 rfl) (ps_at tX1_init_ok 27 rfl) (ps_at tX1_init_ok 28 rfl) cnX1_27 (ps_at tX1_init_ok 29 rfl) csX1_28 (ps_at tX1_init_ok 30 rfl) (ps_at tX1_init_ok 31 rfl) (by decide) (by decide) (by decide) rfl rfl rfl ?_ 6 0 rfl
  rw [cs_rows_full]
  refine cs_vret (ps_at tX1_init_ok 32 rfl) rfl (by decide) (by decide) ?_
  refine ⟨fun f k => if f = 30 then h0 else if f = 31 then q1 else if f = 32 then r1 k else if f = 33 then q2 else if f = 34 then q3 else if f = 35 then r3 k else 0, rfl, ?_⟩
  simp only [cs_blk, lcX1, List.map_append, List.map_cons, List.map_nil, List.map_map, Function.comp_def, cs_eR sh_31, cs_eR sh_34] <;> rfl

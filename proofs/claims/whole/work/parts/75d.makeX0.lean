/-! ===== printed by wip/whole/cons.py ===== -/
set_option maxHeartbeats 4000000 in
set_option maxRecDepth 100000 in
theorem kX0_init {d : Nat} {g : cs_G} {h0 : Nat} : cs_C mX0_init (d + 2) g [.ref h0] [(h0, .inr (0, [.null, .null, .null, .null, .null, .int 0, .int 0, .int 0, .null, .int 0, .int 0, .int 0]))] (cs_Post lcX0 3 g h0) := by
  refine cs_enter (by decide) rfl (Nat.le_of_ble_eq_true rfl) ?_
  refine cs_aload 0 (ps_at tX0_init_ok 0 rfl) rfl rfl ?_
  refine cs_objInit (ps_at tX0_init_ok 1 rfl) obX0_3 (Nat.zero_le _) ?_
  refine cs_aload 0 (ps_at tX0_init_ok 2 rfl) rfl rfl ?_
  refine cs_bipush (v := 9) (ps_at tX0_init_ok 3 rfl) (by decide) ?_
  refine cs_bipush (v := 6) (ps_at tX0_init_ok 4 rfl) (by decide) ?_
  refine cs_mna (N := 9) (K := 6) (ps_at tX0_init_ok 5 rfl) cqX0_9 (by decide) (by decide) (by decide) (by decide) (by decide) (by decide) (by decide) (by decide) (fun q1 r1 => ?_)
  refine cs_putF 0 rfl (ps_at tX0_init_ok 6 rfl) cfX0_11 rfl (Nat.le_of_ble_eq_true rfl) ?_
  show cs_K mX0_init (d + 2) g _ _ 16 _ _ ((h0, .inr (0, [.ref q1, .null, .null, .null, .null, .int 0, .int 0, .int 0, .null, .int 0, .int 0, .int 0])) :: (([] ++ [(q1, .inl (g.2 2, 9, .inr (.inr (.inr (.inr (cs_rf 9 r1))))))]) ++ cs_rows g 9 6 r1 (fun _ _ => 0))) 10 63
  refine cs_aload 0 (ps_at tX0_init_ok 7 rfl) rfl rfl ?_
  refine cs_bipush (v := 9) (ps_at tX0_init_ok 8 rfl) (by decide) ?_
  refine cs_newI (N := 9) (ps_at tX0_init_ok 9 rfl) (by decide) (by decide) (by decide) (by decide) (by decide) (fun q2 => ?_)
  refine cs_putF 0 rfl (ps_at tX0_init_ok 10 rfl) cfX0_16 rfl (Nat.le_of_ble_eq_true rfl) ?_
  show cs_K mX0_init (d + 2) g _ _ 24 _ _ ((h0, .inr (0, [.ref q1, .ref q2, .null, .null, .null, .int 0, .int 0, .int 0, .null, .int 0, .int 0, .int 0])) :: ((([] ++ [(q1, .inl (g.2 2, 9, .inr (.inr (.inr (.inr (cs_rf 9 r1))))))]) ++ cs_rows g 9 6 r1 (fun _ _ => 0)) ++ [(q2, .inl (g.2 0, 9, .inl (fun _ => 0)))])) 11 72
  refine cs_aload 0 (ps_at tX0_init_ok 11 rfl) rfl rfl ?_
  refine cs_bipush (v := 9) (ps_at tX0_init_ok 12 rfl) (by decide) ?_
  refine cs_newI (N := 9) (ps_at tX0_init_ok 13 rfl) (by decide) (by decide) (by decide) (by decide) (by decide) (fun q3 => ?_)
  refine cs_putF 0 rfl (ps_at tX0_init_ok 14 rfl) cfX0_20 rfl (Nat.le_of_ble_eq_true rfl) ?_
  show cs_K mX0_init (d + 2) g _ _ 32 _ _ ((h0, .inr (0, [.ref q1, .ref q2, .ref q3, .null, .null, .int 0, .int 0, .int 0, .null, .int 0, .int 0, .int 0])) :: (((([] ++ [(q1, .inl (g.2 2, 9, .inr (.inr (.inr (.inr (cs_rf 9 r1))))))]) ++ cs_rows g 9 6 r1 (fun _ _ => 0)) ++ [(q2, .inl (g.2 0, 9, .inl (fun _ => 0)))]) ++ [(q3, .inl (g.2 0, 9, .inl (fun _ => 0)))])) 12 81
  refine cs_aload 0 (ps_at tX0_init_ok 15 rfl) rfl rfl ?_
  refine cs_bipush (v := 9) (ps_at tX0_init_ok 16 rfl) (by decide) ?_
  refine cs_newI (N := 9) (ps_at tX0_init_ok 17 rfl) (by decide) (by decide) (by decide) (by decide) (by decide) (fun q4 => ?_)
  refine cs_putF 0 rfl (ps_at tX0_init_ok 18 rfl) cfX0_23 rfl (Nat.le_of_ble_eq_true rfl) ?_
  show cs_K mX0_init (d + 2) g _ _ 40 _ _ ((h0, .inr (0, [.ref q1, .ref q2, .ref q3, .ref q4, .null, .int 0, .int 0, .int 0, .null, .int 0, .int 0, .int 0])) :: ((((([] ++ [(q1, .inl (g.2 2, 9, .inr (.inr (.inr (.inr (cs_rf 9 r1))))))]) ++ cs_rows g 9 6 r1 (fun _ _ => 0)) ++ [(q2, .inl (g.2 0, 9, .inl (fun _ => 0)))]) ++ [(q3, .inl (g.2 0, 9, .inl (fun _ => 0)))]) ++ [(q4, .inl (g.2 0, 9, .inl (fun _ => 0)))])) 13 90
  refine cs_aload 0 (ps_at tX0_init_ok 19 rfl) rfl rfl ?_
  refine cs_bipush (v := 9) (ps_at tX0_init_ok 20 rfl) (by decide) ?_
  refine cs_newI (N := 9) (ps_at tX0_init_ok 21 rfl) (by decide) (by decide) (by decide) (by decide) (by decide) (fun q5 => ?_)
  refine cs_putF 0 rfl (ps_at tX0_init_ok 22 rfl) cfX0_26 rfl (Nat.le_of_ble_eq_true rfl) ?_
  show cs_K mX0_init (d + 2) g _ _ 48 _ _ ((h0, .inr (0, [.ref q1, .ref q2, .ref q3, .ref q4, .ref q5, .int 0, .int 0, .int 0, .null, .int 0, .int 0, .int 0])) :: (((((([] ++ [(q1, .inl (g.2 2, 9, .inr (.inr (.inr (.inr (cs_rf 9 r1))))))]) ++ cs_rows g 9 6 r1 (fun _ _ => 0)) ++ [(q2, .inl (g.2 0, 9, .inl (fun _ => 0)))]) ++ [(q3, .inl (g.2 0, 9, .inl (fun _ => 0)))]) ++ [(q4, .inl (g.2 0, 9, .inl (fun _ => 0)))]) ++ [(q5, .inl (g.2 0, 9, .inl (fun _ => 0)))])) 14 99
  refine cs_aload 0 (ps_at tX0_init_ok 23 rfl) rfl rfl ?_
  refine cs_bipush (v := 9) (ps_at tX0_init_ok 24 rfl) (by decide) ?_
  refine cs_newI (N := 9) (ps_at tX0_init_ok 25 rfl) (by decide) (by decide) (by decide) (by decide) (by decide) (fun q6 => ?_)
  refine cs_putF 0 rfl (ps_at tX0_init_ok 26 rfl) cfX0_29 rfl (Nat.le_of_ble_eq_true rfl) ?_
  show cs_K mX0_init (d + 2) g _ _ 56 _ _ ((h0, .inr (0, [.ref q1, .ref q2, .ref q3, .ref q4, .ref q5, .int 0, .int 0, .int 0, .ref q6, .int 0, .int 0, .int 0])) :: ((((((([] ++ [(q1, .inl (g.2 2, 9, .inr (.inr (.inr (.inr (cs_rf 9 r1))))))]) ++ cs_rows g 9 6 r1 (fun _ _ => 0)) ++ [(q2, .inl (g.2 0, 9, .inl (fun _ => 0)))]) ++ [(q3, .inl (g.2 0, 9, .inl (fun _ => 0)))]) ++ [(q4, .inl (g.2 0, 9, .inl (fun _ => 0)))]) ++ [(q5, .inl (g.2 0, 9, .inl (fun _ => 0)))]) ++ [(q6, .inl (g.2 0, 9, .inl (fun _ => 0)))])) 15 108
  refine cs_iconst (v := 0) (ps_at tX0_init_ok 27 rfl) (by decide) ?_
  refine cs_istore (L' := [(1, .int 0), (0, .ref h0)]) (ps_at tX0_init_ok 28 rfl) rfl (by decide) rfl ?_
  have hw : (((h0, .inr (0, [.ref q1, .ref q2, .ref q3, .ref q4, .ref q5, .int 0, .int 0, .int 0, .ref q6, .int 0, .int 0, .int 0])) :: ((((((([] ++ [(q1, .inl (g.2 2, 9, .inr (.inr (.inr (.inr (cs_rf 9 r1))))))]) ++ cs_rows g 9 6 r1 (fun _ _ => 0)) ++ [(q2, .inl (g.2 0, 9, .inl (fun _ => 0)))]) ++ [(q3, .inl (g.2 0, 9, .inl (fun _ => 0)))]) ++ [(q4, .inl (g.2 0, 9, .inl (fun _ => 0)))]) ++ [(q5, .inl (g.2 0, 9, .inl (fun _ => 0)))]) ++ [(q6, .inl (g.2 0, 9, .inl (fun _ => 0)))])) : va_W) = ((([(h0, .inr (0, [.ref q1, .ref q2, .ref q3, .ref q4, .ref q5, .int 0, .int 0, .int 0, .ref q6, .int 0, .int 0, .int 0]))] ++ [(q1, .inl (g.2 2, 9, .inr (.inr (.inr (.inr (cs_rf 9 r1))))))]) ++ cs_rows g 9 6 r1 (cs_fj 6 (-900009) 0)) ++ ([(q2, .inl (g.2 0, 9, .inl (fun _ => 0)))] ++ [(q3, .inl (g.2 0, 9, .inl (fun _ => 0)))] ++ [(q4, .inl (g.2 0, 9, .inl (fun _ => 0)))] ++ [(q5, .inl (g.2 0, 9, .inl (fun _ => 0)))] ++ [(q6, .inl (g.2 0, 9, .inl (fun _ => 0)))])) := by rw [cs_fj0]; simp only [List.nil_append, List.cons_append, List.append_assoc, List.append_nil]
  rw [hw]
  refine cs_fillLoop (M := mX0_init) (d := d + 1) (g := g) (cells := 15) (slots := 108) (hp := 58) (pl := 2) (N := 9) (K := 6) (end_ := 81) (po := 1) (P := ([(h0, .inr (0, [.ref q1, .ref q2, .ref q3, .ref q4, .ref q5, .int 0, .int 0, .int 0, .ref q6, .int 0, .int 0, .int 0]))] ++ [(q1, .inl (g.2 2, 9, .inr (.inr (.inr (.inr (cs_rf 9 r1))))))])) (S := ([(q2, .inl (g.2 0, 9, .inl (fun _ => 0)))] ++ [(q3, .inl (g.2 0, 9, .inl (fun _ => 0)))] ++ [(q4, .inl (g.2 0, 9, .inl (fun _ => 0)))] ++ [(q5, .inl (g.2 0, 9, .inl (fun _ => 0)))] ++ [(q6, .inl (g.2 0, 9, .inl (fun _ => 0)))])) (by decide) (by decide) (by decide) (ps_at tX0_init_ok 29 rfl) (fun L st ws k => cs_bipush (v := nI 9) (ps_at tX0_init_ok 30 rfl) (by decide) k) (ps_at tX0_init_ok 31 rfl) (by decide) (ps_at tX0_init_ok 32 rfl) (ps_at tX0_init_ok 33 rfl) flX0_11 (ps_at tX0_init_ok 34 rfl) (ps_at tX0_init_ok 35 rfl) (ps_at tX0_init_ok 36 rfl) cnX0_32 (ps_at tX0_init_ok 37 rfl) csX0_33 (ps_at tX0_init_ok 38 rfl) (ps_at tX0_init_ok 39 rfl) (by decide) (by decide) (by decide) rfl rfl rfl ?_ 9 0 rfl
  rw [cs_rows_full]
  refine cs_vret (ps_at tX0_init_ok 40 rfl) rfl (by decide) (by decide) ?_
  refine ⟨fun f k => if f = 3 then h0 else if f = 4 then q1 else if f = 5 then r1 k else if f = 6 then q2 else if f = 7 then q3 else if f = 8 then q4 else if f = 9 then q5 else if f = 10 then q6 else 0, rfl, ?_⟩
  simp only [cs_blk, lcX0, List.map_append, List.map_cons, List.map_nil, List.map_map, Function.comp_def, cs_eR sh_4] <;> rfl

/-! ===== printed by wip/whole/cons.py ===== -/
set_option maxHeartbeats 4000000 in
set_option maxRecDepth 100000 in
theorem kX4_init {d : Nat} {g : cs_G} {h0 : Nat} : cs_C mX4_init (d + 2) g [.ref h0] [(h0, .inr (4, [.null, .null, .null, .null, .null, .int 0, .int 0]))] (cs_Post lcX4 24 g h0) := by
  refine cs_enter (by decide) rfl (Nat.le_of_ble_eq_true rfl) ?_
  refine cs_aload 0 (ps_at tX4_init_ok 0 rfl) rfl rfl ?_
  refine cs_objInit (ps_at tX4_init_ok 1 rfl) obX4_3 (Nat.zero_le _) ?_
  refine cs_aload 0 (ps_at tX4_init_ok 2 rfl) rfl rfl ?_
  refine cs_bipush (v := 64) (ps_at tX4_init_ok 3 rfl) (by decide) ?_
  refine cs_newI (N := 64) (ps_at tX4_init_ok 4 rfl) (by decide) (by decide) (by decide) (by decide) (by decide) (fun q1 => ?_)
  refine cs_putF 0 rfl (ps_at tX4_init_ok 5 rfl) cfX4_9 rfl (Nat.le_of_ble_eq_true rfl) ?_
  show cs_K mX4_init (d + 2) g _ _ 12 _ _ ((h0, .inr (4, [.ref q1, .null, .null, .null, .null, .int 0, .int 0])) :: ([] ++ [(q1, .inl (g.2 0, 64, .inl (fun _ => 0)))])) 1 64
  refine cs_aload 0 (ps_at tX4_init_ok 6 rfl) rfl rfl ?_
  refine cs_bipush (v := 64) (ps_at tX4_init_ok 7 rfl) (by decide) ?_
  refine cs_newI (N := 64) (ps_at tX4_init_ok 8 rfl) (by decide) (by decide) (by decide) (by decide) (by decide) (fun q2 => ?_)
  refine cs_putF 0 rfl (ps_at tX4_init_ok 9 rfl) cfX4_15 rfl (Nat.le_of_ble_eq_true rfl) ?_
  show cs_K mX4_init (d + 2) g _ _ 20 _ _ ((h0, .inr (4, [.ref q1, .ref q2, .null, .null, .null, .int 0, .int 0])) :: (([] ++ [(q1, .inl (g.2 0, 64, .inl (fun _ => 0)))]) ++ [(q2, .inl (g.2 0, 64, .inl (fun _ => 0)))])) 2 128
  refine cs_aload 0 (ps_at tX4_init_ok 10 rfl) rfl rfl ?_
  refine cs_bipush (v := 64) (ps_at tX4_init_ok 11 rfl) (by decide) ?_
  refine cs_newI (N := 64) (ps_at tX4_init_ok 12 rfl) (by decide) (by decide) (by decide) (by decide) (by decide) (fun q3 => ?_)
  refine cs_putF 0 rfl (ps_at tX4_init_ok 13 rfl) cfX4_18 rfl (Nat.le_of_ble_eq_true rfl) ?_
  show cs_K mX4_init (d + 2) g _ _ 28 _ _ ((h0, .inr (4, [.ref q1, .ref q2, .ref q3, .null, .null, .int 0, .int 0])) :: ((([] ++ [(q1, .inl (g.2 0, 64, .inl (fun _ => 0)))]) ++ [(q2, .inl (g.2 0, 64, .inl (fun _ => 0)))]) ++ [(q3, .inl (g.2 0, 64, .inl (fun _ => 0)))])) 3 192
  refine cs_aload 0 (ps_at tX4_init_ok 14 rfl) rfl rfl ?_
  refine cs_bipush (v := 6) (ps_at tX4_init_ok 15 rfl) (by decide) ?_
  refine cs_newI (N := 6) (ps_at tX4_init_ok 16 rfl) (by decide) (by decide) (by decide) (by decide) (by decide) (fun q4 => ?_)
  refine cs_putF 0 rfl (ps_at tX4_init_ok 17 rfl) cfX4_21 rfl (Nat.le_of_ble_eq_true rfl) ?_
  show cs_K mX4_init (d + 2) g _ _ 36 _ _ ((h0, .inr (4, [.ref q1, .ref q2, .ref q3, .ref q4, .null, .int 0, .int 0])) :: (((([] ++ [(q1, .inl (g.2 0, 64, .inl (fun _ => 0)))]) ++ [(q2, .inl (g.2 0, 64, .inl (fun _ => 0)))]) ++ [(q3, .inl (g.2 0, 64, .inl (fun _ => 0)))]) ++ [(q4, .inl (g.2 0, 6, .inl (fun _ => 0)))])) 4 198
  refine cs_aload 0 (ps_at tX4_init_ok 18 rfl) rfl rfl ?_
  refine cs_bipush (v := 6) (ps_at tX4_init_ok 19 rfl) (by decide) ?_
  refine cs_newI (N := 6) (ps_at tX4_init_ok 20 rfl) (by decide) (by decide) (by decide) (by decide) (by decide) (fun q5 => ?_)
  refine cs_putF 0 rfl (ps_at tX4_init_ok 21 rfl) cfX4_24 rfl (Nat.le_of_ble_eq_true rfl) ?_
  show cs_K mX4_init (d + 2) g _ _ 44 _ _ ((h0, .inr (4, [.ref q1, .ref q2, .ref q3, .ref q4, .ref q5, .int 0, .int 0])) :: ((((([] ++ [(q1, .inl (g.2 0, 64, .inl (fun _ => 0)))]) ++ [(q2, .inl (g.2 0, 64, .inl (fun _ => 0)))]) ++ [(q3, .inl (g.2 0, 64, .inl (fun _ => 0)))]) ++ [(q4, .inl (g.2 0, 6, .inl (fun _ => 0)))]) ++ [(q5, .inl (g.2 0, 6, .inl (fun _ => 0)))])) 5 204
  refine cs_aload 0 (ps_at tX4_init_ok 22 rfl) rfl rfl ?_
  refine cs_iconst (v := 2) (ps_at tX4_init_ok 23 rfl) (by decide) ?_
  refine cs_putI 0 (ps_at tX4_init_ok 24 rfl) fpX4_27 rfl (Nat.le_of_ble_eq_true rfl) ?_
  show cs_K mX4_init (d + 2) g _ _ 49 _ _ ((h0, .inr (4, [.ref q1, .ref q2, .ref q3, .ref q4, .ref q5, .int 2, .int 0])) :: ((((([] ++ [(q1, .inl (g.2 0, 64, .inl (fun _ => 0)))]) ++ [(q2, .inl (g.2 0, 64, .inl (fun _ => 0)))]) ++ [(q3, .inl (g.2 0, 64, .inl (fun _ => 0)))]) ++ [(q4, .inl (g.2 0, 6, .inl (fun _ => 0)))]) ++ [(q5, .inl (g.2 0, 6, .inl (fun _ => 0)))])) 5 204
  refine cs_vret (ps_at tX4_init_ok 25 rfl) rfl (by decide) (by decide) ?_
  exact ⟨fun f k => if f = 24 then h0 else if f = 25 then q1 else if f = 26 then q2 else if f = 27 then q3 else if f = 28 then q4 else if f = 29 then q5 else 0, rfl, rfl⟩

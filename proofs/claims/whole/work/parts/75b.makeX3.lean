/-! ===== printed by wip/whole/cons.py ===== -/
set_option maxHeartbeats 4000000 in
set_option maxRecDepth 100000 in
theorem kX3_init {d : Nat} {g : cs_G} {h0 : Nat} : cs_C mX3_init (d + 2) g [.ref h0] [(h0, .inr (3, [.null, .null, .null, .int 0]))] (cs_Post lcX3 15 g h0) := by
  refine cs_enter (by decide) rfl (Nat.le_of_ble_eq_true rfl) ?_
  refine cs_aload 0 (ps_at tX3_init_ok 0 rfl) rfl rfl ?_
  refine cs_objInit (ps_at tX3_init_ok 1 rfl) obX3_3 (Nat.zero_le _) ?_
  refine cs_aload 0 (ps_at tX3_init_ok 2 rfl) rfl rfl ?_
  refine cs_sipush (v := 4608) (ps_at tX3_init_ok 3 rfl) (by decide) ?_
  refine cs_newI (N := 4608) (ps_at tX3_init_ok 4 rfl) (by decide) (by decide) (by decide) (by decide) (by decide) (fun q1 => ?_)
  refine cs_putF 0 rfl (ps_at tX3_init_ok 5 rfl) cfX3_9 rfl (Nat.le_of_ble_eq_true rfl) ?_
  show cs_K mX3_init (d + 2) g _ _ 13 _ _ ((h0, .inr (3, [.ref q1, .null, .null, .int 0])) :: ([] ++ [(q1, .inl (g.2 0, 4608, .inl (fun _ => 0)))])) 1 4608
  refine cs_aload 0 (ps_at tX3_init_ok 6 rfl) rfl rfl ?_
  refine cs_bipush (v := 81) (ps_at tX3_init_ok 7 rfl) (by decide) ?_
  refine cs_newI (N := 81) (ps_at tX3_init_ok 8 rfl) (by decide) (by decide) (by decide) (by decide) (by decide) (fun q2 => ?_)
  refine cs_putF 0 rfl (ps_at tX3_init_ok 9 rfl) cfX3_15 rfl (Nat.le_of_ble_eq_true rfl) ?_
  show cs_K mX3_init (d + 2) g _ _ 21 _ _ ((h0, .inr (3, [.ref q1, .ref q2, .null, .int 0])) :: (([] ++ [(q1, .inl (g.2 0, 4608, .inl (fun _ => 0)))]) ++ [(q2, .inl (g.2 0, 81, .inl (fun _ => 0)))])) 2 4689
  refine cs_aload 0 (ps_at tX3_init_ok 10 rfl) rfl rfl ?_
  refine cs_bipush (v := 9) (ps_at tX3_init_ok 11 rfl) (by decide) ?_
  refine cs_newI (N := 9) (ps_at tX3_init_ok 12 rfl) (by decide) (by decide) (by decide) (by decide) (by decide) (fun q3 => ?_)
  refine cs_putF 0 rfl (ps_at tX3_init_ok 13 rfl) cfX3_18 rfl (Nat.le_of_ble_eq_true rfl) ?_
  show cs_K mX3_init (d + 2) g _ _ 29 _ _ ((h0, .inr (3, [.ref q1, .ref q2, .ref q3, .int 0])) :: ((([] ++ [(q1, .inl (g.2 0, 4608, .inl (fun _ => 0)))]) ++ [(q2, .inl (g.2 0, 81, .inl (fun _ => 0)))]) ++ [(q3, .inl (g.2 0, 9, .inl (fun _ => 0)))])) 3 4698
  refine cs_vret (ps_at tX3_init_ok 14 rfl) rfl (by decide) (by decide) ?_
  exact ⟨fun f k => if f = 15 then h0 else if f = 16 then q1 else if f = 17 then q2 else if f = 18 then q3 else 0, rfl, rfl⟩

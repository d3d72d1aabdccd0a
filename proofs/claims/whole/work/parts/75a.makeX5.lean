/-! ===== printed by wip/whole/cons.py ===== -/
set_option maxHeartbeats 4000000 in
set_option maxRecDepth 100000 in
theorem kX5_init {d : Nat} {g : cs_G} {h0 : Nat} : cs_C mX5_init (d + 2) g [.ref h0] [(h0, .inr (5, [.null, .null, .null, .int 0]))] (cs_Post lcX5 11 g h0) := by
  refine cs_enter (by decide) rfl (Nat.le_of_ble_eq_true rfl) ?_
  refine cs_aload 0 (ps_at tX5_init_ok 0 rfl) rfl rfl ?_
  refine cs_objInit (ps_at tX5_init_ok 1 rfl) obX5_3 (Nat.zero_le _) ?_
  refine cs_aload 0 (ps_at tX5_init_ok 2 rfl) rfl rfl ?_
  refine cs_sipush (v := 512) (ps_at tX5_init_ok 3 rfl) (by decide) ?_
  refine cs_newI (N := 512) (ps_at tX5_init_ok 4 rfl) (by decide) (by decide) (by decide) (by decide) (by decide) (fun q1 => ?_)
  refine cs_putF 0 rfl (ps_at tX5_init_ok 5 rfl) cfX5_9 rfl (Nat.le_of_ble_eq_true rfl) ?_
  show cs_K mX5_init (d + 2) g _ _ 13 _ _ ((h0, .inr (5, [.ref q1, .null, .null, .int 0])) :: ([] ++ [(q1, .inl (g.2 0, 512, .inl (fun _ => 0)))])) 1 512
  refine cs_aload 0 (ps_at tX5_init_ok 6 rfl) rfl rfl ?_
  refine cs_sipush (v := 512) (ps_at tX5_init_ok 7 rfl) (by decide) ?_
  refine cs_newI (N := 512) (ps_at tX5_init_ok 8 rfl) (by decide) (by decide) (by decide) (by decide) (by decide) (fun q2 => ?_)
  refine cs_putF 0 rfl (ps_at tX5_init_ok 9 rfl) cfX5_15 rfl (Nat.le_of_ble_eq_true rfl) ?_
  show cs_K mX5_init (d + 2) g _ _ 22 _ _ ((h0, .inr (5, [.ref q1, .ref q2, .null, .int 0])) :: (([] ++ [(q1, .inl (g.2 0, 512, .inl (fun _ => 0)))]) ++ [(q2, .inl (g.2 0, 512, .inl (fun _ => 0)))])) 2 1024
  refine cs_aload 0 (ps_at tX5_init_ok 10 rfl) rfl rfl ?_
  refine cs_bipush (v := 10) (ps_at tX5_init_ok 11 rfl) (by decide) ?_
  refine cs_newI (N := 10) (ps_at tX5_init_ok 12 rfl) (by decide) (by decide) (by decide) (by decide) (by decide) (fun q3 => ?_)
  refine cs_putF 0 rfl (ps_at tX5_init_ok 13 rfl) cfX5_18 rfl (Nat.le_of_ble_eq_true rfl) ?_
  show cs_K mX5_init (d + 2) g _ _ 30 _ _ ((h0, .inr (5, [.ref q1, .ref q2, .ref q3, .int 0])) :: ((([] ++ [(q1, .inl (g.2 0, 512, .inl (fun _ => 0)))]) ++ [(q2, .inl (g.2 0, 512, .inl (fun _ => 0)))]) ++ [(q3, .inl (g.2 0, 10, .inl (fun _ => 0)))])) 3 1034
  refine cs_vret (ps_at tX5_init_ok 14 rfl) rfl (by decide) (by decide) ?_
  exact ⟨fun f k => if f = 11 then h0 else if f = 12 then q1 else if f = 13 then q2 else if f = 14 then q3 else 0, rfl, rfl⟩

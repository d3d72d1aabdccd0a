/-! ===== printed by wip/whole/cons.py ===== -/
set_option maxHeartbeats 4000000 in
set_option maxRecDepth 100000 in
theorem kX6_init {d : Nat} {g : cs_G} {h0 : Nat} : cs_C mX6_init (d + 2) g [.ref h0] [(h0, .inr (6, [.null, .null, .null, .int 0]))] (cs_Post lcX6 19 g h0) := by
  refine cs_enter (by decide) rfl (Nat.le_of_ble_eq_true rfl) ?_
  refine cs_aload 0 (ps_at tX6_init_ok 0 rfl) rfl rfl ?_
  refine cs_objInit (ps_at tX6_init_ok 1 rfl) obX6_3 (Nat.zero_le _) ?_
  refine cs_aload 0 (ps_at tX6_init_ok 2 rfl) rfl rfl ?_
  refine cs_bipush (v := 16) (ps_at tX6_init_ok 3 rfl) (by decide) ?_
  refine cs_bipush (v := 6) (ps_at tX6_init_ok 4 rfl) (by decide) ?_
  refine cs_mna (N := 16) (K := 6) (ps_at tX6_init_ok 5 rfl) cqX6_9 (by decide) (by decide) (by decide) (by decide) (by decide) (by decide) (by decide) (by decide) (fun q1 r1 => ?_)
  refine cs_putF 0 rfl (ps_at tX6_init_ok 6 rfl) cfX6_11 rfl (Nat.le_of_ble_eq_true rfl) ?_
  show cs_K mX6_init (d + 2) g _ _ 16 _ _ ((h0, .inr (6, [.ref q1, .null, .null, .int 0])) :: (([] ++ [(q1, .inl (g.2 2, 16, .inr (.inr (.inr (.inr (cs_rf 16 r1))))))]) ++ cs_rows g 16 6 r1 (fun _ _ => 0))) 17 112
  refine cs_aload 0 (ps_at tX6_init_ok 7 rfl) rfl rfl ?_
  refine cs_bipush (v := 6) (ps_at tX6_init_ok 8 rfl) (by decide) ?_
  refine cs_newI (N := 6) (ps_at tX6_init_ok 9 rfl) (by decide) (by decide) (by decide) (by decide) (by decide) (fun q2 => ?_)
  refine cs_putF 0 rfl (ps_at tX6_init_ok 10 rfl) cfX6_16 rfl (Nat.le_of_ble_eq_true rfl) ?_
  show cs_K mX6_init (d + 2) g _ _ 24 _ _ ((h0, .inr (6, [.ref q1, .ref q2, .null, .int 0])) :: ((([] ++ [(q1, .inl (g.2 2, 16, .inr (.inr (.inr (.inr (cs_rf 16 r1))))))]) ++ cs_rows g 16 6 r1 (fun _ _ => 0)) ++ [(q2, .inl (g.2 0, 6, .inl (fun _ => 0)))])) 18 118
  refine cs_aload 0 (ps_at tX6_init_ok 11 rfl) rfl rfl ?_
  refine cs_bipush (v := 6) (ps_at tX6_init_ok 12 rfl) (by decide) ?_
  refine cs_newI (N := 6) (ps_at tX6_init_ok 13 rfl) (by decide) (by decide) (by decide) (by decide) (by decide) (fun q3 => ?_)
  refine cs_putF 0 rfl (ps_at tX6_init_ok 14 rfl) cfX6_20 rfl (Nat.le_of_ble_eq_true rfl) ?_
  show cs_K mX6_init (d + 2) g _ _ 32 _ _ ((h0, .inr (6, [.ref q1, .ref q2, .ref q3, .int 0])) :: (((([] ++ [(q1, .inl (g.2 2, 16, .inr (.inr (.inr (.inr (cs_rf 16 r1))))))]) ++ cs_rows g 16 6 r1 (fun _ _ => 0)) ++ [(q2, .inl (g.2 0, 6, .inl (fun _ => 0)))]) ++ [(q3, .inl (g.2 0, 6, .inl (fun _ => 0)))])) 19 124
  refine cs_iconst (v := 0) (ps_at tX6_init_ok 15 rfl) (by decide) ?_
  refine cs_istore (L' := [(1, .int 0), (0, .ref h0)]) (ps_at tX6_init_ok 16 rfl) rfl (by decide) rfl ?_
  have hw : (((h0, .inr (6, [.ref q1, .ref q2, .ref q3, .int 0])) :: (((([] ++ [(q1, .inl (g.2 2, 16, .inr (.inr (.inr (.inr (cs_rf 16 r1))))))]) ++ cs_rows g 16 6 r1 (fun _ _ => 0)) ++ [(q2, .inl (g.2 0, 6, .inl (fun _ => 0)))]) ++ [(q3, .inl (g.2 0, 6, .inl (fun _ => 0)))])) : va_W) = ((([(h0, .inr (6, [.ref q1, .ref q2, .ref q3, .int 0]))] ++ [(q1, .inl (g.2 2, 16, .inr (.inr (.inr (.inr (cs_rf 16 r1))))))]) ++ cs_rows g 16 6 r1 (cs_fj 6 (-900009) 0)) ++ ([(q2, .inl (g.2 0, 6, .inl (fun _ => 0)))] ++ [(q3, .inl (g.2 0, 6, .inl (fun _ => 0)))])) := by rw [cs_fj0]; simp only [List.nil_append, List.cons_append, List.append_assoc, List.append_nil]
  rw [hw]
  refine cs_fillLoop (M := mX6_init) (d := d + 1) (g := g) (cells := 19) (slots := 124) (hp := 34) (pl := 2) (N := 16) (K := 6) (end_ := 57) (po := 1) (P := ([(h0, .inr (6, [.ref q1, .ref q2, .ref q3, .int 0]))] ++ [(q1, .inl (g.2 2, 16, .inr (.inr (.inr (.inr (cs_rf 16 r1))))))])) (S := ([(q2, .inl (g.2 0, 6, .inl (fun _ => 0)))] ++ [(q3, .inl (g.2 0, 6, .inl (fun _ => 0)))])) (by decide) (by decide) (by decide) (ps_at tX6_init_ok 17 rfl) (fun L st ws k => cs_bipush (v := nI 16) (ps_at tX6_init_ok 18 rfl) (by decide) k) (ps_at tX6_init_ok 19 rfl) (by decide) (ps_at tX6_init_ok 20 rfl) (ps_at tX6_init_ok 21 rfl) flX6_11 (ps_at tX6_init_ok 22 rfl) (ps_at tX6_init_ok 23 rfl) (ps_at tX6_init_ok 24 rfl) cnX6_23 (ps_at tX6_init_ok 25 rfl) csX6_24 (ps_at tX6_init_ok 26 rfl) (ps_at tX6_init_ok 27 rfl) (by decide) (by decide) (by decide) rfl rfl rfl ?_ 16 0 rfl
  rw [cs_rows_full]
  refine cs_vret (ps_at tX6_init_ok 28 rfl) rfl (by decide) (by decide) ?_
  refine ⟨fun f k => if f = 19 then h0 else if f = 20 then q1 else if f = 21 then r1 k else if f = 22 then q2 else if f = 23 then q3 else 0, rfl, ?_⟩
  simp only [cs_blk, lcX6, List.map_append, List.map_cons, List.map_nil, List.map_map, Function.comp_def, cs_eR sh_20] <;> rfl

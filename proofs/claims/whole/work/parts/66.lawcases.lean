/-! ===== printed by wip/whole/law.py: the cases of the law's switch ===== -/
section LC
variable {n : Nat} {xs : Nat → Int32} {d : Nat} {F : ps_F} {σ : ps_S} {i : Nat}
-- read
theorem lw_d0 : okL [(196, .aload_n 1, 1), (217, .invokevirtual 13, 3), (220, .aload_n 2, 1), (241, .invokevirtual 17, 3), (244, .if_icmp .eq 1165, 3)] := by unfold okL; decide +kernel
theorem lw_u0 : okL (argsL 197 1 4) := by unfold okL; decide +kernel
theorem lw_v0 : okL (argsL 221 1 4) := by unfold okL; decide +kernel
theorem lw_c0 (hn : n ≤ 2560) (hi : i + 5 ≤ n) (k : prD mX7_read mX8_read d (avL xs i 1 4) σ (fun ρ => ps_K (mL n xs) (d + 31) F 1409 (LwL i) [] ρ)) : ps_K (mL n xs) (d + 31) F 196 (LwL i) [] σ :=
  lw_case (a := 4) (av := (avL xs i 1 4)) (p1 := 217) (p2 := 241) rfl lw_d0 (by decide) cvL_13 cvL_17 (fun st σ k => lw_args hn 4 197 1 st σ lw_u0 (by decide) (by omega) k) (fun st σ k => lw_args hn 4 221 1 st σ lw_v0 (by decide) (by omega) k) k
-- agree
theorem lw_d1 : okL [(249, .aload_n 1, 1), (265, .invokevirtual 18, 3), (268, .aload_n 2, 1), (284, .invokevirtual 22, 3), (287, .if_icmp .eq 1122, 3)] := by unfold okL; decide +kernel
theorem lw_u1 : okL (argsL 250 1 3) := by unfold okL; decide +kernel
theorem lw_v1 : okL (argsL 269 1 3) := by unfold okL; decide +kernel
theorem lw_c1 (hn : n ≤ 2560) (hi : i + 5 ≤ n) (k : prD mX7_agree mX8_agree d (avL xs i 1 3) σ (fun ρ => ps_K (mL n xs) (d + 31) F 1409 (LwL i) [] ρ)) : ps_K (mL n xs) (d + 31) F 249 (LwL i) [] σ :=
  lw_case (a := 3) (av := (avL xs i 1 3)) (p1 := 265) (p2 := 284) rfl lw_d1 (by decide) cvL_18 cvL_22 (fun st σ k => lw_args hn 3 250 1 st σ lw_u1 (by decide) (by omega) k) (fun st σ k => lw_args hn 3 269 1 st σ lw_v1 (by decide) (by omega) k) k
-- states
theorem lw_d2 : okL [(292, .aload_n 1, 1), (298, .invokevirtual 23, 3), (301, .aload_n 2, 1), (307, .invokevirtual 27, 3), (310, .if_icmp .eq 1099, 3)] := by unfold okL; decide +kernel
theorem lw_u2 : okL (argsL 293 1 1) := by unfold okL; decide +kernel
theorem lw_v2 : okL (argsL 302 1 1) := by unfold okL; decide +kernel
theorem lw_c2 (hn : n ≤ 2560) (hi : i + 5 ≤ n) (k : prD mX7_states mX8_states d (avL xs i 1 1) σ (fun ρ => ps_K (mL n xs) (d + 31) F 1409 (LwL i) [] ρ)) : ps_K (mL n xs) (d + 31) F 292 (LwL i) [] σ :=
  lw_case (a := 1) (av := (avL xs i 1 1)) (p1 := 298) (p2 := 307) rfl lw_d2 (by decide) cvL_23 cvL_27 (fun st σ k => lw_args hn 1 293 1 st σ lw_u2 (by decide) (by omega) k) (fun st σ k => lw_args hn 1 302 1 st σ lw_v2 (by decide) (by omega) k) k
-- state
theorem lw_d3 : okL [(315, .aload_n 1, 1), (326, .invokevirtual 28, 3), (329, .aload_n 2, 1), (340, .invokevirtual 32, 3), (343, .if_icmp .eq 1066, 3)] := by unfold okL; decide +kernel
theorem lw_u3 : okL (argsL 316 1 2) := by unfold okL; decide +kernel
theorem lw_v3 : okL (argsL 330 1 2) := by unfold okL; decide +kernel
theorem lw_c3 (hn : n ≤ 2560) (hi : i + 5 ≤ n) (k : prD mX7_state mX8_state d (avL xs i 1 2) σ (fun ρ => ps_K (mL n xs) (d + 31) F 1409 (LwL i) [] ρ)) : ps_K (mL n xs) (d + 31) F 315 (LwL i) [] σ :=
  lw_case (a := 2) (av := (avL xs i 1 2)) (p1 := 326) (p2 := 340) rfl lw_d3 (by decide) cvL_28 cvL_32 (fun st σ k => lw_args hn 2 316 1 st σ lw_u3 (by decide) (by omega) k) (fun st σ k => lw_args hn 2 330 1 st σ lw_v3 (by decide) (by omega) k) k
-- letter
theorem lw_d4 : okL [(348, .aload_n 1, 1), (364, .invokevirtual 33, 3), (367, .aload_n 2, 1), (383, .invokevirtual 36, 3), (386, .if_icmp .eq 1023, 3)] := by unfold okL; decide +kernel
theorem lw_u4 : okL (argsL 349 1 3) := by unfold okL; decide +kernel
theorem lw_v4 : okL (argsL 368 1 3) := by unfold okL; decide +kernel
theorem lw_c4 (hn : n ≤ 2560) (hi : i + 5 ≤ n) (k : prD mX7_letter mX8_letter d (avL xs i 1 3) σ (fun ρ => ps_K (mL n xs) (d + 31) F 1409 (LwL i) [] ρ)) : ps_K (mL n xs) (d + 31) F 348 (LwL i) [] σ :=
  lw_case (a := 3) (av := (avL xs i 1 3)) (p1 := 364) (p2 := 383) rfl lw_d4 (by decide) cvL_33 cvL_36 (fun st σ k => lw_args hn 3 349 1 st σ lw_u4 (by decide) (by omega) k) (fun st σ k => lw_args hn 3 368 1 st σ lw_v4 (by decide) (by omega) k) k
-- slips
theorem lw_d5 : okL [(391, .aload_n 1, 1), (402, .invokevirtual 37, 3), (405, .aload_n 2, 1), (416, .invokevirtual 40, 3), (419, .if_icmp .eq 990, 3)] := by unfold okL; decide +kernel
theorem lw_u5 : okL (argsL 392 1 2) := by unfold okL; decide +kernel
theorem lw_v5 : okL (argsL 406 1 2) := by unfold okL; decide +kernel
theorem lw_c5 (hn : n ≤ 2560) (hi : i + 5 ≤ n) (k : prD mX7_slips mX8_slips d (avL xs i 1 2) σ (fun ρ => ps_K (mL n xs) (d + 31) F 1409 (LwL i) [] ρ)) : ps_K (mL n xs) (d + 31) F 391 (LwL i) [] σ :=
  lw_case (a := 2) (av := (avL xs i 1 2)) (p1 := 402) (p2 := 416) rfl lw_d5 (by decide) cvL_37 cvL_40 (fun st σ k => lw_args hn 2 392 1 st σ lw_u5 (by decide) (by omega) k) (fun st σ k => lw_args hn 2 406 1 st σ lw_v5 (by decide) (by omega) k) k
-- ahead
theorem lw_d6 : okL [(424, .aload_n 1, 1), (453, .invokevirtual 41, 3), (456, .aload_n 2, 1), (485, .invokevirtual 45, 3), (488, .if_icmp .eq 921, 3)] := by unfold okL; decide +kernel
theorem lw_u6 : okL (argsL 425 1 4) := by unfold okL; decide +kernel
theorem lw_v6 : okL (argsL 457 1 4) := by unfold okL; decide +kernel
theorem lw_x6 : okL (boolL 445) := by unfold okL; decide +kernel
theorem lw_y6 : okL (boolL 477) := by unfold okL; decide +kernel
theorem lw_c6 (hn : n ≤ 2560) (hi : i + 5 ≤ n) (k : prD mX7_ahead mX8_ahead d (avL xs i 1 3 ++ [(.inl (bz (xs (i + 4))) : ps_V)]) σ (fun ρ => ps_K (mL n xs) (d + 31) F 1409 (LwL i) [] ρ)) : ps_K (mL n xs) (d + 31) F 424 (LwL i) [] σ :=
  lw_case (a := 4) (av := (avL xs i 1 3 ++ [(.inl (bz (xs (i + 4))) : ps_V)])) (p1 := 453) (p2 := 485) rfl lw_d6 (by decide) cvL_41 cvL_45 (fun st σ k => lw_argsB hn lw_u6 lw_x6 (by decide) (by omega) k) (fun st σ k => lw_argsB hn lw_v6 lw_y6 (by decide) (by omega) k) k
-- changes
theorem lw_d7 : okL [(493, .aload_n 1, 1), (509, .invokevirtual 46, 3), (512, .aload_n 2, 1), (528, .invokevirtual 49, 3), (531, .if_icmp .eq 878, 3)] := by unfold okL; decide +kernel
theorem lw_u7 : okL (argsL 494 1 3) := by unfold okL; decide +kernel
theorem lw_v7 : okL (argsL 513 1 3) := by unfold okL; decide +kernel
theorem lw_c7 (hn : n ≤ 2560) (hi : i + 5 ≤ n) (k : prD mX7_changes mX8_changes d (avL xs i 1 3) σ (fun ρ => ps_K (mL n xs) (d + 31) F 1409 (LwL i) [] ρ)) : ps_K (mL n xs) (d + 31) F 493 (LwL i) [] σ :=
  lw_case (a := 3) (av := (avL xs i 1 3)) (p1 := 509) (p2 := 528) rfl lw_d7 (by decide) cvL_46 cvL_49 (fun st σ k => lw_args hn 3 494 1 st σ lw_u7 (by decide) (by omega) k) (fun st σ k => lw_args hn 3 513 1 st σ lw_v7 (by decide) (by omega) k) k
-- least
theorem lw_d8 : okL [(536, .aload_n 1, 1), (542, .invokevirtual 50, 3), (545, .aload_n 2, 1), (551, .invokevirtual 53, 3), (554, .if_icmp .eq 855, 3)] := by unfold okL; decide +kernel
theorem lw_u8 : okL (argsL 537 1 1) := by unfold okL; decide +kernel
theorem lw_v8 : okL (argsL 546 1 1) := by unfold okL; decide +kernel
theorem lw_c8 (hn : n ≤ 2560) (hi : i + 5 ≤ n) (k : prD mX7_least mX8_least d (avL xs i 1 1) σ (fun ρ => ps_K (mL n xs) (d + 31) F 1409 (LwL i) [] ρ)) : ps_K (mL n xs) (d + 31) F 536 (LwL i) [] σ :=
  lw_case (a := 1) (av := (avL xs i 1 1)) (p1 := 542) (p2 := 551) rfl lw_d8 (by decide) cvL_50 cvL_53 (fun st σ k => lw_args hn 1 537 1 st σ lw_u8 (by decide) (by omega) k) (fun st σ k => lw_args hn 1 546 1 st σ lw_v8 (by decide) (by omega) k) k
-- orders
theorem lw_d9 : okL [(559, .aload_n 1, 1), (565, .invokevirtual 54, 3), (568, .aload_n 2, 1), (574, .invokevirtual 57, 3), (577, .if_icmp .eq 832, 3)] := by unfold okL; decide +kernel
theorem lw_u9 : okL (argsL 560 1 1) := by unfold okL; decide +kernel
theorem lw_v9 : okL (argsL 569 1 1) := by unfold okL; decide +kernel
theorem lw_c9 (hn : n ≤ 2560) (hi : i + 5 ≤ n) (k : prD mX7_orders mX8_orders d (avL xs i 1 1) σ (fun ρ => ps_K (mL n xs) (d + 31) F 1409 (LwL i) [] ρ)) : ps_K (mL n xs) (d + 31) F 559 (LwL i) [] σ :=
  lw_case (a := 1) (av := (avL xs i 1 1)) (p1 := 565) (p2 := 574) rfl lw_d9 (by decide) cvL_54 cvL_57 (fun st σ k => lw_args hn 1 560 1 st σ lw_u9 (by decide) (by omega) k) (fun st σ k => lw_args hn 1 569 1 st σ lw_v9 (by decide) (by omega) k) k
-- first
theorem lw_d10 : okL [(582, .aload_n 1, 1), (593, .invokevirtual 58, 3), (596, .aload_n 2, 1), (607, .invokevirtual 61, 3), (610, .if_icmp .eq 799, 3)] := by unfold okL; decide +kernel
theorem lw_u10 : okL (argsL 583 1 2) := by unfold okL; decide +kernel
theorem lw_v10 : okL (argsL 597 1 2) := by unfold okL; decide +kernel
theorem lw_c10 (hn : n ≤ 2560) (hi : i + 5 ≤ n) (k : prD mX7_first mX8_first d (avL xs i 1 2) σ (fun ρ => ps_K (mL n xs) (d + 31) F 1409 (LwL i) [] ρ)) : ps_K (mL n xs) (d + 31) F 582 (LwL i) [] σ :=
  lw_case (a := 2) (av := (avL xs i 1 2)) (p1 := 593) (p2 := 607) rfl lw_d10 (by decide) cvL_58 cvL_61 (fun st σ k => lw_args hn 2 583 1 st σ lw_u10 (by decide) (by omega) k) (fun st σ k => lw_args hn 2 597 1 st σ lw_v10 (by decide) (by omega) k) k
-- before
theorem lw_d11 : okL [(615, .aload_n 1, 1), (631, .invokevirtual 62, 3), (634, .aload_n 2, 1), (650, .invokevirtual 65, 3), (653, .if_icmp .eq 756, 3)] := by unfold okL; decide +kernel
theorem lw_u11 : okL (argsL 616 1 3) := by unfold okL; decide +kernel
theorem lw_v11 : okL (argsL 635 1 3) := by unfold okL; decide +kernel
theorem lw_c11 (hn : n ≤ 2560) (hi : i + 5 ≤ n) (k : prD mX7_before mX8_before d (avL xs i 1 3) σ (fun ρ => ps_K (mL n xs) (d + 31) F 1409 (LwL i) [] ρ)) : ps_K (mL n xs) (d + 31) F 615 (LwL i) [] σ :=
  lw_case (a := 3) (av := (avL xs i 1 3)) (p1 := 631) (p2 := 650) rfl lw_d11 (by decide) cvL_62 cvL_65 (fun st σ k => lw_args hn 3 616 1 st σ lw_u11 (by decide) (by omega) k) (fun st σ k => lw_args hn 3 635 1 st σ lw_v11 (by decide) (by omega) k) k
-- piece
theorem lw_d12 : okL [(658, .aload_n 1, 1), (674, .invokevirtual 66, 3), (677, .aload_n 2, 1), (693, .invokevirtual 69, 3), (696, .if_icmp .eq 713, 3)] := by unfold okL; decide +kernel
theorem lw_u12 : okL (argsL 659 1 3) := by unfold okL; decide +kernel
theorem lw_v12 : okL (argsL 678 1 3) := by unfold okL; decide +kernel
theorem lw_c12 (hn : n ≤ 2560) (hi : i + 5 ≤ n) (k : prD mX7_piece mX8_piece d (avL xs i 1 3) σ (fun ρ => ps_K (mL n xs) (d + 31) F 1409 (LwL i) [] ρ)) : ps_K (mL n xs) (d + 31) F 658 (LwL i) [] σ :=
  lw_case (a := 3) (av := (avL xs i 1 3)) (p1 := 674) (p2 := 693) rfl lw_d12 (by decide) cvL_66 cvL_69 (fun st σ k => lw_args hn 3 659 1 st σ lw_u12 (by decide) (by omega) k) (fun st σ k => lw_args hn 3 678 1 st σ lw_v12 (by decide) (by omega) k) k
-- share
theorem lw_d13 : okL [(701, .aload_n 1, 1), (712, .invokevirtual 70, 3), (715, .aload_n 2, 1), (726, .invokevirtual 73, 3), (729, .if_icmp .eq 680, 3)] := by unfold okL; decide +kernel
theorem lw_u13 : okL (argsL 702 1 2) := by unfold okL; decide +kernel
theorem lw_v13 : okL (argsL 716 1 2) := by unfold okL; decide +kernel
theorem lw_c13 (hn : n ≤ 2560) (hi : i + 5 ≤ n) (k : prD mX7_share mX8_share d (avL xs i 1 2) σ (fun ρ => ps_K (mL n xs) (d + 31) F 1409 (LwL i) [] ρ)) : ps_K (mL n xs) (d + 31) F 701 (LwL i) [] σ :=
  lw_case (a := 2) (av := (avL xs i 1 2)) (p1 := 712) (p2 := 726) rfl lw_d13 (by decide) cvL_70 cvL_73 (fun st σ k => lw_args hn 2 702 1 st σ lw_u13 (by decide) (by omega) k) (fun st σ k => lw_args hn 2 716 1 st σ lw_v13 (by decide) (by omega) k) k
-- must
theorem lw_d14 : okL [(734, .aload_n 1, 1), (745, .invokevirtual 74, 3), (748, .aload_n 2, 1), (759, .invokevirtual 77, 3), (762, .if_icmp .eq 647, 3)] := by unfold okL; decide +kernel
theorem lw_u14 : okL (argsL 735 1 2) := by unfold okL; decide +kernel
theorem lw_v14 : okL (argsL 749 1 2) := by unfold okL; decide +kernel
theorem lw_c14 (hn : n ≤ 2560) (hi : i + 5 ≤ n) (k : prD mX7_must mX8_must d (avL xs i 1 2) σ (fun ρ => ps_K (mL n xs) (d + 31) F 1409 (LwL i) [] ρ)) : ps_K (mL n xs) (d + 31) F 734 (LwL i) [] σ :=
  lw_case (a := 2) (av := (avL xs i 1 2)) (p1 := 745) (p2 := 759) rfl lw_d14 (by decide) cvL_74 cvL_77 (fun st σ k => lw_args hn 2 735 1 st σ lw_u14 (by decide) (by omega) k) (fun st σ k => lw_args hn 2 749 1 st σ lw_v14 (by decide) (by omega) k) k
-- ring
theorem lw_d15 : okL [(767, .aload_n 1, 1), (768, .invokevirtual 78, 3), (771, .aload_n 2, 1), (772, .invokevirtual 82, 3), (775, .if_icmp .eq 634, 3)] := by unfold okL; decide +kernel
theorem lw_c15 (hn : n ≤ 2560) (hi : i + 5 ≤ n) (k : prD mX7_ring mX8_ring d [] σ (fun ρ => ps_K (mL n xs) (d + 31) F 1409 (LwL i) [] ρ)) : ps_K (mL n xs) (d + 31) F 767 (LwL i) [] σ :=
  lw_case (a := 0) (av := []) (p1 := 768) (p2 := 772) rfl lw_d15 (by decide) cvL_78 cvL_82 (fun _ _ k => k) (fun _ _ k => k) k
-- presses
theorem lw_d16 : okL [(780, .aload_n 1, 1), (786, .invokevirtual 83, 3), (789, .aload_n 2, 1), (795, .invokevirtual 86, 3), (798, .if_icmp .eq 611, 3)] := by unfold okL; decide +kernel
theorem lw_u16 : okL (argsL 781 1 1) := by unfold okL; decide +kernel
theorem lw_v16 : okL (argsL 790 1 1) := by unfold okL; decide +kernel
theorem lw_c16 (hn : n ≤ 2560) (hi : i + 5 ≤ n) (k : prD mX7_presses mX8_presses d (avL xs i 1 1) σ (fun ρ => ps_K (mL n xs) (d + 31) F 1409 (LwL i) [] ρ)) : ps_K (mL n xs) (d + 31) F 780 (LwL i) [] σ :=
  lw_case (a := 1) (av := (avL xs i 1 1)) (p1 := 786) (p2 := 795) rfl lw_d16 (by decide) cvL_83 cvL_86 (fun st σ k => lw_args hn 1 781 1 st σ lw_u16 (by decide) (by omega) k) (fun st σ k => lw_args hn 1 790 1 st σ lw_v16 (by decide) (by omega) k) k
-- plans
theorem lw_d17 : okL [(803, .aload_n 1, 1), (809, .invokevirtual 87, 3), (812, .aload_n 2, 1), (818, .invokevirtual 90, 3), (821, .if_icmp .eq 588, 3)] := by unfold okL; decide +kernel
theorem lw_u17 : okL (argsL 804 1 1) := by unfold okL; decide +kernel
theorem lw_v17 : okL (argsL 813 1 1) := by unfold okL; decide +kernel
theorem lw_c17 (hn : n ≤ 2560) (hi : i + 5 ≤ n) (k : prD mX7_plans mX8_plans d (avL xs i 1 1) σ (fun ρ => ps_K (mL n xs) (d + 31) F 1409 (LwL i) [] ρ)) : ps_K (mL n xs) (d + 31) F 803 (LwL i) [] σ :=
  lw_case (a := 1) (av := (avL xs i 1 1)) (p1 := 809) (p2 := 818) rfl lw_d17 (by decide) cvL_87 cvL_90 (fun st σ k => lw_args hn 1 804 1 st σ lw_u17 (by decide) (by omega) k) (fun st σ k => lw_args hn 1 813 1 st σ lw_v17 (by decide) (by omega) k) k
-- day
theorem lw_d18 : okL [(826, .aload_n 1, 1), (837, .invokevirtual 91, 3), (840, .aload_n 2, 1), (851, .invokevirtual 94, 3), (854, .if_icmp .eq 555, 3)] := by unfold okL; decide +kernel
theorem lw_u18 : okL (argsL 827 1 2) := by unfold okL; decide +kernel
theorem lw_v18 : okL (argsL 841 1 2) := by unfold okL; decide +kernel
theorem lw_c18 (hn : n ≤ 2560) (hi : i + 5 ≤ n) (k : prD mX7_day mX8_day d (avL xs i 1 2) σ (fun ρ => ps_K (mL n xs) (d + 31) F 1409 (LwL i) [] ρ)) : ps_K (mL n xs) (d + 31) F 826 (LwL i) [] σ :=
  lw_case (a := 2) (av := (avL xs i 1 2)) (p1 := 837) (p2 := 851) rfl lw_d18 (by decide) cvL_91 cvL_94 (fun st σ k => lw_args hn 2 827 1 st σ lw_u18 (by decide) (by omega) k) (fun st σ k => lw_args hn 2 841 1 st σ lw_v18 (by decide) (by omega) k) k
-- beside
theorem lw_d19 : okL [(859, .aload_n 1, 1), (875, .invokevirtual 95, 3), (878, .aload_n 2, 1), (894, .invokevirtual 98, 3), (897, .if_icmp .eq 512, 3)] := by unfold okL; decide +kernel
theorem lw_u19 : okL (argsL 860 1 3) := by unfold okL; decide +kernel
theorem lw_v19 : okL (argsL 879 1 3) := by unfold okL; decide +kernel
theorem lw_c19 (hn : n ≤ 2560) (hi : i + 5 ≤ n) (k : prD mX7_beside mX8_beside d (avL xs i 1 3) σ (fun ρ => ps_K (mL n xs) (d + 31) F 1409 (LwL i) [] ρ)) : ps_K (mL n xs) (d + 31) F 859 (LwL i) [] σ :=
  lw_case (a := 3) (av := (avL xs i 1 3)) (p1 := 875) (p2 := 894) rfl lw_d19 (by decide) cvL_95 cvL_98 (fun st σ k => lw_args hn 3 860 1 st σ lw_u19 (by decide) (by omega) k) (fun st σ k => lw_args hn 3 879 1 st σ lw_v19 (by decide) (by omega) k) k
-- fewest
theorem lw_d20 : okL [(902, .aload_n 1, 1), (903, .invokevirtual 99, 3), (906, .aload_n 2, 1), (907, .invokevirtual 102, 3), (910, .if_icmp .eq 499, 3)] := by unfold okL; decide +kernel
theorem lw_c20 (hn : n ≤ 2560) (hi : i + 5 ≤ n) (k : prD mX7_fewest mX8_fewest d [] σ (fun ρ => ps_K (mL n xs) (d + 31) F 1409 (LwL i) [] ρ)) : ps_K (mL n xs) (d + 31) F 902 (LwL i) [] σ :=
  lw_case (a := 0) (av := []) (p1 := 903) (p2 := 907) rfl lw_d20 (by decide) cvL_99 cvL_102 (fun _ _ k => k) (fun _ _ k => k) k
-- sheet
theorem lw_d21 : okL [(915, .aload_n 1, 1), (926, .invokevirtual 103, 3), (929, .aload_n 2, 1), (940, .invokevirtual 106, 3), (943, .if_icmp .eq 466, 3)] := by unfold okL; decide +kernel
theorem lw_u21 : okL (argsL 916 1 2) := by unfold okL; decide +kernel
theorem lw_v21 : okL (argsL 930 1 2) := by unfold okL; decide +kernel
theorem lw_c21 (hn : n ≤ 2560) (hi : i + 5 ≤ n) (k : prD mX7_sheet mX8_sheet d (avL xs i 1 2) σ (fun ρ => ps_K (mL n xs) (d + 31) F 1409 (LwL i) [] ρ)) : ps_K (mL n xs) (d + 31) F 915 (LwL i) [] σ :=
  lw_case (a := 2) (av := (avL xs i 1 2)) (p1 := 926) (p2 := 940) rfl lw_d21 (by decide) cvL_103 cvL_106 (fun st σ k => lw_args hn 2 916 1 st σ lw_u21 (by decide) (by omega) k) (fun st σ k => lw_args hn 2 930 1 st σ lw_v21 (by decide) (by omega) k) k
-- size
theorem lw_d22 : okL [(948, .aload_n 1, 1), (954, .invokevirtual 107, 3), (957, .aload_n 2, 1), (963, .invokevirtual 110, 3), (966, .if_icmp .eq 443, 3)] := by unfold okL; decide +kernel
theorem lw_u22 : okL (argsL 949 1 1) := by unfold okL; decide +kernel
theorem lw_v22 : okL (argsL 958 1 1) := by unfold okL; decide +kernel
theorem lw_c22 (hn : n ≤ 2560) (hi : i + 5 ≤ n) (k : prD mX7_size mX8_size d (avL xs i 1 1) σ (fun ρ => ps_K (mL n xs) (d + 31) F 1409 (LwL i) [] ρ)) : ps_K (mL n xs) (d + 31) F 948 (LwL i) [] σ :=
  lw_case (a := 1) (av := (avL xs i 1 1)) (p1 := 954) (p2 := 963) rfl lw_d22 (by decide) cvL_107 cvL_110 (fun st σ k => lw_args hn 1 949 1 st σ lw_u22 (by decide) (by omega) k) (fun st σ k => lw_args hn 1 958 1 st σ lw_v22 (by decide) (by omega) k) k
-- seen
theorem lw_d23 : okL [(971, .aload_n 1, 1), (987, .invokevirtual 111, 3), (990, .aload_n 2, 1), (1006, .invokevirtual 114, 3), (1009, .if_icmp .eq 400, 3)] := by unfold okL; decide +kernel
theorem lw_u23 : okL (argsL 972 1 3) := by unfold okL; decide +kernel
theorem lw_v23 : okL (argsL 991 1 3) := by unfold okL; decide +kernel
theorem lw_c23 (hn : n ≤ 2560) (hi : i + 5 ≤ n) (k : prD mX7_seen mX8_seen d (avL xs i 1 3) σ (fun ρ => ps_K (mL n xs) (d + 31) F 1409 (LwL i) [] ρ)) : ps_K (mL n xs) (d + 31) F 971 (LwL i) [] σ :=
  lw_case (a := 3) (av := (avL xs i 1 3)) (p1 := 987) (p2 := 1006) rfl lw_d23 (by decide) cvL_111 cvL_114 (fun st σ k => lw_args hn 3 972 1 st σ lw_u23 (by decide) (by omega) k) (fun st σ k => lw_args hn 3 991 1 st σ lw_v23 (by decide) (by omega) k) k
-- turns
theorem lw_d24 : okL [(1014, .aload_n 1, 1), (1020, .invokevirtual 115, 3), (1023, .aload_n 2, 1), (1029, .invokevirtual 118, 3), (1032, .if_icmp .eq 377, 3)] := by unfold okL; decide +kernel
theorem lw_u24 : okL (argsL 1015 1 1) := by unfold okL; decide +kernel
theorem lw_v24 : okL (argsL 1024 1 1) := by unfold okL; decide +kernel
theorem lw_c24 (hn : n ≤ 2560) (hi : i + 5 ≤ n) (k : prD mX7_turns mX8_turns d (avL xs i 1 1) σ (fun ρ => ps_K (mL n xs) (d + 31) F 1409 (LwL i) [] ρ)) : ps_K (mL n xs) (d + 31) F 1014 (LwL i) [] σ :=
  lw_case (a := 1) (av := (avL xs i 1 1)) (p1 := 1020) (p2 := 1029) rfl lw_d24 (by decide) cvL_115 cvL_118 (fun st σ k => lw_args hn 1 1015 1 st σ lw_u24 (by decide) (by omega) k) (fun st σ k => lw_args hn 1 1024 1 st σ lw_v24 (by decide) (by omega) k) k
-- turned
theorem lw_d25 : okL [(1037, .aload_n 1, 1), (1048, .invokevirtual 119, 3), (1051, .aload_n 2, 1), (1062, .invokevirtual 122, 3), (1065, .if_icmp .eq 344, 3)] := by unfold okL; decide +kernel
theorem lw_u25 : okL (argsL 1038 1 2) := by unfold okL; decide +kernel
theorem lw_v25 : okL (argsL 1052 1 2) := by unfold okL; decide +kernel
theorem lw_c25 (hn : n ≤ 2560) (hi : i + 5 ≤ n) (k : prD mX7_turned mX8_turned d (avL xs i 1 2) σ (fun ρ => ps_K (mL n xs) (d + 31) F 1409 (LwL i) [] ρ)) : ps_K (mL n xs) (d + 31) F 1037 (LwL i) [] σ :=
  lw_case (a := 2) (av := (avL xs i 1 2)) (p1 := 1048) (p2 := 1062) rfl lw_d25 (by decide) cvL_119 cvL_122 (fun st σ k => lw_args hn 2 1038 1 st σ lw_u25 (by decide) (by omega) k) (fun st σ k => lw_args hn 2 1052 1 st σ lw_v25 (by decide) (by omega) k) k
-- bound
theorem lw_d26 : okL [(1070, .aload_n 1, 1), (1094, .invokevirtual 123, 3), (1097, .aload_n 2, 1), (1121, .invokevirtual 127, 3), (1124, .if_icmp .eq 285, 3)] := by unfold okL; decide +kernel
theorem lw_u26 : okL (argsL 1071 1 3) := by unfold okL; decide +kernel
theorem lw_v26 : okL (argsL 1098 1 3) := by unfold okL; decide +kernel
theorem lw_x26 : okL (boolL 1086) := by unfold okL; decide +kernel
theorem lw_y26 : okL (boolL 1113) := by unfold okL; decide +kernel
theorem lw_c26 (hn : n ≤ 2560) (hi : i + 5 ≤ n) (k : prD mX7_bound mX8_bound d (avL xs i 1 2 ++ [(.inl (bz (xs (i + 3))) : ps_V)]) σ (fun ρ => ps_K (mL n xs) (d + 31) F 1409 (LwL i) [] ρ)) : ps_K (mL n xs) (d + 31) F 1070 (LwL i) [] σ :=
  lw_case (a := 3) (av := (avL xs i 1 2 ++ [(.inl (bz (xs (i + 3))) : ps_V)])) (p1 := 1094) (p2 := 1121) rfl lw_d26 (by decide) cvL_123 cvL_127 (fun st σ k => lw_argsB hn lw_u26 lw_x26 (by decide) (by omega) k) (fun st σ k => lw_argsB hn lw_v26 lw_y26 (by decide) (by omega) k) k
-- house
theorem lw_d27 : okL [(1129, .aload_n 1, 1), (1140, .invokevirtual 128, 3), (1143, .aload_n 2, 1), (1154, .invokevirtual 131, 3), (1157, .if_icmp .eq 252, 3)] := by unfold okL; decide +kernel
theorem lw_u27 : okL (argsL 1130 1 2) := by unfold okL; decide +kernel
theorem lw_v27 : okL (argsL 1144 1 2) := by unfold okL; decide +kernel
theorem lw_c27 (hn : n ≤ 2560) (hi : i + 5 ≤ n) (k : prD mX7_house mX8_house d (avL xs i 1 2) σ (fun ρ => ps_K (mL n xs) (d + 31) F 1409 (LwL i) [] ρ)) : ps_K (mL n xs) (d + 31) F 1129 (LwL i) [] σ :=
  lw_case (a := 2) (av := (avL xs i 1 2)) (p1 := 1140) (p2 := 1154) rfl lw_d27 (by decide) cvL_128 cvL_131 (fun st σ k => lw_args hn 2 1130 1 st σ lw_u27 (by decide) (by omega) k) (fun st σ k => lw_args hn 2 1144 1 st σ lw_v27 (by decide) (by omega) k) k
-- habit
theorem lw_d28 : okL [(1162, .aload_n 1, 1), (1178, .invokevirtual 132, 3), (1181, .aload_n 2, 1), (1197, .invokevirtual 135, 3), (1200, .if_icmp .eq 209, 3)] := by unfold okL; decide +kernel
theorem lw_u28 : okL (argsL 1163 1 3) := by unfold okL; decide +kernel
theorem lw_v28 : okL (argsL 1182 1 3) := by unfold okL; decide +kernel
theorem lw_c28 (hn : n ≤ 2560) (hi : i + 5 ≤ n) (k : prD mX7_habit mX8_habit d (avL xs i 1 3) σ (fun ρ => ps_K (mL n xs) (d + 31) F 1409 (LwL i) [] ρ)) : ps_K (mL n xs) (d + 31) F 1162 (LwL i) [] σ :=
  lw_case (a := 3) (av := (avL xs i 1 3)) (p1 := 1178) (p2 := 1197) rfl lw_d28 (by decide) cvL_132 cvL_135 (fun st σ k => lw_args hn 3 1163 1 st σ lw_u28 (by decide) (by omega) k) (fun st σ k => lw_args hn 3 1182 1 st σ lw_v28 (by decide) (by omega) k) k
-- spell
theorem lw_d29 : okL [(1205, .aload_n 1, 1), (1226, .invokevirtual 136, 3), (1229, .aload_n 2, 1), (1250, .invokevirtual 139, 3), (1253, .if_icmp .eq 156, 3)] := by unfold okL; decide +kernel
theorem lw_u29 : okL (argsL 1206 1 4) := by unfold okL; decide +kernel
theorem lw_v29 : okL (argsL 1230 1 4) := by unfold okL; decide +kernel
theorem lw_c29 (hn : n ≤ 2560) (hi : i + 5 ≤ n) (k : prD mX7_spell mX8_spell d (avL xs i 1 4) σ (fun ρ => ps_K (mL n xs) (d + 31) F 1409 (LwL i) [] ρ)) : ps_K (mL n xs) (d + 31) F 1205 (LwL i) [] σ :=
  lw_case (a := 4) (av := (avL xs i 1 4)) (p1 := 1226) (p2 := 1250) rfl lw_d29 (by decide) cvL_136 cvL_139 (fun st σ k => lw_args hn 4 1206 1 st σ lw_u29 (by decide) (by omega) k) (fun st σ k => lw_args hn 4 1230 1 st σ lw_v29 (by decide) (by omega) k) k
-- change
theorem lw_d30 : okL [(1258, .aload_n 1, 1), (1264, .invokevirtual 140, 3), (1267, .aload_n 2, 1), (1273, .invokevirtual 143, 3), (1276, .if_icmp .eq 133, 3)] := by unfold okL; decide +kernel
theorem lw_u30 : okL (argsL 1259 1 1) := by unfold okL; decide +kernel
theorem lw_v30 : okL (argsL 1268 1 1) := by unfold okL; decide +kernel
theorem lw_c30 (hn : n ≤ 2560) (hi : i + 5 ≤ n) (k : prD mX7_change mX8_change d (avL xs i 1 1) σ (fun ρ => ps_K (mL n xs) (d + 31) F 1409 (LwL i) [] ρ)) : ps_K (mL n xs) (d + 31) F 1258 (LwL i) [] σ :=
  lw_case (a := 1) (av := (avL xs i 1 1)) (p1 := 1264) (p2 := 1273) rfl lw_d30 (by decide) cvL_140 cvL_143 (fun st σ k => lw_args hn 1 1259 1 st σ lw_u30 (by decide) (by omega) k) (fun st σ k => lw_args hn 1 1268 1 st σ lw_v30 (by decide) (by omega) k) k
-- against
theorem lw_d31 : okL [(1281, .aload_n 1, 1), (1292, .invokevirtual 144, 3), (1295, .aload_n 2, 1), (1306, .invokevirtual 147, 3), (1309, .if_icmp .eq 100, 3)] := by unfold okL; decide +kernel
theorem lw_u31 : okL (argsL 1282 1 2) := by unfold okL; decide +kernel
theorem lw_v31 : okL (argsL 1296 1 2) := by unfold okL; decide +kernel
theorem lw_c31 (hn : n ≤ 2560) (hi : i + 5 ≤ n) (k : prD mX7_against mX8_against d (avL xs i 1 2) σ (fun ρ => ps_K (mL n xs) (d + 31) F 1409 (LwL i) [] ρ)) : ps_K (mL n xs) (d + 31) F 1281 (LwL i) [] σ :=
  lw_case (a := 2) (av := (avL xs i 1 2)) (p1 := 1292) (p2 := 1306) rfl lw_d31 (by decide) cvL_144 cvL_147 (fun st σ k => lw_args hn 2 1282 1 st σ lw_u31 (by decide) (by omega) k) (fun st σ k => lw_args hn 2 1296 1 st σ lw_v31 (by decide) (by omega) k) k
-- setting
theorem lw_d32 : okL [(1314, .aload_n 1, 1), (1315, .invokevirtual 148, 3), (1318, .aload_n 2, 1), (1319, .invokevirtual 151, 3), (1322, .if_icmp .eq 87, 3)] := by unfold okL; decide +kernel
theorem lw_c32 (hn : n ≤ 2560) (hi : i + 5 ≤ n) (k : prD mX7_setting mX8_setting d [] σ (fun ρ => ps_K (mL n xs) (d + 31) F 1409 (LwL i) [] ρ)) : ps_K (mL n xs) (d + 31) F 1314 (LwL i) [] σ :=
  lw_case (a := 0) (av := []) (p1 := 1315) (p2 := 1319) rfl lw_d32 (by decide) cvL_148 cvL_151 (fun _ _ k => k) (fun _ _ k => k) k
-- who
theorem lw_d33 : okL [(1327, .aload_n 1, 1), (1333, .invokevirtual 152, 3), (1336, .aload_n 2, 1), (1342, .invokevirtual 155, 3), (1345, .if_icmp .eq 64, 3)] := by unfold okL; decide +kernel
theorem lw_u33 : okL (argsL 1328 1 1) := by unfold okL; decide +kernel
theorem lw_v33 : okL (argsL 1337 1 1) := by unfold okL; decide +kernel
theorem lw_c33 (hn : n ≤ 2560) (hi : i + 5 ≤ n) (k : prD mX7_who mX8_who d (avL xs i 1 1) σ (fun ρ => ps_K (mL n xs) (d + 31) F 1409 (LwL i) [] ρ)) : ps_K (mL n xs) (d + 31) F 1327 (LwL i) [] σ :=
  lw_case (a := 1) (av := (avL xs i 1 1)) (p1 := 1333) (p2 := 1342) rfl lw_d33 (by decide) cvL_152 cvL_155 (fun st σ k => lw_args hn 1 1328 1 st σ lw_u33 (by decide) (by omega) k) (fun st σ k => lw_args hn 1 1337 1 st σ lw_v33 (by decide) (by omega) k) k
-- sure
theorem lw_d34 : okL [(1350, .aload_n 1, 1), (1356, .invokevirtual 156, 3), (1359, .aload_n 2, 1), (1365, .invokevirtual 159, 3), (1368, .if_icmp .eq 41, 3)] := by unfold okL; decide +kernel
theorem lw_u34 : okL (argsL 1351 1 1) := by unfold okL; decide +kernel
theorem lw_v34 : okL (argsL 1360 1 1) := by unfold okL; decide +kernel
theorem lw_c34 (hn : n ≤ 2560) (hi : i + 5 ≤ n) (k : prD mX7_sure mX8_sure d (avL xs i 1 1) σ (fun ρ => ps_K (mL n xs) (d + 31) F 1409 (LwL i) [] ρ)) : ps_K (mL n xs) (d + 31) F 1350 (LwL i) [] σ :=
  lw_case (a := 1) (av := (avL xs i 1 1)) (p1 := 1356) (p2 := 1365) rfl lw_d34 (by decide) cvL_156 cvL_159 (fun st σ k => lw_args hn 1 1351 1 st σ lw_u34 (by decide) (by omega) k) (fun st σ k => lw_args hn 1 1360 1 st σ lw_v34 (by decide) (by omega) k) k
-- settings
theorem lw_d35 : okL [(1373, .aload_n 1, 1), (1374, .invokevirtual 160, 3), (1377, .aload_n 2, 1), (1378, .invokevirtual 163, 3), (1381, .if_icmp .eq 28, 3)] := by unfold okL; decide +kernel
theorem lw_c35 (hn : n ≤ 2560) (hi : i + 5 ≤ n) (k : prD mX7_settings mX8_settings d [] σ (fun ρ => ps_K (mL n xs) (d + 31) F 1409 (LwL i) [] ρ)) : ps_K (mL n xs) (d + 31) F 1373 (LwL i) [] σ :=
  lw_case (a := 0) (av := []) (p1 := 1374) (p2 := 1378) rfl lw_d35 (by decide) cvL_160 cvL_163 (fun _ _ k => k) (fun _ _ k => k) k
-- count
theorem lw_d36 : okL [(1386, .aload_n 1, 1), (1392, .invokevirtual 164, 3), (1395, .aload_n 2, 1), (1401, .invokevirtual 167, 3), (1404, .if_icmp .eq 5, 3)] := by unfold okL; decide +kernel
theorem lw_u36 : okL (argsL 1387 1 1) := by unfold okL; decide +kernel
theorem lw_v36 : okL (argsL 1396 1 1) := by unfold okL; decide +kernel
theorem lw_c36 (hn : n ≤ 2560) (hi : i + 5 ≤ n) (k : prD mX7_count mX8_count d (avL xs i 1 1) σ (fun ρ => ps_K (mL n xs) (d + 31) F 1409 (LwL i) [] ρ)) : ps_K (mL n xs) (d + 31) F 1386 (LwL i) [] σ :=
  lw_case (a := 1) (av := (avL xs i 1 1)) (p1 := 1392) (p2 := 1401) rfl lw_d36 (by decide) cvL_164 cvL_167 (fun st σ k => lw_args hn 1 1387 1 st σ lw_u36 (by decide) (by omega) k) (fun st σ k => lw_args hn 1 1396 1 st σ lw_v36 (by decide) (by omega) k) k
theorem lw_all (hn : n ≤ 2560) (hi : i + 5 ≤ n) (h : INV σ σ) (K : ∀ ρ, INV ρ ρ → ps_K (mL n xs) (d + 31) F 1409 (LwL i) [] ρ) : ∀ k, k < 37 → ps_K (mL n xs) (d + 31) F (tgtL k) (LwL i) [] σ
  | 0, _ => lw_c0 hn hi (pr_read h K)
  | 1, _ => lw_c1 hn hi (pr_agree h K)
  | 2, _ => lw_c2 hn hi (pr_states h K)
  | 3, _ => lw_c3 hn hi (pr_state h K)
  | 4, _ => lw_c4 hn hi (pr_letter h K)
  | 5, _ => lw_c5 hn hi (pr_slips h K)
  | 6, _ => lw_c6 hn hi (pr_ahead (bz_01 _) h K)
  | 7, _ => lw_c7 hn hi (pr_changes h K)
  | 8, _ => lw_c8 hn hi (pr_least h K)
  | 9, _ => lw_c9 hn hi (pr_orders h K)
  | 10, _ => lw_c10 hn hi (pr_first h K)
  | 11, _ => lw_c11 hn hi (pr_before h K)
  | 12, _ => lw_c12 hn hi (pr_piece h K)
  | 13, _ => lw_c13 hn hi (pr_share h K)
  | 14, _ => lw_c14 hn hi (pr_must h K)
  | 15, _ => lw_c15 hn hi (pr_ring h K)
  | 16, _ => lw_c16 hn hi (pr_presses h K)
  | 17, _ => lw_c17 hn hi (pr_plans h K)
  | 18, _ => lw_c18 hn hi (pr_day h K)
  | 19, _ => lw_c19 hn hi (pr_beside h K)
  | 20, _ => lw_c20 hn hi (pr_fewest h K)
  | 21, _ => lw_c21 hn hi (pr_sheet h K)
  | 22, _ => lw_c22 hn hi (pr_size h K)
  | 23, _ => lw_c23 hn hi (pr_seen h K)
  | 24, _ => lw_c24 hn hi (pr_turns h K)
  | 25, _ => lw_c25 hn hi (pr_turned h K)
  | 26, _ => lw_c26 hn hi (pr_bound h K)
  | 27, _ => lw_c27 hn hi (pr_house h K)
  | 28, _ => lw_c28 hn hi (pr_habit h K)
  | 29, _ => lw_c29 hn hi (pr_spell h K)
  | 30, _ => lw_c30 hn hi (pr_change h K)
  | 31, _ => lw_c31 hn hi (pr_against h K)
  | 32, _ => lw_c32 hn hi (pr_setting h K)
  | 33, _ => lw_c33 hn hi (pr_who h K)
  | 34, _ => lw_c34 hn hi (pr_sure h K)
  | 35, _ => lw_c35 hn hi (pr_settings h K)
  | 36, _ => lw_c36 hn hi (pr_count h K)
  | k + 37, hk => absurd hk (by omega)
end LC

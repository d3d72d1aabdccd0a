/-! ===== the law's loop ===== -/
theorem lw_loop {n : Nat} {xs : Nat → Int32} {d : Nat} (hn : n ≤ 2560) : ∀ (r i : Nat) (σ : ps_S), i ≤ n → n ≤ i + r → INV σ σ → ps_K (mL n xs) (d + 31) lwF 18 (LwL i) [] σ
  | 0, i, σ, hi, hr, h => lw_head hn hi (fun q => absurd q (by omega)) lw_fin
  | r + 1, i, σ, hi, hr, h => lw_head hn hi (fun q => lw_sw hn q (lw_next hn q (lw_loop hn r (i + 5) σ q (by omega) h)) (lw_all hn q h (fun ρ w => lw_next hn q (lw_loop hn r (i + 5) ρ q (by omega) w)))) lw_fin
theorem lw_begin {n : Nat} {xs : Nat → Int32} {d : Nat} (hn : n ≤ 2560) {σ : ps_S} (h : INV σ σ) : ps_K (mL n xs) (d + 31) lwF 16 [some (.inr (.inr (0, 0))), some ps_x, some ps_m, none] [] σ := by
  refine ps_iconst (x := 0) (lw_t0 (16, .iconst 0, 1) (by simp)) (by decide) ?_
  refine ps_istore_n (n := 3) (i := 3) (L' := LwL 0) (lw_t0 (17, .istore_n 3, 1) (by simp)) rfl (show 3 < 4 from by decide) rfl ?_
  exact lw_loop hn n 0 σ (Nat.zero_le _) (by omega) h

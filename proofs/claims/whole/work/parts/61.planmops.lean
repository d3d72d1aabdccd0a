/-! ===== the calls on plans, of the reference ===== -/
section POm
variable {τ ρ : ps_S} {d : Nat} {Q : Option ps_V → ps_S → Prop} {v v1 v2 v3 : Int32}
def frP (ρ ρ' : ps_S) : Prop := ∀ g, g ≠ 65 → g ≠ 66 → g ≠ 67 → ρ' g = ρ g
theorem in16 {v : Int32} : ¬ jbIn v.toInt64 1 6 = 0 ↔ r1n v 6 := in_iff1 (n := 6) (by decide)
theorem m_plans (hz : 1 ≤ pz τ ∧ pz τ ≤ 6) (h63 : ρ 63 0 = τ 63 0) (h13 : ρ 50 0 13 = nI (pz τ)) (h1 : ¬ r1n v1 6 → Q (some (.inl (-900002))) ρ) (h2 : ∀ D ρ', 1 ≤ D → D ≤ 6 → v1 = nI D → frP ρ ρ' → Q (some (.inl (nI (plN τ D 0)))) ρ') : ps_C mX8_plans (d + 30) [ps_m, .inl v1] ρ Q := by
  refine eX8_plans (bX8_plans_0 (fun c => h1 ((z0 in16).mp c)) (fun c => ?_))
  obtain ⟨D, d1, d2, rfl⟩ := num_of (v := v1) (lo := 1) (hi := 6) (in16.mp c).1 (in16.mp c).2
  exact pX8_layPlans (d := d + 27) (pk := fun _ => True) ⟨d1, d2⟩ hz h63 h13 (Or.inl ⟨rfl, fun _ => trivial⟩) (fun A _ => pk_none A) (fun ρ' e _ => ⟨_, rfl, bX8_plans_21 (h2 D ρ' d1 d2 rfl e)⟩)
theorem m_day (hz : 1 ≤ pz τ ∧ pz τ ≤ 6) (h63 : ρ 63 0 = τ 63 0) (h13 : ρ 50 0 13 = nI (pz τ)) (h1 : ¬ vp_in v2 6 → Q (some (.inl (-900001))) ρ) (h2 : vp_in v2 6 → ¬ r1n v1 6 → Q (some (.inl (-900002))) ρ) (h3 : ∀ D f ρ', 1 ≤ D → D ≤ 6 → f < 6 → v1 = nI D → v2 = nI f → frP ρ ρ' → Q (some (.inl (fdN τ D f))) ρ') : ps_C mX8_day (d + 30) [ps_m, .inl v1, .inl v2] ρ Q := by
  refine eX8_day (bX8_day_0 (fun c c2 => ?_) (fun c c2 => h2 (in5.mp c) ((z0 in16).mp c2)) (fun c => h1 ((z0 in5).mp c)))
  obtain ⟨f, hf, rfl⟩ := vp_num (by decide) (in5.mp c)
  obtain ⟨D, d1, d2, rfl⟩ := num_of (v := v1) (lo := 1) (hi := 6) (in16.mp c2).1 (in16.mp c2).2
  refine pX8_layPlans (d := d + 27) (pk := fun _ => True) ⟨d1, d2⟩ hz h63 h13 (Or.inl ⟨rfl, fun _ => trivial⟩) (fun A _ => pk_none A) (fun ρ' e e2 => ⟨_, rfl, bX8_day_34 (vp_in_nI hf (by decide)) ?_⟩)
  rw [nI_clamp (by omega), e2 f hf]
  exact h3 D f ρ' d1 d2 hf rfl rfl e
theorem m_beside (hz : 1 ≤ pz τ ∧ pz τ ≤ 6) (h63 : ρ 63 0 = τ 63 0) (h13 : ρ 50 0 13 = nI (pz τ)) (h1 : ¬ (vp_in v2 6 ∧ vp_in v3 6) → Q (some (.inl (-900001))) ρ) (h2 : vp_in v2 6 → vp_in v3 6 → ¬ r1n v1 6 → Q (some (.inl (-900002))) ρ) (h3 : ∀ a b, a < 6 → b < 6 → v2 = nI a → v3 = nI b → r1n v1 6 → ¬ (mSh τ a a ∧ mSh τ b b) → Q (some (.inl (-900003))) ρ) (h4 : ∀ D a b ρ', 1 ≤ D → D ≤ 6 → a < 6 → b < 6 → v1 = nI D → v2 = nI a → v3 = nI b → mSh τ a a → mSh τ b b → frP ρ ρ' → Q (some (.inl (nI (plN τ D (2 ^ a ||| 2 ^ b))))) ρ') : ps_C mX8_beside (d + 30) [ps_m, .inl v1, .inl v2, .inl v3] ρ Q := by
  have go : ¬ jbIn v2.toInt64 0 5 = 0 → ¬ jbIn v3.toInt64 0 5 = 0 → ∃ a b, a < 6 ∧ b < 6 ∧ v2 = nI a ∧ v3 = nI b := fun p q => by
    obtain ⟨a, ha, rfl⟩ := vp_num (by decide) (in5.mp p)
    obtain ⟨b, hb, rfl⟩ := vp_num (by decide) (in5.mp q)
    exact ⟨a, b, ha, hb, rfl, rfl⟩
  refine eX8_beside (bX8_beside_0 (fun c => h1 (fun q => (z0 in5).mp c q.1)) (fun c _ _ => in5.mp c) (fun c c2 c3 c4 => ?_) (fun _ c2 _ _ => in5.mp c2) (fun c c2 c3 c4 c5 => ?_) (fun c c2 c3 c4 c5 => ?_) (fun c c2 c3 => h2 (in5.mp c) (in5.mp c2) ((z0 in16).mp c3)) (fun _ c => h1 (fun q => (z0 in5).mp c q.2)))
  · obtain ⟨a, b, ha, hb, rfl, rfl⟩ := go c c2
    rw [nI_clamp (by omega), jbP_0, mSh_63 h63] at c4
    exact h3 a b ha hb rfl rfl (in16.mp c3) (fun q => c4 q.1)
  · obtain ⟨a, b, ha, hb, rfl, rfl⟩ := go c c2
    rw [nI_clamp (by omega), jbP_0, mSh_63 h63] at c5
    exact h3 a b ha hb rfl rfl (in16.mp c3) (fun q => c5 q.2)
  · obtain ⟨a, b, ha, hb, rfl, rfl⟩ := go c c2
    obtain ⟨D, d1, d2, rfl⟩ := num_of (v := v1) (lo := 1) (hi := 6) (in16.mp c3).1 (in16.mp c3).2
    rw [nI_clamp (by omega), jbP_0, Classical.not_not, mSh_63 h63] at c4
    rw [nI_clamp (by omega), jbP_0, Classical.not_not, mSh_63 h63] at c5
    have ua : (uN τ).testBit a = true := uN_tb.mpr ⟨ha, c4⟩
    have ub : (uN τ).testBit b = true := uN_tb.mpr ⟨hb, c5⟩
    exact pX8_layPlans (d := d + 27) (pk := fun A => A a = A b) ⟨d1, d2⟩ hz h63 h13 (Or.inr ⟨a, b, ha, hb, rfl, rfl, ua, ub, fun _ => Iff.rfl⟩) (fun A hA => pk_pair ha hb ua ub hA) (fun ρ' e _ => ⟨_, rfl, bX8_beside_57 (h4 D a b ρ' d1 d2 ha hb rfl rfl rfl c4 c5 e)⟩)
theorem m_fewest (hz : 1 ≤ pz τ ∧ pz τ ≤ 6) (h63 : ρ 63 0 = τ 63 0) (h13 : ρ 50 0 13 = nI (pz τ)) (hq : ∀ ρ', frP ρ ρ' → Q (some (.inl (fwN τ))) ρ') : ps_C mX8_fewest (d + 30) [ps_m] ρ Q := by
  have key : ∀ r D, D + r = 7 → 1 ≤ D → ∀ ρ', frP ρ ρ' → fstN 6 1 (fwC τ) = fstN r D (fwC τ) → kX8_fewest_2 (d + 29) Q (nI D) ρ' := by
    intro r
    induction r with
    | zero =>
      intro D hD h1 ρ' f1 f3
      obtain rfl : D = 7 := by omega
      refine bX8_fewest_2 (fun _ => ?_) (lpX (N := 7) (by decide))
      have := hq ρ' f1
      unfold fwN at this
      rw [f3] at this
      exact this
    | succ r ih =>
      intro D hD h1 ρ' f1 f3
      refine bX8_fewest_2 (lpN (N := 7) (by omega) (by decide)) (fun _ => pX8_layPlans (d := d + 27) (τ := τ) (pk := fun _ => True) ⟨h1, by omega⟩ hz (by rw [f1 63 (by decide) (by decide) (by decide)]; exact h63) (by rw [f1 50 (by decide) (by decide) (by decide)]; exact h13) (Or.inl ⟨rfl, fun _ => trivial⟩) (fun A _ => pk_none A) (fun σ' e _ => ⟨_, rfl, bX8_fewest_17 (fun c => ?_) (fun c => ?_)⟩))
      · rw [nI_1]
        refine ih (D + 1) (by omega) (by omega) σ' (fun g x y z => by rw [e g x y z]; exact f1 g x y z) ?_
        rw [f3, fst_f (fun q : fwC τ D => q c)]
      · have := hq σ' (fun g x y z => by rw [e g x y z]; exact f1 g x y z)
        unfold fwN at this
        rw [f3, fst_t (show fwC τ D from c)] at this
        exact this
  exact eX8_fewest (bX8_fewest_0 (key 6 1 rfl (Nat.le_refl _) ρ (fun _ _ _ _ => rfl) rfl))
end POm

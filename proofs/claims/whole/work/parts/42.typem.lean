/-! ===== type: the reference, and the calls ===== -/
theorem nI_mod {a b : Nat} (ha : a < 2 ^ 31) (hb : b < 2 ^ 31) (h0 : 0 < b) : nI a - nI a / nI b * nI b = nI (a % b) := by
  have h1 := Nat.div_add_mod a b
  have h2 : a / b * b ≤ a := Nat.div_mul_le_self a b
  rw [nI_div ha hb h0, ix_mul, nI_sub h2]
  congr 1
  rw [Nat.mul_comm] at h1
  omega
section TM
variable {σ τ ρ : ps_S} {d : Nat} {Q : Option ps_V → ps_S → Prop} {v v1 v2 v3 : Int32}
theorem pX8_layMusts (h63 : ρ 63 0 = τ 63 0) (hq : ∀ ρ', (∀ g, g ≠ 65 → ρ' g = ρ g) → (∀ f, f < 6 → bm (ρ' 65 0 f) 6 (mstT τ f)) → Q none ρ') : ps_C mX8_layMusts d [ps_m] ρ Q := by
  -- the second half: six rounds
  have rounds : ∀ s r, r + s = 6 → ∀ ρ' (M : Nat → Nat → Prop), (∀ g, g ≠ 65 → ρ' g = ρ g) → (∀ f, f < 6 → bm (ρ' 65 0 f) 6 (M f)) → (∀ a b, a < 6 → b < 6 → M a b → mstT τ a b) → (∀ a b, a < 6 → b < 6 → wsh τ r a b → M a b) → kX8_layMusts_83 d Q (nI r) ρ' := by
    intro s
    induction s with
    | zero =>
      intro r hr ρ' M f1 f2 f3 f4
      obtain rfl : r = 6 := by omega
      exact bX8_layMusts_83 (fun _ => hq ρ' f1 (fun f hf => bm_congr (f2 f hf) (fun b hb => ⟨f3 f b hf hb, f4 f b hf hb⟩))) (lpX (N := 6) (by decide))
    | succ s ih =>
      intro r hr ρ' M f1 f2 f3 f4
      have hr0 : r < 6 := by omega
      have inner : ∀ t k, k + t = 36 → ∀ ρ' (M : Nat → Nat → Prop), (∀ g, g ≠ 65 → ρ' g = ρ g) → (∀ f, f < 6 → bm (ρ' 65 0 f) 6 (M f)) → (∀ a b, a < 6 → b < 6 → M a b → mstT τ a b) → (∀ a b, a < 6 → b < 6 → wsh τ r a b → M a b) → (∀ i j b, i < 6 → j < 6 → b < 6 → 6 * i + j < k → wsh τ r i j → wsh τ r j b → M i b) → kX8_layMusts_91 d Q (nI r) (nI k) ρ' := by
        intro t
        induction t with
        | zero =>
          intro k hk ρ' M g1 g2 g3 g4 g5
          obtain rfl : k = 36 := by omega
          refine bX8_layMusts_91 (fun _ => ?_) (lpX (N := 36) (by decide)) (lpX (N := 36) (by decide)) (lpX (N := 36) (by decide)) (lpX (N := 36) (by decide))
          rw [nI_1]
          refine ih (r + 1) (by omega) ρ' M g1 g2 g3 (fun a b ha hb q => ?_)
          rcases q with q | ⟨q1, q2⟩
          · exact g4 a b ha hb q
          · exact g5 a r b ha hr0 hb (by omega) q1 q2
        | succ t ih2 =>
          intro k hk ρ' M g1 g2 g3 g4 g5
          have hk0 : k < 36 := by omega
          obtain ⟨i, j, hi, hj, rfl⟩ : ∃ i j, i < 6 ∧ j < 6 ∧ k = 6 * i + j := ⟨k / 6, k % 6, by omega, by omega, by omega⟩
          have e1 : nI (6 * i + j) / 6 = nI i := by
            rw [show (6 : Int32) = nI 6 from rfl, nI_div (by omega) (by decide) (by decide)]
            congr 1; omega
          have e2 : nI (6 * i + j) - nI (6 * i + j) / 6 * 6 = nI j := by
            rw [show (6 : Int32) = nI 6 from rfl, nI_mod (by omega) (by decide) (by decide)]
            congr 1; omega
          have hic : (nI i).toNatClampNeg = i := nI_clamp (by omega)
          have hjc : (nI j).toNatClampNeg = j := nI_clamp (by omega)
          have hbit := bm_bit (g2 i hi) hj (by decide)
          have nx : 6 * i + j + 1 = 6 * i + j + 1 := rfl
          refine bX8_layMusts_91 (lpN (N := 36) hk0 (by decide)) (fun _ => by rw [e1]; exact vp_in_nI hi (by decide)) (fun _ c => ?_) (fun _ _ => by rw [e2]; exact vp_in_nI hj (by decide)) (fun _ c => ?_)
          · rw [e2, e1, hic, hbit] at c
            have c2 : ¬ M i j := fun q => c (jbP_t q)
            rw [e1, hic, nI_1]
            refine ih2 (6 * i + j + 1) (by omega) _ M (fun g hg => by rw [ps_up_o hg]; exact g1 g hg) (fun f hf => ?_) g3 g4 (fun i' j' b hi' hj' hb hlt q1 q2 => ?_)
            · by_cases e : f = i
              · subst e
                rw [ps_up_s, Int32.or_zero]
                exact g2 f hf
              · rw [ps_up_v (by omega)]
                exact g2 f hf
            · rcases Nat.lt_or_ge (6 * i' + j') (6 * i + j) with z | z
              · exact g5 i' j' b hi' hj' hb z q1 q2
              · obtain ⟨rfl, rfl⟩ : i' = i ∧ j' = j := by omega
                exact absurd (g4 i' j' hi hj q1) c2
          · rw [e2, e1, hic, hbit] at c
            have c2 : M i j := Classical.not_not.mp (fun q => by rw [jbP_f q] at c; exact absurd c (by decide))
            rw [e2, e1, hic, hjc, nI_1]
            refine ih2 (6 * i + j + 1) (by omega) _ (fun a b => M a b ∨ (a = i ∧ M j b)) (fun g hg => by rw [ps_up_o hg]; exact g1 g hg) (fun f hf => ?_) (fun a b ha hb q => ?_) (fun a b ha hb q => Or.inl (g4 a b ha hb q)) (fun i' j' b hi' hj' hb hlt q1 q2 => ?_)
            · by_cases e : f = i
              · subst e
                rw [ps_up_s]
                exact bm_congr (bm_or (g2 f hf) (g2 j hj)) (fun b hb => ⟨fun q => q.elim Or.inl (fun z => Or.inr ⟨rfl, z⟩), fun q => q.elim Or.inl (fun z => Or.inr z.2)⟩)
              · rw [ps_up_v (by omega)]
                exact bm_congr (g2 f hf) (fun b hb => ⟨Or.inl, fun q => q.elim id (fun z => absurd z.1 e)⟩)
            · rcases q with q | ⟨rfl, q⟩
              · exact g3 a b ha hb q
              · exact wsh_thru 6 a j b hj (g3 a j ha hj c2) (g3 j b hj hb q)
            · rcases Nat.lt_or_ge (6 * i' + j') (6 * i + j) with z | z
              · exact Or.inl (g5 i' j' b hi' hj' hb z q1 q2)
              · obtain ⟨rfl, rfl⟩ : i' = i ∧ j' = j := by omega
                exact Or.inr ⟨rfl, g4 j' b hj hb q2⟩
      exact bX8_layMusts_83 (lpN (N := 6) hr0 (by decide)) (fun _ => inner 36 0 rfl ρ' M f1 f2 f3 f4 (fun i j b _ _ _ hlt => absurd hlt (by omega)))
  have sub0 : ∀ k a b, wsh τ 0 a b → wsh τ k a b := by
    intro k
    induction k with
    | zero => exact fun a b q => q
    | succ k ih => exact fun a b q => Or.inl (ih a b q)
  have first : ∀ r a, a + r = 6 → ∀ ρ', (∀ g, g ≠ 65 → ρ' g = ρ g) → (∀ f, f < a → bm (ρ' 65 0 f) 6 (dirT τ f)) → kX8_layMusts_2 d Q (nI a) ρ' := by
    intro r
    induction r with
    | zero =>
      intro a ha ρ' f1 f2
      obtain rfl : a = 6 := by omega
      exact bX8_layMusts_2 (fun _ => rounds 6 0 rfl ρ' (dirT τ) f1 f2 (fun a b _ _ q => sub0 6 a b q) (fun a b _ _ q => q)) (lpX (N := 6) (by decide)) (lpX (N := 6) (by decide))
    | succ r ih =>
      intro a ha ρ' f1 f2
      have ha0 : a < 6 := by omega
      have hac : (nI a).toNatClampNeg = a := nI_clamp (by omega)
      have inner : ∀ t k, k + t = 96 → ∀ ρ', (∀ g, g ≠ 65 → ρ' g = ρ g) → (∀ f, f < a → bm (ρ' 65 0 f) 6 (dirT τ f)) → bm (ρ' 65 0 a) 6 (fun b => ∃ k', k' < k ∧ k' % 6 = b ∧ τ 63 0 (k' / 6 * 6 + a) = 0 ∧ τ 63 0 k' = 1) → kX8_layMusts_17 d Q (nI a) (nI k) ρ' := by
        intro t
        induction t with
        | zero =>
          intro k hk ρ' g1 g2 g3
          obtain rfl : k = 96 := by omega
          refine bX8_layMusts_17 (fun _ => ?_) (lpX (N := 96) (by decide)) (lpX (N := 96) (by decide)) (lpX (N := 96) (by decide)) (lpX (N := 96) (by decide)) (lpX (N := 96) (by decide)) (lpX (N := 96) (by decide))
          rw [nI_1]
          refine ih (a + 1) (by omega) ρ' g1 (fun f hf => ?_)
          rcases Nat.lt_or_eq_of_le (Nat.le_of_lt_succ hf) with z | z
          · exact g2 f z
          · subst z
            refine bm_congr g3 (fun b hb => ⟨?_, ?_⟩)
            · rintro ⟨k', q1, q2, q3, q4⟩
              refine ⟨k' / 6, by omega, ?_, ?_⟩
              · rw [Nat.mul_comm]; exact q3
              · rw [show 6 * (k' / 6) + b = k' by omega]; exact q4
            · rintro ⟨p, q1, q2, q3⟩
              refine ⟨6 * p + b, by omega, by omega, ?_, q3⟩
              rw [show (6 * p + b) / 6 * 6 = 6 * p by omega]
              exact q2
        | succ t ih2 =>
          intro k hk ρ' g1 g2 g3
          have hk0 : k < 96 := by omega
          have hkc : (nI k).toNatClampNeg = k := nI_clamp (by omega)
          have e1 : (nI k / 6) * 6 + nI a = nI (k / 6 * 6 + a) := by
            rw [show (6 : Int32) = nI 6 from rfl, nI_div (by omega) (by decide) (by decide), ix_mul, nI_add]
          have e2 : nI k - nI k / 6 * 6 = nI (k % 6) := by rw [show (6 : Int32) = nI 6 from rfl, nI_mod (by omega) (by decide) (by decide)]
          have hin : vp_in (nI k / 6 * 6 + nI a) 96 := by rw [e1]; exact vp_in_nI (by omega) (by decide)
          have hc2 : (nI (k / 6 * 6 + a)).toNatClampNeg = k / 6 * 6 + a := nI_clamp (by omega)
          have e63 : ρ' 63 0 = τ 63 0 := by rw [g1 63 (by decide)]; exact h63
          have no : ¬ (τ 63 0 (k / 6 * 6 + a) = 0 ∧ τ 63 0 k = 1) → kX8_layMusts_17 d Q (nI a) (nI k + 1) (ps_up ρ' 65 0 a (ρ' 65 0 a ||| 0)) := by
            intro c
            rw [nI_1]
            refine ih2 (k + 1) (by omega) _ (fun g hg => by rw [ps_up_o hg]; exact g1 g hg) (fun f hf => by rw [ps_up_v (by omega)]; exact g2 f hf) ?_
            rw [ps_up_s, Int32.or_zero]
            refine bm_congr g3 (fun b hb => ?_)
            rw [lt_succ_or (P := fun k' => k' % 6 = b ∧ τ 63 0 (k' / 6 * 6 + a) = 0 ∧ τ 63 0 k' = 1)]
            exact ⟨Or.inl, fun q => q.elim id (fun z => absurd z.2 c)⟩
          refine bX8_layMusts_17 (lpN (N := 96) hk0 (by decide)) (fun _ => vp_in_nI ha0 (by decide)) (fun _ => hin) (fun _ c => ?_) (fun _ _ => vp_in_nI hk0 (by decide)) (fun _ c c2 => ?_) (fun _ c c2 => ?_)
          · rw [e1, hc2, e63] at c
            rw [hac]
            exact no (fun q => c q.1)
          · rw [hkc, e63] at c2
            rw [hac]
            exact no (fun q => c2 q.2)
          · rw [e1, hc2, e63] at c
            rw [hkc, e63] at c2
            rw [hac, e2, nI_1]
            refine ih2 (k + 1) (by omega) _ (fun g hg => by rw [ps_up_o hg]; exact g1 g hg) (fun f hf => by rw [ps_up_v (by omega)]; exact g2 f hf) ?_
            rw [ps_up_s]
            refine bm_congr (bm_or g3 (bm_1 (b := k % 6) (by omega) (by decide))) (fun b hb => ?_)
            rw [lt_succ_or (P := fun k' => k' % 6 = b ∧ τ 63 0 (k' / 6 * 6 + a) = 0 ∧ τ 63 0 k' = 1)]
            exact ⟨fun q => q.elim Or.inl (fun z => Or.inr ⟨z.symm, c, c2⟩), fun q => q.elim Or.inl (fun z => Or.inr z.1.symm)⟩
      refine bX8_layMusts_2 (lpN (N := 6) ha0 (by decide)) (fun _ => vp_in_nI ha0 (by decide)) (fun _ => inner 96 0 rfl _ (fun g hg => by rw [ps_up_o hg]; exact f1 g hg) (fun f hf => ?_) ?_)
      · rw [hac, ps_up_v (by omega)]
        exact f2 f hf
      · rw [hac, ps_up_s]
        exact bm_congr bm_0 (fun b hb => ⟨fun q => q.elim, fun ⟨k', q, _⟩ => absurd q (Nat.not_lt_zero k')⟩)
  exact eX8_layMusts (bX8_layMusts_0 (first 6 0 rfl ρ (fun _ _ => rfl) (fun f hf => absurd hf (Nat.not_lt_zero f))))
-- the calls
theorem x_share (h : iT σ τ) (h1 : ¬ (vp_in v1 6 ∧ vp_in v2 6) → Q (some (.inl (-900001))) σ) (h2 : ∀ a b, a < 6 → b < 6 → v1 = nI a → v2 = nI b → Q (some (.inl (jbP (mSh τ a b)))) σ) : ps_C mX7_share (d + 30) [ps_x, .inl v1, .inl v2] σ Q := by
  refine eX7_share (bX7_share_0 (fun c => h1 (fun q => (z0 wi6).mp c q.1)) (fun c _ => wi6.mp c) (fun c c2 => ?_) (fun c c2 => h1 (fun q => (z0 wi6).mp c2 q.2)))
  obtain ⟨a, ha, rfl⟩ := vp_in_of (wi6.mp c) (by decide)
  obtain ⟨b, hb, rfl⟩ := vp_in_of (wi6.mp c2) (by decide)
  rw [nI_clamp (by omega), bm_bit (h.2.1 a ha).1 hb (by decide)]
  exact h2 a b ha hb rfl rfl
theorem m_share (h1 : ¬ (vp_in v1 6 ∧ vp_in v2 6) → Q (some (.inl (-900001))) σ) (h2 : ∀ a b, a < 6 → b < 6 → v1 = nI a → v2 = nI b → Q (some (.inl (jbP (mSh σ a b)))) σ) : ps_C mX8_share (d + 30) [ps_m, .inl v1, .inl v2] σ Q := by
  refine eX8_share (bX8_share_0 (fun c => h1 (fun q => (z0 in5).mp c q.1)) (fun c _ => in5.mp c) (fun _ c => in5.mp c) (fun c c2 c3 => ?_) (fun c c2 c3 => ?_) (fun c c2 => h1 (fun q => (z0 in5).mp c2 q.2)))
  all_goals
    obtain ⟨a, ha, rfl⟩ := vp_in_of (in5.mp c) (by decide)
    obtain ⟨b, hb, rfl⟩ := vp_in_of (in5.mp c2) (by decide)
    have hq := h2 a b ha hb rfl rfl
    rw [nI_clamp (by omega), nI_clamp (by omega), jbP_0] at c3
  · rw [jbP_f c3] at hq
    exact hq
  · rw [jbP_t (Classical.not_not.mp c3)] at hq
    exact hq
theorem x_must (h : iT σ τ) (h1 : ¬ (vp_in v1 6 ∧ vp_in v2 6) → Q (some (.inl (-900001))) σ) (h2 : ∀ a b, a < 6 → b < 6 → v1 = nI a → v2 = nI b → Q (some (.inl (jbP (mstT τ a b)))) σ) : ps_C mX7_must (d + 30) [ps_x, .inl v1, .inl v2] σ Q := by
  refine eX7_must (bX7_must_0 (fun c => h1 (fun q => (z0 wi6).mp c q.1)) (fun c _ => wi6.mp c) (fun c c2 => ?_) (fun c c2 => h1 (fun q => (z0 wi6).mp c2 q.2)))
  obtain ⟨a, ha, rfl⟩ := vp_in_of (wi6.mp c) (by decide)
  obtain ⟨b, hb, rfl⟩ := vp_in_of (wi6.mp c2) (by decide)
  rw [nI_clamp (by omega), bm_bit (h.2.1 a ha).2 hb (by decide)]
  exact h2 a b ha hb rfl rfl
theorem m_must (h63 : ρ 63 0 = τ 63 0) (h1 : ¬ (vp_in v1 6 ∧ vp_in v2 6) → Q (some (.inl (-900001))) ρ) (h2 : ∀ a b ρ', a < 6 → b < 6 → v1 = nI a → v2 = nI b → (∀ g, g ≠ 65 → ρ' g = ρ g) → Q (some (.inl (jbP (mstT τ a b)))) ρ') : ps_C mX8_must (d + 30) [ps_m, .inl v1, .inl v2] ρ Q := by
  refine eX8_must (bX8_must_0 (fun c => h1 (fun q => (z0 in5).mp c q.1)) (fun c c2 => ?_) (fun c c2 => h1 (fun q => (z0 in5).mp c2 q.2)))
  obtain ⟨a, ha, rfl⟩ := vp_in_of (in5.mp c) (by decide)
  obtain ⟨b, hb, rfl⟩ := vp_in_of (in5.mp c2) (by decide)
  refine pX8_layMusts h63 (fun ρ' f1 f2 => ⟨rfl, bX8_must_21 (vp_in_nI ha (by decide)) ?_⟩)
  rw [nI_clamp (by omega), bm_bit (f2 a ha) hb (by decide)]
  exact h2 a b ρ' ha hb rfl rfl f1
theorem jSum_ext {g k : Nat → Int32} : ∀ {n : Nat}, (∀ i, i < n → g i = k i) → jSum n g = jSum n k
  | 0, _ => rfl
  | n + 1, e => by
    show jSum n g + g n = jSum n k + k n
    rw [jSum_ext (fun i hi => e i (by omega)), e n (by omega)]
noncomputable def rngT (τ : ps_S) : Int32 := jSum 6 (fun f => jbP (mstT τ f f))
theorem x_ring (h : iT σ τ) (hq : Q (some (.inl (rngT τ))) σ) : ps_C mX7_ring (d + 30) [ps_x] σ Q := by
  refine eX7_ring (bX7_ring_0 ?_)
  rw [jSum_ext (k := fun f => jbP (mstT τ f f)) (fun f hf => bm_bit (h.2.1 f hf).2 hf (by decide))]
  exact hq
theorem m_ring (h63 : ρ 63 0 = τ 63 0) (hq : ∀ ρ', (∀ g, g ≠ 65 → ρ' g = ρ g) → Q (some (.inl (rngT τ))) ρ') : ps_C mX8_ring (d + 30) [ps_m] ρ Q := by
  refine eX8_ring (bX8_ring_0 (pX8_layMusts h63 (fun ρ' f1 f2 => ⟨rfl, bX8_ring_4 ?_⟩)))
  have hq := hq ρ' f1
  have key : ∀ r j, j + r = 6 → kX8_ring_8 (d + 29) Q (jSum j (fun f => jbP (mstT τ f f))) (nI j) ρ' := by
    intro r
    induction r with
    | zero =>
      intro j hj
      obtain rfl : j = 6 := by omega
      exact bX8_ring_8 (fun _ => hq) (lpX (N := 6) (by decide)) (lpX (N := 6) (by decide))
    | succ r ih =>
      intro j hj
      have hj0 : j < 6 := by omega
      refine bX8_ring_8 (lpN (N := 6) hj0 (by decide)) (fun _ => vp_in_nI hj0 (by decide)) (fun _ => ?_)
      rw [nI_clamp (by omega), bm_bit (f2 j hj0) hj0 (by decide), nI_1]
      exact ih (j + 1) (by omega)
  exact key 6 0 rfl
theorem x_presses (h1 : ¬ r1n v 6 → Q (some (.inl (-900002))) σ) (h2 : r1n v 6 → Q (some (.inl (σ 24 0 5))) (ps_up (ps_up σ 24 0 5 v) 24 0 6 0)) : ps_C mX7_presses (d + 30) [ps_x, .inl v] σ Q := by
  have e1 : (1 : Int32).toInt = 1 := by decide
  have e6 : (6 : Int32).toInt = 6 := by decide
  refine eX7_presses (bX7_presses_0 (fun c => h1 ?_) (fun c c2 => eX4_putPresses (bX4_putPresses_0 (eX4_forget (bX4_forget_0 ⟨rfl, bX4_putPresses_14 ⟨_, rfl, bX7_presses_22 (h2 ?_)⟩⟩)))) (fun c c2 => h1 ?_))
  all_goals simp only [Int32.lt_iff_toInt_lt, Int32.le_iff_toInt_le, e1, e6] at *
  all_goals unfold r1n
  all_goals omega
theorem m_presses (h1 : ¬ r1n v 6 → Q (some (.inl (-900002))) σ) (h2 : r1n v 6 → Q (some (.inl (σ 50 0 13))) (ps_up σ 50 0 13 v)) : ps_C mX8_presses (d + 30) [ps_m, .inl v] σ Q := by
  have a : ¬ jbIn v.toInt64 1 6 = 0 ↔ r1n v 6 := in_iff1 (n := 6) (by decide)
  exact eX8_presses (bX8_presses_0 (fun c => h2 (a.mp c)) (fun c => h1 ((z0 a).mp c)))
/-- how a piece may be -/
def hwT (v : Int32) : Prop := v = -900009 ∨ v = 0 ∨ v = 1
theorem ix6p {v1 v2 : Int32} (a : vp_in v1 16) (b : vp_in v2 6) : vp_in ((6 * v1) + v2) 96 ∧ ((6 * v1) + v2).toNatClampNeg = 6 * v1.toNatClampNeg + v2.toNatClampNeg := by
  obtain ⟨i, hi, rfl⟩ := vp_in_of a (by decide)
  obtain ⟨j, hj, rfl⟩ := vp_in_of b (by decide)
  rw [show (6 : Int32) * nI i = nI (6 * i) from ix_mul 6 i, nI_add, nI_clamp (by omega), nI_clamp (by omega), nI_clamp (by omega)]
  exact ⟨vp_in_nI (by omega) (by decide), rfl⟩
theorem m_piece (h1 : ¬ (vp_in v1 16 ∧ vp_in v2 6) → Q (some (.inl (-900001))) σ) (h2 : vp_in v1 16 → vp_in v2 6 → ¬ hwT v3 → Q (some (.inl (-900002))) σ) (h3 : vp_in v1 16 → vp_in v2 6 → hwT v3 → Q (some (.inl (σ 63 0 (6 * v1.toNatClampNeg + v2.toNatClampNeg)))) (ps_up σ 63 0 (6 * v1.toNatClampNeg + v2.toNatClampNeg) v3)) : ps_C mX8_piece (d + 30) [ps_m, .inl v1, .inl v2, .inl v3] σ Q := by
  have two : vp_in v3 2 ↔ (v3 = 0 ∨ v3 = 1) := by
    constructor
    · intro q
      obtain ⟨j, hj, rfl⟩ := vp_in_of q (by decide)
      rcases (show j = 0 ∨ j = 1 by omega) with z | z <;> subst z
      · exact Or.inl rfl
      · exact Or.inr rfl
    · rintro (q | q) <;> rw [q]
      · exact vp_in_nI (n := 0) (by decide) (by decide)
      · exact vp_in_nI (n := 1) (by decide) (by decide)
  have go : vp_in v1 16 → vp_in v2 6 → hwT v3 → kX8_piece_41 (d + 28) Q v1 v2 v3 σ := fun a b c => by
    obtain ⟨e1, e2⟩ := ix6p a b
    refine bX8_piece_41 e1 ?_
    rw [e2]
    exact h3 a b c
  exact eX8_piece (bX8_piece_0 (fun c => h1 (fun q => (z0 in15).mp c q.1)) (fun c c2 c3 => go (in15.mp c) (in5.mp c2) (Or.inl c3)) (fun c c2 c3 c4 => go (in15.mp c) (in5.mp c2) (Or.inr (two.mp (in1.mp c4)))) (fun c c2 c3 c4 => h2 (in15.mp c) (in5.mp c2) (fun q => q.elim c3 (fun z => (z0 in1).mp c4 (two.mpr z)))) (fun c c2 => h1 (fun q => (z0 in5).mp c2 q.2)))
theorem x_piece (h : iTb σ τ) (h1 : ¬ (vp_in v1 16 ∧ vp_in v2 6) → Q (some (.inl (-900001))) σ) (h2 : vp_in v1 16 → vp_in v2 6 → ¬ hwT v3 → Q (some (.inl (-900002))) σ) (h3 : ∀ p f σ', p < 16 → f < 6 → v1 = nI p → v2 = nI f → hwT v3 → (∀ g, g ≠ 19 → g ≠ 21 → g ≠ 22 → g ≠ 23 → g ≠ 24 → σ' g = σ g) → (∀ k, k ≠ 6 → σ' 24 0 k = σ 24 0 k) → σ' 24 0 6 = 0 → iT σ' (ps_up τ 63 0 (6 * p + f) v3) → Q (some (.inl (σ 21 p f))) σ') : ps_C mX7_piece (d + 30) [ps_x, .inl v1, .inl v2, .inl v3] σ Q := by
  have go : vp_in v1 16 → vp_in v2 6 → hwT v3 → kX7_piece_37 (d + 28) Q v1 v2 v3 σ := by
    intro a b c
    obtain ⟨p, hp, rfl⟩ := vp_in_of a (by decide)
    obtain ⟨f, hf, rfl⟩ := vp_in_of b (by decide)
    refine bX7_piece_37 (eX4_forget (bX4_forget_0 ⟨rfl, bX7_piece_44 (eX6_putPiece (bX6_putPiece_0 a b ?_))⟩))
    rw [nI_clamp (by omega), nI_clamp (by omega)]
    refine pX6_link (τ := ps_up τ 63 0 (6 * p + f) v3) ?_ (fun σ' f1 f2 => ⟨rfl, bX6_putPiece_23 ⟨_, rfl, bX7_piece_54 ?_⟩⟩)
    · intro p' f' hp' hf'
      by_cases e : p' = p ∧ f' = f
      · obtain ⟨rfl, rfl⟩ := e
        rw [ps_up_s, ps_up_s]
        exact ⟨rfl, c⟩
      · rw [ps_up_v e, ps_up_v (by omega), ps_up_o (by decide)]
        exact h p' f' hp' hf'
    · rw [ps_up_o (f' := 21) (by decide)]
      refine h3 p f σ' hp hf rfl rfl c (fun g a1 a2 a3 a4 a5 => ?_) (fun k hk => ?_) ?_ f2
      · rw [f1 g a1 a3 a4, ps_up_o a2, ps_up_o a5]
      · rw [f1 24 (by decide) (by decide) (by decide), ps_up_o (by decide), ps_up_v (by omega)]
      · rw [f1 24 (by decide) (by decide) (by decide), ps_up_o (by decide), ps_up_s]
  exact eX7_piece (bX7_piece_0 (fun c => h1 (fun q => (z0 wi16).mp c q.1)) (fun c c2 c3 => go (wi16.mp c) (wi6.mp c2) (Or.inl c3)) (fun c c2 c3 c4 => go (wi16.mp c) (wi6.mp c2) (Or.inr (Or.inl c4))) (fun c c2 c3 c4 c5 => go (wi16.mp c) (wi6.mp c2) (Or.inr (Or.inr c5))) (fun c c2 c3 c4 c5 => h2 (wi16.mp c) (wi6.mp c2) (fun q => q.elim c3 (fun z => z.elim c4 c5))) (fun c c2 => h1 (fun q => (z0 wi6).mp c2 q.2)))
end TM

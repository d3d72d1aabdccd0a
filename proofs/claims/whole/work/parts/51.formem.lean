/-! ===== the calls on formes, of the reference ===== -/
section FM
variable {τ ρ : ps_S} {f d : Nat} {Q : Option ps_V → ps_S → Prop} {v v1 v2 v3 v4 : Int32}
theorem ia8 {v : Int32} : ¬ jbIn v.toInt64 0 8 = 0 ↔ vp_in v 9 := in_iff (n := 8) (by decide)
theorem ia9 {v : Int32} : ¬ jbIn v.toInt64 0 9 = 0 ↔ vp_in v 10 := in_iff (n := 9) (by decide)
theorem ia5 {v : Int32} : ¬ jbIn v.toInt64 0 5 = 0 ↔ vp_in v 6 := in_iff (n := 5) (by decide)
/-- the needs and the changes of the states -/
theorem pX8_layNeeds (hf : f < 6) (h51 : ρ 51 0 = τ 51 0) (h58 : ρ 58 0 = τ 58 0) (hr : ∀ a b, a < 9 → b < 9 → τ 58 0 (81 * f + 9 * a + b) = 0 ∨ τ 58 0 (81 * f + 9 * a + b) = 1) (hq : ∀ ρ', frB ρ ρ' → gM τ f ρ' → mS (nst τ f) (ndF τ f) (chF τ f) ρ' → Q none ρ') : ps_C mX8_layNeeds (d + 5) [ps_m, .inl (nI f)] ρ Q := by
  have hn := nst_le τ f
  refine eX8_layNeeds (bX8_layNeeds_0 (pX8_layStates hf h51 (fun ρ0 q1 q2 => ⟨rfl, bX8_layNeeds_5 ?_⟩)))
  have k51 : ρ0 51 0 = τ 51 0 := by rw [q1.1 51 (by decide) (by decide) (by decide)]; exact h51
  have k58 : ρ0 58 0 = τ 58 0 := by rw [q1.1 58 (by decide) (by decide) (by decide)]; exact h58
  have g9 : ∀ ρ1 : ps_S, (∀ g, g ≠ 59 → g ≠ 60 → ρ1 g = ρ0 g) → gM τ f ρ1 := fun ρ1 e => by
    unfold gM; rw [e 50 (by decide) (by decide), e 53 (by decide) (by decide)]; exact q2
  -- the changes
  have chs : ∀ r k, k + r = 81 → ∀ ρ1, (∀ g, g ≠ 59 → g ≠ 60 → ρ1 g = ρ0 g) → (∀ s, s < 9 → bm (ρ1 59 0 s) 9 (ndF τ f s)) → (∀ a b, a < nst τ f → b < nst τ f → 9 * a + b < k → ρ1 60 0 (9 * a + b) = nI (chF τ f a b)) → kX8_layNeeds_109 (d + 2) Q (nI f) (nI k) ρ1 := by
    intro r
    induction r with
    | zero =>
      intro k hk ρ1 f1 f2 f3
      obtain rfl : k = 81 := by omega
      refine bX8_layNeeds_109 (fun _ => hq ρ1 (frB_trans (frB_L q1) (frB_g (fun g x => f1 g (by omega) (by omega)))) (g9 ρ1 f1) ⟨(g9 ρ1 f1).1, fun a ha => f2 a (by omega), fun a b ha hb => f3 a b ha hb (by omega)⟩) (lpX (N := 81) (by decide)) (lpX (N := 81) (by decide)) (lpX (N := 81) (by decide)) (lpX (N := 81) (by decide)) (lpX (N := 81) (by decide)) (lpX (N := 81) (by decide)) (lpX (N := 81) (by decide))
    | succ r ih =>
      intro k hk ρ1 f1 f2 f3
      have hk0 : k < 81 := by omega
      obtain ⟨i, j, hi, hj, rfl⟩ : ∃ i j, i < 9 ∧ j < 9 ∧ k = 9 * i + j := ⟨k / 9, k % 9, by omega, by omega, by omega⟩
      have e1 : nI (9 * i + j) / 9 = nI i := by
        rw [show (9 : Int32) = nI 9 from rfl, nI_div (by omega) (by decide) (by decide)]
        congr 1; omega
      have e2 : nI (9 * i + j) - nI (9 * i + j) / 9 * 9 = nI j := by
        rw [show (9 : Int32) = nI 9 from rfl, nI_mod (by omega) (by decide) (by decide)]
        congr 1; omega
      have hkc : (nI (9 * i + j)).toNatClampNeg = 9 * i + j := nI_clamp (by omega)
      have h50 := (g9 ρ1 f1).1
      have nxt : ∀ w, (i < nst τ f → j < nst τ f → w = nI (chF τ f i j)) → kX8_layNeeds_109 (d + 2) Q (nI f) (nI (9 * i + j) + 1) (ps_up ρ1 60 0 (9 * i + j) w) := by
        intro w hw
        rw [nI_1]
        refine ih (9 * i + j + 1) (by omega) _ (fun g x y => by rw [ps_up_o y]; exact f1 g x y) (fun s hs => by rw [ps_up_o (by decide)]; exact f2 s hs) (fun a b ha hb hlt => ?_)
        by_cases e : 9 * a + b = 9 * i + j
        · obtain rfl : a = i := by omega
          obtain rfl : b = j := by omega
          rw [ps_up_s]
          exact hw ha hb
        · rw [ps_up_v (by omega)]
          exact f3 a b ha hb (by omega)
      have vk : vp_in (nI (9 * i + j)) 81 := vp_in_nI hk0 (by decide)
      refine bX8_layNeeds_109 (lpN (N := 81) hk0 (by decide)) (fun _ _ => vk) (fun _ c => ?_) (fun _ _ _ => vk) (fun _ _ c => ?_) (fun _ _ _ => vp_in_nI hf (by decide)) (fun _ _ _ => vk) (fun _ c c2 => ?_)
      · rw [e1, h50, nI_leI (by omega) (by omega)] at c
        rw [hkc]
        exact nxt 0 (fun h => absurd h (by omega))
      · rw [e2, h50, nI_leI (by omega) (by omega)] at c
        rw [hkc]
        exact nxt 0 (fun _ h => absurd h (by omega))
      · rw [hkc, e2, e1, nI_clamp (n := f) (by omega)]
        refine nxt _ (fun _ _ => congrArg nI (cnt_congr (fun p hp => ?_)))
        have l51 : ρ1 51 0 = τ 51 0 := by rw [f1 51 (by decide) (by decide)]; exact k51
        rw [mGl_eq l51 (g9 ρ1 f1).2, mGl_eq l51 (g9 ρ1 f1).2]
  -- the needs
  have nds : ∀ r k, k + r = 81 → ∀ ρ1, (∀ g, g ≠ 59 → g ≠ 60 → ρ1 g = ρ0 g) → (∀ s, s < 9 → bm (ρ1 59 0 s) 9 (fun t => ∃ x y, 9 * x + y < k ∧ x < 9 ∧ y < 9 ∧ τ 58 0 (81 * f + 9 * x + y) = 1 ∧ mLk τ f x ∧ mLk τ f y ∧ grp τ f x = t ∧ grp τ f y = s ∧ s ≠ t)) → kX8_layNeeds_28 (d + 2) Q (nI f) (nI k) ρ1 := by
    intro r
    induction r with
    | zero =>
      intro k hk ρ1 f1 f2
      obtain rfl : k = 81 := by omega
      have go : ∀ {p : Prop}, ¬ (81 : Int32) ≤ nI 81 → p := lpX (N := 81) (by decide)
      refine bX8_layNeeds_28 (fun _ => chs 81 0 rfl ρ1 f1 (fun s hs => bm_congr (f2 s hs) (fun t _ => ?_)) (fun a b _ _ h => absurd h (by omega))) go go go go go go go go go
      constructor
      · rintro ⟨x, y, _, h⟩; exact ⟨x, y, h⟩
      · rintro ⟨x, y, h⟩; exact ⟨x, y, by omega, h⟩
    | succ r ih =>
      intro k hk ρ1 f1 f2
      have hk0 : k < 81 := by omega
      obtain ⟨i, j, hi, hj, rfl⟩ : ∃ i j, i < 9 ∧ j < 9 ∧ k = 9 * i + j := ⟨k / 9, k % 9, by omega, by omega, by omega⟩
      have e1 : nI (9 * i + j) / 9 = nI i := by
        rw [show (9 : Int32) = nI 9 from rfl, nI_div (by omega) (by decide) (by decide)]
        congr 1; omega
      have e2 : nI (9 * i + j) - nI (9 * i + j) / 9 * 9 = nI j := by
        rw [show (9 : Int32) = nI 9 from rfl, nI_mod (by omega) (by decide) (by decide)]
        congr 1; omega
      have e3 : ((81 * nI f) + nI (9 * i + j)) = nI (81 * f + 9 * i + j) := by
        rw [show (81 : Int32) = nI 81 from rfl, ix_mul, nI_add]
        congr 1; omega
      have hic : (nI i).toNatClampNeg = i := nI_clamp (by omega)
      have hjc : (nI j).toNatClampNeg = j := nI_clamp (by omega)
      have h3c : (nI (81 * f + 9 * i + j)).toNatClampNeg = 81 * f + 9 * i + j := nI_clamp (by omega)
      have l58 : ρ1 58 0 = τ 58 0 := by rw [f1 58 (by decide) (by decide)]; exact k58
      have hsi := (g9 ρ1 f1).2 i hi
      have hsj := (g9 ρ1 f1).2 j hj
      -- nothing told by this pair
      have skip : (τ 58 0 (81 * f + 9 * i + j) = 1 → mLk τ f i → mLk τ f j → grp τ f i = grp τ f j) → kX8_layNeeds_28 (d + 2) Q (nI f) (nI (9 * i + j) + 1) ρ1 := by
        intro hno
        rw [nI_1]
        refine ih (9 * i + j + 1) (by omega) ρ1 f1 (fun s hs => bm_congr (f2 s hs) (fun t _ => ?_))
        constructor
        · rintro ⟨x, y, h0, h⟩; exact ⟨x, y, by omega, h⟩
        · rintro ⟨x, y, h0, hx, hy, h1, h2, h3, h4, h5, h6⟩
          refine ⟨x, y, ?_, hx, hy, h1, h2, h3, h4, h5, h6⟩
          rcases Nat.lt_or_eq_of_le (Nat.le_of_lt_succ h0) with z | z
          · exact z
          · obtain rfl : x = i := by omega
            obtain rfl : y = j := by omega
            have := hno h1 h2 h3
            omega
      refine bX8_layNeeds_28 (lpN (N := 81) hk0 (by decide)) (fun _ => by rw [e1]; exact vp_in_nI hi (by decide)) (fun _ => by rw [e2]; exact vp_in_nI hj (by decide)) (fun _ => by rw [e3]; exact vp_in_nI (by omega) (by decide)) (fun _ c => ?_) (fun _ _ c => ?_) (fun _ _ _ c => ?_) (fun _ _ c1 c2 c => ?_) (fun _ _ c1 c2 c => ?_) (fun _ c0 c1 c2 c => ?_)
      · rw [e3, h3c, l58] at c
        exact skip (fun h => by rw [c] at h; exact absurd h (by decide))
      · rw [e1, hic, hsi] at c
        exact skip (fun _ h _ => by
          have hlt := grp_lt τ hi h
          rw [stN_t h] at c
          exact absurd c (nI_none (by omega)))
      · rw [e2, hjc, hsj] at c
        exact skip (fun _ _ h => by
          have hlt := grp_lt τ hj h
          rw [stN_t h] at c
          exact absurd c (nI_none (by omega)))
      · rw [e2, e1, hic, hjc, hsi, hsj] at c
        exact skip (fun _ h h' => by
          have hlt := grp_lt τ hi h
          have hlt' := grp_lt τ hj h'
          rw [stN_t h, stN_t h', nI_eq (by omega) (by omega)] at c
          exact c)
      · rw [e2, hjc, hsj] at c2 ⊢
        have h' : mLk τ f j := Classical.not_not.mp (fun q => c2 (stN_f q))
        have hlt' := grp_lt τ hj h'
        rw [stN_t h']
        exact vp_in_nI (by omega) (by decide)
      · rw [e3, h3c, l58] at c0
        rw [e1, hic, hsi] at c1
        rw [e2, hjc, hsj] at c2
        have h : mLk τ f i := Classical.not_not.mp (fun q => c1 (stN_f q))
        have h' : mLk τ f j := Classical.not_not.mp (fun q => c2 (stN_f q))
        have hlt := grp_lt τ hi h
        have hlt' := grp_lt τ hj h'
        rw [e2, e1, hic, hjc, hsi, hsj, stN_t h, stN_t h', nI_eq (by omega) (by omega)] at c
        have h1 : τ 58 0 (81 * f + 9 * i + j) = 1 := (hr i j hi hj).elim (fun q => absurd q c0) id
        rw [e2, e1, hic, hjc, hsi, hsj, stN_t h, stN_t h', nI_clamp (n := grp τ f j) (by omega), nI_1]
        refine ih (9 * i + j + 1) (by omega) _ (fun g x y => by rw [ps_up_o x]; exact f1 g x y) (fun s hs => ?_)
        by_cases e : s = grp τ f j
        · subst e
          rw [ps_up_s]
          refine bm_congr (bm_or (f2 _ hs) (bm_1 (b := grp τ f i) (by omega) (by decide))) (fun t _ => ?_)
          constructor
          · rintro (⟨x, y, h0, w⟩ | rfl)
            · exact ⟨x, y, by omega, w⟩
            · exact ⟨i, j, by omega, hi, hj, h1, h, h', rfl, rfl, fun q => c q.symm⟩
          · rintro ⟨x, y, h0, hx, hy, w⟩
            rcases Nat.lt_or_eq_of_le (Nat.le_of_lt_succ h0) with z | z
            · exact Or.inl ⟨x, y, z, hx, hy, w⟩
            · obtain rfl : x = i := by omega
              exact Or.inr w.2.2.2.1.symm
        · rw [ps_up_v (fun q => e q.2)]
          refine bm_congr (f2 s hs) (fun t _ => ?_)
          constructor
          · rintro ⟨x, y, h0, w⟩; exact ⟨x, y, by omega, w⟩
          · rintro ⟨x, y, h0, hx, hy, w⟩
            refine ⟨x, y, ?_, hx, hy, w⟩
            rcases Nat.lt_or_eq_of_le (Nat.le_of_lt_succ h0) with z | z
            · exact z
            · obtain rfl : y = j := by omega
              exact absurd w.2.2.2.2.1.symm e
  have zs : ∀ r k, k + r = 9 → ∀ ρ1, (∀ g, g ≠ 59 → g ≠ 60 → ρ1 g = ρ0 g) → (∀ s, s < k → ρ1 59 0 s = 0) → kX8_layNeeds_7 (d + 2) Q (nI f) (nI k) ρ1 := by
    intro r
    induction r with
    | zero =>
      intro k hk ρ1 f1 f2
      obtain rfl : k = 9 := by omega
      refine bX8_layNeeds_7 (fun _ => nds 81 0 rfl ρ1 f1 (fun s hs => ?_)) (lpX (N := 9) (by decide)) (lpX (N := 9) (by decide))
      rw [f2 s hs]
      exact bm_congr bm_0 (fun t _ => ⟨fun q => q.elim, fun ⟨x, y, h, _⟩ => absurd h (by omega)⟩)
    | succ r ih =>
      intro k hk ρ1 f1 f2
      have hk0 : k < 9 := by omega
      refine bX8_layNeeds_7 (lpN (N := 9) hk0 (by decide)) (fun _ => vp_in_nI hk0 (by decide)) (fun _ => ?_)
      rw [nI_clamp (by omega), nI_1]
      refine ih (k + 1) (by omega) _ (fun g x y => by rw [ps_up_o x]; exact f1 g x y) (fun s hs => ?_)
      by_cases e : s = k
      · rw [e, ps_up_s]
      · rw [ps_up_v (by omega)]
        exact f2 s (by omega)
  exact zs 9 0 rfl ρ0 (fun _ _ _ => rfl) (fun s h => absurd h (by omega))
theorem m_read (h1 : ¬ (vp_in v1 9 ∧ vp_in v2 6 ∧ vp_in v3 6) → Q (some (.inl (-900001))) ρ) (h2 : vp_in v1 9 → vp_in v2 6 → vp_in v3 6 → ¬ ltF v4 → Q (some (.inl (-900002))) ρ) (h3 : ∀ c f p, c < 9 → f < 6 → p < 6 → v1 = nI c → v2 = nI f → v3 = nI p → ltF v4 → Q (some (.inl (ρ 51 0 (54 * f + 6 * c + p)))) (ps_up ρ 51 0 (54 * f + 6 * c + p) v4)) : ps_C mX8_read (d + 30) [ps_m, .inl v1, .inl v2, .inl v3, .inl v4] ρ Q := by
  have go : vp_in v1 9 → vp_in v2 6 → vp_in v3 6 → ltF v4 → kX8_read_52 (d + 28) Q v1 v2 v3 v4 ρ := fun a b c e => by
    obtain ⟨x, hx, rfl⟩ := vp_num (by decide) a
    obtain ⟨f, hf, rfl⟩ := vp_num (by decide) b
    obtain ⟨p, hp, rfl⟩ := vp_num (by decide) c
    have ei := ix_let hf hx hp
    have ec : (nI (54 * f + 6 * x + p)).toNatClampNeg = 54 * f + 6 * x + p := nI_clamp (by omega)
    refine bX8_read_52 (by rw [ei]; exact vp_in_nI (by omega) (by decide)) ?_
    have el : jX8_letterAt ρ (nI f) (nI x) (nI p) = ρ 51 0 (54 * f + 6 * x + p) := by
      unfold jX8_letterAt
      rw [ei, ec]
    rw [el, ei, ec]
    exact h3 x f p hx hf hp rfl rfl rfl e
  refine eX8_read (bX8_read_0 (fun c => h1 (fun q => (z0 ia8).mp c q.1)) (fun _ c => h1 (fun q => (z0 ia5).mp c q.2.1)) (fun c1 c2 c3 c4 => go (ia8.mp c1) (ia5.mp c2) (ia5.mp c3) (Or.inl c4)) (fun c1 c2 c3 _ c4 => go (ia8.mp c1) (ia5.mp c2) (ia5.mp c3) (Or.inr (ia9.mp c4))) (fun c1 c2 c3 c4 c5 => h2 (ia8.mp c1) (ia5.mp c2) (ia5.mp c3) (fun q => q.elim c4 ((z0 ia9).mp c5))) (fun _ _ c => h1 (fun q => (z0 ia5).mp c q.2.2)))
theorem m_agree (h1 : ¬ (vp_in v1 6 ∧ vp_in v2 9 ∧ vp_in v3 9) → Q (some (.inl (-900001))) ρ) (h2 : ∀ f a b, f < 6 → a < 9 → b < 9 → v1 = nI f → v2 = nI a → v3 = nI b → Q (some (.inl (jbP (mAlk ρ f a b)))) ρ) : ps_C mX8_agree (d + 30) [ps_m, .inl v1, .inl v2, .inl v3] ρ Q := by
  have go : ¬ jbIn v1.toInt64 0 5 = 0 → ¬ jbIn v2.toInt64 0 8 = 0 → ¬ jbIn v3.toInt64 0 8 = 0 → ∃ f a b, f < 6 ∧ a < 9 ∧ b < 9 ∧ v1 = nI f ∧ v2 = nI a ∧ v3 = nI b := fun a b c => by
    obtain ⟨f, hf, rfl⟩ := vp_num (by decide) (ia5.mp a)
    obtain ⟨x, hx, rfl⟩ := vp_num (by decide) (ia8.mp b)
    obtain ⟨y, hy, rfl⟩ := vp_num (by decide) (ia8.mp c)
    exact ⟨f, x, y, hf, hx, hy, rfl, rfl, rfl⟩
  refine eX8_agree (bX8_agree_0 (fun c => h1 (fun q => (z0 ia5).mp c q.1)) (fun _ c => h1 (fun q => (z0 ia8).mp c q.2.1)) (fun c _ _ => ia5.mp c) (fun _ c _ => ia8.mp c) (fun _ _ c => ia8.mp c) (fun c1 c2 c3 c => ?_) (fun c1 c2 c3 c => ?_) (fun _ _ c => h1 (fun q => (z0 ia8).mp c q.2.2)))
  all_goals
    obtain ⟨f, a, b, hf, ha, hb, rfl, rfl, rfl⟩ := go c1 c2 c3
    have hq := h2 f a b hf ha hb rfl rfl rfl
    rw [nI_clamp (n := f) (by omega), nI_clamp (n := a) (by omega), nI_clamp (n := b) (by omega), jbP_0] at c
  · rw [jbP_f c] at hq; exact hq
  · rw [jbP_t (Classical.not_not.mp c)] at hq; exact hq
theorem m_states (h51 : ρ 51 0 = τ 51 0) (h1 : ¬ vp_in v1 6 → Q (some (.inl (-900001))) ρ) (h2 : ∀ f ρ', f < 6 → v1 = nI f → frB ρ ρ' → Q (some (.inl (nI (nst τ f)))) ρ') : ps_C mX8_states (d + 30) [ps_m, .inl v1] ρ Q := by
  refine eX8_states (bX8_states_0 (fun c => ?_) (fun c => h1 ((z0 ia5).mp c)))
  obtain ⟨f, hf, rfl⟩ := vp_num (by decide) (ia5.mp c)
  refine pX8_layStates (d := d + 25) hf h51 (fun ρ' e1 e2 => ⟨rfl, bX8_states_15 ?_⟩)
  rw [e2.1]
  exact h2 f ρ' hf rfl (frB_L e1)
theorem m_state (h51 : ρ 51 0 = τ 51 0) (h1 : ¬ (vp_in v1 6 ∧ vp_in v2 9) → Q (some (.inl (-900001))) ρ) (h2 : ∀ f c ρ', f < 6 → c < 9 → v1 = nI f → v2 = nI c → frB ρ ρ' → Q (some (.inl (stN τ f c))) ρ') : ps_C mX8_state (d + 30) [ps_m, .inl v1, .inl v2] ρ Q := by
  refine eX8_state (bX8_state_0 (fun c => h1 (fun q => (z0 ia5).mp c q.1)) (fun c c2 => ?_) (fun _ c => h1 (fun q => (z0 ia8).mp c q.2)))
  obtain ⟨f, hf, rfl⟩ := vp_num (by decide) (ia5.mp c)
  obtain ⟨x, hx, rfl⟩ := vp_num (by decide) (ia8.mp c2)
  refine pX8_layStates (d := d + 25) hf h51 (fun ρ' e1 e2 => ⟨rfl, bX8_state_22 (vp_in_nI hx (by decide)) ?_⟩)
  rw [nI_clamp (by omega), e2.2 x hx]
  exact h2 f x ρ' hf hx rfl rfl (frB_L e1)
theorem inS {ρ : ps_S} {n : Nat} (hn : n < 2 ^ 31) (h : ρ 50 0 1 = nI n) {v : Int32} : ¬ jbIn v.toInt64 0 (((ρ 50 0 1) - 1).toInt64) = 0 ↔ vp_in v n := by rw [h]; exact in_iffp hn
theorem m_letter (h51 : ρ 51 0 = τ 51 0) (h1 : ¬ vp_in v1 6 → Q (some (.inl (-900001))) ρ) (h2 : ∀ f ρ', f < 6 → v1 = nI f → frB ρ ρ' → ¬ (vp_in v2 (nst τ f) ∧ vp_in v3 6) → Q (some (.inl (-900001))) ρ') (h3 : ∀ f p ρ', f < 6 → p < 6 → v1 = nI f → v3 = nI p → vp_in v2 (nst τ f) → frB ρ ρ' → Q (some (.inl (glN τ f v2 p))) ρ') : ps_C mX8_letter (d + 30) [ps_m, .inl v1, .inl v2, .inl v3] ρ Q := by
  refine eX8_letter (bX8_letter_0 (fun c => h1 ((z0 ia5).mp c)) (fun c c2 => ?_) (fun c c2 => ?_))
  · obtain ⟨f, hf, rfl⟩ := vp_num (by decide) (ia5.mp c)
    obtain ⟨p, hp, rfl⟩ := vp_num (by decide) (ia5.mp c2)
    have hn := nst_le τ f
    refine pX8_layStates (d := d + 25) hf h51 (fun ρ' e1 e2 => ⟨rfl, ?_⟩)
    have hi := inS (ρ := ρ') (n := nst τ f) (by omega) e2.1 (v := v2)
    refine bX8_letter_27 (fun q => h2 f ρ' hf rfl (frB_L e1) (fun w => (z0 hi).mp q w.1)) (fun _ => vp_in_nI hf (by decide)) (fun _ => vp_in_nI hp (by decide)) (fun q => ?_)
    rw [nI_clamp (n := f) (by omega), nI_clamp (n := p) (by omega), mGl_eq (by rw [e1.1 51 (by decide) (by decide) (by decide)]; exact h51) e2.2]
    exact h3 f p ρ' hf hp rfl rfl (hi.mp q) (frB_L e1)
  · obtain ⟨f, hf, rfl⟩ := vp_num (by decide) (ia5.mp c)
    exact h2 f ρ hf rfl (frB_refl ρ) (fun w => (z0 ia5).mp c2 w.2)
theorem m_changes (h51 : ρ 51 0 = τ 51 0) (h1 : ¬ vp_in v1 6 → Q (some (.inl (-900001))) ρ) (h2 : ∀ f ρ', f < 6 → v1 = nI f → frB ρ ρ' → ¬ (vp_in v2 (nst τ f) ∧ vp_in v3 (nst τ f)) → Q (some (.inl (-900001))) ρ') (h3 : ∀ f ρ', f < 6 → v1 = nI f → vp_in v2 (nst τ f) → vp_in v3 (nst τ f) → frB ρ ρ' → Q (some (.inl (nI (chI τ f v2 v3)))) ρ') : ps_C mX8_changes (d + 30) [ps_m, .inl v1, .inl v2, .inl v3] ρ Q := by
  refine eX8_changes (bX8_changes_0 (fun c => ?_) (fun c => h1 ((z0 ia5).mp c)))
  obtain ⟨f, hf, rfl⟩ := vp_num (by decide) (ia5.mp c)
  have hn := nst_le τ f
  refine pX8_layStates (d := d + 25) hf h51 (fun ρ' e1 e2 => ⟨rfl, ?_⟩)
  have hi : ∀ {v : Int32}, ¬ jbIn v.toInt64 0 (((ρ' 50 0 1) - 1).toInt64) = 0 ↔ vp_in v (nst τ f) := inS (ρ := ρ') (n := nst τ f) (by omega) e2.1
  refine bX8_changes_15 (fun q => h2 f ρ' hf rfl (frB_L e1) (fun w => (z0 hi).mp q w.1)) (fun _ q => h2 f ρ' hf rfl (frB_L e1) (fun w => (z0 hi).mp q w.2)) (fun _ _ => vp_in_nI hf (by decide)) (fun q q2 => ?_)
  have l51 : ρ' 51 0 = τ 51 0 := by rw [e1.1 51 (by decide) (by decide) (by decide)]; exact h51
  have e : cntN 6 (fun p => ¬ jbUn (mGl ρ' (nI f).toNatClampNeg v2 p) (mGl ρ' (nI f).toNatClampNeg v3 p) = 0) = chI τ f v2 v3 := cnt_congr (fun p hp => by rw [nI_clamp (n := f) (by omega), mGl_eq l51 e2.2, mGl_eq l51 e2.2])
  rw [e]
  exact h3 f ρ' hf rfl (hi.mp q) (hi.mp q2) (frB_L e1)
theorem m_ahead (hb : v4 = 0 ∨ v4 = 1) (hr : ∀ f a b, f < 6 → a < 9 → b < 9 → ρ 58 0 (81 * f + 9 * a + b) = 0 ∨ ρ 58 0 (81 * f + 9 * a + b) = 1) (h1 : ¬ (vp_in v1 6 ∧ vp_in v2 9 ∧ vp_in v3 9) → Q (some (.inl (-900001))) ρ) (h2 : vp_in v1 6 → vp_in v2 9 → vp_in v3 9 → v2 = v3 → Q (some (.inl (-900003))) ρ) (h3 : ∀ f a b, f < 6 → a < 9 → b < 9 → a ≠ b → v1 = nI f → v2 = nI a → v3 = nI b → Q (some (.inl (ρ 58 0 (81 * f + 9 * a + b)))) (ps_up ρ 58 0 (81 * f + 9 * a + b) v4)) : ps_C mX8_ahead (d + 30) [ps_m, .inl v1, .inl v2, .inl v3, .inl v4] ρ Q := by
  have go : ¬ jbIn v1.toInt64 0 5 = 0 → ¬ jbIn v2.toInt64 0 8 = 0 → ¬ jbIn v3.toInt64 0 8 = 0 → ¬ v2 = v3 → ∃ f a b, f < 6 ∧ a < 9 ∧ b < 9 ∧ a ≠ b ∧ v1 = nI f ∧ v2 = nI a ∧ v3 = nI b ∧ ((81 * v1) + (9 * v2)) + v3 = nI (81 * f + 9 * a + b) := fun a b c e => by
    obtain ⟨f, hf, rfl⟩ := vp_num (by decide) (ia5.mp a)
    obtain ⟨x, hx, rfl⟩ := vp_num (by decide) (ia8.mp b)
    obtain ⟨y, hy, rfl⟩ := vp_num (by decide) (ia8.mp c)
    refine ⟨f, x, y, hf, hx, hy, fun q => e (by rw [q]), rfl, rfl, rfl, ?_⟩
    rw [show (81 : Int32) = nI 81 from rfl, show (9 : Int32) = nI 9 from rfl, ix_mul, ix_mul, nI_add, nI_add]
  refine eX8_ahead (bX8_ahead_0 (fun c => h1 (fun q => (z0 ia5).mp c q.1)) (fun _ c => h1 (fun q => (z0 ia8).mp c q.2.1)) (fun c1 c2 c3 c4 => ?_) (fun c1 c2 c3 c4 c => ?_) (fun c1 c2 c3 c4 c => ?_) (fun c1 c2 c3 c4 => h2 (ia5.mp c1) (ia8.mp c2) (ia8.mp c3) c4) (fun _ _ c => h1 (fun q => (z0 ia8).mp c q.2.2)))
  · obtain ⟨f, a, b, hf, ha, hb', _, _, _, _, ei⟩ := go c1 c2 c3 c4
    rw [ei]
    exact vp_in_nI (by omega) (by decide)
  all_goals
    obtain ⟨f, a, b, hf, ha, hb', hab, e1, e2, e3, ei⟩ := go c1 c2 c3 c4
    have ec : (nI (81 * f + 9 * a + b)).toNatClampNeg = 81 * f + 9 * a + b := nI_clamp (by omega)
    refine bX8_ahead_56 (by rw [ei]; exact vp_in_nI (by omega) (by decide)) hb ?_
    rw [ei, ec] at c ⊢
    have hq := h3 f a b hf ha hb' hab e1 e2 e3
  · rw [c] at hq
    exact hq
  · rw [(hr f a b hf ha hb').elim (fun q => absurd q c) id] at hq
    exact hq
/-- what a question about orders wants of the reference's cells -/
def prO (τ ρ : ps_S) : Prop := ρ 51 0 = τ 51 0 ∧ ρ 58 0 = τ 58 0 ∧ ∀ f a b, f < 6 → a < 9 → b < 9 → τ 58 0 (81 * f + 9 * a + b) = 0 ∨ τ 58 0 (81 * f + 9 * a + b) = 1
theorem frB_61 {ρ ρ' : ps_S} (h : ∀ g, g ≠ 61 → g ≠ 62 → ρ' g = ρ g) : frB ρ ρ' := frB_g (fun g x => h g (by omega) (by omega))
theorem m_least (h : prO τ ρ) (h1 : ¬ vp_in v1 6 → Q (some (.inl (-900001))) ρ) (h2 : ∀ f ρ', f < 6 → v1 = nI f → frB ρ ρ' → Q (some (.inl (lsN τ f))) ρ') : ps_C mX8_least (d + 30) [ps_m, .inl v1] ρ Q := by
  refine eX8_least (bX8_least_0 (fun c => ?_) (fun c => h1 ((z0 ia5).mp c)))
  obtain ⟨f, hf, rfl⟩ := vp_num (by decide) (ia5.mp c)
  have hn := nst_le τ f
  have okw := okW_le (fW_ok τ f)
  refine pX8_layNeeds (d := d + 24) hf h.1 h.2.1 (fun a b ha hb => h.2.2 f a b hf ha hb) (fun ρ1 e1 _ e3 => ⟨rfl, bX8_least_15 (pX8_layOrders hn (chF_le τ f) e3 (fun ρ2 g1 g2 => ⟨rfl, bX8_least_19 ?_⟩))⟩)
  have hS : mS (nst τ f) (ndF τ f) (chF τ f) ρ2 := by unfold mS; rw [g1 50 (by decide) (by decide), g1 59 (by decide) (by decide), g1 60 (by decide) (by decide)]; exact e3
  have hfar : far = 100000000 := rfl
  have fin := h2 f ρ2 hf rfl (frB_trans e1 (frB_61 g1))
  unfold lsN at fin
  have hlt : nI (fW τ f).1 < 100000000 ↔ (fW τ f).1 < far := nI_ltI (a := (fW τ f).1) (b := far) (by omega) (by decide)
  refine pX8_leastCost hn (chF_le τ f) hS g2 ⟨_, rfl, bX8_least_23 (fun q => ?_) (fun q => ?_)⟩
  · rw [if_pos (hlt.mp q)] at fin
    exact fin
  · rw [if_neg (fun w => q (hlt.mpr w))] at fin
    exact fin
theorem m_orders (h : prO τ ρ) (h1 : ¬ vp_in v1 6 → Q (some (.inl (-900001))) ρ) (h2 : ∀ f ρ', f < 6 → v1 = nI f → frB ρ ρ' → Q (some (.inl (nI (fW τ f).2))) ρ') : ps_C mX8_orders (d + 30) [ps_m, .inl v1] ρ Q := by
  refine eX8_orders (bX8_orders_0 (fun c => ?_) (fun c => h1 ((z0 ia5).mp c)))
  obtain ⟨f, hf, rfl⟩ := vp_num (by decide) (ia5.mp c)
  have hn := nst_le τ f
  refine pX8_layNeeds (d := d + 24) hf h.1 h.2.1 (fun a b ha hb => h.2.2 f a b hf ha hb) (fun ρ1 e1 _ e3 => ⟨rfl, bX8_orders_15 (pX8_layOrders hn (chF_le τ f) e3 (fun ρ2 g1 g2 => ⟨rfl, bX8_orders_19 ?_⟩))⟩)
  have hS : mS (nst τ f) (ndF τ f) (chF τ f) ρ2 := by unfold mS; rw [g1 50 (by decide) (by decide), g1 59 (by decide) (by decide), g1 60 (by decide) (by decide)]; exact e3
  exact pX8_leastCost hn (chF_le τ f) hS g2 ⟨_, rfl, bX8_orders_24 (pX8_waysOf hn (chF_le τ f) hS g2 ⟨_, rfl, bX8_orders_27 (h2 f ρ2 hf rfl (frB_trans e1 (frB_61 g1)))⟩)⟩
theorem mS_nd2 {n a b : Nat} {nd : Nat → Nat → Prop} {ch : Nat → Nat → Nat} {ρ : ps_S} (ha : a < 9) (hb : b < n) (h : mS n nd ch ρ) : mS n (nd2 nd a b) ch (ps_up ρ 59 0 b (ρ 59 0 b ||| ((1 : Int32) <<< (nI a &&& 31)))) := by
  refine ⟨by rw [ps_up_o (by decide)]; exact h.1, fun s hs => ?_, fun x y h1 h2 => by rw [ps_up_o (by decide)]; exact h.2.2 x y h1 h2⟩
  by_cases e : s = b
  · subst e
    rw [ps_up_s]
    exact bm_congr (bm_or (h.2.1 s hs) (bm_1 ha (by decide))) (fun t _ => ⟨fun q => q.elim Or.inl (fun z => Or.inr ⟨rfl, z⟩), fun q => q.elim Or.inl (fun z => Or.inr z.2)⟩)
  · rw [ps_up_v (by omega)]
    exact bm_congr (h.2.1 s hs) (fun t _ => ⟨Or.inl, fun q => q.elim id (fun z => absurd z.1 e)⟩)
theorem m_before (h : prO τ ρ) (h1 : ¬ vp_in v1 6 → Q (some (.inl (-900001))) ρ) (h2 : ∀ f ρ', f < 6 → v1 = nI f → frB ρ ρ' → ¬ (vp_in v2 (nst τ f) ∧ vp_in v3 (nst τ f)) → Q (some (.inl (-900001))) ρ') (h3 : ∀ f ρ', f < 6 → v1 = nI f → vp_in v2 (nst τ f) → vp_in v3 (nst τ f) → v2 = v3 → frB ρ ρ' → Q (some (.inl (-900003))) ρ') (h4 : ∀ f a b ρ', f < 6 → v1 = nI f → v2 = nI a → v3 = nI b → a < nst τ f → b < nst τ f → a ≠ b → frB ρ ρ' → Q (some (.inl (bfN τ f a b))) ρ') : ps_C mX8_before (d + 30) [ps_m, .inl v1, .inl v2, .inl v3] ρ Q := by
  refine eX8_before (bX8_before_0 (fun c => ?_) (fun c => h1 ((z0 ia5).mp c)))
  obtain ⟨f, hf, rfl⟩ := vp_num (by decide) (ia5.mp c)
  have hn := nst_le τ f
  refine pX8_layNeeds (d := d + 24) hf h.1 h.2.1 (fun a b ha hb => h.2.2 f a b hf ha hb) (fun ρ1 e1 e2 e3 => ⟨rfl, ?_⟩)
  have hi : ∀ {v : Int32}, ¬ jbIn v.toInt64 0 (((ρ1 50 0 1) - 1).toInt64) = 0 ↔ vp_in v (nst τ f) := inS (ρ := ρ1) (n := nst τ f) (by omega) e2.1
  refine bX8_before_15 (fun q => h2 f ρ1 hf rfl e1 (fun w => (z0 hi).mp q w.1)) (fun q q2 c4 => ?_) (fun q q2 c4 => h3 f ρ1 hf rfl (hi.mp q) (hi.mp q2) c4 e1) (fun _ q => h2 f ρ1 hf rfl e1 (fun w => (z0 hi).mp q w.2))
  obtain ⟨a, ha, rfl⟩ := vp_num (by omega) (hi.mp q)
  obtain ⟨b, hb, rfl⟩ := vp_num (by omega) (hi.mp q2)
  have hab : a ≠ b := fun z => c4 (by rw [z])
  refine pX8_layOrders hn (chF_le τ f) e3 (fun ρ2 g1 g2 => ⟨rfl, bX8_before_62 ?_⟩)
  have hS : mS (nst τ f) (ndF τ f) (chF τ f) ρ2 := by unfold mS; rw [g1 50 (by decide) (by decide), g1 59 (by decide) (by decide), g1 60 (by decide) (by decide)]; exact e3
  refine pX8_leastCost hn (chF_le τ f) hS g2 ⟨_, rfl, bX8_before_66 (vp_in_nI (by omega) (by decide)) ?_⟩
  rw [nI_clamp (n := b) (by omega)]
  have hS2 := mS_nd2 (a := a) (by omega) hb hS
  refine pX8_layOrders hn (chF_le τ f) hS2 (fun ρ3 k1 k2 => ⟨rfl, bX8_before_84 ?_⟩)
  have hS3 : mS (nst τ f) (nd2 (ndF τ f) a b) (chF τ f) ρ3 := by unfold mS; rw [k1 50 (by decide) (by decide), k1 59 (by decide) (by decide), k1 60 (by decide) (by decide)]; exact hS2
  have fr3 : frB ρ ρ3 := frB_trans e1 (frB_trans (frB_61 g1) (frB_trans (frB_g (fun g x => ps_up_o (by omega))) (frB_61 k1)))
  have fin := h4 f a b ρ3 hf rfl rfl rfl ha hb hab fr3
  have okw := fW_ok τ f
  have ok2 : okW (rW (nst τ f) (nd2 (ndF τ f) a b) (chF τ f)) := rW_ok hn (chF_le τ f)
  have l1 := okW_le okw
  have l2 := okW_le ok2
  have hfar : far = 100000000 := rfl
  unfold bfN at fin
  refine pX8_leastCost hn (chF_le τ f) hS3 k2 ⟨_, rfl, bX8_before_88 (fun w => ?_) (fun w => ?_)⟩
  · have w2 : ¬ (rW (nst τ f) (nd2 (ndF τ f) a b) (chF τ f)).1 = (fW τ f).1 := fun z => w (by rw [z]; rfl)
    rw [if_neg (fun t => w2 t.2)] at fin
    exact fin
  · have w2 : (rW (nst τ f) (nd2 (ndF τ f) a b) (chF τ f)).1 = (fW τ f).1 := (nI_eq (by omega) (by omega)).mp w
    rw [← w]
    refine pX8_waysOf hn (chF_le τ f) hS3 k2 ⟨_, rfl, bX8_before_99 ?_⟩
    by_cases z : (fW τ f).1 < far
    · rw [if_pos ⟨z, w2⟩] at fin
      exact fin
    · rw [if_neg (fun t => z t.1)] at fin
      rw [okW_far ok2 (by omega)]
      exact fin
/-- isNext of the reference -/
theorem isNx {n : Nat} {nd : Nat → Nat → Prop} {ch : Nat → Nat → Nat} (hn : n ≤ 9) (hch : ∀ a b, ch a b ≤ 6) (h : mS n nd ch ρ) (hR : mR n nd ch ρ 1) {s a x : Nat} (hs : s < 2 ^ n) (hs0 : 1 ≤ s) (ha : a < n) (hx : x < n) (hlt : (rT n nd ch s a).1 < far) : jX8_isNext ρ (nI s) (nI a) (nI x) = jbP (nxC n nd ch s (ch a) (rT n nd ch s a).1 x) := by
  have h2n := p29 hn
  have hs5 : s < 512 := by omega
  have hxc : (nI x).toNatClampNeg = x := nI_clamp (by omega)
  have hso : s ||| 2 ^ x < 512 := Nat.lt_of_lt_of_le (or_lt hs hx) h2n
  have hfar : far = 100000000 := rfl
  have z1 : (nI s >>> (nI x &&& 31)) &&& 1 = 0 ↔ ¬ s.testBit x = true := by rw [bm_bit (bmN hs5) (show x < 9 by omega) (by decide), jbP_0]
  have z2 : (ρ 59 0 x) &&& (nI s ^^^ (-1)) = 0 ↔ ∀ i, i < 9 → ¬ (nd x i ∧ ¬ s.testBit i = true) := bm_zero (bm_diff (h.2.1 x hx) (bmN hs5)) (by decide)
  unfold jX8_isNext
  rw [hxc, ix9 a x, ix9o (by omega), ix9 s a, nI_clamp (n := 9 * a + x) (by omega), nI_clamp (n := 9 * (s ||| 2 ^ x) + x) (by omega), nI_clamp (n := 9 * s + a) (by omega), h.2.2 a x ha hx]
  by_cases c1 : s.testBit x = true
  · rw [if_pos (fun q => z1.mp q c1), jbP_f (fun q => by rw [q.1.1] at c1; cases c1)]
  · rw [if_neg (fun q => q (z1.mpr c1))]
    rw [Bool.not_eq_true] at c1
    by_cases c2 : ∀ i, i < 9 → ¬ (nd x i ∧ ¬ s.testBit i = true)
    · have hm : myN nd s x := ⟨c1, fun i hi hd => Classical.not_not.mp (fun q => c2 i hi ⟨hd, q⟩)⟩
      have hgt := or_gt c1
      have r1 := (hR (s ||| 2 ^ x) x (by omega) (or_lt hs hx) hx).1
      have r2 := (hR s a hs0 hs ha).1
      have o1 := okW_le (rT_ok (nd := nd) hn hch (l := x) (or_lt hs hx))
      have hc := hch a x
      rw [if_neg (fun q => q (z2.mpr c2)), r1, r2, nI_add]
      have e : nI (ch a x + (rT n nd ch (s ||| 2 ^ x) x).1) = nI (rT n nd ch s a).1 ↔ ch a x + (rT n nd ch (s ||| 2 ^ x) x).1 = (rT n nd ch s a).1 := nI_eq (by omega) (by omega)
      by_cases c3 : ch a x + (rT n nd ch (s ||| 2 ^ x) x).1 = (rT n nd ch s a).1
      · rw [if_neg (fun q => q (e.mpr c3)), jbP_t ⟨hm, by omega, c3⟩]
      · rw [if_pos (fun q => c3 (e.mp q)), jbP_f (fun q => c3 q.2.2)]
    · rw [if_pos (fun q => c2 (z2.mp q)), jbP_f (fun q => c2 (fun i hi w => w.2 (q.1.2 i hi w.1)))]
theorem m_first (h : prO τ ρ) (h1 : ¬ vp_in v1 6 → Q (some (.inl (-900001))) ρ) (h2 : ∀ f ρ', f < 6 → v1 = nI f → ¬ vp_in v2 9 → frB ρ ρ' → Q (some (.inl (-900009))) ρ') (h3 : ∀ f i ρ', f < 6 → i < 9 → v1 = nI f → v2 = nI i → frB ρ ρ' → Q (some (.inl (fsN τ f i))) ρ') : ps_C mX8_first (d + 30) [ps_m, .inl v1, .inl v2] ρ Q := by
  refine eX8_first (bX8_first_0 (fun c => ?_) (fun c => h1 ((z0 ia5).mp c)))
  obtain ⟨f, hf, rfl⟩ := vp_num (by decide) (ia5.mp c)
  have hn := nst_le τ f
  have hch := chF_le τ f
  have okw := okW_le (fW_ok τ f)
  have hfar : far = 100000000 := rfl
  refine pX8_layNeeds (d := d + 24) hf h.1 h.2.1 (fun a b ha hb => h.2.2 f a b hf ha hb) (fun ρ1 e1 _ e3 => ⟨rfl, bX8_first_15 (pX8_layOrders hn hch e3 (fun ρ2 g1 g2 => ⟨rfl, bX8_first_19 ?_⟩))⟩)
  have hS : mS (nst τ f) (ndF τ f) (chF τ f) ρ2 := by unfold mS; rw [g1 50 (by decide) (by decide), g1 59 (by decide) (by decide), g1 60 (by decide) (by decide)]; exact e3
  have fr2 : frB ρ ρ2 := frB_trans e1 (frB_61 g1)
  have hi : ¬ jbIn v2.toInt64 0 (((ρ2 50 0 1) - 1).toInt64) = 0 ↔ vp_in v2 (nst τ f) := inS (ρ := ρ2) (n := nst τ f) (by omega) hS.1
  have hle : (100000000 : Int32) ≤ nI (fW τ f).1 ↔ far ≤ (fW τ f).1 := nI_leI (a := far) (b := (fW τ f).1) (by decide) (by omega)
  -- no such place
  have none9 : ((fW τ f).1 < far → ¬ vp_in v2 (nst τ f)) → Q (some (.inl (-900009))) ρ2 := by
    intro q
    by_cases w : vp_in v2 9
    · obtain ⟨i, hi9, rfl⟩ := vp_num (by decide) w
      have fin := h3 f i ρ2 hf hi9 rfl rfl fr2
      unfold fsN at fin
      rw [if_neg (fun t => q t.1 (vp_in_nI t.2 (by omega)))] at fin
      exact fin
    · exact h2 f ρ2 hf rfl w fr2
  refine pX8_leastCost hn hch hS g2 ⟨_, rfl, bX8_first_23 (fun q => none9 (fun w => absurd (hle.mp q) (by omega))) (fun q q2 => ?_) (fun _ q => none9 (fun _ => (z0 hi).mp q))⟩
  have hW : (fW τ f).1 < far := by
    rcases Nat.lt_or_ge (fW τ f).1 far with z | z
    · exact z
    · exact absurd (hle.mpr z) q
  obtain ⟨i, hi0, rfl⟩ := vp_num (by omega) (hi.mp q2)
  have fin := h3 f i ρ2 hf (by omega) rfl rfl fr2
  unfold fsN at fin
  rw [if_pos ⟨hW, hi0⟩] at fin
  -- on from place k
  have walk : ∀ r k, k + r = i → kX8_first_96 (d + 28) Q (nI i) (nI (sq (nst τ f) (ndF τ f) (chF τ f) k).2) (nI (sq (nst τ f) (ndF τ f) (chF τ f) k).1) (nI k) ρ2 := by
    intro r
    induction r with
    | zero =>
      intro k hk
      obtain rfl : k = i := by omega
      exact bX8_first_96 (fun _ => fin) (fun q => absurd (nI_le (Nat.le_refl _) (by omega)) q)
    | succ r ih =>
      intro k hk
      have hnx := ih (k + 1) (by omega)
      obtain ⟨b1, b2, b3, b4, b5⟩ := sq_ok (nd := ndF τ f) (ch := chF τ f) hn hW k (by omega)
      have hnf : ¬ (sq (nst τ f) (ndF τ f) (chF τ f) k).1 + 1 = 2 ^ (nst τ f) := fun z => by
        have := msg_full z
        omega
      have hF := nxO_isF (st := chF τ f (sq (nst τ f) (ndF τ f) (chF τ f) k).2) (congrArg Prod.fst (rT_step b1 hnf)).symm b4
      obtain ⟨x, hx⟩ : ∃ x, x = nxO (nst τ f) (ndF τ f) (chF τ f) (sq (nst τ f) (ndF τ f) (chF τ f) k).1 (chF τ f (sq (nst τ f) (ndF τ f) (chF τ f) k).2) (rT (nst τ f) (ndF τ f) (chF τ f) (sq (nst τ f) (ndF τ f) (chF τ f) k).1 (sq (nst τ f) (ndF τ f) (chF τ f) k).2).1 := ⟨_, rfl⟩
      have e0 : sq (nst τ f) (ndF τ f) (chF τ f) (k + 1) = ((sq (nst τ f) (ndF τ f) (chF τ f) k).1 ||| 2 ^ x, x) := by rw [hx]; rfl
      rw [e0] at hnx
      rw [← hx] at hF
      obtain ⟨hx0, hC, hno⟩ := hF
      generalize (sq (nst τ f) (ndF τ f) (chF τ f) k).1 = s at *
      generalize (sq (nst τ f) (ndF τ f) (chF τ f) k).2 = a at *
      have hs0 : 1 ≤ s := by
        rcases Nat.eq_zero_or_pos s with z | z
        · rw [z, Nat.zero_testBit] at b3; cases b3
        · exact z
      have h2n := p29 hn
      refine bX8_first_96 (lpN (show k < i by omega) (by omega)) (fun _ => ?_)
      have look : ∀ t y, y + t = x → kX8_first_105 (d + 28) Q (nI i) (nI a) (nI s) (nI k) (nI y) ρ2 := by
        intro t
        induction t with
        | zero =>
          intro y hy
          obtain rfl : y = x := by omega
          have hso : s ||| 2 ^ y < 512 := Nat.lt_of_lt_of_le (or_lt b1 hx0) h2n
          have ej := isNx hn hch hS g2 b1 hs0 b2 hx0 b4
          rw [jbP_t hC] at ej
          refine bX8_first_105 (fun _ => vp_in_nI (by omega) (by decide)) (fun _ _ => by rw [ix9]; exact vp_in_nI (by omega) (by decide)) (fun _ _ => by rw [ix9o (by omega)]; exact vp_in_nI (by omega) (by decide)) (fun _ _ => by rw [ix9]; exact vp_in_nI (by omega) (by decide)) (fun _ => ?_) (fun z => ?_)
          · rw [or_nI (by omega), nI_1]
            exact hnx
          · rw [ej] at z
            exact absurd z (by decide)
        | succ t ih2 =>
          intro y hy
          have hy0 : y < nst τ f := by omega
          have hso : s ||| 2 ^ y < 512 := Nat.lt_of_lt_of_le (or_lt b1 hy0) h2n
          have ej := isNx hn hch hS g2 b1 hs0 b2 hy0 b4
          rw [jbP_f (hno y (by omega))] at ej
          refine bX8_first_105 (fun _ => vp_in_nI (by omega) (by decide)) (fun _ _ => by rw [ix9]; exact vp_in_nI (by omega) (by decide)) (fun _ _ => by rw [ix9o (by omega)]; exact vp_in_nI (by omega) (by decide)) (fun _ _ => by rw [ix9]; exact vp_in_nI (by omega) (by decide)) (fun z => absurd ej z) (fun _ => ?_)
          rw [nI_1]
          exact ih2 (y + 1) (by omega)
      exact look x 0 (by omega)
  have e : (fd (nst τ f) (fun x => thr (myN (ndF τ f) 0 x) 0 (rT (nst τ f) (ndF τ f) (chF τ f) (0 ||| 2 ^ x) x))).1 = (fW τ f).1 := by
    unfold fW rW
    rw [if_neg (by omega)]
    exact congrArg Prod.fst (fd_congr (fun i _ => by rw [Nat.zero_or]))
  have hF := nxO_isF (st := fun _ => 0) e hW
  obtain ⟨x, hx⟩ : ∃ x, x = nxO (nst τ f) (ndF τ f) (chF τ f) 0 (fun _ => 0) (fW τ f).1 := ⟨_, rfl⟩
  have e0 : sq (nst τ f) (ndF τ f) (chF τ f) 0 = (2 ^ x, x) := by rw [hx]; rfl
  rw [← hx] at hF
  obtain ⟨hx0, hC, hno⟩ := hF
  have w0 := walk i 0 (by omega)
  rw [e0] at w0
  have cond : ∀ y, y < nst τ f → ρ2 59 0 y = 0 → (ρ2 61 0 (9 * 2 ^ y + y) = nI (fW τ f).1 ↔ nxC (nst τ f) (ndF τ f) (chF τ f) 0 (fun _ => 0) (fW τ f).1 y) := by
    intro y hy hz
    obtain ⟨k1, k2, k3⟩ := g0_x hn hS g2 hch hy
    have hm := k1.mp hz
    have o1 := okW_le (g0_ok (nd := ndF τ f) hn hch hy)
    rw [(k3 hm).1, nI_eq (by omega) (by omega)]
    unfold nxC g0
    rw [Nat.zero_or]
    by_cases z : (rT (nst τ f) (ndF τ f) (chF τ f) (2 ^ y) y).1 < far
    · rw [thr_t hm z]
      exact ⟨fun w => ⟨hm, z, w⟩, fun w => w.2.2⟩
    · rw [thr_f2 z]
      refine ⟨fun w => ?_, fun w => absurd w.2.1 z⟩
      have w : far = (fW τ f).1 := w
      omega
  have start : ∀ t y, y + t = x → kX8_first_52 (d + 28) Q (nI i) (nI (fW τ f).1) (nI y) ρ2 := by
    intro t
    induction t with
    | zero =>
      intro y hy
      obtain rfl : y = x := by omega
      obtain ⟨k1, k2, k3⟩ := g0_x hn hS g2 hch hx0
      have hz := k1.mpr hC.1
      refine bX8_first_52 (vp_in_nI (by omega) (by decide)) (fun z => ?_) (fun _ => by rw [c1x (by omega)]; exact vp_in_nI k2 (by decide)) (fun _ _ => ?_) (fun _ z => ?_)
      · rw [nI_clamp (by omega)] at z
        exact absurd hz z
      · rw [nx_sh1 y (by omega)]
        exact w0
      · rw [c1x (by omega), nI_clamp (by omega)] at z
        exact absurd ((cond y hx0 hz).mpr hC) z
    | succ t ih =>
      intro y hy
      have hy0 : y < nst τ f := by omega
      obtain ⟨k1, k2, k3⟩ := g0_x hn hS g2 hch hy0
      have hnx := ih (y + 1) (by omega)
      rw [← nI_1 y] at hnx
      refine bX8_first_52 (vp_in_nI (by omega) (by decide)) (fun _ => hnx) (fun _ => by rw [c1x (by omega)]; exact vp_in_nI k2 (by decide)) (fun z z2 => ?_) (fun _ _ => hnx)
      rw [nI_clamp (by omega)] at z
      rw [c1x (by omega), nI_clamp (by omega)] at z2
      exact absurd ((cond y hy0 z).mp z2) (hno y (by omega))
  exact start x 0 (by omega)
end FM

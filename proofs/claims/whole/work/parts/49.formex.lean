/-! ===== the calls on formes, of the class ===== -/
section FO
variable {σ τ : ps_S} {d : Nat} {Q : Option ps_V → ps_S → Prop} {v v1 v2 v3 v4 : Int32}
theorem wiN (n : Nat) (hn : n < 2 ^ 31) (v : Int32) : ¬ jbWi v (nI n) = 0 ↔ vp_in v n := wi_iff hn
theorem vp_num {v : Int32} {n : Nat} (hn : n < 2 ^ 31) (h : vp_in v n) : ∃ j, j < n ∧ v = nI j := by
  rw [vp_in_iff] at h
  obtain ⟨j, _, h2, h3⟩ := num_of (v := v) (lo := 0) (hi := n - 1) (by omega) (by omega)
  exact ⟨j, by omega, h3⟩
def ltF (v : Int32) : Prop := v = -900009 ∨ vp_in v 10
theorem x_read (h1 : ¬ (vp_in v1 9 ∧ vp_in v2 6 ∧ vp_in v3 6) → Q (some (.inl (-900001))) σ) (h2 : vp_in v1 9 → vp_in v2 6 → vp_in v3 6 → ¬ ltF v4 → Q (some (.inl (-900002))) σ) (h3 : ∀ c f p, c < 9 → f < 6 → p < 6 → v1 = nI c → v2 = nI f → v3 = nI p → ltF v4 → Q (some (.inl (σ 5 (9 * f + c) p))) (ps_up (ps_up (ps_up σ 5 (9 * f + c) p v4) 3 f 7 0) 3 f 11 0)) : ps_C mX7_read (d + 30) [ps_x, .inl v1, .inl v2, .inl v3, .inl v4] σ Q := by
  have go : vp_in v1 9 → vp_in v2 6 → vp_in v3 6 → ltF v4 → kX7_read_46 (d + 28) Q v1 v2 v3 v4 σ := fun a b c e => by
    obtain ⟨x, hx, rfl⟩ := vp_num (by decide) a
    obtain ⟨f, hf, rfl⟩ := vp_num (by decide) b
    obtain ⟨p, hp, rfl⟩ := vp_num (by decide) c
    refine bX7_read_46 b (eX0_putLetter (bX0_putLetter_0 a c ⟨_, rfl, bX7_read_59 ?_⟩))
    rw [nI_clamp (n := x) (by omega), nI_clamp (n := f) (by omega), nI_clamp (n := p) (by omega)]
    exact h3 x f p hx hf hp rfl rfl rfl e
  refine eX7_read (bX7_read_0 (fun c => h1 (fun q => (z0 wi9).mp c q.1)) (fun _ c => h1 (fun q => (z0 wi6).mp c q.2.1)) (fun c1 c2 c3 c4 => go (wi9.mp c1) (wi6.mp c2) (wi6.mp c3) (Or.inl c4)) (fun c1 c2 c3 _ c4 => go (wi9.mp c1) (wi6.mp c2) (wi6.mp c3) (Or.inr (wi10.mp c4))) (fun c1 c2 c3 c4 c5 => h2 (wi9.mp c1) (wi6.mp c2) (wi6.mp c3) (fun q => q.elim c4 ((z0 wi10).mp c5))) (fun _ _ c => h1 (fun q => (z0 wi6).mp c q.2.2)))
theorem x_agree (h : iF σ τ) (h1 : ¬ (vp_in v1 6 ∧ vp_in v2 9 ∧ vp_in v3 9) → Q (some (.inl (-900001))) σ) (h2 : ∀ f a b, f < 6 → a < 9 → b < 9 → v1 = nI f → v2 = nI a → v3 = nI b → Q (some (.inl (jbP (mAlk τ f a b)))) σ) : ps_C mX7_agree (d + 30) [ps_x, .inl v1, .inl v2, .inl v3] σ Q := by
  have go : ¬ jbWi v1 6 = 0 → ¬ jbWi v2 9 = 0 → ¬ jbWi v3 9 = 0 → ∃ f a b, f < 6 ∧ a < 9 ∧ b < 9 ∧ v1 = nI f ∧ v2 = nI a ∧ v3 = nI b := fun a b c => by
    obtain ⟨f, hf, rfl⟩ := vp_num (by decide) (wi6.mp a)
    obtain ⟨x, hx, rfl⟩ := vp_num (by decide) (wi9.mp b)
    obtain ⟨y, hy, rfl⟩ := vp_num (by decide) (wi9.mp c)
    exact ⟨f, x, y, hf, hx, hy, rfl, rfl, rfl⟩
  refine eX7_agree (bX7_agree_0 (fun c => h1 (fun q => (z0 wi6).mp c q.1)) (fun _ c => h1 (fun q => (z0 wi9).mp c q.2.1)) (fun c _ _ => wi6.mp c) (fun _ c _ => wi9.mp c) (fun _ _ c => wi9.mp c) (fun c1 c2 c3 c => ?_) (fun c1 c2 c3 c => ?_) (fun _ _ c => h1 (fun q => (z0 wi9).mp c q.2.2)))
  all_goals
    obtain ⟨f, a, b, hf, ha, hb, rfl, rfl, rfl⟩ := go c1 c2 c3
    have hq := h2 f a b hf ha hb rfl rfl rfl
    rw [nI_clamp (n := f) (by omega), nI_clamp (n := a) (by omega), nI_clamp (n := b) (by omega), jbP_0, sAlk_iff (h f hf).1 ha hb] at c
  · rw [jbP_f c] at hq; exact hq
  · rw [jbP_t (Classical.not_not.mp c)] at hq; exact hq
/-- grouped(forme), with the whole of what is held -/
theorem x_grouped {f : Nat} (h : iF σ τ) (hf : f < 6) (hq : ∀ σ', kF σ σ' → iF σ' τ → gOK σ' τ f → Q (some (.inr (.inr (3, f)))) σ') : ps_C mX7_grouped (d + 15) [ps_x, .inl (nI f)] σ Q := by
  obtain ⟨a1, a2, a3, a4, a5, a6⟩ := h f hf
  exact pX7_grouped hf a1 a5 (fun σ' e1 e2 e3 => hq σ' (kF_S e1) (iF_S h e1 e2 e3) e2)
theorem x_states (h : iF σ τ) (h1 : ¬ vp_in v1 6 → Q (some (.inl (-900001))) σ) (h2 : ∀ f σ', f < 6 → v1 = nI f → kF σ σ' → iF σ' τ → Q (some (.inl (nI (nst τ f)))) σ') : ps_C mX7_states (d + 30) [ps_x, .inl v1] σ Q := by
  refine eX7_states (bX7_states_0 (fun c => ?_) (fun c => h1 ((z0 wi6).mp c)))
  obtain ⟨f, hf, rfl⟩ := vp_num (by decide) (wi6.mp c)
  refine x_grouped (d := d + 14) h hf (fun σ' e1 e2 e3 => ⟨_, rfl, bX7_states_15 ?_⟩)
  rw [e3.1.2.1]
  exact h2 f σ' hf rfl e1 e2
theorem x_state (h : iF σ τ) (h1 : ¬ (vp_in v1 6 ∧ vp_in v2 9) → Q (some (.inl (-900001))) σ) (h2 : ∀ f c σ', f < 6 → c < 9 → v1 = nI f → v2 = nI c → kF σ σ' → iF σ' τ → Q (some (.inl (stN τ f c))) σ') : ps_C mX7_state (d + 30) [ps_x, .inl v1, .inl v2] σ Q := by
  refine eX7_state (bX7_state_0 (fun c => h1 (fun q => (z0 wi6).mp c q.1)) (fun c c2 => ?_) (fun _ c => h1 (fun q => (z0 wi9).mp c q.2)))
  obtain ⟨f, hf, rfl⟩ := vp_num (by decide) (wi6.mp c)
  obtain ⟨x, hx, rfl⟩ := vp_num (by decide) (wi9.mp c2)
  refine x_grouped (d := d + 14) h hf (fun σ' e1 e2 e3 => ⟨_, rfl, bX7_state_22 (vp_in_nI hx (by decide)) ?_⟩)
  rw [nI_clamp (by omega), gOK_st e3 x hx]
  exact h2 f x σ' hf hx rfl rfl e1 e2
/-- isState(forme, state) -/
theorem x_isState (h : iF σ τ) (h1 : ¬ vp_in v1 6 → Q (some (.inl 0)) σ) (h2 : ∀ f σ', f < 6 → v1 = nI f → kF σ σ' → iF σ' τ → gOK σ' τ f → Q (some (.inl (jbP (vp_in v2 (nst τ f))))) σ') : ps_C mX7_isState (d + 17) [ps_x, .inl v1, .inl v2] σ Q := by
  refine eX7_isState (bX7_isState_0 (fun c => h1 ((z0 wi6).mp c)) (fun c => ?_))
  obtain ⟨f, hf, rfl⟩ := vp_num (by decide) (wi6.mp c)
  have hn := nst_le τ f
  refine x_grouped (d := d + 1) h hf (fun σ' e1 e2 e3 => ⟨_, rfl, bX7_isState_13 (fun q => ?_) (fun q => ?_)⟩)
  all_goals
    rw [e3.1.2.1] at q
    have hq := h2 f σ' hf rfl e1 e2 e3
  · rw [jbP_f ((z0 (wi_iff (n := nst τ f) (by omega))).mp q)] at hq
    exact hq
  · rw [jbP_t ((wi_iff (n := nst τ f) (by omega)).mp q)] at hq
    exact hq
theorem x_letter (h : iF σ τ) (h1 : ¬ vp_in v1 6 → Q (some (.inl (-900001))) σ) (h2 : ∀ f σ', f < 6 → v1 = nI f → kF σ σ' → iF σ' τ → ¬ (vp_in v2 (nst τ f) ∧ vp_in v3 6) → Q (some (.inl (-900001))) σ') (h3 : ∀ f p σ', f < 6 → p < 6 → v1 = nI f → v3 = nI p → vp_in v2 (nst τ f) → kF σ σ' → iF σ' τ → Q (some (.inl (glN τ f v2 p))) σ') : ps_C mX7_letter (d + 30) [ps_x, .inl v1, .inl v2, .inl v3] σ Q := by
  refine eX7_letter (bX7_letter_0 (x_isState (d := d + 12) h (fun c => ⟨_, rfl, bX7_letter_6 (fun _ => h1 c) (fun q => absurd rfl q) (fun q => absurd rfl q)⟩) (fun f σ' hf hv e1 e2 e3 => ⟨_, rfl, bX7_letter_6 (fun q => ?_) (fun q c => ?_) (fun q c => ?_)⟩)))
  · rw [jbP_0] at q
    exact h2 f σ' hf hv e1 e2 (fun w => q w.1)
  · rw [jbP_0, Classical.not_not] at q
    obtain ⟨p, hp, rfl⟩ := vp_num (by decide) (wi6.mp c)
    subst hv
    refine x_grouped (d := d + 14) e2 hf (fun σ'' g1 g2 g3 => ⟨_, rfl, bX7_letter_26 (vp_in_nI hp (by decide)) ?_⟩)
    rw [nI_clamp (by omega), sGl_eq (g2 f hf).1 (gOK_st g3) hp]
    exact h3 f p σ'' hf hp rfl rfl q (kF_trans e1 g1) g2
  · exact h2 f σ' hf hv e1 e2 (fun w => (z0 wi6).mp c w.2)
theorem x_changes (h : iF σ τ) (h1 : ¬ vp_in v1 6 → Q (some (.inl (-900001))) σ) (h2 : ∀ f σ', f < 6 → v1 = nI f → kF σ σ' → iF σ' τ → ¬ (vp_in v2 (nst τ f) ∧ vp_in v3 (nst τ f)) → Q (some (.inl (-900001))) σ') (h3 : ∀ f σ', f < 6 → v1 = nI f → vp_in v2 (nst τ f) → vp_in v3 (nst τ f) → kF σ σ' → iF σ' τ → Q (some (.inl (nI (chI τ f v2 v3)))) σ') : ps_C mX7_changes (d + 30) [ps_x, .inl v1, .inl v2, .inl v3] σ Q := by
  refine eX7_changes (bX7_changes_0 (x_isState (d := d + 12) h (fun c => ⟨_, rfl, bX7_changes_6 (fun _ => h1 c) (fun q => absurd rfl q)⟩) (fun f σ1 hf hv e1 e2 e3 => ⟨_, rfl, bX7_changes_6 (fun q => ?_) (fun q => x_isState (d := d + 12) e2 (fun c => absurd (hv ▸ vp_in_nI hf (by decide)) c) (fun f' σ2 hf' hv' g1 g2 g3 => ⟨_, rfl, ?_⟩))⟩)))
  · rw [jbP_0] at q
    exact h2 f σ1 hf hv e1 e2 (fun w => q w.1)
  · rw [jbP_0, Classical.not_not] at q
    obtain rfl : f' = f := by
      rw [hv, nI_eq (by omega) (by omega)] at hv'
      exact hv'.symm
    refine bX7_changes_15 (fun q2 => ?_) (fun q2 => ?_)
    · rw [jbP_0, Classical.not_not] at q2
      subst hv
      refine x_grouped (d := d + 14) g2 hf (fun σ3 k1 k2 k3 => ⟨_, rfl, bX7_changes_26 ?_⟩)
      have e : cntN 6 (fun p => ¬ jbUn (sGl σ3 f' v2 p) (sGl σ3 f' v3 p) = 0) = chI τ f' v2 v3 := cnt_congr (fun p hp => by rw [sGl_eq (k2 f' hf).1 (gOK_st k3) hp, sGl_eq (k2 f' hf).1 (gOK_st k3) hp])
      rw [e]
      exact h3 f' σ3 hf rfl q q2 (kF_trans (kF_trans e1 g1) k1) k2
    · rw [jbP_0] at q2
      exact h2 f' σ2 hf hv (kF_trans e1 g1) g2 (fun w => q2 w.2)
theorem x_ahead (h : iF σ τ) (h1 : ¬ (vp_in v1 6 ∧ vp_in v2 9 ∧ vp_in v3 9) → Q (some (.inl (-900001))) σ) (h2 : vp_in v1 6 → vp_in v2 9 → vp_in v3 9 → v2 = v3 → Q (some (.inl (-900003))) σ) (h3 : ∀ f a b w, f < 6 → a < 9 → b < 9 → a ≠ b → v1 = nI f → v2 = nI a → v3 = nI b → bm w 9 (fun i => if i = b then ¬ v4 = 0 else τ 58 0 (81 * f + 9 * a + i) = 1) → Q (some (.inl (τ 58 0 (81 * f + 9 * a + b)))) (ps_up (ps_up σ 6 f a w) 3 f 11 0)) : ps_C mX7_ahead (d + 30) [ps_x, .inl v1, .inl v2, .inl v3, .inl v4] σ Q := by
  refine eX7_ahead (bX7_ahead_0 (fun c => h1 (fun q => (z0 wi6).mp c q.1)) (fun _ c => h1 (fun q => (z0 wi9).mp c q.2.1)) (fun c _ _ _ => wi6.mp c) (fun c1 c2 c3 c4 => ?_) (fun c1 c2 c3 c4 => h2 (wi6.mp c1) (wi9.mp c2) (wi9.mp c3) c4) (fun _ _ c => h1 (fun q => (z0 wi9).mp c q.2.2)))
  obtain ⟨f, hf, rfl⟩ := vp_num (by decide) (wi6.mp c1)
  obtain ⟨a, ha, rfl⟩ := vp_num (by decide) (wi9.mp c2)
  obtain ⟨b, hb, rfl⟩ := vp_num (by decide) (wi9.mp c3)
  have hab : a ≠ b := fun q => c4 (by rw [q])
  obtain ⟨a1, a2, a3, a4, a5, a6⟩ := h f hf
  have hbit := bm_bit (a3 a ha) hb (by decide)
  have ev : jbP (τ 58 0 (81 * f + 9 * a + b) = 1) = τ 58 0 (81 * f + 9 * a + b) := by
    rcases a4 a b ha hb with z | z
    · rw [jbP_f (by rw [z]; decide), z]
    · rw [jbP_t z, z]
  rw [nI_clamp (n := f) (by omega)]
  refine eX0_tellAhead (bX0_tellAhead_0 (vp_in_nI ha (by decide)) (fun z => ⟨_, rfl, bX7_ahead_45 ?_⟩) (fun z => ⟨_, rfl, bX7_ahead_45 ?_⟩))
  · rw [nI_clamp (n := a) (by omega), hbit, ev]
    refine h3 f a b _ hf ha hb hab rfl rfl rfl (bm_congr (bm_diff (a3 a ha) (bm_1 hb (by decide))) (fun i hi => ?_))
    by_cases e : i = b
    · rw [if_pos e]
      exact ⟨fun q => absurd e q.2, fun q => absurd z q⟩
    · rw [if_neg e]
      exact ⟨fun q => q.1, fun q => ⟨q, e⟩⟩
  · rw [nI_clamp (n := a) (by omega), hbit, ev]
    refine h3 f a b _ hf ha hb hab rfl rfl rfl (bm_congr (bm_or (a3 a ha) (bm_1 hb (by decide))) (fun i hi => ?_))
    by_cases e : i = b
    · rw [if_pos e]
      exact ⟨fun _ => z, fun _ => Or.inr e⟩
    · rw [if_neg e]
      exact ⟨fun q => q.elim id (fun w => absurd w e), fun q => Or.inl q⟩
/-- makeOrders, with the whole of what is held -/
theorem x_makeOrders {f : Nat} (h : iF σ τ) (hf : f < 6) (hg : gOK σ τ f) (hq : ∀ σ', kF σ σ' → iF σ' τ → gOK σ' τ f → oOK σ' τ f → σ' 3 f 11 = 1 → Q none σ') : ps_C mX3_makeOrders (d + 5) [.inr (.inr (15, 0)), .inr (.inr (3, f))] σ Q := by
  obtain ⟨a1, a2, a3, a4, a5, a6⟩ := h f hf
  refine pX3_makeOrders a1 a3 hg a6 (fun σ' e1 e2 e3 => hq σ' (kF_O e1) (iF_O h e1 (Or.inr ⟨e3, e2⟩)) ?_ e2 e3)
  exact gOK_eq (e1.2.2 5 (by decide) (by decide) (by decide)) (e1.2.2 6 (by decide) (by decide) (by decide)) (by rw [e1.1 7 (by decide) (by decide) (by omega)]) (by rw [e1.1 8 (by decide) (by decide) (by omega)]) (by rw [e1.1 9 (by decide) (by decide) (by omega)]) hg
theorem x_least (h : iF σ τ) (h1 : ¬ vp_in v1 6 → Q (some (.inl (-900001))) σ) (h2 : ∀ f σ', f < 6 → v1 = nI f → kF σ σ' → iF σ' τ → Q (some (.inl (lsN τ f))) σ') : ps_C mX7_least (d + 30) [ps_x, .inl v1] σ Q := by
  refine eX7_least (bX7_least_0 (fun c => ?_) (fun c => h1 ((z0 wi6).mp c)))
  obtain ⟨f, hf, rfl⟩ := vp_num (by decide) (wi6.mp c)
  refine x_grouped (d := d + 14) h hf (fun σ1 e1 e2 e3 => ⟨_, rfl, bX7_least_19 (eX3_leastCost (bX3_leastCost_0 (x_makeOrders (d := d + 23) e2 hf e3 (fun σ2 g1 g2 g3 g4 g5 => ⟨rfl, bX3_leastCost_5 ⟨_, rfl, bX7_least_22 ?_⟩⟩))))⟩)
  rw [g4.1]
  exact h2 f σ2 hf rfl (kF_trans e1 g1) g2
theorem x_orders (h : iF σ τ) (h1 : ¬ vp_in v1 6 → Q (some (.inl (-900001))) σ) (h2 : ∀ f σ', f < 6 → v1 = nI f → kF σ σ' → iF σ' τ → Q (some (.inl (nI (fW τ f).2))) σ') : ps_C mX7_orders (d + 30) [ps_x, .inl v1] σ Q := by
  refine eX7_orders (bX7_orders_0 (fun c => ?_) (fun c => h1 ((z0 wi6).mp c)))
  obtain ⟨f, hf, rfl⟩ := vp_num (by decide) (wi6.mp c)
  refine x_grouped (d := d + 14) h hf (fun σ1 e1 e2 e3 => ⟨_, rfl, bX7_orders_19 (eX3_leastWays (bX3_leastWays_0 (x_makeOrders (d := d + 23) e2 hf e3 (fun σ2 g1 g2 g3 g4 g5 => ⟨rfl, bX3_leastWays_5 ⟨_, rfl, bX7_orders_22 ?_⟩⟩))))⟩)
  rw [g4.2.1]
  exact h2 f σ2 hf rfl (kF_trans e1 g1) g2
theorem x_first (h : iF σ τ) (h1 : ¬ vp_in v1 6 → Q (some (.inl (-900001))) σ) (h2 : vp_in v1 6 → ¬ vp_in v2 9 → Q (some (.inl (-900009))) σ) (h3 : ∀ f i σ', f < 6 → i < 9 → v1 = nI f → v2 = nI i → kF σ σ' → iF σ' τ → Q (some (.inl (fsN τ f i))) σ') : ps_C mX7_first (d + 30) [ps_x, .inl v1, .inl v2] σ Q := by
  refine eX7_first (bX7_first_0 (fun c c2 => ?_) (fun c c2 => h2 (wi6.mp c) ((z0 wi9).mp c2)) (fun c => h1 ((z0 wi6).mp c)))
  obtain ⟨f, hf, rfl⟩ := vp_num (by decide) (wi6.mp c)
  obtain ⟨i, hi, rfl⟩ := vp_num (by decide) (wi9.mp c2)
  refine x_grouped (d := d + 14) h hf (fun σ1 e1 e2 e3 => ⟨_, rfl, bX7_first_31 (eX3_stateAt (bX3_stateAt_0 (x_makeOrders (d := d + 23) e2 hf e3 (fun σ2 g1 g2 g3 g4 g5 => ⟨rfl, bX3_stateAt_5 (vp_in_nI hi (by decide)) ⟨_, rfl, bX7_first_35 ?_⟩⟩))))⟩)
  rw [nI_clamp (by omega), g4.2.2 i hi]
  exact h3 f i σ2 hf hi rfl rfl (kF_trans e1 g1) g2
/-- the orders in which state a is ahead of state b -/
def nd2 (nd : Nat → Nat → Prop) (a b : Nat) : Nat → Nat → Prop := fun s t => nd s t ∨ (s = b ∧ t = a)
noncomputable def bfN (τ : ps_S) (f a b : Nat) : Int32 := if (fW τ f).1 < far ∧ (rW (nst τ f) (nd2 (ndF τ f) a b) (chF τ f)).1 = (fW τ f).1 then nI (rW (nst τ f) (nd2 (ndF τ f) a b) (chF τ f)).2 else 0
theorem oS_nd2 {n a b : Nat} {nd : Nat → Nat → Prop} {ch : Nat → Nat → Nat} {ρ : ps_S} (ha : a < 9) (hb : b < n) (h : oS n nd ch ρ) : oS n (nd2 nd a b) ch (ps_up ρ 18 0 b (ρ 18 0 b ||| ((1 : Int32) <<< (nI a &&& 31)))) := by
  refine ⟨by rw [ps_up_o (by decide)]; exact h.1, fun s hs => ?_, fun x y h1 h2 h3 => by rw [ps_up_o (by decide)]; exact h.2.2 x y h1 h2 h3⟩
  by_cases e : s = b
  · subst e
    rw [ps_up_s]
    exact bm_congr (bm_or (h.2.1 s hs) (bm_1 ha (by decide))) (fun t _ => ⟨fun q => q.elim Or.inl (fun z => Or.inr ⟨rfl, z⟩), fun q => q.elim Or.inl (fun z => Or.inr z.2)⟩)
  · rw [ps_up_v (by omega)]
    exact bm_congr (h.2.1 s hs) (fun t _ => ⟨Or.inl, fun q => q.elim id (fun z => absurd z.1 e)⟩)
theorem x_before (h : iF σ τ) (h1 : ¬ vp_in v1 6 → Q (some (.inl (-900001))) σ) (h2 : ∀ f σ', f < 6 → v1 = nI f → kF σ σ' → iF σ' τ → ¬ (vp_in v2 (nst τ f) ∧ vp_in v3 (nst τ f)) → Q (some (.inl (-900001))) σ') (h3 : ∀ f σ', f < 6 → v1 = nI f → vp_in v2 (nst τ f) → vp_in v3 (nst τ f) → v2 = v3 → kF σ σ' → iF σ' τ → Q (some (.inl (-900003))) σ') (h4 : ∀ f a b σ', f < 6 → v1 = nI f → v2 = nI a → v3 = nI b → a < nst τ f → b < nst τ f → a ≠ b → kF σ σ' → iF σ' τ → Q (some (.inl (bfN τ f a b))) σ') : ps_C mX7_before (d + 30) [ps_x, .inl v1, .inl v2, .inl v3] σ Q := by
  refine eX7_before (bX7_before_0 (x_isState (d := d + 12) h (fun c => ⟨_, rfl, bX7_before_6 (fun _ => h1 c) (fun q => absurd rfl q)⟩) (fun f σ1 hf hv e1 e2 e3 => ⟨_, rfl, bX7_before_6 (fun q => ?_) (fun q => x_isState (d := d + 12) e2 (fun c => absurd (hv ▸ vp_in_nI hf (by decide)) c) (fun f' σ2 hf' hv' g1 g2 g3 => ⟨_, rfl, ?_⟩))⟩)))
  · rw [jbP_0] at q
    exact h2 f σ1 hf hv e1 e2 (fun w => q w.1)
  · rw [jbP_0, Classical.not_not] at q
    obtain rfl : f' = f := by
      rw [hv, nI_eq (by omega) (by omega)] at hv'
      exact hv'.symm
    have hn := nst_le τ f'
    refine bX7_before_15 (fun q2 c => ?_) (fun q2 c => ?_) (fun q2 => ?_)
    · rw [jbP_0, Classical.not_not] at q2
      subst hv
      obtain ⟨a, ha, rfl⟩ := vp_num (by omega) q
      obtain ⟨b, hb, rfl⟩ := vp_num (by omega) q2
      have hab : a ≠ b := fun z => c (by rw [z])
      refine x_grouped (d := d + 14) g2 hf (fun σ3 k1 k2 k3 => ⟨_, rfl, bX7_before_38 (eX3_waysWith (d := d + 28) (bX3_waysWith_0 (x_makeOrders (d := d + 23) k2 hf k3 (fun σ4 m1 m2 m3 m4 m5 => ⟨rfl, ?_⟩))))⟩)
      have kk : kF σ σ4 := kF_trans (kF_trans (kF_trans e1 g1) k1) m1
      obtain ⟨a1, a2, a3, a4, a5, a6⟩ := m2 f' hf
      have okw := fW_ok τ f'
      refine bX3_waysWith_5 (fun z => ?_) (fun z => ?_)
      · rw [m4.1] at z
        have zf : (fW τ f').1 < far := Classical.not_not.mp (fun w => z (by unfold lsN; rw [if_neg w]))
        obtain ⟨o1, o2, o3⟩ := okW_lt okw zf
        refine pX3_takeStates (τ := τ) a1 a3 m3 (fun σ5 n1 n2 => ⟨rfl, bX3_waysWith_21 (vp_in_nI (by omega) (by decide)) ?_⟩)
        rw [nI_clamp (n := b) (by omega)]
        refine pX3_findRests (d := d + 25) (nst_le τ f') (chF_le τ f') (oS_nd2 (by omega) hb n2) (fun σ6 p1 p2 => ⟨_, rfl, ?_⟩)
        have ok2 : okW (rW (nst τ f') (nd2 (ndF τ f') a b) (chF τ f')) := rW_ok (nst_le τ f') (chF_le τ f')
        have frr : ∀ g, g < 11 ∨ 18 < g → σ6 g = σ4 g := fun g hg => by
          rw [p1 g (by omega), ps_up_o (by omega), n1 g (by omega) (by omega) (by omega)]
        have i6 : iF σ6 τ := iF_O (f := f') m2 (frO_scr frr) (Or.inl ⟨by rw [frr 3 (by omega)], by rw [frr 3 (by omega)], by rw [frr 3 (by omega)], by rw [frr 10 (by omega)]⟩)
        have k6 : kF σ σ6 := kF_trans kk (kF_O (f := f') (frO_scr frr))
        have fin := h4 f' a b σ6 hf rfl rfl rfl ha hb hab k6 i6
        have e39 : σ6 3 f' 9 = nI (fW τ f').1 := by rw [frr 3 (by omega), m4.1]; unfold lsN; rw [if_pos zf]
        unfold bfN at fin
        by_cases w : (rW (nst τ f') (nd2 (ndF τ f') a b) (chF τ f')).1 < far
        · obtain ⟨w1, w2, w3⟩ := okW_lt ok2 w
          rw [enc_t w]
          have hne : ¬ nI ((rW (nst τ f') (nd2 (ndF τ f') a b) (chF τ f')).1 * 1048576 + (rW (nst τ f') (nd2 (ndF τ f') a b) (chF τ f')).2) = -1 := nI_neg1 (by omega)
          refine bX3_waysWith_37 (fun y => absurd y hne) (fun _ y => ⟨_, rfl, bX7_before_43 ?_⟩) (fun _ y => ⟨_, rfl, bX7_before_43 ?_⟩)
          · rw [enc_div (by omega) (by omega), e39, nI_eq (by omega) (by omega)] at y
            rw [if_neg (fun t => y t.2)] at fin
            exact fin
          · rw [enc_div (by omega) (by omega), e39, nI_eq (by omega) (by omega)] at y
            rw [if_pos ⟨zf, y⟩] at fin
            rw [enc_mod (by omega) (by omega)]
            exact fin
        · rw [enc_f w]
          refine bX3_waysWith_37 (fun _ => ⟨_, rfl, bX7_before_43 ?_⟩) (fun y => absurd rfl y) (fun y => absurd rfl y)
          rw [if_neg (fun t => w (by rw [t.2]; exact zf))] at fin
          exact fin
      · rw [m4.1] at z
        have zf : ¬ (fW τ f').1 < far := fun w => by
          unfold lsN at z
          obtain ⟨o1, o2, o3⟩ := okW_lt okw w
          rw [if_pos w] at z
          exact nI_none (by omega) z
        have fin := h4 f' a b σ4 hf rfl rfl rfl ha hb hab kk m2
        unfold bfN at fin
        rw [if_neg (fun t => zf t.1)] at fin
        exact ⟨_, rfl, bX7_before_43 fin⟩
    · rw [jbP_0, Classical.not_not] at q2
      exact h3 f' σ2 hf hv q q2 c (kF_trans e1 g1) g2
    · rw [jbP_0] at q2
      exact h2 f' σ2 hf hv (kF_trans e1 g1) g2 (fun w => q2 w.2)
end FO

/-! ===== men: what is asked of the class ===== -/
def isF (n : Nat) (P : Nat → Prop) (c : Nat) : Prop := c < n ∧ P c ∧ ∀ i, i < c → ¬ P i
theorem isF_uniq {n : Nat} {P : Nat → Prop} {c c' : Nat} (h : isF n P c) (h' : isF n P c') : c = c' := by
  rcases Nat.lt_trichotomy c c' with q | q | q
  · exact absurd h.2.1 (h'.2.2 c q)
  · exact q
  · exact absurd h'.2.1 (h.2.2 c' q)
theorem fst_some {P : Nat → Prop} : ∀ (n k c : Nat), fstN n k P = some c → k ≤ c ∧ c < k + n ∧ P c ∧ ∀ i, k ≤ i → i < c → ¬ P i
  | 0, k, c, h => by cases h
  | n + 1, k, c, h => by
    by_cases hp : P k
    · rw [fst_t hp] at h
      cases h
      exact ⟨Nat.le_refl _, by omega, hp, fun i a b => absurd b (by omega)⟩
    · rw [fst_f hp] at h
      obtain ⟨h1, h2, h3, h4⟩ := fst_some n (k + 1) c h
      refine ⟨by omega, by omega, h3, fun i a b => ?_⟩
      rcases Nat.lt_or_eq_of_le a with q | q
      · exact h4 i q b
      · subst q; exact hp
theorem fst_none {P : Nat → Prop} : ∀ (n k : Nat), fstN n k P = none → ∀ i, k ≤ i → i < k + n → ¬ P i
  | 0, k, h, i, a, b => absurd b (by omega)
  | n + 1, k, h, i, a, b => by
    by_cases hp : P k
    · rw [fst_t hp] at h; cases h
    · rw [fst_f hp] at h
      rcases Nat.lt_or_eq_of_le a with q | q
      · exact fst_none n (k + 1) h i q (by omega)
      · subst q; exact hp
theorem fst_isF {n : Nat} {P : Nat → Prop} (h : ∃ i, i < n ∧ P i) : isF n P ((fstN n 0 P).getD 0) := by
  cases e : fstN n 0 P with
  | none =>
    obtain ⟨i, hi, hp⟩ := h
    exact absurd hp (fst_none n 0 e i (Nat.zero_le _) (by omega))
  | some c =>
    obtain ⟨-, h2, h3, h4⟩ := fst_some n 0 c e
    exact ⟨by simpa using h2, h3, fun i hi => h4 i (Nat.zero_le _) hi⟩
/-- the first man; who sets a page in the best setting; how many may; in how many ways -/
def isB (τ : ps_S) (p m : Nat) : Prop := upk τ p m + bh τ p m = lst τ
noncomputable def whoN (τ : ps_S) : Nat → Nat
  | 0 => (fstN (wM τ) 0 (isB τ 0)).getD 0
  | k + 1 => (fstN (wM τ) 0 (fun o => vth τ (wP τ - 1 - (k + 1)) (whoN τ k) o = bh τ k (whoN τ k))).getD 0
noncomputable def sttN (τ : ps_S) : Int32 := jSum (wM τ) (fun m => @ite _ (isB τ 0 m) (Classical.propDecidable _) (wy τ 0 m) 0)
section MQ
variable {σ τ : ps_S} {d : Nat} {Q : Option ps_V → ps_S → Prop}
theorem lst_in (h : iWb σ τ) {p : Nat} (hp : p < wP τ) : (∃ m, m < wM τ ∧ isB τ p m) ∧ ∀ m, m < wM τ → lst τ ≤ upk τ p m + bh τ p m := by
  have e := fwd_bwd h (wP τ - 1 - p) p (by omega)
  have hM := h.1.2.2
  have hP := h.2.1.2.2
  refine ⟨?_, fun m hm => ?_⟩
  · obtain ⟨i, hi, e2⟩ := mn_in (n := wM τ) (g := fun m => upk τ p m + bh τ p m) (b := FARn) ⟨0, by omega, by
      have h1 := upk_le h p 0 hp (by omega)
      have h2 := bhk_le h (wP τ - 1 - p) 0 (by omega) (by omega)
      have h3 : p * 153 ≤ 12 * 153 := Nat.mul_le_mul_right _ (by omega)
      have h4 : (wP τ - 1 - p) * 153 ≤ 12 * 153 := Nat.mul_le_mul_right _ (by omega)
      show upk τ p 0 + bhk τ (wP τ - 1 - p) 0 ≤ 100000000
      omega⟩
    exact ⟨i, hi, e2.symm.trans e⟩
  · rw [← e]
    exact (mn_le (n := wM τ) (g := fun m => upk τ p m + bh τ p m) (b := FARn)).2 m hm
theorem ub_le (h : iWb σ τ) {p m : Nat} (hp : p < wP τ) (hm : m < wM τ) : upk τ p m + bh τ p m ≤ 5000 := by
  have hP := h.2.1.2.2
  have h1 := upk_le h p m hp hm
  have h2 := bhk_le h (wP τ - 1 - p) m (by omega) hm
  have h3 : p * 153 + (wP τ - 1 - p) * 153 ≤ 12 * 153 := by rw [← Nat.add_mul]; exact Nat.mul_le_mul_right _ (by omega)
  unfold bh
  omega
theorem lst_le (h : iWb σ τ) : lst τ ≤ 5000 := by
  have hM := h.1.2.2
  have hP := h.2.1.2.2
  exact Nat.le_trans ((lst_in h (p := 0) (by omega)).2 0 (by omega)) (ub_le h (by omega) (by omega))
theorem whoN_isF0 (h : iWb σ τ) : isF (wM τ) (isB τ 0) (whoN τ 0) := fst_isF (lst_in h (by have := h.2.1.2.2; omega)).1
theorem whoN_lt (h : iWb σ τ) : ∀ k, k < wP τ → whoN τ k < wM τ
  | 0, _ => (whoN_isF0 h).1
  | k + 1, hk => by
    have hw := whoN_lt h k (by omega)
    have hb := (bhk_in h (k := wP τ - 1 - (k + 1)) (m := whoN τ k) (by omega) hw).1
    rw [show wP τ - 1 - (k + 1) + 1 = wP τ - 1 - k by omega] at hb
    obtain ⟨o, ho, e⟩ := hb
    exact (fst_isF (P := fun o => vth τ (wP τ - 1 - (k + 1)) (whoN τ k) o = bh τ k (whoN τ k)) ⟨o, ho, e.symm⟩).1
theorem whoN_isF (h : iWb σ τ) {k : Nat} (hk : k + 1 < wP τ) : isF (wM τ) (fun o => vth τ (wP τ - 1 - (k + 1)) (whoN τ k) o = bh τ k (whoN τ k)) (whoN τ (k + 1)) := by
  have hw := whoN_lt h k (by omega)
  have hb := (bhk_in h (k := wP τ - 1 - (k + 1)) (m := whoN τ k) (by omega) hw).1
  rw [show wP τ - 1 - (k + 1) + 1 = wP τ - 1 - k by omega] at hb
  obtain ⟨o, ho, e⟩ := hb
  exact fst_isF ⟨o, ho, e.symm⟩
theorem best_eq (h : iWb σ τ) (hs : sW σ τ) {p m : Nat} (hp : p < wP τ) (hm : m < wM τ) : jX2_isBest σ (nI p) (nI m) = jbP (isB τ p m) := by
  have hM := h.1.2.2
  have hP := h.2.1.2.2
  obtain ⟨-, e2, e3, -⟩ := hs.1 p m hp hm
  unfold jX2_isBest
  rw [nI_clamp (by omega), nI_clamp (by omega), e2, e3, hs.2, nI_add]
  have h1 := ub_le h hp hm
  have h2 := lst_le h
  by_cases c : isB τ p m
  · rw [jbP_t c, if_neg]
    intro q
    exact q (by rw [show upk τ p m + bh τ p m = lst τ from c])
  · rw [jbP_f c, if_pos]
    intro q
    exact c ((nI_eq (by omega) (by omega)).mp q)
theorem pX2_bestCost (h : iWb σ τ) (hs : σ 36 0 10 = 0 ∨ (σ 36 0 10 = 1 ∧ sW σ τ)) (hq : ∀ σ', frW σ σ' → sW σ' τ → σ' 36 0 10 = 1 → Q (some (.inl (nI (lst τ)))) σ') : ps_C mX2_bestCost (d + 4) [.inr (.inr (36, 0))] σ Q :=
  eX2_bestCost (bX2_bestCost_0 (pX2_solve h hs (fun σ' f1 f2 f3 => ⟨rfl, bX2_bestCost_4 (by rw [f2.2]; exact hq σ' f1 f2 f3)⟩)))
theorem pX2_bestWays (h : iWb σ τ) (hs : σ 36 0 10 = 0 ∨ (σ 36 0 10 = 1 ∧ sW σ τ)) (hq : ∀ σ', frW σ σ' → sW σ' τ → σ' 36 0 10 = 1 → Q (some (.inl (sttN τ))) σ') : ps_C mX2_bestWays (d + 4) [.inr (.inr (36, 0))] σ Q := by
  refine eX2_bestWays (bX2_bestWays_0 (pX2_solve h hs (fun ρ f1 f2 f3 => ⟨rfl, bX2_bestWays_4 ?_⟩)))
  have hb := frW_b f1 h
  have hM := h.1.2.2
  have hP := h.2.1.2.2
  have hq := hq ρ f1 f2 f3
  obtain ⟨g, hg⟩ : ∃ g : Nat → Int32, g = (fun m => @ite _ (isB τ 0 m) (Classical.propDecidable _) (wy τ 0 m) 0) := ⟨_, rfl⟩
  have hq : Q (some (.inl (jSum (wM τ) g))) ρ := by rw [hg]; exact hq
  have key : ∀ r j, j + r = wM τ → kX2_bestWays_8 (d + 3) Q (jSum j g) (nI j) ρ := by
    intro r
    induction r with
    | zero =>
      intro j hj
      obtain rfl : j = wM τ := by omega
      exact bX2_bestWays_8 (fun _ => hq) (fun c => (le_M hb c).elim) (fun c => (le_M hb c).elim) (fun c => (le_M hb c).elim) (fun c => (le_M hb c).elim)
    | succ r ih =>
      intro j hj
      have hj0 : j < wM τ := by omega
      have hh := ih (j + 1) (by omega)
      rw [← nI_1, show jSum (j + 1) g = jSum j g + g j from rfl] at hh
      have hbe : jX2_isBest ρ 0 (nI j) = jbP (isB τ 0 j) := best_eq hb f2 (p := 0) (m := j) (by omega) hj0
      refine bX2_bestWays_8 (fun c => (ge_M hb hj0 c).elim) (fun _ => vp_in_nI (n := 0) (by decide) (by decide)) (fun _ => vp_in_nI (by omega) (by decide)) (fun _ c => ?_) (fun _ c => ?_)
      · rw [hbe, jbP_0] at c
        have e : g j = 0 := by rw [hg]; exact if_neg c
        rw [e, Int32.add_zero] at hh
        exact hh
      · rw [hbe, jbP_0, Classical.not_not] at c
        have e : g j = wy τ 0 j := by rw [hg]; exact if_pos c
        rw [show (0 : Int32).toNatClampNeg = 0 from by decide, nI_clamp (by omega), (f2.1 0 j (by omega) hj0).2.2.2, ← e]
        exact hh
  exact key (wM τ) 0 (by omega)
theorem pX2_bestMen (h : iWb σ τ) (hs : σ 36 0 10 = 0 ∨ (σ 36 0 10 = 1 ∧ sW σ τ)) {p : Nat} (hp : p < wP τ) (hq : ∀ σ', frW σ σ' → sW σ' τ → σ' 36 0 10 = 1 → Q (some (.inl (nI (cntN (wM τ) (isB τ p))))) σ') : ps_C mX2_bestMen (d + 4) [.inr (.inr (36, 0)), .inl (nI p)] σ Q := by
  refine eX2_bestMen (bX2_bestMen_0 (pX2_solve h hs (fun ρ f1 f2 f3 => ⟨rfl, bX2_bestMen_4 ?_⟩)))
  have hb := frW_b f1 h
  have hM := h.1.2.2
  have hP := h.2.1.2.2
  have hq := hq ρ f1 f2 f3
  have key : ∀ r j, j + r = wM τ → kX2_bestMen_8 (d + 3) Q (nI p) (nI (cntN j (isB τ p))) (nI j) ρ := by
    intro r
    induction r with
    | zero =>
      intro j hj
      obtain rfl : j = wM τ := by omega
      exact bX2_bestMen_8 (fun _ => hq) (fun c => (le_M hb c).elim) (fun c => (le_M hb c).elim) (fun c => (le_M hb c).elim) (fun c => (le_M hb c).elim)
    | succ r ih =>
      intro j hj
      have hj0 : j < wM τ := by omega
      have hh := ih (j + 1) (by omega)
      rw [← nI_1] at hh
      have hbe := best_eq hb f2 (p := p) (m := j) hp hj0
      refine bX2_bestMen_8 (fun c => (ge_M hb hj0 c).elim) (fun _ => vp_in_nI (by omega) (by decide)) (fun _ => vp_in_nI (by omega) (by decide)) (fun _ c => ?_) (fun _ c => ?_)
      · rw [hbe, jbP_0] at c
        rw [← cn_f c] at hh
        exact hh
      · rw [hbe, jbP_0, Classical.not_not] at c
        rw [← cn_t c] at hh
        exact hh
  exact key (wM τ) 0 (by omega)
theorem pX2_leastBestMan (h : iWb σ τ) (hs : sW σ τ) (hq : Q (some (.inl (nI (whoN τ 0)))) σ) : ps_C mX2_leastBestMan (d + 1) [.inr (.inr (36, 0))] σ Q := by
  have hM := h.1.2.2
  have hP := h.2.1.2.2
  have e1 : σ 36 0 2 - 1 = nI (wM τ - 1) := by rw [h.1.1, show (1 : Int32) = nI 1 from rfl, nI_sub (by omega)]
  have hF := whoN_isF0 h
  have key : ∀ r j, j + r = wM τ - 1 → (∀ i, i < j → ¬ isB τ 0 i) → kX2_leastBestMan_2 d Q (nI j) σ := by
    intro r
    induction r with
    | zero =>
      intro j hj hno
      have ej : j = wM τ - 1 := by omega
      have e : whoN τ 0 = wM τ - 1 := by
        rcases Nat.lt_or_ge (whoN τ 0) j with q | q
        · exact absurd hF.2.1 (hno _ q)
        · have := hF.1; omega
      have no : ¬ (σ 36 0 2 - 1) ≤ nI j → False := fun c => c (by rw [e1, ej]; exact nI_le (Nat.le_refl _) (by omega))
      exact bX2_leastBestMan_2 (fun _ => by rw [e1, ← e]; exact hq) (fun c => (no c).elim) (fun c => (no c).elim) (fun c => (no c).elim) (fun c => (no c).elim)
    | succ r ih =>
      intro j hj hno
      have hj0 : j < wM τ - 1 := by omega
      have hbe : jX2_isBest σ 0 (nI j) = jbP (isB τ 0 j) := best_eq h hs (p := 0) (m := j) (by omega) (by omega)
      refine bX2_leastBestMan_2 (fun c => absurd c (by rw [e1]; exact nI_ge hj0 (by omega))) (fun _ => vp_in_nI (n := 0) (by decide) (by decide)) (fun _ => vp_in_nI (by omega) (by decide)) (fun _ c => ?_) (fun _ c => ?_)
      · rw [hbe, jbP_0] at c
        rw [nI_1]
        refine ih (j + 1) (by omega) (fun i hi => ?_)
        rcases Nat.lt_or_eq_of_le (Nat.le_of_lt_succ hi) with q | q
        · exact hno i q
        · subst q; exact c
      · rw [hbe, jbP_0, Classical.not_not] at c
        rw [isF_uniq (show isF (wM τ) (isB τ 0) j from ⟨by omega, c, hno⟩) hF]
        exact hq
  exact eX2_leastBestMan (bX2_leastBestMan_0 (key (wM τ - 1) 0 (by omega) (fun i hi => absurd hi (by omega))))
theorem pX2_nextMan (h : iWb σ τ) (hs : sW σ τ) {k : Nat} (hk : k + 1 < wP τ) (hq : Q (some (.inl (nI (whoN τ (k + 1))))) σ) : ps_C mX2_nextMan (d + 2) [.inr (.inr (36, 0)), .inl (nI k), .inl (nI (whoN τ k))] σ Q := by
  have hM := h.1.2.2
  have hP := h.2.1.2.2
  have e1 : σ 36 0 2 - 1 = nI (wM τ - 1) := by rw [h.1.1, show (1 : Int32) = nI 1 from rfl, nI_sub (by omega)]
  have hF := whoN_isF h hk
  have hw := whoN_lt h k (by omega)
  generalize whoN τ k = m at *
  have h1 : ∀ o, o < wM τ → σ 42 (k + 1) o = nI (ow τ (k + 1) o) ∧ σ 46 (k + 1) o = nI (bh τ (k + 1) o) := fun o ho => ⟨(hs.1 (k + 1) o hk ho).1, (hs.1 (k + 1) o hk ho).2.2.1⟩
  have hbl : bh τ k m ≤ 5000 := Nat.le_trans (Nat.le_add_left _ _) (ub_le h (p := k) (by omega) hw)
  have key : ∀ r j, j + r = wM τ - 1 → (∀ i, i < j → ¬ vth τ (wP τ - 1 - (k + 1)) m i = bh τ k m) → kX2_nextMan_2 d Q (nI k) (nI m) (nI j) σ := by
    intro r
    induction r with
    | zero =>
      intro j hj hno
      have ej : j = wM τ - 1 := by omega
      have e : whoN τ (k + 1) = wM τ - 1 := by
        rcases Nat.lt_or_ge (whoN τ (k + 1)) j with q | q
        · exact absurd hF.2.1 (hno _ q)
        · have := hF.1; omega
      have no : ¬ (σ 36 0 2 - 1) ≤ nI j → False := fun c => c (by rw [e1, ej]; exact nI_le (Nat.le_refl _) (by omega))
      exact bX2_nextMan_2 (fun _ => by rw [e1, ← e]; exact hq) (fun c => (no c).elim) (fun c => (no c).elim) (fun c => (no c).elim) (fun c => (no c).elim) (fun c => (no c).elim) (fun c => (no c).elim)
    | succ r ih =>
      intro j hj hno
      have hj0 : j < wM τ - 1 := by omega
      obtain ⟨t1, t2⟩ := thr_eq h hk hw (show j < wM τ by omega) h1
      have e46 : σ 46 k m = nI (bh τ k m) := (hs.1 k m (by omega) hw).2.2.1
      refine bX2_nextMan_2 (fun c => absurd c (by rw [e1]; exact nI_ge hj0 (by omega))) (fun _ => by rw [nI_1]; exact vp_in_nI (by omega) (by decide)) (fun _ => vp_in_nI (by omega) (by decide)) (fun _ => vp_in_nI (by omega) (by decide)) (fun _ => vp_in_nI (by omega) (by decide)) (fun _ c => ?_) (fun _ c => ?_)
      · rw [t1, nI_clamp (by omega), nI_clamp (by omega), e46, nI_eq (by omega) (by omega)] at c
        rw [nI_1]
        refine ih (j + 1) (by omega) (fun i hi => ?_)
        rcases Nat.lt_or_eq_of_le (Nat.le_of_lt_succ hi) with q | q
        · exact hno i q
        · subst q; exact c
      · rw [t1, nI_clamp (by omega), nI_clamp (by omega), e46, nI_eq (by omega) (by omega)] at c
        rw [isF_uniq (show isF (wM τ) (fun o => vth τ (wP τ - 1 - (k + 1)) m o = bh τ k m) j from ⟨by omega, c, hno⟩) hF]
        exact hq
  exact eX2_nextMan (bX2_nextMan_0 (key (wM τ - 1) 0 (by omega) (fun i hi => absurd hi (by omega))))
theorem pX2_firstMan (h : iWb σ τ) (hs : σ 36 0 10 = 0 ∨ (σ 36 0 10 = 1 ∧ sW σ τ)) {p : Nat} (hp : p < wP τ) (hq : ∀ σ', frW σ σ' → sW σ' τ → σ' 36 0 10 = 1 → Q (some (.inl (nI (whoN τ p)))) σ') : ps_C mX2_firstMan (d + 4) [.inr (.inr (36, 0)), .inl (nI p)] σ Q := by
  refine eX2_firstMan (bX2_firstMan_0 (pX2_solve h hs (fun ρ f1 f2 f3 => ⟨rfl, bX2_firstMan_4 ?_⟩)))
  have hb := frW_b f1 h
  have hM := h.1.2.2
  have hP := h.2.1.2.2
  have hq := hq ρ f1 f2 f3
  have key : ∀ r j, j + r = p → kX2_firstMan_11 (d + 3) Q (nI p) (nI (whoN τ j)) (nI j) ρ := by
    intro r
    induction r with
    | zero =>
      intro j hj
      obtain rfl : j = p := by omega
      exact bX2_firstMan_11 (fun _ => hq) (fun c => absurd (nI_le (Nat.le_refl _) (by omega)) c)
    | succ r ih =>
      intro j hj
      refine bX2_firstMan_11 (fun c => absurd c (nI_ge (by omega) (by omega))) (fun _ => pX2_nextMan hb f2 (by omega) ⟨_, rfl, bX2_firstMan_22 ?_⟩)
      rw [nI_1]
      exact ih (j + 1) (by omega)
  exact pX2_leastBestMan hb f2 ⟨_, rfl, bX2_firstMan_8 (key p 0 (by omega))⟩
end MQ

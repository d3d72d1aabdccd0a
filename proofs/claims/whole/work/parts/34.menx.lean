/-! ===== men: the class ===== -/
def sW (σ τ : ps_S) : Prop := (∀ p m, p < wP τ → m < wM τ → σ 42 p m = nI (ow τ p m) ∧ σ 44 p m = nI (upk τ p m) ∧ σ 46 p m = nI (bh τ p m) ∧ σ 48 p m = wy τ p m) ∧ σ 36 0 9 = nI (lst τ)
def frW (σ σ' : ps_S) : Prop := (∀ g, g ≠ 36 → g ≠ 42 → g ≠ 44 → g ≠ 46 → g ≠ 48 → σ' g = σ g) ∧ ∀ k, k ≠ 9 → k ≠ 10 → σ' 36 0 k = σ 36 0 k
theorem frW_refl (σ : ps_S) : frW σ σ := ⟨fun _ _ _ _ _ _ => rfl, fun _ _ _ => rfl⟩
theorem frW_trans {σ σ' σ'' : ps_S} (h : frW σ σ') (h' : frW σ' σ'') : frW σ σ'' :=
  ⟨fun g a b c d e => (h'.1 g a b c d e).trans (h.1 g a b c d e), fun k a b => (h'.2 k a b).trans (h.2 k a b)⟩
theorem frW_up {σ : ps_S} {f k j : Nat} {x : Int32} (h : f = 42 ∨ f = 44 ∨ f = 46 ∨ f = 48) : frW σ (ps_up σ f k j x) :=
  ⟨fun g a b c d e => ps_up_o (by omega), fun i a b => by rw [ps_up_o (by omega)]⟩
theorem frW_b {σ σ' τ : ps_S} (h : frW σ σ') (hb : iWb σ τ) : iWb σ' τ := by
  obtain ⟨⟨a1, a2⟩, ⟨b1, b2⟩, ⟨c1, c2⟩, h4, h5⟩ := hb
  refine ⟨⟨by rw [h.2 2 (by decide) (by decide)]; exact a1, a2⟩, ⟨by rw [h.2 3 (by decide) (by decide)]; exact b1, b2⟩, ⟨by rw [h.2 4 (by decide) (by decide)]; exact c1, c2⟩, ?_, ?_⟩
  · rw [h.1 38 (by decide) (by decide) (by decide) (by decide) (by decide)]; exact h4
  · rw [h.1 40 (by decide) (by decide) (by decide) (by decide) (by decide)]; exact h5
theorem jbMin_n {a b : Nat} (ha : a < 2 ^ 31) (hb : b < 2 ^ 31) : jbMin (nI a) (nI b) = nI (min a b) := by
  unfold jbMin
  by_cases c : b < a
  · rw [if_pos (nI_lt c ha)]; congr 1; omega
  · rw [if_neg (nI_nlt (by omega) hb)]; congr 1; omega
section MX
variable {σ τ : ps_S} {d : Nat} {Q : Option ps_V → ps_S → Prop}
theorem chg_eq (h : iWb σ τ) {a b : Nat} (ha : a < 4) (hb : b < 4) : jX2_changeOf σ (nI a) (nI b) = nI (cg τ a b) := by
  unfold jX2_changeOf cg
  by_cases e : a = b
  · subst e; rw [if_neg (fun q => q rfl), if_pos rfl]; rfl
  · rw [if_pos (fun q => e ((nI_eq (by omega) (by omega)).mp q)), if_neg e]; exact h.2.2.1.1
theorem ge_M (h : iWb σ τ) {j : Nat} (hj : j < wM τ) : σ 36 0 2 ≤ nI j → False := by
  rw [h.1.1]
  exact fun c => nI_ge hj (by have := h.1.2.2.2; omega) c
theorem le_M (h : iWb σ τ) : ¬ σ 36 0 2 ≤ nI (wM τ) → False := by
  rw [h.1.1]
  exact fun c => c (nI_le (Nat.le_refl _) (by have := h.1.2.2.2; omega))
theorem pX2_costAhead (h : iWb σ τ) {p m : Nat} (hp : p + 1 < wP τ) (hm : m < wM τ) (hu : ∀ o, o < wM τ → σ 44 p o = nI (upk τ p o)) (hq : Q (some (.inl (nI (mn (wM τ) (fun o => upk τ p o + cg τ o m) FARn)))) σ) : ps_C mX2_costAhead (d + 1) [.inr (.inr (36, 0)), .inl (nI (p + 1)), .inl (nI m)] σ Q := by
  have hM := h.1.2.2
  have hP := h.2.1.2.2
  have e1 : nI (p + 1) - 1 = nI p := nI_pred p
  have hpc : (nI p).toNatClampNeg = p := nI_clamp (by omega)
  have hin : vp_in (nI (p + 1) - 1) 12 := by rw [e1]; exact vp_in_nI (by omega) (by decide)
  have ub : ∀ o, o < wM τ → upk τ p o + cg τ o m ≤ 5000 := by
    intro o ho
    have h1 := upk_le h p o (by omega) ho
    have h2 := cg_le h (a := o) (b := m)
    have h3 : p * 153 ≤ 12 * 153 := Nat.mul_le_mul_right _ (by omega)
    omega
  have um : upk τ p m ≤ 5000 := by have := ub m hm; omega
  have fin : mn (wM τ) (fun o => upk τ p o + cg τ o m) (upk τ p m) = mn (wM τ) (fun o => upk τ p o + cg τ o m) FARn := by
    have e0 : cg τ m m = 0 := by unfold cg; rw [if_pos rfl]
    obtain ⟨i, hi, e⟩ := mn_in (n := wM τ) (g := fun o => upk τ p o + cg τ o m) (b := FARn) ⟨m, hm, Nat.le_trans (ub m hm) (by decide)⟩
    refine mn_eq ⟨i, hi, e⟩ (fun i hi => (mn_le (n := wM τ) (g := fun o => upk τ p o + cg τ o m) (b := FARn)).2 i hi) ?_
    have := (mn_le (n := wM τ) (g := fun o => upk τ p o + cg τ o m) (b := FARn)).2 m hm
    omega
  have key : ∀ r j, j + r = wM τ → kX2_costAhead_14 d Q (nI (p + 1)) (nI m) (nI (mn j (fun o => upk τ p o + cg τ o m) (upk τ p m))) (nI j) σ := by
    intro r
    induction r with
    | zero =>
      intro j hj
      obtain rfl : j = wM τ := by omega
      rw [fin]
      exact bX2_costAhead_14 (fun _ => hq) (fun c => (le_M h c).elim) (fun c => (le_M h c).elim) (fun c => (le_M h c).elim)
    | succ r ih =>
      intro j hj
      have hj0 : j < wM τ := by omega
      refine bX2_costAhead_14 (fun c => (ge_M h hj0 c).elim) (fun _ => hin) (fun _ => vp_in_nI (by omega) (by decide)) (fun _ => ?_)
      have hle := (mn_le (n := j) (g := fun o => upk τ p o + cg τ o m) (b := upk τ p m)).1
      have hb := ub j hj0
      rw [e1, hpc, nI_clamp (by omega), hu j hj0, chg_eq h (by omega) (by omega), nI_add, jbMin_n (by omega) (by omega), nI_1]
      exact ih (j + 1) (by omega)
  refine eX2_costAhead (bX2_costAhead_0 hin (vp_in_nI (by omega) (by decide)) ?_)
  rw [e1, hpc, nI_clamp (by omega), hu m hm]
  exact key (wM τ) 0 (by omega)
theorem thr_eq (h : iWb σ τ) {p m o : Nat} (hp : p + 1 < wP τ) (hm : m < wM τ) (ho : o < wM τ) (h1 : ∀ o, o < wM τ → σ 42 (p + 1) o = nI (ow τ (p + 1) o) ∧ σ 46 (p + 1) o = nI (bh τ (p + 1) o)) : jX2_costThrough σ (nI p) (nI m) (nI o) = nI (vth τ (wP τ - 1 - (p + 1)) m o) ∧ vth τ (wP τ - 1 - (p + 1)) m o ≤ 5000 := by
  have hM := h.1.2.2
  have hP := h.2.1.2.2
  have e2 : wP τ - 1 - (wP τ - 1 - (p + 1)) = p + 1 := by omega
  have h5 := bhk_le h (wP τ - 1 - (p + 1)) o (by omega) ho
  have h6 := cg_le h (a := m) (b := o)
  have h7 := ow_le h (p := p + 1) (m := o) (by omega)
  have h8 : (wP τ - 1 - (p + 1)) * 153 ≤ 12 * 153 := Nat.mul_le_mul_right _ (by omega)
  unfold jX2_costThrough vth
  rw [nI_1, nI_clamp (by omega), nI_clamp (by omega), chg_eq h (by omega) (by omega), (h1 o ho).1, (h1 o ho).2, nI_add, nI_add, e2]
  exact ⟨rfl, by omega⟩
theorem pX2_lookBehind (h : iWb σ τ) {p m : Nat} (hp : p < wP τ) (hm : m < wM τ) (hn : p + 1 < wP τ → ∀ o, o < wM τ → σ 42 (p + 1) o = nI (ow τ (p + 1) o) ∧ σ 46 (p + 1) o = nI (bh τ (p + 1) o) ∧ σ 48 (p + 1) o = wy τ (p + 1) o) (hq : Q none (ps_up (ps_up σ 46 p m (nI (bh τ p m))) 48 p m (wy τ p m))) : ps_C mX2_lookBehind (d + 2) [.inr (.inr (36, 0)), .inl (nI p), .inl (nI m)] σ Q := by
  have hM := h.1.2.2
  have hP := h.2.1.2.2
  have e1 : σ 36 0 3 - 1 = nI (wP τ - 1) := by rw [h.2.1.1, show (1 : Int32) = nI 1 from rfl, nI_sub (by omega)]
  have hpc : (nI p).toNatClampNeg = p := nI_clamp (by omega)
  have hmc : (nI m).toNatClampNeg = m := nI_clamp (by omega)
  have hpi : vp_in (nI p) 12 := vp_in_nI (by omega) (by decide)
  have hmi : vp_in (nI m) 4 := vp_in_nI (by omega) (by decide)
  rcases Nat.lt_or_ge (p + 1) (wP τ) with hp1 | hp1
  · have hne : ¬ nI p = σ 36 0 3 - 1 := by rw [e1, nI_eq (by omega) (by omega)]; omega
    have hn := hn hp1
    have h1 : ∀ o, o < wM τ → σ 42 (p + 1) o = nI (ow τ (p + 1) o) ∧ σ 46 (p + 1) o = nI (bh τ (p + 1) o) := fun o ho => ⟨(hn o ho).1, (hn o ho).2.1⟩
    have hpi1 : vp_in (nI p + 1) 12 := by rw [nI_1]; exact vp_in_nI (by omega) (by decide)
    have hk : wP τ - 1 - p = (wP τ - 1 - (p + 1)) + 1 := by omega
    have hbh : bh τ p m = bhk τ ((wP τ - 1 - (p + 1)) + 1) m := by unfold bh; rw [hk]
    have hwy : wy τ p m = jSum (wM τ) (fun o => if vth τ (wP τ - 1 - (p + 1)) m o = bh τ p m then wy τ (p + 1) o else 0) := by
      unfold wy
      rw [hk, hbh]
      rfl
    have fin : mn (wM τ) (vth τ (wP τ - 1 - (p + 1)) m) (vth τ (wP τ - 1 - (p + 1)) m m) = bh τ p m := by
      rw [hbh]
      obtain ⟨q1, q2⟩ := bhk_in h (k := wP τ - 1 - (p + 1)) (m := m) (by omega) hm
      exact mn_eq q1 q2 (q2 m hm)
    have last : ∀ r j, j + r = wM τ → kX2_lookBehind_74 d Q (nI p) (nI m) (nI (bh τ p m)) (jSum j (fun o => if vth τ (wP τ - 1 - (p + 1)) m o = bh τ p m then wy τ (p + 1) o else 0)) (nI j) σ := by
      intro r
      induction r with
      | zero =>
        intro j hj
        obtain rfl : j = wM τ := by omega
        rw [← hwy]
        refine bX2_lookBehind_74 (fun _ => hpi) (fun _ => hmi) (fun _ => ?_) (fun c => (le_M h c).elim) (fun c => (le_M h c).elim) (fun c => (le_M h c).elim) (fun c => (le_M h c).elim)
        rw [hpc, hmc]
        exact hq
      | succ r ih =>
        intro j hj
        have hj0 : j < wM τ := by omega
        have hh := ih (j + 1) (by omega)
        rw [← nI_1] at hh
        obtain ⟨t1, t2⟩ := thr_eq h hp1 hm hj0 h1
        have hbl : bh τ p m ≤ 5000 := by
          rw [hbh]
          exact Nat.le_trans ((bhk_in h (k := wP τ - 1 - (p + 1)) (m := m) (by omega) hm).2 j hj0) t2
        refine bX2_lookBehind_74 (fun c => (ge_M h hj0 c).elim) (fun c => (ge_M h hj0 c).elim) (fun c => (ge_M h hj0 c).elim) (fun _ => hpi1) (fun _ => vp_in_nI (by omega) (by decide)) (fun _ c => ?_) (fun _ c => ?_)
        · rw [t1, nI_eq (by omega) (by omega)] at c
          have e : jSum (j + 1) (fun o => if vth τ (wP τ - 1 - (p + 1)) m o = bh τ p m then wy τ (p + 1) o else 0) = jSum j (fun o => if vth τ (wP τ - 1 - (p + 1)) m o = bh τ p m then wy τ (p + 1) o else 0) := by
            show jSum j _ + (if vth τ (wP τ - 1 - (p + 1)) m j = bh τ p m then wy τ (p + 1) j else 0) = _
            rw [if_neg c, Int32.add_zero]
          rw [e] at hh
          exact hh
        · rw [t1, nI_eq (by omega) (by omega)] at c
          have e : jSum (j + 1) (fun o => if vth τ (wP τ - 1 - (p + 1)) m o = bh τ p m then wy τ (p + 1) o else 0) = jSum j (fun o => if vth τ (wP τ - 1 - (p + 1)) m o = bh τ p m then wy τ (p + 1) o else 0) + wy τ (p + 1) j := by
            show jSum j _ + (if vth τ (wP τ - 1 - (p + 1)) m j = bh τ p m then wy τ (p + 1) j else 0) = _
            rw [if_pos c]
          rw [e] at hh
          rw [nI_1, nI_clamp (by omega), nI_clamp (by omega), (hn j hj0).2.2]
          exact hh
    have key : ∀ r j, j + r = wM τ → kX2_lookBehind_40 d Q (nI p) (nI m) (nI (mn j (vth τ (wP τ - 1 - (p + 1)) m) (vth τ (wP τ - 1 - (p + 1)) m m))) (nI j) σ := by
      intro r
      induction r with
      | zero =>
        intro j hj
        obtain rfl : j = wM τ := by omega
        rw [fin]
        exact bX2_lookBehind_40 (fun _ => last (wM τ) 0 (by omega)) (fun c => (le_M h c).elim) (fun c => (le_M h c).elim) (fun c => (le_M h c).elim)
      | succ r ih =>
        intro j hj
        have hj0 : j < wM τ := by omega
        obtain ⟨t1, t2⟩ := thr_eq h hp1 hm hj0 h1
        obtain ⟨t3, t4⟩ := thr_eq h hp1 hm hm h1
        have hle := (mn_le (n := j) (g := vth τ (wP τ - 1 - (p + 1)) m) (b := vth τ (wP τ - 1 - (p + 1)) m m)).1
        refine bX2_lookBehind_40 (fun c => (ge_M h hj0 c).elim) (fun _ => hpi1) (fun _ => vp_in_nI (by omega) (by decide)) (fun _ => ?_)
        rw [t1, jbMin_n (by omega) (by omega), nI_1]
        exact ih (j + 1) (by omega)
    refine eX2_lookBehind (bX2_lookBehind_0 (fun _ => hpi1) (fun _ => hmi) (fun _ => ?_) (fun c => absurd c hne) (fun c => absurd c hne) (fun c => absurd c hne))
    rw [(thr_eq h hp1 hm hm h1).1]
    exact key (wM τ) 0 (by omega)
  · have he : nI p = σ 36 0 3 - 1 := by rw [e1]; congr 1; omega
    have hk : wP τ - 1 - p = 0 := by omega
    refine eX2_lookBehind (bX2_lookBehind_0 (fun c => absurd he c) (fun c => absurd he c) (fun c => absurd he c) (fun _ => hpi) (fun _ => hmi) (fun _ => ?_))
    have e3 : bh τ p m = 0 := by unfold bh; rw [hk]; rfl
    have e4 : wy τ p m = 1 := by unfold wy; rw [hk]; rfl
    rw [e3, e4] at hq
    rw [hpc, hmc]
    exact hq
theorem pX2_leastUpTo (h : iWb σ τ) (hu : ∀ o, o < wM τ → σ 44 (wP τ - 1) o = nI (upk τ (wP τ - 1) o)) (hq : Q (some (.inl (nI (lst τ)))) σ) : ps_C mX2_leastUpTo (d + 1) [.inr (.inr (36, 0)), .inl (σ 36 0 3 - 1)] σ Q := by
  have hM := h.1.2.2
  have hP := h.2.1.2.2
  have e1 : σ 36 0 3 - 1 = nI (wP τ - 1) := by rw [h.2.1.1, show (1 : Int32) = nI 1 from rfl, nI_sub (by omega)]
  rw [e1]
  have hpc : (nI (wP τ - 1)).toNatClampNeg = wP τ - 1 := nI_clamp (by omega)
  have hpi : vp_in (nI (wP τ - 1)) 12 := vp_in_nI (by omega) (by decide)
  have ub : ∀ o, o < wM τ → upk τ (wP τ - 1) o ≤ 5000 := by
    intro o ho
    have h1 := upk_le h (wP τ - 1) o (by omega) ho
    have h3 : (wP τ - 1) * 153 ≤ 12 * 153 := Nat.mul_le_mul_right _ (by omega)
    omega
  have fin : mn (wM τ) (upk τ (wP τ - 1)) (upk τ (wP τ - 1) 0) = lst τ := by
    obtain ⟨i, hi, e⟩ := mn_in (n := wM τ) (g := upk τ (wP τ - 1)) (b := FARn) ⟨0, by omega, Nat.le_trans (ub 0 (by omega)) (by decide)⟩
    exact mn_eq ⟨i, hi, e⟩ (fun i hi => (mn_le (n := wM τ) (g := upk τ (wP τ - 1)) (b := FARn)).2 i hi) ((mn_le (n := wM τ) (g := upk τ (wP τ - 1)) (b := FARn)).2 0 (by omega))
  have key : ∀ r j, j + r = wM τ → kX2_leastUpTo_11 d Q (nI (wP τ - 1)) (nI (mn j (upk τ (wP τ - 1)) (upk τ (wP τ - 1) 0))) (nI j) σ := by
    intro r
    induction r with
    | zero =>
      intro j hj
      obtain rfl : j = wM τ := by omega
      rw [fin]
      exact bX2_leastUpTo_11 (fun _ => hq) (fun c => (le_M h c).elim) (fun c => (le_M h c).elim) (fun c => (le_M h c).elim)
    | succ r ih =>
      intro j hj
      have hj0 : j < wM τ := by omega
      have hle := (mn_le (n := j) (g := upk τ (wP τ - 1)) (b := upk τ (wP τ - 1) 0)).1
      have hb := ub j hj0
      have hb0 := ub 0 (by omega)
      refine bX2_leastUpTo_11 (fun c => (ge_M h hj0 c).elim) (fun _ => hpi) (fun _ => vp_in_nI (by omega) (by decide)) (fun _ => ?_)
      rw [hpc, nI_clamp (by omega), hu j hj0, jbMin_n (by omega) (by omega), nI_1]
      exact ih (j + 1) (by omega)
  refine eX2_leastUpTo (bX2_leastUpTo_0 hpi (vp_in_nI (n := 0) (by decide) (by decide)) ?_)
  rw [hpc, show (0 : Int32).toNatClampNeg = 0 from by decide, hu 0 (by omega)]
  have h1 := key (wM τ - 1) 1 (by omega)
  rw [show mn 1 (upk τ (wP τ - 1)) (upk τ (wP τ - 1) 0) = upk τ (wP τ - 1) 0 from Nat.min_self _] at h1
  exact h1
theorem pX2_solve (h : iWb σ τ) (hs : σ 36 0 10 = 0 ∨ (σ 36 0 10 = 1 ∧ sW σ τ)) (hq : ∀ σ', frW σ σ' → sW σ' τ → σ' 36 0 10 = 1 → Q none σ') : ps_C mX2_solve (d + 3) [.inr (.inr (36, 0))] σ Q := by
  have hM := h.1.2.2
  have hP := h.2.1.2.2
  rcases hs with hs | ⟨hs, hok⟩
  rotate_left
  · exact eX2_solve (bX2_solve_0 (fun c => absurd (hs.symm.trans c) (by decide)) (fun _ => hq σ (frW_refl σ) hok hs))
  -- the rows that are ready: up to a page and a man
  obtain ⟨S1, hS1⟩ : ∃ S1 : ps_S → Nat → Nat → Prop, S1 = (fun ρ p m => frW σ ρ ∧ ∀ p' o, o < wM τ → (p' < p ∨ (p' = p ∧ o < m)) → ρ 42 p' o = nI (ow τ p' o) ∧ ρ 44 p' o = nI (upk τ p' o)) := ⟨_, rfl⟩
  obtain ⟨S2, hS2⟩ : ∃ S2 : ps_S → Nat → Nat → Prop, S2 = (fun ρ p m => frW σ ρ ∧ (∀ p' o, o < wM τ → p' < wP τ → ρ 42 p' o = nI (ow τ p' o) ∧ ρ 44 p' o = nI (upk τ p' o)) ∧ ∀ p' o, o < wM τ → p' < wP τ → (p < p' ∨ (p' = p ∧ o < m)) → ρ 46 p' o = nI (bh τ p' o) ∧ ρ 48 p' o = wy τ p' o) := ⟨_, rfl⟩
  have hlast : ∀ ρ, (frW σ ρ ∧ (∀ p' o, o < wM τ → p' < wP τ → ρ 42 p' o = nI (ow τ p' o) ∧ ρ 44 p' o = nI (upk τ p' o)) ∧ ∀ p' o, o < wM τ → p' < wP τ → ρ 46 p' o = nI (bh τ p' o) ∧ ρ 48 p' o = wy τ p' o) → ps_C mX2_leastUpTo (d + 2) [.inr (.inr (36, 0)), .inl (ρ 36 0 3 - 1)] ρ (ps_ri (fun x σ1 => kX2_solve_135 (d + 2) Q x σ1)) := by
    intro ρ ⟨f1, f2, f3⟩
    refine pX2_leastUpTo (frW_b f1 h) (fun o ho => (f2 (wP τ - 1) o ho (by omega)).2) ⟨_, rfl, bX2_solve_135 (hq _ ?_ ?_ ?_)⟩
    · refine frW_trans f1 ⟨fun g a b c d e => ?_, fun k a b => ?_⟩
      · rw [ps_up_o a, ps_up_o a]
      · rw [ps_up_v (by omega), ps_up_v (by omega)]
    · refine ⟨fun p m hp hm => ?_, ?_⟩
      · rw [ps_up_o (by decide), ps_up_o (by decide), ps_up_o (by decide), ps_up_o (by decide), ps_up_o (by decide), ps_up_o (by decide), ps_up_o (by decide), ps_up_o (by decide)]
        exact ⟨(f2 p m hm hp).1, (f2 p m hm hp).2, (f3 p m hm hp).1, (f3 p m hm hp).2⟩
      · rw [ps_up_v (by omega), ps_up_s]
    · rw [ps_up_s]
  have two : ∀ r p, (p + 1 = r ∨ r = 0) → p < wP τ → ∀ ρ, (frW σ ρ ∧ (∀ p' o, o < wM τ → p' < wP τ → ρ 42 p' o = nI (ow τ p' o) ∧ ρ 44 p' o = nI (upk τ p' o)) ∧ ∀ p' o, o < wM τ → p' < wP τ → r ≤ p' → ρ 46 p' o = nI (bh τ p' o) ∧ ρ 48 p' o = wy τ p' o) → kX2_solve_92 (d + 2) Q (nI r - 1) ρ := by
    intro r
    induction r with
    | zero =>
      intro p _ _ ρ ⟨f1, f2, f3⟩
      refine bX2_solve_92 (fun _ => hlast ρ ⟨f1, f2, fun p' o ho hp' => f3 p' o ho hp' (Nat.zero_le _)⟩) (fun c => absurd (by decide) c)
    | succ r ih =>
      intro p hpr hpP ρ ⟨f1, f2, f3⟩
      obtain rfl : p = r := by omega
      rw [nI_pred]
      have inner : ∀ s j, j + s = wM τ → ∀ ρ', (frW σ ρ' ∧ (∀ p' o, o < wM τ → p' < wP τ → ρ' 42 p' o = nI (ow τ p' o) ∧ ρ' 44 p' o = nI (upk τ p' o)) ∧ ∀ p' o, o < wM τ → p' < wP τ → (p < p' ∨ (p' = p ∧ o < j)) → ρ' 46 p' o = nI (bh τ p' o) ∧ ρ' 48 p' o = wy τ p' o) → kX2_solve_98 (d + 2) Q (nI p) (nI j) ρ' := by
        intro s
        induction s with
        | zero =>
          intro j hj ρ' ⟨g1, g2, g3⟩
          obtain rfl : j = wM τ := by omega
          refine bX2_solve_98 (fun _ => ?_) (fun c => (le_M (frW_b g1 h) c).elim)
          rw [show nI p + -1 = nI p - 1 from by rw [Int32.sub_eq_add_neg]]
          refine ih (p - 1) (by omega) (by omega) ρ' ⟨g1, g2, fun p' o ho hp' hle => g3 p' o ho hp' (by omega)⟩
        | succ s ih2 =>
          intro j hj ρ' ⟨g1, g2, g3⟩
          have hj0 : j < wM τ := by omega
          refine bX2_solve_98 (fun c => (ge_M (frW_b g1 h) hj0 c).elim) (fun _ => pX2_lookBehind (frW_b g1 h) hpP hj0 (fun hp1 o ho => ⟨(g2 (p + 1) o ho hp1).1, g3 (p + 1) o ho hp1 (by omega)⟩) ⟨rfl, bX2_solve_112 ?_⟩)
          rw [nI_1]
          refine ih2 (j + 1) (by omega) _ ⟨frW_trans g1 (frW_trans (frW_up (by omega)) (frW_up (by omega))), fun p' o ho hp' => ?_, fun p' o ho hp' hlt => ?_⟩
          · rw [ps_up_o (by decide), ps_up_o (by decide), ps_up_o (by decide), ps_up_o (by decide)]
            exact g2 p' o ho hp'
          · by_cases e : p' = p ∧ o = j
            · obtain ⟨rfl, rfl⟩ := e
              rw [ps_up_o (by decide), ps_up_s, ps_up_s]
              exact ⟨rfl, rfl⟩
            · rw [ps_up_o (f' := 46) (by decide), ps_up_v e, ps_up_v e, ps_up_o (by decide)]
              exact g3 p' o ho hp' (by omega)
      refine bX2_solve_92 (fun c => absurd c (nI_pos (by omega))) (fun _ => inner (wM τ) 0 (by omega) ρ ⟨f1, f2, fun p' o ho hp' hlt => f3 p' o ho hp' (by omega)⟩)
  have one : ∀ r p, p + r = wP τ → ∀ ρ, (frW σ ρ ∧ ∀ p' o, o < wM τ → p' < p → ρ 42 p' o = nI (ow τ p' o) ∧ ρ 44 p' o = nI (upk τ p' o)) → kX2_solve_10 (d + 2) Q (nI p) ρ := by
    intro r
    induction r with
    | zero =>
      intro p hp ρ ⟨f1, f2⟩
      obtain rfl : p = wP τ := by omega
      have hb := frW_b f1 h
      refine bX2_solve_10 (fun _ => ?_) (fun c => absurd (by rw [hb.2.1.1]; exact nI_le (Nat.le_refl _) (by omega)) c)
      rw [hb.2.1.1]
      exact two (wP τ) (wP τ - 1) (by omega) (by omega) ρ ⟨f1, fun p' o ho hp' => f2 p' o ho hp', fun p' o ho hp' hle => absurd hp' (by omega)⟩
    | succ r ih =>
      intro p hp ρ ⟨f1, f2⟩
      have hp0 : p < wP τ := by omega
      have inner : ∀ s j, j + s = wM τ → ∀ ρ', (frW σ ρ' ∧ ∀ p' o, o < wM τ → (p' < p ∨ (p' = p ∧ o < j)) → ρ' 42 p' o = nI (ow τ p' o) ∧ ρ' 44 p' o = nI (upk τ p' o)) → kX2_solve_20 (d + 2) Q (nI p) (nI j) ρ' := by
        intro s
        induction s with
        | zero =>
          intro j hj ρ' ⟨g1, g2⟩
          obtain rfl : j = wM τ := by omega
          refine bX2_solve_20 (fun _ => ?_) (fun c => (le_M (frW_b g1 h) c).elim) (fun c => (le_M (frW_b g1 h) c).elim) (fun c => (le_M (frW_b g1 h) c).elim) (fun c => (le_M (frW_b g1 h) c).elim)
          rw [nI_1]
          exact ih (p + 1) (by omega) ρ' ⟨g1, fun p' o ho hp' => g2 p' o ho (by omega)⟩
        | succ s ih2 =>
          intro j hj ρ' ⟨g1, g2⟩
          have hj0 : j < wM τ := by omega
          have hb := frW_b g1 h
          have hpc : (nI p).toNatClampNeg = p := nI_clamp (by omega)
          have hjc : (nI j).toNatClampNeg = j := nI_clamp (by omega)
          -- behind both writes
          have go : ∀ x : Nat, upk τ p j = ow τ p j + x → kX2_solve_71 (d + 2) Q (nI p) (nI j) (nI x) ((ps_up ρ' 42 p j (nI (ow τ p j))) 42 p j) (nI j) p (ps_up ρ' 42 p j (nI (ow τ p j))) := by
            intro x hx
            refine bX2_solve_71 (vp_in_nI (by omega) (by decide)) ?_
            rw [ps_up_s, hjc, nI_add, ← hx, nI_1]
            refine ih2 (j + 1) (by omega) _ ⟨frW_trans g1 (frW_trans (frW_up (by omega)) (frW_up (by omega))), fun p' o ho hlt => ?_⟩
            by_cases e : p' = p ∧ o = j
            · obtain ⟨rfl, rfl⟩ := e
              rw [ps_up_o (by decide), ps_up_s, ps_up_s]
              exact ⟨rfl, rfl⟩
            · rw [ps_up_o (f' := 42) (by decide), ps_up_v e, ps_up_v e, ps_up_o (by decide)]
              exact g2 p' o ho (by omega)
          refine bX2_solve_20 (fun c => (ge_M hb hj0 c).elim) (fun _ => vp_in_nI (by omega) (by decide)) (fun _ => vp_in_nI (by omega) (by decide)) (fun _ c => ?_) (fun _ c => ?_)
          · have hp1 : p ≠ 0 := fun e => c (by rw [e]; rfl)
            obtain ⟨p0, rfl⟩ : ∃ p0, p = p0 + 1 := ⟨p - 1, by omega⟩
            rw [hpc, hjc, sWa_eq hb (by omega) (by omega)]
            refine pX2_costAhead (τ := τ) (p := p0) (frW_b (frW_trans g1 (frW_up (by omega))) h) hp0 hj0 (fun o ho => ?_) ⟨_, rfl, go _ rfl⟩
            rw [ps_up_o (by decide)]
            exact (g2 p0 o ho (by omega)).2
          · have hp1 : p = 0 := (nI_eq (a := p) (b := 0) (by omega) (by omega)).mp c
            subst hp1
            rw [hpc, hjc, sWa_eq hb (by omega) (by omega)]
            exact go 0 rfl
      refine bX2_solve_10 (fun c => absurd c (by rw [(frW_b f1 h).2.1.1]; exact nI_ge hp0 (by omega))) (fun _ => inner (wM τ) 0 (by omega) ρ ⟨f1, fun p' o ho hlt => f2 p' o ho (by omega)⟩)
  exact eX2_solve (bX2_solve_0 (fun _ => one (wP τ) 0 (by omega) σ ⟨frW_refl σ, fun p' o ho hp' => absurd hp' (by omega)⟩) (fun c => absurd hs c))
end MX

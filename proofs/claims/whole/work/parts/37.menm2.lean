/-! ===== men: the reference (2) ===== -/
section MN
variable {σ τ ρ : ps_S} {d : Nat} {Q : Option ps_V → ps_S → Prop}
/-- rest's rows are ready -/
def rOK (τ ρ : ps_S) : Prop := ∀ p m, p < wP τ → m < wM τ → ρ 77 0 (4 * p + m) = nI (ow τ p m + bh τ p m) ∧ ρ 78 0 (4 * p + m) = wy τ p m
theorem pX8_layGone (h : iWb σ τ) (hf : frR τ ρ) (hq : ∀ ρ', frR τ ρ' → ρ' 77 = ρ 77 → ρ' 78 = ρ 78 → (∀ p m, p < wP τ → m < wM τ → ρ' 79 0 (4 * p + m) = nI (upk τ p m)) → Q none ρ') : ps_C mX8_layGone (d + 1) [ps_m] ρ Q := by
  have hM := h.1.2.2
  have hP := h.2.1.2.2
  have outer : ∀ r p, p + r = wP τ → ∀ ρ', (frR τ ρ' ∧ ρ' 77 = ρ 77 ∧ ρ' 78 = ρ 78) → (∀ p' o, p' < p → o < wM τ → ρ' 79 0 (4 * p' + o) = nI (upk τ p' o)) → kX8_layGone_2 d Q (nI p) ρ' := by
    intro r
    induction r with
    | zero =>
      intro p hp ρ' f1 f2
      obtain rfl : p = wP τ := by omega
      exact bX8_layGone_2 (fun _ => hq ρ' f1.1 f1.2.1 f1.2.2 f2) (fun c => absurd (by rw [(fr_M h f1.1).2.1]; exact nI_le (Nat.le_refl _) (by omega)) c)
    | succ r ih =>
      intro p hp ρ' f1 f2
      have hp0 : p < wP τ := by omega
      have hpc : (nI p).toNatClampNeg = p := nI_clamp (by omega)
      have inner : ∀ s j, j + s = wM τ → ∀ ρ', (frR τ ρ' ∧ ρ' 77 = ρ 77 ∧ ρ' 78 = ρ 78) → (∀ p' o, o < wM τ → (p' < p ∨ (p' = p ∧ o < j)) → ρ' 79 0 (4 * p' + o) = nI (upk τ p' o)) → kX8_layGone_12 d Q (nI p) (nI j) ρ' := by
        intro s
        induction s with
        | zero =>
          intro j hj ρ' g1 g2
          obtain rfl : j = wM τ := by omega
          refine bX8_layGone_12 (fun _ => ?_) (fun c => (fr_le h g1.1 c).elim) (fun c => (fr_le h g1.1 c).elim)
          rw [nI_1]
          exact ih (p + 1) (by omega) ρ' g1 (fun p' o hp' ho => g2 p' o ho (by omega))
        | succ s ih2 =>
          intro j hj ρ' g1 g2
          have hj0 : j < wM τ := by omega
          have hjc : (nI j).toNatClampNeg = j := nI_clamp (by omega)
          have e4 : (4 * nI p) + nI j = nI (4 * p + j) := by rw [show (4 : Int32) * nI p = nI (4 * p) from ix_mul 4 p, nI_add]
          have fin : ∀ x : Nat, upk τ p j = ow τ p j + x → kX8_layGone_96 d Q (nI p) (nI j) (nI x) ρ' := by
            intro x hx
            refine bX8_layGone_96 (vp_in_nI (by omega) (by decide)) (vp_in_nI (by omega) (by decide)) (by rw [hjc]; exact fr_hab h g1.1 (by omega)) (by rw [e4]; exact vp_in_nI (by omega) (by decide)) ?_
            rw [e4, nI_clamp (by omega), hpc, hjc, fr_wa h g1.1 (by omega) (by omega), nI_add, nI_1, show x + ow τ p j = upk τ p j by omega]
            refine ih2 (j + 1) (by omega) _ ⟨frR_up g1.1 (by omega), by rw [ps_up_o (by decide)]; exact g1.2.1, by rw [ps_up_o (by decide)]; exact g1.2.2⟩ (fun p' o ho hlt => ?_)
            by_cases e : p' = p ∧ o = j
            · obtain ⟨rfl, rfl⟩ := e
              rw [ps_up_s]
            · rw [ps_up_v (by omega)]
              exact g2 p' o ho (by omega)
          rcases Nat.eq_zero_or_pos p with hz | hz
          · subst hz
            refine bX8_layGone_12 (fun c => (fr_ge h g1.1 hj0 c).elim) (fun _ c => absurd rfl c) (fun _ _ => bX8_layGone_34 (fun _ => fin 0 rfl) (fun _ _ => fin 0 rfl) (fun _ c => absurd (nI_le (Nat.le_refl 0) (by decide)) c) (fun _ c => absurd (nI_le (Nat.le_refl 0) (by decide)) c) (fun _ c => absurd (nI_le (Nat.le_refl 0) (by decide)) c))
          · obtain ⟨p0, rfl⟩ : ∃ p0, p = p0 + 1 := ⟨p - 1, by omega⟩
            have hn0 : ¬ nI (p0 + 1) = 0 := nI_ne0 hz (by omega)
            have hnl : ¬ nI (p0 + 1) ≤ 0 := nI_nle hz (by omega)
            obtain ⟨V, hV⟩ : ∃ V : Nat → Nat, V = (fun o => upk τ p0 o + cg τ o j) := ⟨_, rfl⟩
            have hup : upk τ (p0 + 1) j = ow τ (p0 + 1) j + mn (wM τ) V FARn := by rw [hV]; rfl
            have vb : ∀ o, o < wM τ → V o ≤ 5000 := by
              intro o ho
              have h1 := upk_le h p0 o (by omega) ho
              have h2 := cg_le h (a := o) (b := j)
              have h3 : p0 * 153 ≤ 12 * 153 := Nat.mul_le_mul_right _ (by omega)
              rw [hV]
              show upk τ p0 o + cg τ o j ≤ 5000
              omega
            have loop : ∀ t o, o + t = wM τ → kX8_layGone_34 d Q (nI (p0 + 1)) (nI j) (nI (mn o V FARn)) (nI o) ρ' := by
              intro t
              induction t with
              | zero =>
                intro o ho
                obtain rfl : o = wM τ := by omega
                exact bX8_layGone_34 (fun _ => fin _ hup) (fun c => (fr_le h g1.1 c).elim) (fun c => (fr_le h g1.1 c).elim) (fun c => (fr_le h g1.1 c).elim) (fun c => (fr_le h g1.1 c).elim)
              | succ t ih3 =>
                intro o ho
                have ho0 : o < wM τ := by omega
                have hh := ih3 (o + 1) (by omega)
                rw [← nI_1 o] at hh
                have hmin : mn (o + 1) V FARn = min (mn o V FARn) (V o) := rfl
                have hmb : mn o V FARn ≤ 100000000 := (mn_le (n := o) (g := V) (b := FARn)).1
                have hvo := vb o ho0
                have e5 : ((4 * nI (p0 + 1)) - 4) + nI o = nI (4 * p0 + o) := by
                  rw [show (4 : Int32) * nI (p0 + 1) = nI (4 * (p0 + 1)) from ix_mul 4 (p0 + 1), show (4 : Int32) = nI 4 from rfl, nI_sub (by omega), nI_add]
                  congr 1
                have hin : vp_in (((4 * nI (p0 + 1)) - 4) + nI o) 48 := by rw [e5]; exact vp_in_nI (by omega) (by decide)
                have er := g2 p0 o ho0 (by omega)
                have s74 : ∀ s0 : Int32, s0 = nI (cg τ o j) → kX8_layGone_74 d Q (nI (p0 + 1)) (nI j) (nI (mn o V FARn)) (nI o) s0 (ρ' 79 0 (((4 * nI (p0 + 1)) - 4) + nI o).toNatClampNeg) ρ' := by
                  intro s0 hs0
                  have e : ρ' 79 0 (((4 * nI (p0 + 1)) - 4) + nI o).toNatClampNeg + s0 = nI (V o) := by
                    rw [e5, nI_clamp (by omega), er, hs0, nI_add, hV]
                  refine bX8_layGone_74 (fun c => ?_) (fun c => ?_)
                  · rw [e, nI_leI (by omega) (by omega)] at c
                    rw [show mn o V FARn = mn (o + 1) V FARn by rw [hmin]; omega]
                    exact hh
                  · rw [e] at c ⊢
                    rw [nI_leI (by omega) (by omega)] at c
                    rw [show V o = mn (o + 1) V FARn by rw [hmin]; omega]
                    exact hh
                refine bX8_layGone_34 (fun c => (fr_ge h g1.1 ho0 c).elim) (fun _ c => absurd c hnl) (fun _ _ => hin) (fun _ _ c => ?_) (fun _ _ c => ?_)
                · rw [(fr_M h g1.1).2.2]
                  refine s74 _ ?_
                  unfold cg
                  rw [if_neg (fun q => c (by rw [q]))]
                · refine s74 _ ?_
                  have : o = j := (nI_eq (by omega) (by omega)).mp c
                  unfold cg
                  rw [if_pos this]
                  rfl
            exact bX8_layGone_12 (fun c => (fr_ge h g1.1 hj0 c).elim) (fun _ _ => loop (wM τ) 0 (by omega)) (fun _ c => absurd c hn0)
      exact bX8_layGone_2 (fun c => absurd c (by rw [(fr_M h f1.1).2.1]; exact nI_ge hp0 (by omega))) (fun _ => inner (wM τ) 0 (by omega) ρ' f1 (fun p' o ho hlt => f2 p' o (by omega) ho))
  exact eX8_layGone (bX8_layGone_0 (outer (wP τ) 0 (by omega) ρ ⟨hf, rfl, rfl⟩ (fun p' o hp' ho => absurd hp' (by omega))))
theorem mMin_n {g : Nat → Int32} {V : Nat → Nat} {b : Nat} (hb : b < 2 ^ 31) : ∀ {n : Nat}, (∀ i, i < n → g i = nI (V i) ∧ V i < 2 ^ 31) → mMin n g (nI b) = nI (mn n V b)
  | 0, _ => rfl
  | n + 1, e => by
    have h1 := mMin_n hb (n := n) (fun i hi => e i (by omega))
    have h2 := e n (by omega)
    have h3 := (mn_le (n := n) (g := V) (b := b)).1
    show (if g n < mMin n g (nI b) then g n else mMin n g (nI b)) = nI (min (mn n V b) (V n))
    rw [h1, h2.1]
    by_cases c : V n < mn n V b
    · rw [if_pos (nI_lt c (by omega))]; congr 1; omega
    · rw [if_neg (nI_nlt (by omega) (by omega))]; congr 1; omega
theorem mBest_eq (h : iWb σ τ) (hf : frR τ ρ) (hr : rOK τ ρ) : mBest ρ = nI (lst τ) := by
  have hM := h.1.2.2
  have hP := h.2.1.2.2
  unfold mBest
  rw [(fr_M h hf).1, nI_clamp (by omega)]
  have e := mMin_n (g := fun m => ρ 77 0 m) (V := fun m => upk τ 0 m + bh τ 0 m) (b := 100000000) (by decide) (n := wM τ) (fun i hi => by
    have h1 := (hr 0 i (by omega) hi).1
    have h2 := ub_le h (p := 0) (m := i) (by omega) hi
    rw [Nat.mul_zero, Nat.zero_add] at h1
    exact ⟨h1, by omega⟩)
  refine e.trans ?_
  rw [fwd_bwd h (wP τ - 1) 0 (by omega)]
theorem m_setting (h : iWb σ τ) (hf : frR τ ρ) (hq : ∀ ρ', frR τ ρ' → Q (some (.inl (nI (lst τ)))) ρ') : ps_C mX8_setting (d + 30) [ps_m] ρ Q :=
  eX8_setting (bX8_setting_0 (pX8_layRest h hf (fun ρ' f1 f2 => ⟨rfl, bX8_setting_4 (fr_5 h f1) (by rw [mBest_eq h f1 f2]; exact hq ρ' f1)⟩)))
theorem m_settings (h : iWb σ τ) (hf : frR τ ρ) (hq : ∀ ρ', frR τ ρ' → Q (some (.inl (sttN τ))) ρ') : ps_C mX8_settings (d + 30) [ps_m] ρ Q := by
  refine eX8_settings (bX8_settings_0 (pX8_layRest h hf (fun ρ' f1 f2 => ⟨rfl, bX8_settings_4 ?_⟩)))
  have hM := h.1.2.2
  have hP := h.2.1.2.2
  have hq := hq ρ' f1
  have hbe := mBest_eq h f1 f2
  have hll := lst_le h
  obtain ⟨g, hg⟩ : ∃ g : Nat → Int32, g = (fun m => @ite _ (isB τ 0 m) (Classical.propDecidable _) (wy τ 0 m) 0) := ⟨_, rfl⟩
  have hq : Q (some (.inl (jSum (wM τ) g))) ρ' := by rw [hg]; exact hq
  have key : ∀ r j, j + r = wM τ → kX8_settings_8 (d + 29) Q (jSum j g) (nI j) ρ' := by
    intro r
    induction r with
    | zero =>
      intro j hj
      obtain rfl : j = wM τ := by omega
      exact bX8_settings_8 (fun _ => hq) (fun c => (fr_le h f1 c).elim) (fun c => (fr_le h f1 c).elim) (fun c => (fr_le h f1 c).elim) (fun c => (fr_le h f1 c).elim)
    | succ r ih =>
      intro j hj
      have hj0 : j < wM τ := by omega
      have hh := ih (j + 1) (by omega)
      rw [← nI_1, show jSum (j + 1) g = jSum j g + g j from rfl] at hh
      have hjc : (nI j).toNatClampNeg = j := nI_clamp (by omega)
      obtain ⟨r1, r2⟩ := f2 0 j (by omega) hj0
      rw [Nat.mul_zero, Nat.zero_add] at r1 r2
      have hub := ub_le h (p := 0) (m := j) (by omega) hj0
      have hi : nI (ow τ 0 j + bh τ 0 j) = nI (lst τ) ↔ isB τ 0 j := by
        rw [nI_eq (show ow τ 0 j + bh τ 0 j < 2 ^ 31 from Nat.lt_of_le_of_lt hub (by decide)) (by omega)]
        exact Iff.rfl
      refine bX8_settings_8 (fun c => (fr_ge h f1 hj0 c).elim) (fun _ => vp_in_nI (by omega) (by decide)) (fun _ => fr_5 h f1) (fun _ c => ?_) (fun _ c => ?_)
      · rw [hjc, r1, hbe, hi] at c
        have e : g j = 0 := by rw [hg]; exact if_neg c
        rw [e] at hh
        exact hh
      · rw [hjc, r1, hbe, hi] at c
        have e : g j = wy τ 0 j := by rw [hg]; exact if_pos c
        rw [hjc, r2, ← e]
        exact hh
  exact key (wM τ) 0 (by omega)
theorem page_iff (h : iWb σ τ) (hf : frR τ ρ) {v : Int32} : ¬ jX8_isPage ρ v = 0 ↔ vp_in v (wP τ) := by
  unfold jX8_isPage
  rw [(fr_M h hf).2.1]
  exact in_iffp (by have := h.2.1.2.2.2; omega)
theorem man_iff (h : iWb σ τ) (hf : frR τ ρ) {v : Int32} : ¬ jX8_isMan ρ v = 0 ↔ vp_in v (wM τ) := by
  unfold jX8_isMan
  rw [(fr_M h hf).1]
  exact in_iffp (by have := h.1.2.2.2; omega)
theorem pagex_iff (h : iWb σ τ) {v : Int32} : ¬ jX7_isPage σ v = 0 ↔ vp_in v (wP τ) := by
  unfold jX7_isPage
  rw [h.2.1.1]
  exact wi_iff (by have := h.2.1.2.2.2; omega)
theorem manx_iff (h : iWb σ τ) {v : Int32} : ¬ jX7_isMan σ v = 0 ↔ vp_in v (wM τ) := by
  unfold jX7_isMan
  rw [h.1.1]
  exact wi_iff (by have := h.1.2.2.2; omega)
theorem m_sure {v : Int32} (h : iWb σ τ) (hf : frR τ ρ) (h1 : ¬ vp_in v (wP τ) → Q (some (.inl (-900001))) ρ) (hq : ∀ p ρ', p < wP τ → v = nI p → frR τ ρ' → Q (some (.inl (jbP (cntN (wM τ) (isB τ p) = 1)))) ρ') : ps_C mX8_sure (d + 30) [ps_m, .inl v] ρ Q := by
  have hM := h.1.2.2
  have hP := h.2.1.2.2
  refine eX8_sure (bX8_sure_0 (fun c => ?_) (fun c => h1 ((z0 (page_iff h hf)).mp c)))
  obtain ⟨p, hp, rfl⟩ := vp_in_of ((page_iff h hf).mp c) (by omega)
  refine pX8_layRest h hf (fun ρ1 f1 f2 => ⟨rfl, bX8_sure_15 (pX8_layGone h f1 (fun ρ' g1 g2 g3 g4 => ⟨rfl, bX8_sure_19 ?_⟩))⟩)
  have f2 : rOK τ ρ' := fun p m hp hm => by rw [g2, g3]; exact f2 p m hp hm
  have hq := hq p ρ' hp rfl g1
  have hbe := mBest_eq h g1 f2
  have hll := lst_le h
  have hpc : (nI p).toNatClampNeg = p := nI_clamp (by omega)
  have cb : ∀ n, cntN n (isB τ p) ≤ n := by
    intro n
    induction n with
    | zero => exact Nat.le_refl _
    | succ n ih =>
      have : jN (isB τ p n) ≤ 1 := by
        by_cases c : isB τ p n
        · rw [jN_t c]; omega
        · rw [jN_f c]; omega
      show cntN n (isB τ p) + jN (isB τ p n) ≤ n + 1
      omega
  have key : ∀ r j, j + r = wM τ → kX8_sure_23 (d + 28) Q (nI p) (nI (cntN j (isB τ p))) (nI j) ρ' := by
    intro r
    induction r with
    | zero =>
      intro j hj
      obtain rfl : j = wM τ := by omega
      have hcb := cb (wM τ)
      refine bX8_sure_23 (fun _ c => ?_) (fun _ c => ?_) (fun c => (fr_le h g1 c).elim) (fun c => (fr_le h g1 c).elim) (fun c => (fr_le h g1 c).elim) (fun c => (fr_le h g1 c).elim) (fun c => (fr_le h g1 c).elim) (fun c => (fr_le h g1 c).elim) (fun c => (fr_le h g1 c).elim) (fun c => (fr_le h g1 c).elim)
      · rw [jbP_f (fun q => c (by rw [q]; rfl))] at hq
        exact hq
      · rw [jbP_t ((nI_eq (b := 1) (by omega) (by decide)).mp c)] at hq
        exact hq
    | succ r ih =>
      intro j hj
      have hj0 : j < wM τ := by omega
      have hh := ih (j + 1) (by omega)
      rw [← nI_1] at hh
      have hjc : (nI j).toNatClampNeg = j := nI_clamp (by omega)
      have e4 : (4 * nI p) + nI j = nI (4 * p + j) := by rw [show (4 : Int32) * nI p = nI (4 * p) from ix_mul 4 p, nI_add]
      obtain ⟨r1, r2⟩ := f2 p j hp hj0
      have r3 := g4 p j hp hj0
      have hub := ub_le h (p := p) (m := j) hp hj0
      have how := ow_le h (p := p) (m := j) (by omega)
      have hi : ((ρ' 79 0 ((4 * nI p) + nI j).toNatClampNeg + ρ' 77 0 ((4 * nI p) + nI j).toNatClampNeg) - mWa ρ' (nI p).toNatClampNeg (nI j).toNatClampNeg = mBest ρ') ↔ isB τ p j := by
        rw [e4, nI_clamp (by omega), hpc, hjc, r1, r3, fr_wa h g1 (by omega) (by omega), nI_add, nI_sub (by omega), hbe, nI_eq (by omega) (by omega)]
        unfold isB
        omega
      refine bX8_sure_23 (fun c => (fr_ge h g1 hj0 c).elim) (fun c => (fr_ge h g1 hj0 c).elim) (fun _ => by rw [e4]; exact vp_in_nI (by omega) (by decide)) (fun _ => by rw [e4]; exact vp_in_nI (by omega) (by decide)) (fun _ => vp_in_nI (by omega) (by decide)) (fun _ => vp_in_nI (by omega) (by decide)) (fun _ => by rw [hjc]; exact fr_hab h g1 (by omega)) (fun _ => fr_5 h g1) (fun _ c => ?_) (fun _ c => ?_)
      · rw [hi] at c
        rw [Int32.add_zero, cn_f c]
        exact hh
      · rw [hi] at c
        rw [cn_t c]
        exact hh
  exact key (wM τ) 0 (by omega)
theorem m_who {v : Int32} (h : iWb σ τ) (hf : frR τ ρ) (h1 : ¬ vp_in v (wP τ) → Q (some (.inl (-900001))) ρ) (hq : ∀ p ρ', p < wP τ → v = nI p → frR τ ρ' → Q (some (.inl (nI (whoN τ p)))) ρ') : ps_C mX8_who (d + 30) [ps_m, .inl v] ρ Q := by
  have hM := h.1.2.2
  have hP := h.2.1.2.2
  refine eX8_who (bX8_who_0 (fun c => ?_) (fun c => h1 ((z0 (page_iff h hf)).mp c)))
  obtain ⟨p, hp, rfl⟩ := vp_in_of ((page_iff h hf).mp c) (by omega)
  refine pX8_layRest h hf (fun ρ' f1 f2 => ⟨rfl, bX8_who_15 ?_⟩)
  have hq := hq p ρ' hp rfl f1
  have hbe := mBest_eq h f1 f2
  have hll := lst_le h
  -- page by page
  have pages : ∀ r k, k + r = p → kX8_who_38 (d + 28) Q (nI p) (nI (whoN τ k)) (nI k) ρ' := by
    intro r
    induction r with
    | zero =>
      intro k hk
      obtain rfl : k = p := by omega
      exact bX8_who_38 (fun _ => hq) (fun c => absurd (nI_le (Nat.le_refl _) (by omega)) c)
    | succ r ih =>
      intro k hk
      refine bX8_who_38 (fun c => absurd c (nI_ge (by omega) (by omega))) (fun _ => ?_)
      have hF := whoN_isF h (k := k) (by omega)
      have hw := whoN_lt h k (by omega)
      have hh := ih (k + 1) (by omega)
      generalize hW : whoN τ (k + 1) = w2 at hF hh
      generalize whoN τ k = m at *
      have hkc : (nI k).toNatClampNeg = k := nI_clamp (by omega)
      have hmc : (nI m).toNatClampNeg = m := nI_clamp (by omega)
      have e4 : (4 * nI k) + nI m = nI (4 * k + m) := by rw [show (4 : Int32) * nI k = nI (4 * k) from ix_mul 4 k, nI_add]
      have search : ∀ t o, o + t = w2 → kX8_who_46 (d + 28) Q (nI p) (nI m) (nI k) (nI o) ρ' := by
        intro t
        have step : ∀ o, o ≤ w2 → (¬ vth τ (wP τ - 1 - (k + 1)) m o = bh τ k m → kX8_who_46 (d + 28) Q (nI p) (nI m) (nI k) (nI o + 1) ρ') → (vth τ (wP τ - 1 - (k + 1)) m o = bh τ k m → kX8_who_38 (d + 28) Q (nI p) (nI o) (nI k + 1) ρ') → kX8_who_46 (d + 28) Q (nI p) (nI m) (nI k) (nI o) ρ' := by
          intro o ho hno hyes
          have hoM : o < wM τ := Nat.lt_of_le_of_lt ho hF.1
          have e5 : ((4 * nI k) + 4) + nI o = nI (4 * (k + 1) + o) := by
            rw [show (4 : Int32) * nI k = nI (4 * k) from ix_mul 4 k, show (4 : Int32) = nI 4 from rfl, nI_add, nI_add]
            congr 1
          obtain ⟨r1, -⟩ := f2 k m (by omega) hw
          obtain ⟨r2, -⟩ := f2 (k + 1) o (by omega) hoM
          have b1 := ub_le h (p := k) (m := m) (by omega) hw
          have b2 := ub_le h (p := k + 1) (m := o) (by omega) hoM
          have b3 := ow_le h (p := k) (m := m) (by omega)
          have b4 := cg_le h (a := m) (b := o)
          have b5 := ow_le h (p := k + 1) (m := o) (by omega)
          have e2 : wP τ - 1 - (wP τ - 1 - (k + 1)) = k + 1 := by omega
          have ev : vth τ (wP τ - 1 - (k + 1)) m o = cg τ m o + ow τ (k + 1) o + bh τ (k + 1) o := by unfold vth bh; rw [e2]
          have s90 : ∀ s0 : Int32, s0 = nI (cg τ m o) → kX8_who_90 (d + 28) Q (nI p) (nI m) (nI k) (nI o) s0 (mWa ρ' (nI k).toNatClampNeg (nI m).toNatClampNeg + ρ' 77 0 (((4 * nI k) + 4) + nI o).toNatClampNeg) (ρ' 77 0 ((4 * nI k) + nI m).toNatClampNeg) ρ' := by
            intro s0 hs0
            have hi : ρ' 77 0 ((4 * nI k) + nI m).toNatClampNeg = (mWa ρ' (nI k).toNatClampNeg (nI m).toNatClampNeg + ρ' 77 0 (((4 * nI k) + 4) + nI o).toNatClampNeg) + s0 ↔ vth τ (wP τ - 1 - (k + 1)) m o = bh τ k m := by
              rw [hkc, hmc, e4, e5, nI_clamp (by omega), nI_clamp (by omega), r1, r2, fr_wa h f1 (by omega) (by omega), hs0, nI_add, nI_add, nI_eq (by omega) (by omega), ev]
              omega
            exact bX8_who_90 (fun c => hyes (hi.mp c)) (fun c => hno (fun q => c (hi.mpr q)))
          refine bX8_who_46 (by rw [e4]; exact vp_in_nI (by omega) (by decide)) (vp_in_nI (by omega) (by decide)) (vp_in_nI (by omega) (by decide)) (by rw [hmc]; exact fr_hab h f1 (by omega)) (by rw [e5]; exact vp_in_nI (by omega) (by decide)) (fun c => ?_) (fun c => ?_)
          · rw [(fr_M h f1).2.2]
            refine s90 _ ?_
            unfold cg
            rw [if_neg (fun q => c (by rw [q]))]
          · refine s90 _ ?_
            have : m = o := ((nI_eq (by omega) (by omega)).mp c).symm
            unfold cg
            rw [if_pos this]
            rfl
        induction t with
        | zero =>
          intro o ho
          obtain rfl : o = w2 := by omega
          refine step o (Nat.le_refl _) (fun c => absurd hF.2.1 c) (fun _ => ?_)
          rw [nI_1]
          exact hh
        | succ t ih2 =>
          intro o ho
          refine step o (by omega) (fun _ => ?_) (fun c => absurd c (hF.2.2 o (by omega)))
          rw [nI_1]
          exact ih2 (o + 1) (by omega)
      exact search w2 0 (by omega)
  have hF := whoN_isF0 h
  have first : ∀ t o, o + t = whoN τ 0 → kX8_who_17 (d + 28) Q (nI p) (nI o) ρ' := by
    intro t
    have step : ∀ o, o ≤ whoN τ 0 → (¬ isB τ 0 o → kX8_who_17 (d + 28) Q (nI p) (nI o + 1) ρ') → (isB τ 0 o → kX8_who_38 (d + 28) Q (nI p) (nI o) 0 ρ') → kX8_who_17 (d + 28) Q (nI p) (nI o) ρ' := by
      intro o ho hno hyes
      have hoM : o < wM τ := Nat.lt_of_le_of_lt ho hF.1
      obtain ⟨r1, -⟩ := f2 0 o (by omega) hoM
      rw [Nat.mul_zero, Nat.zero_add] at r1
      have hub := ub_le h (p := 0) (m := o) (by omega) hoM
      have hi : ρ' 77 0 (nI o).toNatClampNeg = mBest ρ' ↔ isB τ 0 o := by
        rw [nI_clamp (by omega), r1, hbe, nI_eq (show ow τ 0 o + bh τ 0 o < 2 ^ 31 from Nat.lt_of_le_of_lt hub (by decide)) (by omega)]
        exact Iff.rfl
      exact bX8_who_17 (vp_in_nI (by omega) (by decide)) (fr_5 h f1) (fun c => hyes (hi.mp c)) (fun c => hno (fun q => c (hi.mpr q)))
    induction t with
    | zero =>
      intro o ho
      have e : o = whoN τ 0 := by omega
      refine step o (by omega) (fun c => absurd (by rw [e]; exact hF.2.1) c) (fun _ => ?_)
      rw [e]
      exact pages p 0 (by omega)
    | succ t ih =>
      intro o ho
      refine step o (by omega) (fun _ => ?_) (fun c => absurd c (hF.2.2 o (by omega)))
      rw [nI_1]
      exact ih (o + 1) (by omega)
  exact first (whoN τ 0) 0 (by omega)
end MN

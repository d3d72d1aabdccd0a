/-! ===== men: the reference ===== -/
def frR (τ ρ : ps_S) : Prop := ∀ g, g ≠ 77 → g ≠ 78 → g ≠ 79 → ρ g = τ g
theorem frR_up {τ ρ : ps_S} {f k j : Nat} {x : Int32} (h : frR τ ρ) (hf : f = 77 ∨ f = 78 ∨ f = 79) : frR τ (ps_up ρ f k j x) := fun g a b c => by rw [ps_up_o (by omega)]; exact h g a b c
theorem jSum_0 {g : Nat → Int32} : ∀ {n : Nat}, (∀ i, i < n → g i = 0) → jSum n g = 0
  | 0, _ => rfl
  | n + 1, e => by
    show jSum n g + g n = 0
    rw [jSum_0 (fun i hi => e i (by omega)), e n (by omega)]
    rfl
section MM
variable {σ τ ρ : ps_S} {d : Nat} {Q : Option ps_V → ps_S → Prop}
theorem fr_M (h : iWb σ τ) (hf : frR τ ρ) : ρ 50 0 21 = nI (wM τ) ∧ ρ 50 0 22 = nI (wP τ) ∧ ρ 50 0 25 = nI (wc τ) := by
  rw [hf 50 (by decide) (by decide) (by decide)]
  exact ⟨h.1.2.1, h.2.1.2.1, h.2.2.1.2.1⟩
theorem fr_ge (h : iWb σ τ) (hf : frR τ ρ) {j : Nat} (hj : j < wM τ) : ρ 50 0 21 ≤ nI j → False := by
  rw [(fr_M h hf).1]
  exact fun c => nI_ge hj (by have := h.1.2.2.2; omega) c
theorem fr_le (h : iWb σ τ) (hf : frR τ ρ) : ¬ ρ 50 0 21 ≤ nI (wM τ) → False := by
  rw [(fr_M h hf).1]
  exact fun c => c (nI_le (Nat.le_refl _) (by have := h.1.2.2.2; omega))
theorem fr_wa (h : iWb σ τ) (hf : frR τ ρ) {p m : Nat} (hp : p < 12) (hm : m < 4) : mWa ρ p m = nI (ow τ p m) := by
  rw [← mWa_eq h hp hm]
  unfold mWa
  rw [hf 74 (by decide) (by decide) (by decide), hf 75 (by decide) (by decide) (by decide)]
theorem fr_hab (h : iWb σ τ) (hf : frR τ ρ) {m : Nat} (hm : m < 4) : mHab ρ m := by
  unfold mHab
  rw [hf 74 (by decide) (by decide) (by decide)]
  exact mHab_of h hm
theorem fr_5 (h : iWb σ τ) (hf : frR τ ρ) : vp_in (ρ 50 0 21) 5 := by
  rw [(fr_M h hf).1]
  exact vp_in_nI (by have := h.1.2.2.2; omega) (by decide)
theorem pX8_layRest (h : iWb σ τ) (hf : frR τ ρ) (hq : ∀ ρ', frR τ ρ' → (∀ p m, p < wP τ → m < wM τ → ρ' 77 0 (4 * p + m) = nI (ow τ p m + bh τ p m) ∧ ρ' 78 0 (4 * p + m) = wy τ p m) → Q none ρ') : ps_C mX8_layRest (d + 1) [ps_m] ρ Q := by
  have hM := h.1.2.2
  have hP := h.2.1.2.2
  have eP : ∀ ρ', frR τ ρ' → ρ' 50 0 22 - 1 = nI (wP τ - 1) := fun ρ' f => by rw [(fr_M h f).2.1, show (1 : Int32) = nI 1 from rfl, nI_sub (by omega)]
  have outer : ∀ r p, (p + 1 = r ∨ r = 0) → p < wP τ → ∀ ρ', frR τ ρ' → (∀ p' o, p' < wP τ → o < wM τ → r ≤ p' → ρ' 77 0 (4 * p' + o) = nI (ow τ p' o + bh τ p' o) ∧ ρ' 78 0 (4 * p' + o) = wy τ p' o) → kX8_layRest_7 d Q (nI r - 1) ρ' := by
    intro r
    induction r with
    | zero =>
      intro p _ _ ρ' f1 f2
      exact bX8_layRest_7 (fun _ => hq ρ' f1 (fun p m hp hm => f2 p m hp hm (Nat.zero_le _))) (fun c => absurd (by decide) c)
    | succ r ih =>
      intro p hpr hpP ρ' f1 f2
      obtain rfl : p = r := by omega
      rw [nI_pred]
      have hpc : (nI p).toNatClampNeg = p := nI_clamp (by omega)
      have inner : ∀ s j, j + s = wM τ → ∀ ρ', frR τ ρ' → (∀ p' o, p' < wP τ → o < wM τ → (p < p' ∨ (p' = p ∧ o < j)) → ρ' 77 0 (4 * p' + o) = nI (ow τ p' o + bh τ p' o) ∧ ρ' 78 0 (4 * p' + o) = wy τ p' o) → kX8_layRest_13 d Q (nI p) (nI j) ρ' := by
        intro s
        induction s with
        | zero =>
          intro j hj ρ' g1 g2
          obtain rfl : j = wM τ := by omega
          refine bX8_layRest_13 (fun _ => ?_) (fun c => (fr_le h g1 c).elim) (fun c => (fr_le h g1 c).elim)
          rw [show nI p + -1 = nI p - 1 from by rw [Int32.sub_eq_add_neg]]
          exact ih (p - 1) (by omega) (by omega) ρ' g1 (fun p' o hp' ho hle => g2 p' o hp' ho (by omega))
        | succ s ih2 =>
          intro j hj ρ' g1 g2
          have hj0 : j < wM τ := by omega
          have hjc : (nI j).toNatClampNeg = j := nI_clamp (by omega)
          have e4 : (4 * nI p) + nI j = nI (4 * p + j) := by rw [show (4 : Int32) * nI p = nI (4 * p) from ix_mul 4 p, nI_add]
          -- the end: both numbers are laid
          have fin : kX8_layRest_177 d Q (nI p) (nI j) (nI (bh τ p j)) (wy τ p j) ρ' := by
            refine bX8_layRest_177 (vp_in_nI (by omega) (by decide)) (vp_in_nI (by omega) (by decide)) (by rw [hjc]; exact fr_hab h g1 (by omega)) (by rw [e4]; exact vp_in_nI (by omega) (by decide)) ?_
            rw [e4, nI_clamp (by omega), hpc, hjc, fr_wa h g1 (by omega) (by omega), nI_add, nI_1]
            refine ih2 (j + 1) (by omega) _ (frR_up (frR_up g1 (by omega)) (by omega)) (fun p' o hp' ho hlt => ?_)
            by_cases e : p' = p ∧ o = j
            · obtain ⟨rfl, rfl⟩ := e
              rw [ps_up_o (by decide), ps_up_s, ps_up_s, Nat.add_comm]
              exact ⟨rfl, rfl⟩
            · rw [ps_up_o (f' := 77) (by decide), ps_up_v (by omega), ps_up_v (by omega), ps_up_o (by decide)]
              exact g2 p' o hp' ho (by omega)
          rcases Nat.lt_or_ge (p + 1) (wP τ) with hp1 | hp1
          · have hne : ¬ nI p = ρ' 50 0 22 - 1 := by rw [eP ρ' g1, nI_eq (by omega) (by omega)]; omega
            have hlt : ¬ (ρ' 50 0 22 - 1) ≤ nI p := by rw [eP ρ' g1]; exact nI_ge (by omega) (by omega)
            have hk : wP τ - 1 - p = (wP τ - 1 - (p + 1)) + 1 := by omega
            have hbh : bh τ p j = bhk τ ((wP τ - 1 - (p + 1)) + 1) j := by unfold bh; rw [hk]
            have hmn : bh τ p j = mn (wM τ) (vth τ (wP τ - 1 - (p + 1)) j) FARn := hbh
            have hwy : wy τ p j = jSum (wM τ) (fun o => if vth τ (wP τ - 1 - (p + 1)) j o = mn (wM τ) (vth τ (wP τ - 1 - (p + 1)) j) FARn then wy τ (p + 1) o else 0) := by
              rw [← hmn]
              unfold wy
              rw [hk, hbh]
              rfl
            have e2 : wP τ - 1 - (wP τ - 1 - (p + 1)) = p + 1 := by omega
            have vb : ∀ o, o < wM τ → vth τ (wP τ - 1 - (p + 1)) j o ≤ 5000 := by
              intro o ho
              have h5 := bhk_le h (wP τ - 1 - (p + 1)) o (by omega) ho
              have h6 := cg_le h (a := j) (b := o)
              have h7 := ow_le h (p := p + 1) (m := o) (by omega)
              have h8 : (wP τ - 1 - (p + 1)) * 153 ≤ 12 * 153 := Nat.mul_le_mul_right _ (by omega)
              unfold vth
              rw [e2]
              omega
            generalize hV : vth τ (wP τ - 1 - (p + 1)) j = V at *
            have loop : ∀ t o, o + t = wM τ → kX8_layRest_58 d Q (nI p) (nI j) (nI (mn o V FARn)) (jSum o (fun i => if V i = mn o V FARn then wy τ (p + 1) i else 0)) (nI o) ρ' := by
              intro t
              induction t with
              | zero =>
                intro o ho
                obtain rfl : o = wM τ := by omega
                rw [← hwy, ← hmn]
                exact bX8_layRest_58 (fun _ => fin) (fun c => (fr_le h g1 c).elim) (fun c => (fr_le h g1 c).elim) (fun c => (fr_le h g1 c).elim) (fun c => (fr_le h g1 c).elim)
              | succ t ih3 =>
                intro o ho
                have ho0 : o < wM τ := by omega
                have hh := ih3 (o + 1) (by omega)
                rw [← nI_1] at hh
                have hmin : mn (o + 1) V FARn = min (mn o V FARn) (V o) := rfl
                have hmb : mn o V FARn ≤ 100000000 := (mn_le (n := o) (g := V) (b := FARn)).1
                have hvo := vb o ho0
                have e5 : ((4 * nI p) + 4) + nI o = nI (4 * (p + 1) + o) := by
                  rw [show (4 : Int32) * nI p = nI (4 * p) from ix_mul 4 p, show (4 : Int32) = nI 4 from rfl, nI_add, nI_add]
                  congr 1
                have hin : vp_in (((4 * nI p) + 4) + nI o) 52 := by rw [e5]; exact vp_in_nI (by omega) (by decide)
                have er := g2 (p + 1) o hp1 ho0 (by omega)
                have ev : ∀ s0 : Int32, s0 = nI (cg τ j o) → ρ' 77 0 (((4 * nI p) + 4) + nI o).toNatClampNeg + s0 = nI (V o) := by
                  intro s0 hs0
                  rw [e5, nI_clamp (by omega), er.1, hs0, nI_add, ← hV]
                  unfold vth
                  rw [e2]
                  congr 1
                  unfold bh
                  omega
                -- what is summed
                have sum_lt : V o < mn o V FARn → jSum (o + 1) (fun i => if V i = mn (o + 1) V FARn then wy τ (p + 1) i else 0) = wy τ (p + 1) o := by
                  intro q
                  have e : mn (o + 1) V FARn = V o := by rw [hmin]; omega
                  show jSum o _ + (if V o = mn (o + 1) V FARn then wy τ (p + 1) o else 0) = _
                  rw [e, if_pos rfl, jSum_0 (fun i hi => ?_), Int32.zero_add]
                  have := (mn_le (n := o) (g := V) (b := FARn)).2 i hi
                  exact if_neg (by omega)
                have sum_eq : V o = mn o V FARn → jSum (o + 1) (fun i => if V i = mn (o + 1) V FARn then wy τ (p + 1) i else 0) = jSum o (fun i => if V i = mn o V FARn then wy τ (p + 1) i else 0) + wy τ (p + 1) o := by
                  intro q
                  have e : mn (o + 1) V FARn = mn o V FARn := by rw [hmin]; omega
                  show jSum o _ + (if V o = mn (o + 1) V FARn then wy τ (p + 1) o else 0) = _
                  rw [e, if_pos q]
                have sum_gt : mn o V FARn < V o → jSum (o + 1) (fun i => if V i = mn (o + 1) V FARn then wy τ (p + 1) i else 0) = jSum o (fun i => if V i = mn o V FARn then wy τ (p + 1) i else 0) := by
                  intro q
                  have e : mn (o + 1) V FARn = mn o V FARn := by rw [hmin]; omega
                  show jSum o _ + (if V o = mn (o + 1) V FARn then wy τ (p + 1) o else 0) = _
                  rw [e, if_neg (by omega), Int32.add_zero]
                have s156 : ∀ n : Int32, n = jSum (o + 1) (fun i => if V i = mn (o + 1) V FARn then wy τ (p + 1) i else 0) → kX8_layRest_156 d Q (nI p) (nI j) (nI (mn o V FARn)) (nI o) (nI (V o)) n ρ' := by
                  intro n hn
                  subst hn
                  refine bX8_layRest_156 (fun c => ?_) (fun c => ?_)
                  · rw [nI_leI (by omega) (by omega)] at c
                    rw [show mn o V FARn = mn (o + 1) V FARn by rw [hmin]; omega]
                    exact hh
                  · rw [nI_leI (by omega) (by omega)] at c
                    rw [show V o = mn (o + 1) V FARn by rw [hmin]; omega]
                    exact hh
                have s104 : ∀ s0 : Int32, s0 = nI (cg τ j o) → kX8_layRest_104 d Q (nI p) (nI j) (nI (mn o V FARn)) (jSum o (fun i => if V i = mn o V FARn then wy τ (p + 1) i else 0)) (nI o) s0 (ρ' 77 0 (((4 * nI p) + 4) + nI o).toNatClampNeg) ρ' := by
                  intro s0 hs0
                  have e := ev s0 hs0
                  refine bX8_layRest_104 (fun c c2 => ?_) (fun _ _ => hin) (fun c c2 => ?_) (fun _ => hin) (fun c => ?_)
                  · rw [e] at c c2 ⊢
                    rw [nI_leI (by omega) (by omega)] at c
                    rw [nI_eq (by omega) (by omega)] at c2
                    exact s156 _ (sum_gt (by omega)).symm
                  · rw [e] at c2 ⊢
                    rw [nI_eq (by omega) (by omega)] at c2
                    rw [e5, nI_clamp (by omega), er.2]
                    exact s156 _ (sum_eq c2).symm
                  · rw [e] at c ⊢
                    rw [nI_leI (by omega) (by omega)] at c
                    rw [e5, nI_clamp (by omega), er.2]
                    exact s156 _ (sum_lt (by omega)).symm
                refine bX8_layRest_58 (fun c => (fr_ge h g1 ho0 c).elim) (fun _ c => absurd c hlt) (fun _ _ => hin) (fun _ _ c => ?_) (fun _ _ c => ?_)
                · rw [(fr_M h g1).2.2]
                  refine s104 _ ?_
                  unfold cg
                  rw [if_neg (fun q => c (by rw [q]))]
                · refine s104 _ ?_
                  have : j = o := ((nI_eq (by omega) (by omega)).mp c).symm
                  unfold cg
                  rw [if_pos this]
                  rfl
            have h0 := loop (wM τ) 0 (by omega)
            exact bX8_layRest_13 (fun c => (fr_ge h g1 hj0 c).elim) (fun _ _ => bX8_layRest_37 (fun _ => h0) (fun c => absurd c hne)) (fun _ c => absurd c hne)
          · have he : nI p = ρ' 50 0 22 - 1 := by rw [eP ρ' g1]; congr 1; omega
            have hge : (ρ' 50 0 22 - 1) ≤ nI p := by rw [← he]; exact nI_le (Nat.le_refl _) (by omega)
            have hk : wP τ - 1 - p = 0 := by omega
            have e3 : bh τ p j = 0 := by unfold bh; rw [hk]; rfl
            have e5 : wy τ p j = 1 := by unfold wy; rw [hk]; rfl
            rw [e3, e5] at fin
            refine bX8_layRest_13 (fun c => (fr_ge h g1 hj0 c).elim) (fun _ c => absurd he c) (fun _ _ => bX8_layRest_37 (fun c => absurd he c) (fun _ => bX8_layRest_58 (fun _ => fin) (fun _ _ => fin) (fun _ c => absurd hge c) (fun _ c => absurd hge c) (fun _ c => absurd hge c)))
      exact bX8_layRest_7 (fun c => absurd c (nI_pos (by omega))) (fun _ => inner (wM τ) 0 (by omega) ρ' f1 (fun p' o hp' ho hlt => f2 p' o hp' ho (by omega)))
  refine eX8_layRest (bX8_layRest_0 ?_)
  rw [(fr_M h hf).2.1]
  exact outer (wP τ) (wP τ - 1) (by omega) (by omega) ρ hf (fun p' o hp' ho hle => absurd hle (by omega))
end MM

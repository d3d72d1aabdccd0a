/-! ===== slips: the reference ===== -/
section SMm
variable {τ ρ : ps_S} {f d : Nat} {Q : Option ps_V → ps_S → Prop} {v1 v2 : Int32}
theorem pX8_slipsOf {s : Nat} (hf : f < 6) (hs : s < 512) (h51 : ρ 51 0 = τ 51 0) (hq : Q (some (.inl (nI (on1 τ f s)))) ρ) : ps_C mX8_slipsOf (d + 1) [ps_m, .inl (nI f), .inl (nI s)] ρ Q := by
  have sub9 : ∀ p L, cntN 9 (fun c => s.testBit c = true ∧ τ 51 0 (54 * f + 6 * c + p) = nI L) = nL τ f p s L := fun _ _ => rfl
  have hb : ∀ p L, L ≤ 10 → sumN L (nL τ f p s) ≤ 90 := fun p L hL => by
    have := sum_le (n := L) (fun i (_ : i < L) => nL_le τ f p s i)
    have : L * 9 ≤ 90 := by omega
    omega
  have places : ∀ r p, p + r = 6 → kX8_slipsOf_5 d Q (nI f) (nI s) (nI (sumN p (slP τ f s))) (nI p) ρ := by
    intro r
    induction r with
    | zero =>
      intro p hp
      obtain rfl : p = 6 := by omega
      exact bX8_slipsOf_5 (fun _ => hq) (lpX (N := 6) (by decide))
    | succ r ih =>
      intro p hp
      have hp0 : p < 6 := by omega
      have hnx := ih (p + 1) (by omega)
      have eS : sumN (p + 1) (slP τ f s) = sumN p (slP τ f s) + slP τ f s p := rfl
      have letters : ∀ t L, L + t = 10 → kX8_slipsOf_21 d Q (nI f) (nI s) (nI (sumN p (slP τ f s))) (nI p) (nI (mxN L (nL τ f p s))) (nI (sumN L (nL τ f p s))) (nI L) ρ := by
        intro t
        induction t with
        | zero =>
          intro L hL
          obtain rfl : L = 10 := by omega
          refine bX8_slipsOf_21 (fun _ => ?_) (lpX (N := 10) (by decide))
          rw [nI_sub (mx_le_sum _ 10), nI_add, nI_1]
          exact hnx
        | succ t ih2 =>
          intro L hL
          have hL0 : L < 10 := by omega
          have hnx2 := ih2 (L + 1) (by omega)
          have e1 : sumN (L + 1) (nL τ f p s) = sumN L (nL τ f p s) + nL τ f p s L := rfl
          have e2 : mxN (L + 1) (nL τ f p s) = max (mxN L (nL τ f p s)) (nL τ f p s L) := rfl
          rw [e1, e2] at hnx2
          have h1 := mx_le_sum (nL τ f p s) L
          have h2 := hb p L (by omega)
          have h3 := nL_le τ f p s L
          have copies : ∀ u c, c + u = 9 → kX8_slipsOf_34 d Q (nI f) (nI s) (nI (sumN p (slP τ f s))) (nI p) (nI (mxN L (nL τ f p s))) (nI (sumN L (nL τ f p s))) (nI L) (nI (cntN c (fun c => s.testBit c = true ∧ τ 51 0 (54 * f + 6 * c + p) = nI L))) (nI c) ρ := by
            intro u
            induction u with
            | zero =>
              intro c hc
              obtain rfl : c = 9 := by omega
              rw [sub9]
              refine bX8_slipsOf_34 (fun _ q => ?_) (fun _ q => ?_) (lpX (N := 9) (by decide)) (lpX (N := 9) (by decide)) (lpX (N := 9) (by decide)) (lpX (N := 9) (by decide))
              · rw [nI_leI (by omega) (by omega)] at q
                rw [Nat.max_eq_left q] at hnx2
                rw [nI_add, nI_1]
                exact hnx2
              · rw [nI_leI (by omega) (by omega)] at q
                rw [Nat.max_eq_right (by omega)] at hnx2
                rw [nI_add, nI_1]
                exact hnx2
            | succ u ih3 =>
              intro c hc
              have hc0 : c < 9 := by omega
              have hnx3 := ih3 (c + 1) (by omega)
              have hbit := bm_bit (bmN hs) hc0 (by decide)
              have ei := ix_let hf hc0 hp0
              have ec : (nI (54 * f + 6 * c + p)).toNatClampNeg = 54 * f + 6 * c + p := nI_clamp (by omega)
              have el : jX8_letterAt ρ (nI f) (nI c) (nI p) = τ 51 0 (54 * f + 6 * c + p) := by
                unfold jX8_letterAt
                rw [ei, ec, h51]
              have no : ¬ (s.testBit c = true ∧ τ 51 0 (54 * f + 6 * c + p) = nI L) → kX8_slipsOf_34 d Q (nI f) (nI s) (nI (sumN p (slP τ f s))) (nI p) (nI (mxN L (nL τ f p s))) (nI (sumN L (nL τ f p s))) (nI L) (nI (cntN c (fun c => s.testBit c = true ∧ τ 51 0 (54 * f + 6 * c + p) = nI L)) + 0) (nI c + 1) ρ := by
                intro q
                rw [Int32.add_zero, nI_1, cn_f (P := fun c => s.testBit c = true ∧ τ 51 0 (54 * f + 6 * c + p) = nI L) q]
                exact hnx3
              refine bX8_slipsOf_34 (lpN (N := 9) hc0 (by decide)) (lpN (N := 9) hc0 (by decide)) (fun _ q => no (fun w => q ?_)) (fun _ _ => by rw [ei]; exact vp_in_nI (by omega) (by decide)) (fun _ _ q => no (fun w => q ?_)) (fun _ q q2 => ?_)
              · rw [hbit, jbP_t w.1]
              · rw [el]; exact w.2
              · rw [hbit] at q
                have q1 : s.testBit c = true := Classical.not_not.mp (fun w => by rw [jbP_f w] at q; exact absurd q (by decide))
                rw [el] at q2
                rw [cn_t (P := fun c => s.testBit c = true ∧ τ 51 0 (54 * f + 6 * c + p) = nI L) ⟨q1, q2⟩, nI_1]
                exact hnx3
          exact bX8_slipsOf_21 (lpN (N := 10) hL0 (by decide)) (fun _ => copies 9 0 rfl)
      exact bX8_slipsOf_5 (lpN (N := 6) hp0 (by decide)) (fun _ => letters 10 0 rfl)
  exact eX8_slipsOf (bX8_slipsOf_0 (places 6 0 rfl))
theorem xor_dif {p s : Nat} (hs : s < 512) (h : sb p s) : nI s &&& (nI p ^^^ (-1)) = nI (s ^^^ p) := by
  refine bm_uniq (bm_diff (bmN hs) (bmN (lt_of_sb h hs))) (bm_congr (bmN (lt_of_sb (sb_xor h) hs)) (fun i _ => ?_))
  exact xor_tb h
theorem m_slips (h51 : ρ 51 0 = τ 51 0) (h1 : ¬ vp_in v1 6 → Q (some (.inl (-900001))) ρ) (h2 : vp_in v1 6 → ¬ r1n v2 9 → Q (some (.inl (-900002))) ρ) (h3 : ∀ f n ρ', f < 6 → v1 = nI f → v2 = nI n → 1 ≤ n → n ≤ 9 → frB ρ ρ' → Q (some (.inl (nI (oM (on1 τ f) (n - 1) 511)))) ρ') : ps_C mX8_slips (d + 30) [ps_m, .inl v1, .inl v2] ρ Q := by
  have i19 : ¬ jbIn v2.toInt64 1 9 = 0 ↔ r1n v2 9 := in_iff1 (n := 9) (by decide)
  refine eX8_slips (bX8_slips_0 (fun c c2 => ?_) (fun c c2 => h2 (ia5.mp c) ((z0 i19).mp c2)) (fun c => h1 ((z0 ia5).mp c)))
  obtain ⟨f, hf, rfl⟩ := vp_num (by decide) (ia5.mp c)
  obtain ⟨n, n1, n2, rfl⟩ := num_of (v := v2) (lo := 1) (hi := 9) (i19.mp c2).1 (i19.mp c2).2
  have e512 : (512 : Int32) = nI 512 := rfl
  -- what stays
  have fin : ∀ ρ' : ps_S, (∀ g, g ≠ 55 → g ≠ 56 → g ≠ 57 → ρ' g = ρ g) → frB ρ ρ' := fun ρ' f1 => frB_of (fun g _ _ _ a _ _ _ _ => f1 g (by omega) (by omega) (by omega)) (fun j _ => by rw [f1 50 (by decide) (by decide) (by decide)])
  -- groups, one more at a time
  have rounds : ∀ r k, k + 1 + r = n → ∀ ρ', (∀ g, g ≠ 55 → g ≠ 56 → g ≠ 57 → ρ' g = ρ g) → (∀ s, s < 512 → ρ' 55 0 s = nI (on1 τ f s)) → (∀ s, s < 512 → ρ' 56 0 s = nI (oM (on1 τ f) k s)) → kX8_slips_66 (d + 28) Q (nI n) (nI (k + 1)) ρ' := by
    intro r
    induction r with
    | zero =>
      intro k hk ρ' f1 f2 f3
      obtain rfl : n = k + 1 := by omega
      refine bX8_slips_66 (fun _ => vp_in_nI (n := 511) (by decide) (by decide)) (fun _ => ?_) (lpX (by omega))
      have e : ρ' 56 0 (511 : Int32).toNatClampNeg = nI (oM (on1 τ f) k 511) := f3 511 (by decide)
      rw [e]
      exact h3 f (k + 1) ρ' hf rfl rfl n1 n2 (fin ρ' f1)
    | succ r ih =>
      intro k hk ρ' f1 f2 f3
      refine bX8_slips_66 (lpN (show k + 1 < n by omega) (by omega)) (lpN (show k + 1 < n by omega) (by omega)) (fun _ => ?_)
      -- copied back
      have back : ∀ t s, s + t = 512 → ∀ ρ1, (∀ g, g ≠ 55 → g ≠ 56 → g ≠ 57 → ρ1 g = ρ g) → (∀ s, s < 512 → ρ1 55 0 s = nI (on1 τ f s)) → (∀ s', s' < 512 → ρ1 57 0 s' = nI (oM (on1 τ f) (k + 1) s')) → (∀ s', s' < s → ρ1 56 0 s' = nI (oM (on1 τ f) (k + 1) s')) → kX8_slips_179 (d + 28) Q (nI n) (nI (k + 1)) (nI s) ρ1 := by
        intro t
        induction t with
        | zero =>
          intro s hs ρ1 g1 g2 g3 g4
          obtain rfl : s = 512 := by omega
          refine bX8_slips_179 (fun _ => ?_) (lpX (N := 512) (by decide)) (lpX (N := 512) (by decide))
          rw [nI_1]
          exact ih (k + 1) (by omega) ρ1 g1 g2 g4
        | succ t ih2 =>
          intro s hs ρ1 g1 g2 g3 g4
          have hs0 : s < 512 := by omega
          refine bX8_slips_179 (lpN (N := 512) hs0 (by decide)) (fun _ => vp_in_nI hs0 (by decide)) (fun _ => ?_)
          rw [nI_clamp (by omega), nI_1]
          refine ih2 (s + 1) (by omega) _ (fun g x y z => by rw [ps_up_o y]; exact g1 g x y z) (fun s' h => by rw [ps_up_o (by decide)]; exact g2 s' h) (fun s' h => by rw [ps_up_o (by decide)]; exact g3 s' h) (fun s' h => ?_)
          by_cases e : s' = s
          · subst e
            rw [ps_up_s]
            exact g3 s' hs0
          · rw [ps_up_v (by omega)]
            exact g4 s' (by omega)
      have sets : ∀ t s, s + t = 512 → ∀ ρ1, (∀ g, g ≠ 55 → g ≠ 56 → g ≠ 57 → ρ1 g = ρ g) → (∀ s, s < 512 → ρ1 55 0 s = nI (on1 τ f s)) → (∀ s', s' < 512 → ρ1 56 0 s' = nI (oM (on1 τ f) k s')) → (∀ s', s' < s → ρ1 57 0 s' = nI (oM (on1 τ f) (k + 1) s')) → kX8_slips_74 (d + 28) Q (nI n) (nI (k + 1)) (nI s) ρ1 := by
        intro t
        induction t with
        | zero =>
          intro s hs ρ1 g1 g2 g3 g4
          obtain rfl : s = 512 := by omega
          exact bX8_slips_74 (fun _ => back 512 0 rfl ρ1 g1 g2 g4 (fun s' h => absurd h (by omega))) (lpX (N := 512) (by decide)) (lpX (N := 512) (by decide))
        | succ t ih2 =>
          intro s hs ρ1 g1 g2 g3 g4
          have hs0 : s < 512 := by omega
          have hsc : (nI s).toNatClampNeg = s := nI_clamp (by omega)
          have hM := oM_isM (one := on1 τ f) (k := k) hs0
          refine bX8_slips_74 (lpN (N := 512) hs0 (by decide)) (fun _ => vp_in_nI hs0 (by decide)) (fun _ => ?_)
          rw [hsc, g3 s hs0]
          have walk : ∀ v, sb v s → ∀ m ρ2, (∀ g, g ≠ 57 → ρ2 g = ρ1 g) → (∀ s', s' < s → ρ2 57 0 s' = ρ1 57 0 s') → ρ2 57 0 s = nI m → isM s (oM (on1 τ f) k s) (fun p => on1 τ f p + oM (on1 τ f) k (s ^^^ p)) v m → kX8_slips_100 (d + 28) Q (nI n) (nI (k + 1)) (nI s) (nI v) ρ2 := by
            intro v
            induction v using Nat.strongRecOn with
            | ind v ihv =>
              intro hv m ρ2 k1 k2 k3 hm
              have hvl := lt_of_sb hv hs0
              rcases Nat.eq_zero_or_pos v with z | z
              · rw [z] at hm ⊢
                refine bX8_slips_100 (fun _ => ?_) (lpX (N := 0) (by decide)) (lpX (N := 0) (by decide)) (lpX (N := 0) (by decide)) (lpX (N := 0) (by decide)) (lpX (N := 0) (by decide))
                rw [nI_1]
                refine ih2 (s + 1) (by omega) ρ2 (fun g x y w => by rw [k1 g w]; exact g1 g x y w) (fun s' h => by rw [k1 55 (by decide)]; exact g2 s' h) (fun s' h => by rw [k1 56 (by decide)]; exact g3 s' h) (fun s' h => ?_)
                by_cases e : s' = s
                · rw [e, k3, isM_uniq hm hM]
                · rw [k2 s' (by omega)]
                  exact g4 s' (by omega)
              · have hvc : (nI v).toNatClampNeg = v := nI_clamp (by omega)
                have hxl := lt_of_sb (sb_xor hv) hs0
                have exd := xor_dif hs0 hv
                have hml := oM_le τ f k _ hxl
                have hol := on1_le τ f v
                have hmm : m ≤ 540 := Nat.le_trans hm.2.1 (oM_le τ f k _ hs0)
                have hnb : sb ((v - 1) &&& s) s := sb_and _ _
                have hlt : (v - 1) &&& s < v := Nat.lt_of_le_of_lt Nat.and_le_left (by omega)
                have e55 : ρ2 55 0 v = nI (on1 τ f v) := by rw [k1 55 (by decide)]; exact g2 v hvl
                have e56 : ρ2 56 0 (s ^^^ v) = nI (oM (on1 τ f) k (s ^^^ v)) := by rw [k1 56 (by decide)]; exact g3 _ hxl
                have hst := isM_step hs0 hv z hm
                have nxt : ∀ w, w = nI (min m (on1 τ f v + oM (on1 τ f) k (s ^^^ v))) → kX8_slips_100 (d + 28) Q (nI n) (nI (k + 1)) (nI s) ((nI v - 1) &&& nI s) (ps_up ρ2 57 0 s w) := by
                  intro w hw
                  rw [nxt_nI z]
                  exact ihv _ hlt hnb _ _ (fun g x => by rw [ps_up_o x]; exact k1 g x) (fun s' h => by rw [ps_up_v (by omega)]; exact k2 s' h) (by rw [ps_up_s]; exact hw) hst
                have vs : vp_in (nI s) 512 := vp_in_nI hs0 (by decide)
                refine bX8_slips_100 (fun c => absurd c (nI_ge (a := 0) (b := v) z (by omega))) (fun _ => vp_in_nI hvl (by decide)) (fun _ => by rw [exd]; exact vp_in_nI hxl (by decide)) (fun _ => vs) (fun _ c => ?_) (fun _ c => ?_)
                · rw [exd, hsc, hvc, nI_clamp (n := s ^^^ v) (by omega), k3, e55, e56, nI_add, nI_leI (by omega) (by omega)] at c
                  rw [hsc, k3]
                  exact nxt _ (by rw [Nat.min_eq_left c])
                · rw [exd, hsc, hvc, nI_clamp (n := s ^^^ v) (by omega), k3, e55, e56, nI_add, nI_leI (by omega) (by omega)] at c
                  rw [exd, hsc, hvc, nI_clamp (n := s ^^^ v) (by omega), e55, e56, nI_add]
                  exact nxt _ (by rw [Nat.min_eq_right (by omega)])
          exact walk s (sb_refl s) (oM (on1 τ f) k s) _ (fun g x => ps_up_o x) (fun s' h => ps_up_v (by omega)) ps_up_s ⟨Or.inl rfl, Nat.le_refl _, fun q q1 q2 => by have := sb_le q1; omega⟩
      exact sets 512 0 rfl ρ' f1 f2 f3 (fun s' h => absurd h (by omega))
  have ones : ∀ t s, s + t = 512 → ∀ ρ1, (∀ g, g ≠ 55 → g ≠ 56 → g ≠ 57 → ρ1 g = ρ g) → (∀ s', s' < s → ρ1 55 0 s' = nI (on1 τ f s') ∧ ρ1 56 0 s' = nI (on1 τ f s')) → kX8_slips_27 (d + 28) Q (nI f) (nI n) (nI s) ρ1 := by
    intro t
    induction t with
    | zero =>
      intro s hs ρ1 g1 g2
      obtain rfl : s = 512 := by omega
      exact bX8_slips_27 (fun _ => rounds (n - 1) 0 (by omega) ρ1 g1 (fun s' h => (g2 s' h).1) (fun s' h => (g2 s' h).2)) (lpX (N := 512) (by decide))
    | succ t ih =>
      intro s hs ρ1 g1 g2
      have hs0 : s < 512 := by omega
      refine bX8_slips_27 (lpN (N := 512) hs0 (by decide)) (fun _ => pX8_slipsOf (τ := τ) hf hs0 (by rw [g1 51 (by decide) (by decide) (by decide)]; exact h51) ⟨_, rfl, bX8_slips_45 (vp_in_nI hs0 (by decide)) (vp_in_nI hs0 (by decide)) ?_⟩)
      rw [nI_clamp (n := s) (by omega), ps_up_s, nI_1]
      refine ih (s + 1) (by omega) _ (fun g x y z => by rw [ps_up_o y, ps_up_o x]; exact g1 g x y z) (fun s' h => ?_)
      by_cases e : s' = s
      · rw [e, ps_up_s, ps_up_o (by decide), ps_up_s]
        exact ⟨rfl, rfl⟩
      · rw [ps_up_v (by omega), ps_up_o (by decide), ps_up_v (by omega), ps_up_o (by decide)]
        exact g2 s' (by omega)
  exact ones 512 0 rfl ρ (fun _ _ _ _ => rfl) (fun s' h => absurd h (by omega))
end SMm

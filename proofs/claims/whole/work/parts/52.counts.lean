/-! ===== count, on both sides ===== -/
theorem cnt_add (P : Nat → Prop) (m : Nat) : ∀ n, cntN (m + n) P = cntN m P + cntN n (fun j => P (m + j))
  | 0 => rfl
  | n + 1 => by
    show cntN (m + n + 1) P = _
    rw [cnt_S, cnt_S, cnt_add P m n, Nat.add_assoc]
theorem sum_congr {g h : Nat → Nat} : ∀ {n : Nat}, (∀ i, i < n → g i = h i) → sumN n g = sumN n h
  | 0, _ => rfl
  | n + 1, e => by
    show sumN n g + g n = sumN n h + h n
    rw [sum_congr (fun i hi => e i (by omega)), e n (by omega)]
theorem cnt_mul (P : Nat → Prop) (b : Nat) : ∀ a, cntN (b * a) P = sumN a (fun i => cntN b (fun j => P (b * i + j)))
  | 0 => rfl
  | a + 1 => by
    show cntN (b * (a + 1)) P = sumN a _ + cntN b _
    rw [Nat.mul_succ, cnt_add, cnt_mul P b a]
def popN (s : Nat) : Nat := sumN 9 (fun i => (s.testBit i).toNat)
theorem pop9 : ∀ s, s < 512 → jbPop (nI s) = nI (popN s) := by decide +kernel
theorem cnt_sum {P : Nat → Prop} {g : Nat → Nat} : ∀ {n : Nat}, (∀ i, i < n → g i = jN (P i)) → sumN n g = cntN n P
  | 0, _ => rfl
  | n + 1, h => by
    show sumN n g + g n = cntN n P + jN (P n)
    rw [cnt_sum (fun i hi => h i (by omega)), h n (by omega)]
theorem tb_jN (s i : Nat) : (s.testBit i).toNat = jN (s.testBit i = true) := by
  cases h : s.testBit i with
  | true => rw [jN_t rfl]; rfl
  | false => rw [jN_f (fun q => Bool.noConfusion q)]; rfl
theorem popN_cnt (s : Nat) : popN s = cntN 9 (fun i => s.testBit i = true) := cnt_sum (fun i _ => tb_jN s i)
theorem pop_bm {x : Int32} {P : Nat → Prop} (h : bm x 9 P) : jbPop x = nI (cntN 9 P) := by
  have hl : mkN 9 P < 512 := mkN_lt P 9
  rw [bm_mkN h (by decide), pop9 _ hl, popN_cnt]
  exact congrArg nI (cnt_congr (fun i hi => by rw [mkN_bit (n := 9) (by decide) P 9 i]; exact ⟨fun q => q.2, fun q => ⟨hi, q⟩⟩))
theorem pop_bm6 {x : Int32} {P : Nat → Prop} (h : bm x 6 P) : jbPop x = nI (cntN 6 P) := by
  have h9 : bm x 9 (fun i => i < 6 ∧ P i) := fun i hi => by
    rw [h i hi]
    exact ⟨fun q => ⟨by omega, q⟩, fun q => q.2⟩
  rw [pop_bm h9, cnt_add (fun i => i < 6 ∧ P i) 6 3, cnt_none (P := fun j => 6 + j < 6 ∧ P (6 + j)) (fun i _ q => absurd q.1 (by omega)), Nat.add_zero]
  exact congrArg nI (cnt_congr (fun i hi => ⟨fun q => q.2, fun q => ⟨hi, q⟩⟩))
noncomputable def cts (τ : ps_S) (v : Int32) : Int32 :=
  if v = 0 then nI (cntN 324 (fun k => ¬ τ 51 0 k = -900009)) else
  if v = 1 then nI (cntN 486 (fun k => ¬ τ 58 0 k = 0)) else
  if v = 2 then nI (cntN 6 (fun f => mSh τ f f)) else
  if v = 3 then jSum 6 (fun f => τ 68 0 f) else
  if v = 4 then nI (cntN 72 (fun k => ¬ τ 70 0 k = -900009)) else
  if v = 5 then τ 50 0 21 else
  if v = 6 then τ 50 0 22 else -900002
theorem jSum_congr {g h : Nat → Int32} : ∀ {n : Nat}, (∀ i, i < n → g i = h i) → jSum n g = jSum n h
  | 0, _ => rfl
  | n + 1, e => by
    show jSum n g + g n = jSum n h + h n
    rw [jSum_congr (fun i hi => e i (by omega)), e n (by omega)]
section CN
variable {σ τ ρ : ps_S} {d : Nat} {Q : Option ps_V → ps_S → Prop} {v1 : Int32}
theorem out06 {v : Int32} (h : v.toInt < 0 ∨ 6 < v.toInt) {n : Nat} (hn : n ≤ 6) : ¬ v = nI n := fun q => by
  rw [q, nI_toInt (by omega)] at h
  omega
theorem x_count (hF : iF σ τ) (hT : iT σ τ) (hH : iH σ τ) (hW : iWb σ τ) (hq : Q (some (.inl (cts τ v1))) σ) : ps_C mX7_count (d + 30) [ps_x, .inl v1] σ Q := by
  unfold cts at hq
  have d0 : ∀ a b : Nat, a ≤ 6 → b ≤ 6 → a ≠ b → ¬ nI a = nI b := fun a b ha hb h q => h ((nI_eq (by omega) (by omega)).mp q)
  refine eX7_count (bX7_count_0 (fun c => ?_) (fun c => ?_) (fun c => ?_) (fun c => ?_) (fun c => ?_) (fun c => ?_) (fun c => ?_) (fun c => ?_))
  · subst c
    rw [if_pos rfl, cnt_mul _ 54 6] at hq
    rw [nI_sum (g := fun f => cntN 54 (fun j => ¬ τ 51 0 (54 * f + j) = -900009)) (fun f hf => congrArg nI ?_)]
    · exact hq
    · show sumN 9 _ = cntN (6 * 9) _
      rw [cnt_mul]
      refine sum_congr (fun c hc => cnt_congr (fun p hp => ?_))
      rw [(hF f hf).1 c p hc hp, Nat.add_assoc]
  · subst c
    rw [if_neg (by decide), if_pos rfl, cnt_mul _ 81 6] at hq
    rw [nI_sum (g := fun f => cntN 81 (fun j => ¬ τ 58 0 (81 * f + j) = 0)) (fun f hf => ?_)]
    · exact hq
    · show _ = nI (cntN (9 * 9) _)
      rw [cnt_mul]
      refine nI_sum (fun a ha => ?_)
      obtain ⟨a1, a2, a3, a4, a5, a6⟩ := hF f hf
      rw [pop_bm (a3 a ha)]
      refine congrArg nI (cnt_congr (fun b hb => ?_))
      rw [Nat.add_assoc]
      have := a4 a b ha hb
      rw [Nat.add_assoc] at this
      constructor
      · intro q w; rw [w] at q; exact absurd q (by decide)
      · intro q; exact this.elim (fun w => absurd w q) id
  · subst c
    rw [if_neg (by decide), if_neg (by decide), if_pos rfl] at hq
    rw [pop_bm6 hT.2.2]
    exact hq
  · subst c
    rw [if_neg (by decide), if_neg (by decide), if_neg (by decide), if_pos rfl] at hq
    rw [jSum_congr (h := fun f => τ 68 0 f) (fun f hf => (hH.2.1 f hf).1)]
    exact hq
  · subst c
    rw [if_neg (by decide), if_neg (by decide), if_neg (by decide), if_neg (by decide), if_pos rfl, cnt_mul _ 12 6] at hq
    rw [sum_congr (h := fun f => cntN 12 (fun j => ¬ τ 70 0 (12 * f + j) = -900009)) (fun f hf => cnt_congr (fun b hb => by rw [(hH.2.2 f b hf hb).2]))]
    exact hq
  · subst c
    rw [if_neg (by decide), if_neg (by decide), if_neg (by decide), if_neg (by decide), if_neg (by decide), if_pos rfl] at hq
    rw [hW.1.1, ← hW.1.2.1]
    exact hq
  · subst c
    rw [if_neg (by decide), if_neg (by decide), if_neg (by decide), if_neg (by decide), if_neg (by decide), if_neg (by decide), if_pos rfl] at hq
    rw [hW.2.1.1, ← hW.2.1.2.1]
    exact hq
  · rw [if_neg (show ¬ v1 = 0 from out06 c (n := 0) (by decide)), if_neg (show ¬ v1 = 1 from out06 c (n := 1) (by decide)), if_neg (show ¬ v1 = 2 from out06 c (n := 2) (by decide)), if_neg (show ¬ v1 = 3 from out06 c (n := 3) (by decide)), if_neg (show ¬ v1 = 4 from out06 c (n := 4) (by decide)), if_neg (show ¬ v1 = 5 from out06 c (n := 5) (by decide)), if_neg (show ¬ v1 = 6 from out06 c (n := 6) (by decide))] at hq
    exact hq
theorem m_count (hq : Q (some (.inl (cts ρ v1))) ρ) : ps_C mX8_count (d + 30) [ps_m, .inl v1] ρ Q := by
  unfold cts at hq
  have e324 : (324 : Int32) = nI 324 := rfl
  have e72 : (72 : Int32) = nI 72 := rfl
  -- the second loop
  have two : ∀ r f, f + r = 6 → kX8_count_108 (d + 29) Q v1 (nI (cntN 324 (fun k => ¬ ρ 51 0 k = -900009))) (nI (cntN 486 (fun k => ¬ ρ 58 0 k = 0))) (nI (cntN f (fun f => mSh ρ f f))) (jSum f (fun f => ρ 68 0 f)) (nI (cntN 72 (fun k => ¬ ρ 70 0 k = -900009))) (nI f) ρ := by
    intro r
    induction r with
    | zero =>
      intro f hf
      obtain rfl : f = 6 := by omega
      refine bX8_count_108 (fun _ c => ?_) (fun _ c => ?_) (fun _ c => ?_) (fun _ c => ?_) (fun _ c => ?_) (fun _ c => ?_) (fun _ c => ?_) (fun _ c => ?_) (lpX (N := 6) (by decide)) (lpX (N := 6) (by decide)) (lpX (N := 6) (by decide))
      · subst c; rw [if_pos rfl] at hq; exact hq
      · subst c; rw [if_neg (by decide), if_pos rfl] at hq; exact hq
      · subst c; rw [if_neg (by decide), if_neg (by decide), if_pos rfl] at hq; exact hq
      · subst c; rw [if_neg (by decide), if_neg (by decide), if_neg (by decide), if_pos rfl] at hq; exact hq
      · subst c; rw [if_neg (by decide), if_neg (by decide), if_neg (by decide), if_neg (by decide), if_pos rfl] at hq; exact hq
      · subst c; rw [if_neg (by decide), if_neg (by decide), if_neg (by decide), if_neg (by decide), if_neg (by decide), if_pos rfl] at hq; exact hq
      · subst c; rw [if_neg (by decide), if_neg (by decide), if_neg (by decide), if_neg (by decide), if_neg (by decide), if_neg (by decide), if_pos rfl] at hq; exact hq
      · rw [if_neg (show ¬ v1 = 0 from out06 c (n := 0) (by decide)), if_neg (show ¬ v1 = 1 from out06 c (n := 1) (by decide)), if_neg (show ¬ v1 = 2 from out06 c (n := 2) (by decide)), if_neg (show ¬ v1 = 3 from out06 c (n := 3) (by decide)), if_neg (show ¬ v1 = 4 from out06 c (n := 4) (by decide)), if_neg (show ¬ v1 = 5 from out06 c (n := 5) (by decide)), if_neg (show ¬ v1 = 6 from out06 c (n := 6) (by decide))] at hq
        exact hq
    | succ r ih =>
      intro f hf
      have hf0 : f < 6 := by omega
      have hfc : (nI f).toNatClampNeg = f := nI_clamp (by omega)
      have hnx := ih (f + 1) (by omega)
      refine bX8_count_108 (lpN (N := 6) hf0 (by decide)) (lpN (N := 6) hf0 (by decide)) (lpN (N := 6) hf0 (by decide)) (lpN (N := 6) hf0 (by decide)) (lpN (N := 6) hf0 (by decide)) (lpN (N := 6) hf0 (by decide)) (lpN (N := 6) hf0 (by decide)) (lpN (N := 6) hf0 (by decide)) (fun _ => vp_in_nI hf0 (by decide)) (fun _ c => ?_) (fun _ c => ?_)
      · rw [hfc, jbP_0] at c
        refine bX8_count_133 (vp_in_nI hf0 (by decide)) ?_
        rw [hfc, nI_1, Int32.add_zero, cn_f (P := fun f => mSh ρ f f) c]
        exact hnx
      · rw [hfc, jbP_0, Classical.not_not] at c
        refine bX8_count_133 (vp_in_nI hf0 (by decide)) ?_
        rw [hfc, cn_t (P := fun f => mSh ρ f f) c, nI_1]
        exact hnx
  -- the first loop
  have lim : ∀ (P : Nat → Prop) (m k : Nat), m ≤ k → cntN (min (k + 1) m) P = cntN (min k m) P := fun P m k h => by
    rw [Nat.min_eq_right h, Nat.min_eq_right (by omega)]
  have limS : ∀ (P : Nat → Prop) (m k : Nat), k < m → cntN (min (k + 1) m) P = cntN (min k m) P + jN (P k) := fun P m k h => by
    rw [Nat.min_eq_left (show k + 1 ≤ m by omega), Nat.min_eq_left (show k ≤ m by omega), cnt_S]
  have one : ∀ r k, k + r = 486 → kX8_count_16 (d + 29) Q v1 (nI (cntN (min k 324) (fun k => ¬ ρ 51 0 k = -900009))) (nI (cntN k (fun k => ¬ ρ 58 0 k = 0))) 0 0 (nI (cntN (min k 72) (fun k => ¬ ρ 70 0 k = -900009))) (nI k) ρ := by
    intro r
    induction r with
    | zero =>
      intro k hk
      obtain rfl : k = 486 := by omega
      exact bX8_count_16 (fun _ => two 6 0 rfl) (lpX (N := 486) (by decide)) (lpX (N := 486) (by decide)) (lpX (N := 486) (by decide)) (lpX (N := 486) (by decide))
    | succ r ih =>
      intro k hk
      have hk0 : k < 486 := by omega
      have hkc : (nI k).toNatClampNeg = k := nI_clamp (by omega)
      have hnx := ih (k + 1) (by omega)
      rw [cnt_S (fun k => ¬ ρ 58 0 k = 0) k] at hnx
      -- books
      have bk : ∀ (A : Int32) (b : Nat), A = nI (cntN (min (k + 1) 324) (fun k => ¬ ρ 51 0 k = -900009)) → b = jN (¬ ρ 58 0 k = 0) → kX8_count_68 (d + 29) Q v1 A 0 0 (nI (cntN (min k 72) (fun k => ¬ ρ 70 0 k = -900009))) (nI k) (nI b) (nI (cntN k (fun k => ¬ ρ 58 0 k = 0))) ρ := by
        intro A b hA hb
        rw [← hA, ← hb] at hnx
        refine bX8_count_68 (fun c => ?_) (fun c => ?_) (fun c c2 => ?_) (fun c c2 => ?_)
        · rw [e72, nI_leI (by decide) (by omega)] at c
          rw [lim _ _ _ c] at hnx
          rw [nI_add, nI_1, Int32.add_zero]
          exact hnx
        · rw [e72, nI_leI (by decide) (by omega)] at c
          exact vp_in_nI (by omega) (by decide)
        · rw [e72, nI_leI (by decide) (by omega)] at c
          rw [hkc] at c2
          rw [limS _ 72 _ (by omega), jN_f (fun q => q c2), Nat.add_zero] at hnx
          rw [nI_add, nI_1, Int32.add_zero]
          exact hnx
        · rw [e72, nI_leI (by decide) (by omega)] at c
          rw [hkc] at c2
          rw [limS _ 72 _ (by omega), jN_t c2, ← nI_1 (cntN (min k 72) _)] at hnx
          rw [nI_add, nI_1 k]
          exact hnx
      have ah : ∀ b : Nat, cntN (min (k + 1) 324) (fun k => ¬ ρ 51 0 k = -900009) = cntN (min k 324) (fun k => ¬ ρ 51 0 k = -900009) + b → kX8_count_50 (d + 29) Q v1 (nI (cntN k (fun k => ¬ ρ 58 0 k = 0))) 0 0 (nI (cntN (min k 72) (fun k => ¬ ρ 70 0 k = -900009))) (nI k) (nI b) (nI (cntN (min k 324) (fun k => ¬ ρ 51 0 k = -900009))) ρ := by
        intro b hb
        have e : nI (cntN (min k 324) (fun k => ¬ ρ 51 0 k = -900009)) + nI b = nI (cntN (min (k + 1) 324) (fun k => ¬ ρ 51 0 k = -900009)) := by rw [nI_add, hb]
        refine bX8_count_50 (vp_in_nI hk0 (by decide)) (fun c => ?_) (fun c => ?_)
        · rw [hkc] at c
          exact bk _ 0 e (jN_f (fun q => q c)).symm
        · rw [hkc] at c
          exact bk _ 1 e (jN_t c).symm
      refine bX8_count_16 (lpN (N := 486) hk0 (by decide)) (fun _ c => ?_) (fun _ c => ?_) (fun _ c c2 => ?_) (fun _ c c2 => ?_)
      · rw [e324, nI_leI (by decide) (by omega)] at c
        exact bX8_count_49 (ah 0 (lim _ _ _ c))
      · rw [e324, nI_leI (by decide) (by omega)] at c
        exact vp_in_nI (by omega) (by decide)
      · rw [e324, nI_leI (by decide) (by omega)] at c
        rw [hkc] at c2
        exact bX8_count_49 (ah 0 (by rw [limS _ 324 _ (by omega), jN_f (fun q => q c2)]))
      · rw [e324, nI_leI (by decide) (by omega)] at c
        rw [hkc] at c2
        exact ah 1 (by rw [limS _ 324 _ (by omega), jN_t c2])
  exact eX8_count (bX8_count_0 (one 486 0 rfl))
end CN

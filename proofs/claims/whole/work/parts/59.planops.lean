/-! ===== the calls on plans, of the class ===== -/
theorem jbP_jN (p : Prop) : jbP p = nI (jN p) := by
  by_cases h : p
  · rw [jbP_t h, jN_t h]; rfl
  · rw [jbP_f h, jN_f h]; rfl
theorem jSum_cnt {g : Nat → Int32} {P : Nat → Prop} {n : Nat} (h : ∀ i, i < n → g i = jbP (P i)) : jSum n g = nI (cntN n P) := by
  rw [nI_sum (g := fun i => jN (P i)) (fun i hi => by rw [h i hi, jbP_jN]), cnt_sum (fun i _ => rfl)]
section PO
variable {σ τ : ps_S} {d : Nat} {Q : Option ps_V → ps_S → Prop} {v v1 v2 v3 : Int32}
theorem pX4_makeFirst {D : Nat} (hD : D ≤ 6) (hz : pz τ ≤ 6) (hT : iT σ τ) (h5 : σ 24 0 5 = nI (pz τ)) (hq : ∀ σ', (∀ g, g ≠ 28 → g ≠ 29 → σ' g = σ g) → (∀ f, f < 6 → σ' 28 0 f = fdN τ D f) → Q none σ') : ps_C mX4_makeFirst (d + 9) [.inr (.inr (24, 0)), .inr (.inr (19, 0)), .inl (nI D)] σ Q := by
  refine eX4_makeFirst (bX4_makeFirst_0 (pJ7_fill (n := 6) (by rfl) (by decide) (by decide) ⟨rfl, bX4_makeFirst_8 (pJ7_fill (n := 6) (by rfl) (by decide) (by decide) ⟨rfl, ?_⟩)⟩))
  obtain ⟨σ1, hσ1⟩ : ∃ σ1, σ1 = ps_fil (ps_fil σ 29 0 6 0) 28 0 6 (-900009) := ⟨_, rfl⟩
  rw [← hσ1]
  have f1 : ∀ g, g ≠ 28 → g ≠ 29 → σ1 g = σ g := fun g x y => by rw [hσ1, ps_fil_o x, ps_fil_o y]
  have hT1 : iT σ1 τ := iT_k (kP_g (fun g x => f1 g (by omega) (by omega))) hT
  have hc6 := cnt_le (fun f => mstT τ f f) 6
  have ering : jSum 6 (fun f => (σ1 23 0 f >>> (nI f &&& 31)) &&& 1) = nI (cntN 6 (fun f => mstT τ f f)) := jSum_cnt (fun f hf => bm_bit (hT1.2.1 f hf).2 hf (by decide))
  -- no plan
  have nop : ∀ ρ, (∀ g, g ≠ 28 → g ≠ 29 → ρ g = σ g) → fp (uN τ) D (isPl τ) 6 A0 = none → kX4_makeFirst_34 (d + 8) Q ρ := by
    intro ρ g1 g2
    refine bX4_makeFirst_34 (pJ7_fill (n := 6) (by rfl) (by decide) (by decide) ⟨rfl, bX4_makeFirst_43 (hq _ (fun g x y => by rw [ps_fil_o x]; exact g1 g x y) (fun f hf => ?_))⟩)
    rw [ps_fil_s hf]
    unfold fdN
    rw [g2]
    rfl
  refine bX4_makeFirst_17 (fun c => ?_) (fun c => ?_)
  · rw [ering, show (0 : Int32) = nI 0 from rfl, nI_ltI (by decide) (by omega)] at c
    obtain ⟨f, hf, hm⟩ := cnt_pos c
    exact nop σ1 f1 (fp_ring hf hm)
  · rw [ering, show (0 : Int32) = nI 0 from rfl, nI_ltI (by decide) (by omega)] at c
    have hr : ∀ f, f < 6 → ¬ mstT τ f f := fun f hf hm => c (by
      have := cnt_lt (P := fun f => mstT τ f f) hm hf
      omega)
    refine pX4_lay hD hz 6 d σ1 A0 _ (by decide) hT1 (by rw [f1 24 (by decide) (by decide)]; exact h5) ⟨fun e he => ?_, fun i h => absurd h (by omega), fun i hi _ => ?_⟩ (fun A' σ' e1 e2 e3 => ⟨_, rfl, bX4_makeFirst_31 (fun _ => bX4_makeFirst_43 (hq σ' (fun g x y => by rw [e2 g x y]; exact f1 g x y) (fun f hf => ?_))) (fun q => absurd q (by decide))⟩) (fun e1 σ' e2 e3 => ⟨_, rfl, bX4_makeFirst_31 (fun q => absurd rfl q) (fun _ => nop σ' (fun g x y => by rw [e2 g x y]; exact f1 g x y) ?_)⟩)
    · rw [hσ1, ps_fil_o (by decide), ps_fil_s (by omega)]
      exact bm_congr bm_0 (fun i _ => ⟨fun q => q.elim, fun q => absurd q.1 (by omega)⟩)
    · rw [hσ1, ps_fil_s hi]
    · unfold fdN
      rw [fp_first hr, e1]
      show _ = if (uN τ).testBit f = true then nI (A' f) else -900009
      by_cases w : (uN τ).testBit f = true
      · rw [if_pos w]; exact (e3.2.1 f hf w).1
      · rw [if_neg w]; exact e3.2.2 f hf w
    · rw [fp_first hr]; exact e1
theorem dys {v : Int32} : ¬ jbDays v = 0 ↔ r1n v 6 := by
  have e1 : (1 : Int32).toInt = 1 := by decide
  have e6 : (6 : Int32).toInt = 6 := by decide
  unfold jbDays r1n
  by_cases h1 : v < 1
  · rw [if_pos h1]
    rw [Int32.lt_iff_toInt_lt, e1] at h1
    exact ⟨fun q => absurd rfl q, fun q => by omega⟩
  · rw [if_neg h1]
    rw [Int32.lt_iff_toInt_lt, e1] at h1
    by_cases h2 : 6 < v
    · rw [if_pos h2]
      rw [Int32.lt_iff_toInt_lt, e6] at h2
      exact ⟨fun q => absurd rfl q, fun q => by omega⟩
    · rw [if_neg h2]
      rw [Int32.lt_iff_toInt_lt, e6] at h2
      exact ⟨fun _ => by omega, fun _ => by decide⟩
theorem iP_k {σ' : ps_S} (h : ∀ g, g ≠ 25 → g ≠ 26 → g ≠ 27 → σ' g = σ g) (hP : iP σ τ) : iP σ' τ := by
  unfold iP
  rw [h 24 (by decide) (by decide) (by decide), h 28 (by decide) (by decide) (by decide)]
  exact hP
theorem kP_3 {σ' : ps_S} (h : ∀ g, g ≠ 25 → g ≠ 26 → g ≠ 27 → σ' g = σ g) : kP σ σ' := kP_g (fun g x => h g (by omega) (by omega) (by omega))
theorem x_plans (hT : iT σ τ) (hP : iP σ τ) (h1 : ¬ r1n v1 6 → Q (some (.inl (-900002))) σ) (h2 : ∀ D σ', 1 ≤ D → D ≤ 6 → v1 = nI D → kP σ σ' → iP σ' τ → Q (some (.inl (nI (plN τ D 0)))) σ') : ps_C mX7_plans (d + 30) [ps_x, .inl v1] σ Q := by
  refine eX7_plans (bX7_plans_0 (fun c => ?_) (fun c => h1 ((z0 dys).mp c)))
  obtain ⟨D, d1, d2, rfl⟩ := num_of (v := v1) (lo := 1) (hi := 6) (dys.mp c).1 (dys.mp c).2
  exact pX4_planCount (d := d + 26) (pr := 0) (by decide) d2 hT hP.1.1 hP.1.2.2.2 (fun σ' e => ⟨_, rfl, bX7_plans_23 (h2 D σ' d1 d2 rfl (kP_3 e) (iP_k e hP))⟩)
theorem x_day (hT : iT σ τ) (hP : iP σ τ) (h1 : ¬ vp_in v2 6 → Q (some (.inl (-900001))) σ) (h2 : vp_in v2 6 → ¬ r1n v1 6 → Q (some (.inl (-900002))) σ) (h3 : ∀ D f σ', 1 ≤ D → D ≤ 6 → f < 6 → v1 = nI D → v2 = nI f → kP σ σ' → iP σ' τ → Q (some (.inl (fdN τ D f))) σ') : ps_C mX7_day (d + 30) [ps_x, .inl v1, .inl v2] σ Q := by
  refine eX7_day (bX7_day_0 (fun c c2 => ?_) (fun c c2 => h2 (wi6.mp c) ((z0 dys).mp c2)) (fun c => h1 ((z0 wi6).mp c)))
  obtain ⟨f, hf, rfl⟩ := vp_num (by decide) (wi6.mp c)
  obtain ⟨D, d1, d2, rfl⟩ := num_of (v := v1) (lo := 1) (hi := 6) (dys.mp c2).1 (dys.mp c2).2
  have hfc : (nI f).toNatClampNeg = f := nI_clamp (by omega)
  have vf : vp_in (nI f) 6 := vp_in_nI hf (by decide)
  refine eX4_dayInFirst (d := d + 28) (bX4_dayInFirst_0 (fun _ => vf) (fun q => ⟨_, rfl, bX7_day_33 ?_⟩) (fun q => pX4_makeFirst (d := d + 19) d2 hP.1.2.2.2 hT hP.1.1 (fun σ' e1 e2 => ⟨rfl, bX4_dayInFirst_14 vf ⟨_, rfl, bX7_day_33 ?_⟩⟩)))
  · rw [hfc]
    rcases hP.2 with z | ⟨D', a1, a2, a3, a4⟩
    · rw [z, show (0 : Int32) = nI 0 from rfl, nI_eq (by decide) (by omega)] at q
      omega
    · rw [a3, nI_eq (by omega) (by omega)] at q
      rw [a4 f hf, q]
      exact h3 D f σ d1 d2 hf rfl rfl (kP_refl σ) hP
  · rw [hfc, ps_up_o (by decide), e2 f hf]
    refine h3 D f _ d1 d2 hf rfl rfl ⟨fun g x y => by rw [ps_up_o x]; exact e1 g (by omega) (by omega), fun j x => by rw [ps_up_v (by omega), e1 24 (by decide) (by decide)]⟩ ⟨?_, Or.inr ⟨D, d1, d2, ps_up_s, fun f' hf' => by rw [ps_up_o (by decide)]; exact e2 f' hf'⟩⟩
    rw [ps_up_v (by omega), e1 24 (by decide) (by decide)]
    exact hP.1
theorem told_x {f : Nat} (hf : f < 6) (hT : iT σ τ) : ¬ jX6_isTold σ (nI f) = 0 ↔ mSh τ f f := by
  unfold jX6_isTold
  rw [bm_bit hT.2.2 hf (by decide)]
  by_cases q : mSh τ f f
  · rw [jbP_t q, if_neg (by decide)]
    exact ⟨fun _ => q, fun _ => by decide⟩
  · rw [jbP_f q, if_pos rfl]
    exact ⟨fun w => absurd rfl w, fun w => absurd w q⟩
theorem x_beside (hT : iT σ τ) (hP : iP σ τ) (h1 : ¬ (vp_in v2 6 ∧ vp_in v3 6) → Q (some (.inl (-900001))) σ) (h2 : vp_in v2 6 → vp_in v3 6 → ¬ r1n v1 6 → Q (some (.inl (-900002))) σ) (h3 : ∀ a b, a < 6 → b < 6 → v2 = nI a → v3 = nI b → r1n v1 6 → ¬ (mSh τ a a ∧ mSh τ b b) → Q (some (.inl (-900003))) σ) (h4 : ∀ D a b σ', 1 ≤ D → D ≤ 6 → a < 6 → b < 6 → v1 = nI D → v2 = nI a → v3 = nI b → mSh τ a a → mSh τ b b → kP σ σ' → iP σ' τ → Q (some (.inl (nI (plN τ D (2 ^ a ||| 2 ^ b))))) σ') : ps_C mX7_beside (d + 30) [ps_x, .inl v1, .inl v2, .inl v3] σ Q := by
  have go : ¬ jbWi v2 6 = 0 → ¬ jbWi v3 6 = 0 → ∃ a b, a < 6 ∧ b < 6 ∧ v2 = nI a ∧ v3 = nI b := fun p q => by
    obtain ⟨a, ha, rfl⟩ := vp_num (by decide) (wi6.mp p)
    obtain ⟨b, hb, rfl⟩ := vp_num (by decide) (wi6.mp q)
    exact ⟨a, b, ha, hb, rfl, rfl⟩
  refine eX7_beside (bX7_beside_0 (fun c => h1 (fun q => (z0 wi6).mp c q.1)) (fun c c2 c3 c4 => ?_) (fun c c2 c3 c4 c5 => ?_) (fun c c2 c3 c4 c5 => ?_) (fun c c2 c3 => h2 (wi6.mp c) (wi6.mp c2) ((z0 dys).mp c3)) (fun _ c => h1 (fun q => (z0 wi6).mp c q.2)))
  · obtain ⟨a, b, ha, hb, rfl, rfl⟩ := go c c2
    exact h3 a b ha hb rfl rfl (dys.mp c3) (fun q => (z0 (told_x ha hT)).mp c4 q.1)
  · obtain ⟨a, b, ha, hb, rfl, rfl⟩ := go c c2
    obtain ⟨D, d1, d2, rfl⟩ := num_of (v := v1) (lo := 1) (hi := 6) (dys.mp c3).1 (dys.mp c3).2
    rw [nx_sh1 a (by omega), nx_sh1 b (by omega), nx_or]
    have hlt : 2 ^ a ||| 2 ^ b < 64 := Nat.or_lt_two_pow (n := 6) (Nat.pow_lt_pow_right (by decide) ha) (Nat.pow_lt_pow_right (by decide) hb)
    exact pX4_planCount (d := d + 26) hlt d2 hT hP.1.1 hP.1.2.2.2 (fun σ' e => ⟨_, rfl, bX7_beside_71 (h4 D a b σ' d1 d2 ha hb rfl rfl rfl ((told_x ha hT).mp c4) ((told_x hb hT).mp c5) (kP_3 e) (iP_k e hP))⟩)
  · obtain ⟨a, b, ha, hb, rfl, rfl⟩ := go c c2
    exact h3 a b ha hb rfl rfl (dys.mp c3) (fun q => (z0 (told_x hb hT)).mp c5 q.2)
/-- the fewest days: the first of 1 to 6 with a plan -/
def fwC (τ : ps_S) (D : Nat) : Prop := ¬ nI (plN τ D 0) ≤ 0
noncomputable def fwN (τ : ps_S) : Int32 := match fstN 6 1 (fwC τ) with
  | some D => nI D
  | none => -900009
theorem x_fewest (hT : iT σ τ) (hP : iP σ τ) (hq : ∀ σ', kP σ σ' → iP σ' τ → Q (some (.inl (fwN τ))) σ') : ps_C mX7_fewest (d + 30) [ps_x] σ Q := by
  have key : ∀ r D, D + r = 7 → 1 ≤ D → ∀ ρ, kP σ ρ → iP ρ τ → fstN 6 1 (fwC τ) = fstN r D (fwC τ) → kX7_fewest_2 (d + 29) Q (nI D) ρ := by
    intro r
    induction r with
    | zero =>
      intro D hD h1 ρ f1 f2 f3
      obtain rfl : D = 7 := by omega
      refine bX7_fewest_2 (fun _ => ?_) (fun c => absurd (nI_lt (a := 6) (b := 7) (by decide) (by decide)) c)
      have := hq ρ f1 f2
      unfold fwN at this
      rw [f3] at this
      exact this
    | succ r ih =>
      intro D hD h1 ρ f1 f2 f3
      refine bX7_fewest_2 (fun c => absurd c (nI_nlt (a := 6) (b := D) (by omega) (by omega))) (fun _ => pX4_planCount (d := d + 26) (pr := 0) (τ := τ) (by decide) (by omega) (iT_k f1 hT) f2.1.1 f2.1.2.2.2 (fun σ' e => ⟨_, rfl, bX7_fewest_21 (fun c => ?_) (fun c => ?_)⟩))
      · rw [nI_1]
        refine ih (D + 1) (by omega) (by omega) σ' (kP_trans f1 (kP_3 e)) (iP_k e f2) ?_
        rw [f3, fst_f (fun q : fwC τ D => q c)]
      · have := hq σ' (kP_trans f1 (kP_3 e)) (iP_k e f2)
        unfold fwN at this
        rw [f3, fst_t (show fwC τ D from c)] at this
        exact this
  exact eX7_fewest (bX7_fewest_0 (key 6 1 rfl (Nat.le_refl _) σ (kP_refl σ) hP rfl))
end PO

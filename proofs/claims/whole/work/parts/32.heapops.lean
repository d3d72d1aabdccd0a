/-! ===== the calls on heaps, of the class (x_) and of the reference (m_) ===== -/
abbrev ps_x : ps_V := .inr (.inr (1, 0))
abbrev ps_m : ps_V := .inr (.inr (50, 0))
section HO
variable {σ τ ρ : ps_S} {d : Nat} {Q : Option ps_V → ps_S → Prop} {v v1 v2 v3 : Int32}
theorem wi6 {v : Int32} : ¬ jbWi v 6 = 0 ↔ vp_in v 6 := wi_iff (n := 6) (by decide)
theorem wi9 {v : Int32} : ¬ jbWi v 9 = 0 ↔ vp_in v 9 := wi_iff (n := 9) (by decide)
theorem wi10 {v : Int32} : ¬ jbWi v 10 = 0 ↔ vp_in v 10 := wi_iff (n := 10) (by decide)
theorem wi12 {v : Int32} : ¬ jbWi v 12 = 0 ↔ vp_in v 12 := wi_iff (n := 12) (by decide)
theorem wi16 {v : Int32} : ¬ jbWi v 16 = 0 ↔ vp_in v 16 := wi_iff (n := 16) (by decide)
theorem wi2 {v : Int32} : ¬ jbWi v 2 = 0 ↔ vp_in v 2 := wi_iff (n := 2) (by decide)
theorem in1 {v : Int32} : ¬ jbIn v.toInt64 0 1 = 0 ↔ vp_in v 2 := in_iff (n := 1) (by decide)
theorem in5 {v : Int32} : ¬ jbIn v.toInt64 0 5 = 0 ↔ vp_in v 6 := in_iff (n := 5) (by decide)
theorem in8 {v : Int32} : ¬ jbIn v.toInt64 0 8 = 0 ↔ vp_in v 9 := in_iff (n := 8) (by decide)
theorem in9 {v : Int32} : ¬ jbIn v.toInt64 0 9 = 0 ↔ vp_in v 10 := in_iff (n := 9) (by decide)
theorem in11 {v : Int32} : ¬ jbIn v.toInt64 0 11 = 0 ↔ vp_in v 12 := in_iff (n := 11) (by decide)
theorem in15 {v : Int32} : ¬ jbIn v.toInt64 0 15 = 0 ↔ vp_in v 16 := in_iff (n := 15) (by decide)
theorem z0 {x : Int32} {p : Prop} (h : ¬ x = 0 ↔ p) : x = 0 ↔ ¬ p := ⟨fun e q => h.mpr q e, fun q => Classical.not_not.mp (fun e => q (h.mp e))⟩
/-- from 1 to 12 -/
def r112 (v : Int32) : Prop := 1 ≤ v.toInt ∧ v.toInt ≤ 12
theorem x_size (h1 : r112 v → Q (some (.inl (σ 30 0 3))) (ps_up σ 30 0 3 v)) (h2 : ¬ r112 v → Q (some (.inl (-900002))) σ) : ps_C mX7_size (d + 30) [ps_x, .inl v] σ Q := by
  refine eX7_size (bX7_size_0 (fun c => h2 ?_) (fun c c2 => eX1_putSize (bX1_putSize_0 ⟨_, rfl, bX7_size_22 (h1 ?_)⟩)) (fun c c2 => h2 ?_))
  · rw [Int32.lt_iff_toInt_lt] at c
    have : (1 : Int32).toInt = 1 := by decide
    unfold r112; omega
  · rw [Int32.lt_iff_toInt_lt] at c
    rw [Int32.le_iff_toInt_le] at c2
    have e1 : (1 : Int32).toInt = 1 := by decide
    have e2 : (12 : Int32).toInt = 12 := by decide
    unfold r112; omega
  · rw [Int32.le_iff_toInt_le] at c2
    have e2 : (12 : Int32).toInt = 12 := by decide
    unfold r112; omega
theorem m_size (h1 : r112 v → Q (some (.inl (σ 50 0 20))) (ps_up σ 50 0 20 v)) (h2 : ¬ r112 v → Q (some (.inl (-900002))) σ) : ps_C mX8_size (d + 30) [ps_m, .inl v] σ Q := by
  have e : ¬ jbIn v.toInt64 1 12 = 0 ↔ r112 v := in_iff1 (n := 12) (by decide)
  exact eX8_size (bX8_size_0 (fun c => h1 (e.mp c)) (fun c => h2 ((z0 e).mp c)))
theorem x_seen (h1 : ¬ (vp_in v1 6 ∧ vp_in v2 12) → Q (some (.inl (-900001))) σ) (h2 : vp_in v1 6 → vp_in v2 12 → ¬ (v3 = -900009 ∨ vp_in v3 10) → Q (some (.inl (-900002))) σ) (h3 : vp_in v1 6 → vp_in v2 12 → (v3 = -900009 ∨ vp_in v3 10) → Q (some (.inl (σ 35 v1.toNatClampNeg v2.toNatClampNeg))) (ps_up σ 35 v1.toNatClampNeg v2.toNatClampNeg v3)) : ps_C mX7_seen (d + 30) [ps_x, .inl v1, .inl v2, .inl v3] σ Q := by
  have go : vp_in v1 6 → vp_in v2 12 → (v3 = -900009 ∨ vp_in v3 10) → kX7_seen_37 (d + 28) Q v1 v2 v3 σ := fun a b c => bX7_seen_37 (eX1_putSeen (bX1_putSeen_0 a b ⟨_, rfl, bX7_seen_47 (h3 a b c)⟩))
  exact eX7_seen (bX7_seen_0 (fun c => h1 (fun q => (z0 wi6).mp c q.1)) (fun c c2 c3 => go (wi6.mp c) (wi12.mp c2) (Or.inl c3)) (fun c c2 c3 c4 => go (wi6.mp c) (wi12.mp c2) (Or.inr (wi10.mp c4))) (fun c c2 c3 c4 => h2 (wi6.mp c) (wi12.mp c2) (fun q => q.elim c3 ((z0 wi10).mp c4))) (fun c c2 => h1 (fun q => (z0 wi12).mp c2 q.2)))
theorem ix12 {f b : Nat} : (12 * nI f) + nI b = nI (12 * f + b) := by rw [show (12 : Int32) * nI f = nI (12 * f) from ix_mul 12 f, nI_add]
theorem ix12c {v1 v2 : Int32} (a : vp_in v1 6) (b : vp_in v2 12) : vp_in ((12 * v1) + v2) 72 ∧ ((12 * v1) + v2).toNatClampNeg = 12 * v1.toNatClampNeg + v2.toNatClampNeg := by
  obtain ⟨i, hi, rfl⟩ := vp_in_of a (by decide)
  obtain ⟨j, hj, rfl⟩ := vp_in_of b (by decide)
  rw [ix12, nI_clamp (by omega), nI_clamp (by omega), nI_clamp (by omega)]
  exact ⟨vp_in_nI (by omega) (by decide), rfl⟩
theorem m_seen (h1 : ¬ (vp_in v1 6 ∧ vp_in v2 12) → Q (some (.inl (-900001))) σ) (h2 : vp_in v1 6 → vp_in v2 12 → ¬ (v3 = -900009 ∨ vp_in v3 10) → Q (some (.inl (-900002))) σ) (h3 : vp_in v1 6 → vp_in v2 12 → (v3 = -900009 ∨ vp_in v3 10) → Q (some (.inl (σ 70 0 (12 * v1.toNatClampNeg + v2.toNatClampNeg)))) (ps_up σ 70 0 (12 * v1.toNatClampNeg + v2.toNatClampNeg) v3)) : ps_C mX8_seen (d + 30) [ps_m, .inl v1, .inl v2, .inl v3] σ Q := by
  have go : vp_in v1 6 → vp_in v2 12 → (v3 = -900009 ∨ vp_in v3 10) → kX8_seen_43 (d + 28) Q v1 v2 v3 σ := fun a b c => by
    obtain ⟨e1, e2⟩ := ix12c a b
    refine bX8_seen_43 e1 ?_
    rw [e2]
    exact h3 a b c
  exact eX8_seen (bX8_seen_0 (fun c => h1 (fun q => (z0 in5).mp c q.1)) (fun c c2 c3 => go (in5.mp c) (in11.mp c2) (Or.inl c3)) (fun c c2 c3 c4 => go (in5.mp c) (in11.mp c2) (Or.inr (in9.mp c4))) (fun c c2 c3 c4 => h2 (in5.mp c) (in11.mp c2) (fun q => q.elim c3 ((z0 in9).mp c4))) (fun c c2 => h1 (fun q => (z0 in11).mp c2 q.2)))
theorem ps_up_o {σ : ps_S} {f k j f' : Nat} {x : Int32} (h : f' ≠ f) : ps_up σ f k j x f' = σ f' := by
  funext k' j'
  unfold ps_up
  rw [if_neg (fun q => h q.1)]
theorem ps_up_s {σ : ps_S} {f k j : Nat} {x : Int32} : ps_up σ f k j x f k j = x := by
  unfold ps_up
  rw [if_pos ⟨rfl, rfl, rfl⟩]
theorem ps_up_v {σ : ps_S} {f k j k' j' : Nat} {x : Int32} (h : ¬ (k' = k ∧ j' = j)) : ps_up σ f k j x f k' j' = σ f k' j' := by
  unfold ps_up
  rw [if_neg (fun q => h ⟨q.2.1, q.2.2⟩)]
theorem x_sheet (h : iH σ τ) (h1 : ¬ vp_in v1 6 → Q (some (.inl (-900001))) σ) (h2 : vp_in v1 6 → ¬ vp_in v2 10 → Q (some (.inl (-900002))) σ) (h3 : ∀ f, f < 6 → v1 = nI f → vp_in v2 10 → hn τ f = 12 → Q (some (.inl (-900003))) σ)
    (h4 : ∀ f, f < 6 → v1 = nI f → vp_in v2 10 → hn τ f < 12 → Q (some (.inl (nI (hn τ f + 1)))) (ps_up (ps_up σ 32 f (hn τ f) v2) 33 0 f (nI (hn τ f + 1)))) : ps_C mX7_sheet (d + 30) [ps_x, .inl v1, .inl v2] σ Q := by
  have key : ∀ f, f < 6 → v1 = nI f → (σ 33 0 v1.toNatClampNeg = nI (hn τ f) ∧ v1.toNatClampNeg = f) := by
    intro f hf e
    have := (iH_n h hf).2.2
    rw [e, nI_clamp (by omega)]
    exact ⟨this, rfl⟩
  refine eX7_sheet (bX7_sheet_0 (fun c _ => wi6.mp c) (fun c c2 c3 => ?_) (fun c c2 c3 => ?_) (fun c c2 => h2 (wi6.mp c) ((z0 wi10).mp c2)) (fun c => h1 ((z0 wi6).mp c)))
  · obtain ⟨f, hf, e⟩ := vp_in_of (wi6.mp c) (by decide)
    obtain ⟨k1, k2⟩ := key f hf e
    have hn12 := (iH_n h hf).1
    rw [k1] at c3
    have hlt : hn τ f < 12 := (nI_ltI (a := hn τ f) (b := 12) (by omega) (by decide)).mp c3
    refine eX1_addSheet (bX1_addSheet_0 (wi6.mp c) (by rw [k1]; exact vp_in_nI hlt (by decide)) ⟨_, rfl, bX7_sheet_48 ?_⟩)
    rw [ps_up_s, ps_up_o (by decide), k1, k2, nI_clamp (by omega), nI_1]
    exact h4 f hf e (wi10.mp c2) hlt
  · obtain ⟨f, hf, e⟩ := vp_in_of (wi6.mp c) (by decide)
    obtain ⟨k1, k2⟩ := key f hf e
    have hn12 := (iH_n h hf).1
    rw [k1] at c3
    have hge : ¬ hn τ f < 12 := fun q => c3 (nI_lt (a := hn τ f) (b := 12) q (by decide))
    exact h3 f hf e (wi10.mp c2) (by omega)
theorem m_sheet (h : iH ρ σ) (h1 : ¬ vp_in v1 6 → Q (some (.inl (-900001))) σ) (h2 : vp_in v1 6 → ¬ vp_in v2 10 → Q (some (.inl (-900002))) σ) (h3 : ∀ f, f < 6 → v1 = nI f → vp_in v2 10 → hn σ f = 12 → Q (some (.inl (-900003))) σ)
    (h4 : ∀ f, f < 6 → v1 = nI f → vp_in v2 10 → hn σ f < 12 → Q (some (.inl (nI (hn σ f + 1)))) (ps_up (ps_up σ 69 0 (12 * f + hn σ f) v2) 68 0 f (nI (hn σ f + 1)))) : ps_C mX8_sheet (d + 30) [ps_m, .inl v1, .inl v2] σ Q := by
  have key : ∀ f, f < 6 → v1 = nI f → (σ 68 0 v1.toNatClampNeg = nI (hn σ f) ∧ v1.toNatClampNeg = f) := by
    intro f hf e
    have := (iH_n h hf).2.1
    rw [e, nI_clamp (by omega)]
    exact ⟨this, rfl⟩
  refine eX8_sheet (bX8_sheet_0 (fun c _ => in5.mp c) (fun c c2 c3 => ?_) (fun c c2 c3 => ?_) (fun c c2 c3 => ?_) (fun c c2 => h2 (in5.mp c) ((z0 in9).mp c2)) (fun c => h1 ((z0 in5).mp c)))
  · obtain ⟨f, hf, e⟩ := vp_in_of (in5.mp c) (by decide)
    obtain ⟨k1, k2⟩ := key f hf e
    have hn12 := (iH_n h hf).1
    rw [k1] at c3 ⊢
    have hne : hn σ f ≠ 12 := fun q => c3 (by rw [q]; rfl)
    rw [e, ix12]
    exact vp_in_nI (by omega) (by decide)
  · obtain ⟨f, hf, e⟩ := vp_in_of (in5.mp c) (by decide)
    obtain ⟨k1, k2⟩ := key f hf e
    have hn12 := (iH_n h hf).1
    have hne : hn σ f ≠ 12 := fun q => c3 (by rw [k1, q]; rfl)
    rw [ps_up_s, ps_up_o (by decide), k1, k2]
    rw [show (12 * v1 + nI (hn σ f)).toNatClampNeg = 12 * f + hn σ f from by rw [e, ix12, nI_clamp (by omega)], nI_1]
    exact h4 f hf e (in9.mp c2) (by omega)
  · obtain ⟨f, hf, e⟩ := vp_in_of (in5.mp c) (by decide)
    obtain ⟨k1, k2⟩ := key f hf e
    have hn12 := (iH_n h hf).1
    rw [k1] at c3
    exact h3 f hf e (in9.mp c2) ((nI_eq (a := hn σ f) (b := 12) (by omega) (by decide)).mp c3)
theorem x_turns (h : iH σ τ) (h1 : ¬ vp_in v1 6 → Q (some (.inl (-900001))) σ) (h2 : ∀ f, f < 6 → v1 = nI f → Q (some (.inl (hW τ f ((hn τ f + hz τ - 1) / hz τ)))) σ) : ps_C mX7_turns (d + 30) [ps_x, .inl v1] σ Q := by
  refine eX7_turns (bX7_turns_0 (fun c => ?_) (fun c => h1 ((z0 wi6).mp c)))
  obtain ⟨f, hf, e⟩ := vp_in_of (wi6.mp c) (by decide)
  subst e
  exact pX1_turnings h hf ⟨_, rfl, bX7_turns_18 (h2 f hf rfl)⟩
theorem m_turns (h : iH ρ σ) (h1 : ¬ vp_in v1 6 → Q (some (.inl (-900001))) σ) (h2 : ∀ f, f < 6 → v1 = nI f → Q (some (.inl (hW σ f ((hn σ f + hz σ - 1) / hz σ)))) σ) : ps_C mX8_turns (d + 30) [ps_m, .inl v1] σ Q := by
  refine eX8_turns (bX8_turns_0 (fun c => ?_) (fun c => h1 ((z0 in5).mp c)))
  obtain ⟨f, hf, e⟩ := vp_in_of (in5.mp c) (by decide)
  subst e
  have hq := h2 f hf rfl
  have hfin : vp_in (nI f) 6 := vp_in_nI hf (by decide)
  have hcn := (hCnt h hf).2
  generalize hN : (hn σ f + hz σ - 1) / hz σ = N at hq hcn
  have hN12 : N ≤ 12 := by
    rcases Nat.eq_zero_or_pos N with z | z
    · omega
    · have := (hHeap h hf (k := N - 1) (by omega)).2
      omega
  have key : ∀ r j, j + r = N → kX8_turns_14 (d + 28) Q (nI f) (hW σ f j) (nI j) σ := by
    intro r
    induction r with
    | zero =>
      intro j hj
      obtain rfl : j = N := by omega
      exact bX8_turns_14 hfin (iH_nz h).2 (fun _ => hq) (fun c => absurd (by rw [hcn]; exact nI_le (Nat.le_refl _) (by omega)) c)
    | succ r ih =>
      intro j hj
      have hj0 : j < N := by omega
      have hhp := hHeap h hf (k := j) (by omega)
      have hh := ih (j + 1) (by omega)
      rw [← nI_1] at hh
      have two : ∀ x : Int32, x = nI (jN (hM σ f j 0)) → kX8_turns_39 (d + 28) Q (nI f) (nI j) x (hW σ f j) σ := by
        intro x hx
        refine bX8_turns_39 (pX8_mayBe h hf hhp ⟨_, rfl, bX8_turns_46 (fun c => ?_) (fun c => ?_)⟩)
        · rw [jbP_0] at c
          have e : hW σ f (j + 1) = hW σ f j * (x + 0) := by
            show hW σ f j * nI (jN (hM σ f j 0) + jN (hM σ f j 1)) = _
            rw [jN_f c, hx, Int32.add_zero, Nat.add_zero]
          rw [← e]
          exact hh
        · rw [jbP_0, Classical.not_not] at c
          have e : hW σ f (j + 1) = hW σ f j * (x + 1) := by
            show hW σ f j * nI (jN (hM σ f j 0) + jN (hM σ f j 1)) = _
            rw [jN_t c, hx, nI_1]
          rw [← e]
          exact hh
      refine bX8_turns_14 hfin (iH_nz h).2 (fun c => absurd c (by rw [hcn]; exact nI_ge hj0 (by omega))) (fun _ => pX8_mayBe h hf hhp ⟨_, rfl, bX8_turns_31 (fun c => ?_) (fun c => ?_)⟩)
      · rw [jbP_0] at c
        exact two 0 (by rw [jN_f c]; rfl)
      · rw [jbP_0, Classical.not_not] at c
        exact two 1 (by rw [jN_t c]; rfl)
  exact key N 0 (by omega)
theorem x_turned (h : iH σ τ) (h1 : ¬ vp_in v1 6 → Q (some (.inl (-900001))) σ) (h2 : ∀ f, f < 6 → v1 = nI f → ¬ vp_in v2 ((hn τ f + hz τ - 1) / hz τ) → Q (some (.inl (-900001))) σ) (h3 : ∀ f k, f < 6 → v1 = nI f → v2 = nI k → k < (hn τ f + hz τ - 1) / hz τ → Q (some (.inl (nI (hC τ f k)))) σ) : ps_C mX7_turned (d + 30) [ps_x, .inl v1, .inl v2] σ Q := by
  refine eX7_turned (bX7_turned_0 (fun c => h1 ((z0 wi6).mp c)) (fun c => wi6.mp c) (fun _ => (iH_nz h).1) (fun c c2 => ?_) (fun c c2 => ?_))
  all_goals
    obtain ⟨f, hf, e⟩ := vp_in_of (wi6.mp c) (by decide)
    subst e
    have hb : (hn τ f + hz τ - 1) / hz τ < 2 ^ 31 := by
      have h3 := (iH_n h hf).1
      have h4 := (iH_z h).2.1
      exact Nat.lt_of_le_of_lt (Nat.div_le_self _ _) (by omega)
    rw [(hCnt h hf).1] at c2
  · obtain ⟨k, hk, e2⟩ := vp_in_of ((wi_iff hb).mp c2) hb
    subst e2
    exact pX1_choices h hf (hHeap h hf hk) ⟨_, rfl, bX7_turned_34 (h3 f k hf rfl rfl hk)⟩
  · exact h2 f hf rfl ((z0 (wi_iff hb)).mp c2)
theorem m_turned (h : iH ρ σ) (h1 : ¬ vp_in v1 6 → Q (some (.inl (-900001))) σ) (h2 : ∀ f, f < 6 → v1 = nI f → ¬ vp_in v2 ((hn σ f + hz σ - 1) / hz σ) → Q (some (.inl (-900001))) σ) (h3 : ∀ f k, f < 6 → v1 = nI f → v2 = nI k → k < (hn σ f + hz σ - 1) / hz σ → Q (some (.inl (nI (hC σ f k)))) σ) : ps_C mX8_turned (d + 30) [ps_m, .inl v1, .inl v2] σ Q := by
  refine eX8_turned (bX8_turned_0 (fun c => h1 ((z0 in5).mp c)) (fun c => in5.mp c) (fun _ => (iH_nz h).2) (fun c c2 => ?_) (fun c c2 => ?_))
  all_goals
    obtain ⟨f, hf, e⟩ := vp_in_of (in5.mp c) (by decide)
    subst e
    have hb : (hn σ f + hz σ - 1) / hz σ < 2 ^ 31 := by
      have h3 := (iH_n h hf).1
      have h4 := (iH_z h).2.1
      exact Nat.lt_of_le_of_lt (Nat.div_le_self _ _) (by omega)
    rw [(hCnt h hf).2] at c2
  · obtain ⟨k, hk, e2⟩ := vp_in_of ((in_iffp hb).mp c2) hb
    subst e2
    have hhp := hHeap h hf hk
    have hq := h3 f k hf rfl rfl hk
    have two : ∀ x : Int32, x = nI (jN (hM σ f k 0)) → kX8_turned_42 (d + 28) Q (nI f) (nI k) x σ := by
      intro x hx
      refine bX8_turned_42 (pX8_mayBe h hf hhp ⟨_, rfl, bX8_turned_49 (fun c => ?_) (fun c => ?_)⟩)
      · rw [jbP_0] at c
        unfold hC at hq
        rw [jN_f c] at hq
        rw [hx, Int32.add_zero]
        exact hq
      · rw [jbP_0, Classical.not_not] at c
        unfold hC at hq
        rw [jN_t c] at hq
        rw [hx, show (2 : Int32) = nI 2 from rfl, nI_add]
        exact hq
    refine pX8_mayBe h hf hhp ⟨_, rfl, bX8_turned_34 (fun c => ?_) (fun c => ?_)⟩
    · rw [jbP_0] at c
      exact two 0 (by rw [jN_f c]; rfl)
    · rw [jbP_0, Classical.not_not] at c
      exact two 1 (by rw [jN_t c]; rfl)
  · exact h2 f hf rfl ((z0 (in_iffp hb)).mp c2)
theorem x_bound (h : iH σ τ) (h1 : ¬ (vp_in v1 6 ∧ vp_in v2 12) → Q (some (.inl (-900001))) σ) (h2 : ∀ f b, f < 6 → b < 12 → v1 = nI f → v2 = nI b → hn τ f ≤ b → Q (some (.inl (-900009))) σ) (h3 : ∀ f b, f < 6 → b < 12 → v1 = nI f → v2 = nI b → b < hn τ f → Q (some (.inl (hk τ f b v3))) σ) : ps_C mX7_bound (d + 30) [ps_x, .inl v1, .inl v2, .inl v3] σ Q := by
  refine eX7_bound (bX7_bound_0 (fun c => h1 (fun q => (z0 wi6).mp c q.1)) (fun c _ => wi6.mp c) (fun _ _ _ _ => (iH_nz h).1) (fun c c2 c3 _ => ?_) (fun _ c2 _ _ => wi12.mp c2) (fun c c2 => ?_) (fun c c2 => h1 (fun q => (z0 wi12).mp c2 q.2)))
  all_goals
    obtain ⟨f, hf, e⟩ := vp_in_of (wi6.mp c) (by decide)
    obtain ⟨b, hb, e2⟩ := vp_in_of (wi12.mp c2) (by decide)
    subst e
    subst e2
    have hfc : (nI f).toNatClampNeg = f := nI_clamp (by omega)
    have hnf := (iH_n h hf)
  · rw [hfc, hnf.2.2] at c3
    have hlt := (nI_ltI (by omega) (by omega)).mp c3
    rw [hIx1 h hf hlt]
    exact vp_in_nI (hx_lt h hf hlt).2.2.2.1 (by decide)
  · rcases Nat.lt_or_ge b (hn τ f) with q | q
    · rw [hKin1 h hf q]
      exact h3 f b hf hb rfl rfl q
    · have e : jX1_kindIn σ (nI f) (nI b) v3 = -900009 := by
        unfold jX1_kindIn
        rw [hfc, hnf.2.2, if_neg (nI_nlt q (by omega))]
      rw [e]
      exact h2 f b hf hb rfl rfl q
theorem m_bound (h : iH ρ σ) (h1 : ¬ (vp_in v1 6 ∧ vp_in v2 12) → Q (some (.inl (-900001))) σ) (h2 : ∀ f b, f < 6 → b < 12 → v1 = nI f → v2 = nI b → hn σ f ≤ b → Q (some (.inl (-900009))) σ) (h3 : ∀ f b, f < 6 → b < 12 → v1 = nI f → v2 = nI b → b < hn σ f → Q (some (.inl (hk σ f b v3))) σ) : ps_C mX8_bound (d + 30) [ps_m, .inl v1, .inl v2, .inl v3] σ Q := by
  refine eX8_bound (bX8_bound_0 (fun c => h1 (fun q => (z0 in5).mp c q.1)) (fun c _ => in5.mp c) (fun c c2 c3 => ?_) (fun _ _ _ => (iH_nz h).2) (fun c _ _ _ => in5.mp c) (fun c c2 c3 _ => ?_) (fun c c2 _ _ => (ix12c (in5.mp c) (in11.mp c2)).1) (fun c c2 c3 => ?_) (fun c c2 => h1 (fun q => (z0 in11).mp c2 q.2)))
  all_goals
    obtain ⟨f, hf, e⟩ := vp_in_of (in5.mp c) (by decide)
    obtain ⟨b, hb, e2⟩ := vp_in_of (in11.mp c2) (by decide)
    subst e
    subst e2
    have hfc : (nI f).toNatClampNeg = f := nI_clamp (by omega)
    have hnf := (iH_n h hf)
    rw [hfc, hnf.2.1, nI_leI (by omega) (by omega)] at c3
  · exact h2 f b hf hb rfl rfl c3
  · rw [hIx8 h hf (by omega)]
    exact vp_in_nI (by have := (hx_lt h hf (b := b) (by omega)).2.2.2.1; omega) (by decide)
  · rw [hKin8 h hf (by omega)]
    exact h3 f b hf hb rfl rfl (by omega)
end HO

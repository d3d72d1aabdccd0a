/-! ===== the calls on men, of the class and of the reference ===== -/
def iW (σ τ : ps_S) : Prop := iWb σ τ ∧ (σ 36 0 10 = 0 ∨ (σ 36 0 10 = 1 ∧ sW σ τ))
section MO
variable {σ τ ρ : ps_S} {d : Nat} {Q : Option ps_V → ps_S → Prop} {v v1 v2 v3 v4 : Int32}
def r1n (v : Int32) (n : Nat) : Prop := 1 ≤ v.toInt ∧ v.toInt ≤ n
theorem lit_toInt (n : Nat) (hn : n < 2 ^ 31) : (nI n).toInt = n := nI_toInt hn
theorem x_house (h1 : ¬ (r1n v1 4 ∧ r1n v2 12) → Q (some (.inl (-900002))) σ) (h2 : r1n v1 4 → r1n v2 12 → Q (some (.inl (σ 36 0 2))) (ps_up (ps_up (ps_up σ 36 0 2 v1) 36 0 3 v2) 36 0 10 0)) : ps_C mX7_house (d + 30) [ps_x, .inl v1, .inl v2] σ Q := by
  have e1 : (1 : Int32).toInt = 1 := by decide
  have e4 : (4 : Int32).toInt = 4 := by decide
  have e12 : (12 : Int32).toInt = 12 := by decide
  refine eX7_house (bX7_house_0 (fun c => h1 ?_) (fun c c2 => h1 ?_) (fun c c2 c3 => h1 ?_) (fun c c2 c3 c4 => eX2_putHouse (bX2_putHouse_0 ⟨_, rfl, bX7_house_33 (h2 ?_ ?_)⟩)) (fun c c2 c3 c4 => h1 ?_))
  all_goals simp only [Int32.lt_iff_toInt_lt, Int32.le_iff_toInt_le, e1, e4, e12] at *
  all_goals unfold r1n
  all_goals omega
theorem m_house (h1 : ¬ (r1n v1 4 ∧ r1n v2 12) → Q (some (.inl (-900002))) σ) (h2 : r1n v1 4 → r1n v2 12 → Q (some (.inl (σ 50 0 21))) (ps_up (ps_up σ 50 0 21 v1) 50 0 22 v2)) : ps_C mX8_house (d + 30) [ps_m, .inl v1, .inl v2] σ Q := by
  have a : ¬ jbIn v1.toInt64 1 4 = 0 ↔ r1n v1 4 := in_iff1 (n := 4) (by decide)
  have b : ¬ jbIn v2.toInt64 1 12 = 0 ↔ r1n v2 12 := in_iff1 (n := 12) (by decide)
  exact eX8_house (bX8_house_0 (fun c => h1 (fun q => (z0 a).mp c q.1)) (fun c c2 => h2 (a.mp c) (b.mp c2)) (fun c c2 => h1 (fun q => (z0 b).mp c2 q.2)))
theorem x_change (h1 : ¬ vp_in v 100 → Q (some (.inl (-900002))) σ) (h2 : vp_in v 100 → Q (some (.inl (σ 36 0 4))) (ps_up (ps_up σ 36 0 4 v) 36 0 10 0)) : ps_C mX7_change (d + 30) [ps_x, .inl v] σ Q := by
  have e0 : (0 : Int32).toInt = 0 := by decide
  have e99 : (99 : Int32).toInt = 99 := by decide
  refine eX7_change (bX7_change_0 (fun c => h1 ?_) (fun c c2 => eX2_putChange (bX2_putChange_0 ⟨_, rfl, bX7_change_21 (h2 ?_)⟩)) (fun c c2 => h1 ?_))
  all_goals rw [vp_in_iff]
  all_goals simp only [Int32.lt_iff_toInt_lt, Int32.le_iff_toInt_le, e0, e99] at *
  all_goals omega
theorem m_change (h1 : ¬ vp_in v 100 → Q (some (.inl (-900002))) σ) (h2 : vp_in v 100 → Q (some (.inl (σ 50 0 25))) (ps_up σ 50 0 25 v)) : ps_C mX8_change (d + 30) [ps_m, .inl v] σ Q := by
  have a : ¬ jbIn v.toInt64 0 99 = 0 ↔ vp_in v 100 := in_iff (n := 99) (by decide)
  exact eX8_change (bX8_change_0 (fun c => h2 (a.mp c)) (fun c => h1 ((z0 a).mp c)))
theorem x_habit (h : iWb σ τ) (h1 : ¬ (vp_in v1 (wM τ) ∧ vp_in v2 6) → Q (some (.inl (-900001))) σ) (h2 : vp_in v1 (wM τ) → vp_in v2 6 → ¬ (v3 = -900009 ∨ vp_in v3 2) → Q (some (.inl (-900002))) σ) (h3 : vp_in v1 (wM τ) → vp_in v2 6 → (v3 = -900009 ∨ vp_in v3 2) → Q (some (.inl (σ 38 v1.toNatClampNeg v2.toNatClampNeg))) (ps_up (ps_up σ 38 v1.toNatClampNeg v2.toNatClampNeg v3) 36 0 10 0)) : ps_C mX7_habit (d + 30) [ps_x, .inl v1, .inl v2, .inl v3] σ Q := by
  have hM := h.1.2.2
  have a := manx_iff h (v := v1)
  have v14 : vp_in v1 (wM τ) → vp_in v1 4 := fun q => by rw [vp_in_iff] at *; omega
  have go : vp_in v1 (wM τ) → vp_in v2 6 → (v3 = -900009 ∨ vp_in v3 2) → kX7_habit_37 (d + 28) Q v1 v2 v3 σ := fun q1 q2 q3 => bX7_habit_37 (eX2_putHabit (bX2_putHabit_0 (v14 q1) q2 ⟨_, rfl, bX7_habit_47 (h3 q1 q2 q3)⟩))
  exact eX7_habit (bX7_habit_0 (fun c => h1 (fun q => (z0 a).mp c q.1)) (fun c c2 c3 => go (a.mp c) (wi6.mp c2) (Or.inl c3)) (fun c c2 c3 c4 => go (a.mp c) (wi6.mp c2) (Or.inr (wi2.mp c4))) (fun c c2 c3 c4 => h2 (a.mp c) (wi6.mp c2) (fun q => q.elim c3 ((z0 wi2).mp c4))) (fun c c2 => h1 (fun q => (z0 wi6).mp c2 q.2)))
theorem ix6c {v1 v2 : Int32} (a : vp_in v1 4) (b : vp_in v2 6) : vp_in ((6 * v1) + v2) 24 ∧ ((6 * v1) + v2).toNatClampNeg = 6 * v1.toNatClampNeg + v2.toNatClampNeg := by
  obtain ⟨i, hi, rfl⟩ := vp_in_of a (by decide)
  obtain ⟨j, hj, rfl⟩ := vp_in_of b (by decide)
  rw [show (6 : Int32) * nI i = nI (6 * i) from ix_mul 6 i, nI_add, nI_clamp (by omega), nI_clamp (by omega), nI_clamp (by omega)]
  exact ⟨vp_in_nI (by omega) (by decide), rfl⟩
theorem m_habit (h : iWb σ τ) (hf : frR τ ρ) (h1 : ¬ (vp_in v1 (wM τ) ∧ vp_in v2 6) → Q (some (.inl (-900001))) ρ) (h2 : vp_in v1 (wM τ) → vp_in v2 6 → ¬ (v3 = -900009 ∨ vp_in v3 2) → Q (some (.inl (-900002))) ρ) (h3 : vp_in v1 (wM τ) → vp_in v2 6 → (v3 = -900009 ∨ vp_in v3 2) → Q (some (.inl (ρ 74 0 (6 * v1.toNatClampNeg + v2.toNatClampNeg)))) (ps_up ρ 74 0 (6 * v1.toNatClampNeg + v2.toNatClampNeg) v3)) : ps_C mX8_habit (d + 30) [ps_m, .inl v1, .inl v2, .inl v3] ρ Q := by
  have hM := h.1.2.2
  have a := man_iff h hf (v := v1)
  have v14 : vp_in v1 (wM τ) → vp_in v1 4 := fun q => by rw [vp_in_iff] at *; omega
  have go : vp_in v1 (wM τ) → vp_in v2 6 → (v3 = -900009 ∨ vp_in v3 2) → kX8_habit_42 (d + 28) Q v1 v2 v3 ρ := fun q1 q2 q3 => by
    obtain ⟨e1, e2⟩ := ix6c (v14 q1) q2
    refine bX8_habit_42 e1 ?_
    rw [e2]
    exact h3 q1 q2 q3
  exact eX8_habit (bX8_habit_0 (fun c => h1 (fun q => (z0 a).mp c q.1)) (fun c c2 c3 => go (a.mp c) (in5.mp c2) (Or.inl c3)) (fun c c2 c3 c4 => go (a.mp c) (in5.mp c2) (Or.inr (in1.mp c4))) (fun c c2 c3 c4 => h2 (a.mp c) (in5.mp c2) (fun q => q.elim c3 ((z0 in1).mp c4))) (fun c c2 => h1 (fun q => (z0 in5).mp c2 q.2)))
theorem ix2c {v2 v3 : Int32} (a : vp_in v2 6) (b : vp_in v3 2) : vp_in ((v2 * 2) + v3) 12 ∧ ((v2 * 2) + v3).toNatClampNeg = 2 * v2.toNatClampNeg + v3.toNatClampNeg := by
  obtain ⟨i, hi, rfl⟩ := vp_in_of a (by decide)
  obtain ⟨j, hj, rfl⟩ := vp_in_of b (by decide)
  rw [show nI i * 2 = nI (i * 2) from ix_mul i 2, nI_add, nI_clamp (by omega), nI_clamp (by omega), nI_clamp (by omega)]
  exact ⟨vp_in_nI (by omega) (by decide), by omega⟩
theorem ix122c {v1 v2 v3 : Int32} (a : vp_in v1 12) (b : vp_in v2 6) (c : vp_in v3 2) : vp_in (((12 * v1) + (2 * v2)) + v3) 144 ∧ (((12 * v1) + (2 * v2)) + v3).toNatClampNeg = 12 * v1.toNatClampNeg + (2 * v2.toNatClampNeg + v3.toNatClampNeg) := by
  obtain ⟨i, hi, rfl⟩ := vp_in_of a (by decide)
  obtain ⟨j, hj, rfl⟩ := vp_in_of b (by decide)
  obtain ⟨k, hk, rfl⟩ := vp_in_of c (by decide)
  rw [show (12 : Int32) * nI i = nI (12 * i) from ix_mul 12 i, show (2 : Int32) * nI j = nI (2 * j) from ix_mul 2 j, nI_add, nI_add, nI_clamp (by omega), nI_clamp (by omega), nI_clamp (by omega), nI_clamp (by omega)]
  exact ⟨vp_in_nI (by omega) (by decide), by omega⟩
theorem x_spell (h : iWb σ τ) (h1 : ¬ (vp_in v1 (wP τ) ∧ vp_in v2 6) → Q (some (.inl (-900001))) σ) (h2 : vp_in v1 (wP τ) → vp_in v2 6 → ¬ (vp_in v3 2 ∧ vp_in v4 10) → Q (some (.inl (-900002))) σ) (h3 : vp_in v1 (wP τ) → vp_in v2 6 → vp_in v3 2 → vp_in v4 10 → Q (some (.inl (σ 40 v1.toNatClampNeg (2 * v2.toNatClampNeg + v3.toNatClampNeg)))) (ps_up (ps_up σ 40 v1.toNatClampNeg (2 * v2.toNatClampNeg + v3.toNatClampNeg) v4) 36 0 10 0)) : ps_C mX7_spell (d + 30) [ps_x, .inl v1, .inl v2, .inl v3, .inl v4] σ Q := by
  have hP := h.2.1.2.2
  have a := pagex_iff h (v := v1)
  have v112 : vp_in v1 (wP τ) → vp_in v1 12 := fun q => by rw [vp_in_iff] at *; omega
  refine eX7_spell (bX7_spell_0 (fun c => h1 (fun q => (z0 a).mp c q.1)) (fun c c2 c3 => h2 (a.mp c) (wi6.mp c2) (fun q => (z0 wi2).mp c3 q.1)) (fun c c2 c3 c4 => ?_) (fun c c2 c3 c4 => h2 (a.mp c) (wi6.mp c2) (fun q => (z0 wi10).mp c4 q.2)) (fun c c2 => h1 (fun q => (z0 wi6).mp c2 q.2)))
  obtain ⟨e1, e2⟩ := ix2c (wi6.mp c2) (wi2.mp c3)
  refine eX2_putTimes (bX2_putTimes_0 (v112 (a.mp c)) e1 ⟨_, rfl, bX7_spell_53 ?_⟩)
  rw [e2]
  exact h3 (a.mp c) (wi6.mp c2) (wi2.mp c3) (wi10.mp c4)
theorem m_spell (h : iWb σ τ) (hf : frR τ ρ) (h1 : ¬ (vp_in v1 (wP τ) ∧ vp_in v2 6) → Q (some (.inl (-900001))) ρ) (h2 : vp_in v1 (wP τ) → vp_in v2 6 → ¬ (vp_in v3 2 ∧ vp_in v4 10) → Q (some (.inl (-900002))) ρ) (h3 : vp_in v1 (wP τ) → vp_in v2 6 → vp_in v3 2 → vp_in v4 10 → Q (some (.inl (ρ 75 0 (12 * v1.toNatClampNeg + (2 * v2.toNatClampNeg + v3.toNatClampNeg))))) (ps_up ρ 75 0 (12 * v1.toNatClampNeg + (2 * v2.toNatClampNeg + v3.toNatClampNeg)) v4)) : ps_C mX8_spell (d + 30) [ps_m, .inl v1, .inl v2, .inl v3, .inl v4] ρ Q := by
  have hP := h.2.1.2.2
  have a := page_iff h hf (v := v1)
  have v112 : vp_in v1 (wP τ) → vp_in v1 12 := fun q => by rw [vp_in_iff] at *; omega
  refine eX8_spell (bX8_spell_0 (fun c => h1 (fun q => (z0 a).mp c q.1)) (fun c c2 c3 => h2 (a.mp c) (in5.mp c2) (fun q => (z0 in1).mp c3 q.1)) (fun c c2 c3 c4 => (ix122c (v112 (a.mp c)) (in5.mp c2) (in1.mp c3)).1) (fun c c2 c3 c4 => ?_) (fun c c2 c3 c4 => h2 (a.mp c) (in5.mp c2) (fun q => (z0 in9).mp c4 q.2)) (fun c c2 => h1 (fun q => (z0 in5).mp c2 q.2)))
  rw [(ix122c (v112 (a.mp c)) (in5.mp c2) (in1.mp c3)).2]
  exact h3 (a.mp c) (in5.mp c2) (in1.mp c3) (in9.mp c4)
theorem x_against (h : iWb σ τ) (h1 : ¬ (vp_in v1 (wP τ) ∧ vp_in v2 (wM τ)) → Q (some (.inl (-900001))) σ) (h2 : ∀ p m, p < wP τ → m < wM τ → v1 = nI p → v2 = nI m → Q (some (.inl (nI (ow τ p m)))) σ) : ps_C mX7_against (d + 30) [ps_x, .inl v1, .inl v2] σ Q := by
  have hM := h.1.2.2
  have hP := h.2.1.2.2
  have a := pagex_iff h (v := v1)
  have b := manx_iff h (v := v2)
  refine eX7_against (bX7_against_0 (fun c => h1 (fun q => (z0 a).mp c q.1)) (fun c _ => ?_) (fun _ c => ?_) (fun c c2 => ?_) (fun c c2 => h1 (fun q => (z0 b).mp c2 q.2)))
  · have := a.mp c; rw [vp_in_iff] at *; omega
  · have := b.mp c; rw [vp_in_iff] at *; omega
  · obtain ⟨p, hp, rfl⟩ := vp_in_of (a.mp c) (by omega)
    obtain ⟨m, hm, rfl⟩ := vp_in_of (b.mp c2) (by omega)
    rw [nI_clamp (by omega), nI_clamp (by omega), sWa_eq h (by omega) (by omega)]
    exact h2 p m hp hm rfl rfl
theorem m_against (h : iWb σ τ) (hf : frR τ ρ) (h1 : ¬ (vp_in v1 (wP τ) ∧ vp_in v2 (wM τ)) → Q (some (.inl (-900001))) ρ) (h2 : ∀ p m, p < wP τ → m < wM τ → v1 = nI p → v2 = nI m → Q (some (.inl (nI (ow τ p m)))) ρ) : ps_C mX8_against (d + 30) [ps_m, .inl v1, .inl v2] ρ Q := by
  have hM := h.1.2.2
  have hP := h.2.1.2.2
  have a := page_iff h hf (v := v1)
  have b := man_iff h hf (v := v2)
  refine eX8_against (bX8_against_0 (fun c => h1 (fun q => (z0 a).mp c q.1)) (fun c c2 => h1 (fun q => (z0 b).mp c2 q.2)) (fun c _ => ?_) (fun _ c => ?_) (fun _ c => ?_) (fun c c2 => ?_))
  · have := a.mp c; rw [vp_in_iff] at *; omega
  · have := b.mp c; rw [vp_in_iff] at *; omega
  · obtain ⟨m, hm, rfl⟩ := vp_in_of (b.mp c) (by omega)
    rw [nI_clamp (by omega)]
    exact fr_hab h hf (by omega)
  · obtain ⟨p, hp, rfl⟩ := vp_in_of (a.mp c) (by omega)
    obtain ⟨m, hm, rfl⟩ := vp_in_of (b.mp c2) (by omega)
    rw [nI_clamp (by omega), nI_clamp (by omega), fr_wa h hf (by omega) (by omega)]
    exact h2 p m hp hm rfl rfl
theorem x_setting (h : iW σ τ) (hq : ∀ σ', frW σ σ' → iW σ' τ → Q (some (.inl (nI (lst τ)))) σ') : ps_C mX7_setting (d + 30) [ps_x] σ Q :=
  eX7_setting (bX7_setting_0 (pX2_bestCost h.1 h.2 (fun σ' f1 f2 f3 => ⟨_, rfl, bX7_setting_7 (hq σ' f1 ⟨frW_b f1 h.1, Or.inr ⟨f3, f2⟩⟩)⟩)))
theorem x_settings (h : iW σ τ) (hq : ∀ σ', frW σ σ' → iW σ' τ → Q (some (.inl (sttN τ))) σ') : ps_C mX7_settings (d + 30) [ps_x] σ Q :=
  eX7_settings (bX7_settings_0 (pX2_bestWays h.1 h.2 (fun σ' f1 f2 f3 => ⟨_, rfl, bX7_settings_7 (hq σ' f1 ⟨frW_b f1 h.1, Or.inr ⟨f3, f2⟩⟩)⟩)))
theorem x_who (h : iW σ τ) (h1 : ¬ vp_in v (wP τ) → Q (some (.inl (-900001))) σ) (hq : ∀ p σ', p < wP τ → v = nI p → frW σ σ' → iW σ' τ → Q (some (.inl (nI (whoN τ p)))) σ') : ps_C mX7_who (d + 30) [ps_x, .inl v] σ Q := by
  have hP := h.1.2.1.2.2
  have a := pagex_iff h.1 (v := v)
  refine eX7_who (bX7_who_0 (fun c => ?_) (fun c => h1 ((z0 a).mp c)))
  obtain ⟨p, hp, rfl⟩ := vp_in_of (a.mp c) (by omega)
  exact pX2_firstMan h.1 h.2 hp (fun σ' f1 f2 f3 => ⟨_, rfl, bX7_who_19 (hq p σ' hp rfl f1 ⟨frW_b f1 h.1, Or.inr ⟨f3, f2⟩⟩)⟩)
theorem x_sure (h : iW σ τ) (h1 : ¬ vp_in v (wP τ) → Q (some (.inl (-900001))) σ) (hq : ∀ p σ', p < wP τ → v = nI p → frW σ σ' → iW σ' τ → Q (some (.inl (jbP (cntN (wM τ) (isB τ p) = 1)))) σ') : ps_C mX7_sure (d + 30) [ps_x, .inl v] σ Q := by
  have hM := h.1.1.2.2
  have hP := h.1.2.1.2.2
  have a := pagex_iff h.1 (v := v)
  refine eX7_sure (bX7_sure_0 (fun c => ?_) (fun c => h1 ((z0 a).mp c)))
  obtain ⟨p, hp, rfl⟩ := vp_in_of (a.mp c) (by omega)
  have cb : ∀ n, cntN n (isB τ p) ≤ n := by
    intro n
    induction n with
    | zero => exact Nat.le_refl _
    | succ n ih =>
      have : jN (isB τ p n) ≤ 1 := by
        by_cases c : isB τ p n
        · rw [jN_t c]; omega
        · rw [jN_f c]; omega
      show cntN n (isB τ p) + jN (isB τ p n) ≤ n + 1
      omega
  have hcb := cb (wM τ)
  refine pX2_bestMen h.1 h.2 hp (fun σ' f1 f2 f3 => ⟨_, rfl, bX7_sure_19 (fun c => ?_) (fun c => ?_)⟩)
  · have hq := hq p σ' hp rfl f1 ⟨frW_b f1 h.1, Or.inr ⟨f3, f2⟩⟩
    rw [jbP_f (fun q => c (by rw [q]; rfl))] at hq
    exact hq
  · have hq := hq p σ' hp rfl f1 ⟨frW_b f1 h.1, Or.inr ⟨f3, f2⟩⟩
    rw [jbP_t ((nI_eq (b := 1) (by omega) (by decide)).mp c)] at hq
    exact hq
end MO

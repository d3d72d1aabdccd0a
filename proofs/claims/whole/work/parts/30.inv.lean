/-! ===== numbers: ranges as the class and the reference look at them ===== -/
theorem wi_iff {v : Int32} {n : Nat} (hn : n < 2 ^ 31) : ¬ jbWi v (nI n) = 0 ↔ vp_in v n := by
  rw [vp_in_iff]
  unfold jbWi
  by_cases h1 : v < 0
  · rw [if_pos h1]
    rw [Int32.lt_iff_toInt_lt, Int32.toInt_zero] at h1
    exact ⟨fun h => absurd rfl h, fun h => by omega⟩
  · rw [if_neg h1]
    rw [Int32.lt_iff_toInt_lt, Int32.toInt_zero] at h1
    by_cases h2 : nI n ≤ v
    · rw [if_pos h2]
      rw [Int32.le_iff_toInt_le, nI_toInt hn] at h2
      exact ⟨fun h => absurd rfl h, fun h => by omega⟩
    · rw [if_neg h2]
      rw [Int32.le_iff_toInt_le, nI_toInt hn] at h2
      exact ⟨fun _ => by omega, fun _ => by decide⟩
theorem in_gen {v : Int32} {a b : Int64} : ¬ jbIn v.toInt64 a b = 0 ↔ (a.toInt ≤ v.toInt ∧ v.toInt ≤ b.toInt) := by
  have e : (a ≤ v.toInt64 ∧ v.toInt64 ≤ b) ↔ (a.toInt ≤ v.toInt ∧ v.toInt ≤ b.toInt) := by
    rw [Int64.le_iff_toInt_le, Int64.le_iff_toInt_le, Int32.toInt_toInt64]
  unfold jbIn
  by_cases h : a ≤ v.toInt64 ∧ v.toInt64 ≤ b
  · rw [if_pos h]; exact ⟨fun _ => e.mp h, fun _ => by decide⟩
  · rw [if_neg h]; exact ⟨fun q => absurd rfl q, fun q => absurd (e.mpr q) h⟩
theorem in_iff {v : Int32} {n : Nat} (hn : n < 2 ^ 31) : ¬ jbIn v.toInt64 0 (lN n) = 0 ↔ vp_in v (n + 1) := by
  rw [in_gen, vp_in_iff, lN_toInt hn, show (0 : Int64).toInt = 0 from by decide]
  omega
theorem in_iff1 {v : Int32} {n : Nat} (hn : n < 2 ^ 31) : ¬ jbIn v.toInt64 1 (lN n) = 0 ↔ (1 ≤ v.toInt ∧ v.toInt ≤ n) := by
  rw [in_gen, lN_toInt hn, show (1 : Int64).toInt = 1 from by decide]
theorem pred_toInt {n : Nat} (hn : n < 2 ^ 31) : (nI n - 1).toInt = (n : Int) - 1 := by
  cases n with
  | zero => decide
  | succ k =>
    rw [nI_pred, nI_toInt (by omega)]
    omega
theorem in_iffp {v : Int32} {n : Nat} (hn : n < 2 ^ 31) : ¬ jbIn v.toInt64 0 ((nI n - 1).toInt64) = 0 ↔ vp_in v n := by
  rw [in_gen, vp_in_iff, Int32.toInt_toInt64, pred_toInt hn, show (0 : Int64).toInt = 0 from by decide]
  omega
theorem nI_sub {a b : Nat} (h : b ≤ a) : nI a - nI b = nI (a - b) := by
  have e : nI a = nI (a - b) + nI b := by rw [nI_add]; congr 1; omega
  rw [e, Int32.add_sub_cancel]
theorem nI_div {a b : Nat} (ha : a < 2 ^ 31) (hb : b < 2 ^ 31) (h0 : 0 < b) : nI a / nI b = nI (a / b) := by
  apply Int32.toInt_inj.mp
  have hd : a / b < 2 ^ 31 := Nat.lt_of_le_of_lt (Nat.div_le_self a b) ha
  rw [nI_toInt hd, Int32.toInt_div, nI_toInt ha, nI_toInt hb]
  rw [show (a : Int).tdiv (b : Int) = ((a / b : Nat) : Int) from by rw [Int.ofNat_tdiv]]
  generalize a / b = q at hd
  apply Int.bmod_eq_of_le <;> omega
theorem num_of {v : Int32} {lo hi : Nat} (h1 : (lo : Int) ≤ v.toInt) (h2 : v.toInt ≤ (hi : Int)) : ∃ j : Nat, lo ≤ j ∧ j ≤ hi ∧ v = nI j := by
  refine ⟨v.toInt.toNat, by omega, by omega, ?_⟩
  apply Int32.toInt_inj.mp
  have hb := Int32.toInt_lt v
  rw [nI_toInt (by omega)]
  omega
/-! ===== what the class's cells (σ) and the reference's (τ) have to do with one another ===== -/
def eqC (σ σ' : ps_S) : Prop := ∀ g, g < 50 → σ g = σ' g
def eqB (σ σ' : ps_S) : Prop := σ 51 0 = σ' 51 0 ∧ σ 58 0 = σ' 58 0 ∧ σ 63 0 = σ' 63 0 ∧ σ 68 0 = σ' 68 0 ∧ σ 69 0 = σ' 69 0 ∧ σ 70 0 = σ' 70 0 ∧ σ 74 0 = σ' 74 0 ∧ σ 75 0 = σ' 75 0 ∧ σ 50 0 13 = σ' 50 0 13 ∧ σ 50 0 20 = σ' 50 0 20 ∧ σ 50 0 21 = σ' 50 0 21 ∧ σ 50 0 22 = σ' 50 0 22 ∧ σ 50 0 25 = σ' 50 0 25
/-- heaps -/
def iH (σ τ : ps_S) : Prop := (σ 30 0 3 = τ 50 0 20 ∧ ∃ z, 1 ≤ z ∧ z ≤ 12 ∧ τ 50 0 20 = nI z) ∧ (∀ f, f < 6 → σ 33 0 f = τ 68 0 f ∧ ∃ n, n ≤ 12 ∧ τ 68 0 f = nI n) ∧ ∀ f b, f < 6 → b < 12 → σ 32 f b = τ 69 0 (12 * f + b) ∧ σ 35 f b = τ 70 0 (12 * f + b)
theorem iH_eq {σ σ' τ τ' : ps_S} (h30 : σ 30 0 3 = σ' 30 0 3) (h33 : σ 33 0 = σ' 33 0) (h32 : σ 32 = σ' 32) (h35 : σ 35 = σ' 35) (hb : eqB τ τ') (h : iH σ τ) : iH σ' τ' := by
  obtain ⟨b1, b2, b3, b4, b5, b6, b7, b8, b9, b10, b11, b12, b13⟩ := hb
  obtain ⟨h1, h2, h3⟩ := h
  exact ⟨by rw [← h30, ← b10]; exact h1, fun f hf => by rw [← h33, ← b4]; exact h2 f hf, fun f b hf hb => by rw [← h32, ← h35, ← b5, ← b6]; exact h3 f b hf hb⟩

/-! ===== Int32 by its bits (the kit's rows to paste), and sets of small numbers ===== -/
def bt (x : Int32) (i : Nat) : Bool := x.toBitVec.getLsbD i
theorem b_ext {x y : Int32} (h : ∀ i, i < 32 → bt x i = bt y i) : x = y := Int32.toBitVec_inj.mp (BitVec.eq_of_getLsbD_eq (fun i hi => h i hi))
theorem b_or (x y : Int32) (i : Nat) : bt (x ||| y) i = (bt x i || bt y i) := by unfold bt; rw [Int32.toBitVec_or, BitVec.getLsbD_or]
theorem b_and (x y : Int32) (i : Nat) : bt (x &&& y) i = (bt x i && bt y i) := by unfold bt; rw [Int32.toBitVec_and, BitVec.getLsbD_and]
theorem b_xor (x y : Int32) (i : Nat) : bt (x ^^^ y) i = (bt x i ^^ bt y i) := by unfold bt; rw [Int32.toBitVec_xor, BitVec.getLsbD_xor]
theorem b_m1 : ∀ i, i < 32 → bt (-1) i = true := by decide +kernel
theorem b_0 (i : Nat) : bt 0 i = false := BitVec.getLsbD_zero
theorem b_1 : ∀ i, i < 32 → bt 1 i = decide (i = 0) := by decide +kernel
theorem s_l : ∀ n, n < 32 → ((nI n &&& 31).toBitVec.smod 32).toNat = n := by decide +kernel
theorem b_shl (n : Nat) (hn : n < 32) (x : Int32) {i : Nat} (hi : i < 32) : bt (x <<< (nI n &&& 31)) i = (decide (n ≤ i) && bt x (i - n)) := by
  unfold bt
  rw [Int32.toBitVec_shiftLeft]
  show (x.toBitVec <<< ((nI n &&& 31).toBitVec.smod 32).toNat).getLsbD i = _
  rw [s_l n hn, BitVec.getLsbD_shiftLeft]
  rcases Nat.lt_or_ge i n with h | h
  · simp [h, Nat.not_le.mpr h]
  · simp [hi, h, Nat.not_lt.mpr h]
theorem b_sshr (n : Nat) (hn : n < 32) (x : Int32) {i : Nat} (hi : i < 32) : bt (x >>> (nI n &&& 31)) i = if n + i < 32 then bt x (n + i) else bt x 31 := by
  unfold bt
  rw [Int32.toBitVec_shiftRight]
  show (x.toBitVec.sshiftRight ((nI n &&& 31).toBitVec.smod 32).toNat).getLsbD i = _
  rw [s_l n hn, BitVec.getLsbD_sshiftRight, BitVec.msb_eq_getLsbD_last]
  simp [hi]
theorem b_nI (k i : Nat) (hi : i < 32) : bt (nI k) i = k.testBit i := by
  show (BitVec.ofNat 32 k).getLsbD i = _
  rw [BitVec.getLsbD_ofNat]
  simp [hi]
/-- x is the set of those below n that are P -/
def bm (x : Int32) (n : Nat) (P : Nat → Prop) : Prop := ∀ i, i < 32 → (bt x i = true ↔ (i < n ∧ P i))
section BM
variable {x y : Int32} {n : Nat} {P R : Nat → Prop}
theorem bm_uniq (h : bm x n P) (h' : bm y n P) : x = y := b_ext (fun i hi => by
  have h1 := h i hi
  have h2 := h' i hi
  by_cases c : bt x i = true
  · rw [c, h2.mpr (h1.mp c)]
  · have c2 : ¬ bt y i = true := fun q => c (h1.mpr (h2.mp q))
    rw [Bool.not_eq_true] at c c2
    rw [c, c2])
theorem bm_congr (h : bm x n P) (e : ∀ i, i < n → (P i ↔ R i)) : bm x n R := fun i hi => by
  rw [h i hi]
  exact ⟨fun q => ⟨q.1, (e i q.1).mp q.2⟩, fun q => ⟨q.1, (e i q.1).mpr q.2⟩⟩
theorem bm_or (h : bm x n P) (h' : bm y n R) : bm (x ||| y) n (fun i => P i ∨ R i) := fun i hi => by
  rw [b_or, Bool.or_eq_true, h i hi, h' i hi]
  exact ⟨fun q => q.elim (fun z => ⟨z.1, Or.inl z.2⟩) (fun z => ⟨z.1, Or.inr z.2⟩), fun q => q.2.elim (fun z => Or.inl ⟨q.1, z⟩) (fun z => Or.inr ⟨q.1, z⟩)⟩
theorem bm_and (h : bm x n P) (h' : bm y n R) : bm (x &&& y) n (fun i => P i ∧ R i) := fun i hi => by
  rw [b_and, Bool.and_eq_true, h i hi, h' i hi]
  exact ⟨fun q => ⟨q.1.1, q.1.2, q.2.2⟩, fun q => ⟨⟨q.1, q.2.1⟩, q.1, q.2.2⟩⟩
theorem bm_diff (h : bm x n P) (h' : bm y n R) : bm (x &&& (y ^^^ (-1))) n (fun i => P i ∧ ¬ R i) := fun i hi => by
  have e : (bt y i ^^ true) = true ↔ ¬ bt y i = true := by cases bt y i <;> simp
  rw [b_and, b_xor, b_m1 i hi, Bool.and_eq_true, e, h i hi, h' i hi]
  exact ⟨fun q => ⟨q.1.1, q.1.2, fun r => q.2 ⟨q.1.1, r⟩⟩, fun q => ⟨⟨q.1, q.2.1⟩, fun r => q.2.2 r.2⟩⟩
theorem bm_0 : bm 0 n (fun _ => False) := fun i hi => by
  rw [b_0]
  exact ⟨fun q => Bool.noConfusion q, fun q => q.2.elim⟩
theorem bm_1 {b : Nat} (hb : b < n) (hn : n ≤ 31) : bm ((1 : Int32) <<< (nI b &&& 31)) n (fun i => i = b) := fun i hi => by
  rw [b_shl b (by omega) 1 hi]
  rcases Nat.lt_or_ge i b with q | q
  · simp only [decide_eq_false (show ¬ b ≤ i by omega), Bool.false_and, Bool.false_eq_true, false_iff]
    omega
  · rw [b_1 _ (by omega)]
    simp only [decide_eq_true q, Bool.true_and, decide_eq_true_eq]
    omega
theorem bm_zero (h : bm x n P) (hn : n ≤ 32) : x = 0 ↔ ∀ i, i < n → ¬ P i := by
  constructor
  · intro e i hi hp
    have := (h i (by omega)).mpr ⟨hi, hp⟩
    rw [e, b_0] at this
    cases this
  · intro e
    exact bm_uniq (bm_congr h (R := fun _ => False) (fun i hi => ⟨fun q => e i hi q, fun q => q.elim⟩)) bm_0
theorem bm_eq (h : bm x n P) (h' : bm y n R) (hn : n ≤ 32) : x = y ↔ ∀ i, i < n → (P i ↔ R i) := by
  constructor
  · intro e i hi
    have h1 := h i (by omega)
    have h2 := h' i (by omega)
    rw [e] at h1
    exact ⟨fun q => (h2.mp (h1.mpr ⟨hi, q⟩)).2, fun q => (h1.mp (h2.mpr ⟨hi, q⟩)).2⟩
  · intro e
    exact bm_uniq (bm_congr h e) h'
theorem bm_bit (h : bm x n P) {b : Nat} (hb : b < n) (hn : n ≤ 31) : (x >>> (nI b &&& 31)) &&& 1 = jbP (P b) := by
  apply b_ext
  intro i hi
  rw [b_and, b_1 i hi]
  rcases Nat.eq_zero_or_pos i with z | z
  · subst z
    rw [b_sshr b (by omega) x (by omega), if_pos (by omega), Nat.add_zero]
    simp only [decide_true, Bool.and_true]
    have h1 := h b (by omega)
    by_cases c : P b
    · rw [h1.mpr ⟨hb, c⟩, jbP_t c]; rfl
    · have c2 : ¬ bt x b = true := fun q => c (h1.mp q).2
      rw [Bool.not_eq_true] at c2
      rw [c2, jbP_f c]; rfl
  · simp only [decide_eq_false (show ¬ i = 0 by omega), Bool.and_false]
    rcases ps_bitP (P b) with q | q
    · rw [q, b_0]
    · rw [q, b_1 i hi, decide_eq_false (by omega)]
theorem mkN_bit (hn : n ≤ 31) (P : Nat → Prop) : ∀ (n : Nat) (i : Nat), ((mkN n P).testBit i = true ↔ (i < n ∧ P i))
  | 0, i => by
    show (0 : Nat).testBit i = true ↔ _
    rw [Nat.zero_testBit]
    exact ⟨fun q => Bool.noConfusion q, fun q => absurd q.1 (by omega)⟩
  | n + 1, i => by
    have ih := mkN_bit hn P n i
    have hlt := mkN_lt P n
    show (mkN n P + jN (P n) * 2 ^ n).testBit i = true ↔ _
    by_cases c : P n
    · rw [jN_t c, Nat.one_mul, Nat.add_comm]
      rcases Nat.lt_trichotomy i n with q | q | q
      · rw [Nat.testBit_two_pow_add_gt q, ih]
        exact ⟨fun z => ⟨by omega, z.2⟩, fun z => ⟨q, z.2⟩⟩
      · subst q
        rw [Nat.testBit_two_pow_add_eq, Nat.testBit_lt_two_pow hlt]
        exact ⟨fun _ => ⟨by omega, c⟩, fun _ => rfl⟩
      · have h2 : 2 ^ n + mkN n P < 2 ^ i := by
          have h3 : 2 ^ (n + 1) ≤ 2 ^ i := Nat.pow_le_pow_right (by decide) q
          rw [Nat.pow_succ] at h3
          omega
        rw [Nat.testBit_lt_two_pow h2]
        exact ⟨fun z => Bool.noConfusion z, fun z => absurd z.1 (by omega)⟩
    · rw [jN_f c, Nat.zero_mul, Nat.add_zero, ih]
      constructor
      · intro z; exact ⟨by omega, z.2⟩
      · intro z
        rcases Nat.lt_or_eq_of_le (Nat.le_of_lt_succ z.1) with q | q
        · exact ⟨q, z.2⟩
        · subst q; exact absurd z.2 c
theorem bm_mk (hn : n ≤ 31) : bm (nI (mkN n P)) n P := fun i hi => by
  rw [b_nI _ i hi]
  exact mkN_bit hn P n i
theorem bm_mkN (h : bm x n P) (hn : n ≤ 31) : x = nI (mkN n P) := bm_uniq h (bm_mk hn)
end BM
/-! ===== Arrays.fill ===== -/
def ps_fil (σ : ps_S) (g i n : Nat) (v : Int32) : ps_S := fun f k j => if f = g ∧ k = i ∧ j < n then v else σ f k j
theorem ps_fil_o {σ : ps_S} {g i n f : Nat} {v : Int32} (h : f ≠ g) : ps_fil σ g i n v f = σ f := by
  funext k j
  unfold ps_fil
  rw [if_neg (fun q => h q.1)]
theorem ps_fil_s {σ : ps_S} {g i n j : Nat} {v : Int32} (h : j < n) : ps_fil σ g i n v g i j = v := by
  unfold ps_fil
  rw [if_pos ⟨rfl, rfl, h⟩]
theorem ps_fil_k {σ : ps_S} {g i n k : Nat} {v : Int32} (h : k ≠ i) : ps_fil σ g i n v g k = σ g k := by
  funext j
  unfold ps_fil
  rw [if_neg (fun q => h q.2.1)]
theorem pJ7_fill {d g n i : Nat} {v : Int32} {σ : ps_S} {Q : Option ps_V → ps_S → Prop} (hs : (ps_sh g).2 = .inr (0, n, none)) (hn : n ≠ 0) (hn2 : n < 2 ^ 31) (hq : Q none (ps_fil σ g i n v)) : ps_C mJ7_fill_53178 d [.inr (.inr (g, i)), .inl v] σ Q := by
  have key : ∀ r j, j + r = n → kJ7_fill_53178_5 d Q g i v (nI j) (nI n) (ps_fil σ g i j v) := by
    intro r
    induction r with
    | zero =>
      intro j hj
      obtain rfl : j = n := by omega
      exact bJ7_fill_53178_5 hs hn (fun _ => hq) (fun c => absurd (nI_le (Nat.le_refl _) hn2) c) (fun c => absurd (nI_le (Nat.le_refl _) hn2) c)
    | succ r ih =>
      intro j hj
      have hj0 : j < n := by omega
      refine bJ7_fill_53178_5 hs hn (fun c => absurd c (nI_ge hj0 hn2)) (fun _ => vp_in_nI hj0 hn2) (fun _ => ?_)
      have e : ps_up (ps_fil σ g i j v) g i (nI j).toNatClampNeg v = ps_fil σ g i (j + 1) v := by
        rw [nI_clamp (by omega)]
        funext f k l
        unfold ps_up ps_fil
        by_cases c : f = g ∧ k = i ∧ l = j
        · rw [if_pos c, if_pos ⟨c.1, c.2.1, by omega⟩]
        · rw [if_neg c]
          by_cases c2 : f = g ∧ k = i ∧ l < j
          · rw [if_pos c2, if_pos ⟨c2.1, c2.2.1, by omega⟩]
          · rw [if_neg c2, if_neg (fun q => ?_)]
            rcases Nat.lt_or_eq_of_le (Nat.le_of_lt_succ q.2.2) with z | z
            · exact c2 ⟨q.1, q.2.1, z⟩
            · exact c ⟨q.1, q.2.1, z⟩
      rw [e, nI_1]
      exact ih (j + 1) (by omega)
  have e0 : ps_fil σ g i 0 v = σ := by
    funext f k l
    unfold ps_fil
    rw [if_neg (fun q => absurd q.2.2 (Nat.not_lt_zero _))]
  have h0 := key n 0 (by omega)
  rw [e0] at h0
  exact eJ7_fill_53178 (bJ7_fill_53178_0 hs hn h0)

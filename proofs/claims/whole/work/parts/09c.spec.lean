/-! ===== words for what methods answer: truth as a number, sets as numbers, counts, sums; the class's (s..) and the reference's (m..) ===== -/
noncomputable def jbP (p : Prop) : Int32 := @ite _ p (Classical.propDecidable p) 1 0
noncomputable def jN (p : Prop) : Nat := @ite _ p (Classical.propDecidable p) 1 0
theorem jbP_t {p : Prop} (h : p) : jbP p = 1 := by unfold jbP; rw [if_pos h]
theorem jbP_f {p : Prop} (h : ¬ p) : jbP p = 0 := by unfold jbP; rw [if_neg h]
theorem jN_t {p : Prop} (h : p) : jN p = 1 := by unfold jN; rw [if_pos h]
theorem jN_f {p : Prop} (h : ¬ p) : jN p = 0 := by unfold jN; rw [if_neg h]
theorem ps_bitP (p : Prop) : jbP p = 0 ∨ jbP p = 1 := by
  by_cases h : p
  · exact Or.inr (jbP_t h)
  · exact Or.inl (jbP_f h)
/-- the set of those below n, as a number -/
noncomputable def mkN : Nat → (Nat → Prop) → Nat
  | 0, _ => 0
  | n + 1, P => mkN n P + jN (P n) * 2 ^ n
noncomputable def cntN : Nat → (Nat → Prop) → Nat
  | 0, _ => 0
  | n + 1, P => cntN n P + jN (P n)
def sumN : Nat → (Nat → Nat) → Nat
  | 0, _ => 0
  | n + 1, g => sumN n g + g n
def jSum : Nat → (Nat → Int32) → Int32
  | 0, _ => 0
  | n + 1, g => jSum n g + g n
def jOrs : Nat → (Nat → Int32) → Int32
  | 0, _ => 0
  | n + 1, g => jOrs n g ||| g n
/-- the first below n, from k on -/
noncomputable def fstN : Nat → Nat → (Nat → Prop) → Option Nat
  | 0, _, _ => none
  | n + 1, k, P => @ite _ (P k) (Classical.propDecidable _) (some k) (fstN n (k + 1) P)
-- the class's
def sAlk (σ : ps_S) (f a b : Nat) : Prop := ∀ p, p < 6 → jbUn (σ 5 (9 * f + a) p) (σ 5 (9 * f + b) p) = 0
def sLk (σ : ps_S) (f c : Nat) : Prop := ∃ p, p < 6 ∧ ¬ σ 5 (9 * f + c) p = -900009
noncomputable def sGl (σ : ps_S) (f : Nat) (s : Int32) (p : Nat) : Int32 := match fstN 9 0 (fun c => σ 9 f c = s ∧ ¬ σ 5 (9 * f + c) p = -900009) with
  | some c => σ 5 (9 * f + c) p
  | none => -900009
def sAh (σ : ps_S) (f : Nat) (s : Int32) : Int32 := jOrs 9 (fun a => if σ 9 f a = -900009 then 0 else if σ 9 f a = s then 0 else if jX0_tellsAheadOf σ f (nI a) s = 0 then 0 else 1 <<< (σ 9 f a &&& 31))
def sWa (σ : ps_S) (p m : Nat) : Int32 := jSum 6 (fun w => jSum 2 (fun fo => if σ 38 m w = -900009 then 0 else if σ 38 m w = nI fo then 0 else σ 40 p (2 * w + fo)))
-- the reference's
def mLk (σ : ps_S) (f c : Nat) : Prop := ∃ p, p < 6 ∧ ¬ σ 51 0 (54 * f + 6 * c + p) = -900009
def mAlk (σ : ps_S) (f a b : Nat) : Prop := ∀ p, p < 6 → jbUn (σ 51 0 (54 * f + 6 * a + p)) (σ 51 0 (54 * f + 6 * b + p)) = 0
noncomputable def mGl (σ : ps_S) (f : Nat) (s : Int32) (p : Nat) : Int32 := match fstN 9 0 (fun c => σ 53 0 c = s ∧ ¬ σ 51 0 (54 * f + 6 * c + p) = -900009) with
  | some c => σ 51 0 (54 * f + 6 * c + p)
  | none => -900009
def mSh (σ : ps_S) (a b : Nat) : Prop := ∃ p, p < 16 ∧ ¬ σ 63 0 (6 * p + a) = -900009 ∧ ¬ σ 63 0 (6 * p + b) = -900009
def mHab (σ : ps_S) (m : Nat) : Prop := ∀ w, w < 6 → σ 74 0 (6 * m + w) = -900009 ∨ σ 74 0 (6 * m + w) = 0 ∨ σ 74 0 (6 * m + w) = 1
def mWa (σ : ps_S) (p m : Nat) : Int32 := jSum 6 (fun w => if σ 74 0 (6 * m + w) = -900009 then 0 else if σ 74 0 (6 * m + w) = 0 then σ 75 0 (12 * p + 2 * w + 1) else σ 75 0 (12 * p + 2 * w))
def mMin : Nat → (Nat → Int32) → Int32 → Int32
  | 0, _, b => b
  | n + 1, g, b => if g n < mMin n g b then g n else mMin n g b
def mBest (σ : ps_S) : Int32 := mMin (σ 50 0 21).toNatClampNeg (fun m => σ 77 0 m) 100000000
-- loops: their counters
theorem lpN {N j : Nat} {p : Prop} (h : j < N) (hN : N < 2 ^ 31) : nI N ≤ nI j → p := fun c => absurd c (nI_ge h hN)
theorem lpX {N : Nat} {p : Prop} (hN : N < 2 ^ 31) : ¬ nI N ≤ nI N → p := fun c => absurd (nI_le (Nat.le_refl N) hN) c
theorem nx_or (a b : Nat) : nI a ||| nI b = nI (a ||| b) := by
  apply Int32.toBitVec_inj.1
  show BitVec.ofNat 32 a ||| BitVec.ofNat 32 b = BitVec.ofNat 32 (a ||| b)
  apply BitVec.eq_of_getLsbD_eq
  intro i hi
  simp [hi]
theorem nx_sh1 : ∀ j, j < 31 → (1 : Int32) <<< (nI j &&& 31) = nI (2 ^ j) := by decide +kernel
theorem mkN_lt (P : Nat → Prop) : ∀ n, mkN n P < 2 ^ n
  | 0 => Nat.one_pos
  | n + 1 => by
    have h := mkN_lt P n
    have h2 : jN (P n) ≤ 1 := by
      by_cases hp : P n
      · rw [jN_t hp]; omega
      · rw [jN_f hp]; omega
    show mkN n P + jN (P n) * 2 ^ n < 2 ^ (n + 1)
    have h3 : jN (P n) * 2 ^ n ≤ 1 * 2 ^ n := Nat.mul_le_mul_right _ h2
    rw [Nat.pow_succ]
    omega
theorem mk_or {a j : Nat} (hj : j < 31) (ha : a < 2 ^ j) : nI a ||| ((1 : Int32) <<< (nI j &&& 31)) = nI (a + 2 ^ j) := by
  rw [nx_sh1 j hj, nx_or, Nat.or_comm]
  have h := Nat.two_pow_add_eq_or_of_lt ha 1
  rw [Nat.mul_one] at h
  rw [← h, Nat.add_comm]
theorem mk_t {P : Nat → Prop} {j : Nat} (hj : j < 31) (h : P j) : nI (mkN j P) ||| ((1 : Int32) <<< (nI j &&& 31)) = nI (mkN (j + 1) P) := by
  rw [mk_or hj (mkN_lt P j)]
  show _ = nI (mkN j P + jN (P j) * 2 ^ j)
  rw [jN_t h, Nat.one_mul]
theorem mk_f {P : Nat → Prop} {j : Nat} (h : ¬ P j) : nI (mkN j P) = nI (mkN (j + 1) P) := by
  show _ = nI (mkN j P + jN (P j) * 2 ^ j)
  rw [jN_f h, Nat.zero_mul, Nat.add_zero]
theorem cn_t {P : Nat → Prop} {j : Nat} (h : P j) : nI (cntN j P) + 1 = nI (cntN (j + 1) P) := by
  show _ = nI (cntN j P + jN (P j))
  rw [jN_t h, nI_1]
theorem cn_f {P : Nat → Prop} {j : Nat} (h : ¬ P j) : nI (cntN j P) = nI (cntN (j + 1) P) := by
  show _ = nI (cntN j P + jN (P j))
  rw [jN_f h, Nat.add_zero]
theorem fst_t {P : Nat → Prop} {n k : Nat} (h : P k) : fstN (n + 1) k P = some k := by
  show @ite _ (P k) (Classical.propDecidable _) (some k) (fstN n (k + 1) P) = some k
  rw [if_pos h]
theorem fst_f {P : Nat → Prop} {n k : Nat} (h : ¬ P k) : fstN (n + 1) k P = fstN n (k + 1) P := by
  show @ite _ (P k) (Classical.propDecidable _) (some k) (fstN n (k + 1) P) = _
  rw [if_neg h]
theorem jbP_0 {p : Prop} : jbP p = 0 ↔ ¬ p := by
  by_cases h : p
  · rw [jbP_t h]; exact ⟨fun e => absurd e (by decide), fun e => absurd h e⟩
  · rw [jbP_f h]; exact ⟨fun _ => h, fun _ => rfl⟩
theorem jbUn_0 {x y : Int32} : jbUn x y = 0 ↔ (x = -900009 ∨ y = -900009 ∨ x = y) := by
  unfold jbUn
  by_cases h1 : x = -900009
  · simp [h1]
  · by_cases h2 : y = -900009
    · simp [h1, h2]
    · by_cases h3 : x = y
      · simp [h3]
      · simp [h1, h2, h3]
/-- the reference's place of a letter -/
theorem ix_let {f c p : Nat} (hf : f < 6) (hc : c < 9) (hp : p < 6) : ((54 * nI f) + (6 * nI c)) + nI p = nI (54 * f + 6 * c + p) := by
  have h1 : (54 : Int32) * nI f = nI (54 * f) := (Int32.ofNat_mul 54 f).symm
  have h2 : (6 : Int32) * nI c = nI (6 * c) := (Int32.ofNat_mul 6 c).symm
  rw [h1, h2, nI_add, nI_add]
theorem ix_mul (a b : Nat) : nI a * nI b = nI (a * b) := (Int32.ofNat_mul a b).symm

/-! ===== words for what methods answer: truth as a number, sets as numbers, counts, sums; the class's (s..) and the reference's (m..) ===== -/
noncomputable def jbP (p : Prop) : Int32 := @ite _ p (Classical.propDecidable p) 1 0
noncomputable def jN (p : Prop) : Nat := @ite _ p (Classical.propDecidable p) 1 0
theorem jbP_t {p : Prop} (h : p) : jbP p = 1 := by unfold jbP; rw [if_pos h]
theorem jbP_f {p : Prop} (h : ¬ p) : jbP p = 0 := by unfold jbP; rw [if_neg h]
theorem jN_t {p : Prop} (h : p) : jN p = 1 := by unfold jN; rw [if_pos h]
theorem jN_f {p : Prop} (h : ¬ p) : jN p = 0 := by unfold jN; rw [if_neg h]
theorem ps_bitP (p : Prop) : jbP p = 0 ∨ jbP p = 1 := by
  by_cases h : p
  · exact Or.inr (jbP_t h)
  · exact Or.inl (jbP_f h)
/-- the set of those below n, as a number -/
noncomputable def mkN : Nat → (Nat → Prop) → Nat
  | 0, _ => 0
  | n + 1, P => mkN n P + jN (P n) * 2 ^ n
noncomputable def cntN : Nat → (Nat → Prop) → Nat
  | 0, _ => 0
  | n + 1, P => cntN n P + jN (P n)
def sumN : Nat → (Nat → Nat) → Nat
  | 0, _ => 0
  | n + 1, g => sumN n g + g n
def jSum : Nat → (Nat → Int32) → Int32
  | 0, _ => 0
  | n + 1, g => jSum n g + g n
def jOrs : Nat → (Nat → Int32) → Int32
  | 0, _ => 0
  | n + 1, g => jOrs n g ||| g n
/-- the first below n, from k on -/
noncomputable def fstN : Nat → Nat → (Nat → Prop) → Option Nat
  | 0, _, _ => none
  | n + 1, k, P => @ite _ (P k) (Classical.propDecidable _) (some k) (fstN n (k + 1) P)
-- the class's
def sAlk (σ : ps_S) (f a b : Nat) : Prop := ∀ p, p < 6 → jbUn (σ 5 (9 * f + a) p) (σ 5 (9 * f + b) p) = 0
def sLk (σ : ps_S) (f c : Nat) : Prop := ∃ p, p < 6 ∧ ¬ σ 5 (9 * f + c) p = -900009
noncomputable def sGl (σ : ps_S) (f : Nat) (s : Int32) (p : Nat) : Int32 := match fstN 9 0 (fun c => σ 9 f c = s ∧ ¬ σ 5 (9 * f + c) p = -900009) with
  | some c => σ 5 (9 * f + c) p
  | none => -900009
def sAh (σ : ps_S) (f : Nat) (s : Int32) : Int32 := jOrs 9 (fun a => if σ 9 f a = -900009 then 0 else if σ 9 f a = s then 0 else if jX0_tellsAheadOf σ f (nI a) s = 0 then 0 else 1 <<< (σ 9 f a &&& 31))
def sWa (σ : ps_S) (p m : Nat) : Int32 := jSum 6 (fun w => jSum 2 (fun fo => if σ 38 m w = -900009 then 0 else if σ 38 m w = nI fo then 0 else σ 40 p (2 * w + fo)))
-- the reference's
def mLk (σ : ps_S) (f c : Nat) : Prop := ∃ p, p < 6 ∧ ¬ σ 51 0 (54 * f + 6 * c + p) = -900009
def mAlk (σ : ps_S) (f a b : Nat) : Prop := ∀ p, p < 6 → jbUn (σ 51 0 (54 * f + 6 * a + p)) (σ 51 0 (54 * f + 6 * b + p)) = 0
noncomputable def mGl (σ : ps_S) (f : Nat) (s : Int32) (p : Nat) : Int32 := match fstN 9 0 (fun c => σ 53 0 c = s ∧ ¬ σ 51 0 (54 * f + 6 * c + p) = -900009) with
  | some c => σ 51 0 (54 * f + 6 * c + p)
  | none => -900009
def mSh (σ : ps_S) (a b : Nat) : Prop := ∃ p, p < 16 ∧ ¬ σ 63 0 (6 * p + a) = -900009 ∧ ¬ σ 63 0 (6 * p + b) = -900009
def mHab (σ : ps_S) (m : Nat) : Prop := ∀ w, w < 6 → σ 74 0 (6 * m + w) = -900009 ∨ σ 74 0 (6 * m + w) = 0 ∨ σ 74 0 (6 * m + w) = 1
def mWa (σ : ps_S) (p m : Nat) : Int32 := jSum 6 (fun w => if σ 74 0 (6 * m + w) = -900009 then 0 else if σ 74 0 (6 * m + w) = 0 then σ 75 0 (12 * p + 2 * w + 1) else σ 75 0 (12 * p + 2 * w))
def mMin : Nat → (Nat → Int32) → Int32 → Int32
  | 0, _, b => b
  | n + 1, g, b => if g n < mMin n g b then g n else mMin n g b
def mBest (σ : ps_S) : Int32 := mMin (σ 50 0 21).toNatClampNeg (fun m => σ 77 0 m) 100000000

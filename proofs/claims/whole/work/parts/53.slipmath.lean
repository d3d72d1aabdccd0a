/-! ===== slips: the sums ===== -/
def sb (p s : Nat) : Prop := ∀ i, p.testBit i = true → s.testBit i = true
theorem sb_refl (s : Nat) : sb s s := fun _ h => h
theorem sb_trans {a b c : Nat} (h : sb a b) (h' : sb b c) : sb a c := fun i q => h' i (h i q)
theorem sb_le {p s : Nat} (h : sb p s) : p ≤ s := Nat.le_of_testBit h
theorem tb_ext {a b : Nat} (h : ∀ i, a.testBit i = true ↔ b.testBit i = true) : a = b := Nat.eq_of_testBit_eq (fun i => by
  have := h i
  cases h1 : a.testBit i <;> cases h2 : b.testBit i
  · rfl
  · rw [h1, h2] at this; exact absurd (this.mpr rfl) (fun q => Bool.noConfusion q)
  · rw [h1, h2] at this; exact absurd (this.mp rfl) (fun q => Bool.noConfusion q)
  · rfl)
theorem and_tb {a b i : Nat} : (a &&& b).testBit i = true ↔ (a.testBit i = true ∧ b.testBit i = true) := by rw [Nat.testBit_and, Bool.and_eq_true]
theorem lor_tb {a b i : Nat} : (a ||| b).testBit i = true ↔ (a.testBit i = true ∨ b.testBit i = true) := by rw [Nat.testBit_or, Bool.or_eq_true]
theorem xor_tb {p s i : Nat} (h : sb p s) : (s ^^^ p).testBit i = true ↔ (s.testBit i = true ∧ ¬ p.testBit i = true) := by
  rw [Nat.testBit_xor]
  have := h i
  cases h1 : s.testBit i <;> cases h2 : p.testBit i <;> simp_all
theorem sb_and (m s : Nat) : sb (m &&& s) s := fun i h => (and_tb.mp h).2
theorem sb_next : ∀ (n v s q : Nat), v < 2 ^ n → sb v s → sb q s → q < v → q ≤ (v - 1) &&& s
  | 0, v, s, q, h, _, _, h2 => by
    have : v < 1 := h
    omega
  | n + 1, v, s, q, h, h1, h3, h2 => by
    have hv : v / 2 < 2 ^ n := by rw [Nat.pow_succ] at h; omega
    have h1' : sb (v / 2) (s / 2) := fun i w => by
      rw [← Nat.testBit_succ] at w ⊢
      exact h1 _ w
    have h3' : sb (q / 2) (s / 2) := fun i w => by
      rw [← Nat.testBit_succ] at w ⊢
      exact h3 _ w
    have e1 : ((v - 1) &&& s) / 2 = ((v - 1) / 2) &&& (s / 2) := by
      refine tb_ext (fun i => ?_)
      rw [← Nat.testBit_succ, and_tb, and_tb, Nat.testBit_succ, Nat.testBit_succ]
    have e2 : ((v - 1) &&& s) % 2 = 1 ↔ ((v - 1) % 2 = 1 ∧ s % 2 = 1) := by
      have := and_tb (a := v - 1) (b := s) (i := 0)
      rw [Nat.testBit_zero, Nat.testBit_zero, Nat.testBit_zero, decide_eq_true_eq, decide_eq_true_eq, decide_eq_true_eq] at this
      exact this
    have hq0 : q % 2 = 1 → s % 2 = 1 := fun w => by
      have := h3 0
      rw [Nat.testBit_zero, Nat.testBit_zero, decide_eq_true_eq, decide_eq_true_eq] at this
      exact this w
    rcases Nat.mod_two_eq_zero_or_one v with z | z
    · have e3 : (v - 1) / 2 = v / 2 - 1 := by omega
      have ih := sb_next n (v / 2) (s / 2) (q / 2) hv h1' h3' (by omega)
      rw [e3] at e1
      by_cases w : q % 2 = 1
      · have := e2.mpr ⟨by omega, hq0 w⟩
        omega
      · omega
    · have e3 : (v - 1) / 2 = v / 2 := by omega
      have e4 : v / 2 &&& s / 2 = v / 2 := tb_ext (fun i => by rw [and_tb]; exact ⟨fun w => w.1, fun w => ⟨w, h1' i w⟩⟩)
      rw [e3, e4] at e1
      omega
/-- the least of a first value and of those of the parts of s that are not empty -/
noncomputable def mnB (s init : Nat) (F : Nat → Nat) : Nat → Nat
  | 0 => init
  | b + 1 => @ite _ (sb (b + 1) s) (Classical.propDecidable _) (min (mnB s init F b) (F (b + 1))) (mnB s init F b)
theorem mnB_t {s init b : Nat} {F : Nat → Nat} (h : sb (b + 1) s) : mnB s init F (b + 1) = min (mnB s init F b) (F (b + 1)) := by
  show @ite _ (sb (b + 1) s) (Classical.propDecidable _) _ _ = _
  rw [if_pos h]
theorem mnB_f {s init b : Nat} {F : Nat → Nat} (h : ¬ sb (b + 1) s) : mnB s init F (b + 1) = mnB s init F b := by
  show @ite _ (sb (b + 1) s) (Classical.propDecidable _) _ _ = _
  rw [if_neg h]
noncomputable def mnS (s init : Nat) (F : Nat → Nat) : Nat := mnB s init F 511
/-- m is the least of the first value and of those of the parts of s above v -/
def isM (s init : Nat) (F : Nat → Nat) (v m : Nat) : Prop := (m = init ∨ ∃ q, sb q s ∧ v < q ∧ m = F q) ∧ m ≤ init ∧ ∀ q, sb q s → v < q → m ≤ F q
theorem mnB_isM {s init : Nat} {F : Nat → Nat} : ∀ b, (mnB s init F b = init ∨ ∃ q, sb q s ∧ 0 < q ∧ q ≤ b ∧ mnB s init F b = F q) ∧ mnB s init F b ≤ init ∧ ∀ q, sb q s → 0 < q → q ≤ b → mnB s init F b ≤ F q
  | 0 => ⟨Or.inl rfl, Nat.le_refl _, fun q _ h1 h2 => by omega⟩
  | b + 1 => by
    obtain ⟨h1, h2, h3⟩ := mnB_isM (s := s) (init := init) (F := F) b
    by_cases c : sb (b + 1) s
    · rw [mnB_t c]
      refine ⟨?_, by omega, fun q a1 a2 a3 => ?_⟩
      · by_cases z : mnB s init F b ≤ F (b + 1)
        · rw [Nat.min_eq_left z]
          rcases h1 with h1 | ⟨q, q1, q2, q3, q4⟩
          · exact Or.inl h1
          · exact Or.inr ⟨q, q1, q2, by omega, q4⟩
        · rw [Nat.min_eq_right (by omega)]
          exact Or.inr ⟨b + 1, c, by omega, by omega, rfl⟩
      · rcases Nat.lt_or_eq_of_le a3 with z | z
        · have := h3 q a1 a2 (by omega)
          omega
        · rw [z]; omega
    · rw [mnB_f c]
      refine ⟨?_, h2, fun q a1 a2 a3 => ?_⟩
      · rcases h1 with h1 | ⟨q, q1, q2, q3, q4⟩
        · exact Or.inl h1
        · exact Or.inr ⟨q, q1, q2, by omega, q4⟩
      · rcases Nat.lt_or_eq_of_le a3 with z | z
        · exact h3 q a1 a2 (by omega)
        · rw [z] at a1; exact absurd a1 c
theorem mnS_isM {s init : Nat} {F : Nat → Nat} (hs : s < 512) : isM s init F 0 (mnS s init F) := by
  obtain ⟨h1, h2, h3⟩ := mnB_isM (s := s) (init := init) (F := F) 511
  refine ⟨?_, h2, fun q a1 a2 => h3 q a1 a2 (by have := sb_le a1; omega)⟩
  rcases h1 with h1 | ⟨q, q1, q2, q3, q4⟩
  · exact Or.inl h1
  · exact Or.inr ⟨q, q1, q2, q4⟩
theorem isM_uniq {s init m m' : Nat} {F : Nat → Nat} (h : isM s init F 0 m) (h' : isM s init F 0 m') : m = m' := by
  have le : ∀ {a b : Nat}, isM s init F 0 a → isM s init F 0 b → a ≤ b := by
    intro a b ha hb
    rcases hb.1 with z | ⟨q, q1, q2, q3⟩
    · rw [z]; exact ha.2.1
    · rw [q3]; exact ha.2.2 q q1 q2
  exact Nat.le_antisymm (le h h') (le h' h)
/-- one step of the walk over the parts -/
theorem isM_step {s init v m : Nat} {F : Nat → Nat} (hs : s < 512) (hv : sb v s) (h0 : 0 < v) (h : isM s init F v m) : isM s init F ((v - 1) &&& s) (min m (F v)) := by
  have hlt : (v - 1) &&& s < v := Nat.lt_of_le_of_lt Nat.and_le_left (by omega)
  refine ⟨?_, by have := h.2.1; omega, fun q q1 q2 => ?_⟩
  · by_cases z : m ≤ F v
    · rw [Nat.min_eq_left z]
      rcases h.1 with w | ⟨q, q1, q2, q3⟩
      · exact Or.inl w
      · exact Or.inr ⟨q, q1, by omega, q3⟩
    · rw [Nat.min_eq_right (by omega)]
      exact Or.inr ⟨v, hv, hlt, rfl⟩
  · rcases Nat.lt_or_ge v q with z | z
    · have := h.2.2 q q1 z
      omega
    · rcases Nat.lt_or_eq_of_le z with w | w
      · have := sb_next 9 v s q (Nat.lt_of_le_of_lt (sb_le hv) hs) hv q1 w
        omega
      · rw [w]; omega
/-- fewest slips that make a set k + 1 groups -/
noncomputable def oM (one : Nat → Nat) : Nat → Nat → Nat
  | 0, s => one s
  | k + 1, s => mnS s (oM one k s) (fun p => one p + oM one k (s ^^^ p))
section SM
variable {one : Nat → Nat}
theorem oM_isM {k s : Nat} (hs : s < 512) : isM s (oM one k s) (fun p => one p + oM one k (s ^^^ p)) 0 (oM one (k + 1) s) := mnS_isM hs
theorem oM_dec {k s : Nat} (hs : s < 512) : oM one (k + 1) s ≤ oM one k s := (oM_isM hs).2.1
theorem sb_xor {p s : Nat} (h : sb p s) : sb (s ^^^ p) s := fun i q => ((xor_tb h).mp q).1
theorem lt_of_sb {p s : Nat} (h : sb p s) (hs : s < 512) : p < 512 := Nat.lt_of_le_of_lt (sb_le h) hs
theorem xor_xor {p s : Nat} (h : sb p s) : s ^^^ (s ^^^ p) = p := tb_ext (fun i => by
  rw [xor_tb (sb_xor h), xor_tb h]
  exact ⟨fun q => Classical.not_not.mp (fun w => q.2 ⟨q.1, w⟩), fun q => ⟨h i q, fun w => w.2 q⟩⟩)
theorem oM_0 (h1 : one 0 = 0) : ∀ k, oM one k 0 = 0
  | 0 => h1
  | k + 1 => by
    have := oM_dec (one := one) (k := k) (s := 0) (by decide)
    rw [oM_0 h1 k] at this
    omega
theorem tb_pos {q i : Nat} (h : q.testBit i = true) : 0 < q := by
  rcases Nat.eq_zero_or_pos q with z | z
  · rw [z, Nat.zero_testBit] at h; cases h
  · exact z
/-- the group of any one copy may be taken first -/
theorem oM_low (h1 : one 0 = 0) : ∀ (k s b : Nat), s < 512 → s.testBit b = true → ∃ t, sb t s ∧ t.testBit b = true ∧ one t + oM one k (s ^^^ t) ≤ oM one (k + 1) s := by
  have all : ∀ s, s ^^^ s = 0 := fun s => Nat.xor_self s
  intro k
  induction k with
  | zero =>
    intro s b hs hb
    rcases (oM_isM (one := one) (k := 0) hs).1 with z | ⟨q, q1, q2, q3⟩
    · refine ⟨s, sb_refl s, hb, ?_⟩
      rw [z, all]
      show one s + one 0 ≤ one s
      omega
    · by_cases w : q.testBit b = true
      · exact ⟨q, q1, w, by rw [q3]; exact Nat.le_refl _⟩
      · refine ⟨s ^^^ q, sb_xor q1, (xor_tb q1).mpr ⟨hb, w⟩, ?_⟩
        rw [q3, xor_xor q1]
        show one (s ^^^ q) + one q ≤ one q + one (s ^^^ q)
        omega
  | succ k ih =>
    intro s b hs hb
    rcases (oM_isM (one := one) (k := k + 1) hs).1 with z | ⟨q, q1, q2, q3⟩
    · obtain ⟨t, t1, t2, t3⟩ := ih s b hs hb
      refine ⟨t, t1, t2, ?_⟩
      have := oM_dec (one := one) (k := k) (lt_of_sb (sb_xor t1) hs)
      rw [z]
      omega
    · by_cases w : q.testBit b = true
      · exact ⟨q, q1, w, by rw [q3]; exact Nat.le_refl _⟩
      · have hr : sb (s ^^^ q) s := sb_xor q1
        obtain ⟨t, t1, t2, t3⟩ := ih (s ^^^ q) b (lt_of_sb hr hs) ((xor_tb q1).mpr ⟨hb, w⟩)
        have ts : sb t s := sb_trans t1 hr
        have qst : sb q (s ^^^ t) := fun i qi => by
          rw [xor_tb ts]
          exact ⟨q1 i qi, fun ti => ((xor_tb q1).mp (t1 i ti)).2 qi⟩
        have e : (s ^^^ t) ^^^ q = (s ^^^ q) ^^^ t := tb_ext (fun i => by
          rw [xor_tb qst, xor_tb ts, xor_tb t1, xor_tb q1]
          exact ⟨fun a => ⟨⟨a.1.1, a.2⟩, a.1.2⟩, fun a => ⟨⟨a.1.1, a.2⟩, a.1.2⟩⟩)
        refine ⟨t, ts, t2, ?_⟩
        have h5 := (oM_isM (one := one) (k := k) (lt_of_sb (sb_xor ts) hs)).2.2 q qst q2
        have h5 : oM one (k + 1) (s ^^^ t) ≤ one q + oM one k ((s ^^^ t) ^^^ q) := h5
        rw [e] at h5
        have q3 : oM one (k + 1 + 1) s = one q + oM one (k + 1) (s ^^^ q) := q3
        rw [q3]
        omega
/-- copies that were not looked at count for nothing -/
theorem oM_and {a : Nat} (ha : ∀ s, s < 512 → one s = one (s &&& a)) (h1 : one 0 = 0) : ∀ (k s : Nat), s < 512 → oM one k s = oM one k (s &&& a)
  | 0, s, hs => ha s hs
  | k + 1, s, hs => by
    have hsa : sb (s &&& a) s := fun i h => (and_tb.mp h).1
    have hsl := lt_of_sb hsa hs
    have ih := oM_and ha h1 k
    apply Nat.le_antisymm
    · rcases (oM_isM (one := one) (k := k) hsl).1 with z | ⟨q, q1, q2, q3⟩
      · rw [z, ← ih s hs]
        exact oM_dec hs
      · have h5 := (oM_isM (one := one) (k := k) hs).2.2 q (sb_trans q1 hsa) q2
        have e : (s ^^^ q) &&& a = (s &&& a) ^^^ q := tb_ext (fun i => by
          rw [and_tb, xor_tb (sb_trans q1 hsa), xor_tb q1, and_tb]
          exact ⟨fun w => ⟨⟨w.1.1, w.2⟩, w.1.2⟩, fun w => ⟨⟨w.1.1, w.2⟩, w.1.2⟩⟩)
        have h5 : oM one (k + 1) s ≤ one q + oM one k (s ^^^ q) := h5
        rw [ih _ (lt_of_sb (sb_xor (sb_trans q1 hsa)) hs), e] at h5
        rw [q3]
        exact h5
    · rcases (oM_isM (one := one) (k := k) hs).1 with z | ⟨q, q1, q2, q3⟩
      · rw [z, ih s hs]
        exact oM_dec hsl
      · have q3 : oM one (k + 1) s = one q + oM one k (s ^^^ q) := q3
        have hql := lt_of_sb q1 hs
        have e : (s ^^^ q) &&& a = (s &&& a) ^^^ (q &&& a) := tb_ext (fun i => by
          have hh : sb (q &&& a) (s &&& a) := fun i w => and_tb.mpr ⟨q1 i (and_tb.mp w).1, (and_tb.mp w).2⟩
          rw [and_tb, xor_tb q1, xor_tb hh, and_tb, and_tb]
          exact ⟨fun w => ⟨⟨w.1.1, w.2⟩, fun y => w.1.2 y.1⟩, fun w => ⟨⟨w.1.1, fun y => w.2 ⟨y, w.1.2⟩⟩, w.1.2⟩⟩)
        rw [q3, ha q hql, ih _ (lt_of_sb (sb_xor q1) hs), e]
        have hh : sb (q &&& a) (s &&& a) := fun i w => and_tb.mpr ⟨q1 i (and_tb.mp w).1, (and_tb.mp w).2⟩
        rcases Nat.eq_zero_or_pos (q &&& a) with w | w
        · rw [w, h1, Nat.zero_add, Nat.xor_zero]
          exact oM_dec hsl
        · exact (oM_isM (one := one) (k := k) hsl).2.2 _ hh w
end SM
/-- the most of n numbers -/
def mxN : Nat → (Nat → Nat) → Nat
  | 0, _ => 0
  | n + 1, g => max (mxN n g) (g n)
theorem mx_le_sum (g : Nat → Nat) : ∀ n, mxN n g ≤ sumN n g
  | 0 => Nat.le_refl _
  | n + 1 => by
    have := mx_le_sum g n
    show max (mxN n g) (g n) ≤ sumN n g + g n
    omega
theorem sum_le {g : Nat → Nat} {B : Nat} : ∀ {n : Nat}, (∀ i, i < n → g i ≤ B) → sumN n g ≤ n * B
  | 0, _ => by show 0 ≤ 0 * B; omega
  | n + 1, h => by
    have h1 := sum_le (fun i (hi : i < n) => h i (by omega))
    have h2 := h n (by omega)
    show sumN n g + g n ≤ (n + 1) * B
    rw [Nat.succ_mul]
    omega
theorem sum_0 {g : Nat → Nat} : ∀ {n : Nat}, (∀ i, i < n → g i = 0) → sumN n g = 0
  | 0, _ => rfl
  | n + 1, h => by
    show sumN n g + g n = 0
    rw [sum_0 (fun i hi => h i (by omega)), h n (by omega)]
theorem sum_mx {g : Nat → Nat} : ∀ {n : Nat}, (∀ i j, i < n → j < n → 0 < g i → 0 < g j → i = j) → sumN n g = mxN n g
  | 0, _ => rfl
  | n + 1, h => by
    have ih := sum_mx (g := g) (n := n) (fun i j a b => h i j (by omega) (by omega))
    show sumN n g + g n = max (mxN n g) (g n)
    rcases Nat.eq_zero_or_pos (g n) with z | z
    · rw [z, ih]; omega
    · have : sumN n g = 0 := sum_0 (fun i hi => by
        rcases Nat.eq_zero_or_pos (g i) with w | w
        · exact w
        · have := h i n (by omega) (by omega) w z
          omega)
      rw [this] at ih ⊢
      omega
theorem cnt_pos {P : Nat → Prop} : ∀ {n : Nat}, 0 < cntN n P → ∃ i, i < n ∧ P i
  | n, h => by
    obtain ⟨c, h1, h2, _⟩ := cnt_inv h
    exact ⟨c, h1, h2⟩
/-- how many copies of a set have this letter at this place; the slips at a place; of a set -/
noncomputable def nL (τ : ps_S) (f p s L : Nat) : Nat := cntN 9 (fun c => s.testBit c = true ∧ τ 51 0 (54 * f + 6 * c + p) = nI L)
noncomputable def slP (τ : ps_S) (f s p : Nat) : Nat := sumN 10 (nL τ f p s) - mxN 10 (nL τ f p s)
noncomputable def on1 (τ : ps_S) (f s : Nat) : Nat := sumN 6 (slP τ f s)
theorem nL_le (τ : ps_S) (f p s L : Nat) : nL τ f p s L ≤ 9 := cnt_le _ 9
theorem slP_le (τ : ps_S) (f s p : Nat) : slP τ f s p ≤ 90 := by
  have := sum_le (n := 10) (fun L (_ : L < 10) => nL_le τ f p s L)
  unfold slP
  omega
theorem on1_le (τ : ps_S) (f s : Nat) : on1 τ f s ≤ 540 := sum_le (n := 6) (fun p _ => slP_le τ f s p)
/-- copies that are all alike have no slips -/
theorem on1_alike {τ : ps_S} {f s : Nat} (h : ∀ c c', c < 9 → c' < 9 → s.testBit c = true → s.testBit c' = true → mAlk τ f c c') : on1 τ f s = 0 := by
  refine sum_0 (fun p hp => ?_)
  unfold slP
  rw [sum_mx (fun i j hi hj a b => ?_)]
  · omega
  · obtain ⟨c, c1, c2, c3⟩ := cnt_pos a
    obtain ⟨c', d1, d2, d3⟩ := cnt_pos b
    have := h c c' c1 d1 c2 d2 p hp
    rw [c3, d3, jbUn_0] at this
    rcases this with z | z | z
    · exact absurd z (nI_none (by omega))
    · exact absurd z (nI_none (by omega))
    · exact (nI_eq (by omega) (by omega)).mp z
theorem on1_0 (τ : ps_S) (f : Nat) : on1 τ f 0 = 0 := on1_alike (fun c c' _ _ h => by rw [Nat.zero_testBit] at h; cases h)
theorem mAlk_refl (τ : ps_S) (f c : Nat) : mAlk τ f c c := fun p _ => jbUn_0.mpr (Or.inr (Or.inr rfl))
theorem on1_one (τ : ps_S) (f b : Nat) : on1 τ f (2 ^ b) = 0 := on1_alike (fun c c' _ _ h h' => by
  rw [Nat.testBit_two_pow, decide_eq_true_eq] at h h'
  rw [← h, ← h']
  exact mAlk_refl τ f b)
/-- those looked at, as a set -/
noncomputable def lkN (τ : ps_S) (f : Nat) : Nat := mkN 9 (mLk τ f)
theorem lkN_tb {τ : ps_S} {f i : Nat} : (lkN τ f).testBit i = true ↔ (i < 9 ∧ mLk τ f i) := mkN_bit (n := 9) (by decide) _ 9 i
theorem lkN_lt (τ : ps_S) (f : Nat) : lkN τ f < 512 := mkN_lt _ 9
theorem on1_and (τ : ps_S) (f s : Nat) : on1 τ f s = on1 τ f (s &&& lkN τ f) := by
  refine sum_congr (fun p hp => ?_)
  have e : ∀ L, L < 10 → nL τ f p s L = nL τ f p (s &&& lkN τ f) L := fun L hL => cnt_congr (fun c hc => by
    rw [and_tb, lkN_tb]
    refine ⟨fun q => ⟨⟨q.1, hc, p, hp, fun w => ?_⟩, q.2⟩, fun q => ⟨q.1.1, q.2⟩⟩
    rw [q.2] at w
    exact nI_none (by omega) w)
  have mx : ∀ n, n ≤ 10 → mxN n (nL τ f p s) = mxN n (nL τ f p (s &&& lkN τ f)) := by
    intro n
    induction n with
    | zero => intro _; rfl
    | succ n ih =>
      intro hn
      show max _ _ = max _ _
      rw [ih (by omega), e n (by omega)]
  unfold slP
  rw [sum_congr e, mx 10 (by decide)]
theorem oM_le (τ : ps_S) (f : Nat) : ∀ k s, s < 512 → oM (on1 τ f) k s ≤ 540
  | 0, s, _ => on1_le τ f s
  | k + 1, s, h => Nat.le_trans (oM_dec h) (oM_le τ f k s h)
/-- the groups found are of copies alike -/
theorem fl_alike {lk : Nat → Prop} {alk : Nat → Nat → Prop} {m : Nat} : ∀ (r : Nat) (A : Nat → Nat) (u : Nat) (A' : Nat → Nat), r ≤ 9 → (∀ c' c, c' < c → c < 9 - r → lk c' → lk c → A c' = A c → alk c' c) → fl lk alk m r A u = some A' → ∀ c' c, c' < c → c < 9 → lk c' → lk c → A' c' = A' c → alk c' c
  | 0, A, u, A', _, hA, h, c', c, h1, h2, h3, h4, h5 => by cases h; exact hA c' c h1 (by omega) h3 h4 h5
  | r + 1, A, u, A', hr, hA, h, c', c, h1, h2, h3, h4, h5 => by
    by_cases hl : lk (8 - r)
    · rw [fl_yes hl] at h
      obtain ⟨g, hg0, hg⟩ := List.exists_of_findSome?_eq_some h
      by_cases ho : okg lk alk A (8 - r) g
      · rw [flg_ok ho] at hg
        refine fl_alike r _ _ A' (by omega) (fun a b a1 a2 a3 a4 a5 => ?_) hg c' c h1 h2 h3 h4 h5
        unfold upA at a5
        rw [if_neg (show ¬ a = 8 - r by omega)] at a5
        by_cases z : b = 8 - r
        · rw [if_pos z] at a5
          rw [z]
          exact ho a (by omega) a3 a5
        · rw [if_neg z] at a5
          exact hA a b a1 (by omega) a3 a4 a5
      · rw [flg_no ho] at hg; cases hg
    · rw [fl_no hl] at h
      refine fl_alike r A u A' (by omega) (fun a b a1 a2 a3 a4 a5 => ?_) h c' c h1 h2 h3 h4 h5
      rcases Nat.lt_or_eq_of_le (show b ≤ 8 - r by omega) with z | z
      · exact hA a b a1 (by omega) a3 a4 a5
      · exact absurd (z ▸ a4) hl
theorem grp_alike {τ : ps_S} {f c c' : Nat} (hc : c < 9) (hc' : c' < 9) (h1 : mLk τ f c) (h2 : mLk τ f c') (e : grp τ f c = grp τ f c') : mAlk τ f c c' := by
  have key := fl_alike 9 A0 0 _ (by decide) (fun a b _ h => absurd h (by omega)) (grp_eq τ f)
  rcases Nat.lt_trichotomy c c' with z | z | z
  · exact key c c' z hc' h1 h2 e
  · rw [z]; exact mAlk_refl τ f c'
  · rw [mAlk_sym]; exact key c' c z hc h2 h1 e.symm
/-- as many groups as there are states: no slips -/
theorem oM_states (τ : ps_S) (f : Nat) {n : Nat} (h1 : 1 ≤ n) (h : nst τ f ≤ n) : oM (on1 τ f) (n - 1) 511 = 0 := by
  -- copies of the first states
  have key : ∀ j, oM (on1 τ f) j (mkN 9 (fun c => mLk τ f c ∧ grp τ f c < j + 1)) = 0 := by
    intro j
    have tb : ∀ (j : Nat) {i : Nat}, (mkN 9 (fun c => mLk τ f c ∧ grp τ f c < j + 1)).testBit i = true ↔ (i < 9 ∧ mLk τ f i ∧ grp τ f i < j + 1) := fun j i => mkN_bit (n := 9) (by decide) _ 9 i
    induction j with
    | zero =>
      refine on1_alike (fun c c' hc hc' a b => ?_)
      rw [tb 0] at a b
      exact grp_alike hc hc' a.2.1 b.2.1 (by omega)
    | succ j ih =>
      have hlt : mkN 9 (fun c => mLk τ f c ∧ grp τ f c < j + 1 + 1) < 512 := mkN_lt _ 9
      have tbg : ∀ {i : Nat}, (mkN 9 (fun c => mLk τ f c ∧ grp τ f c = j + 1)).testBit i = true ↔ (i < 9 ∧ mLk τ f i ∧ grp τ f i = j + 1) := fun {i} => mkN_bit (n := 9) (by decide) _ 9 i
      have hsb : sb (mkN 9 (fun c => mLk τ f c ∧ grp τ f c = j + 1)) (mkN 9 (fun c => mLk τ f c ∧ grp τ f c < j + 1 + 1)) := fun i q => by
        rw [tbg] at q
        rw [tb (j + 1)]
        exact ⟨q.1, q.2.1, by omega⟩
      have e : mkN 9 (fun c => mLk τ f c ∧ grp τ f c < j + 1 + 1) ^^^ mkN 9 (fun c => mLk τ f c ∧ grp τ f c = j + 1) = mkN 9 (fun c => mLk τ f c ∧ grp τ f c < j + 1) := tb_ext (fun i => by
        rw [xor_tb hsb, tb (j + 1), tbg, tb j]
        constructor
        · intro q
          refine ⟨q.1.1, q.1.2.1, ?_⟩
          have : ¬ grp τ f i = j + 1 := fun w => q.2 ⟨q.1.1, q.1.2.1, w⟩
          have := q.1.2.2
          omega
        · intro q
          exact ⟨⟨q.1, q.2.1, by omega⟩, fun w => by omega⟩)
      have h0 : on1 τ f (mkN 9 (fun c => mLk τ f c ∧ grp τ f c = j + 1)) = 0 := on1_alike (fun c c' hc hc' a b => by
        rw [tbg] at a b
        exact grp_alike hc hc' a.2.1 b.2.1 (by omega))
      rcases Nat.eq_zero_or_pos (mkN 9 (fun c => mLk τ f c ∧ grp τ f c = j + 1)) with z | z
      · rw [z, Nat.xor_zero] at e
        rw [← e] at ih
        have := oM_dec (one := on1 τ f) (k := j) hlt
        omega
      · have h5 := (oM_isM (one := on1 τ f) (k := j) hlt).2.2 _ hsb z
        have h5 : oM (on1 τ f) (j + 1) (mkN 9 (fun c => mLk τ f c ∧ grp τ f c < j + 1 + 1)) ≤ on1 τ f (mkN 9 (fun c => mLk τ f c ∧ grp τ f c = j + 1)) + oM (on1 τ f) j (mkN 9 (fun c => mLk τ f c ∧ grp τ f c < j + 1 + 1) ^^^ mkN 9 (fun c => mLk τ f c ∧ grp τ f c = j + 1)) := h5
        rw [e, ih, h0] at h5
        omega
  rw [oM_and (fun s _ => on1_and τ f s) (on1_0 τ f) _ _ (by decide)]
  have e : 511 &&& lkN τ f = mkN 9 (fun c => mLk τ f c ∧ grp τ f c < n - 1 + 1) := tb_ext (fun i => by
    rw [and_tb, lkN_tb, mkN_bit (n := 9) (by decide) _ 9 i]
    constructor
    · intro q
      refine ⟨q.2.1, q.2.2, ?_⟩
      have := grp_lt τ q.2.1 q.2.2
      omega
    · intro q
      refine ⟨?_, q.1, q.2.1⟩
      rw [show 511 = 2 ^ 9 - 1 from rfl, Nat.testBit_two_pow_sub_one, decide_eq_true q.1])
  rw [e]
  exact key (n - 1)

/-! ===== plans: sums over assignments of days, by formes and by days ===== -/
/-- the sum over all days below D of the formes of s from 6 - r on -/
def SA (s D : Nat) (G : (Nat → Nat) → Nat) : Nat → (Nat → Nat) → Nat
  | 0, A => G A
  | r + 1, A => if s.testBit (5 - r) = true then sumN D (fun d => SA s D G r (upA A (5 - r) d)) else SA s D G r A
/-- the sum over all parts of s with formes from 6 - r on -/
def SS (s : Nat) (H : Nat → Nat) : Nat → Nat → Nat
  | 0, m => H m
  | r + 1, m => SS s H r m + if s.testBit (5 - r) = true then SS s H r (m ||| 2 ^ (5 - r)) else 0
theorem SA_t {s D r : Nat} {G : (Nat → Nat) → Nat} {A : Nat → Nat} (h : s.testBit (5 - r) = true) : SA s D G (r + 1) A = sumN D (fun d => SA s D G r (upA A (5 - r) d)) := by
  show (if s.testBit (5 - r) = true then _ else _) = _
  rw [if_pos h]
theorem SA_f {s D r : Nat} {G : (Nat → Nat) → Nat} {A : Nat → Nat} (h : ¬ s.testBit (5 - r) = true) : SA s D G (r + 1) A = SA s D G r A := by
  show (if s.testBit (5 - r) = true then _ else _) = _
  rw [if_neg h]
theorem SS_t {s r m : Nat} {H : Nat → Nat} (h : s.testBit (5 - r) = true) : SS s H (r + 1) m = SS s H r m + SS s H r (m ||| 2 ^ (5 - r)) := by
  show SS s H r m + (if s.testBit (5 - r) = true then _ else _) = _
  rw [if_pos h]
theorem SS_f {s r m : Nat} {H : Nat → Nat} (h : ¬ s.testBit (5 - r) = true) : SS s H (r + 1) m = SS s H r m := by
  show SS s H r m + (if s.testBit (5 - r) = true then _ else _) = _
  rw [if_neg h, Nat.add_zero]
/-- m has only formes of s from k on, beyond those of m0 -/
def inS' (s k m0 m : Nat) : Prop := ∀ i, m.testBit i = true ↔ (m0.testBit i = true ∨ (k ≤ i ∧ i < 6 ∧ s.testBit i = true ∧ m.testBit i = true))
theorem SS_congr {s : Nat} {H H' : Nat → Nat} : ∀ (r m : Nat), r ≤ 6 → (∀ m', inS' s (6 - r) m m' → H m' = H' m') → SS s H r m = SS s H' r m
  | 0, m, _, h => h m (fun i => ⟨Or.inl, fun q => q.elim id (fun z => absurd z.2.1 (by omega))⟩)
  | r + 1, m, hr, h => by
    have h1 : SS s H r m = SS s H' r m := SS_congr r m (by omega) (fun m' q => h m' (fun i => ⟨fun w => ((q i).mp w).elim Or.inl (fun z => Or.inr ⟨by omega, z.2⟩), fun w => w.elim (fun z => (q i).mpr (Or.inl z)) (fun z => z.2.2.2)⟩))
    by_cases c : s.testBit (5 - r) = true
    · rw [SS_t c, SS_t c, h1]
      congr 1
      refine SS_congr r _ (by omega) (fun m' q => h m' (fun i => ⟨fun w => ?_, fun w => w.elim (fun z => (q i).mpr (Or.inl (or_tb.mpr (Or.inl z)))) (fun z => z.2.2.2)⟩))
      rcases (q i).mp w with z | z
      · rcases or_tb.mp z with y | y
        · exact Or.inl y
        · exact Or.inr ⟨by omega, by omega, by rw [y]; exact c, w⟩
      · exact Or.inr ⟨by omega, z.2⟩
    · rw [SS_f c, SS_f c, h1]
theorem SS_shift {s k : Nat} {H : Nat → Nat} : ∀ (r m : Nat), SS s H r (m ||| k) = SS s (fun m' => H (m' ||| k)) r m
  | 0, m => rfl
  | r + 1, m => by
    by_cases c : s.testBit (5 - r) = true
    · rw [SS_t c, SS_t c, SS_shift r m, ← SS_shift r (m ||| 2 ^ (5 - r))]
      rw [Nat.or_assoc, Nat.or_comm k, ← Nat.or_assoc]
    · rw [SS_f c, SS_f c, SS_shift r m]
theorem sum_add {g h : Nat → Nat} : ∀ n, sumN n (fun i => g i + h i) = sumN n g + sumN n h
  | 0 => rfl
  | n + 1 => by
    show sumN n (fun i => g i + h i) + (g n + h n) = (sumN n g + g n) + (sumN n h + h n)
    rw [sum_add n]
    omega
theorem SS_sum {s D : Nat} {H : Nat → Nat → Nat} : ∀ (r m : Nat), SS s (fun m' => sumN D (fun d => H d m')) r m = sumN D (fun d => SS s (H d) r m)
  | 0, m => rfl
  | r + 1, m => by
    by_cases c : s.testBit (5 - r) = true
    · rw [SS_t c, SS_sum r m, SS_sum r _, ← sum_add]
      exact sum_congr (fun d _ => (SS_t c).symm)
    · rw [SS_f c, SS_sum r m]
      exact sum_congr (fun d _ => (SS_f c).symm)
/-- those of m lie on day D -/
def put (A : Nat → Nat) (m D : Nat) : Nat → Nat := fun i => if m.testBit i = true then D else A i
theorem SA_set {s s' D : Nat} {G : (Nat → Nat) → Nat} : ∀ (r : Nat) (A : Nat → Nat), r ≤ 6 → (∀ i, 6 - r ≤ i → i < 6 → (s.testBit i = true ↔ s'.testBit i = true)) → SA s D G r A = SA s' D G r A
  | 0, _, _, _ => rfl
  | r + 1, A, hr, h => by
    have hh := h (5 - r) (by omega) (by omega)
    by_cases c : s.testBit (5 - r) = true
    · rw [SA_t c, SA_t (hh.mp c)]
      exact sum_congr (fun d _ => SA_set r _ (by omega) (fun i a b => h i (by omega) b))
    · rw [SA_f c, SA_f (fun q => c (hh.mpr q))]
      exact SA_set r A (by omega) (fun i a b => h i (by omega) b)
/-- by the formes of the last day -/
theorem SA_split {s D : Nat} {G : (Nat → Nat) → Nat} : ∀ (r : Nat) (A : Nat → Nat), r ≤ 6 → SA s (D + 1) G r A = SS s (fun m => SA (s ^^^ m) D G r (put A m D)) r 0
  | 0, A, _ => by
    show G A = G (put A 0 D)
    congr 1
    funext i
    unfold put
    rw [Nat.zero_testBit, if_neg (fun q => Bool.noConfusion q)]
  | r + 1, A, hr => by
    -- a part with formes behind 5 - r alone
    have pt : ∀ m, inS' s (6 - r) 0 m → sb m s ∧ ∀ i, m.testBit i = true → 5 - r < i ∧ i < 6 := fun m q => by
      have h2 : ∀ i, m.testBit i = true → (6 - r ≤ i ∧ i < 6 ∧ s.testBit i = true ∧ m.testBit i = true) := fun i w => by
        rcases (q i).mp w with z | z
        · rw [Nat.zero_testBit] at z; cases z
        · exact z
      exact ⟨fun i w => (h2 i w).2.2.1, fun i w => ⟨by have := (h2 i w).1; omega, (h2 i w).2.1⟩⟩
    by_cases c : s.testBit (5 - r) = true
    · rw [SA_t c, SS_t c]
      show sumN D (fun d => SA s (D + 1) G r (upA A (5 - r) d)) + SA s (D + 1) G r (upA A (5 - r) D) = _
      congr 1
      · rw [sum_congr (fun d _ => SA_split r (upA A (5 - r) d) (by omega)), ← SS_sum]
        refine SS_congr r 0 (by omega) (fun m q => ?_)
        obtain ⟨q1, q2⟩ := pt m q
        have c' : (s ^^^ m).testBit (5 - r) = true := (xor_tb q1).mpr ⟨c, fun w => by have := (q2 _ w).1; omega⟩
        rw [SA_t c']
        refine sum_congr (fun d _ => ?_)
        congr 1
        funext i
        unfold put upA
        dsimp only
        by_cases z : m.testBit i = true
        · have := (q2 i z).1
          rw [if_pos z, if_neg (by omega), if_pos z]
        · rw [if_neg z]
          by_cases w : i = 5 - r
          · rw [if_pos w, if_pos w]
          · rw [if_neg w, if_neg w, if_neg z]
      · rw [SA_split r (upA A (5 - r) D) (by omega)]
        have e0 : (0 ||| 2 ^ (5 - r)) = 2 ^ (5 - r) := Nat.zero_or _
        rw [SS_shift]
        refine SS_congr r 0 (by omega) (fun m q => ?_)
        obtain ⟨q1, q2⟩ := pt m q
        have q1' : sb (m ||| 2 ^ (5 - r)) s := fun i w => (or_tb.mp w).elim (q1 i) (fun z => by rw [z]; exact c)
        have c' : ¬ (s ^^^ (m ||| 2 ^ (5 - r))).testBit (5 - r) = true := fun w => ((xor_tb q1').mp w).2 (or_tb.mpr (Or.inr rfl))
        show _ = SA (s ^^^ (m ||| 2 ^ (5 - r))) D G (r + 1) (put A (m ||| 2 ^ (5 - r)) D)
        rw [SA_f c', SA_set (s := s ^^^ (m ||| 2 ^ (5 - r))) (s' := s ^^^ m) r _ (by omega) (fun i a b => ?_)]
        · congr 1
          funext i
          unfold put upA
          by_cases z : m.testBit i = true
          · rw [if_pos z, if_pos (or_tb.mpr (Or.inl z))]
          · rw [if_neg z]
            by_cases w : i = 5 - r
            · rw [if_pos w, if_pos (or_tb.mpr (Or.inr w))]
            · rw [if_neg w, if_neg (fun y => (or_tb.mp y).elim z w)]
        · rw [xor_tb q1', xor_tb q1, or_tb]
          exact ⟨fun w => ⟨w.1, fun y => w.2 (Or.inl y)⟩, fun w => ⟨w.1, fun y => y.elim w.2 (fun z => by omega)⟩⟩
    · rw [SA_f c, SS_f c, SA_split r A (by omega)]
      refine SS_congr r 0 (by omega) (fun m q => ?_)
      obtain ⟨q1, q2⟩ := pt m q
      exact (SA_f (fun w => c ((xor_tb q1).mp w).1)).symm
/-- assignments that the sum comes to -/
def rch (s D r : Nat) (A A' : Nat → Nat) : Prop := (∀ i, ¬ (6 - r ≤ i ∧ i < 6 ∧ s.testBit i = true) → A' i = A i) ∧ ∀ i, 6 - r ≤ i → i < 6 → s.testBit i = true → A' i < D
theorem SA_congr {s D : Nat} {G G' : (Nat → Nat) → Nat} : ∀ (r : Nat) (A B : Nat → Nat), r ≤ 6 → (∀ A' B', rch s D r A A' → rch s D r B B' → (∀ i, 6 - r ≤ i → i < 6 → s.testBit i = true → A' i = B' i) → G A' = G' B') → SA s D G r A = SA s D G' r B
  | 0, A, B, _, h => h A B ⟨fun _ _ => rfl, fun i a b _ => by omega⟩ ⟨fun _ _ => rfl, fun i a b _ => by omega⟩ (fun i a b _ => by omega)
  | r + 1, A, B, hr, h => by
    by_cases c : s.testBit (5 - r) = true
    · rw [SA_t c, SA_t c]
      refine sum_congr (fun d hd => SA_congr r _ _ (by omega) (fun A' B' a b e => h A' B' ?_ ?_ (fun i i1 i2 i3 => ?_)))
      · refine ⟨fun i w => ?_, fun i i1 i2 i3 => ?_⟩
        · have hi : i ≠ 5 - r := fun z => w (by rw [z]; exact ⟨by omega, by omega, c⟩)
          rw [a.1 i (fun z => w ⟨by omega, z.2⟩)]
          unfold upA
          rw [if_neg hi]
        · by_cases z : i = 5 - r
          · rw [a.1 i (fun y => by omega), z]
            unfold upA
            rw [if_pos rfl]
            exact hd
          · exact a.2 i (by omega) i2 i3
      · refine ⟨fun i w => ?_, fun i i1 i2 i3 => ?_⟩
        · have hi : i ≠ 5 - r := fun z => w (by rw [z]; exact ⟨by omega, by omega, c⟩)
          rw [b.1 i (fun z => w ⟨by omega, z.2⟩)]
          unfold upA
          rw [if_neg hi]
        · by_cases z : i = 5 - r
          · rw [b.1 i (fun y => by omega), z]
            unfold upA
            rw [if_pos rfl]
            exact hd
          · exact b.2 i (by omega) i2 i3
      · by_cases z : i = 5 - r
        · rw [a.1 i (fun y => by omega), b.1 i (fun y => by omega), z]
          unfold upA
          rw [if_pos rfl, if_pos rfl]
        · exact e i (by omega) i2 i3
    · rw [SA_f c, SA_f c]
      refine SA_congr r A B (by omega) (fun A' B' a b e => h A' B' ⟨fun i w => a.1 i (fun z => w ⟨by omega, z.2⟩), fun i i1 i2 i3 => ?_⟩ ⟨fun i w => b.1 i (fun z => w ⟨by omega, z.2⟩), fun i i1 i2 i3 => ?_⟩ (fun i i1 i2 i3 => ?_))
      · by_cases z : i = 5 - r
        · rw [z] at i3; exact absurd i3 c
        · exact a.2 i (by omega) i2 i3
      · by_cases z : i = 5 - r
        · rw [z] at i3; exact absurd i3 c
        · exact b.2 i (by omega) i2 i3
      · by_cases z : i = 5 - r
        · rw [z] at i3; exact absurd i3 c
        · exact e i (by omega) i2 i3
theorem sum_mul {k : Nat} {g : Nat → Nat} : ∀ n, sumN n (fun i => k * g i) = k * sumN n g
  | 0 => (Nat.mul_zero _).symm
  | n + 1 => by
    show sumN n (fun i => k * g i) + k * g n = k * (sumN n g + g n)
    rw [sum_mul n, Nat.mul_add]
theorem SA_mul {s D k : Nat} {G : (Nat → Nat) → Nat} : ∀ (r : Nat) (A : Nat → Nat), SA s D (fun A => k * G A) r A = k * SA s D G r A
  | 0, A => rfl
  | r + 1, A => by
    by_cases c : s.testBit (5 - r) = true
    · rw [SA_t c, SA_t c, sum_congr (fun d _ => SA_mul r _), sum_mul]
    · rw [SA_f c, SA_f c, SA_mul r A]
/-- formes of S on day d -/
noncomputable def dm (S : Nat) (A : Nat → Nat) (d : Nat) : Nat := mkN 6 (fun i => S.testBit i = true ∧ A i = d)
theorem dm_tb {S d i : Nat} {A : Nat → Nat} : (dm S A d).testBit i = true ↔ (i < 6 ∧ S.testBit i = true ∧ A i = d) := mkN_bit (n := 6) (by decide) _ 6 i
/-- a plan of S for t days: what may lie on one day, what has to be ahead -/
def PP (ft : Nat → Prop) (pr : Nat → Nat → Prop) (S t : Nat) (A : Nat → Nat) : Prop := (∀ d, d < t → ft (dm S A d)) ∧ ∀ a f, a < 6 → S.testBit a = true → f < 6 → pr f a → S.testBit f = true ∧ A f < A a
def okD (ft : Nat → Prop) (pr : Nat → Nat → Prop) (m R : Nat) : Prop := ft m ∧ ∀ a f, a < 6 → m.testBit a = true → f < 6 → pr f a → R.testBit f = true
noncomputable def wC (ft : Nat → Prop) (pr : Nat → Nat → Prop) (S t : Nat) : Nat := SA S t (fun A => jN (PP ft pr S t A)) 6 A0
section PM
variable {ft : Nat → Prop} {pr : Nat → Nat → Prop}
theorem PP_step {S t m : Nat} {A : Nat → Nat} (hS : S < 64) (hm : sb m S) (h1 : ∀ i, i < 6 → m.testBit i = true → A i = t) (h2 : ∀ i, i < 6 → (S ^^^ m).testBit i = true → A i < t) : PP ft pr S (t + 1) A ↔ (okD ft pr m (S ^^^ m) ∧ PP ft pr (S ^^^ m) t A) := by
  have tb6 : ∀ {i}, S.testBit i = true → i < 6 := fun {i} q => by
    rcases Nat.lt_or_ge i 6 with z | z
    · exact z
    · rw [Nat.testBit_lt_two_pow (Nat.lt_of_lt_of_le hS (Nat.pow_le_pow_right (n := 2) (by decide) z))] at q
      cases q
  have e1 : dm S A t = m := tb_ext (fun i => by
    rw [dm_tb]
    constructor
    · rintro ⟨a, b, e⟩
      exact Classical.not_not.mp (fun q => by have := h2 i a ((xor_tb hm).mpr ⟨b, q⟩); omega)
    · intro q
      have := tb6 (hm i q)
      exact ⟨this, hm i q, h1 i this q⟩)
  have e2 : ∀ d, d < t → dm S A d = dm (S ^^^ m) A d := fun d hd => tb_ext (fun i => by
    rw [dm_tb, dm_tb, xor_tb hm]
    constructor
    · rintro ⟨a, b, e⟩
      exact ⟨a, ⟨b, fun q => by have := h1 i a q; omega⟩, e⟩
    · rintro ⟨a, b, e⟩
      exact ⟨a, b.1, e⟩)
  constructor
  · rintro ⟨p1, p2⟩
    refine ⟨⟨?_, fun a f ha hma hf hp => ?_⟩, fun d hd => ?_, fun a f ha hma hf hp => ?_⟩
    · rw [← e1]; exact p1 t (by omega)
    · obtain ⟨q1, q2⟩ := p2 a f ha (hm a hma) hf hp
      rw [h1 a ha hma] at q2
      exact (xor_tb hm).mpr ⟨q1, fun w => by have := h1 f hf w; omega⟩
    · rw [← e2 d hd]; exact p1 d (by omega)
    · obtain ⟨q1, q2⟩ := p2 a f ha ((xor_tb hm).mp hma).1 hf hp
      refine ⟨(xor_tb hm).mpr ⟨q1, fun w => ?_⟩, q2⟩
      have := h1 f hf w
      have := h2 a ha hma
      omega
  · rintro ⟨⟨o1, o2⟩, p1, p2⟩
    refine ⟨fun d hd => ?_, fun a f ha hSa hf hp => ?_⟩
    · rcases Nat.lt_or_eq_of_le (Nat.le_of_lt_succ hd) with z | z
      · rw [e2 d z]; exact p1 d z
      · rw [z, e1]; exact o1
    · by_cases w : m.testBit a = true
      · have q := o2 a f ha w hf hp
        refine ⟨((xor_tb hm).mp q).1, ?_⟩
        rw [h1 a ha w]
        exact h2 f hf q
      · obtain ⟨q1, q2⟩ := p2 a f ha ((xor_tb hm).mpr ⟨hSa, w⟩) hf hp
        exact ⟨((xor_tb hm).mp q1).1, q2⟩
theorem PP_on {S t : Nat} {A B : Nat → Nat} (h : ∀ i, i < 6 → S.testBit i = true → A i = B i) : PP ft pr S t A ↔ PP ft pr S t B := by
  have e : ∀ d, dm S A d = dm S B d := fun d => tb_ext (fun i => by
    rw [dm_tb, dm_tb]
    constructor
    · rintro ⟨a, b, c⟩; exact ⟨a, b, by rw [← h i a b]; exact c⟩
    · rintro ⟨a, b, c⟩; exact ⟨a, b, by rw [h i a b]; exact c⟩)
  unfold PP
  constructor
  · rintro ⟨p1, p2⟩
    refine ⟨fun d hd => by rw [← e]; exact p1 d hd, fun a f ha hS hf hp => ?_⟩
    obtain ⟨q1, q2⟩ := p2 a f ha hS hf hp
    exact ⟨q1, by rw [← h a ha hS, ← h f hf q1]; exact q2⟩
  · rintro ⟨p1, p2⟩
    refine ⟨fun d hd => by rw [e]; exact p1 d hd, fun a f ha hS hf hp => ?_⟩
    obtain ⟨q1, q2⟩ := p2 a f ha hS hf hp
    exact ⟨q1, by rw [h a ha hS, h f hf q1]; exact q2⟩
theorem jN_and (p q : Prop) : jN (p ∧ q) = jN p * jN q := by
  by_cases h : p
  · by_cases h2 : q
    · rw [jN_t h, jN_t h2, jN_t ⟨h, h2⟩]
    · rw [jN_f h2, jN_f (fun w => h2 w.2), Nat.mul_zero]
  · rw [jN_f h, jN_f (fun w => h w.1), Nat.zero_mul]
theorem jN_iff {p q : Prop} (h : p ↔ q) : jN p = jN q := by
  by_cases c : p
  · rw [jN_t c, jN_t (h.mp c)]
  · rw [jN_f c, jN_f (fun w => c (h.mpr w))]
/-- one day more -/
theorem wC_step {S t : Nat} (hS : S < 64) : wC ft pr S (t + 1) = SS S (fun m => jN (okD ft pr m (S ^^^ m)) * wC ft pr (S ^^^ m) t) 6 0 := by
  unfold wC
  rw [SA_split 6 A0 (by decide)]
  refine SS_congr 6 0 (by decide) (fun m q => ?_)
  have hm : sb m S := fun i w => by
    rcases (q i).mp w with z | z
    · rw [Nat.zero_testBit] at z; cases z
    · exact z.2.2.1
  rw [← SA_mul]
  refine SA_congr 6 _ _ (by decide) (fun A' B' a b e => ?_)
  have h1 : ∀ i, i < 6 → m.testBit i = true → A' i = t := fun i hi w => by
    rw [a.1 i (fun z => ((xor_tb hm).mp z.2.2).2 w)]
    unfold put
    rw [if_pos w]
  have h2 : ∀ i, i < 6 → (S ^^^ m).testBit i = true → A' i < t := fun i hi w => a.2 i (by omega) hi w
  rw [jN_iff (PP_step hS hm h1 h2), jN_and, jN_iff (PP_on (fun i hi w => e i (by omega) hi w))]
theorem wC_0 {S : Nat} (hS : S < 64) (h0 : S ≠ 0) : wC ft pr S 0 = 0 := by
  have key : ∀ r (A : Nat → Nat), r ≤ 6 → (∃ i, 6 - r ≤ i ∧ i < 6 ∧ S.testBit i = true) → SA S 0 (fun A => jN (PP ft pr S 0 A)) r A = 0 := by
    intro r
    induction r with
    | zero => intro A _ ⟨i, a, b, _⟩; omega
    | succ r ih =>
      intro A hr ⟨i, a, b, c⟩
      by_cases z : S.testBit (5 - r) = true
      · rw [SA_t z]; rfl
      · rw [SA_f z]
        refine ih A (by omega) ⟨i, ?_, b, c⟩
        have : i ≠ 5 - r := fun w => z (w ▸ c)
        omega
  refine key 6 A0 (by decide) ?_
  refine Classical.not_not.mp (fun q => h0 (tb_ext (fun i => ?_)))
  rw [Nat.zero_testBit]
  refine ⟨fun w => ?_, fun w => Bool.noConfusion w⟩
  rcases Nat.lt_or_ge i 6 with z | z
  · exact absurd ⟨i, by omega, z, w⟩ q
  · rw [Nat.testBit_lt_two_pow (Nat.lt_of_lt_of_le hS (Nat.pow_le_pow_right (n := 2) (by decide) z))] at w
    cases w
theorem wC_00 : wC ft pr 0 0 = 1 := by
  show SA 0 0 _ 6 A0 = 1
  have e : ∀ r (A : Nat → Nat), SA 0 0 (fun A => jN (PP ft pr 0 0 A)) r A = jN (PP ft pr 0 0 A) := by
    intro r
    induction r with
    | zero => intro A; rfl
    | succ r ih => intro A; rw [SA_f (by rw [Nat.zero_testBit]; exact fun q => Bool.noConfusion q)]; exact ih A
  rw [e]
  exact jN_t ⟨fun d h => absurd h (by omega), fun a f _ h => by rw [Nat.zero_testBit] at h; cases h⟩
end PM
/-- the parts of s, as a list; as the loop goes through them -/
def ssL (s : Nat) : Nat → Nat → List Nat
  | 0, m => [m]
  | r + 1, m => ssL s r m ++ (if s.testBit (5 - r) = true then ssL s r (m ||| 2 ^ (5 - r)) else [])
def lpL (s : Nat) : Nat → Nat → List Nat
  | 0, _ => []
  | k + 1, v => if v = 0 then [] else v :: lpL s k ((v - 1) &&& s)
theorem SS_list {s : Nat} {H : Nat → Nat} : ∀ (r m : Nat), SS s H r m = ((ssL s r m).map H).sum
  | 0, m => by show H m = H m + 0; omega
  | r + 1, m => by
    have e : ssL s (r + 1) m = ssL s r m ++ (if s.testBit (5 - r) = true then ssL s r (m ||| 2 ^ (5 - r)) else []) := rfl
    by_cases c : s.testBit (5 - r) = true
    · rw [SS_t c, e, if_pos c, List.map_append, List.sum_append, SS_list r m, SS_list r _]
    · rw [SS_f c, e, if_neg c, List.append_nil, SS_list r m]
theorem perm64 : ∀ s, s < 64 → (ssL s 6 0).isPerm (0 :: lpL s 64 s) = true := by decide +kernel
theorem SS_loop {s : Nat} {H : Nat → Nat} (hs : s < 64) : SS s H 6 0 = H 0 + ((lpL s 64 s).map H).sum := by
  rw [SS_list, ((List.isPerm_iff.mp (perm64 s hs)).map H).sum_nat]
  rfl

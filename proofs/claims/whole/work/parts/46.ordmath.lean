/-! ===== orders of states: costs and ways, as functions ===== -/
def far : Nat := 100000000
def jn (x y : Nat × Nat) : Nat × Nat := if y.1 < x.1 then y else if y.1 = x.1 then (x.1, x.2 + y.2) else x
def fd : Nat → (Nat → Nat × Nat) → Nat × Nat
  | 0, _ => (far, 0)
  | k + 1, g => jn (fd k g) (g k)
/-- through one that may come next -/
noncomputable def thr (p : Prop) (st : Nat) (r : Nat × Nat) : Nat × Nat := @ite _ (p ∧ r.1 < far) (Classical.propDecidable _) (st + r.1, r.2) (far, 0)
theorem thr_t {p : Prop} {st : Nat} {r : Nat × Nat} (h : p) (h2 : r.1 < far) : thr p st r = (st + r.1, r.2) := by unfold thr; rw [if_pos ⟨h, h2⟩]
theorem thr_f {p : Prop} {st : Nat} {r : Nat × Nat} (h : ¬ p) : thr p st r = (far, 0) := by unfold thr; rw [if_neg (fun q => h q.1)]
theorem thr_f2 {p : Prop} {st : Nat} {r : Nat × Nat} (h : ¬ r.1 < far) : thr p st r = (far, 0) := by unfold thr; rw [if_neg (fun q => h q.2)]
theorem thr_congr {p : Prop} {st : Nat} {r r' : Nat × Nat} (h : p → r = r') : thr p st r = thr p st r' := by
  by_cases q : p
  · rw [h q]
  · rw [thr_f q, thr_f q]
/-- next may come when those of s have gone -/
def myN (nd : Nat → Nat → Prop) (s x : Nat) : Prop := s.testBit x = false ∧ ∀ i, i < 9 → nd x i → s.testBit i = true
noncomputable def rs (n : Nat) (nd : Nat → Nat → Prop) (ch : Nat → Nat → Nat) : Nat → Nat → Nat → Nat × Nat
  | 0, _, _ => (0, 1)
  | k + 1, s, l => if s + 1 = 2 ^ n then (0, 1) else fd n (fun x => thr (myN nd s x) (ch l x) (rs n nd ch k (s ||| 2 ^ x) x))
/-- what is left to come behind l, when those of s have gone -/
noncomputable def rT (n : Nat) (nd : Nat → Nat → Prop) (ch : Nat → Nat → Nat) (s l : Nat) : Nat × Nat := rs n nd ch (2 ^ n) s l
/-- the whole order -/
noncomputable def rW (n : Nat) (nd : Nat → Nat → Prop) (ch : Nat → Nat → Nat) : Nat × Nat := if n = 0 then (0, 1) else fd n (fun x => thr (myN nd 0 x) 0 (rT n nd ch (2 ^ x) x))
theorem fd_congr {g h : Nat → Nat × Nat} : ∀ {n : Nat}, (∀ i, i < n → g i = h i) → fd n g = fd n h
  | 0, _ => rfl
  | n + 1, e => by
    show jn (fd n g) (g n) = jn (fd n h) (h n)
    rw [fd_congr (fun i hi => e i (by omega)), e n (by omega)]
theorem or_tb {s x i : Nat} : (s ||| 2 ^ x).testBit i = true ↔ (s.testBit i = true ∨ i = x) := by
  rw [Nat.testBit_or, Nat.testBit_two_pow, Bool.or_eq_true, decide_eq_true_eq]
  exact ⟨fun q => q.elim Or.inl (fun z => Or.inr z.symm), fun q => q.elim Or.inl (fun z => Or.inr z.symm)⟩
theorem or_lt {s x n : Nat} (hs : s < 2 ^ n) (hx : x < n) : s ||| 2 ^ x < 2 ^ n := Nat.or_lt_two_pow hs (Nat.pow_lt_pow_right (by decide) hx)
theorem or_gt {s x : Nat} (h : s.testBit x = false) : s < s ||| 2 ^ x := by
  rcases Nat.lt_or_eq_of_le (Nat.left_le_or (n := s) (m := 2 ^ x)) with z | z
  · exact z
  · exfalso
    have h2 : (s ||| 2 ^ x).testBit x = true := or_tb.mpr (Or.inr rfl)
    rw [← z, h] at h2
    cases h2
section OM
variable {n : Nat} {nd : Nat → Nat → Prop} {ch : Nat → Nat → Nat}
theorem rs_fuel : ∀ (k s l : Nat), s < 2 ^ n → 2 ^ n ≤ s + 1 + k → rs n nd ch k s l = rs n nd ch (k + 1) s l
  | 0, s, l, h1, h2 => by
    show (0, 1) = if s + 1 = 2 ^ n then (0, 1) else _
    rw [if_pos (by omega)]
  | k + 1, s, l, h1, h2 => by
    show (if s + 1 = 2 ^ n then (0, 1) else _) = if s + 1 = 2 ^ n then (0, 1) else _
    by_cases z : s + 1 = 2 ^ n
    · rw [if_pos z, if_pos z]
    · rw [if_neg z, if_neg z]
      refine fd_congr (fun x hx => thr_congr (fun q => ?_))
      exact rs_fuel k _ x (or_lt h1 hx) (by have := or_gt q.1; omega)
theorem rT_full {s l : Nat} (h : s + 1 = 2 ^ n) : rT n nd ch s l = (0, 1) := by
  unfold rT
  obtain ⟨k, hk⟩ : ∃ k, 2 ^ n = k + 1 := ⟨2 ^ n - 1, by have := Nat.two_pow_pos n; omega⟩
  rw [hk]
  show (if s + 1 = 2 ^ n then (0, 1) else _) = _
  rw [if_pos h]
theorem rT_step {s l : Nat} (h1 : s < 2 ^ n) (h : ¬ s + 1 = 2 ^ n) : rT n nd ch s l = fd n (fun x => thr (myN nd s x) (ch l x) (rT n nd ch (s ||| 2 ^ x) x)) := by
  unfold rT
  obtain ⟨k, hk⟩ : ∃ k, 2 ^ n = k + 1 := ⟨2 ^ n - 1, by have := Nat.two_pow_pos n; omega⟩
  have e : rs n nd ch (k + 1) s l = fd n (fun x => thr (myN nd s x) (ch l x) (rs n nd ch k (s ||| 2 ^ x) x)) := by
    show (if s + 1 = 2 ^ n then (0, 1) else _) = _
    rw [if_neg h]
  rw [hk, e]
  refine fd_congr (fun x hx => thr_congr (fun q => ?_))
  exact rs_fuel k _ x (or_lt h1 hx) (by have := or_gt q.1; omega)
/-- bounds -/
def fac : Nat → Nat
  | 0 => 1
  | k + 1 => (k + 1) * fac k
def okP (C B : Nat) (r : Nat × Nat) : Prop := r = (far, 0) ∨ (r.1 ≤ C ∧ 1 ≤ r.2 ∧ r.2 ≤ B)
theorem cnt_rem {P R : Nat → Prop} {x : Nat} (hx : P x) (e : ∀ i, R i ↔ (P i ∧ i ≠ x)) : ∀ {n : Nat}, (n ≤ x → cntN n R = cntN n P) ∧ (x < n → cntN n R + 1 = cntN n P)
  | 0 => ⟨fun _ => rfl, fun h => absurd h (Nat.not_lt_zero _)⟩
  | n + 1 => by
    obtain ⟨h1, h2⟩ := cnt_rem hx e (n := n)
    refine ⟨fun h => ?_, fun h => ?_⟩
    · rw [cnt_S, cnt_S, h1 (by omega)]
      by_cases p : P n
      · rw [jN_t p, jN_t ((e n).mpr ⟨p, by omega⟩)]
      · rw [jN_f p, jN_f (fun q => p ((e n).mp q).1)]
    · rcases Nat.lt_or_eq_of_le (Nat.le_of_lt_succ h) with z | z
      · rw [cnt_S, cnt_S, ← h2 z]
        by_cases p : P n
        · rw [jN_t p, jN_t ((e n).mpr ⟨p, by omega⟩)]
        · rw [jN_f p, jN_f (fun q => p ((e n).mp q).1)]
      · subst z
        rw [cnt_S, cnt_S, h1 (Nat.le_refl _), jN_t hx, jN_f (fun q => ((e x).mp q).2 rfl)]
theorem fd_ok {C B : Nat} (hC : C < far) {P : Nat → Prop} {g : Nat → Nat × Nat} (h : ∀ i, g i = (far, 0) ∨ (P i ∧ (g i).1 ≤ C ∧ 1 ≤ (g i).2 ∧ (g i).2 ≤ B)) : ∀ n, okP C (cntN n P * B) (fd n g)
  | 0 => Or.inl rfl
  | n + 1 => by
    have ih := fd_ok hC h n
    have hS : cntN (n + 1) P * B = cntN n P * B + jN (P n) * B := by rw [cnt_S, Nat.add_mul]
    rw [hS]
    show okP C _ (jn (fd n g) (g n))
    rcases h n with z | ⟨z0, z1, z2, z3⟩
    · rw [z]
      unfold jn
      rcases ih with w | ⟨w1, w2, w3⟩
      · rw [w]
        exact Or.inl rfl
      · rw [if_neg (by show ¬ far < (fd n g).1; omega), if_neg (by show ¬ far = (fd n g).1; omega)]
        exact Or.inr ⟨w1, w2, by omega⟩
    · rw [jN_t z0, Nat.one_mul]
      unfold jn
      rcases ih with w | ⟨w1, w2, w3⟩
      · rw [if_pos (by rw [w]; show (g n).1 < far; omega)]
        exact Or.inr ⟨z1, z2, by omega⟩
      · split
        · exact Or.inr ⟨z1, z2, by omega⟩
        · split
          · exact Or.inr ⟨w1, by show 1 ≤ (fd n g).2 + (g n).2; omega, by show (fd n g).2 + (g n).2 ≤ _; omega⟩
          · exact Or.inr ⟨w1, w2, by omega⟩
noncomputable def msg (n s : Nat) : Nat := cntN n (fun i => s.testBit i = false)
theorem msg_or {s x : Nat} (hx : x < n) (h : s.testBit x = false) : msg n (s ||| 2 ^ x) + 1 = msg n s := by
  refine (cnt_rem (P := fun i => s.testBit i = false) (x := x) h (fun i => ?_)).2 hx
  rw [← Bool.not_eq_true, ← Bool.not_eq_true, or_tb]
  exact ⟨fun q => ⟨fun z => q (Or.inl z), fun z => q (Or.inr z)⟩, fun q z => z.elim q.1 q.2⟩
theorem rs_ok (hn : n ≤ 9) (hch : ∀ a b, ch a b ≤ 6) : ∀ (k s l : Nat), s < 2 ^ n → okP (6 * msg n s) (fac (msg n s)) (rs n nd ch k s l)
  | 0, s, l, h1 => Or.inr ⟨Nat.zero_le _, Nat.le_refl _, by
    show 1 ≤ fac (msg n s)
    generalize msg n s = m
    induction m with
    | zero => exact Nat.le_refl _
    | succ m ih => exact Nat.le_trans ih (Nat.le_mul_of_pos_left _ (by omega))⟩
  | k + 1, s, l, h1 => by
    show okP _ _ (if s + 1 = 2 ^ n then (0, 1) else _)
    have hf : 1 ≤ fac (msg n s) := by
      generalize msg n s = m
      induction m with
      | zero => exact Nat.le_refl _
      | succ m ih => exact Nat.le_trans ih (Nat.le_mul_of_pos_left _ (by omega))
    by_cases z : s + 1 = 2 ^ n
    · rw [if_pos z]
      exact Or.inr ⟨Nat.zero_le _, Nat.le_refl _, hf⟩
    · rw [if_neg z]
      have hm9 : msg n s ≤ 9 := Nat.le_trans (cnt_le _ n) hn
      -- a bound for those that come next
      rcases Nat.eq_zero_or_pos (msg n s) with m0 | m0
      · have hno : ∀ i, i < n → thr (myN nd s i) (ch l i) (rs n nd ch k (s ||| 2 ^ i) i) = (far, 0) := fun i hi => by
          refine thr_f (fun q => ?_)
          have := msg_or hi q.1
          omega
        rw [fd_congr (h := fun _ => (far, 0)) hno]
        refine Or.inl ?_
        clear hno
        generalize n = N
        induction N with
        | zero => rfl
        | succ N ih => show jn (fd N _) (far, 0) = _; rw [ih]; rfl
      · obtain ⟨m, hm⟩ : ∃ m, msg n s = m + 1 := ⟨msg n s - 1, by omega⟩
        have hb : okP (6 * (m + 1)) (msg n s * fac m) (fd n (fun x => thr (myN nd s x ∧ x < n) (ch l x) (rs n nd ch k (s ||| 2 ^ x) x))) := by
          refine fd_ok (P := fun i => s.testBit i = false) (by unfold far; omega) (fun i => ?_) n
          by_cases q : (myN nd s i ∧ i < n) ∧ (rs n nd ch k (s ||| 2 ^ i) i).1 < far
          · have hmi := msg_or q.1.2 q.1.1.1
            have ih := rs_ok hn hch k (s ||| 2 ^ i) i (or_lt h1 q.1.2)
            have e : msg n (s ||| 2 ^ i) = m := by omega
            rw [e] at ih
            have hc := hch l i
            show thr _ _ _ = _ ∨ _
            rw [thr_t q.1 q.2]
            rcases ih with w | ⟨w1, w2, w3⟩
            · rw [w] at q
              exact absurd q.2 (Nat.lt_irrefl _)
            · exact Or.inr ⟨q.1.1.1, by show ch l i + (rs n nd ch k (s ||| 2 ^ i) i).1 ≤ _; omega, w2, w3⟩
          · refine Or.inl ?_
            show thr _ _ _ = _
            by_cases q2 : myN nd s i ∧ i < n
            · exact thr_f2 (fun w => q ⟨q2, w⟩)
            · exact thr_f q2
        rw [fd_congr (h := fun x => thr (myN nd s x ∧ x < n) (ch l x) (rs n nd ch k (s ||| 2 ^ x) x)) (fun i hi => by
          by_cases q : myN nd s i
          · by_cases q2 : (rs n nd ch k (s ||| 2 ^ i) i).1 < far
            · rw [thr_t q q2, thr_t ⟨q, hi⟩ q2]
            · rw [thr_f2 q2, thr_f2 q2]
          · rw [thr_f q, thr_f (fun w => q w.1)])]
        rw [hm]
        rw [hm] at hb
        exact hb
theorem fac_le : ∀ m, m ≤ 9 → fac m ≤ 362880 := by decide
/-- a pair as the class packs it -/
def okW (r : Nat × Nat) : Prop := r = (far, 0) ∨ (r.1 ≤ 54 ∧ 1 ≤ r.2 ∧ r.2 ≤ 362880)
theorem rT_ok (hn : n ≤ 9) (hch : ∀ a b, ch a b ≤ 6) {s l : Nat} (h : s < 2 ^ n) : okW (rT n nd ch s l) := by
  have hm9 : msg n s ≤ 9 := Nat.le_trans (cnt_le _ n) hn
  rcases rs_ok (nd := nd) hn hch (2 ^ n) s l h with z | ⟨z1, z2, z3⟩
  · exact Or.inl z
  · exact Or.inr ⟨by show (rs n nd ch (2 ^ n) s l).1 ≤ 54; omega, z2, Nat.le_trans z3 (fac_le _ hm9)⟩
theorem rW_ok (hn : n ≤ 9) (hch : ∀ a b, ch a b ≤ 6) : okW (rW n nd ch) := by
  unfold rW
  by_cases z : n = 0
  · rw [if_pos z]
    exact Or.inr ⟨Nat.zero_le _, Nat.le_refl _, Nat.le_of_ble_eq_true rfl⟩
  · rw [if_neg z]
    -- the same as a step with no cost
    have e : fd n (fun x => thr (myN nd 0 x) 0 (rT n nd ch (2 ^ x) x)) = fd n (fun x => thr (myN nd 0 x ∧ x < n) 0 (rT n nd ch (2 ^ x) x)) := fd_congr (fun i hi => by
      by_cases q : myN nd 0 i
      · by_cases q2 : (rT n nd ch (2 ^ i) i).1 < far
        · rw [thr_t q q2, thr_t ⟨q, hi⟩ q2]
        · rw [thr_f2 q2, thr_f2 q2]
      · rw [thr_f q, thr_f (fun w => q w.1)])
    rw [e]
    have hm0 : msg n 0 = n := by
      unfold msg
      clear e z
      have : ∀ N, cntN N (fun i => (0 : Nat).testBit i = false) = N := by
        intro N
        induction N with
        | zero => rfl
        | succ N ih => rw [cnt_S, ih, jN_t (Nat.zero_testBit N)]
      exact this n
    obtain ⟨m, hm⟩ : ∃ m, n = m + 1 := ⟨n - 1, by omega⟩
    have hb : okP 54 (msg n 0 * fac m) (fd n (fun x => thr (myN nd 0 x ∧ x < n) 0 (rT n nd ch (2 ^ x) x))) := by
      refine fd_ok (P := fun i => (0 : Nat).testBit i = false) (by decide) (fun i => ?_) n
      by_cases q : (myN nd 0 i ∧ i < n) ∧ (rT n nd ch (2 ^ i) i).1 < far
      · have hmi := msg_or q.1.2 q.1.1.1
        rw [Nat.zero_or] at hmi
        have ih := rs_ok (nd := nd) hn hch (2 ^ n) (2 ^ i) i (Nat.pow_lt_pow_right (by decide) q.1.2)
        have e2 : msg n (2 ^ i) = m := by omega
        rw [e2] at ih
        show thr _ _ _ = _ ∨ _
        rw [thr_t q.1 q.2]
        rcases ih with w | ⟨w1, w2, w3⟩
        · have q2 := q.2
          unfold rT at q2
          rw [w] at q2
          exact absurd q2 (Nat.lt_irrefl _)
        · exact Or.inr ⟨q.1.1.1, by show 0 + (rs n nd ch (2 ^ n) (2 ^ i) i).1 ≤ _; omega, w2, w3⟩
      · refine Or.inl ?_
        show thr _ _ _ = _
        by_cases q2 : myN nd 0 i ∧ i < n
        · exact thr_f2 (fun w => q ⟨q2, w⟩)
        · exact thr_f q2
    rcases hb with w | ⟨w1, w2, w3⟩
    · exact Or.inl w
    · refine Or.inr ⟨w1, w2, Nat.le_trans w3 ?_⟩
      rw [hm0, hm]
      exact fac_le (m + 1) (by omega)
end OM

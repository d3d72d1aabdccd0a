/-! ===== orders of states: the class's finder ===== -/
theorem bmN {s : Nat} (hs : s < 512) : bm (nI s) 9 (fun i => s.testBit i = true) := fun i hi => by
  rw [b_nI s i hi]
  refine ⟨fun q => ⟨?_, q⟩, fun q => q.2⟩
  rcases Nat.lt_or_ge i 9 with z | z
  · exact z
  · rw [Nat.testBit_lt_two_pow (Nat.lt_of_lt_of_le hs (Nat.pow_le_pow_right (n := 2) (by decide) z))] at q
    cases q
theorem p29 {n : Nat} (hn : n ≤ 9) : 2 ^ n ≤ 512 := Nat.pow_le_pow_right (show 2 > 0 by decide) hn
theorem or_nI {s x : Nat} (hx : x < 9) : nI s ||| ((1 : Int32) <<< (nI x &&& 31)) = nI (s ||| 2 ^ x) := by rw [nx_sh1 x (by omega), nx_or]
def enc (r : Nat × Nat) : Int32 := if r.1 < far then nI (r.1 * 1048576 + r.2) else -1
theorem enc_t {r : Nat × Nat} (h : r.1 < far) : enc r = nI (r.1 * 1048576 + r.2) := by unfold enc; rw [if_pos h]
theorem enc_f {r : Nat × Nat} (h : ¬ r.1 < far) : enc r = -1 := by unfold enc; rw [if_neg h]
theorem nI_neg1 {n : Nat} (h : n < 2 ^ 31) : ¬ nI n = -1 := fun e => by
  have h1 := congrArg Int32.toInt e
  rw [nI_toInt h] at h1
  have h2 : (-1 : Int32).toInt = -1 := by decide
  omega
theorem nI_none {n : Nat} (h : n < 2 ^ 31) : ¬ nI n = -900009 := fun e => by
  have h1 := congrArg Int32.toInt e
  rw [nI_toInt h] at h1
  have h2 : (-900009 : Int32).toInt = -900009 := by decide
  omega
theorem okW_lt {r : Nat × Nat} (h : okW r) (h2 : r.1 < far) : r.1 ≤ 54 ∧ 1 ≤ r.2 ∧ r.2 ≤ 362880 := by
  rcases h with z | z
  · rw [z] at h2; exact absurd h2 (Nat.lt_irrefl _)
  · exact z
theorem okW_far {r : Nat × Nat} (h : okW r) (h2 : ¬ r.1 < far) : r = (far, 0) := by
  rcases h with z | z
  · exact z
  · exfalso; unfold far at h2; omega
theorem enc_div {c w : Nat} (hc : c ≤ 100) (hw : w < 1048576) : nI (c * 1048576 + w) / 1048576 = nI c := by
  rw [show (1048576 : Int32) = nI 1048576 from rfl, nI_div (by omega) (by decide) (by decide)]
  congr 1
  omega
theorem enc_mod {c w : Nat} (hc : c ≤ 100) (hw : w < 1048576) : nI (c * 1048576 + w) - nI (c * 1048576 + w) / 1048576 * 1048576 = nI w := by
  rw [show (1048576 : Int32) = nI 1048576 from rfl, nI_mod (by omega) (by decide) (by decide)]
  congr 1
  omega
theorem jbMax_n {a b : Nat} (ha : a < 2 ^ 31) (hb : b < 2 ^ 31) : jbMax (nI a) (nI b) = nI (max a b) := by
  unfold jbMax
  by_cases z : a < b
  · rw [if_pos (nI_lt z (by omega))]; congr 1; omega
  · rw [if_neg (nI_nlt (by omega) (by omega))]; congr 1; omega
theorem neg1_max {b : Nat} (hb : b < 2 ^ 31) : jbMax (-1) (nI b) = nI b ∧ jbMax (nI b) (-1) = nI b := by
  have h1 : (-1 : Int32) < nI b := by
    rw [Int32.lt_iff_toInt_lt, nI_toInt hb]
    have h2 : (-1 : Int32).toInt = -1 := by decide
    omega
  have h3 : ¬ nI b < (-1 : Int32) := by
    rw [Int32.lt_iff_toInt_lt, nI_toInt hb]
    have h2 : (-1 : Int32).toInt = -1 := by decide
    omega
  unfold jbMax
  exact ⟨by rw [if_pos h1], by rw [if_neg h3]⟩
theorem join_enc {σ : ps_S} {a b : Nat × Nat} (ha : okW a) (hb : okW b) : jX3_join σ (enc a) (enc b) = enc (jn a b) := by
  unfold jX3_join jn
  by_cases za : a.1 < far
  · obtain ⟨a1, a2, a3⟩ := okW_lt ha za
    rw [enc_t za, if_neg (nI_neg1 (by omega))]
    by_cases zb : b.1 < far
    · obtain ⟨b1, b2, b3⟩ := okW_lt hb zb
      rw [enc_t zb, if_pos (nI_neg1 (by omega)), enc_div (by omega) (by omega), enc_div (by omega) (by omega)]
      by_cases e : a.1 = b.1
      · rw [if_pos (by rw [e])]
        have hm := enc_mod (c := b.1) (w := b.2) (by omega) (by omega)
        rw [enc_div (by omega) (by omega)] at hm
        rw [hm, nI_add, if_neg (by omega), if_pos e.symm, enc_t (r := (a.1, a.2 + b.2)) za]
        refine congrArg nI ?_
        show a.1 * 1048576 + a.2 + b.2 = a.1 * 1048576 + (a.2 + b.2)
        omega
      · rw [if_neg (fun q => e ((nI_eq (by omega) (by omega)).mp q)), jbMin_n (by omega) (by omega)]
        by_cases l : b.1 < a.1
        · rw [if_pos l, enc_t zb]
          refine congrArg nI ?_
          omega
        · rw [if_neg l, if_neg (fun q => e q.symm), enc_t za]
          refine congrArg nI ?_
          omega
    · rw [enc_f zb, if_neg (fun h => h rfl), (neg1_max (by omega)).2, if_neg (by omega), if_neg (by omega), enc_t za]
  · have ea := okW_far ha za
    rw [enc_f za, if_pos rfl]
    by_cases zb : b.1 < far
    · obtain ⟨b1, b2, b3⟩ := okW_lt hb zb
      rw [enc_t zb, (neg1_max (by omega)).1, if_pos (by omega), enc_t zb]
    · have eb := okW_far hb zb
      rw [enc_f zb, ea, eb]
      rfl
section OX
variable {n : Nat} {nd : Nat → Nat → Prop} {ch : Nat → Nat → Nat} {σ : ps_S} {d : Nat} {Q : Option ps_V → ps_S → Prop}
theorem fd_far {g : Nat → Nat × Nat} : ∀ k, (∀ i, i < k → g i = (far, 0)) → fd k g = (far, 0)
  | 0, _ => rfl
  | k + 1, h => by
    show jn (fd k g) (g k) = _
    rw [fd_far k (fun i hi => h i (by omega)), h k (by omega)]
    rfl
/-- bounds of a part of the choices -/
theorem fk_ok (hn : n ≤ 9) (hch : ∀ a b, ch a b ≤ 6) {s : Nat} (hs : s < 2 ^ n) {st : Nat → Nat} (hst : ∀ x, st x ≤ 6) {k : Nat} (hk : k ≤ n) : okW (fd k (fun x => thr (myN nd s x) (st x) (rT n nd ch (s ||| 2 ^ x) x))) := by
  have hm9 : msg n s ≤ 9 := Nat.le_trans (cnt_le _ n) hn
  rcases Nat.eq_zero_or_pos (msg n s) with m0 | m0
  · refine Or.inl (fd_far k (fun i hi => thr_f (fun q => ?_)))
    have := msg_or (n := n) (show i < n by omega) q.1
    omega
  · obtain ⟨m, hm⟩ : ∃ m, msg n s = m + 1 := ⟨msg n s - 1, by omega⟩
    have hb : okP 54 (cntN k (fun i => s.testBit i = false) * fac m) (fd k (fun x => thr (myN nd s x ∧ x < n) (st x) (rT n nd ch (s ||| 2 ^ x) x))) := by
      refine fd_ok (P := fun i => s.testBit i = false) (by decide) (fun i => ?_) k
      by_cases q : (myN nd s i ∧ i < n) ∧ (rT n nd ch (s ||| 2 ^ i) i).1 < far
      · have hmi := msg_or q.1.2 q.1.1.1
        have ih := rs_ok (nd := nd) hn hch (2 ^ n) (s ||| 2 ^ i) i (or_lt hs q.1.2)
        have e2 : msg n (s ||| 2 ^ i) = m := by omega
        rw [e2] at ih
        have hc := hst i
        show thr _ _ _ = _ ∨ _
        rw [thr_t q.1 q.2]
        rcases ih with w | ⟨w1, w2, w3⟩
        · have q2 := q.2
          unfold rT at q2
          rw [w] at q2
          exact absurd q2 (Nat.lt_irrefl _)
        · exact Or.inr ⟨q.1.1.1, by show st i + (rs n nd ch (2 ^ n) (s ||| 2 ^ i) i).1 ≤ _; omega, w2, w3⟩
      · refine Or.inl ?_
        show thr _ _ _ = _
        by_cases q2 : myN nd s i ∧ i < n
        · exact thr_f2 (fun w => q ⟨q2, w⟩)
        · exact thr_f q2
    rw [fd_congr (h := fun x => thr (myN nd s x ∧ x < n) (st x) (rT n nd ch (s ||| 2 ^ x) x)) (fun i hi => by
      by_cases q : myN nd s i
      · by_cases q2 : (rT n nd ch (s ||| 2 ^ i) i).1 < far
        · rw [thr_t q q2, thr_t ⟨q, by omega⟩ q2]
        · rw [thr_f2 q2, thr_f2 q2]
      · rw [thr_f q, thr_f (fun w => q w.1)])]
    rcases hb with w | ⟨w1, w2, w3⟩
    · exact Or.inl w
    · refine Or.inr ⟨w1, w2, Nat.le_trans w3 ?_⟩
      have h1 : cntN k (fun i => s.testBit i = false) ≤ m + 1 := by
        rw [← hm]
        exact cnt_mono _ hk
      exact Nat.le_trans (Nat.mul_le_mul_right _ h1) (fac_le (m + 1) (by omega))
/-- what the finder holds of the states in hand -/
def oS (n : Nat) (nd : Nat → Nat → Prop) (ch : Nat → Nat → Nat) (σ : ps_S) : Prop := σ 15 0 3 = nI n ∧ (∀ a, a < n → bm (σ 18 0 a) 9 (nd a)) ∧ ∀ a b, a < n → b < n → a ≠ b → σ 17 0 (a * 9 + b) = nI (ch a b)
/-- its rests, from the set s0 on -/
def oR (n : Nat) (nd : Nat → Nat → Prop) (ch : Nat → Nat → Nat) (σ : ps_S) (s0 : Nat) : Prop := ∀ s l, s0 ≤ s → s < 2 ^ n → l < n → s.testBit l = true → σ 16 0 (s * 9 + l) = enc (rT n nd ch s l)
theorem may_x (hn : n ≤ 9) (h : oS n nd ch σ) {s x : Nat} (hs : s < 2 ^ n) (hx : x < n) : jX3_mayCome σ (nI s) (nI x) = jbP (myN nd s x) := by
  have hs5 : s < 512 := Nat.lt_of_lt_of_le hs (p29 hn)
  have hxc : (nI x).toNatClampNeg = x := nI_clamp (by omega)
  unfold jX3_mayCome
  have z1 : (nI s >>> (nI x &&& 31)) &&& 1 = 0 ↔ ¬ s.testBit x = true := by rw [bm_bit (bmN hs5) (show x < 9 by omega) (by decide), jbP_0]
  have z2 : (σ 18 0 x) &&& (nI s ^^^ (-1)) = 0 ↔ ∀ i, i < 9 → ¬ (nd x i ∧ ¬ s.testBit i = true) := bm_zero (bm_diff (h.2.1 x hx) (bmN hs5)) (by decide)
  rw [hxc]
  by_cases c1 : s.testBit x = true
  · rw [if_pos (fun q => z1.mp q c1), jbP_f (fun q => by rw [q.1] at c1; cases c1)]
  · rw [if_neg (fun q => q (z1.mpr c1))]
    rw [Bool.not_eq_true] at c1
    by_cases c2 : ∀ i, i < 9 → ¬ (nd x i ∧ ¬ s.testBit i = true)
    · rw [if_neg (fun q => q (z2.mpr c2)), jbP_t ⟨c1, fun i hi hd => Classical.not_not.mp (fun q => c2 i hi ⟨hd, q⟩)⟩]
    · rw [if_pos (fun q => c2 (z2.mp q)), jbP_f (fun q => c2 (fun i hi w => w.2 (q.2 i hi w.1)))]
/-- the last that went: none, or one of those gone -/
def lsO (n : Nat) (ch : Nat → Nat → Nat) (s : Nat) (v : Int32) (st : Nat → Nat) : Prop := (v = -900009 ∧ st = fun _ => 0) ∨ ∃ l, l < n ∧ s.testBit l = true ∧ v = nI l ∧ st = ch l
theorem thr_x (hn : n ≤ 9) (hch : ∀ a b, ch a b ≤ 6) (h : oS n nd ch σ) {s x : Nat} {v : Int32} {st : Nat → Nat} (hR : oR n nd ch σ (s + 1)) (hs : s < 2 ^ n) (hx : x < n) (hb : s.testBit x = false) (hl : lsO n ch s v st) : jX3_restThrough σ (nI s) v (nI x) = enc (thr True (st x) (rT n nd ch (s ||| 2 ^ x) x)) := by
  have hs5 : s ||| 2 ^ x < 512 := Nat.lt_of_lt_of_le (or_lt hs hx) (p29 hn)
  have hgt := or_gt hb
  have e1 : ((nI s ||| ((1 : Int32) <<< (nI x &&& 31))) * 9) + nI x = nI ((s ||| 2 ^ x) * 9 + x) := by
    rw [or_nI (by omega), show (9 : Int32) = nI 9 from rfl, ix_mul, nI_add]
  have e2 : (nI ((s ||| 2 ^ x) * 9 + x)).toNatClampNeg = (s ||| 2 ^ x) * 9 + x := nI_clamp (by omega)
  have e3 := hR (s ||| 2 ^ x) x (by omega) (or_lt hs hx) hx (or_tb.mpr (Or.inr rfl))
  have hok := rT_ok (nd := nd) hn hch (l := x) (or_lt hs hx)
  unfold jX3_restThrough
  rw [e1, e2, e3]
  by_cases z : (rT n nd ch (s ||| 2 ^ x) x).1 < far
  · obtain ⟨o1, o2, o3⟩ := okW_lt hok z
    rw [enc_t z, if_neg (nI_neg1 (by omega)), thr_t trivial z]
    rcases hl with ⟨rfl, rfl⟩ | ⟨l, hl1, hl2, rfl, rfl⟩
    · rw [if_neg (fun q => q rfl), enc_t (r := (0 + _, _)) (by show 0 + (rT n nd ch (s ||| 2 ^ x) x).1 < far; omega)]
      show nI _ = nI ((0 + _) * 1048576 + _)
      rw [Nat.zero_add]
    · have hlx : l ≠ x := fun q => by rw [q, hb] at hl2; cases hl2
      have hc := hch l x
      have e4 : (nI l * 9) + nI x = nI (l * 9 + x) := by rw [show (9 : Int32) = nI 9 from rfl, ix_mul, nI_add]
      rw [if_pos (nI_none (by omega)), e4, nI_clamp (by omega), h.2.2 l x hl1 hx hlx, show (1048576 : Int32) = nI 1048576 from rfl, ix_mul, nI_add, enc_t (by show ch l x + (rT n nd ch (s ||| 2 ^ x) x).1 < far; unfold far; omega)]
      refine congrArg nI ?_
      show (rT n nd ch (s ||| 2 ^ x) x).1 * 1048576 + (rT n nd ch (s ||| 2 ^ x) x).2 + ch l x * 1048576 = (ch l x + (rT n nd ch (s ||| 2 ^ x) x).1) * 1048576 + (rT n nd ch (s ||| 2 ^ x) x).2
      omega
  · rw [enc_f z, if_pos rfl, thr_f2 z]
    rfl
theorem pX3_restBehind (hn : n ≤ 9) (hch : ∀ a b, ch a b ≤ 6) (h : oS n nd ch σ) {s : Nat} {v : Int32} {st : Nat → Nat} (hR : oR n nd ch σ (s + 1)) (hs : s < 2 ^ n) (hl : lsO n ch s v st) (hq : Q (some (.inl (enc (fd n (fun x => thr (myN nd s x) (st x) (rT n nd ch (s ||| 2 ^ x) x)))))) σ) : ps_C mX3_restBehind (d + 2) [.inr (.inr (15, 0)), .inl (nI s), .inl v] σ Q := by
  have h2n := p29 hn
  have hst : ∀ x, st x ≤ 6 := fun x => by
    rcases hl with ⟨_, rfl⟩ | ⟨l, _, _, _, rfl⟩
    · exact Nat.zero_le _
    · exact hch l x
  have key : ∀ r x, x + r = n → kX3_restBehind_5 d Q (nI s) v (enc (fd x (fun x => thr (myN nd s x) (st x) (rT n nd ch (s ||| 2 ^ x) x)))) (nI x) σ := by
    intro r
    induction r with
    | zero =>
      intro x hx
      obtain rfl : x = n := by omega
      refine bX3_restBehind_5 (fun _ => hq) ?_ ?_ ?_ ?_ ?_
      all_goals rw [h.1]
      all_goals exact lpX (by omega)
    | succ r ih =>
      intro x hx
      have hx0 : x < n := by omega
      have e1 : ((nI s ||| ((1 : Int32) <<< (nI x &&& 31))) * 9) + nI x = nI ((s ||| 2 ^ x) * 9 + x) := by
        rw [or_nI (by omega), show (9 : Int32) = nI 9 from rfl, ix_mul, nI_add]
      have hS : fd (x + 1) (fun x => thr (myN nd s x) (st x) (rT n nd ch (s ||| 2 ^ x) x)) = jn (fd x (fun x => thr (myN nd s x) (st x) (rT n nd ch (s ||| 2 ^ x) x))) (thr (myN nd s x) (st x) (rT n nd ch (s ||| 2 ^ x) x)) := rfl
      have okp := fk_ok (nd := nd) hn hch hs hst (k := x) (by omega)
      have hnx := ih (x + 1) (by omega)
      refine bX3_restBehind_5 (fun c => ?_) (fun _ _ => vp_in_nI (by omega) (by decide)) (fun _ c => ?_) (fun _ c => ?_) (fun _ c c2 c3 => ?_) (fun _ c => ?_)
      · rw [h.1] at c
        exact lpN hx0 (by omega) c
      · rw [may_x hn h hs hx0, jbP_0] at c
        rw [hS, thr_f c] at hnx
        have e : jn (fd x (fun x => thr (myN nd s x) (st x) (rT n nd ch (s ||| 2 ^ x) x))) (far, 0) = fd x (fun x => thr (myN nd s x) (st x) (rT n nd ch (s ||| 2 ^ x) x)) := by
          unfold jn
          rcases okp with w | w
          · rw [w]; rfl
          · have : (fd x (fun x => thr (myN nd s x) (st x) (rT n nd ch (s ||| 2 ^ x) x))).1 < far := by unfold far; omega
            rw [if_neg (by show ¬ far < _; omega), if_neg (by show ¬ far = _; omega)]
        rw [e] at hnx
        rw [nI_1]
        exact hnx
      · rw [may_x hn h hs hx0, jbP_0, Classical.not_not] at c
        have hs5 : s ||| 2 ^ x < 512 := Nat.lt_of_lt_of_le (or_lt hs hx0) h2n
        rw [e1]
        exact vp_in_nI (by omega) (by decide)
      · rcases hl with ⟨rfl, rfl⟩ | ⟨l, hl1, hl2, rfl, rfl⟩
        · exact absurd rfl c3
        · rw [show (9 : Int32) = nI 9 from rfl, ix_mul, nI_add]
          exact vp_in_nI (by omega) (by decide)
      · rw [may_x hn h hs hx0, jbP_0, Classical.not_not] at c
        have e2 : thr True (st x) (rT n nd ch (s ||| 2 ^ x) x) = thr (myN nd s x) (st x) (rT n nd ch (s ||| 2 ^ x) x) := by
          by_cases z : (rT n nd ch (s ||| 2 ^ x) x).1 < far
          · rw [thr_t trivial z, thr_t c z]
          · rw [thr_f2 z, thr_f2 z]
        have ok2 : okW (thr (myN nd s x) (st x) (rT n nd ch (s ||| 2 ^ x) x)) := by
          have hok := rT_ok (nd := nd) hn hch (l := x) (or_lt hs hx0)
          by_cases z : (rT n nd ch (s ||| 2 ^ x) x).1 < far
          · obtain ⟨o1, o2, o3⟩ := okW_lt hok z
            -- one step more: by the bound of all that come
            have o4 : (rT n nd ch (s ||| 2 ^ x) x).1 ≤ 6 * msg n (s ||| 2 ^ x) := by
              rcases rs_ok (nd := nd) hn hch (2 ^ n) (s ||| 2 ^ x) x (or_lt hs hx0) with w | w
              · unfold rT at z; rw [w] at z; exact absurd z (Nat.lt_irrefl _)
              · exact w.1
            have o5 := msg_or (n := n) hx0 c.1
            have o6 : msg n s ≤ 9 := Nat.le_trans (cnt_le _ n) hn
            have o7 := hst x
            rw [thr_t c z]
            exact Or.inr ⟨by show st x + (rT n nd ch (s ||| 2 ^ x) x).1 ≤ 54; omega, o2, o3⟩
          · rw [thr_f2 z]; exact Or.inl rfl
        rw [thr_x hn hch h hR hs hx0 c.1 hl, e2, join_enc okp ok2, nI_1]
        exact hnx
  exact eX3_restBehind (bX3_restBehind_0 (key n 0 (by omega)))
theorem full_n (hn : n ≤ 9) : ((1 : Int32) <<< (nI n &&& 31)) - 1 = nI (2 ^ n - 1) := by
  have h2 := Nat.two_pow_pos n
  rw [nx_sh1 n (by omega)]
  exact nI_sub (b := 1) h2
theorem pX3_findRests (hn : n ≤ 9) (hch : ∀ a b, ch a b ≤ 6) (h : oS n nd ch σ) (hq : ∀ σ', (∀ g, g ≠ 16 → σ' g = σ g) → oR n nd ch σ' 1 → Q (some (.inl (enc (rW n nd ch)))) σ') : ps_C mX3_findRests (d + 3) [.inr (.inr (15, 0))] σ Q := by
  have h2n := p29 hn
  have h2p := Nat.two_pow_pos n
  -- sets from s down
  have outer : ∀ s, s < 2 ^ n → ∀ ρ, (∀ g, g ≠ 16 → ρ g = σ g) → oR n nd ch ρ (s + 1) → kX3_findRests_11 (d + 2) Q (nI (2 ^ n - 1)) (nI s) ρ := by
    intro s
    induction s with
    | zero =>
      intro _ ρ f1 f2
      have hS : oS n nd ch ρ := by unfold oS; rw [f1 15 (by decide), f1 18 (by decide), f1 17 (by decide)]; exact h
      refine bX3_findRests_11 (fun _ c => ?_) (fun _ c => ?_) (fun c => absurd (nI_le (a := 0) (b := 0) (Nat.le_refl _) (by decide)) c)
      · have hn0 : ¬ n = 0 := fun q => c (by rw [q]; rfl)
        refine pX3_restBehind (s := 0) (st := fun _ => 0) hn hch hS f2 h2p (Or.inl ⟨rfl, rfl⟩) ⟨_, rfl, bX3_findRests_86 ?_⟩
        have e : rW n nd ch = fd n (fun x => thr (myN nd 0 x) 0 (rT n nd ch (0 ||| 2 ^ x) x)) := by
          unfold rW
          rw [if_neg hn0]
          exact fd_congr (fun i _ => by rw [Nat.zero_or])
        rw [← e]
        exact hq ρ f1 f2
      · have hn0 : n = 0 := by
          rw [show (0 : Int32) = nI 0 from rfl, nI_eq (by omega) (by decide)] at c
          rcases Nat.eq_zero_or_pos n with z | z
          · exact z
          · have := Nat.pow_le_pow_right (show 2 > 0 by decide) (show 1 ≤ n from z)
            omega
        refine bX3_findRests_86 ?_
        have e : (1 : Int32) = enc (rW n nd ch) := by
          unfold rW
          rw [if_pos hn0]
          rfl
        rw [e]
        exact hq ρ f1 f2
    | succ s ih =>
      intro hs ρ f1 f2
      have hs5 : s + 1 < 512 := by omega
      -- the last of them
      have inner : ∀ r l, l + r = n → ∀ ρ, (∀ g, g ≠ 16 → ρ g = σ g) → oR n nd ch ρ (s + 1 + 1) → (∀ l', l' < l → (s + 1).testBit l' = true → ρ 16 0 ((s + 1) * 9 + l') = enc (rT n nd ch (s + 1) l')) → kX3_findRests_17 (d + 2) Q (nI (2 ^ n - 1)) (nI (s + 1)) (nI l) ρ := by
        intro r
        induction r with
        | zero =>
          intro l hl ρ f1 f2 f3
          obtain rfl : l = n := by omega
          have h15 : ρ 15 0 3 = nI l := by rw [f1 15 (by decide)]; exact h.1
          refine bX3_findRests_17 (fun _ => ?_) ?_ ?_ ?_
          · rw [nI_m1]
            refine ih (by omega) ρ f1 (fun s' l' a b c e => ?_)
            rcases Nat.lt_or_eq_of_le a with z | z
            · exact f2 s' l' z b c e
            · rw [← z] at e ⊢
              exact f3 l' c e
          all_goals rw [h15]
          all_goals exact lpX (by omega)
        | succ r ih2 =>
          intro l hl ρ f1 f2 f3
          have hl0 : l < n := by omega
          have h15 : ρ 15 0 3 = nI n := by rw [f1 15 (by decide)]; exact h.1
          have hS : oS n nd ch ρ := by unfold oS; rw [f1 15 (by decide), f1 18 (by decide), f1 17 (by decide)]; exact h
          have hbit := bm_bit (bmN hs5) (show l < 9 by omega) (by decide)
          have e1 : (nI (s + 1) * 9) + nI l = nI ((s + 1) * 9 + l) := by rw [show (9 : Int32) = nI 9 from rfl, ix_mul, nI_add]
          have next : (s + 1).testBit l = true → ∀ w, w = enc (rT n nd ch (s + 1) l) → kX3_findRests_58 (d + 2) Q (nI (2 ^ n - 1)) (nI (s + 1)) (nI l) w (nI (s + 1) * 9 + nI l) ρ := by
            intro hb w hw
            refine bX3_findRests_58 (by rw [e1]; exact vp_in_nI (by omega) (by decide)) ?_
            rw [e1, nI_clamp (by omega), nI_1]
            refine ih2 (l + 1) (by omega) _ (fun g hg => by rw [ps_up_o hg]; exact f1 g hg) (fun s' l' a b c e => ?_) (fun l' a e => ?_)
            · rw [ps_up_v (by omega)]; exact f2 s' l' a b c e
            · rcases Nat.lt_or_eq_of_le (Nat.le_of_lt_succ a) with z | z
              · rw [ps_up_v (by omega)]; exact f3 l' z e
              · rw [z, ps_up_s]; exact hw
          refine bX3_findRests_17 (fun c => ?_) (fun _ c => ?_) (fun _ c c2 => ?_) (fun _ c c2 => ?_)
          · rw [h15] at c
            exact lpN hl0 (by omega) c
          · rw [hbit, jbP_0] at c
            rw [nI_1]
            refine ih2 (l + 1) (by omega) ρ f1 f2 (fun l' a e => ?_)
            rcases Nat.lt_or_eq_of_le (Nat.le_of_lt_succ a) with z | z
            · exact f3 l' z e
            · rw [z] at e; exact absurd e c
          · rw [hbit, jbP_0, Classical.not_not] at c
            rw [nI_eq (by omega) (by omega)] at c2
            refine pX3_restBehind hn hch hS f2 hs (Or.inr ⟨l, hl0, c, rfl, rfl⟩) ⟨_, rfl, next c _ ?_⟩
            rw [rT_step hs (by omega)]
          · rw [hbit, jbP_0, Classical.not_not] at c
            rw [nI_eq (by omega) (by omega)] at c2
            refine next c _ ?_
            rw [rT_full (by omega)]
            rfl
      refine bX3_findRests_11 (fun c => absurd c (nI_ge (a := 0) (b := s + 1) (by omega) (by omega))) (fun c => absurd c (nI_ge (a := 0) (b := s + 1) (by omega) (by omega))) (fun _ => inner n 0 (by omega) ρ f1 f2 (fun l' a _ => absurd a (by omega)))
  refine eX3_findRests (bX3_findRests_0 ?_)
  rw [h.1, full_n hn]
  exact outer (2 ^ n - 1) (by omega) σ (fun _ _ => rfl) (fun s l a b _ _ => absurd b (by omega))
/-- which comes next in the first order -/
def nxC (n : Nat) (nd : Nat → Nat → Prop) (ch : Nat → Nat → Nat) (s : Nat) (st : Nat → Nat) (left x : Nat) : Prop := myN nd s x ∧ (rT n nd ch (s ||| 2 ^ x) x).1 < far ∧ st x + (rT n nd ch (s ||| 2 ^ x) x).1 = left
noncomputable def nxO (n : Nat) (nd : Nat → Nat → Prop) (ch : Nat → Nat → Nat) (s : Nat) (st : Nat → Nat) (left : Nat) : Nat := (fstN n 0 (nxC n nd ch s st left)).getD 0
/-- those gone and the last of them, in the first order -/
noncomputable def sq (n : Nat) (nd : Nat → Nat → Prop) (ch : Nat → Nat → Nat) : Nat → Nat × Nat
  | 0 => (2 ^ nxO n nd ch 0 (fun _ => 0) (rW n nd ch).1, nxO n nd ch 0 (fun _ => 0) (rW n nd ch).1)
  | i + 1 => ((sq n nd ch i).1 ||| 2 ^ nxO n nd ch (sq n nd ch i).1 (ch (sq n nd ch i).2) (rT n nd ch (sq n nd ch i).1 (sq n nd ch i).2).1, nxO n nd ch (sq n nd ch i).1 (ch (sq n nd ch i).2) (rT n nd ch (sq n nd ch i).1 (sq n nd ch i).2).1)
theorem fd_att {g : Nat → Nat × Nat} : ∀ {k : Nat}, (fd k g).1 < far → ∃ x, x < k ∧ (g x).1 = (fd k g).1
  | 0, h => absurd h (Nat.lt_irrefl _)
  | k + 1, h => by
    have e : fd (k + 1) g = jn (fd k g) (g k) := rfl
    rw [e] at h ⊢
    unfold jn at h ⊢
    by_cases c1 : (g k).1 < (fd k g).1
    · rw [if_pos c1]
      exact ⟨k, by omega, rfl⟩
    · rw [if_neg c1] at h ⊢
      by_cases c2 : (g k).1 = (fd k g).1
      · rw [if_pos c2]
        exact ⟨k, by omega, c2⟩
      · rw [if_neg c2] at h ⊢
        obtain ⟨x, hx, he⟩ := fd_att h
        exact ⟨x, by omega, he⟩
theorem nxO_isF {s : Nat} {st : Nat → Nat} {left : Nat} (h : (fd n (fun x => thr (myN nd s x) (st x) (rT n nd ch (s ||| 2 ^ x) x))).1 = left) (hlt : left < far) : isF n (nxC n nd ch s st left) (nxO n nd ch s st left) := by
  refine fst_isF ?_
  rw [← h] at hlt
  obtain ⟨x, hx, he⟩ := fd_att hlt
  refine ⟨x, hx, ?_⟩
  have he : (thr (myN nd s x) (st x) (rT n nd ch (s ||| 2 ^ x) x)).1 = _ := he
  by_cases q : myN nd s x
  · by_cases q2 : (rT n nd ch (s ||| 2 ^ x) x).1 < far
    · rw [thr_t q q2] at he
      exact ⟨q, q2, he.trans h⟩
    · rw [thr_f2 q2] at he
      have he : far = _ := he
      omega
  · rw [thr_f q] at he
    have he : far = _ := he
    omega
theorem msg_0 : msg n 0 = n := by
  unfold msg
  have : ∀ N, cntN N (fun i => (0 : Nat).testBit i = false) = N := by
    intro N
    induction N with
    | zero => rfl
    | succ N ih => rw [cnt_S, ih, jN_t (Nat.zero_testBit N)]
  exact this n
theorem cnt_none {P : Nat → Prop} : ∀ {N : Nat}, (∀ i, i < N → ¬ P i) → cntN N P = 0
  | 0, _ => rfl
  | N + 1, h => by rw [cnt_S, cnt_none (fun i hi => h i (by omega)), jN_f (h N (by omega))]
theorem msg_full {s : Nat} (h : s + 1 = 2 ^ n) : msg n s = 0 := by
  refine cnt_none (fun i hi => ?_)
  have e : s = 2 ^ n - 1 := by omega
  rw [e, Nat.testBit_two_pow_sub_one, decide_eq_true hi]
  exact fun q => Bool.noConfusion q
/-- the walk keeps to the cost -/
theorem sq_ok (hn : n ≤ 9) (hW : (rW n nd ch).1 < far) : ∀ i, i < n → (sq n nd ch i).1 < 2 ^ n ∧ (sq n nd ch i).2 < n ∧ (sq n nd ch i).1.testBit (sq n nd ch i).2 = true ∧ (rT n nd ch (sq n nd ch i).1 (sq n nd ch i).2).1 < far ∧ msg n (sq n nd ch i).1 + (i + 1) = n
  | 0, h0 => by
    have e : (fd n (fun x => thr (myN nd 0 x) 0 (rT n nd ch (0 ||| 2 ^ x) x))).1 = (rW n nd ch).1 := by
      unfold rW
      rw [if_neg (by omega)]
      exact congrArg Prod.fst (fd_congr (fun i _ => by rw [Nat.zero_or]))
    obtain ⟨a1, a2, _⟩ := nxO_isF (st := fun _ => 0) e hW
    have hm := msg_or (n := n) a1 a2.1.1
    rw [msg_0, Nat.zero_or] at hm
    refine ⟨Nat.pow_lt_pow_right (by decide) a1, a1, Nat.testBit_two_pow_self, ?_, hm⟩
    have := a2.2.1
    rw [Nat.zero_or] at this
    exact this
  | i + 1, hi => by
    obtain ⟨b1, b2, b3, b4, b5⟩ := sq_ok hn hW i (by omega)
    have hnf : ¬ (sq n nd ch i).1 + 1 = 2 ^ n := fun q => by
      have := msg_full q
      omega
    obtain ⟨a1, a2, _⟩ := nxO_isF (st := ch (sq n nd ch i).2) (congrArg Prod.fst (rT_step b1 hnf)).symm b4
    have hm := msg_or (n := n) a1 a2.1.1
    refine ⟨or_lt b1 a1, a1, or_tb.mpr (Or.inr rfl), a2.2.1, ?_⟩
    show msg n ((sq n nd ch i).1 ||| 2 ^ _) + (i + 1 + 1) = n
    omega
/-- the next of the first order -/
theorem pX3_leastNext (hn : n ≤ 9) (hch : ∀ a b, ch a b ≤ 6) (h : oS n nd ch σ) {s x left : Nat} {v : Int32} {st : Nat → Nat} (hR : oR n nd ch σ (s + 1)) (hs : s < 2 ^ n) (hl : lsO n ch s v st) (hleft : left < far) (hF : isF n (nxC n nd ch s st left) x) (hq : Q (some (.inl (nI x))) σ) : ps_C mX3_leastNext (d + 1) [.inr (.inr (15, 0)), .inl (nI s), .inl v, .inl (nI left)] σ Q := by
  have h2n := p29 hn
  have hlb : left < 2 ^ 31 := Nat.lt_trans hleft (by decide)
  have hst : ∀ x, st x ≤ 6 := fun x => by
    rcases hl with ⟨_, rfl⟩ | ⟨l, _, _, _, rfl⟩
    · exact Nat.zero_le _
    · exact hch l x
  obtain ⟨hx, hC, hno⟩ := hF
  have key : ∀ r y, y + r = x → kX3_leastNext_3 d Q (nI s) v (nI left) (nI y) σ := by
    intro r
    have e1 : ∀ y, y < n → ((nI s ||| ((1 : Int32) <<< (nI y &&& 31))) * 9) + nI y = nI ((s ||| 2 ^ y) * 9 + y) := fun y hy => by
      rw [or_nI (by omega), show (9 : Int32) = nI 9 from rfl, ix_mul, nI_add]
    have step : ∀ y, y < n → (myN nd s y → kX3_leastNext_34 d Q (nI s) v (nI left) (nI y) (enc (thr True (st y) (rT n nd ch (s ||| 2 ^ y) y))) σ) → (¬ myN nd s y → kX3_leastNext_34 d Q (nI s) v (nI left) (nI y) (-1) σ) → kX3_leastNext_3 d Q (nI s) v (nI left) (nI y) σ := by
      intro y hy g1 g2
      refine bX3_leastNext_3 (fun c => ?_) (fun _ _ => vp_in_nI (by omega) (by decide)) (fun _ c => ?_) (fun _ c => ?_) (fun _ c c2 c3 => ?_) (fun _ c => ?_)
      · rw [h.1] at c
        exact lpN hy (by omega) c
      · rw [may_x hn h hs hy, jbP_0] at c
        exact g2 c
      · have hs5 : s ||| 2 ^ y < 512 := Nat.lt_of_lt_of_le (or_lt hs hy) h2n
        rw [e1 y hy]
        exact vp_in_nI (by omega) (by decide)
      · rcases hl with ⟨rfl, rfl⟩ | ⟨l, hl1, hl2, rfl, rfl⟩
        · exact absurd rfl c3
        · rw [show (9 : Int32) = nI 9 from rfl, ix_mul, nI_add]
          exact vp_in_nI (by omega) (by decide)
      · rw [may_x hn h hs hy, jbP_0, Classical.not_not] at c
        rw [thr_x hn hch h hR hs hy c.1 hl]
        exact g1 c
    -- what is packed
    have pk : ∀ y, y < n → (rT n nd ch (s ||| 2 ^ y) y).1 < far → enc (thr True (st y) (rT n nd ch (s ||| 2 ^ y) y)) = nI ((st y + (rT n nd ch (s ||| 2 ^ y) y).1) * 1048576 + (rT n nd ch (s ||| 2 ^ y) y).2) ∧ st y + (rT n nd ch (s ||| 2 ^ y) y).1 ≤ 100 ∧ (rT n nd ch (s ||| 2 ^ y) y).2 < 1048576 := by
      intro y hy z
      obtain ⟨o1, o2, o3⟩ := okW_lt (rT_ok (nd := nd) hn hch (l := y) (or_lt hs hy)) z
      have o4 := hst y
      rw [thr_t trivial z, enc_t (by show st y + (rT n nd ch (s ||| 2 ^ y) y).1 < far; unfold far; omega)]
      exact ⟨rfl, by omega, by omega⟩
    induction r with
    | zero =>
      intro y hy
      obtain rfl : y = x := by omega
      refine step y hx (fun c => ?_) (fun c => absurd hC.1 c)
      obtain ⟨p1, p2, p3⟩ := pk y hx hC.2.1
      rw [p1]
      refine bX3_leastNext_34 (fun q => absurd q (nI_neg1 (by omega))) (fun _ q => absurd ?_ q) (fun _ _ => hq)
      rw [enc_div p2 p3, hC.2.2]
    | succ r ih =>
      intro y hy
      have hyx : y < x := by omega
      have hnx := ih (y + 1) (by omega)
      rw [← nI_1 y] at hnx
      refine step y (by omega) (fun c => ?_) (fun c => ?_)
      · by_cases z : (rT n nd ch (s ||| 2 ^ y) y).1 < far
        · obtain ⟨p1, p2, p3⟩ := pk y (by omega) z
          rw [p1]
          refine bX3_leastNext_34 (fun _ => hnx) (fun _ _ => hnx) (fun _ q => ?_)
          rw [enc_div p2 p3, nI_eq (by omega) hlb] at q
          exact absurd ⟨c, z, q⟩ (hno y hyx)
        · rw [thr_f2 z]
          exact bX3_leastNext_34 (fun _ => hnx) (fun q => absurd rfl q) (fun q => absurd rfl q)
      · exact bX3_leastNext_34 (fun _ => hnx) (fun q => absurd rfl q) (fun q => absurd rfl q)
  exact eX3_leastNext (bX3_leastNext_0 (key x 0 (by omega)))
theorem pX3_walkFirst {f : Nat} (hn : n ≤ 9) (hch : ∀ a b, ch a b ≤ 6) (h : oS n nd ch σ) (hR : oR n nd ch σ 1) (hW : (rW n nd ch).1 < far) (hq : ∀ σ', (∀ g, g ≠ 10 → σ' g = σ g) → (∀ k, k ≠ f → σ' 10 k = σ 10 k) → (∀ i, i < n → σ' 10 f i = nI (sq n nd ch i).2) → (∀ i, n ≤ i → σ' 10 f i = σ 10 f i) → Q none σ') : ps_C mX3_walkFirst (d + 2) [.inr (.inr (15, 0)), .inr (.inr (10, f)), .inl (nI (rW n nd ch).1)] σ Q := by
  have h2n := p29 hn
  have h2p := Nat.two_pow_pos n
  have oS' : ∀ ρ : ps_S, (∀ g, g ≠ 10 → ρ g = σ g) → oS n nd ch ρ := fun ρ f1 => by
    unfold oS; rw [f1 15 (by decide), f1 18 (by decide), f1 17 (by decide)]; exact h
  have oR' : ∀ ρ : ps_S, (∀ g, g ≠ 10 → ρ g = σ g) → ∀ s, oR n nd ch ρ (s + 1) := fun ρ f1 s s' l a b c e => by
    rw [f1 16 (by decide)]; exact hR s' l (by omega) b c e
  -- from place i + 1 on
  have loop : ∀ r i, i + 1 + r = n → ∀ ρ, (∀ g, g ≠ 10 → ρ g = σ g) → (∀ k, k ≠ f → ρ 10 k = σ 10 k) → (∀ j, j < i + 1 → ρ 10 f j = nI (sq n nd ch j).2) → (∀ j, i + 1 ≤ j → ρ 10 f j = σ 10 f j) → kX3_walkFirst_12 (d + 1) Q f (nI (sq n nd ch i).1) (nI (sq n nd ch i).2) (nI (rT n nd ch (sq n nd ch i).1 (sq n nd ch i).2).1) (nI (i + 1)) ρ := by
    intro r
    induction r with
    | zero =>
      intro i hi ρ f1 f2 f3 f4
      obtain rfl : n = i + 1 := by omega
      refine bX3_walkFirst_12 (fun _ => hq ρ f1 f2 f3 f4) (fun c => absurd ?_ c)
      rw [(oS' ρ f1).1]
      exact nI_le (Nat.le_refl _) (by omega)
    | succ r ih =>
      intro i hi ρ f1 f2 f3 f4
      obtain ⟨b1, b2, b3, b4, b5⟩ := sq_ok hn hW i (by omega)
      have hnf : ¬ (sq n nd ch i).1 + 1 = 2 ^ n := fun q => by
        have := msg_full q
        omega
      have hF := nxO_isF (st := ch (sq n nd ch i).2) (congrArg Prod.fst (rT_step b1 hnf)).symm b4
      obtain ⟨x, hx⟩ : ∃ x, x = nxO n nd ch (sq n nd ch i).1 (ch (sq n nd ch i).2) (rT n nd ch (sq n nd ch i).1 (sq n nd ch i).2).1 := ⟨_, rfl⟩
      have e0 : sq n nd ch (i + 1) = ((sq n nd ch i).1 ||| 2 ^ x, x) := by rw [hx]; rfl
      rw [← hx] at hF
      obtain ⟨hx0, hC, _⟩ := id hF
      have hb : (sq n nd ch i).1.testBit x = false := hC.1.1
      have hne : (sq n nd ch i).2 ≠ x := fun q => by rw [q, hb] at b3; cases b3
      have hc6 := hch (sq n nd ch i).2 x
      have hb4 : (rT n nd ch (sq n nd ch i).1 (sq n nd ch i).2).1 < 2 ^ 31 := Nat.lt_trans b4 (by decide)
      have e1 : (nI (sq n nd ch i).2 * 9) + nI x = nI ((sq n nd ch i).2 * 9 + x) := by rw [show (9 : Int32) = nI 9 from rfl, ix_mul, nI_add]
      refine bX3_walkFirst_12 (fun c => ?_) (fun _ => pX3_leastNext hn hch (oS' ρ f1) (oR' ρ f1 _) b1 (Or.inr ⟨_, b2, b3, rfl, rfl⟩) b4 hF ⟨_, rfl, ?_⟩)
      · rw [(oS' ρ f1).1] at c
        exact lpN (show i + 1 < n by omega) (by omega) c
      · refine bX3_walkFirst_30 (fun _ => vp_in_nI (by omega) (by decide)) (fun _ _ => by rw [e1]; exact vp_in_nI (by omega) (by decide)) (fun _ _ => ?_) (fun _ q => absurd q (nI_none (by omega))) (fun q => absurd q (nI_none (by omega)))
        refine bX3_walkFirst_72 ?_
        rw [e1, nI_clamp (n := (sq n nd ch i).2 * 9 + x) (by omega), nI_clamp (n := i + 1) (by omega), ps_up_o (by decide), (oS' ρ f1).2.2 _ x b2 hx0 hne, or_nI (by omega), nI_sub (by have := hC.2.2; omega), nI_1]
        have hnx := ih (i + 1) (by omega) (ps_up ρ 10 f (i + 1) (nI x)) (fun g hg => by rw [ps_up_o hg]; exact f1 g hg) (fun k hk => by rw [ps_up_k hk]; exact f2 k hk) (fun j hj => ?_) (fun j hj => by rw [ps_up_v (by omega)]; exact f4 j (by omega))
        · rw [e0] at hnx
          have e3 : (rT n nd ch (sq n nd ch i).1 (sq n nd ch i).2).1 - ch (sq n nd ch i).2 x = (rT n nd ch ((sq n nd ch i).1 ||| 2 ^ x) x).1 := by have := hC.2.2; omega
          rw [e3]
          exact hnx
        · rcases Nat.lt_or_eq_of_le (Nat.le_of_lt_succ hj) with z | z
          · rw [ps_up_v (by omega)]; exact f3 j z
          · rw [z, ps_up_s, e0]
  refine eX3_walkFirst (bX3_walkFirst_0 ?_)
  rcases Nat.eq_zero_or_pos n with z | z
  · refine bX3_walkFirst_12 (fun _ => hq σ (fun _ _ => rfl) (fun _ _ => rfl) (fun i hi => absurd hi (by omega)) (fun _ _ => rfl)) (fun c => absurd ?_ c)
    rw [h.1, z]
    exact nI_le (a := 0) (b := 0) (Nat.le_refl _) (by decide)
  · have e : (fd n (fun x => thr (myN nd 0 x) 0 (rT n nd ch (0 ||| 2 ^ x) x))).1 = (rW n nd ch).1 := by
      unfold rW
      rw [if_neg (by omega)]
      exact congrArg Prod.fst (fd_congr (fun i _ => by rw [Nat.zero_or]))
    have hF := nxO_isF (st := fun _ => 0) e hW
    obtain ⟨x, hx⟩ : ∃ x, x = nxO n nd ch 0 (fun _ => 0) (rW n nd ch).1 := ⟨_, rfl⟩
    have e0 : sq n nd ch 0 = (2 ^ x, x) := by rw [hx]; rfl
    rw [← hx] at hF
    obtain ⟨hx0, hC, _⟩ := id hF
    refine bX3_walkFirst_12 (fun c => ?_) (fun _ => pX3_leastNext (s := 0) (st := fun _ => 0) hn hch h (oR' σ (fun _ _ => rfl) 0) h2p (Or.inl ⟨rfl, rfl⟩) hW hF ⟨_, rfl, ?_⟩)
    · rw [h.1] at c
      exact lpN (j := 0) z (by omega) c
    · refine bX3_walkFirst_30 (fun _ => vp_in_nI (n := 0) (by decide) (by decide)) (fun _ q => absurd rfl q) (fun _ q => absurd rfl q) (fun _ _ => ?_) (fun q => absurd q (nI_none (by omega)))
      refine bX3_walkFirst_72 ?_
      have h1 := loop (n - 1) 0 (by omega) (ps_up σ 10 f 0 (nI x)) (fun g hg => by rw [ps_up_o hg]) (fun k hk => by rw [ps_up_k hk]) (fun j hj => ?_) (fun j hj => by rw [ps_up_v (by omega)])
      · rw [e0] at h1
        have e3 : (rT n nd ch (2 ^ x) x).1 = (rW n nd ch).1 := by
          have := hC.2.2
          rw [Nat.zero_or, Nat.zero_add] at this
          exact this
        rw [show (0 : Int32) = nI 0 from rfl, or_nI (by omega), Nat.zero_or, nI_sub (Nat.zero_le _), Nat.sub_zero, ← e3]
        exact h1
      · obtain rfl : j = 0 := by omega
        rw [ps_up_s, e0]
end OX

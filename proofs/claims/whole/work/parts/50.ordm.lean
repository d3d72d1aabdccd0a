/-! ===== orders of states: the reference ===== -/
/-- what the reference's questions leave as it was -/
def frB (ρ ρ' : ps_S) : Prop := (∀ g, g < 50 → ρ' g = ρ g) ∧ eqB ρ ρ'
theorem frB_of {ρ ρ' : ps_S} (h1 : ∀ g, g ≠ 50 → g ≠ 53 → g ≠ 54 → (g < 55 ∨ 57 < g) → (g < 59 ∨ 62 < g) → g ≠ 65 → g ≠ 66 → g ≠ 67 → ρ' g = ρ g) (h2 : ∀ j, j ≠ 1 → ρ' 50 0 j = ρ 50 0 j) : frB ρ ρ' := by
  refine ⟨fun g hg => h1 g (by omega) (by omega) (by omega) (by omega) (by omega) (by omega) (by omega) (by omega), ?_⟩
  have e : ∀ g, g = 51 ∨ g = 58 ∨ g = 63 ∨ g = 68 ∨ g = 69 ∨ g = 70 ∨ g = 74 ∨ g = 75 → ρ g 0 = ρ' g 0 := fun g hg => by rw [h1 g (by omega) (by omega) (by omega) (by omega) (by omega) (by omega) (by omega) (by omega)]
  exact ⟨e 51 (by omega), e 58 (by omega), e 63 (by omega), e 68 (by omega), e 69 (by omega), e 70 (by omega), e 74 (by omega), e 75 (by omega), (h2 13 (by decide)).symm, (h2 20 (by decide)).symm, (h2 21 (by decide)).symm, (h2 22 (by decide)).symm, (h2 25 (by decide)).symm⟩
theorem frB_refl (ρ : ps_S) : frB ρ ρ := frB_of (fun _ _ _ _ _ _ _ _ _ => rfl) (fun _ _ => rfl)
theorem frB_trans {ρ ρ' ρ'' : ps_S} (h : frB ρ ρ') (h' : frB ρ' ρ'') : frB ρ ρ'' := by
  obtain ⟨h0, a1, a2, a3, a4, a5, a6, a7, a8, a9, a10, a11, a12, a13⟩ := h
  obtain ⟨h0', b1, b2, b3, b4, b5, b6, b7, b8, b9, b10, b11, b12, b13⟩ := h'
  exact ⟨fun g hg => (h0' g hg).trans (h0 g hg), a1.trans b1, a2.trans b2, a3.trans b3, a4.trans b4, a5.trans b5, a6.trans b6, a7.trans b7, a8.trans b8, a9.trans b9, a10.trans b10, a11.trans b11, a12.trans b12, a13.trans b13⟩
theorem frB_L {ρ ρ' : ps_S} (h : frL ρ ρ') : frB ρ ρ' := frB_of (fun g a b c _ _ _ _ _ => h.1 g a b c) h.2
theorem frB_g {ρ ρ' : ps_S} (h : ∀ g, (g < 59 ∨ 62 < g) → ρ' g = ρ g) : frB ρ ρ' := frB_of (fun g _ _ _ _ a _ _ _ => h g a) (fun j _ => by rw [h 50 (by omega)])
def mS (n : Nat) (nd : Nat → Nat → Prop) (ch : Nat → Nat → Nat) (ρ : ps_S) : Prop := ρ 50 0 1 = nI n ∧ (∀ a, a < n → bm (ρ 59 0 a) 9 (nd a)) ∧ ∀ a b, a < n → b < n → ρ 60 0 (9 * a + b) = nI (ch a b)
def mR (n : Nat) (nd : Nat → Nat → Prop) (ch : Nat → Nat → Nat) (ρ : ps_S) (s0 : Nat) : Prop := ∀ s l, s0 ≤ s → s < 2 ^ n → l < n → ρ 61 0 (9 * s + l) = nI (rT n nd ch s l).1 ∧ ρ 62 0 (9 * s + l) = nI (rT n nd ch s l).2
theorem okW_le {r : Nat × Nat} (h : okW r) : r.1 ≤ far ∧ r.2 ≤ 362880 := by
  rcases h with z | z
  · rw [z]; exact ⟨Nat.le_refl _, Nat.zero_le _⟩
  · unfold far; omega
theorem jn_far {r : Nat × Nat} (h : okW r) : jn r (far, 0) = r := by
  unfold jn
  rcases h with z | z
  · rw [z]; rfl
  · have : r.1 < far := by unfold far; omega
    rw [if_neg (by show ¬ far < r.1; omega), if_neg (by show ¬ far = r.1; omega)]
section OMm
variable {n : Nat} {nd : Nat → Nat → Prop} {ch : Nat → Nat → Nat} {ρ : ps_S} {d : Nat} {Q : Option ps_V → ps_S → Prop}
theorem ix9 (a b : Nat) : (9 * nI a) + nI b = nI (9 * a + b) := by rw [show (9 : Int32) = nI 9 from rfl, ix_mul, nI_add]
theorem ix9o {s x : Nat} (hx : x < 9) : (9 * (nI s ||| ((1 : Int32) <<< (nI x &&& 31)))) + nI x = nI (9 * (s ||| 2 ^ x) + x) := by rw [or_nI hx, ix9]
/-- one that may come next is weighed -/
theorem lo137 {v1 : Int32} {s l x V w : Nat} {F : Nat × Nat} (hn : n ≤ 9) (hs : s < 2 ^ n) (hx : x < n) (hF : okW F) (hV : V < 2 ^ 31) (hw : V < far → ρ 62 0 (9 * (s ||| 2 ^ x) + x) = nI w) (h : kX8_layOrders_53 d Q v1 (nI s) (nI l) (nI (jn F (if V < far then (V, w) else (far, 0))).1) (nI (jn F (if V < far then (V, w) else (far, 0))).2) (nI (x + 1)) ρ) : kX8_layOrders_137 d Q v1 (nI s) (nI l) (nI F.1) (nI F.2) (nI x) (nI V) ρ := by
  have hso : s ||| 2 ^ x < 512 := Nat.lt_of_lt_of_le (or_lt hs hx) (p29 hn)
  have hok := okW_le hF
  have hfar : far = 100000000 := rfl
  have e0 : (100000000 : Int32) = nI far := rfl
  have hvp : vp_in ((9 * (nI s ||| ((1 : Int32) <<< (nI x &&& 31)))) + nI x) 4608 := by rw [ix9o (by omega)]; exact vp_in_nI (by omega) (by decide)
  have ei : ((9 * (nI s ||| ((1 : Int32) <<< (nI x &&& 31)))) + nI x).toNatClampNeg = 9 * (s ||| 2 ^ x) + x := by rw [ix9o (by omega)]; exact nI_clamp (by omega)
  have keep : jn F (if V < far then (V, w) else (far, 0)) = F → F.1 ≤ V → kX8_layOrders_203 d Q v1 (nI s) (nI l) (nI F.1) (nI F.2) (nI x) (nI V) ρ := by
    intro e hle
    rw [e] at h
    refine bX8_layOrders_203 (bX8_layOrders_205 (fun _ => ?_) (fun c => absurd (nI_le hle hV) c))
    rw [nI_1]
    exact h
  have kf : ¬ V < far → jn F (if V < far then (V, w) else (far, 0)) = F := fun c => by rw [if_neg c]; exact jn_far hF
  refine bX8_layOrders_137 (fun c1 c2 => ?_) (fun c1 c2 c3 => ?_) (fun _ _ _ => hvp) (fun c1 c2 c3 => ?_) (fun _ => hvp) (fun c1 => ?_)
  · rw [nI_leI (by omega) hV] at c1
    rw [nI_eq hV (by omega)] at c2
    refine keep ?_ c1
    by_cases z : V < far
    · rw [if_pos z]
      unfold jn
      rw [if_neg (by show ¬ V < F.1; omega), if_neg (by show ¬ V = F.1; omega)]
    · exact kf z
  · rw [nI_leI (by omega) hV] at c1
    rw [e0, nI_leI (by decide) hV] at c3
    exact keep (kf (by omega)) c1
  · rw [nI_eq hV (by omega)] at c2
    rw [e0, nI_leI (by decide) hV] at c3
    have z : V < far := by omega
    rw [ei, hw z, nI_add]
    rw [if_pos z] at h
    unfold jn at h
    rw [if_neg (by show ¬ V < F.1; omega), if_pos c2] at h
    refine bX8_layOrders_205 (fun _ => ?_) (fun c => absurd (nI_le (by omega) hV) c)
    rw [nI_1]
    exact h
  · rw [nI_leI (by omega) hV] at c1
    have z : V < far := by omega
    rw [ei, hw z]
    rw [if_pos z] at h
    unfold jn at h
    rw [if_pos (by show V < F.1; omega)] at h
    refine bX8_layOrders_205 (fun c => absurd c (nI_ge (by omega) (by omega))) (fun _ => ?_)
    rw [nI_1]
    exact h
theorem pX8_layOrders (hn : n ≤ 9) (hch : ∀ a b, ch a b ≤ 6) (h : mS n nd ch ρ) (hq : ∀ ρ', (∀ g, g ≠ 61 → g ≠ 62 → ρ' g = ρ g) → mR n nd ch ρ' 1 → Q none ρ') : ps_C mX8_layOrders d [ps_m] ρ Q := by
  have h2n := p29 hn
  have h2p := Nat.two_pow_pos n
  have hfar : far = 100000000 := rfl
  have e0 : (100000000 : Int32) = nI far := rfl
  have outer : ∀ s, s < 2 ^ n → ∀ ρ', (∀ g, g ≠ 61 → g ≠ 62 → ρ' g = ρ g) → mR n nd ch ρ' (s + 1) → kX8_layOrders_11 d Q (nI (2 ^ n - 1)) (nI s) ρ' := by
    intro s
    induction s with
    | zero =>
      intro _ ρ' f1 f2
      exact bX8_layOrders_11 (fun _ => hq ρ' f1 f2) (fun c => absurd (nI_le (a := 0) (b := 0) (Nat.le_refl _) (by decide)) c)
    | succ s ih =>
      intro hs ρ' f1 f2
      have hs5 : s + 1 < 512 := by omega
      have inner : ∀ r l, l + r = n → ∀ ρ', (∀ g, g ≠ 61 → g ≠ 62 → ρ' g = ρ g) → mR n nd ch ρ' (s + 1 + 1) → (∀ l', l' < l → ρ' 61 0 (9 * (s + 1) + l') = nI (rT n nd ch (s + 1) l').1 ∧ ρ' 62 0 (9 * (s + 1) + l') = nI (rT n nd ch (s + 1) l').2) → kX8_layOrders_17 d Q (nI (2 ^ n - 1)) (nI (s + 1)) (nI l) ρ' := by
        intro r
        induction r with
        | zero =>
          intro l hl ρ' f1 f2 f3
          obtain rfl : l = n := by omega
          have h50 : ρ' 50 0 1 = nI l := by rw [f1 50 (by decide) (by decide)]; exact h.1
          refine bX8_layOrders_17 (fun _ => ?_) ?_ ?_
          · rw [nI_m1]
            refine ih (by omega) ρ' f1 (fun s' l' a b c => ?_)
            rcases Nat.lt_or_eq_of_le a with z | z
            · exact f2 s' l' z b c
            · rw [← z]; exact f3 l' c
          all_goals rw [h50]
          all_goals exact lpX (by omega)
        | succ r ih2 =>
          intro l hl ρ' f1 f2 f3
          have hl0 : l < n := by omega
          have h50 : ρ' 50 0 1 = nI n := by rw [f1 50 (by decide) (by decide)]; exact h.1
          have hok := rT_ok (nd := nd) hn hch (l := l) hs
          have hle := okW_le hok
          -- what is written
          have write : ∀ F : Nat × Nat, F = rT n nd ch (s + 1) l → kX8_layOrders_229 d Q (nI (2 ^ n - 1)) (nI (s + 1)) (nI l) (nI F.1) (nI F.2) ρ' := by
            intro F hF
            rw [hF]
            have ei : ((9 * nI (s + 1)) + nI l).toNatClampNeg = 9 * (s + 1) + l := by rw [ix9]; exact nI_clamp (by omega)
            have hvp : vp_in ((9 * nI (s + 1)) + nI l) 4608 := by rw [ix9]; exact vp_in_nI (by omega) (by decide)
            have go : ∀ c w, c = nI (rT n nd ch (s + 1) l).1 → w = nI (rT n nd ch (s + 1) l).2 → kX8_layOrders_17 d Q (nI (2 ^ n - 1)) (nI (s + 1)) (nI l + 1) (ps_up (ps_up ρ' 61 0 ((9 * nI (s + 1)) + nI l).toNatClampNeg c) 62 0 ((9 * nI (s + 1)) + nI l).toNatClampNeg w) := by
              intro c w hc hw
              rw [ei, nI_1]
              refine ih2 (l + 1) (by omega) _ (fun g x y => by rw [ps_up_o y, ps_up_o x]; exact f1 g x y) (fun s' l' a b e => ?_) (fun l' a => ?_)
              · rw [ps_up_o (by decide), ps_up_v (by omega), ps_up_v (by omega), ps_up_o (by decide)]
                exact f2 s' l' a b e
              · rcases Nat.lt_or_eq_of_le (Nat.le_of_lt_succ a) with z | z
                · rw [ps_up_o (by decide), ps_up_v (by omega), ps_up_v (by omega), ps_up_o (by decide)]
                  exact f3 l' z
                · rw [z, ps_up_o (by decide), ps_up_s, ps_up_s]
                  exact ⟨hc, hw⟩
            refine bX8_layOrders_229 (fun c => ?_) (fun c => ?_)
            · rw [e0, nI_leI (by decide) (by omega)] at c
              have e := okW_far hok (by omega)
              refine bX8_layOrders_253 hvp (fun _ => hvp) (fun _ => go _ _ (by rw [e]; rfl) (by rw [e]; rfl)) (fun _ => hvp) (fun q => absurd (nI_le (a := far) (by omega) (by omega)) q)
            · refine bX8_layOrders_253 hvp (fun _ => hvp) (fun q => absurd q c) (fun _ => hvp) (fun _ => go _ _ rfl rfl)
          by_cases hfull : s + 1 + 1 = 2 ^ n
          · have ee : nI (s + 1) = nI (2 ^ n - 1) := by congr 1; omega
            have w0 := write (0, 1) (rT_full hfull).symm
            refine bX8_layOrders_17 (fun c => ?_) (fun _ c => absurd ee c) (fun _ _ => bX8_layOrders_36 (fun c => absurd ee c) (fun _ => bX8_layOrders_53 (fun _ => w0) (fun _ _ => w0) (fun _ c => absurd ee c) (fun _ c => absurd ee c) (fun _ c => absurd ee c) (fun _ c => absurd ee c)))
            rw [h50] at c
            exact lpN hl0 (by omega) c
          · have ne : ¬ nI (s + 1) = nI (2 ^ n - 1) := fun q => by rw [nI_eq (by omega) (by omega)] at q; omega
            have w1 := write (fd n (fun x => thr (myN nd (s + 1) x) (ch l x) (rT n nd ch (s + 1 ||| 2 ^ x) x))) (rT_step hs hfull).symm
            have steps : ∀ t x, x + t = n → kX8_layOrders_53 d Q (nI (2 ^ n - 1)) (nI (s + 1)) (nI l) (nI (fd x (fun x => thr (myN nd (s + 1) x) (ch l x) (rT n nd ch (s + 1 ||| 2 ^ x) x))).1) (nI (fd x (fun x => thr (myN nd (s + 1) x) (ch l x) (rT n nd ch (s + 1 ||| 2 ^ x) x))).2) (nI x) ρ' := by
              intro t
              induction t with
              | zero =>
                intro x hx
                obtain rfl : x = n := by omega
                refine bX8_layOrders_53 (fun _ => w1) (fun _ _ => w1) ?_ ?_ ?_ ?_
                all_goals rw [h50]
                all_goals exact lpX (by omega)
              | succ t ih3 =>
                intro x hx
                have hx0 : x < n := by omega
                have hxc : (nI x).toNatClampNeg = x := nI_clamp (by omega)
                have okp := fk_ok (nd := nd) hn hch hs (st := ch l) (hch l) (k := x) (by omega)
                have hnx := ih3 (x + 1) (by omega)
                have hbit := bm_bit (bmN hs5) (show x < 9 by omega) (by decide)
                have h59 : bm (ρ' 59 0 x) 9 (nd x) := by rw [f1 59 (by decide) (by decide)]; exact h.2.1 x hx0
                have z2 : (ρ' 59 0 x) &&& (nI (s + 1) ^^^ (-1)) = 0 ↔ ∀ i, i < 9 → ¬ (nd x i ∧ ¬ (s + 1).testBit i = true) := bm_zero (bm_diff h59 (bmN hs5)) (by decide)
                have hno : ¬ myN nd (s + 1) x → kX8_layOrders_94 d Q (nI (2 ^ n - 1)) (nI (s + 1)) (nI l) (nI (fd x (fun x => thr (myN nd (s + 1) x) (ch l x) (rT n nd ch (s + 1 ||| 2 ^ x) x))).1) (nI (fd x (fun x => thr (myN nd (s + 1) x) (ch l x) (rT n nd ch (s + 1 ||| 2 ^ x) x))).2) (nI x) ρ' := by
                  intro c
                  refine bX8_layOrders_94 (bX8_layOrders_95 (fun _ => ?_) (fun q => absurd rfl q) (fun q => absurd rfl q) (fun q => absurd rfl q))
                  refine lo137 (V := far) (w := 0) hn hs hx0 okp (by decide) (fun q => absurd q (Nat.lt_irrefl _)) ?_
                  rw [if_neg (Nat.lt_irrefl _)]
                  have e : fd (x + 1) (fun x => thr (myN nd (s + 1) x) (ch l x) (rT n nd ch (s + 1 ||| 2 ^ x) x)) = jn (fd x (fun x => thr (myN nd (s + 1) x) (ch l x) (rT n nd ch (s + 1 ||| 2 ^ x) x))) (far, 0) := by
                    show jn _ (thr (myN nd (s + 1) x) (ch l x) (rT n nd ch (s + 1 ||| 2 ^ x) x)) = _
                    rw [thr_f c]
                  rw [e] at hnx
                  exact hnx
                refine bX8_layOrders_53 (fun c => ?_) (fun _ c => absurd c ne) (fun _ _ c => hno (fun q => ?_)) (fun _ _ _ => vp_in_nI (by omega) (by decide)) (fun _ _ c c2 => hno (fun q => ?_)) (fun _ _ c c2 => ?_)
                · rw [h50] at c
                  exact lpN hx0 (by omega) c
                · rw [hbit, jbP_0, q.1] at c
                  exact c (by decide)
                · rw [hxc, z2] at c2
                  exact c2 (fun i hi w => w.2 (q.2 i hi w.1))
                · rw [hbit, jbP_0, Bool.not_eq_true] at c
                  rw [hxc, z2] at c2
                  have hm : myN nd (s + 1) x := ⟨c, fun i hi hd => Classical.not_not.mp (fun q => c2 i hi ⟨hd, q⟩)⟩
                  have hso : s + 1 ||| 2 ^ x < 512 := Nat.lt_of_lt_of_le (or_lt hs hx0) h2n
                  have hgt := or_gt c
                  obtain ⟨r1, r2⟩ := f2 (s + 1 ||| 2 ^ x) x (by omega) (or_lt hs hx0) hx0
                  have hrok := rT_ok (nd := nd) hn hch (l := x) (or_lt hs hx0)
                  have hrle := okW_le hrok
                  have hc6 := hch l x
                  refine bX8_layOrders_95 (fun q => absurd q (by decide)) (fun _ => by rw [ix9]; exact vp_in_nI (by omega) (by decide)) (fun _ => by rw [ix9o (by omega)]; exact vp_in_nI (by omega) (by decide)) (fun _ => ?_)
                  have e60 : ρ' 60 0 (9 * l + x) = nI (ch l x) := by rw [f1 60 (by decide) (by decide)]; exact h.2.2 l x hl0 hx0
                  rw [ix9, nI_clamp (n := 9 * l + x) (by omega), e60, ix9o (by omega), nI_clamp (by omega), r1, nI_add]
                  refine lo137 (V := ch l x + (rT n nd ch (s + 1 ||| 2 ^ x) x).1) (w := (rT n nd ch (s + 1 ||| 2 ^ x) x).2) hn hs hx0 okp (by omega) (fun _ => r2) ?_
                  have e : fd (x + 1) (fun x => thr (myN nd (s + 1) x) (ch l x) (rT n nd ch (s + 1 ||| 2 ^ x) x)) = jn (fd x (fun x => thr (myN nd (s + 1) x) (ch l x) (rT n nd ch (s + 1 ||| 2 ^ x) x))) (if ch l x + (rT n nd ch (s + 1 ||| 2 ^ x) x).1 < far then (ch l x + (rT n nd ch (s + 1 ||| 2 ^ x) x).1, (rT n nd ch (s + 1 ||| 2 ^ x) x).2) else (far, 0)) := by
                    show jn _ (thr (myN nd (s + 1) x) (ch l x) (rT n nd ch (s + 1 ||| 2 ^ x) x)) = _
                    congr 1
                    by_cases z : (rT n nd ch (s + 1 ||| 2 ^ x) x).1 < far
                    · have := okW_lt hrok z
                      rw [thr_t hm z, if_pos (by omega)]
                    · rw [thr_f2 z, if_neg (by omega)]
                  rw [e] at hnx
                  exact hnx
            refine bX8_layOrders_17 (fun c => ?_) (fun _ _ => bX8_layOrders_36 (fun _ => steps n 0 (by omega)) (fun q => absurd q ne)) (fun _ q => absurd q ne)
            rw [h50] at c
            exact lpN hl0 (by omega) c
      exact bX8_layOrders_11 (fun c => absurd c (nI_ge (a := 0) (b := s + 1) (by omega) (by omega))) (fun _ => inner n 0 (by omega) ρ' f1 f2 (fun l' a => absurd a (by omega)))
  refine eX8_layOrders (bX8_layOrders_0 ?_)
  rw [h.1, full_n hn]
  exact outer (2 ^ n - 1) (by omega) ρ (fun _ _ _ => rfl) (fun s l a b _ => absurd b (by omega))
/-- the first choices -/
noncomputable def g0 (n : Nat) (nd : Nat → Nat → Prop) (ch : Nat → Nat → Nat) (x : Nat) : Nat × Nat := thr (myN nd 0 x) 0 (rT n nd ch (2 ^ x) x)
theorem rW_g (h : n ≠ 0) : rW n nd ch = fd n (g0 n nd ch) := by unfold rW; rw [if_neg h]; rfl
theorem may0 {x : Nat} : myN nd 0 x ↔ ∀ i, i < 9 → ¬ nd x i := by
  unfold myN
  constructor
  · intro q i hi hd
    have := q.2 i hi hd
    rw [Nat.zero_testBit] at this
    cases this
  · intro q
    exact ⟨Nat.zero_testBit x, fun i hi hd => absurd hd (q i hi)⟩
theorem g0_ok (hn : n ≤ 9) (hch : ∀ a b, ch a b ≤ 6) {x : Nat} (hx : x < n) : okW (g0 n nd ch x) := by
  have hok := rT_ok (nd := nd) hn hch (s := 2 ^ x) (l := x) (Nat.pow_lt_pow_right (by decide) hx)
  unfold g0
  by_cases z : (rT n nd ch (2 ^ x) x).1 < far
  · by_cases q : myN nd 0 x
    · rw [thr_t q z]
      obtain ⟨o1, o2, o3⟩ := okW_lt hok z
      exact Or.inr ⟨by show 0 + (rT n nd ch (2 ^ x) x).1 ≤ 54; omega, o2, o3⟩
    · rw [thr_f q]; exact Or.inl rfl
  · rw [thr_f2 z]; exact Or.inl rfl
theorem f0_ok (hn : n ≤ 9) (hch : ∀ a b, ch a b ≤ 6) {k : Nat} (hk : k ≤ n) : okW (fd k (g0 n nd ch)) := by
  have e : fd k (g0 n nd ch) = fd k (fun x => thr (myN nd 0 x) ((fun _ => 0) x) (rT n nd ch (0 ||| 2 ^ x) x)) := fd_congr (fun i _ => by unfold g0; rw [Nat.zero_or])
  rw [e]
  exact fk_ok hn hch (Nat.two_pow_pos n) (fun _ => Nat.zero_le _) hk
theorem jn_min (a b : Nat × Nat) : (jn a b).1 = min a.1 b.1 := by
  unfold jn
  split
  · omega
  · split
    · show a.1 = _; omega
    · omega
theorem c1x {x : Nat} (hx : x < 9) : (9 * ((1 : Int32) <<< (nI x &&& 31))) + nI x = nI (9 * 2 ^ x + x) := by rw [nx_sh1 x (by omega), ix9]
/-- a first choice, as the reference looks at it -/
theorem g0_x (hn : n ≤ 9) (h : mS n nd ch ρ) (hR : mR n nd ch ρ 1) (hch : ∀ a b, ch a b ≤ 6) {x : Nat} (hx : x < n) : (ρ 59 0 x = 0 ↔ myN nd 0 x) ∧ 9 * 2 ^ x + x < 4608 ∧ (myN nd 0 x → ρ 61 0 (9 * 2 ^ x + x) = nI (g0 n nd ch x).1 ∧ ρ 62 0 (9 * 2 ^ x + x) = nI (g0 n nd ch x).2) := by
  have hlt : 2 ^ x < 2 ^ n := Nat.pow_lt_pow_right (by decide) hx
  have h2n := p29 hn
  have hp := Nat.two_pow_pos x
  refine ⟨?_, by omega, fun q => ?_⟩
  · rw [bm_zero (h.2.1 x hx) (by decide), may0]
  · have hr := hR (2 ^ x) x hp hlt hx
    have hok := rT_ok (nd := nd) hn hch (s := 2 ^ x) (l := x) hlt
    unfold g0
    by_cases z : (rT n nd ch (2 ^ x) x).1 < far
    · rw [thr_t q z, hr.1, hr.2]
      exact ⟨by show _ = nI (0 + _); rw [Nat.zero_add], rfl⟩
    · rw [thr_f2 z, hr.1, hr.2, okW_far hok z]
      exact ⟨rfl, rfl⟩
theorem pX8_leastCost (hn : n ≤ 9) (hch : ∀ a b, ch a b ≤ 6) (h : mS n nd ch ρ) (hR : mR n nd ch ρ 1) (hq : Q (some (.inl (nI (rW n nd ch).1))) ρ) : ps_C mX8_leastCost d [ps_m] ρ Q := by
  have hfar : far = 100000000 := rfl
  have e0 : (100000000 : Int32) = nI far := rfl
  refine eX8_leastCost (bX8_leastCost_0 (fun c => ?_) (fun c => ?_))
  · have hn0 : n ≠ 0 := fun q => c (by rw [h.1, q]; rfl)
    rw [rW_g hn0] at hq
    have key : ∀ r x, x + r = n → kX8_leastCost_16 d Q (nI (fd x (g0 n nd ch)).1) (nI x) ρ := by
      intro r
      induction r with
      | zero =>
        intro x hx
        obtain rfl : x = n := by omega
        refine bX8_leastCost_16 (fun _ => hq) ?_ ?_ ?_ ?_
        all_goals rw [h.1]
        all_goals exact lpX (by omega)
      | succ r ih =>
        intro x hx
        have hx0 : x < n := by omega
        have hxc : (nI x).toNatClampNeg = x := nI_clamp (by omega)
        obtain ⟨g1, g2, g3⟩ := g0_x hn h hR hch hx0
        have okf := okW_le (f0_ok (nd := nd) hn hch (k := x) (by omega))
        have okg := okW_le (g0_ok (nd := nd) hn hch hx0)
        have hnx := ih (x + 1) (by omega)
        have e : (fd (x + 1) (g0 n nd ch)).1 = min (fd x (g0 n nd ch)).1 (g0 n nd ch x).1 := jn_min _ _
        have nxt : kX8_leastCost_51 d Q (nI (fd x (g0 n nd ch)).1) (nI x) (nI (g0 n nd ch x).1) ρ := by
          rw [e] at hnx
          refine bX8_leastCost_51 (fun q => ?_) (fun q => ?_)
          · rw [nI_leI (by omega) (by omega)] at q
            rw [nI_1]
            rw [Nat.min_eq_left q] at hnx
            exact hnx
          · rw [nI_leI (by omega) (by omega)] at q
            rw [nI_1]
            rw [Nat.min_eq_right (by omega)] at hnx
            exact hnx
        refine bX8_leastCost_16 (fun q => ?_) (fun _ => vp_in_nI (by omega) (by decide)) (fun _ q => ?_) (fun _ q => by rw [c1x (by omega)]; exact vp_in_nI g2 (by decide)) (fun _ q => ?_)
        · rw [h.1] at q
          exact lpN hx0 (by omega) q
        · rw [hxc, g1] at q
          have : g0 n nd ch x = (far, 0) := thr_f q
          rw [this] at nxt
          exact nxt
        · rw [hxc, g1] at q
          rw [c1x (by omega), nI_clamp (by omega), (g3 q).1]
          exact nxt
    exact key n 0 (by omega)
  · have hn0 : n = 0 := by
      rw [h.1, show (0 : Int32) = nI 0 from rfl, nI_eq (by omega) (by decide)] at c
      exact c
    have e : (rW n nd ch).1 = 0 := by unfold rW; rw [if_pos hn0]
    rw [e] at hq
    refine bX8_leastCost_16 (fun _ => hq) ?_ ?_ ?_ ?_
    all_goals rw [h.1, hn0]
    all_goals exact lpX (N := 0) (by decide)
/-- the ways of the choices that cost L -/
def wyL (g : Nat → Nat × Nat) (L k : Nat) : Nat := sumN k (fun i => if (g i).1 = L ∧ L < far then (g i).2 else 0)
theorem wyL_eq {g : Nat → Nat × Nat} {L : Nat} : ∀ k, L ≤ (fd k g).1 → wyL g L k = if L = (fd k g).1 ∧ L < far then (fd k g).2 else 0
  | 0, _ => by
    show 0 = if L = far ∧ L < far then 0 else 0
    split <;> rfl
  | k + 1, h => by
    have e : fd (k + 1) g = jn (fd k g) (g k) := rfl
    have e2 : wyL g L (k + 1) = wyL g L k + if (g k).1 = L ∧ L < far then (g k).2 else 0 := rfl
    rw [e] at h
    have hm := jn_min (fd k g) (g k)
    have ih := wyL_eq (g := g) (L := L) k (by omega)
    rw [e2, ih, e]
    unfold jn at h ⊢
    by_cases c1 : (g k).1 < (fd k g).1
    · rw [if_pos c1] at h ⊢
      rw [if_neg (by omega), Nat.zero_add]
      by_cases c2 : (g k).1 = L ∧ L < far
      · rw [if_pos c2, if_pos ⟨c2.1.symm, c2.2⟩]
      · rw [if_neg c2, if_neg (fun q => c2 ⟨q.1.symm, q.2⟩)]
    · rw [if_neg c1] at h ⊢
      by_cases c2 : (g k).1 = (fd k g).1
      · rw [if_pos c2] at h ⊢
        by_cases c3 : L = (fd k g).1 ∧ L < far
        · rw [if_pos c3, if_pos ⟨by omega, c3.2⟩, if_pos c3]
        · rw [if_neg c3, if_neg (fun q => c3 ⟨by omega, q.2⟩), if_neg c3]
      · rw [if_neg c2] at h ⊢
        rw [if_neg (show ¬ ((g k).1 = L ∧ L < far) from fun q => by omega), Nat.add_zero]
theorem pX8_waysOf (hn : n ≤ 9) (hch : ∀ a b, ch a b ≤ 6) (h : mS n nd ch ρ) (hR : mR n nd ch ρ 1) (hq : Q (some (.inl (nI (rW n nd ch).2))) ρ) : ps_C mX8_waysOf d [ps_m, .inl (nI (rW n nd ch).1)] ρ Q := by
  have hfar : far = 100000000 := rfl
  have e0 : (100000000 : Int32) = nI far := rfl
  refine eX8_waysOf (bX8_waysOf_0 (fun c => ?_) (fun c => ?_))
  · have hn0 : n ≠ 0 := fun q => c (by rw [h.1, q]; rfl)
    rw [rW_g hn0] at hq ⊢
    have okL := f0_ok (nd := nd) hn hch (k := n) (Nat.le_refl _)
    have okl := okW_le okL
    have e1 : (fd n (g0 n nd ch)).2 = wyL (g0 n nd ch) (fd n (g0 n nd ch)).1 n := by
      rw [wyL_eq n (Nat.le_refl _)]
      by_cases z : (fd n (g0 n nd ch)).1 < far
      · rw [if_pos ⟨rfl, z⟩]
      · rw [if_neg (fun q => z q.2), okW_far okL z]
    rw [e1] at hq
    obtain ⟨L, hL⟩ : ∃ L, L = (fd n (g0 n nd ch)).1 := ⟨_, rfl⟩
    rw [← hL] at hq okl ⊢
    have key : ∀ r x, x + r = n → kX8_waysOf_15 d Q (nI L) (nI (wyL (g0 n nd ch) L x)) (nI x) ρ := by
      intro r
      induction r with
      | zero =>
        intro x hx
        obtain rfl : x = n := by omega
        refine bX8_waysOf_15 (fun _ => hq) ?_ ?_ ?_ ?_ ?_ ?_
        all_goals rw [h.1]
        all_goals exact lpX (by omega)
      | succ r ih =>
        intro x hx
        have hx0 : x < n := by omega
        have hxc : (nI x).toNatClampNeg = x := nI_clamp (by omega)
        obtain ⟨g1, g2, g3⟩ := g0_x hn h hR hch hx0
        have okg := okW_le (g0_ok (nd := nd) hn hch hx0)
        have hnx := ih (x + 1) (by omega)
        have e : wyL (g0 n nd ch) L (x + 1) = wyL (g0 n nd ch) L x + if (g0 n nd ch x).1 = L ∧ L < far then (g0 n nd ch x).2 else 0 := rfl
        have stay : ¬ ((g0 n nd ch x).1 = L ∧ L < far) → kX8_waysOf_15 d Q (nI L) (nI (wyL (g0 n nd ch) L x) + 0) (nI x + 1) ρ := by
          intro q
          rw [e, if_neg q, Nat.add_zero] at hnx
          rw [nI_1, Int32.add_zero]
          exact hnx
        refine bX8_waysOf_15 (fun q => ?_) (fun _ => vp_in_nI (by omega) (by decide)) (fun _ q => ?_) (fun _ q => by rw [c1x (by omega)]; exact vp_in_nI g2 (by decide)) (fun _ q q2 => ?_) (fun _ q q2 q3 => ?_) (fun _ q q2 q3 => ?_)
        · rw [h.1] at q
          exact lpN hx0 (by omega) q
        · rw [hxc, g1] at q
          have z : g0 n nd ch x = (far, 0) := thr_f q
          refine stay (fun w => ?_)
          rw [z] at w
          have w1 : far = L := w.1
          omega
        · rw [hxc, g1] at q
          rw [c1x (by omega), nI_clamp (by omega), (g3 q).1, nI_eq (by omega) (by omega)] at q2
          exact stay (fun w => q2 w.1)
        · rw [e0, nI_leI (by decide) (by omega)] at q3
          exact stay (fun w => by omega)
        · rw [hxc, g1] at q
          rw [c1x (by omega), nI_clamp (by omega), (g3 q).1, nI_eq (by omega) (by omega)] at q2
          rw [e0, nI_leI (by decide) (by omega)] at q3
          rw [e, if_pos ⟨q2, by omega⟩] at hnx
          rw [c1x (by omega), nI_clamp (n := 9 * 2 ^ x + x) (by omega), (g3 q).2, nI_add, nI_1]
          exact hnx
    exact key n 0 (by omega)
  · have hn0 : n = 0 := by
      rw [h.1, show (0 : Int32) = nI 0 from rfl, nI_eq (by omega) (by decide)] at c
      exact c
    have e : (rW n nd ch).2 = 1 := by unfold rW; rw [if_pos hn0]
    rw [e] at hq
    refine bX8_waysOf_15 (fun _ => hq) ?_ ?_ ?_ ?_ ?_ ?_
    all_goals rw [h.1, hn0]
    all_goals exact lpX (N := 0) (by decide)
end OMm

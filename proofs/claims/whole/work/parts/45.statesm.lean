/-! ===== states of a forme: the reference's search ===== -/
theorem jN_le (p : Prop) : jN p ≤ 1 := by
  by_cases h : p
  · rw [jN_t h]; omega
  · rw [jN_f h]; omega
theorem cnt_S (P : Nat → Prop) (n : Nat) : cntN (n + 1) P = cntN n P + jN (P n) := rfl
theorem cnt_le (P : Nat → Prop) : ∀ n, cntN n P ≤ n
  | 0 => Nat.le_refl _
  | n + 1 => by
    have h1 := cnt_le P n
    have h2 := jN_le (P n)
    rw [cnt_S]
    omega
theorem cnt_mono (P : Nat → Prop) {a : Nat} : ∀ {b : Nat}, a ≤ b → cntN a P ≤ cntN b P
  | 0, h => by
    obtain rfl : a = 0 := by omega
    exact Nat.le_refl _
  | b + 1, h => by
    rcases Nat.lt_or_eq_of_le h with z | z
    · have := cnt_mono P (a := a) (b := b) (by omega)
      rw [cnt_S]
      omega
    · rw [z]
      exact Nat.le_refl _
theorem cnt_lt {P : Nat → Prop} {a b : Nat} (ha : P a) (h : a < b) : cntN a P < cntN b P := by
  have h1 := cnt_mono P (a := a + 1) (b := b) h
  rw [cnt_S, jN_t ha] at h1
  omega
theorem cnt_inv {P : Nat → Prop} {k : Nat} : ∀ {n : Nat}, k < cntN n P → ∃ c, c < n ∧ P c ∧ cntN c P = k
  | 0, h => absurd h (Nat.not_lt_zero _)
  | n + 1, h => by
    by_cases c : P n
    · rw [cnt_S, jN_t c] at h
      rcases Nat.lt_or_eq_of_le (Nat.le_of_lt_succ h) with z | z
      · obtain ⟨c, h1, h2, h3⟩ := cnt_inv z
        exact ⟨c, by omega, h2, h3⟩
      · exact ⟨n, by omega, c, z.symm⟩
    · rw [cnt_S, jN_f c] at h
      obtain ⟨c, h1, h2, h3⟩ := cnt_inv (n := n) (by omega)
      exact ⟨c, by omega, h2, h3⟩
theorem cnt_inj {P : Nat → Prop} {a b : Nat} (ha : P a) (hb : P b) (h : cntN a P = cntN b P) : a = b := by
  rcases Nat.lt_trichotomy a b with z | z | z
  · have := cnt_lt ha z; omega
  · exact z
  · have := cnt_lt hb z; omega
theorem nI_m1 (n : Nat) : nI (n + 1) + (-1) = nI n := by
  rw [← nI_1, Int32.add_assoc, show (1 : Int32) + (-1) = 0 from by decide, Int32.add_zero]
/-- groups begun before copy c -/
noncomputable def bgn (lk : Nat → Prop) (A : Nat → Nat) : Nat → Nat
  | 0 => 0
  | c + 1 => @ite _ (lk c) (Classical.propDecidable _) (max (bgn lk A c) (A c + 1)) (bgn lk A c)
theorem bgn_t {lk : Nat → Prop} {A : Nat → Nat} {c : Nat} (h : lk c) : bgn lk A (c + 1) = max (bgn lk A c) (A c + 1) := by
  show @ite _ (lk c) (Classical.propDecidable _) _ _ = _
  rw [if_pos h]
theorem bgn_f {lk : Nat → Prop} {A : Nat → Nat} {c : Nat} (h : ¬ lk c) : bgn lk A (c + 1) = bgn lk A c := by
  show @ite _ (lk c) (Classical.propDecidable _) _ _ = _
  rw [if_neg h]
theorem bgn_up {lk : Nat → Prop} {A : Nat → Nat} {c g : Nat} : ∀ {k : Nat}, k ≤ c → bgn lk (upA A c g) k = bgn lk A k
  | 0, _ => rfl
  | k + 1, h => by
    have ih := bgn_up (lk := lk) (A := A) (c := c) (g := g) (k := k) (by omega)
    by_cases z : lk k
    · rw [bgn_t z, bgn_t z, ih]
      unfold upA
      rw [if_neg (by omega)]
    · rw [bgn_f z, bgn_f z, ih]
theorem bgn_le {lk : Nat → Prop} {A : Nat → Nat} {m : Nat} : ∀ {c : Nat}, (∀ c', c' < c → lk c' → A c' < m) → bgn lk A c ≤ m
  | 0, _ => Nat.zero_le _
  | c + 1, h => by
    have ih := bgn_le (lk := lk) (A := A) (m := m) (c := c) (fun c' q w => h c' (by omega) w)
    by_cases z : lk c
    · rw [bgn_t z]
      have := h c (by omega) z
      omega
    · rw [bgn_f z]; exact ih
/-- before copy c: the list of those looked at, their groups so far -/
def preM (τ : ps_S) (f m : Nat) (ρ : ps_S) (A : Nat → Nat) (c : Nat) : Prop :=
  (∀ g, g ≠ 53 → ρ g = τ g) ∧ (∀ k, k < 9 → mLk τ f k → τ 54 0 (cntN k (mLk τ f)) = nI k) ∧ (∀ c', c' < c → mLk τ f c' → ρ 53 0 c' = nI (A c')) ∧ (∀ c', c' < 9 → ¬ mLk τ f c' → ρ 53 0 c' = -900009) ∧ ∀ c', c' < c → mLk τ f c' → A c' < m
theorem mAlk_51 {σ τ : ps_S} (h : σ 51 0 = τ 51 0) (f a b : Nat) : mAlk σ f a b ↔ mAlk τ f a b := by unfold mAlk; rw [h]
theorem mLk_51 {σ τ : ps_S} (h : σ 51 0 = τ 51 0) (f a : Nat) : mLk σ f a ↔ mLk τ f a := by unfold mLk; rw [h]
section MG
variable {τ : ps_S} {f m d : Nat} {Q : Option ps_V → ps_S → Prop}
theorem pX8_joins {ρ : ps_S} {A : Nat → Nat} {c g : Nat} (hf : f < 6) (hm : m ≤ 9) (hp : preM τ f m ρ A c) (hc : c < 9) (hl : mLk τ f c) (hg : g < 9) (hq : Q (some (.inl (jbP (okg (mLk τ f) (mAlk τ f) A c g)))) ρ) : ps_C mX8_joins (d + 2) [.inr (.inr (50, 0)), .inl (nI f), .inl (nI (cntN c (mLk τ f))), .inl (nI g)] ρ Q := by
  obtain ⟨p1, p2, p3, p4, p5⟩ := hp
  have hat : cntN c (mLk τ f) ≤ 8 := Nat.le_trans (cnt_le _ c) (by omega)
  have hfc : (nI f).toNatClampNeg = f := nI_clamp (by omega)
  have hcc : (nI c).toNatClampNeg = c := nI_clamp (by omega)
  have h51 : ρ 51 0 = τ 51 0 := by rw [p1 51 (by decide)]
  have h54 : ρ 54 = τ 54 := p1 54 (by decide)
  have key : ∀ r k, k + r = cntN c (mLk τ f) → kX8_joins_6 d Q (nI f) (nI (cntN c (mLk τ f))) (nI g) (jbP (∀ c', mLk τ f c' → cntN c' (mLk τ f) < k → A c' = g → mAlk τ f c' c)) (nI k) ρ := by
    intro r
    induction r with
    | zero =>
      intro k hk
      obtain rfl : k = cntN c (mLk τ f) := by omega
      refine bX8_joins_6 (fun _ => ps_bitP _) (fun _ => ?_) (lpX (by omega)) (lpX (by omega)) (lpX (by omega)) (lpX (by omega)) (lpX (by omega)) (lpX (by omega)) (lpX (by omega)) (lpX (by omega)) (lpX (by omega))
      have e : (∀ c', mLk τ f c' → cntN c' (mLk τ f) < cntN c (mLk τ f) → A c' = g → mAlk τ f c' c) = okg (mLk τ f) (mAlk τ f) A c g := by
        apply propext
        constructor
        · intro q c' h1 h2 h3
          exact q c' h2 (cnt_lt h2 h1) h3
        · intro q c' h1 h2 h3
          refine q c' ?_ h1 h3
          rcases Nat.lt_or_ge c' c with z | z
          · exact z
          · have := cnt_mono (mLk τ f) z
            omega
      rw [e]
      exact hq
    | succ r ih =>
      intro k hk
      have hk0 : k < cntN c (mLk τ f) := by omega
      obtain ⟨x, hx, hlx, hcx⟩ := cnt_inv hk0
      have hkc : (nI k).toNatClampNeg = k := nI_clamp (by omega)
      have hxc : (nI x).toNatClampNeg = x := nI_clamp (by omega)
      have h54k : ρ 54 0 k = nI x := by rw [h54, ← hcx]; exact p2 x (by omega) hlx
      have h53x : ρ 53 0 x = nI (A x) := p3 x hx hlx
      have hAx := p5 x hx hlx
      have h54c : ρ 54 0 (cntN c (mLk τ f)) = nI c := by rw [h54]; exact p2 c hc hl
      have hatc : (nI (cntN c (mLk τ f))).toNatClampNeg = cntN c (mLk τ f) := nI_clamp (by omega)
      have ex : (∀ c', mLk τ f c' → cntN c' (mLk τ f) < k + 1 → A c' = g → mAlk τ f c' c) ↔ ((∀ c', mLk τ f c' → cntN c' (mLk τ f) < k → A c' = g → mAlk τ f c' c) ∧ (A x = g → mAlk τ f x c)) := by
        constructor
        · intro q
          exact ⟨fun c' a b e => q c' a (by omega) e, fun e => q x hlx (by omega) e⟩
        · intro q c' a b e
          rcases Nat.lt_or_eq_of_le (Nat.le_of_lt_succ b) with z | z
          · exact q.1 c' a z e
          · obtain rfl : c' = x := cnt_inj a hlx (by omega)
            exact q.2 e
      have hn := ih (k + 1) (by omega)
      refine bX8_joins_6 (lpN hk0 (by omega)) (lpN hk0 (by omega)) (fun _ c1 => ?_) (fun _ _ => vp_in_nI (by omega) (by decide)) (fun _ _ => by rw [hkc, h54k]; exact vp_in_nI (by omega) (by decide)) (fun _ c1 c2 => ?_) (fun _ _ _ => vp_in_nI (by omega) (by decide)) (fun _ _ _ => vp_in_nI hf (by decide)) (fun _ _ _ => by rw [hatc, h54c]; exact vp_in_nI hc (by decide)) (fun _ c1 c2 c3 => ?_) (fun _ c1 c2 c3 => ?_)
      · rw [jbP_0] at c1
        rw [jbP_f (fun q => c1 (ex.mp q).1)] at hn
        rw [nI_1]
        exact hn
      · rw [jbP_0, Classical.not_not] at c1
        rw [hkc, h54k, hxc, h53x, nI_eq (by omega) (by omega)] at c2
        rw [jbP_t (ex.mpr ⟨c1, fun q => absurd q c2⟩)] at hn
        rw [nI_1]
        exact hn
      · rw [jbP_0, Classical.not_not] at c1
        rw [hkc, h54k, hxc, h53x, nI_eq (by omega) (by omega)] at c2
        rw [hkc, h54k, hxc, hatc, h54c, hcc, hfc, jbP_0, mAlk_51 h51] at c3
        rw [jbP_f (fun q => c3 ((ex.mp q).2 c2))] at hn
        rw [nI_1]
        exact hn
      · rw [jbP_0, Classical.not_not] at c1
        rw [hkc, h54k, hxc, hatc, h54c, hcc, hfc, jbP_0, mAlk_51 h51, Classical.not_not] at c3
        rw [jbP_t (ex.mpr ⟨c1, fun _ => c3⟩)] at hn
        rw [nI_1]
        exact hn
  have h0 := key (cntN c (mLk τ f)) 0 (by omega)
  rw [jbP_t (fun c' _ q => absurd q (by omega))] at h0
  exact eX8_joins (bX8_joins_0 h0)
/-- the numbers of groups so far are looked through -/
theorem scanM {ρ : ps_S} {A : Nat → Nat} {c : Nat} (hm : m ≤ 9) (hp : preM τ f m ρ A c) (hc : c < 9) (hl : mLk τ f c) (h : kX8_layGroups_103 (d + 2) Q (nI f) (nI (cntN 9 (mLk τ f))) (nI m) (nI (cntN c (mLk τ f))) (nI (bgn (mLk τ f) A c)) (ρ 53 0 c + 1) ρ) : kX8_layGroups_19 (d + 2) Q (nI f) (nI (cntN 9 (mLk τ f))) (nI m) (nI (cntN c (mLk τ f))) ρ := by
  obtain ⟨p1, p2, p3, p4, p5⟩ := hp
  have hat : cntN c (mLk τ f) ≤ 8 := Nat.le_trans (cnt_le _ c) (by omega)
  have h54 : ρ 54 = τ 54 := p1 54 (by decide)
  have h54c : ρ 54 0 (cntN c (mLk τ f)) = nI c := by rw [h54]; exact p2 c hc hl
  have hatc : (nI (cntN c (mLk τ f))).toNatClampNeg = cntN c (mLk τ f) := nI_clamp (by omega)
  have hcc : (nI c).toNatClampNeg = c := nI_clamp (by omega)
  have hn9 : cntN 9 (mLk τ f) ≤ 9 := cnt_le _ 9
  have hlt : cntN c (mLk τ f) < cntN 9 (mLk τ f) := cnt_lt hl hc
  -- copies below x are looked through
  have key : ∀ r x, x + r = c → kX8_layGroups_36 (d + 2) Q (nI f) (nI (cntN 9 (mLk τ f))) (nI m) (nI (cntN c (mLk τ f))) (nI (bgn (mLk τ f) A x)) (nI (cntN x (mLk τ f))) ρ := by
    intro r
    induction r with
    | zero =>
      intro x hx
      obtain rfl : x = c := by omega
      refine bX8_layGroups_36 (fun _ => vp_in_nI (by omega) (by decide)) (fun _ => by rw [hatc, h54c]; exact vp_in_nI hc (by decide)) (fun _ => ?_) (lpX (by omega)) (lpX (by omega)) (lpX (by omega)) (lpX (by omega))
      rw [hatc, h54c, hcc]
      exact h
    | succ r ih =>
      intro x hx
      have hn := ih (x + 1) (by omega)
      by_cases z : mLk τ f x
      · have hltx : cntN x (mLk τ f) < cntN c (mLk τ f) := cnt_lt z (by omega)
        have hxc : (nI x).toNatClampNeg = x := nI_clamp (by omega)
        have hkc : (nI (cntN x (mLk τ f))).toNatClampNeg = cntN x (mLk τ f) := nI_clamp (by omega)
        have h54k : ρ 54 0 (cntN x (mLk τ f)) = nI x := by rw [h54]; exact p2 x (by omega) z
        have h53x : ρ 53 0 x = nI (A x) := p3 x (by omega) z
        have hAx := p5 x (by omega) z
        have hbx : bgn (mLk τ f) A x ≤ m := bgn_le (fun c' q w => p5 c' (by omega) w)
        rw [bgn_t z, cnt_S _ x, jN_t z] at hn
        refine bX8_layGroups_36 (lpN hltx (by omega)) (lpN hltx (by omega)) (lpN hltx (by omega)) (fun _ => vp_in_nI (by omega) (by decide)) (fun _ => by rw [hkc, h54k]; exact vp_in_nI (by omega) (by decide)) (fun _ c1 => ?_) (fun _ c1 => ?_)
        · rw [hkc, h54k, hxc, h53x, nI_ltI (by omega) (by omega)] at c1
          rw [nI_1]
          rw [show max (bgn (mLk τ f) A x) (A x + 1) = bgn (mLk τ f) A x from by omega] at hn
          exact hn
        · rw [hkc, h54k, hxc, h53x, nI_ltI (by omega) (by omega)] at c1
          rw [hkc, h54k, hxc, h53x, nI_1, nI_1]
          rw [show max (bgn (mLk τ f) A x) (A x + 1) = A x + 1 from by omega] at hn
          exact hn
      · rw [bgn_f z, cnt_S _ x, jN_f z, Nat.add_zero] at hn
        exact hn
  have h0 := key c 0 (by omega)
  exact bX8_layGroups_19 (fun q => absurd q (nI_nlt (a := cntN c (mLk τ f)) (b := 0) (Nat.zero_le _) (by omega))) (fun _ => lpN hlt (by omega)) (fun _ _ => h0)
theorem grM (hf : f < 6) (hm : m ≤ 9) : ∀ (r : Nat) (A : Nat → Nat) (ρ : ps_S), r ≤ 9 → preM τ f m ρ A (9 - r) → (∀ k, k < 9 → mLk τ f k → 9 - r ≤ k → cntN k (mLk τ f) = cntN (9 - r) (mLk τ f) → ρ 53 0 k = -1) → (∀ A' ρ', fl (mLk τ f) (mAlk τ f) m r A (bgn (mLk τ f) A (9 - r)) = some A' → preM τ f m ρ' A' 9 → Q (some (.inl 1)) ρ') → (fl (mLk τ f) (mAlk τ f) m r A (bgn (mLk τ f) A (9 - r)) = none → ∀ ρ', preM τ f m ρ' A (9 - r) → (∀ c', c' < 9 - r → ρ' 53 0 c' = ρ 53 0 c') → kX8_layGroups_19 (d + 2) Q (nI f) (nI (cntN 9 (mLk τ f))) (nI m) (nI (cntN (9 - r) (mLk τ f)) + (-1)) ρ') → kX8_layGroups_19 (d + 2) Q (nI f) (nI (cntN 9 (mLk τ f))) (nI m) (nI (cntN (9 - r) (mLk τ f))) ρ
  | 0, A, ρ, _, hp, _, hs, _ => by
    have hn9 : cntN 9 (mLk τ f) ≤ 9 := cnt_le _ 9
    exact bX8_layGroups_19 (fun q => absurd q (nI_nlt (a := cntN 9 (mLk τ f)) (b := 0) (Nat.zero_le _) (by omega))) (fun _ _ => bX8_layGroups_192 (fun q => absurd rfl q) (fun _ => hs A ρ rfl hp)) (fun _ => lpX (by omega))
  | r + 1, A, ρ, hr, hp, hm1, hs, hn => by
    have hc : 9 - (r + 1) = 8 - r := by omega
    have hc1 : 9 - r = (8 - r) + 1 := by omega
    rw [hc] at hp hm1 hs hn ⊢
    have hc9 : 8 - r < 9 := by omega
    by_cases hl : mLk τ f (8 - r)
    · rw [fl_yes hl] at hs hn
      obtain ⟨u, hu⟩ : ∃ u, u = bgn (mLk τ f) A (8 - r) := ⟨_, rfl⟩
      rw [← hu] at hs hn
      have hum : u ≤ m := by rw [hu]; exact bgn_le hp.2.2.2.2
      have hat : cntN (8 - r) (mLk τ f) ≤ 8 := Nat.le_trans (cnt_le _ _) (by omega)
      have hn9 : cntN 9 (mLk τ f) ≤ 9 := cnt_le _ 9
      have hlt : cntN (8 - r) (mLk τ f) < cntN 9 (mLk τ f) := cnt_lt hl hc9
      have hatc : (nI (cntN (8 - r) (mLk τ f))).toNatClampNeg = cntN (8 - r) (mLk τ f) := nI_clamp (by omega)
      have hcc : (nI (8 - r)).toNatClampNeg = 8 - r := nI_clamp (by omega)
      have hcn : cntN (9 - r) (mLk τ f) = cntN (8 - r) (mLk τ f) + 1 := by rw [hc1, cnt_S, jN_t hl]
      -- the numbers from g on
      have loop : ∀ t g ρ1, g + t = min (u + 1) m → preM τ f m ρ1 A (8 - r) → (∀ c', c' < 8 - r → ρ1 53 0 c' = ρ 53 0 c') → (List.range' 0 (min (u + 1) m)).findSome? (flg (mLk τ f) (mAlk τ f) m r A u) = (List.range' g t).findSome? (flg (mLk τ f) (mAlk τ f) m r A u) → kX8_layGroups_103 (d + 2) Q (nI f) (nI (cntN 9 (mLk τ f))) (nI m) (nI (cntN (8 - r) (mLk τ f))) (nI u) (nI g) ρ1 := by
        intro t
        induction t with
        | zero =>
          intro g ρ1 hg f2 f4 f3
          have hnone : (List.range' 0 (min (u + 1) m)).findSome? (flg (mLk τ f) (mAlk τ f) m r A u) = none := f3
          have hq := hn hnone ρ1 f2 f4
          have h134 : kX8_layGroups_134 (d + 2) Q (nI f) (nI (cntN 9 (mLk τ f))) (nI m) (nI (cntN (8 - r) (mLk τ f))) (nI u) (nI g) ρ1 := by
            refine bX8_layGroups_134 (fun _ => hq) (fun c1 c2 => ?_) (fun c1 c2 => ?_) (fun c1 c2 => ?_) (fun c1 c2 => ?_) (fun c1 c2 => ?_) (fun c1 c2 => ?_) (fun _ _ => hq)
            all_goals
              exfalso
              rw [nI_ltI (by omega) (by omega)] at c1
              rw [nI_ltI (by omega) (by omega)] at c2
              omega
          refine bX8_layGroups_103 (fun _ => h134) (fun _ _ => h134) (fun c1 c2 => ?_)
          exfalso
          rw [nI_ltI (by omega) (by omega)] at c1
          rw [nI_leI (by omega) (by omega)] at c2
          omega
        | succ t ih =>
          intro g ρ1 hg f2 f4 f3
          have hgu : g ≤ u := by omega
          have hgm : g < m := by omega
          have hgc : (nI g).toNatClampNeg = g := nI_clamp (by omega)
          refine bX8_layGroups_103 (fun c1 => absurd c1 (nI_nlt hgu (by omega))) (fun _ c2 => absurd c2 (nI_ge hgm (by omega))) (fun _ _ => pX8_joins hf hm f2 hc9 hl (by omega) ⟨_, rfl, bX8_layGroups_125 (fun c3 => ?_) (fun c3 => ?_)⟩)
          · rw [jbP_0, Classical.not_not] at c3
            have h54c : ρ1 54 0 (cntN (8 - r) (mLk τ f)) = nI (8 - r) := by rw [f2.1 54 (by decide)]; exact f2.2.1 _ hc9 hl
            -- what goes on behind
            have goes : ∀ ρ2, (∀ g', g' ≠ 53 → ρ2 g' = ρ1 g') → ρ2 53 0 (8 - r) = nI g → (∀ c', c' < 8 - r → ρ2 53 0 c' = ρ1 53 0 c') → (∀ c', c' < 9 → ¬ mLk τ f c' → ρ2 53 0 c' = -900009) → (∀ k, k < 9 → mLk τ f k → 9 - r ≤ k → cntN k (mLk τ f) = cntN (9 - r) (mLk τ f) → ρ2 53 0 k = -1) → kX8_layGroups_19 (d + 2) Q (nI f) (nI (cntN 9 (mLk τ f))) (nI m) (nI (cntN (8 - r) (mLk τ f) + 1)) ρ2 := by
              intro ρ2 g1 g2 g3 g4 g5
              have hb2 : bgn (mLk τ f) (upA A (8 - r) g) (9 - r) = max u (g + 1) := by
                rw [hc1, bgn_t hl, bgn_up (Nat.le_refl _), ← hu]
                unfold upA
                rw [if_pos rfl]
              have hp2 : preM τ f m ρ2 (upA A (8 - r) g) (9 - r) := by
                refine ⟨fun g' q => (g1 g' q).trans (f2.1 g' q), f2.2.1, fun c' h1 h2 => ?_, g4, fun c' h1 h2 => ?_⟩
                · unfold upA
                  by_cases z : c' = 8 - r
                  · rw [z, if_pos rfl]; exact g2
                  · rw [if_neg z, g3 c' (by omega)]
                    exact f2.2.2.1 c' (by omega) h2
                · unfold upA
                  by_cases z : c' = 8 - r
                  · rw [z, if_pos rfl]; exact hgm
                  · rw [if_neg z]
                    exact f2.2.2.2.2 c' (by omega) h2
              rw [← hcn]
              refine grM hf hm r (upA A (8 - r) g) ρ2 (by omega) hp2 g5 (fun A' ρ' e1 e2 => ?_) (fun e1 ρ' e2 e3 => ?_)
              · rw [hb2] at e1
                refine hs A' ρ' ?_ e2
                rw [f3, List.range'_succ, fs_some ((flg_ok c3).trans e1)]
              · rw [hb2] at e1
                have h53 : ρ' 53 0 (8 - r) = nI g := by rw [e3 _ (by omega)]; exact g2
                have hb3 : preM τ f m ρ' A (8 - r) := by
                  refine ⟨e2.1, e2.2.1, fun c' h1 h2 => ?_, e2.2.2.2.1, f2.2.2.2.2⟩
                  rw [e3 c' (by omega), g3 c' h1]
                  exact f2.2.2.1 c' h1 h2
                have e4 : nI (cntN (9 - r) (mLk τ f)) + (-1) = nI (cntN (8 - r) (mLk τ f)) := by rw [hcn]; exact nI_m1 _
                rw [e4]
                refine scanM hm hb3 hc9 hl ?_
                rw [← hu, h53, nI_1]
                refine ih (g + 1) ρ' (by omega) hb3 (fun c' h1 => ?_) ?_
                · rw [e3 c' (by omega), g3 c' h1]; exact f4 c' h1
                · rw [f3, List.range'_succ, fs_none ((flg_ok c3).trans e1)]
            refine bX8_layGroups_134 (fun c1 => absurd c1 (nI_nlt hgu (by omega))) (fun _ _ => vp_in_nI (by omega) (by decide)) (fun _ _ => by rw [hatc, h54c]; exact vp_in_nI hc9 (by decide)) (fun _ _ c4 => ?_) (fun _ _ c4 => ?_) (fun _ _ c4 => ?_) (fun _ _ c4 => ?_) (fun _ c2 => absurd (nI_lt hgm (by omega)) c2)
            · rw [nI_1, nI_leI (by omega) (by omega)] at c4
              rw [hatc, h54c, hcc, nI_1]
              refine goes _ (fun g' q => ps_up_o q) ps_up_s (fun c' h1 => ps_up_v (by omega)) (fun c' h1 h2 => ?_) (fun k h1 h2 h3 h4 => ?_)
              · rw [ps_up_v (fun q => by rw [q.2] at h2; exact h2 hl)]
                exact f2.2.2.2.1 c' h1 h2
              · have := cnt_lt h2 h1
                omega
            · rw [nI_1, nI_leI (by omega) (by omega)] at c4
              rw [nI_1]
              exact vp_in_nI (by omega) (by decide)
            · rw [nI_1, nI_leI (by omega) (by omega)] at c4
              obtain ⟨x, hx, hlx, hcx⟩ := cnt_inv (P := mLk τ f) (k := cntN (8 - r) (mLk τ f) + 1) (n := 9) (by omega)
              rw [nI_1, nI_clamp (n := cntN (8 - r) (mLk τ f) + 1) (by omega), ps_up_o (by decide), f2.1 54 (by decide), ← hcx, f2.2.1 x hx hlx]
              exact vp_in_nI hx (by decide)
            · rw [nI_1, nI_leI (by omega) (by omega)] at c4
              obtain ⟨x, hx, hlx, hcx⟩ := cnt_inv (P := mLk τ f) (k := cntN (8 - r) (mLk τ f) + 1) (n := 9) (by omega)
              have hxgt : 8 - r < x := by
                rcases Nat.lt_or_ge (8 - r) x with z | z
                · exact z
                · have := cnt_mono (mLk τ f) z
                  omega
              have e5 : ∀ w : Int32, (ps_up ρ1 53 0 (8 - r) w 54 0 (cntN (8 - r) (mLk τ f) + 1)) = nI x := fun w => by
                rw [ps_up_o (by decide), f2.1 54 (by decide), ← hcx, f2.2.1 x hx hlx]
              rw [hatc, h54c, hcc, nI_1, nI_clamp (n := cntN (8 - r) (mLk τ f) + 1) (by omega), e5, nI_clamp (n := x) (by omega)]
              refine goes _ (fun g' q => by rw [ps_up_o q, ps_up_o q]) (by rw [ps_up_v (by omega)]; exact ps_up_s) (fun c' h1 => by rw [ps_up_v (by omega), ps_up_v (by omega)]) (fun c' h1 h2 => ?_) (fun k h1 h2 h3 h4 => ?_)
              · rw [ps_up_v (fun q => by rw [q.2] at h2; exact h2 hlx), ps_up_v (fun q => by rw [q.2] at h2; exact h2 hl)]
                exact f2.2.2.2.1 c' h1 h2
              · obtain rfl : k = x := cnt_inj h2 hlx (by omega)
                exact ps_up_s
          · rw [jbP_0] at c3
            rw [nI_1]
            refine ih (g + 1) ρ1 (by omega) f2 f4 ?_
            rw [f3, List.range'_succ, fs_none (flg_no c3)]
      refine scanM hm hp hc9 hl ?_
      rw [hm1 _ hc9 hl (Nat.le_refl _) rfl, ← hu]
      exact loop (min (u + 1) m) 0 ρ (by omega) hp (fun _ _ => rfl) rfl
    · have hcn : cntN (9 - r) (mLk τ f) = cntN (8 - r) (mLk τ f) := by rw [hc1, cnt_S, jN_f hl, Nat.add_zero]
      have hb : bgn (mLk τ f) A (9 - r) = bgn (mLk τ f) A (8 - r) := by rw [hc1, bgn_f hl]
      rw [fl_no hl] at hs hn
      have hx : ∀ c', c' < 9 - r → mLk τ f c' → c' < 8 - r := fun c' h1 h2 => by
        rcases Nat.lt_or_eq_of_le (show c' ≤ 8 - r by omega) with z | z
        · exact z
        · exact absurd (z ▸ h2) hl
      have hp2 : preM τ f m ρ A (9 - r) := ⟨hp.1, hp.2.1, fun c' h1 h2 => hp.2.2.1 c' (hx c' h1 h2) h2, hp.2.2.2.1, fun c' h1 h2 => hp.2.2.2.2 c' (hx c' h1 h2) h2⟩
      rw [← hcn]
      rw [← hb] at hs hn
      rw [← hcn] at hn
      refine grM hf hm r A ρ (by omega) hp2 (fun k h1 h2 h3 h4 => hm1 k h1 h2 (by omega) (by omega)) hs (fun e1 ρ' e2 e3 => hn e1 ρ' ⟨e2.1, e2.2.1, fun c' h1 h2 => e2.2.2.1 c' (by omega) h2, e2.2.2.2.1, fun c' h1 h2 => e2.2.2.2.2 c' (by omega) h2⟩ (fun c' h1 => e3 c' (by omega)))
/-- the reference's search for groups below m -/
theorem pX8_layGroups {ρ : ps_S} (hf : f < 6) (hm : m ≤ 9) (hp : preM τ f m ρ A0 0) (hs : ∀ A' ρ', fl (mLk τ f) (mAlk τ f) m 9 A0 0 = some A' → preM τ f m ρ' A' 9 → Q (some (.inl 1)) ρ') (hn : fl (mLk τ f) (mAlk τ f) m 9 A0 0 = none → ∀ ρ', preM τ f m ρ' A0 0 → Q (some (.inl 0)) ρ') : ps_C mX8_layGroups (d + 3) [.inr (.inr (50, 0)), .inl (nI f), .inl (nI (cntN 9 (mLk τ f))), .inl (nI m)] ρ Q := by
  have hn9 : cntN 9 (mLk τ f) ≤ 9 := cnt_le _ 9
  have go : ∀ ρ2, preM τ f m ρ2 A0 0 → (∀ k, k < 9 → mLk τ f k → 0 ≤ k → cntN k (mLk τ f) = 0 → ρ2 53 0 k = -1) → kX8_layGroups_19 (d + 2) Q (nI f) (nI (cntN 9 (mLk τ f))) (nI m) 0 ρ2 := by
    intro ρ2 g1 g2
    refine grM hf hm 9 A0 ρ2 (by decide) g1 g2 hs (fun e1 ρ' e2 _ => ?_)
    refine bX8_layGroups_19 (fun _ => bX8_layGroups_192 (fun _ => hn e1 ρ' e2) (fun q => ?_)) (fun q => absurd (show (nI 0 + -1 : Int32) < 0 by decide) q) (fun q => absurd (show (nI 0 + -1 : Int32) < 0 by decide) q)
    exfalso
    have h1 := congrArg Int32.toInt q
    rw [nI_toInt (by omega)] at h1
    have h2 : ((nI (cntN (9 - 9) (mLk τ f)) + -1 : Int32)).toInt = -1 := by
      show (nI 0 + -1 : Int32).toInt = -1
      decide
    omega
  refine eX8_layGroups (bX8_layGroups_0 (fun c => ?_) (fun _ => vp_in_nI (n := 0) (N := 9) (by decide) (by decide)) (fun c => ?_) (fun c => ?_))
  · rw [show (0 : Int32) = nI 0 from rfl, nI_leI (by omega) (by decide)] at c
    refine go ρ hp (fun k h1 h2 _ _ => ?_)
    have := cnt_lt h2 h1
    omega
  all_goals
    rw [show (0 : Int32) = nI 0 from rfl, nI_leI (by omega) (by decide)] at c
    obtain ⟨x, hx, hlx, hcx⟩ := cnt_inv (P := mLk τ f) (k := 0) (n := 9) (by omega)
    have e5 : ρ 54 0 (0 : Int32).toNatClampNeg = nI x := by
      show ρ 54 0 0 = nI x
      have hh := hp.2.1 x hx hlx
      rw [hcx] at hh
      rw [hp.1 54 (by decide)]
      exact hh
    rw [e5]
  · exact vp_in_nI hx (by decide)
  · rw [nI_clamp (by omega)]
    refine go _ ⟨fun g q => by rw [ps_up_o q]; exact hp.1 g q, hp.2.1, fun c' h1 _ => absurd h1 (by omega), fun c' h1 h2 => by rw [ps_up_v (fun q => by rw [q.2] at h2; exact h2 hlx)]; exact hp.2.2.2.1 c' h1 h2, fun c' h1 _ => absurd h1 (by omega)⟩ (fun k h1 h2 _ h4 => ?_)
    obtain rfl : k = x := cnt_inj h2 hlx (by omega)
    exact ps_up_s
end MG
theorem fl_lt {lk : Nat → Prop} {alk : Nat → Nat → Prop} {m : Nat} : ∀ (r : Nat) (A : Nat → Nat) (u : Nat) (A' : Nat → Nat), r ≤ 9 → (∀ c, c < 9 - r → lk c → A c < m) → fl lk alk m r A u = some A' → ∀ c, c < 9 → lk c → A' c < m
  | 0, A, u, A', _, hA, h, c, hc, hl => by cases h; exact hA c (by omega) hl
  | r + 1, A, u, A', hr, hA, h, c, hc, hlc => by
    by_cases hl : lk (8 - r)
    · rw [fl_yes hl] at h
      obtain ⟨g, hg0, hg⟩ := List.exists_of_findSome?_eq_some h
      rw [List.mem_range'_1] at hg0
      by_cases ho : okg lk alk A (8 - r) g
      · rw [flg_ok ho] at hg
        refine fl_lt r _ _ A' (by omega) (fun c' h1 h2 => ?_) hg c hc hlc
        unfold upA
        by_cases z : c' = 8 - r
        · rw [if_pos z]; omega
        · rw [if_neg z]; exact hA c' (by omega) h2
      · rw [flg_no ho] at hg; cases hg
    · rw [fl_no hl] at h
      refine fl_lt r A u A' (by omega) (fun c' h1 h2 => ?_) h c hc hlc
      rcases Nat.lt_or_eq_of_le (show c' ≤ 8 - r by omega) with z | z
      · exact hA c' (by omega) h2
      · exact absurd (z ▸ h2) hl
theorem grp_lt (τ : ps_S) {f c : Nat} (hc : c < 9) (hl : mLk τ f c) : grp τ f c < nst τ f := fl_lt 9 A0 0 _ (by decide) (fun c h _ => absurd h (by omega)) (grp_eq τ f) c hc hl
/-- the state of a copy as both sides keep it -/
noncomputable def stN (τ : ps_S) (f c : Nat) : Int32 := @ite _ (mLk τ f c) (Classical.propDecidable _) (nI (grp τ f c)) (-900009)
theorem stN_t {τ : ps_S} {f c : Nat} (h : mLk τ f c) : stN τ f c = nI (grp τ f c) := by unfold stN; rw [if_pos h]
theorem stN_f {τ : ps_S} {f c : Nat} (h : ¬ mLk τ f c) : stN τ f c = -900009 := by unfold stN; rw [if_neg h]
theorem mLk_e {σ τ : ps_S} (h : σ 51 0 = τ 51 0) (f : Nat) : mLk σ f = mLk τ f := by funext a; unfold mLk; rw [h]
theorem mAlk_e {σ τ : ps_S} (h : σ 51 0 = τ 51 0) (f : Nat) : mAlk σ f = mAlk τ f := by funext a b; unfold mAlk; rw [h]
/-- cells that layStates writes -/
def frL (ρ ρ' : ps_S) : Prop := (∀ g, g ≠ 50 → g ≠ 53 → g ≠ 54 → ρ' g = ρ g) ∧ ∀ j, j ≠ 1 → ρ' 50 0 j = ρ 50 0 j
theorem frL_refl (ρ : ps_S) : frL ρ ρ := ⟨fun _ _ _ _ => rfl, fun _ _ => rfl⟩
theorem frL_trans {ρ ρ' ρ'' : ps_S} (h : frL ρ ρ') (h' : frL ρ' ρ'') : frL ρ ρ'' := ⟨fun g a b c => (h'.1 g a b c).trans (h.1 g a b c), fun j a => (h'.2 j a).trans (h.2 j a)⟩
def gM (τ : ps_S) (f : Nat) (ρ : ps_S) : Prop := ρ 50 0 1 = nI (nst τ f) ∧ ∀ c, c < 9 → ρ 53 0 c = stN τ f c
section MS
variable {τ ρ : ps_S} {f d : Nat} {Q : Option ps_V → ps_S → Prop}
theorem pX8_layStates (hf : f < 6) (h51 : ρ 51 0 = τ 51 0) (hq : ∀ ρ', frL ρ ρ' → gM τ f ρ' → Q none ρ') : ps_C mX8_layStates (d + 4) [ps_m, .inl (nI f)] ρ Q := by
  have hfc : (nI f).toNatClampNeg = f := nI_clamp (by omega)
  -- as the number of groups grows
  have step : ∀ m, m ≤ 9 → ∀ ρ1, frL ρ ρ1 → ρ1 50 0 1 = nI m → (∀ k, k < 9 → mLk τ f k → ρ1 54 0 (cntN k (mLk τ f)) = nI k) → (∀ c, c < 9 → ¬ mLk τ f c → ρ1 53 0 c = -900009) → (∀ i, i < m → ¬ exG τ f i) → (m < 9 → ∀ ρ2, frL ρ ρ2 → ρ2 50 0 1 = nI (m + 1) → (∀ k, k < 9 → mLk τ f k → ρ2 54 0 (cntN k (mLk τ f)) = nI k) → (∀ c, c < 9 → ¬ mLk τ f c → ρ2 53 0 c = -900009) → (∀ i, i < m + 1 → ¬ exG τ f i) → kX8_layStates_48 (d + 2) Q (nI f) (nI (cntN 9 (mLk τ f))) ρ2) → kX8_layStates_48 (d + 2) Q (nI f) (nI (cntN 9 (mLk τ f))) ρ1 := by
    intro m hm ρ1 f1 f2 f3 f4 hno next
    have h51' : ρ1 51 0 = τ 51 0 := by rw [f1.1 51 (by decide) (by decide) (by decide)]; exact h51
    have el := mLk_e h51' f
    have ea := mAlk_e h51' f
    have hp : preM ρ1 f m ρ1 A0 0 := by
      refine ⟨fun _ _ => rfl, ?_, fun c' h1 _ => absurd h1 (by omega), ?_, fun c' h1 _ => absurd h1 (by omega)⟩
      · rw [el]; exact f3
      · rw [el]; exact f4
    refine bX8_layStates_48 ?_
    rw [f2]
    have call := pX8_layGroups (d := d) (τ := ρ1) (f := f) (m := m) (ρ := ρ1) hf hm hp (Q := ps_ri (fun x σ1 => kX8_layStates_58 (d + 2) Q (nI f) (nI (cntN 9 (mLk τ f))) x σ1)) (fun A' ρ' e1 e2 => ⟨_, rfl, bX8_layStates_58 (fun _ => ?_) (fun q => absurd q (by decide))⟩) (fun e1 ρ' e2 => ⟨_, rfl, bX8_layStates_58 (fun q => absurd rfl q) (fun _ => ?_)⟩)
    · rw [el] at call
      exact call
    · rw [el, ea] at e1
      obtain ⟨g1, g2⟩ := nst_of e1 (by omega) hno
      refine hq ρ' (frL_trans f1 ⟨fun g a b c => e2.1 g b, fun j _ => by rw [e2.1 50 (by decide)]⟩) ⟨by rw [e2.1 50 (by decide), f2, g1], fun c hc => ?_⟩
      by_cases z : mLk τ f c
      · rw [stN_t z, g2]
        exact e2.2.2.1 c hc (by rw [el]; exact z)
      · rw [stN_f z]
        exact e2.2.2.2.1 c hc (by rw [el]; exact z)
    · rw [el, ea] at e1
      have hm9 : m < 9 := by
        rcases Nat.lt_or_eq_of_le hm with z | z
        · exact z
        · subst z
          obtain ⟨A', h⟩ := fl_ex (lk := mLk τ f) (alk := mAlk τ f) (m := 9) 9 A0 0 (by decide) (by decide) (fun c hc _ => absurd hc (by omega))
          rw [e1] at h
          cases h
      have e50 : ρ' 50 0 1 = nI m := by rw [e2.1 50 (by decide), f2]
      rw [e50, nI_1]
      refine next hm9 _ (frL_trans f1 ⟨fun g a b c => by rw [ps_up_o a]; exact e2.1 g b, fun j a => by rw [ps_up_v (by omega), e2.1 50 (by decide)]⟩) ps_up_s (fun k h1 h2 => ?_) (fun c h1 h2 => ?_) (fun i hi => ?_)
      · rw [ps_up_o (by decide), e2.1 54 (by decide)]; exact f3 k h1 h2
      · rw [ps_up_o (by decide)]; exact e2.2.2.2.1 c h1 (by rw [el]; exact h2)
      · rcases Nat.lt_or_eq_of_le (Nat.le_of_lt_succ hi) with z | z
        · exact hno i z
        · subst z
          rintro ⟨A', h⟩
          rw [e1] at h
          cases h
  have tries : ∀ r m, m + r = 9 → ∀ ρ1, frL ρ ρ1 → ρ1 50 0 1 = nI m → (∀ k, k < 9 → mLk τ f k → ρ1 54 0 (cntN k (mLk τ f)) = nI k) → (∀ c, c < 9 → ¬ mLk τ f c → ρ1 53 0 c = -900009) → (∀ i, i < m → ¬ exG τ f i) → kX8_layStates_48 (d + 2) Q (nI f) (nI (cntN 9 (mLk τ f))) ρ1 := by
    intro r
    induction r with
    | zero =>
      intro m hm ρ1 f1 f2 f3 f4 hno
      exact step m (by omega) ρ1 f1 f2 f3 f4 hno (fun q => absurd q (by omega))
    | succ r ih =>
      intro m hm ρ1 f1 f2 f3 f4 hno
      exact step m (by omega) ρ1 f1 f2 f3 f4 hno (fun _ ρ2 g1 g2 g3 g4 g5 => ih (m + 1) (by omega) ρ2 g1 g2 g3 g4 g5)
  have rows : ∀ r j, j + r = 9 → ∀ ρ1, frL ρ ρ1 → (∀ k, k < j → mLk τ f k → ρ1 54 0 (cntN k (mLk τ f)) = nI k) → (∀ c, c < j → ¬ mLk τ f c → ρ1 53 0 c = -900009) → kX8_layStates_4 (d + 2) Q (nI f) (nI (cntN j (mLk τ f))) (nI j) ρ1 := by
    intro r
    induction r with
    | zero =>
      intro j hj ρ1 f1 f2 f3
      obtain rfl : j = 9 := by omega
      refine bX8_layStates_4 (fun _ => tries 9 0 rfl _ (frL_trans f1 ⟨fun g a b c => ps_up_o a, fun j a => ps_up_v (by omega)⟩) ps_up_s (fun k h1 h2 => ?_) (fun c h1 h2 => ?_) (fun i hi => absurd hi (by omega))) (lpX (N := 9) (by decide)) (lpX (N := 9) (by decide)) (lpX (N := 9) (by decide)) (lpX (N := 9) (by decide)) (lpX (N := 9) (by decide))
      · rw [ps_up_o (by decide)]; exact f2 k h1 h2
      · rw [ps_up_o (by decide)]; exact f3 c h1 h2
    | succ r ih =>
      intro j hj ρ1 f1 f2 f3
      have hj0 : j < 9 := by omega
      have hjc : (nI j).toNatClampNeg = j := nI_clamp (by omega)
      have hnc : cntN j (mLk τ f) ≤ j := cnt_le _ j
      have h51' : (ps_up ρ1 53 0 j (-900009)) 51 0 = τ 51 0 := by rw [ps_up_o (by decide), f1.1 51 (by decide) (by decide) (by decide)]; exact h51
      have fr1 : frL ρ (ps_up ρ1 53 0 j (-900009)) := frL_trans f1 ⟨fun g a b c => ps_up_o b, fun i a => by rw [ps_up_o (by decide)]⟩
      refine bX8_layStates_4 (lpN (N := 9) hj0 (by decide)) (fun _ => vp_in_nI hj0 (by decide)) (fun _ => vp_in_nI hf (by decide)) (fun _ c => ?_) (fun _ c => vp_in_nI (by omega) (by decide)) (fun _ c => ?_)
      · rw [hjc, hfc, jbP_0, mLk_51 h51'] at c
        rw [hjc, nI_1]
        have hn := ih (j + 1) (by omega) (ps_up ρ1 53 0 j (-900009)) fr1 (fun k h1 h2 => ?_) (fun k h1 h2 => ?_)
        · rw [cnt_S _ j, jN_f c, Nat.add_zero] at hn
          exact hn
        · rw [ps_up_o (by decide)]
          rcases Nat.lt_or_eq_of_le (Nat.le_of_lt_succ h1) with z | z
          · exact f2 k z h2
          · exact absurd (z ▸ h2) c
        · rcases Nat.lt_or_eq_of_le (Nat.le_of_lt_succ h1) with z | z
          · rw [ps_up_v (by omega)]; exact f3 k z h2
          · rw [z]; exact ps_up_s
      · rw [hjc, hfc, jbP_0, mLk_51 h51', Classical.not_not] at c
        rw [hjc, nI_1, nI_1, nI_clamp (n := cntN j (mLk τ f)) (by omega)]
        have hn := ih (j + 1) (by omega) (ps_up (ps_up ρ1 53 0 j (-900009)) 54 0 (cntN j (mLk τ f)) (nI j)) (frL_trans fr1 ⟨fun g a b c => ps_up_o c, fun i a => by rw [ps_up_o (by decide)]⟩) (fun k h1 h2 => ?_) (fun k h1 h2 => ?_)
        · rw [cnt_S _ j, jN_t c] at hn
          exact hn
        · rcases Nat.lt_or_eq_of_le (Nat.le_of_lt_succ h1) with z | z
          · have := cnt_lt h2 z
            rw [ps_up_v (by omega), ps_up_o (by decide)]
            exact f2 k z h2
          · rw [z]; exact ps_up_s
        · rw [ps_up_o (by decide)]
          rcases Nat.lt_or_eq_of_le (Nat.le_of_lt_succ h1) with z | z
          · rw [ps_up_v (by omega)]; exact f3 k z h2
          · exact absurd c (z ▸ h2)
  exact eX8_layStates (bX8_layStates_0 (rows 9 0 rfl ρ (frL_refl ρ) (fun k h1 _ => absurd h1 (by omega)) (fun k h1 _ => absurd h1 (by omega))))
end MS

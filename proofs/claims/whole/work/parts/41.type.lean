/-! ===== type: who shares, who must be ahead ===== -/
def dirT (τ : ps_S) (a b : Nat) : Prop := ∃ p, p < 16 ∧ τ 63 0 (6 * p + a) = 0 ∧ τ 63 0 (6 * p + b) = 1
/-- must, by way of the formes below k -/
def wsh (τ : ps_S) : Nat → Nat → Nat → Prop
  | 0, a, b => dirT τ a b
  | k + 1, a, b => wsh τ k a b ∨ (wsh τ k a k ∧ wsh τ k k b)
theorem wsh_mono {τ : ps_S} {a b : Nat} : ∀ {k : Nat}, wsh τ k a b → wsh τ (k + 1) a b := fun h => Or.inl h
theorem wsh_thru {τ : ps_S} : ∀ (k a b c : Nat), b < k → wsh τ k a b → wsh τ k b c → wsh τ k a c
  | 0, a, b, c, h, _, _ => absurd h (Nat.not_lt_zero b)
  | k + 1, a, b, c, h, h1, h2 => by
    rcases Nat.lt_or_eq_of_le (Nat.le_of_lt_succ h) with q | q
    · have T := wsh_thru (τ := τ) k
      rcases h1 with h1 | ⟨h1, h1'⟩ <;> rcases h2 with h2 | ⟨h2, h2'⟩
      · exact Or.inl (T a b c q h1 h2)
      · exact Or.inr ⟨T a b k q h1 h2, h2'⟩
      · exact Or.inr ⟨h1, T k b c q h1' h2⟩
      · exact Or.inr ⟨h1, h2'⟩
    · subst q
      have e1 : wsh τ b a b := h1.elim id (fun z => z.1)
      have e2 : wsh τ b b c := h2.elim id (fun z => z.2)
      exact Or.inr ⟨e1, e2⟩
def mstT (τ : ps_S) (a b : Nat) : Prop := wsh τ 6 a b
/-- the pieces on both sides -/
def iTb (σ τ : ps_S) : Prop := ∀ p f, p < 16 → f < 6 → σ 21 p f = τ 63 0 (6 * p + f) ∧ (τ 63 0 (6 * p + f) = -900009 ∨ τ 63 0 (6 * p + f) = 0 ∨ τ 63 0 (6 * p + f) = 1)
def iT (σ τ : ps_S) : Prop := iTb σ τ ∧ (∀ f, f < 6 → bm (σ 22 0 f) 6 (fun b => mSh τ f b) ∧ bm (σ 23 0 f) 6 (fun b => mstT τ f b)) ∧ bm (σ 19 0 3) 6 (fun f => mSh τ f f)
/-- cells that link writes -/
def frT (σ σ' : ps_S) : Prop := ∀ g, g ≠ 19 → g ≠ 22 → g ≠ 23 → σ' g = σ g
section TX
variable {σ τ : ps_S} {d : Nat} {Q : Option ps_V → ps_S → Prop}
theorem frT_b {σ' : ps_S} (h : frT σ σ') (hb : iTb σ τ) : iTb σ' τ := by
  unfold iTb
  rw [h 21 (by decide) (by decide) (by decide)]
  exact hb
theorem frT_up {σ' : ps_S} {f k j : Nat} {x : Int32} (h : frT σ σ') (hf : f = 19 ∨ f = 22 ∨ f = 23) : frT σ (ps_up σ' f k j x) := fun g a b c => by rw [ps_up_o (by omega)]; exact h g a b c
/-- sharing and behind behind p pieces -/
def shP (τ : ps_S) (p f b : Nat) : Prop := ∃ q, q < p ∧ ¬ τ 63 0 (6 * q + f) = -900009 ∧ ¬ τ 63 0 (6 * q + b) = -900009
def diP (τ : ps_S) (p f b : Nat) : Prop := ∃ q, q < p ∧ τ 63 0 (6 * q + f) = 0 ∧ τ 63 0 (6 * q + b) = 1
theorem lt_succ_or {P : Nat → Prop} {p : Nat} : (∃ q, q < p + 1 ∧ P q) ↔ ((∃ q, q < p ∧ P q) ∨ P p) := by
  constructor
  · rintro ⟨q, h1, h2⟩
    rcases Nat.lt_or_eq_of_le (Nat.le_of_lt_succ h1) with z | z
    · exact Or.inl ⟨q, z, h2⟩
    · subst z; exact Or.inr h2
  · rintro (⟨q, h1, h2⟩ | h)
    · exact ⟨q, by omega, h2⟩
    · exact ⟨p, by omega, h⟩
theorem pX6_linkPiece (h : iTb σ τ) {p : Nat} (hp : p < 16) (h1 : ∀ f, f < 6 → bm (σ 22 0 f) 6 (shP τ p f) ∧ bm (σ 23 0 f) 6 (diP τ p f)) (hq : ∀ σ', frT σ σ' → σ' 19 = σ 19 → (∀ f, f < 6 → bm (σ' 22 0 f) 6 (shP τ (p + 1) f) ∧ bm (σ' 23 0 f) 6 (diP τ (p + 1) f)) → Q none σ') : ps_C mX6_linkPiece (d + 1) [.inr (.inr (19, 0)), .inr (.inr (21, p))] σ Q := by
  have hW : bm (nI (mkN 6 (fun f => σ 21 p f = 0))) 6 (fun f => τ 63 0 (6 * p + f) = 0) := bm_congr (bm_mk (by decide)) (fun i hi => by rw [(h p i hp hi).1])
  have hH : bm (nI (mkN 6 (fun f => σ 21 p f = 1))) 6 (fun f => τ 63 0 (6 * p + f) = 1) := bm_congr (bm_mk (by decide)) (fun i hi => by rw [(h p i hp hi).1])
  have hno : ∀ i, i < 6 → (¬ τ 63 0 (6 * p + i) = -900009 ↔ (τ 63 0 (6 * p + i) = 0 ∨ τ 63 0 (6 * p + i) = 1)) := by
    intro i hi
    rcases (h p i hp hi).2 with z | z | z
    · rw [z]; decide
    · rw [z]; decide
    · rw [z]; decide
  obtain ⟨w, hw⟩ : ∃ w, w = nI (mkN 6 (fun f => σ 21 p f = 0)) := ⟨_, rfl⟩
  obtain ⟨u, hu⟩ : ∃ u, u = nI (mkN 6 (fun f => σ 21 p f = 1)) := ⟨_, rfl⟩
  rw [← hw] at hW
  rw [← hu] at hH
  have key : ∀ r j, j + r = 6 → ∀ ρ, frT σ ρ → ρ 19 = σ 19 → (∀ f, f < 6 → bm (ρ 22 0 f) 6 (shP τ (if f < j then p + 1 else p) f) ∧ bm (ρ 23 0 f) 6 (diP τ (if f < j then p + 1 else p) f)) → kX6_linkPiece_15 d Q p w u (nI j) ρ := by
    intro r
    induction r with
    | zero =>
      intro j hj ρ f1 f2 f3
      obtain rfl : j = 6 := by omega
      refine bX6_linkPiece_15 (fun _ => hq ρ f1 f2 (fun f hf => ?_)) (lpX (N := 6) (by decide)) (lpX (N := 6) (by decide)) (lpX (N := 6) (by decide))
      have := f3 f hf
      rw [if_pos hf] at this
      exact this
    | succ r ih =>
      intro j hj ρ f1 f2 f3
      have hj0 : j < 6 := by omega
      have hjc : (nI j).toNatClampNeg = j := nI_clamp (by omega)
      have e21 : ρ 21 p j = τ 63 0 (6 * p + j) := by rw [f1 21 (by decide) (by decide) (by decide)]; exact (h p j hp hj0).1
      obtain ⟨s1, s2⟩ := f3 j hj0
      rw [if_neg (Nat.lt_irrefl j)] at s1 s2
      -- the second half: behind
      have half : ∀ ρ', frT σ ρ' → ρ' 19 = σ 19 → (∀ f, f < 6 → bm (ρ' 22 0 f) 6 (shP τ (if f < j + 1 then p + 1 else p) f) ∧ bm (ρ' 23 0 f) 6 (diP τ (if f < j then p + 1 else p) f)) → kX6_linkPiece_44 d Q p w u (nI j) ρ' := by
        intro ρ' g1 g2 g3
        have e21 : ρ' 21 p j = τ 63 0 (6 * p + j) := by rw [g1 21 (by decide) (by decide) (by decide)]; exact (h p j hp hj0).1
        obtain ⟨-, s3⟩ := g3 j hj0
        rw [if_neg (Nat.lt_irrefl j)] at s3
        refine bX6_linkPiece_44 (vp_in_nI hj0 (by decide)) (fun c => ?_) (fun c => ?_)
        · rw [hjc, e21] at c
          rw [nI_1]
          refine ih (j + 1) (by omega) ρ' g1 g2 (fun f hf => ⟨(g3 f hf).1, ?_⟩)
          by_cases e : f = j
          · subst e
            rw [if_pos (by omega)]
            refine bm_congr s3 (fun i hi => ?_)
            unfold diP
            rw [lt_succ_or]
            exact ⟨Or.inl, fun q => q.elim id (fun z => absurd z.1 c)⟩
          · have := (g3 f hf).2
            rw [show (if f < j + 1 then p + 1 else p) = (if f < j then p + 1 else p) from by split <;> split <;> omega]
            exact this
        · rw [hjc, e21] at c
          rw [nI_1, hjc]
          refine ih (j + 1) (by omega) _ (frT_up g1 (by omega)) (by rw [ps_up_o (by decide)]; exact g2) (fun f hf => ⟨by rw [ps_up_o (by decide)]; exact (g3 f hf).1, ?_⟩)
          by_cases e : f = j
          · subst e
            rw [ps_up_s, if_pos (by omega)]
            refine bm_congr (bm_or s3 hH) (fun i hi => ?_)
            show _ ↔ diP τ (p + 1) f i
            unfold diP
            rw [lt_succ_or]
            exact ⟨fun q => q.elim Or.inl (fun z => Or.inr ⟨c, z⟩), fun q => q.elim Or.inl (fun z => Or.inr z.2)⟩
          · have := (g3 f hf).2
            rw [ps_up_v (by omega), show (if f < j + 1 then p + 1 else p) = (if f < j then p + 1 else p) from by split <;> split <;> omega]
            exact this
      refine bX6_linkPiece_15 (lpN (N := 6) hj0 (by decide)) (fun _ => vp_in_nI hj0 (by decide)) (fun _ c => ?_) (fun _ c => ?_)
      · rw [hjc, e21] at c
        refine half ρ f1 f2 (fun f hf => ⟨?_, (f3 f hf).2⟩)
        by_cases e : f = j
        · subst e
          rw [if_pos (by omega)]
          refine bm_congr s1 (fun i hi => ?_)
          unfold shP
          rw [lt_succ_or]
          exact ⟨Or.inl, fun q => q.elim id (fun z => absurd c z.1)⟩
        · have := (f3 f hf).1
          rw [show (if f < j + 1 then p + 1 else p) = (if f < j then p + 1 else p) from by split <;> split <;> omega]
          exact this
      · rw [hjc, e21] at c
        rw [hjc]
        refine half _ (frT_up f1 (by omega)) (by rw [ps_up_o (by decide)]; exact f2) (fun f hf => ⟨?_, by rw [ps_up_o (by decide)]; exact (f3 f hf).2⟩)
        by_cases e : f = j
        · subst e
          rw [ps_up_s, if_pos (by omega)]
          refine bm_congr (bm_or s1 (bm_or hW hH)) (fun i hi => ?_)
          show _ ↔ shP τ (p + 1) f i
          unfold shP
          rw [lt_succ_or, hno i hi]
          exact ⟨fun q => q.elim Or.inl (fun z => Or.inr ⟨c, z⟩), fun q => q.elim Or.inl (fun z => Or.inr z.2)⟩
        · have := (f3 f hf).1
          rw [ps_up_v (by omega), show (if f < j + 1 then p + 1 else p) = (if f < j then p + 1 else p) from by split <;> split <;> omega]
          exact this
  refine eX6_linkPiece (bX6_linkPiece_0 ?_)
  rw [← hw, ← hu]
  exact key 6 0 rfl σ (fun _ _ _ _ => rfl) rfl (fun f hf => by rw [if_neg (Nat.not_lt_zero f)]; exact h1 f hf)
theorem pX6_reachOn (h1 : ∀ f, f < 6 → bm (σ 23 0 f) 6 (dirT τ f)) (hq : ∀ σ', (∀ g, g ≠ 23 → σ' g = σ g) → (∀ f, f < 6 → bm (σ' 23 0 f) 6 (mstT τ f)) → Q none σ') : ps_C mX6_reachOn d [.inr (.inr (19, 0))] σ Q := by
  have outer : ∀ r k, k + r = 6 → ∀ ρ, (∀ g, g ≠ 23 → ρ g = σ g) → (∀ f, f < 6 → bm (ρ 23 0 f) 6 (wsh τ k f)) → kX6_reachOn_2 d Q (nI k) ρ := by
    intro r
    induction r with
    | zero =>
      intro k hk ρ f1 f2
      obtain rfl : k = 6 := by omega
      exact bX6_reachOn_2 (fun _ => hq ρ f1 f2) (lpX (N := 6) (by decide))
    | succ r ih =>
      intro k hk ρ f1 f2
      have hk0 : k < 6 := by omega
      have hkc : (nI k).toNatClampNeg = k := nI_clamp (by omega)
      have inner : ∀ s j, j + s = 6 → ∀ ρ, (∀ g, g ≠ 23 → ρ g = σ g) → (∀ f, f < 6 → bm (ρ 23 0 f) 6 (wsh τ (if f < j then k + 1 else k) f)) → kX6_reachOn_10 d Q (nI k) (nI j) ρ := by
        intro s
        induction s with
        | zero =>
          intro j hj ρ g1 g2
          obtain rfl : j = 6 := by omega
          refine bX6_reachOn_10 (fun _ => ?_) (lpX (N := 6) (by decide)) (lpX (N := 6) (by decide)) (lpX (N := 6) (by decide)) (lpX (N := 6) (by decide))
          rw [nI_1]
          refine ih (k + 1) (by omega) ρ g1 (fun f hf => ?_)
          have := g2 f hf
          rw [if_pos hf] at this
          exact this
        | succ s ih2 =>
          intro j hj ρ g1 g2
          have hj0 : j < 6 := by omega
          have hjc : (nI j).toNatClampNeg = j := nI_clamp (by omega)
          have s1 := g2 j hj0
          rw [if_neg (Nat.lt_irrefl j)] at s1
          have s2 : bm (ρ 23 0 k) 6 (wsh τ k k) := by
            have := g2 k hk0
            by_cases c : k < j
            · rw [if_pos c] at this
              exact bm_congr this (fun i hi => ⟨fun q => q.elim id (fun z => z.2), Or.inl⟩)
            · rw [if_neg c] at this
              exact this
          have hbit := bm_bit s1 hk0 (by decide)
          have rest : ∀ f, f < 6 → f ≠ j → bm (ρ 23 0 f) 6 (wsh τ (if f < j + 1 then k + 1 else k) f) := by
            intro f hf e
            have := g2 f hf
            rw [show (if f < j + 1 then k + 1 else k) = (if f < j then k + 1 else k) from by split <;> split <;> omega]
            exact this
          refine bX6_reachOn_10 (lpN (N := 6) hj0 (by decide)) (fun _ => vp_in_nI hj0 (by decide)) (fun _ c => ?_) (fun _ _ => vp_in_nI hk0 (by decide)) (fun _ c => ?_)
          · rw [hjc, hbit, jbP_0] at c
            rw [nI_1]
            refine ih2 (j + 1) (by omega) ρ g1 (fun f hf => ?_)
            by_cases e : f = j
            · subst e
              rw [if_pos (by omega)]
              exact bm_congr s1 (fun i hi => ⟨Or.inl, fun q => q.elim id (fun z => absurd z.1 c)⟩)
            · exact rest f hf e
          · rw [hjc, hbit, jbP_0, Classical.not_not] at c
            rw [nI_1, hjc, hkc]
            refine ih2 (j + 1) (by omega) _ (fun g hg => by rw [ps_up_o hg]; exact g1 g hg) (fun f hf => ?_)
            by_cases e : f = j
            · subst e
              rw [ps_up_s, if_pos (by omega)]
              exact bm_congr (bm_or s1 s2) (fun i hi => ⟨fun q => q.elim Or.inl (fun z => Or.inr ⟨c, z⟩), fun q => q.elim Or.inl (fun z => Or.inr z.2)⟩)
            · rw [ps_up_v (by omega)]
              exact rest f hf e
      exact bX6_reachOn_2 (lpN (N := 6) hk0 (by decide)) (fun _ => inner 6 0 rfl ρ f1 (fun f hf => by rw [if_neg (Nat.not_lt_zero f)]; exact f2 f hf))
  exact eX6_reachOn (bX6_reachOn_0 (outer 6 0 rfl σ (fun _ _ => rfl) h1))
theorem pX6_link (h : iTb σ τ) (hq : ∀ σ', frT σ σ' → iT σ' τ → Q none σ') : ps_C mX6_link (d + 3) [.inr (.inr (19, 0))] σ Q := by
  -- the last: reachOn
  have last : ∀ ρ, frT σ ρ → (∀ f, f < 6 → bm (ρ 22 0 f) 6 (shP τ 16 f) ∧ bm (ρ 23 0 f) 6 (diP τ 16 f)) → bm (ρ 19 0 3) 6 (fun b => ∃ f, f < 6 ∧ shP τ 16 f b) → ps_C mX6_reachOn (d + 2) [.inr (.inr (19, 0))] ρ (ps_rv (fun σ1 => kX6_link_78 (d + 2) Q σ1)) := by
    intro ρ f1 f2 f3
    refine pX6_reachOn (τ := τ) (fun f hf => (f2 f hf).2) (fun σ' g1 g2 => ⟨rfl, bX6_link_78 (hq σ' (fun g a b c => (g1 g c).trans (f1 g a b c)) ⟨?_, ?_, ?_⟩)⟩)
    · exact frT_b (fun g a b c => (g1 g c).trans (f1 g a b c)) h
    · intro f hf
      refine ⟨?_, g2 f hf⟩
      rw [g1 22 (by decide)]
      exact (f2 f hf).1
    · rw [g1 19 (by decide)]
      refine bm_congr f3 (fun b hb => ⟨fun ⟨f, _, q, h1, _, h3⟩ => ⟨q, h1, h3, h3⟩, fun q => ⟨b, hb, q⟩⟩)
  have told : ∀ r j, j + r = 6 → ∀ ρ, frT σ ρ → (∀ f, f < 6 → bm (ρ 22 0 f) 6 (shP τ 16 f) ∧ bm (ρ 23 0 f) 6 (diP τ 16 f)) → bm (ρ 19 0 3) 6 (fun b => ∃ f, f < j ∧ shP τ 16 f b) → kX6_link_47 (d + 2) Q (nI j) ρ := by
    intro r
    induction r with
    | zero =>
      intro j hj ρ f1 f2 f3
      obtain rfl : j = 6 := by omega
      exact bX6_link_47 (fun _ => last ρ f1 f2 f3) (lpX (N := 6) (by decide)) (lpX (N := 6) (by decide))
    | succ r ih =>
      intro j hj ρ f1 f2 f3
      have hj0 : j < 6 := by omega
      have hjc : (nI j).toNatClampNeg = j := nI_clamp (by omega)
      refine bX6_link_47 (lpN (N := 6) hj0 (by decide)) (fun _ => vp_in_nI hj0 (by decide)) (fun _ => ?_)
      rw [nI_1, hjc]
      refine ih (j + 1) (by omega) _ (frT_up f1 (by omega)) (fun f hf => by rw [ps_up_o (by decide), ps_up_o (by decide)]; exact f2 f hf) ?_
      rw [ps_up_s]
      exact bm_congr (bm_or f3 (f2 j hj0).1) (fun b hb => (lt_succ_or (P := fun f => shP τ 16 f b)).symm)
  have pieces : ∀ r p, p + r = 16 → ∀ ρ, frT σ ρ → (∀ f, f < 6 → bm (ρ 22 0 f) 6 (shP τ p f) ∧ bm (ρ 23 0 f) 6 (diP τ p f)) → kX6_link_18 (d + 2) Q (nI p) ρ := by
    intro r
    induction r with
    | zero =>
      intro p hp ρ f1 f2
      obtain rfl : p = 16 := by omega
      refine bX6_link_18 (fun _ => told 6 0 rfl _ (frT_up f1 (by omega)) (fun f hf => by rw [ps_up_o (by decide), ps_up_o (by decide)]; exact f2 f hf) ?_) (lpX (N := 16) (by decide)) (lpX (N := 16) (by decide))
      rw [ps_up_s]
      exact bm_congr bm_0 (fun b hb => ⟨fun q => q.elim, fun ⟨f, q, _⟩ => absurd q (Nat.not_lt_zero f)⟩)
    | succ r ih =>
      intro p hp ρ f1 f2
      have hp0 : p < 16 := by omega
      have hpc : (nI p).toNatClampNeg = p := nI_clamp (by omega)
      refine bX6_link_18 (lpN (N := 16) hp0 (by decide)) (fun _ => vp_in_nI hp0 (by decide)) (fun _ => ?_)
      rw [hpc]
      refine pX6_linkPiece (frT_b f1 h) hp0 f2 (fun σ' g1 g2 g3 => ⟨rfl, bX6_link_34 ?_⟩)
      rw [nI_1]
      exact ih (p + 1) (by omega) σ' (fun g a b c => (g1 g a b c).trans (f1 g a b c)) g3
  refine eX6_link (bX6_link_0 (pJ7_fill sh_22 (by decide) (by decide) ⟨rfl, bX6_link_8 (pJ7_fill sh_23 (by decide) (by decide) ⟨rfl, bX6_link_16 (pieces 16 0 rfl _ ?_ ?_)⟩)⟩))
  · intro g a b c
    rw [ps_fil_o c, ps_fil_o b]
  · intro f hf
    rw [ps_fil_o (f := 22) (by decide), ps_fil_s hf, ps_fil_s hf]
    exact ⟨bm_congr bm_0 (fun b hb => ⟨fun q => q.elim, fun ⟨q, z, _⟩ => absurd z (Nat.not_lt_zero q)⟩), bm_congr bm_0 (fun b hb => ⟨fun q => q.elim, fun ⟨q, z, _⟩ => absurd z (Nat.not_lt_zero q)⟩)⟩
end TX

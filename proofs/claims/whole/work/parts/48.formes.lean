/-! ===== formes: what both sides hold of them; the class's orders ===== -/
theorem fst_congr {P R : Nat → Prop} : ∀ {n k : Nat}, (∀ i, k ≤ i → i < k + n → (P i ↔ R i)) → fstN n k P = fstN n k R
  | 0, _, _ => rfl
  | n + 1, k, h => by
    by_cases c : P k
    · rw [fst_t c, fst_t ((h k (Nat.le_refl _) (by omega)).mp c)]
    · rw [fst_f c, fst_f (fun q => c ((h k (Nat.le_refl _) (by omega)).mpr q))]
      exact fst_congr (fun i a b => h i (by omega) (by omega))
theorem fst_lt {P : Nat → Prop} {c : Nat} : ∀ {n k : Nat}, fstN n k P = some c → c < k + n
  | 0, _, h => by cases h
  | n + 1, k, h => by
    by_cases q : P k
    · rw [fst_t q] at h
      cases h
      omega
    · rw [fst_f q] at h
      have := fst_lt h
      omega
theorem cnt_congr {P R : Nat → Prop} : ∀ {n : Nat}, (∀ i, i < n → (P i ↔ R i)) → cntN n P = cntN n R
  | 0, _ => rfl
  | n + 1, h => by
    rw [cnt_S, cnt_S, cnt_congr (fun i hi => h i (by omega))]
    by_cases c : P n
    · rw [jN_t c, jN_t ((h n (by omega)).mp c)]
    · rw [jN_f c, jN_f (fun q => c ((h n (by omega)).mpr q))]
/-- the letter of a state at a place -/
noncomputable def glN (τ : ps_S) (f : Nat) (s : Int32) (p : Nat) : Int32 := match fstN 9 0 (fun c => stN τ f c = s ∧ ¬ τ 51 0 (54 * f + 6 * c + p) = -900009) with
  | some c => τ 51 0 (54 * f + 6 * c + p)
  | none => -900009
theorem sGl_eq {σ τ : ps_S} {f p : Nat} {s : Int32} (hl : iL σ τ f) (h9 : ∀ c, c < 9 → σ 9 f c = stN τ f c) (hp : p < 6) : sGl σ f s p = glN τ f s p := by
  unfold sGl glN
  have e : fstN 9 0 (fun c => σ 9 f c = s ∧ ¬ σ 5 (9 * f + c) p = -900009) = fstN 9 0 (fun c => stN τ f c = s ∧ ¬ τ 51 0 (54 * f + 6 * c + p) = -900009) := fst_congr (fun i _ hi => by rw [h9 i (by omega), hl i p (by omega) hp])
  rw [e]
  cases h : fstN 9 0 (fun c => stN τ f c = s ∧ ¬ τ 51 0 (54 * f + 6 * c + p) = -900009) with
  | none => rfl
  | some c =>
    have := fst_lt h
    exact hl c p (by omega) hp
theorem mGl_eq {ρ τ : ps_S} {f p : Nat} {s : Int32} (h51 : ρ 51 0 = τ 51 0) (h53 : ∀ c, c < 9 → ρ 53 0 c = stN τ f c) : mGl ρ f s p = glN τ f s p := by
  unfold mGl glN
  rw [h51]
  have e : fstN 9 0 (fun c => ρ 53 0 c = s ∧ ¬ τ 51 0 (54 * f + 6 * c + p) = -900009) = fstN 9 0 (fun c => stN τ f c = s ∧ ¬ τ 51 0 (54 * f + 6 * c + p) = -900009) := fst_congr (fun i _ hi => by rw [h53 i (by omega)])
  rw [e]
  cases fstN 9 0 (fun c => stN τ f c = s ∧ ¬ τ 51 0 (54 * f + 6 * c + p) = -900009) <;> rfl
/-- places at which two states differ -/
noncomputable def chI (τ : ps_S) (f : Nat) (a b : Int32) : Nat := cntN 6 (fun p => ¬ jbUn (glN τ f a p) (glN τ f b p) = 0)
noncomputable def chF (τ : ps_S) (f a b : Nat) : Nat := chI τ f (nI a) (nI b)
theorem chF_le (τ : ps_S) (f a b : Nat) : chF τ f a b ≤ 6 := cnt_le _ 6
theorem chF_sym (τ : ps_S) (f a b : Nat) : chF τ f a b = chF τ f b a := by
  unfold chF chI
  refine cnt_congr (fun p _ => ?_)
  rw [jbUn_0, jbUn_0]
  constructor
  · intro q w
    exact q (w.elim (fun z => Or.inr (Or.inl z)) (fun w => w.elim (fun z => Or.inl z) (fun z => Or.inr (Or.inr z.symm))))
  · intro q w
    exact q (w.elim (fun z => Or.inr (Or.inl z)) (fun w => w.elim (fun z => Or.inl z) (fun z => Or.inr (Or.inr z.symm))))
/-- state t has to go ahead of state s -/
def ndF (τ : ps_S) (f s t : Nat) : Prop := ∃ x y, x < 9 ∧ y < 9 ∧ τ 58 0 (81 * f + 9 * x + y) = 1 ∧ mLk τ f x ∧ mLk τ f y ∧ grp τ f x = t ∧ grp τ f y = s ∧ s ≠ t
noncomputable def fW (τ : ps_S) (f : Nat) : Nat × Nat := rW (nst τ f) (ndF τ f) (chF τ f)
noncomputable def lsN (τ : ps_S) (f : Nat) : Int32 := if (fW τ f).1 < far then nI (fW τ f).1 else -900009
noncomputable def fsN (τ : ps_S) (f i : Nat) : Int32 := if (fW τ f).1 < far ∧ i < nst τ f then nI (sq (nst τ f) (ndF τ f) (chF τ f) i).2 else -900009
def tdF (σ τ : ps_S) (f : Nat) : Prop := ∀ a, a < 9 → bm (σ 6 f a) 9 (fun b => τ 58 0 (81 * f + 9 * a + b) = 1)
def oOK (σ τ : ps_S) (f : Nat) : Prop := σ 3 f 9 = lsN τ f ∧ σ 3 f 10 = nI (fW τ f).2 ∧ ∀ i, i < 9 → σ 10 f i = fsN τ f i
def iF (σ τ : ps_S) : Prop := ∀ f, f < 6 → iL σ τ f ∧ (∀ c p, c < 9 → p < 6 → τ 51 0 (54 * f + 6 * c + p) = -900009 ∨ vp_in (τ 51 0 (54 * f + 6 * c + p)) 10) ∧ tdF σ τ f ∧ (∀ a b, a < 9 → b < 9 → τ 58 0 (81 * f + 9 * a + b) = 0 ∨ τ 58 0 (81 * f + 9 * a + b) = 1) ∧ (σ 3 f 7 = 0 ∨ (σ 3 f 7 = 1 ∧ gOK σ τ f)) ∧ (σ 3 f 11 = 0 ∨ (σ 3 f 11 = 1 ∧ oOK σ τ f))
/-- cells that questions about formes may write -/
def kF (σ σ' : ps_S) : Prop := ∀ g, g ≠ 3 → g ≠ 7 → g ≠ 8 → g ≠ 9 → g ≠ 10 → g < 11 ∨ 18 < g → σ' g = σ g
theorem kF_refl (σ : ps_S) : kF σ σ := fun _ _ _ _ _ _ _ => rfl
theorem kF_trans {σ σ' σ'' : ps_S} (h : kF σ σ') (h' : kF σ' σ'') : kF σ σ'' := fun g a b c d e f => (h' g a b c d e f).trans (h g a b c d e f)
theorem kF_S {f : Nat} {σ σ' : ps_S} (h : frS f σ σ') : kF σ σ' := fun g a b c d _ _ => h.1 g a b c d
def frO (f : Nat) (σ σ' : ps_S) : Prop := (∀ g, g ≠ 3 → g ≠ 10 → g < 11 ∨ 18 < g → σ' g = σ g) ∧ (∀ k, k ≠ f → σ' 3 k = σ 3 k ∧ σ' 10 k = σ 10 k) ∧ ∀ j, j ≠ 9 → j ≠ 10 → j ≠ 11 → σ' 3 f j = σ 3 f j
theorem frO_refl (f : Nat) (σ : ps_S) : frO f σ σ := ⟨fun _ _ _ _ => rfl, fun _ _ => ⟨rfl, rfl⟩, fun _ _ _ _ => rfl⟩
theorem frO_trans {f : Nat} {σ σ' σ'' : ps_S} (h : frO f σ σ') (h' : frO f σ' σ'') : frO f σ σ'' :=
  ⟨fun g a b c => (h'.1 g a b c).trans (h.1 g a b c), fun k a => ⟨(h'.2.1 k a).1.trans (h.2.1 k a).1, (h'.2.1 k a).2.trans (h.2.1 k a).2⟩, fun j a b c => (h'.2.2 j a b c).trans (h.2.2 j a b c)⟩
theorem kF_O {f : Nat} {σ σ' : ps_S} (h : frO f σ σ') : kF σ σ' := fun g a _ _ _ b c => h.1 g a b c
theorem frO_scr {f : Nat} {σ σ' : ps_S} (h : ∀ g, g < 11 ∨ 18 < g → σ' g = σ g) : frO f σ σ' := ⟨fun g _ _ c => h g c, fun k _ => ⟨by rw [h 3 (by omega)], by rw [h 10 (by omega)]⟩, fun j _ _ _ => by rw [h 3 (by omega)]⟩
theorem gOK_eq {σ σ' τ : ps_S} {f : Nat} (h5 : σ' 3 f 5 = σ 3 f 5) (h6 : σ' 3 f 6 = σ 3 f 6) (h7 : σ' 7 f = σ 7 f) (h8 : σ' 8 f = σ 8 f) (h9 : σ' 9 f = σ 9 f) (h : gOK σ τ f) : gOK σ' τ f := by
  unfold gOK preG at h ⊢
  rw [h5, h6, h7, h8, h9]
  exact h
theorem gOK_st {σ τ : ps_S} {f : Nat} (h : gOK σ τ f) : ∀ c, c < 9 → σ 9 f c = stN τ f c := fun c hc => by
  by_cases z : mLk τ f c
  · rw [stN_t z]; exact h.2.2.1 c hc z
  · rw [stN_f z]; exact h.2.2.2 c hc z
theorem iF_S {σ σ' τ : ps_S} {f : Nat} (h : iF σ τ) (hs : frS f σ σ') (hg : gOK σ' τ f) (h1 : σ' 3 f 7 = 1) : iF σ' τ := fun k hk => by
  obtain ⟨a1, a2, a3, a4, a5, a6⟩ := h k hk
  refine ⟨frS_L hs a1, a2, ?_, a4, ?_, ?_⟩
  · unfold tdF; rw [hs.1 6 (by decide) (by decide) (by decide) (by decide)]; exact a3
  · by_cases e : k = f
    · subst e; exact Or.inr ⟨h1, hg⟩
    · obtain ⟨b1, b2, b3, b4⟩ := hs.2.1 k e
      rw [b1]
      exact a5.elim Or.inl (fun z => Or.inr ⟨z.1, gOK_eq (by rw [b1]) (by rw [b1]) b2 b3 b4 z.2⟩)
  · unfold oOK
    rw [hs.1 10 (by decide) (by decide) (by decide) (by decide)]
    by_cases e : k = f
    · subst e
      rw [hs.2.2 9 (by decide) (by decide) (by decide), hs.2.2 10 (by decide) (by decide) (by decide), hs.2.2 11 (by decide) (by decide) (by decide)]
      exact a6
    · rw [(hs.2.1 k e).1]
      exact a6
theorem iF_O {σ σ' τ : ps_S} {f : Nat} (h : iF σ τ) (hs : frO f σ σ') (hg : (σ' 3 f 11 = σ 3 f 11 ∧ σ' 3 f 9 = σ 3 f 9 ∧ σ' 3 f 10 = σ 3 f 10 ∧ σ' 10 f = σ 10 f) ∨ (σ' 3 f 11 = 1 ∧ oOK σ' τ f)) : iF σ' τ := fun k hk => by
  obtain ⟨a1, a2, a3, a4, a5, a6⟩ := h k hk
  have r5 : σ' 5 = σ 5 := hs.1 5 (by decide) (by decide) (by omega)
  have r6 : σ' 6 = σ 6 := hs.1 6 (by decide) (by decide) (by omega)
  have r7 : σ' 7 = σ 7 := hs.1 7 (by decide) (by decide) (by omega)
  have r8 : σ' 8 = σ 8 := hs.1 8 (by decide) (by decide) (by omega)
  have r9 : σ' 9 = σ 9 := hs.1 9 (by decide) (by decide) (by omega)
  have r3 : ∀ j, j ≠ 9 → j ≠ 10 → j ≠ 11 → σ' 3 k j = σ 3 k j := fun j x y z => by
    by_cases e : k = f
    · subst e; exact hs.2.2 j x y z
    · rw [(hs.2.1 k e).1]
  refine ⟨?_, a2, ?_, a4, ?_, ?_⟩
  · unfold iL; rw [r5]; exact a1
  · unfold tdF; rw [r6]; exact a3
  · rw [r3 7 (by decide) (by decide) (by decide)]
    exact a5.elim Or.inl (fun z => Or.inr ⟨z.1, gOK_eq (r3 5 (by decide) (by decide) (by decide)) (r3 6 (by decide) (by decide) (by decide)) (by rw [r7]) (by rw [r8]) (by rw [r9]) z.2⟩)
  · by_cases e : k = f
    · subst e
      rcases hg with ⟨g1, g2, g3, g4⟩ | g
      · unfold oOK
        rw [g1, g2, g3, g4]
        exact a6
      · exact Or.inr g
    · unfold oOK
      rw [(hs.2.1 k e).1, (hs.2.1 k e).2]
      exact a6
theorem bm_jOrs {g : Nat → Int32} {P : Nat → Nat → Prop} : ∀ {n : Nat}, (∀ i, i < n → bm (g i) 9 (P i)) → bm (jOrs n g) 9 (fun j => ∃ i, i < n ∧ P i j)
  | 0, _ => bm_congr bm_0 (fun i _ => ⟨fun q => q.elim, fun q => by obtain ⟨i, hi, _⟩ := q; exact absurd hi (Nat.not_lt_zero _)⟩)
  | n + 1, h => by
    show bm (jOrs n g ||| g n) 9 _
    refine bm_congr (bm_or (bm_jOrs (fun i hi => h i (by omega))) (h n (by omega))) (fun j _ => ?_)
    constructor
    · rintro (⟨i, hi, q⟩ | q)
      · exact ⟨i, by omega, q⟩
      · exact ⟨n, by omega, q⟩
    · rintro ⟨i, hi, q⟩
      rcases Nat.lt_or_eq_of_le (Nat.le_of_lt_succ hi) with z | z
      · exact Or.inl ⟨i, z, q⟩
      · exact Or.inr (z ▸ q)
theorem nd_x {σ τ : ps_S} {f s : Nat} (hg : gOK σ τ f) (ht : tdF σ τ f) (hs : s < 9) : bm (sAh σ f (nI s)) 9 (ndF τ f s) := by
  have hst := gOK_st hg
  have hsc : (nI s).toNatClampNeg = s := nI_clamp (by omega)
  unfold sAh
  refine bm_congr (bm_jOrs (P := fun a t => mLk τ f a ∧ grp τ f a ≠ s ∧ (∃ y, y < 9 ∧ τ 58 0 (81 * f + 9 * a + y) = 1 ∧ mLk τ f y ∧ grp τ f y = s) ∧ t = grp τ f a) (fun a ha => ?_)) (fun t _ => ?_)
  · have hac : (nI a).toNatClampNeg = a := nI_clamp (by omega)
    rw [hst a ha]
    by_cases z : mLk τ f a
    · have hlt := grp_lt τ ha z
      have hn := nst_le τ f
      rw [stN_t z, if_neg (nI_none (by omega))]
      by_cases e : grp τ f a = s
      · rw [if_pos (by rw [e])]
        exact bm_congr bm_0 (fun i _ => ⟨fun q => q.elim, fun q => q.2.1 e⟩)
      · rw [if_neg (fun q => e ((nI_eq (by omega) (by omega)).mp q))]
        have hz : (σ 6 f a &&& σ 8 f s = 0) ↔ ∀ y, y < 9 → ¬ (τ 58 0 (81 * f + 9 * a + y) = 1 ∧ y < 9 ∧ mLk τ f y ∧ grp τ f y = s) := bm_zero (bm_and (ht a ha) (hg.2.1 s hs)) (by decide)
        unfold jX0_tellsAheadOf
        rw [hac, hsc]
        by_cases w : ∃ y, y < 9 ∧ τ 58 0 (81 * f + 9 * a + y) = 1 ∧ mLk τ f y ∧ grp τ f y = s
        · have hnz : ¬ σ 6 f a &&& σ 8 f s = 0 := fun q => by
            obtain ⟨y, y1, y2, y3, y4⟩ := w
            exact hz.mp q y y1 ⟨y2, y1, y3, y4⟩
          rw [if_neg hnz, if_neg (by decide)]
          exact bm_congr (bm_1 (b := grp τ f a) (by omega) (by decide)) (fun i _ => ⟨fun q => ⟨z, e, w, q⟩, fun q => q.2.2.2⟩)
        · have hzz : σ 6 f a &&& σ 8 f s = 0 := hz.mpr (fun y y1 q => w ⟨y, y1, q.1, q.2.2⟩)
          rw [if_pos hzz, if_pos rfl]
          exact bm_congr bm_0 (fun i _ => ⟨fun q => q.elim, fun q => w q.2.2.1⟩)
    · rw [stN_f z, if_pos rfl]
      exact bm_congr bm_0 (fun i _ => ⟨fun q => q.elim, fun q => z q.1⟩)
  · constructor
    · rintro ⟨a, a1, a2, a3, ⟨y, y1, y2, y3, y4⟩, rfl⟩
      exact ⟨a, y, a1, y1, y2, a2, y3, rfl, y4, fun q => a3 q.symm⟩
    · rintro ⟨x, y, x1, y1, h1, h2, h3, rfl, rfl, h4⟩
      exact ⟨x, x1, h2, fun q => h4 q.symm, ⟨y, y1, h1, h3, rfl⟩, rfl⟩
section FX
variable {σ τ : ps_S} {f d : Nat} {Q : Option ps_V → ps_S → Prop}
theorem pX3_takeStates (hl : iL σ τ f) (ht : tdF σ τ f) (hg : gOK σ τ f) (hq : ∀ σ', (∀ g, g ≠ 15 → g ≠ 17 → g ≠ 18 → σ' g = σ g) → oS (nst τ f) (ndF τ f) (chF τ f) σ' → Q none σ') : ps_C mX3_takeStates (d + 2) [.inr (.inr (15, 0)), .inr (.inr (3, f))] σ Q := by
  have hn := nst_le τ f
  have h6 : σ 3 f 6 = nI (nst τ f) := hg.1.2.1
  -- what is written of a state
  have gl : ∀ ρ : ps_S, (∀ g, g ≠ 15 → g ≠ 17 → g ≠ 18 → ρ g = σ g) → ∀ (s t : Nat), nI (cntN 6 (fun p => ¬ jbUn (sGl ρ f (nI s) p) (sGl ρ f (nI t) p) = 0)) = nI (chF τ f s t) := by
    intro ρ f1 s t
    have hl' : iL ρ τ f := by unfold iL; rw [f1 5 (by decide) (by decide) (by decide)]; exact hl
    have h9 : ∀ c, c < 9 → ρ 9 f c = stN τ f c := by rw [f1 9 (by decide) (by decide) (by decide)]; exact gOK_st hg
    refine congrArg nI (cnt_congr (fun p hp => ?_))
    rw [sGl_eq hl' h9 hp, sGl_eq hl' h9 hp]
  have rows : ∀ r a, a + r = nst τ f → ∀ ρ, (∀ g, g ≠ 15 → g ≠ 17 → g ≠ 18 → ρ g = σ g) → ρ 15 0 3 = nI (nst τ f) → (∀ a', a' < a → bm (ρ 18 0 a') 9 (ndF τ f a')) → (∀ a' b', a' < a → b' < a → a' ≠ b' → ρ 17 0 (a' * 9 + b') = nI (chF τ f a' b')) → kX3_takeStates_10 d Q f (nI a) ρ := by
    intro r
    induction r with
    | zero =>
      intro a ha ρ f1 f2 f3 f4
      obtain rfl : a = nst τ f := by omega
      refine bX3_takeStates_10 (fun _ => hq ρ f1 ⟨f2, f3, f4⟩) ?_ ?_
      all_goals rw [f2]
      all_goals exact lpX (by omega)
    | succ r ih =>
      intro a ha ρ f1 f2 f3 f4
      have ha0 : a < nst τ f := by omega
      have hac : (nI a).toNatClampNeg = a := nI_clamp (by omega)
      have hg' : gOK ρ τ f := gOK_eq (by rw [f1 3 (by decide) (by decide) (by decide)]) (by rw [f1 3 (by decide) (by decide) (by decide)]) (by rw [f1 7 (by decide) (by decide) (by decide)]) (by rw [f1 8 (by decide) (by decide) (by decide)]) (by rw [f1 9 (by decide) (by decide) (by decide)]) hg
      have ht' : tdF ρ τ f := by unfold tdF; rw [f1 6 (by decide) (by decide) (by decide)]; exact ht
      have inner : ∀ t b, b + t = a → ∀ ρ, (∀ g, g ≠ 15 → g ≠ 17 → g ≠ 18 → ρ g = σ g) → ρ 15 0 3 = nI (nst τ f) → (∀ a', a' < a + 1 → bm (ρ 18 0 a') 9 (ndF τ f a')) → (∀ a' b', a' < a → b' < a → a' ≠ b' → ρ 17 0 (a' * 9 + b') = nI (chF τ f a' b')) → (∀ b', b' < b → ρ 17 0 (a * 9 + b') = nI (chF τ f a b') ∧ ρ 17 0 (b' * 9 + a) = nI (chF τ f b' a)) → kX3_takeStates_31 d Q f (nI a) (nI b) ρ := by
        intro t
        induction t with
        | zero =>
          intro b hb ρ f1 f2 f3 f4 f5
          obtain rfl : b = a := by omega
          refine bX3_takeStates_31 (fun _ => ?_) (lpX (by omega)) (lpX (by omega)) (lpX (by omega))
          rw [nI_1]
          refine ih (b + 1) (by omega) ρ f1 f2 f3 (fun a' b' h1 h2 h3 => ?_)
          rcases Nat.lt_or_eq_of_le (Nat.le_of_lt_succ h1) with z | z
          · rcases Nat.lt_or_eq_of_le (Nat.le_of_lt_succ h2) with w | w
            · exact f4 a' b' z w h3
            · rw [w]; exact (f5 a' z).2
          · rcases Nat.lt_or_eq_of_le (Nat.le_of_lt_succ h2) with w | w
            · rw [z]; exact (f5 b' w).1
            · omega
        | succ t ih2 =>
          intro b hb ρ f1 f2 f3 f4 f5
          have hb0 : b < a := by omega
          have e1 : (nI a * 9) + nI b = nI (a * 9 + b) := by rw [show (9 : Int32) = nI 9 from rfl, ix_mul, nI_add]
          have e2 : (nI b * 9) + nI a = nI (b * 9 + a) := by rw [show (9 : Int32) = nI 9 from rfl, ix_mul, nI_add]
          refine bX3_takeStates_31 (lpN hb0 (by omega)) (fun _ => by rw [e1]; exact vp_in_nI (by omega) (by decide)) (fun _ => by rw [e2]; exact vp_in_nI (by omega) (by decide)) (fun _ => ?_)
          rw [e1, e2, gl ρ f1 a b, nI_clamp (n := a * 9 + b) (by omega), nI_clamp (n := b * 9 + a) (by omega), nI_1]
          refine ih2 (b + 1) (by omega) _ (fun g x y z => by rw [ps_up_o y, ps_up_o y]; exact f1 g x y z) (by rw [ps_up_o (by decide), ps_up_o (by decide)]; exact f2) (fun a' h => by rw [ps_up_o (by decide), ps_up_o (by decide)]; exact f3 a' h) (fun a' b' h1 h2 h3 => ?_) (fun b' h => ?_)
          · rw [ps_up_v (by omega), ps_up_v (by omega)]; exact f4 a' b' h1 h2 h3
          · rcases Nat.lt_or_eq_of_le (Nat.le_of_lt_succ h) with z | z
            · rw [ps_up_v (by omega), ps_up_v (by omega), ps_up_v (by omega), ps_up_v (by omega)]; exact f5 b' z
            · rw [z, ps_up_s, ps_up_v (by omega), ps_up_s, chF_sym τ f b a]
              exact ⟨rfl, rfl⟩
      refine bX3_takeStates_10 (fun c => ?_) (fun _ => vp_in_nI (by omega) (by decide)) (fun _ => ?_)
      · rw [f2] at c
        exact lpN ha0 (by omega) c
      · rw [hac]
        refine inner a 0 (by omega) _ (fun g x y z => by rw [ps_up_o z]; exact f1 g x y z) (by rw [ps_up_o (by decide)]; exact f2) (fun a' h => ?_) (fun a' b' h1 h2 h3 => by rw [ps_up_o (by decide)]; exact f4 a' b' h1 h2 h3) (fun b' h => absurd h (by omega))
        rcases Nat.lt_or_eq_of_le (Nat.le_of_lt_succ h) with z | z
        · rw [ps_up_v (by omega)]; exact f3 a' z
        · rw [z, ps_up_s]
          exact nd_x hg' ht' (by omega)
  refine eX3_takeStates (bX3_takeStates_0 ?_)
  rw [h6]
  exact rows (nst τ f) 0 (by omega) _ (fun g x y z => ps_up_o x) ps_up_s (fun a' h => absurd h (by omega)) (fun a' b' h => absurd h (by omega))
theorem fW_ok (τ : ps_S) (f : Nat) : okW (fW τ f) := rW_ok (nst_le τ f) (chF_le τ f)
theorem pX3_makeOrders (hl : iL σ τ f) (ht : tdF σ τ f) (hg : gOK σ τ f) (ho : σ 3 f 11 = 0 ∨ (σ 3 f 11 = 1 ∧ oOK σ τ f)) (hq : ∀ σ', frO f σ σ' → oOK σ' τ f → σ' 3 f 11 = 1 → Q none σ') : ps_C mX3_makeOrders (d + 5) [.inr (.inr (15, 0)), .inr (.inr (3, f))] σ Q := by
  have hn := nst_le τ f
  have hch := chF_le τ f
  have okw := fW_ok τ f
  refine eX3_makeOrders (bX3_makeOrders_0 (fun c => ?_) (fun c => ?_))
  · refine pX3_takeStates (τ := τ) hl ht hg (fun σ1 e1 e2 => ⟨rfl, bX3_makeOrders_13 (pX3_findRests hn hch e2 (fun σ2 e3 e4 => ⟨_, rfl, ?_⟩))⟩)
    have fr2 : frO f σ σ2 := frO_scr (fun g h => by rw [e3 g (by omega)]; exact e1 g (by omega) (by omega) (by omega))
    have hS2 : oS (nst τ f) (ndF τ f) (chF τ f) σ2 := by unfold oS; rw [e3 15 (by decide), e3 18 (by decide), e3 17 (by decide)]; exact e2
    show kX3_makeOrders_17 _ Q f (enc (fW τ f)) σ2
    -- the end, with cost and ways written
    have fin : ∀ ρ, frO f σ2 ρ → ρ 3 f 9 = lsN τ f → ρ 3 f 10 = nI (fW τ f).2 → (∀ i, i < 9 → ρ 10 f i = fsN τ f i) → Q none (ps_up ρ 3 f 11 1) := by
      intro ρ g1 g2 g3 g4
      refine hq _ (frO_trans fr2 (frO_trans g1 ⟨fun g x _ _ => ps_up_o x, fun k x => ⟨ps_up_k x, by rw [ps_up_o (by decide)]⟩, fun j x y z => ps_up_v (by omega)⟩)) ⟨by rw [ps_up_v (by omega)]; exact g2, by rw [ps_up_v (by omega)]; exact g3, fun i hi => by rw [ps_up_o (by decide)]; exact g4 i hi⟩ ps_up_s
    by_cases z : (fW τ f).1 < far
    · obtain ⟨o1, o2, o3⟩ := okW_lt okw z
      have hls : lsN τ f = nI (fW τ f).1 := by unfold lsN; rw [if_pos z]
      rw [enc_t z]
      have hne : ¬ nI ((fW τ f).1 * 1048576 + (fW τ f).2) = -1 := nI_neg1 (by omega)
      refine bX3_makeOrders_17 (fun _ => ?_) (fun q => absurd q hne)
      rw [enc_div (by omega) (by omega)]
      refine bX3_makeOrders_33 (fun _ => ?_) (fun q => absurd q hne)
      rw [enc_mod (by omega) (by omega)]
      refine bX3_makeOrders_50 (pJ7_fill (n := 9) (by rfl) (by decide) (by decide) ⟨rfl, bX3_makeOrders_62 (fun q => absurd q hne) (fun _ => ?_)⟩)
      have e9 : (ps_fil (ps_up (ps_up σ2 3 f 9 (nI (fW τ f).1)) 3 f 10 (nI (fW τ f).2)) 10 f 9 (-900009)) 3 f 9 = nI (fW τ f).1 := by rw [ps_fil_o (by decide), ps_up_v (by omega), ps_up_s]
      rw [e9]
      have fr3 : frO f σ2 (ps_fil (ps_up (ps_up σ2 3 f 9 (nI (fW τ f).1)) 3 f 10 (nI (fW τ f).2)) 10 f 9 (-900009)) := ⟨fun g x y _ => by rw [ps_fil_o y, ps_up_o x, ps_up_o x], fun k x => ⟨by rw [ps_fil_o (by decide), ps_up_k x, ps_up_k x], by rw [ps_fil_k x, ps_up_o (by decide), ps_up_o (by decide)]⟩, fun j x y w => by rw [ps_fil_o (by decide), ps_up_v (by omega), ps_up_v (by omega)]⟩
      have hS3 : oS (nst τ f) (ndF τ f) (chF τ f) (ps_fil (ps_up (ps_up σ2 3 f 9 (nI (fW τ f).1)) 3 f 10 (nI (fW τ f).2)) 10 f 9 (-900009)) := by
        unfold oS
        rw [ps_fil_o (by decide), ps_up_o (by decide), ps_up_o (by decide), ps_fil_o (by decide), ps_up_o (by decide), ps_up_o (by decide), ps_fil_o (by decide), ps_up_o (by decide), ps_up_o (by decide)]
        exact hS2
      have hR3 : oR (nst τ f) (ndF τ f) (chF τ f) (ps_fil (ps_up (ps_up σ2 3 f 9 (nI (fW τ f).1)) 3 f 10 (nI (fW τ f).2)) 10 f 9 (-900009)) 1 := by
        unfold oR
        rw [ps_fil_o (by decide), ps_up_o (by decide), ps_up_o (by decide)]
        exact e4
      refine pX3_walkFirst hn hch hS3 hR3 z (fun σ' g1 g2 g3 g4 => ⟨rfl, bX3_makeOrders_79 (fin σ' (frO_trans fr3 ⟨fun g _ y _ => g1 g y, fun k x => ⟨by rw [g1 3 (by decide)], g2 k x⟩, fun j _ _ _ => by rw [g1 3 (by decide)]⟩) ?_ ?_ (fun i hi => ?_))⟩)
      · rw [g1 3 (by decide), e9, hls]
      · rw [g1 3 (by decide), ps_fil_o (by decide), ps_up_s]
      · unfold fsN
        by_cases w : i < nst τ f
        · rw [if_pos ⟨z, w⟩]
          exact g3 i w
        · rw [if_neg (fun q => w q.2), g4 i (by omega), ps_fil_s hi]
    · have hls : lsN τ f = -900009 := by unfold lsN; rw [if_neg z]
      have hz2 := okW_far okw z
      rw [enc_f z]
      refine bX3_makeOrders_17 (fun q => absurd rfl q) (fun _ => bX3_makeOrders_33 (fun q => absurd rfl q) (fun _ => bX3_makeOrders_50 (pJ7_fill (n := 9) (by rfl) (by decide) (by decide) ⟨rfl, bX3_makeOrders_62 (fun _ => ?_) (fun q => absurd rfl q)⟩)))
      refine fin _ ⟨fun g x y _ => by rw [ps_fil_o y, ps_up_o x, ps_up_o x], fun k x => ⟨by rw [ps_fil_o (by decide), ps_up_k x, ps_up_k x], by rw [ps_fil_k x, ps_up_o (by decide), ps_up_o (by decide)]⟩, fun j x y w => by rw [ps_fil_o (by decide), ps_up_v (by omega), ps_up_v (by omega)]⟩ ?_ ?_ (fun i hi => ?_)
      · rw [ps_fil_o (by decide), ps_up_v (by omega), ps_up_s, hls]
      · rw [ps_fil_o (by decide), ps_up_s, hz2]
        rfl
      · rw [ps_fil_s hi]
        unfold fsN
        rw [if_neg (fun q => z q.1)]
  · rcases ho with w | w
    · exact absurd w c
    · exact hq σ (frO_refl f σ) w.2 w.1
end FX

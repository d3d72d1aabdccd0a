/-! ===== states of a forme: how many, and whose; the class's makeGroups ===== -/
theorem mAlk_sym {τ : ps_S} {f a b : Nat} : mAlk τ f a b ↔ mAlk τ f b a := by
  unfold mAlk
  constructor
  · intro h p hp
    rcases jbUn_0.mp (h p hp) with z | z | z
    · exact jbUn_0.mpr (Or.inr (Or.inl z))
    · exact jbUn_0.mpr (Or.inl z)
    · exact jbUn_0.mpr (Or.inr (Or.inr z.symm))
  · intro h p hp
    rcases jbUn_0.mp (h p hp) with z | z | z
    · exact jbUn_0.mpr (Or.inr (Or.inl z))
    · exact jbUn_0.mpr (Or.inl z)
    · exact jbUn_0.mpr (Or.inr (Or.inr z.symm))
def A0 : Nat → Nat := fun _ => 0
def exG (τ : ps_S) (f m : Nat) : Prop := ∃ A', fl (mLk τ f) (mAlk τ f) m 9 A0 0 = some A'
/-- how many states; the state of a copy that was looked at -/
noncomputable def nst (τ : ps_S) (f : Nat) : Nat := (fstN 10 0 (exG τ f)).getD 0
noncomputable def grp (τ : ps_S) (f : Nat) : Nat → Nat := (fl (mLk τ f) (mAlk τ f) (nst τ f) 9 A0 0).getD A0
theorem nst_isF (τ : ps_S) (f : Nat) : isF 10 (exG τ f) (nst τ f) := fst_isF ⟨9, by decide, fl_ex 9 A0 0 (by decide) (by decide) (fun c hc _ => absurd hc (by omega))⟩
theorem nst_le (τ : ps_S) (f : Nat) : nst τ f ≤ 9 := by have := (nst_isF τ f).1; omega
theorem grp_eq (τ : ps_S) (f : Nat) : fl (mLk τ f) (mAlk τ f) (nst τ f) 9 A0 0 = some (grp τ f) := by
  obtain ⟨A', h⟩ := (nst_isF τ f).2.1
  unfold grp
  rw [h]
  rfl
theorem nst_of {τ : ps_S} {f m : Nat} {A' : Nat → Nat} (h : fl (mLk τ f) (mAlk τ f) m 9 A0 0 = some A') (hm : m < 10) (hno : ∀ i, i < m → ¬ exG τ f i) : nst τ f = m ∧ grp τ f = A' := by
  have e : nst τ f = m := isF_uniq (nst_isF τ f) ⟨hm, ⟨A', h⟩, hno⟩
  refine ⟨e, ?_⟩
  have := grp_eq τ f
  rw [e, h] at this
  exact (Option.some.inj this).symm
/-- the letters of a forme on both sides -/
def iL (σ τ : ps_S) (f : Nat) : Prop := ∀ c p, c < 9 → p < 6 → σ 5 (9 * f + c) p = τ 51 0 (54 * f + 6 * c + p)
theorem sLk_iff {σ τ : ps_S} {f c : Nat} (h : iL σ τ f) (hc : c < 9) : sLk σ f c ↔ mLk τ f c := by
  unfold sLk mLk
  constructor
  · rintro ⟨p, hp, q⟩; exact ⟨p, hp, by rw [← h c p hc hp]; exact q⟩
  · rintro ⟨p, hp, q⟩; exact ⟨p, hp, by rw [h c p hc hp]; exact q⟩
theorem sAlk_iff {σ τ : ps_S} {f a b : Nat} (h : iL σ τ f) (ha : a < 9) (hb : b < 9) : sAlk σ f a b ↔ mAlk τ f a b := by
  unfold sAlk mAlk
  constructor
  · intro q p hp; rw [← h a p ha hp, ← h b p hb hp]; exact q p hp
  · intro q p hp; rw [h a p ha hp, h b p hb hp]; exact q p hp
/-- the states of a forme are made -/
def gOK (σ τ : ps_S) (f : Nat) : Prop := preG (mLk τ f) (mAlk τ f) (nst τ f) f σ (grp τ f) 9
/-- cells that makeGroups writes -/
def frS (f : Nat) (σ σ' : ps_S) : Prop := (∀ g, g ≠ 3 → g ≠ 7 → g ≠ 8 → g ≠ 9 → σ' g = σ g) ∧ (∀ k, k ≠ f → σ' 3 k = σ 3 k ∧ σ' 7 k = σ 7 k ∧ σ' 8 k = σ 8 k ∧ σ' 9 k = σ 9 k) ∧ ∀ j, j ≠ 5 → j ≠ 6 → j ≠ 7 → σ' 3 f j = σ 3 f j
theorem frS_refl (f : Nat) (σ : ps_S) : frS f σ σ := ⟨fun _ _ _ _ _ => rfl, fun _ _ => ⟨rfl, rfl, rfl, rfl⟩, fun _ _ _ _ => rfl⟩
theorem frS_trans {f : Nat} {σ σ' σ'' : ps_S} (h : frS f σ σ') (h' : frS f σ' σ'') : frS f σ σ'' :=
  ⟨fun g a b c d => (h'.1 g a b c d).trans (h.1 g a b c d), fun k a => ⟨(h'.2.1 k a).1.trans (h.2.1 k a).1, (h'.2.1 k a).2.1.trans (h.2.1 k a).2.1, (h'.2.1 k a).2.2.1.trans (h.2.1 k a).2.2.1, (h'.2.1 k a).2.2.2.trans (h.2.1 k a).2.2.2⟩, fun j a b c => (h'.2.2 j a b c).trans (h.2.2 j a b c)⟩
theorem frS_G {f : Nat} {σ σ' : ps_S} (h : frG f σ σ') : frS f σ σ' := ⟨fun g _ _ c d => h.1 g c d, fun k a => ⟨by rw [h.1 3 (by decide) (by decide)], by rw [h.1 7 (by decide) (by decide)], (h.2 k a).1, (h.2 k a).2⟩, fun j _ _ _ => by rw [h.1 3 (by decide) (by decide)]⟩
theorem frS_3 {f j : Nat} {σ : ps_S} {x : Int32} (hj : j = 5 ∨ j = 6 ∨ j = 7) : frS f σ (ps_up σ 3 f j x) := ⟨fun g a _ _ _ => ps_up_o a, fun k a => ⟨ps_up_k a, by rw [ps_up_o (by decide)], by rw [ps_up_o (by decide)], by rw [ps_up_o (by decide)]⟩, fun i a b c => ps_up_v (by omega)⟩
theorem frS_7 {f j : Nat} {σ : ps_S} {x : Int32} : frS f σ (ps_up σ 7 f j x) := ⟨fun g _ a _ _ => ps_up_o a, fun k a => ⟨by rw [ps_up_o (by decide)], ps_up_k a, by rw [ps_up_o (by decide)], by rw [ps_up_o (by decide)]⟩, fun i a b c => by rw [ps_up_o (by decide)]⟩
theorem frS_L {f : Nat} {σ σ' τ : ps_S} {f' : Nat} (h : frS f σ σ') (hl : iL σ τ f') : iL σ' τ f' := by
  unfold iL
  rw [h.1 5 (by decide) (by decide) (by decide) (by decide)]
  exact hl
section GM
variable {σ τ : ps_S} {f d : Nat} {Q : Option ps_V → ps_S → Prop}
theorem pX0_makeGroups (hl : iL σ τ f) (hq : ∀ σ', frS f σ σ' → gOK σ' τ f → σ' 3 f 7 = 1 → Q none σ') : ps_C mX0_makeGroups (d + 14) [.inr (.inr (3, f))] σ Q := by
  -- as the number of groups grows
  have tries : ∀ r m, m + r = 9 → ∀ ρ, frS f σ ρ → preG (mLk τ f) (mAlk τ f) m f ρ A0 0 → (∀ i, i < m → ¬ exG τ f i) → kX0_makeGroups_53 (d + 11) Q f ρ := by
    intro r
    have step : ∀ m, m ≤ 9 → ∀ ρ, frS f σ ρ → preG (mLk τ f) (mAlk τ f) m f ρ A0 0 → (∀ i, i < m → ¬ exG τ f i) → (m < 9 → ∀ ρ', frS f σ ρ' → preG (mLk τ f) (mAlk τ f) (m + 1) f ρ' A0 0 → (∀ i, i < m + 1 → ¬ exG τ f i) → kX0_makeGroups_53 (d + 11) Q f ρ') → kX0_makeGroups_53 (d + 11) Q f ρ := by
      intro m hm ρ f1 f2 hno next
      refine bX0_makeGroups_53 (pX0_fill (lk := mLk τ f) (alk := mAlk τ f) (m := m) hm 9 (d + 3) ρ A0 0 _ (by decide) (by decide) f2 (fun A' σ' e1 e2 e3 => ⟨_, rfl, bX0_makeGroups_59 (fun _ => ?_) (fun q => absurd q (by decide)) (fun q => absurd q (by decide))⟩) (fun e1 σ' e2 e3 => ⟨_, rfl, bX0_makeGroups_59 (fun q => absurd rfl q) (fun _ c => ?_) (fun _ c => ?_)⟩))
      · obtain ⟨g1, g2⟩ := nst_of e1 (by omega) hno
        refine hq _ (frS_trans f1 (frS_trans (frS_G e2) (frS_3 (by omega)))) ?_ ps_up_s
        unfold gOK
        rw [g1, g2]
        obtain ⟨⟨a1, a2, a3⟩, a4, a5, a6⟩ := e3
        refine ⟨⟨by rw [ps_up_v (by omega)]; exact a1, by rw [ps_up_v (by omega)]; exact a2, fun a ha => by rw [ps_up_o (by decide)]; exact a3 a ha⟩, fun g hg => by rw [ps_up_o (by decide)]; exact a4 g hg, fun c' h1 h2 => by rw [ps_up_o (by decide)]; exact a5 c' h1 h2, fun c' h1 h2 => by rw [ps_up_o (by decide)]; exact a6 c' h1 h2⟩
      · exfalso
        rw [e3.1.2.1, show (9 : Int32) = nI 9 from rfl, nI_leI (by decide) (by omega)] at c
        have e : m = 9 := by omega
        subst e
        obtain ⟨A', h⟩ := fl_ex (lk := mLk τ f) (alk := mAlk τ f) (m := 9) 9 A0 0 (by decide) (by decide) (fun c hc _ => absurd hc (by omega))
        rw [e1] at h
        cases h
      · rw [e3.1.2.1, show (9 : Int32) = nI 9 from rfl, nI_leI (by decide) (by omega)] at c
        rw [e3.1.2.1, nI_1]
        refine next (by omega) _ (frS_trans f1 (frS_trans (frS_G e2) (frS_3 (by omega)))) ?_ (fun i hi => ?_)
        · obtain ⟨⟨a1, a2, a3⟩, a4, a5, a6⟩ := e3
          exact ⟨⟨by rw [ps_up_v (by omega)]; exact a1, ps_up_s, fun a ha => by rw [ps_up_o (by decide)]; exact a3 a ha⟩, fun g hg => by rw [ps_up_o (by decide)]; exact a4 g hg, fun c' h1 h2 => by rw [ps_up_o (by decide)]; exact a5 c' h1 h2, fun c' h1 h2 => by rw [ps_up_o (by decide)]; exact a6 c' h1 h2⟩
        · rcases Nat.lt_or_eq_of_le (Nat.le_of_lt_succ hi) with z | z
          · exact hno i z
          · subst z
            rintro ⟨A', h⟩
            rw [e1] at h
            cases h
    induction r with
    | zero =>
      intro m hm ρ f1 f2 hno
      exact step m (by omega) ρ f1 f2 hno (fun q => absurd q (by omega))
    | succ r ih =>
      intro m hm ρ f1 f2 hno
      exact step m (by omega) ρ f1 f2 hno (fun _ ρ' g1 g2 g3 => ih (m + 1) (by omega) ρ' g1 g2 g3)
  have rows : ∀ r j, j + r = 9 → ∀ ρ, frS f σ ρ → bm (ρ 3 f 5) 9 (mLk τ f) → (∀ a, a < j → bm (ρ 7 f a) 9 (fun b => ¬ mAlk τ f b a) ∧ ρ 8 f a = 0 ∧ ρ 9 f a = -900009) → kX0_makeGroups_10 (d + 11) Q f (nI j) ρ := by
    intro r
    induction r with
    | zero =>
      intro j hj ρ f1 f2 f3
      obtain rfl : j = 9 := by omega
      refine bX0_makeGroups_10 (fun _ => tries 9 0 rfl _ (frS_trans f1 (frS_3 (by omega))) ?_ (fun i hi => absurd hi (by omega))) (lpX (N := 9) (by decide)) (lpX (N := 9) (by decide))
      refine ⟨⟨by rw [ps_up_v (by omega)]; exact f2, ps_up_s, fun a ha => by rw [ps_up_o (by decide)]; exact (f3 a ha).1⟩, fun g hg => ?_, fun c' h1 _ => absurd h1 (by omega), fun c' h1 _ => by rw [ps_up_o (by decide)]; exact (f3 c' h1).2.2⟩
      rw [ps_up_o (by decide), (f3 g hg).2.1]
      exact bm_congr bm_0 (fun i hi => ⟨fun q => q.elim, fun q => absurd q.1 (by omega)⟩)
    | succ r ih =>
      intro j hj ρ f1 f2 f3
      have hj0 : j < 9 := by omega
      have hjc : (nI j).toNatClampNeg = j := nI_clamp (by omega)
      refine bX0_makeGroups_10 (lpN (N := 9) hj0 (by decide)) (fun _ => vp_in_nI hj0 (by decide)) (fun _ => ?_)
      rw [hjc, nI_1]
      have fr : frS f σ (ps_up (ps_up ρ 8 f j 0) 9 f j (-900009)) := frS_trans f1 (frS_trans (frS_G (frG_up (by omega))) (frS_G (frG_up (by omega))))
      refine ih (j + 1) (by omega) _ (frS_trans fr frS_7) ?_ (fun a ha => ?_)
      · rw [ps_up_o (by decide), ps_up_o (by decide), ps_up_o (by decide)]; exact f2
      · by_cases e : a = j
        · subst e
          refine ⟨?_, ?_, ?_⟩
          · rw [ps_up_s]
            refine bm_congr (bm_mk (by decide)) (fun b hb => ?_)
            rw [sAlk_iff (frS_L fr hl) hj0 hb, mAlk_sym]
          · rw [ps_up_o (by decide), ps_up_o (by decide), ps_up_s]
          · rw [ps_up_o (by decide), ps_up_s]
        · have h3 := f3 a (by omega)
          refine ⟨?_, ?_, ?_⟩
          · rw [ps_up_v (by omega), ps_up_o (by decide), ps_up_o (by decide)]; exact h3.1
          · rw [ps_up_o (by decide), ps_up_o (by decide), ps_up_v (by omega)]; exact h3.2.1
          · rw [ps_up_o (by decide), ps_up_v (by omega), ps_up_o (by decide)]; exact h3.2.2
  refine eX0_makeGroups (bX0_makeGroups_0 (rows 9 0 rfl _ (frS_3 (by omega)) ?_ (fun a ha => absurd ha (by omega))))
  rw [ps_up_s]
  exact bm_congr (bm_mk (by decide)) (fun c hc => sLk_iff hl hc)
/-- all that asks for states takes the forme from here -/
theorem pX7_grouped (hf : f < 6) (hl : iL σ τ f) (hg : σ 3 f 7 = 0 ∨ (σ 3 f 7 = 1 ∧ gOK σ τ f)) (hq : ∀ σ', frS f σ σ' → gOK σ' τ f → σ' 3 f 7 = 1 → Q (some (.inr (.inr (3, f)))) σ') : ps_C mX7_grouped (d + 15) [ps_x, .inl (nI f)] σ Q := by
  have hfc : (nI f).toNatClampNeg = f := nI_clamp (by omega)
  refine eX7_grouped (bX7_grouped_0 (vp_in_nI hf (by decide)) (fun c => ?_) (fun c => ?_))
  · rw [hfc] at c ⊢
    rcases hg with z | ⟨z, w⟩
    · exact absurd z c
    · exact hq σ (frS_refl f σ) w z
  · rw [hfc]
    exact pX0_makeGroups hl (fun σ' e1 e2 e3 => ⟨rfl, bX7_grouped_18 (hq σ' e1 e2 e3)⟩)
end GM

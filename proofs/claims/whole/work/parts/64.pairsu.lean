/-! ===== a call of the class, then the same of the reference: what is told ===== -/
section PU
variable {σ ρ : ps_S} {d : Nat} {P : ps_S → Prop} {v v1 v2 v3 v4 : Int32}
theorem INV_uF (h : INV σ σ) (hc : ∀ g, 11 ≤ g → g ≠ 51 → g ≠ 58 → ρ g = σ g) (i : iF ρ ρ) : INV ρ ρ := by
  obtain ⟨hF, hT, hP, hH, hW⟩ := h
  have e := hc 50 (by omega) (by omega) (by omega)
  exact ⟨i, iT_mv (fun g a b => hc g (by omega) (by omega) (by omega)) (by rw [hc 63 (by omega) (by omega) (by omega)]) hT, iP_mv (hc 24 (by omega) (by omega) (by omega)) (hc 28 (by omega) (by omega) (by omega)) (by rw [hc 63 (by omega) (by omega) (by omega)]) (by rw [e]) hP, iH_mv (fun g a b => hc g (by omega) (by omega) (by omega)) (by rw [hc 68 (by omega) (by omega) (by omega)]) (by rw [hc 69 (by omega) (by omega) (by omega)]) (by rw [hc 70 (by omega) (by omega) (by omega)]) (by rw [e]) hH, iW_mv (fun g a b => hc g (by omega) (by omega) (by omega)) ⟨by rw [hc 74 (by omega) (by omega) (by omega)], by rw [hc 75 (by omega) (by omega) (by omega)], by rw [e], by rw [e], by rw [e]⟩ hW⟩
theorem INV_uT (h : INV σ σ) (hc : ∀ g, g < 19 ∨ 29 < g → g ≠ 50 → g ≠ 63 → ρ g = σ g) (h50 : ∀ j, j ≠ 13 → ρ 50 0 j = σ 50 0 j) (i : iT ρ ρ) (i2 : iP ρ ρ) : INV ρ ρ := by
  obtain ⟨hF, hT, hP, hH, hW⟩ := h
  exact ⟨iF_mv (fun g a b => hc g (by omega) (by omega) (by omega)) (fun f _ => bF_of (by rw [hc 51 (by omega) (by omega) (by omega)]) (by rw [hc 58 (by omega) (by omega) (by omega)]) f) hF, i, i2, iH_mv (fun g a b => hc g (by omega) (by omega) (by omega)) (by rw [hc 68 (by omega) (by omega) (by omega)]) (by rw [hc 69 (by omega) (by omega) (by omega)]) (by rw [hc 70 (by omega) (by omega) (by omega)]) (h50 20 (by omega)) hH, iW_mv (fun g a b => hc g (by omega) (by omega) (by omega)) ⟨by rw [hc 74 (by omega) (by omega) (by omega)], by rw [hc 75 (by omega) (by omega) (by omega)], h50 21 (by omega), h50 22 (by omega), h50 25 (by omega)⟩ hW⟩
theorem INV_uH (h : INV σ σ) (hc : ∀ g, g < 30 ∨ 35 < g → g ≠ 50 → g ≠ 68 → g ≠ 69 → g ≠ 70 → ρ g = σ g) (h50 : ∀ j, j ≠ 20 → ρ 50 0 j = σ 50 0 j) (i : iH ρ ρ) : INV ρ ρ := by
  obtain ⟨hF, hT, hP, hH, hW⟩ := h
  have c : ∀ g, g < 30 ∨ 35 < g → g ≠ 50 → (g < 68 ∨ 70 < g) → ρ g = σ g := fun g a b x => hc g a b (by omega) (by omega) (by omega)
  exact ⟨iF_mv (fun g a b => c g (by omega) (by omega) (by omega)) (fun f _ => bF_of (by rw [c 51 (by omega) (by omega) (by omega)]) (by rw [c 58 (by omega) (by omega) (by omega)]) f) hF, iT_mv (fun g a b => c g (by omega) (by omega) (by omega)) (by rw [c 63 (by omega) (by omega) (by omega)]) hT, iP_mv (c 24 (by omega) (by omega) (by omega)) (c 28 (by omega) (by omega) (by omega)) (by rw [c 63 (by omega) (by omega) (by omega)]) (h50 13 (by omega)) hP, i, iW_mv (fun g a b => c g (by omega) (by omega) (by omega)) ⟨by rw [c 74 (by omega) (by omega) (by omega)], by rw [c 75 (by omega) (by omega) (by omega)], h50 21 (by omega), h50 22 (by omega), h50 25 (by omega)⟩ hW⟩
theorem INV_uW (h : INV σ σ) (hc : ∀ g, g < 36 ∨ 48 < g → g ≠ 50 → g ≠ 74 → g ≠ 75 → ρ g = σ g) (h50 : ∀ j, j ≠ 21 → j ≠ 22 → j ≠ 25 → ρ 50 0 j = σ 50 0 j) (i : iW ρ ρ) : INV ρ ρ := by
  obtain ⟨hF, hT, hP, hH, hW⟩ := h
  exact ⟨iF_mv (fun g a b => hc g (by omega) (by omega) (by omega) (by omega)) (fun f _ => bF_of (by rw [hc 51 (by omega) (by omega) (by omega) (by omega)]) (by rw [hc 58 (by omega) (by omega) (by omega) (by omega)]) f) hF, iT_mv (fun g a b => hc g (by omega) (by omega) (by omega) (by omega)) (by rw [hc 63 (by omega) (by omega) (by omega) (by omega)]) hT, iP_mv (hc 24 (by omega) (by omega) (by omega) (by omega)) (hc 28 (by omega) (by omega) (by omega) (by omega)) (by rw [hc 63 (by omega) (by omega) (by omega) (by omega)]) (h50 13 (by omega) (by omega) (by omega)) hP, iH_mv (fun g a b => hc g (by omega) (by omega) (by omega) (by omega)) (by rw [hc 68 (by omega) (by omega) (by omega) (by omega)]) (by rw [hc 69 (by omega) (by omega) (by omega) (by omega)]) (by rw [hc 70 (by omega) (by omega) (by omega) (by omega)]) (h50 20 (by omega) (by omega) (by omega)) hH, i⟩
-- heaps
theorem pr_size (h : INV σ σ) (K : ∀ ρ, INV ρ ρ → P ρ) : prD mX7_size mX8_size d [.inl v1] σ P := by
  refine x_size (fun c => ⟨_, rfl, m_size (fun _ => ⟨_, rfl, ?_, K _ ?_⟩) (fun q => absurd c q)⟩) (fun c => ⟨_, rfl, m_size (fun q => absurd q c) (fun _ => ⟨_, rfl, rfl, K _ h⟩)⟩)
  · rw [ps_up_o (by decide)]
    exact h.2.2.2.1.1.1
  · obtain ⟨z, z1, z2, rfl⟩ := num_of (v := v1) (lo := 1) (hi := 12) c.1 c.2
    refine INV_uH h (fun g a b _ _ _ => by rw [ps_up_o b, ps_up_o (by omega)]) (fun j a => by rw [ps_up_v (by omega), ps_up_o (by decide)]) ⟨⟨?_, z, z1, z2, ps_up_s⟩, ?_, ?_⟩
    · rw [ps_up_s, ps_up_o (by decide), ps_up_s]
    · intro f hf
      rw [ps_up_o (by decide), ps_up_o (by decide), ps_up_o (by decide), ps_up_o (by decide)]
      exact h.2.2.2.1.2.1 f hf
    · intro f b hf hb
      rw [ps_up_o (by decide), ps_up_o (by decide), ps_up_o (by decide), ps_up_o (by decide), ps_up_o (by decide), ps_up_o (by decide), ps_up_o (by decide), ps_up_o (by decide)]
      exact h.2.2.2.1.2.2 f b hf hb
theorem pr_seen (h : INV σ σ) (K : ∀ ρ, INV ρ ρ → P ρ) : prD mX7_seen mX8_seen d [.inl v1, .inl v2, .inl v3] σ P := by
  refine x_seen (fun c => ⟨_, rfl, m_seen (fun _ => ⟨_, rfl, rfl, K _ h⟩) (fun a b _ => absurd ⟨a, b⟩ c) (fun a b _ => absurd ⟨a, b⟩ c)⟩) (fun a b c => ⟨_, rfl, m_seen (fun q => absurd ⟨a, b⟩ q) (fun _ _ _ => ⟨_, rfl, rfl, K _ h⟩) (fun _ _ q => absurd q c)⟩) (fun a b c => ⟨_, rfl, m_seen (fun q => absurd ⟨a, b⟩ q) (fun _ _ q => absurd c q) (fun _ _ _ => ⟨_, rfl, ?_, K _ ?_⟩)⟩)
  · obtain ⟨f, hf, rfl⟩ := vp_num (by decide) a
    obtain ⟨k, hk, rfl⟩ := vp_num (by decide) b
    rw [nI_clamp (by omega), nI_clamp (by omega), ps_up_o (by decide)]
    exact (h.2.2.2.1.2.2 f k hf hk).2
  · obtain ⟨f, hf, rfl⟩ := vp_num (by decide) a
    obtain ⟨k, hk, rfl⟩ := vp_num (by decide) b
    rw [nI_clamp (by omega), nI_clamp (by omega)]
    refine INV_uH h (fun g x _ _ _ y => by rw [ps_up_o y, ps_up_o (by omega)]) (fun j _ => by rw [ps_up_o (by decide), ps_up_o (by decide)]) ⟨?_, ?_, ?_⟩
    · rw [ps_up_o (by decide), ps_up_o (by decide), ps_up_o (by decide), ps_up_o (by decide)]
      exact h.2.2.2.1.1
    · intro f' hf'
      rw [ps_up_o (by decide), ps_up_o (by decide), ps_up_o (by decide), ps_up_o (by decide)]
      exact h.2.2.2.1.2.1 f' hf'
    · intro f' b' hf' hb'
      obtain ⟨w1, w2⟩ := h.2.2.2.1.2.2 f' b' hf' hb'
      refine ⟨by rw [ps_up_o (by decide), ps_up_o (by decide), ps_up_o (by decide), ps_up_o (by decide)]; exact w1, ?_⟩
      by_cases e : f' = f ∧ b' = k
      · obtain ⟨rfl, rfl⟩ := e
        rw [ps_up_s, ps_up_o (by decide), ps_up_s]
      · rw [ps_up_v (k' := 0) (by omega), ps_up_o (by decide), ps_up_v (by omega), ps_up_o (by decide)]
        exact w2
theorem hn_up {f : Nat} (e : ρ 68 0 f = σ 68 0 f) : hn ρ f = hn σ f := by unfold hn; rw [e]
theorem pr_sheet (h : INV σ σ) (K : ∀ ρ, INV ρ ρ → P ρ) : prD mX7_sheet mX8_sheet d [.inl v1, .inl v2] σ P := by
  have hH := h.2.2.2.1
  refine x_sheet hH (fun c => ⟨_, rfl, m_sheet hH (fun _ => ⟨_, rfl, rfl, K _ h⟩) (fun a _ => absurd a c) (fun f hf e _ _ => absurd (vI hf (by decide) e) c) (fun f hf e _ _ => absurd (vI hf (by decide) e) c)⟩)
    (fun a c => ⟨_, rfl, m_sheet hH (fun q => absurd a q) (fun _ _ => ⟨_, rfl, rfl, K _ h⟩) (fun f hf e w _ => absurd w c) (fun f hf e w _ => absurd w c)⟩)
    (fun f hf e w w2 => ⟨_, rfl, m_sheet hH (fun q => absurd (vI hf (by decide) e) q) (fun _ q => absurd w q) (fun _ _ _ _ _ => ⟨_, rfl, rfl, K _ h⟩) (fun f' hf' e' _ q => absurd w2 (by rw [vJ hf hf' (by decide) e e']; omega))⟩)
    (fun f hf e w w2 => ⟨_, rfl, ?_⟩)
  obtain ⟨σ1, hσ1⟩ : ∃ σ1, σ1 = ps_up (ps_up σ 32 f (hn σ f) v2) 33 0 f (nI (hn σ f + 1)) := ⟨_, rfl⟩
  rw [← hσ1]
  have o : ∀ g, g ≠ 32 → g ≠ 33 → σ1 g = σ g := fun g a b => by rw [hσ1, ps_up_o b, ps_up_o a]
  have en : ∀ k, hn σ1 k = hn σ k := fun k => hn_up (by rw [o 68 (by decide) (by decide)])
  -- the reference's call sees its own cells alone
  have hH1 : iH σ σ1 := by
    unfold iH
    rw [o 50 (by decide) (by decide), o 68 (by decide) (by decide), o 69 (by decide) (by decide), o 70 (by decide) (by decide)]
    exact hH
  refine m_sheet hH1 (fun q => absurd (vI hf (by decide) e) q) (fun _ q => absurd w q) (fun f' hf' e' _ q => absurd w2 (by rw [← en, vJ hf hf' (by decide) e e']; omega)) (fun f' hf' e' _ _ => ⟨_, rfl, by rw [en, vJ hf hf' (by decide) e e'], K _ ?_⟩)
  obtain rfl := vJ hf hf' (by decide) e e'
  rw [en]
  refine INV_uH h (fun g x _ a b _ => by rw [ps_up_o a, ps_up_o b, o g (by omega) (by omega)]) (fun j _ => by rw [ps_up_o (by decide), ps_up_o (by decide), o 50 (by decide) (by decide)]) ⟨?_, ?_, ?_⟩
  · rw [ps_up_o (by decide), ps_up_o (by decide), ps_up_o (by decide), ps_up_o (by decide), o 30 (by decide) (by decide), o 50 (by decide) (by decide)]
    exact hH.1
  · intro k hk
    rw [ps_up_o (f' := 33) (by decide), ps_up_o (f' := 33) (by decide), hσ1]
    by_cases e2 : k = f
    · subst e2
      rw [ps_up_s, ps_up_s]
      exact ⟨rfl, _, by omega, rfl⟩
    · rw [ps_up_v (by omega), ps_up_v (by omega), ps_up_o (by decide), ps_up_o (by decide), ps_up_o (by decide), ps_up_o (by decide)]
      exact hH.2.1 k hk
  · intro k b hk hb
    rw [ps_up_o (f' := 32) (by decide), ps_up_o (f' := 32) (by decide), ps_up_o (f' := 35) (by decide), ps_up_o (f' := 35) (by decide), ps_up_o (f' := 70) (by decide), ps_up_o (f' := 70) (by decide), ps_up_o (f' := 69) (by decide), o 35 (by decide) (by decide), o 70 (by decide) (by decide)]
    refine ⟨?_, (hH.2.2 k b hk hb).2⟩
    rw [hσ1, ps_up_o (f' := 32) (by decide)]
    by_cases e2 : k = f ∧ b = hn σ f
    · obtain ⟨rfl, rfl⟩ := e2
      rw [ps_up_s, ps_up_s]
    · rw [ps_up_v (by omega), ps_up_v (by omega), ps_up_o (by decide), ps_up_o (by decide)]
      exact (hH.2.2 k b hk hb).1
-- men
theorem pr_house (h : INV σ σ) (K : ∀ ρ, INV ρ ρ → P ρ) : prD mX7_house mX8_house d [.inl v1, .inl v2] σ P := by
  have hW := h.2.2.2.2.1
  refine x_house (fun c => ⟨_, rfl, m_house (fun _ => ⟨_, rfl, rfl, K _ h⟩) (fun a b => absurd ⟨a, b⟩ c)⟩) (fun a b => ⟨_, rfl, m_house (fun q => absurd ⟨a, b⟩ q) (fun _ _ => ⟨_, rfl, ?_, K _ ?_⟩)⟩)
  · rw [ps_up_o (by decide), ps_up_o (by decide), ps_up_o (by decide), hW.1.1, hW.1.2.1]
  · obtain ⟨m, m1, m2, rfl⟩ := num_of (v := v1) (lo := 1) (hi := 4) a.1 a.2
    obtain ⟨p, p1, p2, rfl⟩ := num_of (v := v2) (lo := 1) (hi := 12) b.1 b.2
    obtain ⟨ρ, hρ⟩ : ∃ ρ, ρ = ps_up (ps_up (ps_up (ps_up (ps_up σ 36 0 2 (nI m)) 36 0 3 (nI p)) 36 0 10 0) 50 0 21 (nI m)) 50 0 22 (nI p) := ⟨_, rfl⟩
    rw [← hρ]
    have o : ∀ g, g ≠ 36 → g ≠ 50 → ρ g = σ g := fun g a b => by rw [hρ, ps_up_o b, ps_up_o b, ps_up_o a, ps_up_o a, ps_up_o a]
    have o50 : ∀ j, j ≠ 21 → j ≠ 22 → ρ 50 0 j = σ 50 0 j := fun j a b => by rw [hρ, ps_up_v (by omega), ps_up_v (by omega), ps_up_o (by decide), ps_up_o (by decide), ps_up_o (by decide)]
    have e22 : ρ 50 0 22 = nI p := by rw [hρ, ps_up_s]
    have e21 : ρ 50 0 21 = nI m := by rw [hρ, ps_up_v (by omega), ps_up_s]
    have f10 : ρ 36 0 10 = 0 := by rw [hρ, ps_up_o (by decide), ps_up_o (by decide), ps_up_s]
    have f3 : ρ 36 0 3 = nI p := by rw [hρ, ps_up_o (by decide), ps_up_o (by decide), ps_up_v (by omega), ps_up_s]
    have f2 : ρ 36 0 2 = nI m := by rw [hρ, ps_up_o (by decide), ps_up_o (by decide), ps_up_v (by omega), ps_up_v (by omega), ps_up_s]
    have f4 : ρ 36 0 4 = σ 36 0 4 := by rw [hρ, ps_up_o (by decide), ps_up_o (by decide), ps_up_v (by omega), ps_up_v (by omega), ps_up_v (by omega)]
    have eM : wM ρ = m := by unfold wM; rw [e21, nI_clamp (by omega)]
    have eP : wP ρ = p := by unfold wP; rw [e22, nI_clamp (by omega)]
    have ec : wc ρ = wc σ := by unfold wc; rw [o50 25 (by decide) (by decide)]
    refine INV_uW h (fun g x a _ _ => o g (by omega) a) (fun j a b _ => o50 j a b) ⟨⟨?_, ?_, ?_, ?_, ?_⟩, Or.inl f10⟩
    · rw [eM]; exact ⟨f2, e21, m1, m2⟩
    · rw [eP]; exact ⟨f3, e22, p1, p2⟩
    · rw [ec, f4, o50 25 (by decide) (by decide)]; exact hW.2.2.1
    · rw [o 38 (by decide) (by decide), o 74 (by decide) (by decide)]; exact hW.2.2.2.1
    · rw [o 40 (by decide) (by decide), o 75 (by decide) (by decide)]; exact hW.2.2.2.2
theorem pr_change (h : INV σ σ) (K : ∀ ρ, INV ρ ρ → P ρ) : prD mX7_change mX8_change d [.inl v1] σ P := by
  have hW := h.2.2.2.2.1
  refine x_change (fun c => ⟨_, rfl, m_change (fun _ => ⟨_, rfl, rfl, K _ h⟩) (fun a => absurd a c)⟩) (fun a => ⟨_, rfl, m_change (fun q => absurd a q) (fun _ => ⟨_, rfl, ?_, K _ ?_⟩)⟩)
  · rw [ps_up_o (by decide), ps_up_o (by decide), hW.2.2.1.1, hW.2.2.1.2.1]
  · obtain ⟨m, m2, rfl⟩ := vp_num (by decide) a
    obtain ⟨ρ, hρ⟩ : ∃ ρ, ρ = ps_up (ps_up (ps_up σ 36 0 4 (nI m)) 36 0 10 0) 50 0 25 (nI m) := ⟨_, rfl⟩
    rw [← hρ]
    have o : ∀ g, g ≠ 36 → g ≠ 50 → ρ g = σ g := fun g a b => by rw [hρ, ps_up_o b, ps_up_o a, ps_up_o a]
    have o50 : ∀ j, j ≠ 25 → ρ 50 0 j = σ 50 0 j := fun j a => by rw [hρ, ps_up_v (by omega), ps_up_o (by decide), ps_up_o (by decide)]
    have o36 : ∀ j, j ≠ 4 → j ≠ 10 → ρ 36 0 j = σ 36 0 j := fun j a b => by rw [hρ, ps_up_o (by decide), ps_up_v (by omega), ps_up_v (by omega)]
    have e25 : ρ 50 0 25 = nI m := by rw [hρ, ps_up_s]
    have f10 : ρ 36 0 10 = 0 := by rw [hρ, ps_up_o (by decide), ps_up_s]
    have f4 : ρ 36 0 4 = nI m := by rw [hρ, ps_up_o (by decide), ps_up_v (by omega), ps_up_s]
    have eM : wM ρ = wM σ := by unfold wM; rw [o50 21 (by decide)]
    have eP : wP ρ = wP σ := by unfold wP; rw [o50 22 (by decide)]
    have ec : wc ρ = m := by unfold wc; rw [e25, nI_clamp (by omega)]
    refine INV_uW h (fun g x a _ _ => o g (by omega) a) (fun j _ _ b => o50 j b) ⟨⟨?_, ?_, ?_, ?_, ?_⟩, Or.inl f10⟩
    · rw [eM, o36 2 (by decide) (by decide), o50 21 (by decide)]; exact hW.1
    · rw [eP, o36 3 (by decide) (by decide), o50 22 (by decide)]; exact hW.2.1
    · rw [ec, f4, e25]; exact ⟨rfl, rfl, by omega⟩
    · rw [o 38 (by decide) (by decide), o 74 (by decide) (by decide)]; exact hW.2.2.2.1
    · rw [o 40 (by decide) (by decide), o 75 (by decide) (by decide)]; exact hW.2.2.2.2
theorem iWb_1 {σ1 : ps_S} (k : ∀ g, 50 ≤ g → σ1 g = σ g) (h : iWb σ σ) : iWb σ σ1 := iWb_mv (fun _ _ _ => rfl) (bW_of (eqB_of k)) h
theorem pr_habit (h : INV σ σ) (K : ∀ ρ, INV ρ ρ → P ρ) : prD mX7_habit mX8_habit d [.inl v1, .inl v2, .inl v3] σ P := by
  have hW := h.2.2.2.2.1
  refine x_habit hW (fun c => ⟨_, rfl, m_habit hW (frR0 σ) (fun _ => ⟨_, rfl, rfl, K _ h⟩) (fun a b _ => absurd ⟨a, b⟩ c) (fun a b _ => absurd ⟨a, b⟩ c)⟩) (fun a b c => ⟨_, rfl, m_habit hW (frR0 σ) (fun q => absurd ⟨a, b⟩ q) (fun _ _ _ => ⟨_, rfl, rfl, K _ h⟩) (fun _ _ q => absurd q c)⟩) (fun a b c => ⟨_, rfl, ?_⟩)
  obtain ⟨m, hm, rfl⟩ := vp_num (n := wM σ) (by have := wM4 h; omega) a
  obtain ⟨w, hw, rfl⟩ := vp_num (by decide) b
  have hm4 : m < 4 := Nat.lt_of_lt_of_le hm (wM4 h)
  rw [nI_clamp (by omega), nI_clamp (by omega)]
  obtain ⟨σ1, hσ1⟩ : ∃ σ1, σ1 = ps_up (ps_up σ 38 m w v3) 36 0 10 0 := ⟨_, rfl⟩
  rw [← hσ1]
  have o : ∀ g, g ≠ 36 → g ≠ 38 → σ1 g = σ g := fun g a b => by rw [hσ1, ps_up_o a, ps_up_o b]
  have hW1 : iWb σ σ1 := iWb_1 (fun g x => o g (by omega) (by omega)) hW
  have eM1 : wM σ1 = wM σ := by unfold wM; rw [o 50 (by decide) (by decide)]
  refine m_habit hW1 (frR0 σ1) (fun q => absurd ⟨by rw [eM1]; exact a, b⟩ q) (fun _ _ q => absurd c q) (fun _ _ _ => ⟨_, rfl, ?_, K _ ?_⟩)
  · rw [nI_clamp (by omega), nI_clamp (by omega), o 74 (by decide) (by decide)]
    exact (hW.2.2.2.1 m w hm4 hw).1
  · rw [nI_clamp (by omega), nI_clamp (by omega)]
    obtain ⟨ρ, hρ⟩ : ∃ ρ, ρ = ps_up σ1 74 0 (6 * m + w) v3 := ⟨_, rfl⟩
    rw [← hρ]
    have o2 : ∀ g, g ≠ 36 → g ≠ 38 → g ≠ 74 → ρ g = σ g := fun g a b c => by rw [hρ, ps_up_o c, o g a b]
    have e50 := o2 50 (by decide) (by decide) (by decide)
    have o36 : ∀ j, j ≠ 10 → ρ 36 0 j = σ 36 0 j := fun j a => by rw [hρ, ps_up_o (by decide), hσ1, ps_up_v (by omega), ps_up_o (by decide)]
    have f10 : ρ 36 0 10 = 0 := by rw [hρ, ps_up_o (by decide), hσ1, ps_up_s]
    have eM : wM ρ = wM σ := by unfold wM; rw [e50]
    have eP : wP ρ = wP σ := by unfold wP; rw [e50]
    have ec : wc ρ = wc σ := by unfold wc; rw [e50]
    refine INV_uW h (fun g x _ a _ => o2 g (by omega) (by omega) a) (fun j _ _ _ => by rw [e50]) ⟨⟨?_, ?_, ?_, ?_, ?_⟩, Or.inl f10⟩
    · rw [eM, o36 2 (by decide), e50]; exact hW.1
    · rw [eP, o36 3 (by decide), e50]; exact hW.2.1
    · rw [ec, o36 4 (by decide), e50]; exact hW.2.2.1
    · intro m' w' hm' hw'
      rw [hρ, ps_up_o (f' := 38) (by decide), hσ1, ps_up_o (f' := 38) (by decide)]
      by_cases e : m' = m ∧ w' = w
      · obtain ⟨rfl, rfl⟩ := e
        rw [ps_up_s, ps_up_s]
        refine ⟨rfl, c.elim Or.inl (fun q => Or.inr ?_)⟩
        obtain ⟨z, hz, rfl⟩ := vp_num (by decide) q
        rcases (show z = 0 ∨ z = 1 by omega) with rfl | rfl
        · exact Or.inl rfl
        · exact Or.inr rfl
      · rw [ps_up_v (by omega), ps_up_v (by omega), ps_up_o (by decide), ps_up_o (by decide)]
        exact hW.2.2.2.1 m' w' hm' hw'
    · rw [o2 40 (by decide) (by decide) (by decide), o2 75 (by decide) (by decide) (by decide)]; exact hW.2.2.2.2
theorem pr_spell (h : INV σ σ) (K : ∀ ρ, INV ρ ρ → P ρ) : prD mX7_spell mX8_spell d [.inl v1, .inl v2, .inl v3, .inl v4] σ P := by
  have hW := h.2.2.2.2.1
  refine x_spell hW (fun c => ⟨_, rfl, m_spell hW (frR0 σ) (fun _ => ⟨_, rfl, rfl, K _ h⟩) (fun a b _ => absurd ⟨a, b⟩ c) (fun a b _ _ => absurd ⟨a, b⟩ c)⟩) (fun a b c => ⟨_, rfl, m_spell hW (frR0 σ) (fun q => absurd ⟨a, b⟩ q) (fun _ _ _ => ⟨_, rfl, rfl, K _ h⟩) (fun _ _ q q2 => absurd ⟨q, q2⟩ c)⟩) (fun a b c c2 => ⟨_, rfl, ?_⟩)
  obtain ⟨p, hp, rfl⟩ := vp_num (n := wP σ) (by have := wP12 h; omega) a
  obtain ⟨w, hw, rfl⟩ := vp_num (by decide) b
  obtain ⟨fo, hfo, rfl⟩ := vp_num (by decide) c
  obtain ⟨n, hn9, rfl⟩ := vp_num (by decide) c2
  have hp12 : p < 12 := Nat.lt_of_lt_of_le hp (wP12 h)
  rw [nI_clamp (by omega), nI_clamp (by omega), nI_clamp (by omega)]
  obtain ⟨σ1, hσ1⟩ : ∃ σ1, σ1 = ps_up (ps_up σ 40 p (2 * w + fo) (nI n)) 36 0 10 0 := ⟨_, rfl⟩
  rw [← hσ1]
  have o : ∀ g, g ≠ 36 → g ≠ 40 → σ1 g = σ g := fun g a b => by rw [hσ1, ps_up_o a, ps_up_o b]
  have hW1 : iWb σ σ1 := iWb_1 (fun g x => o g (by omega) (by omega)) hW
  have eP1 : wP σ1 = wP σ := by unfold wP; rw [o 50 (by decide) (by decide)]
  refine m_spell hW1 (frR0 σ1) (fun q => absurd ⟨by rw [eP1]; exact a, b⟩ q) (fun _ _ q => absurd ⟨c, c2⟩ q) (fun _ _ _ _ => ⟨_, rfl, ?_, K _ ?_⟩)
  · rw [nI_clamp (by omega), nI_clamp (by omega), nI_clamp (by omega), o 75 (by decide) (by decide)]
    exact (hW.2.2.2.2 p (2 * w + fo) hp12 (by omega)).1
  · rw [nI_clamp (by omega), nI_clamp (by omega), nI_clamp (by omega)]
    obtain ⟨ρ, hρ⟩ : ∃ ρ, ρ = ps_up σ1 75 0 (12 * p + (2 * w + fo)) (nI n) := ⟨_, rfl⟩
    rw [← hρ]
    have o2 : ∀ g, g ≠ 36 → g ≠ 40 → g ≠ 75 → ρ g = σ g := fun g a b c => by rw [hρ, ps_up_o c, o g a b]
    have e50 := o2 50 (by decide) (by decide) (by decide)
    have o36 : ∀ j, j ≠ 10 → ρ 36 0 j = σ 36 0 j := fun j a => by rw [hρ, ps_up_o (by decide), hσ1, ps_up_v (by omega), ps_up_o (by decide)]
    have f10 : ρ 36 0 10 = 0 := by rw [hρ, ps_up_o (by decide), hσ1, ps_up_s]
    have eM : wM ρ = wM σ := by unfold wM; rw [e50]
    have eP : wP ρ = wP σ := by unfold wP; rw [e50]
    have ec : wc ρ = wc σ := by unfold wc; rw [e50]
    refine INV_uW h (fun g x _ _ a => o2 g (by omega) (by omega) a) (fun j _ _ _ => by rw [e50]) ⟨⟨?_, ?_, ?_, ?_, ?_⟩, Or.inl f10⟩
    · rw [eM, o36 2 (by decide), e50]; exact hW.1
    · rw [eP, o36 3 (by decide), e50]; exact hW.2.1
    · rw [ec, o36 4 (by decide), e50]; exact hW.2.2.1
    · rw [o2 38 (by decide) (by decide) (by decide), o2 74 (by decide) (by decide) (by decide)]; exact hW.2.2.2.1
    · intro p' j hp' hj
      rw [hρ, ps_up_o (f' := 40) (by decide), hσ1, ps_up_o (f' := 40) (by decide)]
      by_cases e : p' = p ∧ j = 2 * w + fo
      · obtain ⟨rfl, rfl⟩ := e
        rw [ps_up_s, ps_up_s]
        exact ⟨rfl, n, by omega, rfl⟩
      · rw [ps_up_v (by omega), ps_up_v (by omega), ps_up_o (by decide), ps_up_o (by decide)]
        exact hW.2.2.2.2 p' j hp' hj
-- type
theorem pr_presses (h : INV σ σ) (K : ∀ ρ, INV ρ ρ → P ρ) : prD mX7_presses mX8_presses d [.inl v1] σ P := by
  have hP := h.2.2.1.1
  refine x_presses (fun c => ⟨_, rfl, m_presses (fun _ => ⟨_, rfl, rfl, K _ h⟩) (fun a => absurd a c)⟩) (fun a => ⟨_, rfl, m_presses (fun q => absurd a q) (fun _ => ⟨_, rfl, ?_, K _ ?_⟩)⟩)
  · rw [ps_up_o (by decide), ps_up_o (by decide), hP.1, hP.2.1]
  · obtain ⟨m, m1, m2, rfl⟩ := num_of (v := v1) (lo := 1) (hi := 6) a.1 a.2
    obtain ⟨ρ, hρ⟩ : ∃ ρ, ρ = ps_up (ps_up (ps_up σ 24 0 5 (nI m)) 24 0 6 0) 50 0 13 (nI m) := ⟨_, rfl⟩
    rw [← hρ]
    have o : ∀ g, g ≠ 24 → g ≠ 50 → ρ g = σ g := fun g a b => by rw [hρ, ps_up_o b, ps_up_o a, ps_up_o a]
    have o50 : ∀ j, j ≠ 13 → ρ 50 0 j = σ 50 0 j := fun j a => by rw [hρ, ps_up_v (by omega), ps_up_o (by decide), ps_up_o (by decide)]
    have e13 : ρ 50 0 13 = nI m := by rw [hρ, ps_up_s]
    have f6 : ρ 24 0 6 = 0 := by rw [hρ, ps_up_o (by decide), ps_up_s]
    have f5 : ρ 24 0 5 = nI m := by rw [hρ, ps_up_o (by decide), ps_up_v (by omega), ps_up_s]
    have ez : pz ρ = m := by unfold pz; rw [e13, nI_clamp (by omega)]
    exact INV_uT h (fun g x a _ => o g (by omega) a) o50 (iT_mv (fun g a b => o g (by omega) (by omega)) (by rw [o 63 (by decide) (by decide)]) h.2.1) ⟨⟨by rw [ez]; exact f5, by rw [ez]; exact e13, by rw [ez]; exact m1, by rw [ez]; exact m2⟩, Or.inl f6⟩
theorem pr_piece (h : INV σ σ) (K : ∀ ρ, INV ρ ρ → P ρ) : prD mX7_piece mX8_piece d [.inl v1, .inl v2, .inl v3] σ P := by
  have hP := h.2.2.1.1
  refine x_piece h.2.1.1 (fun c => ⟨_, rfl, m_piece (fun _ => ⟨_, rfl, rfl, K _ h⟩) (fun a b _ => absurd ⟨a, b⟩ c) (fun a b _ => absurd ⟨a, b⟩ c)⟩) (fun a b c => ⟨_, rfl, m_piece (fun q => absurd ⟨a, b⟩ q) (fun _ _ _ => ⟨_, rfl, rfl, K _ h⟩) (fun _ _ q => absurd q c)⟩) (fun p f σ1 hp hf e1 e2 c o o24 f6 i => ⟨_, rfl, m_piece (fun q => absurd ⟨vI hp (by decide) e1, vI hf (by decide) e2⟩ q) (fun _ _ q => absurd c q) (fun _ _ _ => ⟨_, rfl, ?_, K _ ?_⟩)⟩)
  · rw [e1, e2, nI_clamp (by omega), nI_clamp (by omega), o 63 (by decide) (by decide) (by decide) (by decide) (by decide)]
    exact (h.2.1.1 p f hp hf).1
  · rw [e1, e2, nI_clamp (by omega), nI_clamp (by omega)]
    have e50 : σ1 50 = σ 50 := o 50 (by decide) (by decide) (by decide) (by decide) (by decide)
    have e63 : ps_up σ1 63 0 (6 * p + f) v3 63 0 = ps_up σ 63 0 (6 * p + f) v3 63 0 := by rw [ps_up_eq, ps_up_eq, o 63 (by decide) (by decide) (by decide) (by decide) (by decide)]
    have ez : pz (ps_up σ1 63 0 (6 * p + f) v3) = pz σ := by unfold pz; rw [ps_up_o (by decide), e50]
    refine INV_uT h (fun g x _ b => by rw [ps_up_o b, o g (by omega) (by omega) (by omega) (by omega) (by omega)]) (fun j _ => by rw [ps_up_o (by decide), e50]) (iT_mv (fun g a b => ps_up_o (by omega)) e63 i) ⟨?_, Or.inl (by rw [ps_up_o (by decide)]; exact f6)⟩
    rw [ez, ps_up_o (f' := 24) (by decide), ps_up_o (f' := 50) (by decide), e50, o24 5 (by decide)]
    exact hP
-- formes
theorem pr_read (h : INV σ σ) (K : ∀ ρ, INV ρ ρ → P ρ) : prD mX7_read mX8_read d [.inl v1, .inl v2, .inl v3, .inl v4] σ P := by
  have hF := h.1
  refine x_read (fun c => ⟨_, rfl, m_read (fun _ => ⟨_, rfl, rfl, K _ h⟩) (fun a b e _ => absurd ⟨a, b, e⟩ c) (fun x f p hx hf hp e1 e2 e3 _ => absurd ⟨vI hx (by decide) e1, vI hf (by decide) e2, vI hp (by decide) e3⟩ c)⟩) (fun a b e c => ⟨_, rfl, m_read (fun q => absurd ⟨a, b, e⟩ q) (fun _ _ _ _ => ⟨_, rfl, rfl, K _ h⟩) (fun x f p _ _ _ _ _ _ q => absurd q c)⟩)
    (fun x f p hx hf hp e1 e2 e3 l => ⟨_, rfl, m_read (fun q => absurd ⟨vI hx (by decide) e1, vI hf (by decide) e2, vI hp (by decide) e3⟩ q) (fun _ _ _ q => absurd l q) (fun x' f' p' hx' hf' hp' e1' e2' e3' _ => ?_)⟩)
  obtain rfl := vJ hx hx' (by decide) e1 e1'
  obtain rfl := vJ hf hf' (by decide) e2 e2'
  obtain rfl := vJ hp hp' (by decide) e3 e3'
  refine ⟨_, rfl, ?_, K _ ?_⟩
  · rw [ps_up_o (by decide), ps_up_o (by decide), ps_up_o (by decide)]
    exact (hF f hf).1 x p hx hp
  · obtain ⟨ρ, hρ⟩ : ∃ ρ, ρ = ps_up (ps_up (ps_up (ps_up σ 5 (9 * f + x) p v4) 3 f 7 0) 3 f 11 0) 51 0 (54 * f + 6 * x + p) v4 := ⟨_, rfl⟩
    rw [← hρ]
    have o : ∀ g, g ≠ 3 → g ≠ 5 → g ≠ 51 → ρ g = σ g := fun g a b c => by rw [hρ, ps_up_o c, ps_up_o a, ps_up_o a, ps_up_o b]
    have o3 : ∀ k, k ≠ f → ρ 3 k = σ 3 k := fun k a => by rw [hρ, ps_up_o (by decide), ps_up_k a, ps_up_k a, ps_up_o (by decide)]
    have o5 : ∀ k j, ¬ (k = 9 * f + x ∧ j = p) → ρ 5 k j = σ 5 k j := fun k j a => by rw [hρ, ps_up_o (by decide), ps_up_o (by decide), ps_up_o (by decide), ps_up_v a]
    have o51 : ∀ j, j ≠ 54 * f + 6 * x + p → ρ 51 0 j = σ 51 0 j := fun j a => by rw [hρ, ps_up_v (by omega), ps_up_o (by decide), ps_up_o (by decide), ps_up_o (by decide)]
    have s5 : ρ 5 (9 * f + x) p = v4 := by rw [hρ, ps_up_o (by decide), ps_up_o (by decide), ps_up_o (by decide), ps_up_s]
    have s51 : ρ 51 0 (54 * f + 6 * x + p) = v4 := by rw [hρ, ps_up_s]
    have s11 : ρ 3 f 11 = 0 := by rw [hρ, ps_up_o (by decide), ps_up_s]
    have s7 : ρ 3 f 7 = 0 := by rw [hρ, ps_up_o (by decide), ps_up_v (by omega), ps_up_s]
    refine INV_uF h (fun g a b _ => o g (by omega) (by omega) b) (fun k hk => ?_)
    by_cases ek : k = f
    · subst ek
      obtain ⟨a1, a2, a3, a4, a5, a6⟩ := hF k hk
      refine ⟨fun c q hc hq => ?_, fun c q hc hq => ?_, ?_, ?_, Or.inl s7, Or.inl s11⟩
      · by_cases e : c = x ∧ q = p
        · obtain ⟨rfl, rfl⟩ := e
          rw [s5, s51]
        · rw [o5 _ _ (by omega), o51 _ (by omega)]
          exact a1 c q hc hq
      · by_cases e : c = x ∧ q = p
        · obtain ⟨rfl, rfl⟩ := e
          rw [s51]
          exact l
        · rw [o51 _ (by omega)]
          exact a2 c q hc hq
      · unfold tdF
        rw [o 6 (by decide) (by decide) (by decide), o 58 (by decide) (by decide) (by decide)]
        exact a3
      · rw [o 58 (by decide) (by decide) (by decide)]
        exact a4
    · refine iF1_mv (τ := σ) (o3 k ek) (fun c hc => ?_) (by rw [o 6 (by decide) (by decide) (by decide)]) (by rw [o 7 (by decide) (by decide) (by decide)]) (by rw [o 8 (by decide) (by decide) (by decide)]) (by rw [o 9 (by decide) (by decide) (by decide)]) (by rw [o 10 (by decide) (by decide) (by decide)]) ⟨fun c q hc hq => o51 _ (by omega), fun a b ha hb => by rw [o 58 (by decide) (by decide) (by decide)]⟩ (hF k hk)
      funext j
      exact o5 _ _ (by omega)
theorem exG_51 {τ τ' : ps_S} (h : τ' 51 0 = τ 51 0) (f : Nat) : exG τ' f = exG τ f := by
  funext m
  unfold exG
  rw [mLk_e h, mAlk_e h]
theorem nst_51 {τ τ' : ps_S} (h : τ' 51 0 = τ 51 0) (f : Nat) : nst τ' f = nst τ f := by unfold nst; rw [exG_51 h]
theorem grp_51 {τ τ' : ps_S} (h : τ' 51 0 = τ 51 0) (f : Nat) : grp τ' f = grp τ f := by unfold grp; rw [nst_51 h, mLk_e h, mAlk_e h]
theorem gOK_51 {τ τ' : ps_S} {f : Nat} (h : τ' 51 0 = τ 51 0) (hg : gOK σ τ f) : gOK σ τ' f := by
  unfold gOK
  rw [nst_51 h, grp_51 h, mLk_e h, mAlk_e h]
  exact hg
theorem pr_ahead (hb : v4 = 0 ∨ v4 = 1) (h : INV σ σ) (K : ∀ ρ, INV ρ ρ → P ρ) : prD mX7_ahead mX8_ahead d [.inl v1, .inl v2, .inl v3, .inl v4] σ P := by
  have hF := h.1
  have hr : ∀ f a b, f < 6 → a < 9 → b < 9 → σ 58 0 (81 * f + 9 * a + b) = 0 ∨ σ 58 0 (81 * f + 9 * a + b) = 1 := fun f a b hf ha hb => (hF f hf).2.2.2.1 a b ha hb
  refine x_ahead hF (fun c => ⟨_, rfl, m_ahead hb hr (fun _ => ⟨_, rfl, rfl, K _ h⟩) (fun a b e _ => absurd ⟨a, b, e⟩ c) (fun f x y hf hx hy _ e1 e2 e3 => absurd ⟨vI hf (by decide) e1, vI hx (by decide) e2, vI hy (by decide) e3⟩ c)⟩) (fun a b e c => ⟨_, rfl, m_ahead hb hr (fun q => absurd ⟨a, b, e⟩ q) (fun _ _ _ _ => ⟨_, rfl, rfl, K _ h⟩) (fun f x y _ hx hy n _ e2 e3 => absurd (vJ hx hy (by decide) e2 (c.trans e3)) n)⟩)
    (fun f x y w hf hx hy n e1 e2 e3 hw => ⟨_, rfl, m_ahead hb (fun f' a b hf' ha hb => by rw [ps_up_o (by decide), ps_up_o (by decide)]; exact hr f' a b hf' ha hb) (fun q => absurd ⟨vI hf (by decide) e1, vI hx (by decide) e2, vI hy (by decide) e3⟩ q) (fun _ _ _ q => absurd (vJ hx hy (by decide) e2 (q.trans e3)) n) (fun f' x' y' hf' hx' hy' _ e1' e2' e3' => ?_)⟩)
  obtain rfl := vJ hf hf' (by decide) e1 e1'
  obtain rfl := vJ hx hx' (by decide) e2 e2'
  obtain rfl := vJ hy hy' (by decide) e3 e3'
  refine ⟨_, rfl, ?_, K _ ?_⟩
  · rw [ps_up_o (by decide), ps_up_o (by decide)]
  · obtain ⟨ρ, hρ⟩ : ∃ ρ, ρ = ps_up (ps_up (ps_up σ 6 f x w) 3 f 11 0) 58 0 (81 * f + 9 * x + y) v4 := ⟨_, rfl⟩
    rw [← hρ]
    have o : ∀ g, g ≠ 3 → g ≠ 6 → g ≠ 58 → ρ g = σ g := fun g a b c => by rw [hρ, ps_up_o c, ps_up_o a, ps_up_o b]
    have o3 : ∀ k, k ≠ f → ρ 3 k = σ 3 k := fun k a => by rw [hρ, ps_up_o (by decide), ps_up_k a, ps_up_o (by decide)]
    have o3j : ∀ j, j ≠ 11 → ρ 3 f j = σ 3 f j := fun j a => by rw [hρ, ps_up_o (by decide), ps_up_v (by omega), ps_up_o (by decide)]
    have o6 : ∀ k, k ≠ f → ρ 6 k = σ 6 k := fun k a => by rw [hρ, ps_up_o (by decide), ps_up_o (by decide), ps_up_k a]
    have o6j : ∀ j, j ≠ x → ρ 6 f j = σ 6 f j := fun j a => by rw [hρ, ps_up_o (by decide), ps_up_o (by decide), ps_up_v (by omega)]
    have o58 : ∀ j, j ≠ 81 * f + 9 * x + y → ρ 58 0 j = σ 58 0 j := fun j a => by rw [hρ, ps_up_v (by omega), ps_up_o (by decide), ps_up_o (by decide)]
    have s6 : ρ 6 f x = w := by rw [hρ, ps_up_o (by decide), ps_up_o (by decide), ps_up_s]
    have s58 : ρ 58 0 (81 * f + 9 * x + y) = v4 := by rw [hρ, ps_up_s]
    have s11 : ρ 3 f 11 = 0 := by rw [hρ, ps_up_o (by decide), ps_up_s]
    have e51 : ρ 51 0 = σ 51 0 := by rw [o 51 (by decide) (by decide) (by decide)]
    refine INV_uF h (fun g a _ b => o g (by omega) (by omega) b) (fun k hk => ?_)
    by_cases ek : k = f
    · subst ek
      obtain ⟨a1, a2, a3, a4, a5, a6⟩ := hF k hk
      refine ⟨?_, ?_, fun a ha => ?_, fun a b ha hb' => ?_, ?_, Or.inl s11⟩
      · unfold iL
        rw [o 5 (by decide) (by decide) (by decide), e51]
        exact a1
      · rw [e51]
        exact a2
      · by_cases e : a = x
        · subst e
          rw [s6]
          refine bm_congr hw (fun i hi => ?_)
          by_cases e : i = y
          · subst e
            rw [if_pos rfl, s58]
            exact ⟨fun q => hb.elim (fun z => absurd z q) id, fun q z => by rw [q] at z; exact absurd z (by decide)⟩
          · rw [if_neg e, o58 _ (by omega)]
        · rw [o6j a e]
          exact bm_congr (a3 a ha) (fun i hi => by rw [o58 _ (by omega)])
      · by_cases e : a = x ∧ b = y
        · obtain ⟨rfl, rfl⟩ := e
          rw [s58]
          exact hb
        · rw [o58 _ (by omega)]
          exact a4 a b ha hb'
      · rw [o3j 7 (by decide)]
        exact a5.elim Or.inl (fun z => Or.inr ⟨z.1, gOK_51 e51 (gOK_eq (o3j 5 (by decide)) (o3j 6 (by decide)) (by rw [o 7 (by decide) (by decide) (by decide)]) (by rw [o 8 (by decide) (by decide) (by decide)]) (by rw [o 9 (by decide) (by decide) (by decide)]) z.2)⟩)
    · exact iF1_mv (τ := σ) (o3 k ek) (fun c hc => by rw [o 5 (by decide) (by decide) (by decide)]) (o6 k ek) (by rw [o 7 (by decide) (by decide) (by decide)]) (by rw [o 8 (by decide) (by decide) (by decide)]) (by rw [o 9 (by decide) (by decide) (by decide)]) (by rw [o 10 (by decide) (by decide) (by decide)]) ⟨fun c q hc hq => by rw [e51], fun a b ha hb' => o58 _ (by omega)⟩ (hF k hk)
end PU

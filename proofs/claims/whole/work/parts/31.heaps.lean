/-! ===== heaps: both sides against one number ===== -/
/-- sheets of a forme, size of a heap, end of a heap, the sheet that a book gets from a heap that isn't turned -/
def hn (τ : ps_S) (f : Nat) : Nat := (τ 68 0 f).toNatClampNeg
def hz (τ : ps_S) : Nat := (τ 50 0 20).toNatClampNeg
def he (τ : ps_S) (f h : Nat) : Nat := min ((h + 1) * hz τ) (hn τ f)
def hx (τ : ps_S) (f b : Nat) : Nat := b / hz τ * hz τ + he τ f (b / hz τ) - 1 - b
def hk (τ : ps_S) (f b : Nat) (t : Int32) : Int32 := if t = 0 then τ 69 0 (12 * f + hx τ f b) else τ 69 0 (12 * f + b)
def hM (τ : ps_S) (f h : Nat) (t : Int32) : Prop := ∀ b, h * hz τ ≤ b → b < he τ f h → (τ 70 0 (12 * f + b) = -900009 ∨ τ 70 0 (12 * f + b) = hk τ f b t)
section HP
variable {σ τ : ps_S} {f : Nat}
theorem iH_n (h : iH σ τ) (hf : f < 6) : hn τ f ≤ 12 ∧ τ 68 0 f = nI (hn τ f) ∧ σ 33 0 f = nI (hn τ f) := by
  obtain ⟨-, h2, -⟩ := h
  obtain ⟨e1, n, hn1, e2⟩ := h2 f hf
  have e3 : hn τ f = n := by unfold hn; rw [e2, nI_clamp (by omega)]
  exact ⟨by omega, by rw [e3]; exact e2, by rw [e1, e3]; exact e2⟩
theorem iH_z (h : iH σ τ) : 1 ≤ hz τ ∧ hz τ ≤ 12 ∧ τ 50 0 20 = nI (hz τ) ∧ σ 30 0 3 = nI (hz τ) := by
  obtain ⟨⟨e1, z, h1, h2, e2⟩, -, -⟩ := h
  have e3 : hz τ = z := by unfold hz; rw [e2, nI_clamp (by omega)]
  exact ⟨by omega, by omega, by rw [e3]; exact e2, by rw [e1, e3]; exact e2⟩
theorem iH_nz (h : iH σ τ) : ¬ σ 30 0 3 = 0 ∧ ¬ τ 50 0 20 = 0 := by
  obtain ⟨h1, h2, h3, h4⟩ := iH_z h
  rw [h3, h4]
  exact ⟨nI_ne0 (by omega) (by omega), nI_ne0 (by omega) (by omega)⟩
/-- a book that is there: its heap, and its place in it -/
theorem hx_lt (h : iH σ τ) (hf : f < 6) {b : Nat} (hb : b < hn τ f) : b / hz τ * hz τ ≤ b ∧ b < he τ f (b / hz τ) ∧ he τ f (b / hz τ) ≤ 12 ∧ hx τ f b < 12 ∧ b / hz τ < 12 := by
  obtain ⟨h1, h2, -, -⟩ := iH_z h
  obtain ⟨h3, -, -⟩ := iH_n h hf
  have e1 := Nat.div_add_mod b (hz τ)
  have e2 := Nat.mod_lt b (show 0 < hz τ by omega)
  have e3 : (b / hz τ + 1) * hz τ = b / hz τ * hz τ + hz τ := by rw [Nat.add_mul, Nat.one_mul]
  have e4 : hz τ * (b / hz τ) = b / hz τ * hz τ := Nat.mul_comm _ _
  have e5 : b / hz τ ≤ b := Nat.div_le_self b _
  have e6 : he τ f (b / hz τ) = min (b / hz τ * hz τ + hz τ) (hn τ f) := by unfold he; rw [e3]
  unfold hx
  rw [e6]
  generalize b / hz τ * hz τ = q at *
  omega
theorem hEnd1 (h : iH σ τ) (hf : f < 6) {k : Nat} (hk : k < 1000) : jX1_heapEnd σ (nI f) (nI k) = nI (he τ f k) := by
  obtain ⟨h1, h2, -, h4⟩ := iH_z h
  obtain ⟨h3, -, h5⟩ := iH_n h hf
  unfold jX1_heapEnd he
  have hm : (k + 1) * hz τ ≤ 1000 * 12 := Nat.mul_le_mul (by omega) h2
  rw [nI_clamp (by omega), h4, h5, nI_1, ix_mul]
  generalize (k + 1) * hz τ = q at hm ⊢
  unfold jbMin
  by_cases c : hn τ f < q
  · rw [if_pos (nI_lt c (by omega))]; congr 1; omega
  · rw [if_neg (nI_nlt (by omega) (by omega))]; congr 1; omega
theorem hEnd8 (h : iH σ τ) (hf : f < 6) {k : Nat} (hk : k < 1000) : jX8_heapEnd τ (nI f) (nI k) = nI (he τ f k) := by
  obtain ⟨h1, h2, h4, -⟩ := iH_z h
  obtain ⟨h3, h5, -⟩ := iH_n h hf
  unfold jX8_heapEnd he
  have hm : k * hz τ ≤ 1000 * 12 := Nat.mul_le_mul (by omega) h2
  have e3 : (k + 1) * hz τ = k * hz τ + hz τ := by rw [Nat.add_mul, Nat.one_mul]
  rw [nI_clamp (by omega), h4, h5, ix_mul, nI_add, e3]
  generalize k * hz τ = q at hm ⊢
  by_cases c : hn τ f ≤ q + hz τ
  · rw [if_pos (nI_le c (by omega))]; congr 1; omega
  · rw [if_neg (nI_ge (by omega) (by omega))]; congr 1; omega
theorem hCnt (h : iH σ τ) (hf : f < 6) : jX1_heapCount σ (nI f) = nI ((hn τ f + hz τ - 1) / hz τ) ∧ jX8_heaps τ (nI f) = nI ((hn τ f + hz τ - 1) / hz τ) := by
  obtain ⟨h1, h2, h3, h4⟩ := iH_z h
  obtain ⟨h5, h6, h7⟩ := iH_n h hf
  have e : nI (hn τ f) + nI (hz τ) - 1 = nI (hn τ f + hz τ - 1) := by
    rw [nI_add, show (1 : Int32) = nI 1 from rfl, nI_sub (by omega)]
  unfold jX1_heapCount jX8_heaps
  rw [nI_clamp (by omega), h3, h4, h6, h7, e, nI_div (by omega) (by omega) (by omega)]
  exact ⟨rfl, rfl⟩
theorem hIx1 (h : iH σ τ) (hf : f < 6) {b : Nat} (hb : b < hn τ f) : ((jX1_heapEnd σ (nI f) (nI b / σ 30 0 3)) - 1) - (nI b - ((nI b / σ 30 0 3) * σ 30 0 3)) = nI (hx τ f b) := by
  obtain ⟨h1, h2, -, h4⟩ := iH_z h
  obtain ⟨h3, -, h5⟩ := iH_n h hf
  obtain ⟨g1, g2, g3, g4, g5⟩ := hx_lt h hf hb
  rw [h4, nI_div (by omega) (by omega) (by omega), hEnd1 h hf (by omega), ix_mul, nI_sub g1, show (1 : Int32) = nI 1 from rfl, nI_sub (by omega), nI_sub (by omega)]
  congr 1
  unfold hx
  omega
theorem hIx8 (h : iH σ τ) (hf : f < 6) {b : Nat} (hb : b < hn τ f) : (12 * nI f) + (((((nI b / τ 50 0 20) * τ 50 0 20) + (jX8_heapEnd τ (nI f) (nI b / τ 50 0 20))) - 1) - nI b) = nI (12 * f + hx τ f b) := by
  obtain ⟨h1, h2, h4, -⟩ := iH_z h
  obtain ⟨h3, h5, -⟩ := iH_n h hf
  obtain ⟨g1, g2, g3, g4, g5⟩ := hx_lt h hf hb
  rw [h4, nI_div (by omega) (by omega) (by omega), hEnd8 h hf (by omega), ix_mul, nI_add, show (1 : Int32) = nI 1 from rfl, nI_sub (by omega), nI_sub (by omega), show (12 : Int32) * nI f = nI (12 * f) from ix_mul 12 f, nI_add]
  rfl
theorem hKin1 (h : iH σ τ) (hf : f < 6) {b : Nat} (hb : b < hn τ f) (t : Int32) : jX1_kindIn σ (nI f) (nI b) t = hk τ f b t := by
  obtain ⟨h3, -, h5⟩ := iH_n h hf
  obtain ⟨g1, g2, g3, g4, g5⟩ := hx_lt h hf hb
  unfold jX1_kindIn hk
  rw [hIx1 h hf hb, nI_clamp (by omega), nI_clamp (by omega), nI_clamp (by omega), h5, if_pos (nI_lt hb (by omega)), (h.2.2 f b hf (by omega)).1, (h.2.2 f _ hf g4).1]
theorem hKin8 (h : iH σ τ) (hf : f < 6) {b : Nat} (hb : b < hn τ f) (t : Int32) : jX8_kindIn τ (nI f) (nI b) t = hk τ f b t := by
  obtain ⟨h3, h5, -⟩ := iH_n h hf
  obtain ⟨g1, g2, g3, g4, g5⟩ := hx_lt h hf hb
  unfold jX8_kindIn hk
  rw [hIx8 h hf hb, nI_clamp (by omega), show (12 : Int32) * nI f = nI (12 * f) from ix_mul 12 f, nI_add, nI_clamp (by omega)]
/-- a heap that is there: its books -/
theorem hHeap (h : iH σ τ) (hf : f < 6) {k : Nat} (hk : k < (hn τ f + hz τ - 1) / hz τ) : k * hz τ < hn τ f ∧ k < 12 := by
  obtain ⟨h1, h2, -, -⟩ := iH_z h
  obtain ⟨h3, -, -⟩ := iH_n h hf
  have h4 : k + 1 ≤ (hn τ f + hz τ - 1) / hz τ := hk
  have h5 := (Nat.le_div_iff_mul_le (show 0 < hz τ by omega)).mp h4
  rw [Nat.add_mul, Nat.one_mul] at h5
  have h6 : k * 1 ≤ k * hz τ := Nat.mul_le_mul_left k h1
  omega
theorem pX1_mayBe (h : iH σ τ) (hf : f < 6) {k : Nat} (hkn : k * hz τ < hn τ f ∧ k < 12) {t : Int32} {d : Nat} {Q : Option ps_V → ps_S → Prop} (hq : Q (some (.inl (jbP (hM τ f k t)))) σ) : ps_C mX1_mayBe (d + 3) [.inr (.inr (30, 0)), .inl (nI f), .inl (nI k), .inl t] σ Q := by
  obtain ⟨h1, h2, -, h4⟩ := iH_z h
  obtain ⟨h3, -, h5⟩ := iH_n h hf
  have heq : he τ f k ≤ 12 ∧ he τ f k ≤ hn τ f ∧ k * hz τ < he τ f k := by
    unfold he
    rw [Nat.add_mul, Nat.one_mul]
    omega
  obtain ⟨e1, e2, e3⟩ := heq
  have hfin : vp_in (nI f) 6 := vp_in_nI hf (by decide)
  have key : ∀ r j, j + r = he τ f k → k * hz τ ≤ j → (∀ b, k * hz τ ≤ b → b < j → (τ 70 0 (12 * f + b) = -900009 ∨ τ 70 0 (12 * f + b) = hk τ f b t)) → kX1_mayBe_16 d Q (nI f) t (nI (he τ f k)) (nI j) σ := by
    intro r
    induction r with
    | zero =>
      intro j hj hj2 hall
      obtain rfl : j = he τ f k := by omega
      have no : ¬ nI (he τ f k) ≤ nI (he τ f k) → False := fun c => c (nI_le (Nat.le_refl _) (by omega))
      rw [jbP_t (show hM τ f k t from hall)] at hq
      exact bX1_mayBe_16 (fun _ => hq) (fun c => (no c).elim) (fun c => (no c).elim) (fun c => (no c).elim) (fun c => (no c).elim) (fun c => (no c).elim) (fun c => (no c).elim) (fun c => (no c).elim) (fun c => (no c).elim)
    | succ r ih =>
      intro j hj hj2 hall
      have hj0 : j < he τ f k := by omega
      have hjn : j < hn τ f := by omega
      have hjc : (nI j).toNatClampNeg = j := nI_clamp (by omega)
      have hfc : (nI f).toNatClampNeg = f := nI_clamp (by omega)
      have hs : σ 35 f j = τ 70 0 (12 * f + j) := (h.2.2 f j hf (by omega)).2
      have go : (τ 70 0 (12 * f + j) = -900009 ∨ τ 70 0 (12 * f + j) = hk τ f j t) → kX1_mayBe_16 d Q (nI f) t (nI (he τ f k)) (nI j + 1) σ := by
        intro hh
        rw [nI_1]
        refine ih (j + 1) (by omega) (by omega) (fun b hb1 hb2 => ?_)
        rcases Nat.lt_or_eq_of_le (Nat.le_of_lt_succ hb2) with q | q
        · exact hall b hb1 q
        · subst q; exact hh
      refine bX1_mayBe_16 (fun c => absurd c (nI_ge hj0 (by omega))) (fun _ => hfin) (fun _ => vp_in_nI (by omega) (by decide)) (fun _ c => ?_) (fun _ _ _ _ => (iH_nz h).1) (fun _ _ _ _ => ?_) (fun _ _ _ _ => vp_in_nI (by omega) (by decide)) (fun _ _ c => ?_) (fun _ c1 c2 => ?_)
      · rw [hfc, hjc, hs] at c
        exact go (Or.inl c)
      · rw [hIx1 h hf hjn]
        exact vp_in_nI (hx_lt h hf hjn).2.2.2.1 (by decide)
      · rw [hfc, hjc, hs, hKin1 h hf hjn] at c
        exact go (Or.inr c)
      · rw [hfc, hjc, hs] at c1
        rw [hfc, hjc, hs, hKin1 h hf hjn] at c2
        rw [jbP_f (show ¬ hM τ f k t from fun q => (q j hj2 hj0).elim c1 c2)] at hq
        exact hq
  refine eX1_mayBe (bX1_mayBe_0 hfin ?_)
  rw [hEnd1 h hf (by omega), h4, ix_mul]
  exact key (he τ f k - k * hz τ) (k * hz τ) (by omega) (Nat.le_refl _) (fun b hb1 hb2 => absurd hb2 (by omega))
theorem pX8_mayBe (h : iH σ τ) (hf : f < 6) {k : Nat} (hkn : k * hz τ < hn τ f ∧ k < 12) {t : Int32} {d : Nat} {Q : Option ps_V → ps_S → Prop} (hq : Q (some (.inl (jbP (hM τ f k t)))) τ) : ps_C mX8_mayBe (d + 2) [.inr (.inr (50, 0)), .inl (nI f), .inl (nI k), .inl t] τ Q := by
  obtain ⟨h1, h2, h4, -⟩ := iH_z h
  obtain ⟨h3, h5, -⟩ := iH_n h hf
  have heq : he τ f k ≤ 12 ∧ he τ f k ≤ hn τ f ∧ k * hz τ < he τ f k := by
    unfold he
    rw [Nat.add_mul, Nat.one_mul]
    omega
  obtain ⟨e1, e2, e3⟩ := heq
  have hfin : vp_in (nI f) 6 := vp_in_nI hf (by decide)
  have hE := hEnd8 h hf (k := k) (by omega)
  have key : ∀ r j, j + r = he τ f k → k * hz τ ≤ j → kX8_mayBe_11 d Q (nI f) (nI k) t (jbP (∀ b, k * hz τ ≤ b → b < j → (τ 70 0 (12 * f + b) = -900009 ∨ τ 70 0 (12 * f + b) = hk τ f b t))) (nI j) τ := by
    intro r
    induction r with
    | zero =>
      intro j hj hj2
      obtain rfl : j = he τ f k := by omega
      have no : ¬ jX8_heapEnd τ (nI f) (nI k) ≤ nI (he τ f k) → False := fun c => c (by rw [hE]; exact nI_le (Nat.le_refl _) (by omega))
      exact bX8_mayBe_11 hfin (fun _ => ps_bitP _) (fun _ => hq) (fun c => (no c).elim) (fun c => (no c).elim) (fun c => (no c).elim) (fun c => (no c).elim) (fun c => (no c).elim) (fun c => (no c).elim) (fun c => (no c).elim) (fun c => (no c).elim) (fun c => (no c).elim)
    | succ r ih =>
      intro j hj hj2
      have hj0 : j < he τ f k := by omega
      have hjn : j < hn τ f := by omega
      have e5 : (12 * nI f) + nI j = nI (12 * f + j) := by rw [show (12 : Int32) * nI f = nI (12 * f) from ix_mul 12 f, nI_add]
      have e6 : (nI (12 * f + j)).toNatClampNeg = 12 * f + j := nI_clamp (by omega)
      have hin : vp_in (12 * nI f + nI j) 72 := by rw [e5]; exact vp_in_nI (by omega) (by decide)
      have hh := ih (j + 1) (by omega) (by omega)
      rw [← nI_1] at hh
      have yes : (∀ b, k * hz τ ≤ b → b < j → (τ 70 0 (12 * f + b) = -900009 ∨ τ 70 0 (12 * f + b) = hk τ f b t)) → (τ 70 0 (12 * f + j) = -900009 ∨ τ 70 0 (12 * f + j) = hk τ f j t) → kX8_mayBe_11 d Q (nI f) (nI k) t 1 (nI j + 1) τ := by
        intro q1 q2
        rw [jbP_t] at hh
        · exact hh
        · intro b hb1 hb2
          rcases Nat.lt_or_eq_of_le (Nat.le_of_lt_succ hb2) with q | q
          · exact q1 b hb1 q
          · subst q; exact q2
      have ge : jX8_heapEnd τ (nI f) (nI k) ≤ nI j → False := fun c => nI_ge hj0 (by omega) (by rw [← hE]; exact c)
      refine bX8_mayBe_11 hfin (fun c => (ge c).elim) (fun c => (ge c).elim) (fun _ => hin) (fun _ c => ?_) (fun _ c c2 => ?_) (fun _ _ _ => (iH_nz h).2) (fun _ _ _ _ => hfin) (fun _ _ _ _ => ?_) (fun _ _ _ _ => hin) (fun _ c c2 c3 => ?_) (fun _ c c2 c3 => ?_)
      · rw [jbP_0] at c
        rw [jbP_f (fun q => c (fun b b1 b2 => q b b1 (by omega)))] at hh
        exact hh
      · rw [jbP_0, Classical.not_not] at c
        rw [e5, e6] at c2
        exact yes c (Or.inl c2)
      · rw [hIx8 h hf hjn]
        exact vp_in_nI (by have := (hx_lt h hf hjn).2.2.2.1; omega) (by decide)
      · rw [e5, e6] at c2 c3
        rw [hKin8 h hf hjn] at c3
        rw [jbP_f (fun q => (q j hj2 (by omega)).elim c2 c3)] at hh
        exact hh
      · rw [jbP_0, Classical.not_not] at c
        rw [e5, e6, hKin8 h hf hjn] at c3
        exact yes c (Or.inr c3)
  have h0 := key (he τ f k - k * hz τ) (k * hz τ) (by omega) (Nat.le_refl _)
  rw [jbP_t (fun b b1 b2 => absurd b2 (by omega))] at h0
  refine eX8_mayBe (bX8_mayBe_0 ?_)
  rw [h4, ix_mul]
  exact h0
-- the choices of a heap, and of all
noncomputable def hC (τ : ps_S) (f k : Nat) : Nat := jN (hM τ f k 0) + 2 * jN (hM τ f k 1)
noncomputable def hW (τ : ps_S) (f : Nat) : Nat → Int32
  | 0 => 1
  | k + 1 => hW τ f k * nI (jN (hM τ f k 0) + jN (hM τ f k 1))
theorem jbP_N {p : Prop} : jbP p = nI (jN p) := by
  by_cases h : p
  · rw [jbP_t h, jN_t h]; rfl
  · rw [jbP_f h, jN_f h]; rfl
theorem pX1_choices (h : iH σ τ) (hf : f < 6) {k : Nat} (hkn : k * hz τ < hn τ f ∧ k < 12) {d : Nat} {Q : Option ps_V → ps_S → Prop} (hq : Q (some (.inl (nI (hC τ f k)))) σ) : ps_C mX1_choices (d + 4) [.inr (.inr (30, 0)), .inl (nI f), .inl (nI k)] σ Q := by
  refine eX1_choices (bX1_choices_0 (pX1_mayBe h hf hkn ⟨_, rfl, ?_⟩))
  have two : ∀ x : Int32, (x = nI (jN (hM τ f k 0))) → kX1_choices_15 (d + 3) Q (nI f) (nI k) x σ := by
    intro x hx
    refine bX1_choices_15 (pX1_mayBe h hf hkn ⟨_, rfl, bX1_choices_22 (fun c => ?_) (fun c => ?_)⟩)
    · rw [jbP_0] at c
      unfold hC at hq
      rw [jN_f c] at hq
      rw [hx, Int32.add_zero]
      exact hq
    · rw [jbP_0, Classical.not_not] at c
      unfold hC at hq
      rw [jN_t c] at hq
      rw [hx, show (2 : Int32) = nI 2 from rfl, nI_add]
      exact hq
  refine bX1_choices_7 (fun c => ?_) (fun c => ?_)
  · rw [jbP_0] at c
    exact two 0 (by rw [jN_f c]; rfl)
  · rw [jbP_0, Classical.not_not] at c
    exact two 1 (by rw [jN_t c]; rfl)
theorem hC_pop {k : Nat} : jbPop (nI (hC τ f k)) = nI (jN (hM τ f k 0) + jN (hM τ f k 1)) := by
  unfold hC
  by_cases h1 : hM τ f k 0 <;> by_cases h2 : hM τ f k 1
  · rw [jN_t h1, jN_t h2]; decide
  · rw [jN_t h1, jN_f h2]; decide
  · rw [jN_f h1, jN_t h2]; decide
  · rw [jN_f h1, jN_f h2]; decide
theorem pX1_turnings (h : iH σ τ) (hf : f < 6) {d : Nat} {Q : Option ps_V → ps_S → Prop} (hq : Q (some (.inl (hW τ f ((hn τ f + hz τ - 1) / hz τ)))) σ) : ps_C mX1_turnings (d + 5) [.inr (.inr (30, 0)), .inl (nI f)] σ Q := by
  generalize hN : (hn τ f + hz τ - 1) / hz τ = N at hq
  have hN12 : N ≤ 12 := by
    rcases Nat.eq_zero_or_pos N with z | z
    · omega
    · have := (hHeap h hf (k := N - 1) (by omega)).2
      omega
  have key : ∀ r j, j + r = N → kX1_turnings_11 (d + 4) Q (nI f) (hW τ f j) (nI N) (nI j) σ := by
    intro r
    induction r with
    | zero =>
      intro j hj
      obtain rfl : j = N := by omega
      exact bX1_turnings_11 (fun _ => hq) (fun c => absurd (nI_le (Nat.le_refl _) (by omega)) c)
    | succ r ih =>
      intro j hj
      have hj0 : j < N := by omega
      refine bX1_turnings_11 (fun c => absurd c (nI_ge hj0 (by omega))) (fun _ => pX1_choices h hf (hHeap h hf (by omega)) ⟨_, rfl, bX1_turnings_25 ?_⟩)
      rw [hC_pop, nI_1]
      exact ih (j + 1) (by omega)
  refine eX1_turnings (bX1_turnings_0 (vp_in_nI hf (by decide)) (iH_nz h).1 ?_)
  rw [(hCnt h hf).1, hN]
  exact key N 0 (by omega)
end HP

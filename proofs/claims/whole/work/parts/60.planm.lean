/-! ===== plans: the reference ===== -/
/-- the day of a forme as the reference keeps it -/
noncomputable def dO (τ : ps_S) (A : Nat → Nat) (i : Nat) : Int32 := if (uN τ).testBit i = true then nI (A i) else -900009
theorem dO_t {τ : ps_S} {A : Nat → Nat} {i : Nat} (h : (uN τ).testBit i = true) : dO τ A i = nI (A i) := by unfold dO; rw [if_pos h]
theorem dO_f {τ : ps_S} {A : Nat → Nat} {i : Nat} (h : ¬ (uN τ).testBit i = true) : dO τ A i = -900009 := by unfold dO; rw [if_neg h]
theorem dO_n {τ : ps_S} {A : Nat → Nat} {i : Nat} (h : (uN τ).testBit i = true → A i < 6) : dO τ A i = -900009 ↔ ¬ (uN τ).testBit i = true := by
  by_cases c : (uN τ).testBit i = true
  · rw [dO_t c]
    exact ⟨fun q => absurd q (nI_none (by have := h c; omega)), fun q => absurd c q⟩
  · rw [dO_f c]
    exact ⟨fun _ => c, fun _ => rfl⟩
def tl (o : Option (Nat → Nat)) : Int32 := match o with
  | some _ => 1
  | none => 0
def orO (o p : Option (Nat → Nat)) : Option (Nat → Nat) := match o with
  | some x => some x
  | none => p
theorem orO_none (o : Option (Nat → Nat)) : orO o none = o := by cases o <;> rfl
theorem orO_cons {o : Option (Nat → Nat)} {F : Nat → Option (Nat → Nat)} {a : Nat} {l : List Nat} : orO o ((a :: l).findSome? F) = orO (orO o (F a)) (l.findSome? F) := by
  cases o with
  | some x => rfl
  | none =>
    show (a :: l).findSome? F = orO (F a) (l.findSome? F)
    cases e : F a with
    | none => rw [fs_none e]; rfl
    | some x => rw [fs_some e]; rfl
section PMm
variable {τ : ps_S} {d : Nat} {Q : Option ps_V → ps_S → Prop}
/-- what isPlan looks at -/
def plI (τ : ps_S) (ρ : ps_S) (A : Nat → Nat) : Prop := ρ 63 0 = τ 63 0 ∧ ρ 50 0 13 = nI (pz τ) ∧ (∀ f, f < 6 → bm (ρ 65 0 f) 6 (mstT τ f)) ∧ (∀ i, i < 6 → ρ 66 0 i = dO τ A i) ∧ ∀ i, i < 6 → (uN τ).testBit i = true → A i < 6
theorem mSh_63 {ρ τ : ps_S} (h : ρ 63 0 = τ 63 0) (a b : Nat) : mSh ρ a b ↔ mSh τ a b := by unfold mSh; rw [h]
theorem pX8_isPlan {ρ : ps_S} {A : Nat → Nat} (h : plI τ ρ A) (hz : 1 ≤ pz τ ∧ pz τ ≤ 6) (hq : Q (some (.inl (jbP (isPl τ A)))) ρ) : ps_C mX8_isPlan (d + 1) [ps_m] ρ Q := by
  obtain ⟨h63, h13, h65, h66, hA⟩ := h
  -- what is asked of a pair
  have no : ∀ a b, a < 6 → b < 6 → (uN τ).testBit a = true → (uN τ).testBit b = true → ((a ≠ b ∧ A a = A b ∧ mSh τ a b) ∨ (mstT τ a b ∧ ¬ A a < A b)) → Q (some (.inl 0)) ρ := by
    intro a b ha hb hUa hUb w
    have hn : ¬ isPl τ A := fun q => by
      rcases w with w | w
      · exact q.2.1 a b ha hb hUa hUb w.1 w.2.1 w.2.2
      · exact w.2 (q.2.2 a b ha hb hUa hUb w.1)
    rw [jbP_f hn] at hq
    exact hq
  have outer : ∀ r a, a + r = 6 → (∀ a', a' < a → (uN τ).testBit a' = true → cntN 6 (fun b => (uN τ).testBit b = true ∧ A b = A a') ≤ pz τ) → (∀ a' b, a' < a → b < 6 → (uN τ).testBit a' = true → (uN τ).testBit b = true → (a' ≠ b → A a' = A b → ¬ mSh τ a' b) ∧ (mstT τ a' b → A a' < A b)) → kX8_isPlan_2 d Q (nI a) ρ := by
    intro r
    induction r with
    | zero =>
      intro a ha f1 f2
      obtain rfl : a = 6 := by omega
      have hy : isPl τ A := ⟨f1, fun a b ha hb hUa hUb => (f2 a b ha hb hUa hUb).1, fun a b ha hb hUa hUb => (f2 a b ha hb hUa hUb).2⟩
      rw [jbP_t hy] at hq
      exact bX8_isPlan_2 (fun _ => hq) (lpX (N := 6) (by decide))
    | succ r ih =>
      intro a ha f1 f2
      have ha0 : a < 6 := by omega
      have hac : (nI a).toNatClampNeg = a := nI_clamp (by omega)
      have va : vp_in (nI a) 6 := vp_in_nI ha0 (by decide)
      have na := dO_n (τ := τ) (A := A) (i := a) (hA a ha0)
      refine bX8_isPlan_2 (lpN (N := 6) ha0 (by decide)) (fun _ => ?_)
      have inner : ∀ t b, b + t = 6 → (∀ b', b' < b → (uN τ).testBit a = true → (uN τ).testBit b' = true → (a ≠ b' → A a = A b' → ¬ mSh τ a b') ∧ (mstT τ a b' → A a < A b')) → kX8_isPlan_12 d Q (nI a) (nI (cntN b (fun b => (uN τ).testBit a = true ∧ (uN τ).testBit b = true ∧ A a = A b))) (nI b) ρ := by
        intro t
        induction t with
        | zero =>
          intro b hb g1
          obtain rfl : b = 6 := by omega
          have hc6 := cnt_le (fun b => (uN τ).testBit a = true ∧ (uN τ).testBit b = true ∧ A a = A b) 6
          have ec : (uN τ).testBit a = true → cntN 6 (fun b => (uN τ).testBit a = true ∧ (uN τ).testBit b = true ∧ A a = A b) = cntN 6 (fun b => (uN τ).testBit b = true ∧ A b = A a) := fun hU => cnt_congr (fun i hi => ⟨fun q => ⟨q.2.1, q.2.2.symm⟩, fun q => ⟨hU, q.1, q.2.symm⟩⟩)
          refine bX8_isPlan_12 (fun _ c => ?_) (fun _ c => ?_) (lpX (N := 6) (by decide)) (lpX (N := 6) (by decide)) (lpX (N := 6) (by decide)) (lpX (N := 6) (by decide)) (lpX (N := 6) (by decide))
          · rw [h13, nI_leI (by omega) (by omega)] at c
            rw [nI_1]
            refine ih (a + 1) (by omega) (fun a' h1 h2 => ?_) (fun a' b h1 h2 h3 h4 => ?_)
            · rcases Nat.lt_or_eq_of_le (Nat.le_of_lt_succ h1) with z | z
              · exact f1 a' z h2
              · rw [z] at h2 ⊢
                rw [← ec h2]
                exact c
            · rcases Nat.lt_or_eq_of_le (Nat.le_of_lt_succ h1) with z | z
              · exact f2 a' b z h2 h3 h4
              · rw [z] at h3 ⊢
                exact g1 b h2 h3 h4
          · rw [h13, nI_leI (by omega) (by omega)] at c
            have hn : ¬ isPl τ A := fun q => by
              by_cases hU : (uN τ).testBit a = true
              · have := q.1 a ha0 hU
                rw [ec hU] at c
                exact c this
              · rw [cnt_none (fun i _ w => hU w.1)] at c
                omega
            rw [jbP_f hn] at hq
            exact hq
        | succ t ih2 =>
          intro b hb g1
          have hb0 : b < 6 := by omega
          have hbc : (nI b).toNatClampNeg = b := nI_clamp (by omega)
          have vb : vp_in (nI b) 6 := vp_in_nI hb0 (by decide)
          have nb := dO_n (τ := τ) (A := A) (i := b) (hA b hb0)
          have hnx := ih2 (b + 1) (by omega)
          have hbit := bm_bit (h65 a ha0) hb0 (by decide)
          -- the end of the pair
          have last : ∀ (both : Int32) (m : Nat), (both = 0 ↔ ¬ ((uN τ).testBit a = true ∧ (uN τ).testBit b = true)) → ((uN τ).testBit a = true → (uN τ).testBit b = true → a ≠ b → A a = A b → ¬ mSh τ a b) → m = cntN (b + 1) (fun b => (uN τ).testBit a = true ∧ (uN τ).testBit b = true ∧ A a = A b) → kX8_isPlan_106 d Q (nI a) (nI m) (nI b) both ρ := by
            intro both m hbo hsh hm
            have nxt : ((uN τ).testBit a = true → (uN τ).testBit b = true → mstT τ a b → A a < A b) → kX8_isPlan_12 d Q (nI a) (nI m) (nI b + 1) ρ := fun w => by
              rw [nI_1, hm]
              refine hnx (fun b' h1 h2 h3 => ?_)
              rcases Nat.lt_or_eq_of_le (Nat.le_of_lt_succ h1) with z | z
              · exact g1 b' z h2 h3
              · rw [z] at h3 ⊢
                exact ⟨hsh h2 h3, w h2 h3⟩
            refine bX8_isPlan_106 (fun c => nxt (fun x y => absurd ⟨x, y⟩ (hbo.mp c))) (fun _ => va) (fun _ c => nxt (fun _ _ q => ?_)) (fun _ _ => vb) (fun c c2 c3 => ?_) (fun c c2 c3 => ?_)
            · rw [hac, hbit, jbP_t q] at c
              exact absurd rfl c
            · obtain ⟨x, y⟩ := Classical.not_not.mp (fun q => c (hbo.mpr q))
              have := hA a ha0 x
              have := hA b hb0 y
              rw [hac, hbc, h66 a ha0, h66 b hb0, dO_t x, dO_t y, nI_ltI (by omega) (by omega)] at c3
              exact nxt (fun _ _ _ => c3)
            · obtain ⟨x, y⟩ := Classical.not_not.mp (fun q => c (hbo.mpr q))
              have := hA a ha0 x
              have := hA b hb0 y
              rw [hac, hbc, h66 a ha0, h66 b hb0, dO_t x, dO_t y, nI_ltI (by omega) (by omega)] at c3
              rw [hac, hbit] at c2
              have hm2 : mstT τ a b := Classical.not_not.mp (fun q => by rw [jbP_f q] at c2; exact absurd c2 (by decide))
              exact no a b ha0 hb0 x y (Or.inr ⟨hm2, c3⟩)
          have cS := cnt_S (fun b => (uN τ).testBit a = true ∧ (uN τ).testBit b = true ∧ A a = A b) b
          -- like or not
          have like : ∀ (both lk : Int32), (both = 0 ↔ ¬ ((uN τ).testBit a = true ∧ (uN τ).testBit b = true)) → (lk = 0 ↔ ¬ ((uN τ).testBit a = true ∧ (uN τ).testBit b = true ∧ A a = A b)) → kX8_isPlan_72 d Q (nI a) (nI (cntN b (fun b => (uN τ).testBit a = true ∧ (uN τ).testBit b = true ∧ A a = A b))) (nI b) both lk ρ := by
            intro both lk hbo hlk
            have step : ∀ (one : Nat), one = jN ((uN τ).testBit a = true ∧ (uN τ).testBit b = true ∧ A a = A b) → kX8_isPlan_85 d Q (nI a) (nI b) both lk (nI one) (nI (cntN b (fun b => (uN τ).testBit a = true ∧ (uN τ).testBit b = true ∧ A a = A b))) ρ := by
              intro one hone
              have em : cntN b (fun b => (uN τ).testBit a = true ∧ (uN τ).testBit b = true ∧ A a = A b) + one = cntN (b + 1) (fun b => (uN τ).testBit a = true ∧ (uN τ).testBit b = true ∧ A a = A b) := by rw [cS, hone]
              refine bX8_isPlan_85 (fun c => ?_) (fun c c2 => ?_) (fun _ _ => va) (fun _ _ => vb) (fun c c2 c3 => ?_) (fun c c2 c3 => ?_)
              · rw [nI_add]
                exact last both _ hbo (fun _ _ q _ => absurd ((nI_eq (by omega) (by omega)).mp c) q) em
              · rw [nI_add]
                exact last both _ hbo (fun x y _ e => absurd ⟨x, y, e⟩ (hlk.mp c2)) em
              · obtain ⟨x, y, e⟩ := Classical.not_not.mp (fun q => c2 (hlk.mpr q))
                rw [hac, hbc, jbP_0, Classical.not_not, mSh_63 h63] at c3
                exact no a b ha0 hb0 x y (Or.inl ⟨fun q => c (by rw [q]), e, c3⟩)
              · rw [hac, hbc, jbP_0, mSh_63 h63] at c3
                rw [nI_add]
                exact last both _ hbo (fun _ _ _ _ => c3) em
            refine bX8_isPlan_72 (fun c => step 0 ?_) (fun c => step 1 ?_)
            · exact (jN_f (hlk.mp c)).symm
            · exact (jN_t (Classical.not_not.mp (fun q => c (hlk.mpr q)))).symm
          have both : ∀ (bo : Int32), (bo = 0 ↔ ¬ ((uN τ).testBit a = true ∧ (uN τ).testBit b = true)) → kX8_isPlan_45 d Q (nI a) (nI (cntN b (fun b => (uN τ).testBit a = true ∧ (uN τ).testBit b = true ∧ A a = A b))) (nI b) bo ρ := by
            intro bo hbo
            refine bX8_isPlan_45 (fun c => bX8_isPlan_71 (like bo 0 hbo ⟨fun _ q => hbo.mp c ⟨q.1, q.2.1⟩, fun _ => rfl⟩)) (fun _ => va) (fun _ => vb) (fun c c2 => ?_) (fun c c2 => ?_)
            · obtain ⟨x, y⟩ := Classical.not_not.mp (fun q => c (hbo.mpr q))
              have := hA a ha0 x
              have := hA b hb0 y
              rw [hac, hbc, h66 a ha0, h66 b hb0, dO_t x, dO_t y, nI_eq (by omega) (by omega)] at c2
              exact bX8_isPlan_71 (like bo 0 hbo ⟨fun _ q => c2 q.2.2, fun _ => rfl⟩)
            · obtain ⟨x, y⟩ := Classical.not_not.mp (fun q => c (hbo.mpr q))
              have := hA a ha0 x
              have := hA b hb0 y
              rw [hac, hbc, h66 a ha0, h66 b hb0, dO_t x, dO_t y, nI_eq (by omega) (by omega)] at c2
              exact like bo 1 hbo ⟨fun q => absurd q (by decide), fun q => absurd ⟨x, y, c2⟩ q⟩
          refine bX8_isPlan_12 (lpN (N := 6) hb0 (by decide)) (lpN (N := 6) hb0 (by decide)) (fun _ => va) (fun _ c => ?_) (fun _ _ => vb) (fun _ _ c => ?_) (fun _ c c2 => ?_)
          · rw [hac, h66 a ha0, na] at c
            exact bX8_isPlan_44 (both 0 ⟨fun _ q => c q.1, fun _ => rfl⟩)
          · rw [hbc, h66 b hb0, nb] at c
            exact bX8_isPlan_44 (both 0 ⟨fun _ q => c q.2, fun _ => rfl⟩)
          · rw [hac, h66 a ha0, na, Classical.not_not] at c
            rw [hbc, h66 b hb0, nb, Classical.not_not] at c2
            exact both 1 ⟨fun q => absurd q (by decide), fun q => absurd ⟨c, c2⟩ q⟩
      exact inner 6 0 rfl (fun b' h => absurd h (by omega))
  exact eX8_isPlan (bX8_isPlan_0 (outer 6 0 rfl (fun a' h => absurd h (by omega)) (fun a' b h => absurd h (by omega))))
/-- the state of the walk through all assignments -/
def plS (τ ρ0 : ps_S) (ρ : ps_S) (A : Nat → Nat) (o : Option (Nat → Nat)) : Prop := (∀ g, g ≠ 65 → g ≠ 66 → g ≠ 67 → ρ g = ρ0 g) ∧ (∀ f, f < 6 → bm (ρ 65 0 f) 6 (mstT τ f)) ∧ (∀ i, i < 6 → ρ 66 0 i = dO τ A i) ∧ ∀ i, i < 6 → ρ 67 0 i = fdA τ o i
/-- the pair's question, as the reference puts it -/
def pkM (τ : ps_S) (v2 v3 : Int32) (pk : (Nat → Nat) → Prop) : Prop := (v2 = -900009 ∧ ∀ A, pk A) ∨ ∃ a b, a < 6 ∧ b < 6 ∧ v2 = nI a ∧ v3 = nI b ∧ (uN τ).testBit a = true ∧ (uN τ).testBit b = true ∧ ∀ A, pk A ↔ A a = A b
theorem lpE {ρ0 : ps_S} {D : Nat} {v2 v3 : Int32} {pk : (Nat → Nat) → Prop} (hD : 1 ≤ D ∧ D ≤ 6) (hz : 1 ≤ pz τ ∧ pz τ ≤ 6) (h63 : ρ0 63 0 = τ 63 0) (h13 : ρ0 50 0 13 = nI (pz τ)) (hpk : pkM τ v2 v3 pk) : ∀ (r : Nat) (A : Nat → Nat) (n : Nat) (o : Option (Nat → Nat)) (ρ : ps_S), r ≤ 6 → plS τ ρ0 ρ A o → (∀ i, 6 - r ≤ i → i < 6 → (uN τ).testBit i = true → A i = 0) → (∀ i, i < 6 → (uN τ).testBit i = true → A i < D) → (∀ ρ', plS τ ρ0 ρ' A (orO o (fp (uN τ) D (isPl τ) r A)) → kX8_layPlans_146 (d + 1) Q (nI D) v2 v3 (tl (orO o (fp (uN τ) D (isPl τ) r A))) (nI (n + SA (uN τ) D (fun A => jN (isPl τ A ∧ pk A)) r A)) (nI (6 - r) + (-1)) ρ') → kX8_layPlans_62 (d + 1) Q (nI D) v2 v3 (tl o) (nI n) 1 ρ
  | 0, A, n, o, ρ, _, hS, _, hA, hk => by
    obtain ⟨s1, s2, s3, s4⟩ := id hS
    have hI : plI τ ρ A := ⟨by rw [s1 63 (by decide) (by decide) (by decide)]; exact h63, by rw [s1 50 (by decide) (by decide) (by decide)]; exact h13, s2, s3, fun i hi hU => Nat.lt_of_lt_of_le (hA i hi hU) hD.2⟩
    have ef : fp (uN τ) D (isPl τ) 0 A = @ite _ (isPl τ A) (Classical.propDecidable _) (some A) none := rfl
    have eS : SA (uN τ) D (fun A => jN (isPl τ A ∧ pk A)) 0 A = jN (isPl τ A ∧ pk A) := rfl
    have e5 : (nI (6 - 0) + (-1) : Int32) = 5 := by decide
    rw [ef, eS, e5] at hk
    refine bX8_layPlans_62 (fun q => absurd q (by decide)) (fun _ => pX8_isPlan hI hz ⟨_, rfl, bX8_layPlans_71 (fun q => ?_) (fun q => ?_)⟩)
    · rw [jbP_0] at q
      rw [if_neg q, orO_none, jN_f (fun w => q w.1), Nat.add_zero] at hk
      exact hk ρ hS
    · rw [jbP_0, Classical.not_not] at q
      rw [if_pos q] at hk
      have hjn : jN (isPl τ A ∧ pk A) = jN (pk A) := jN_iff ⟨fun w => w.2, fun w => ⟨q, w⟩⟩
      rw [hjn] at hk
      -- counted
      have cnt : ∀ ρ', plS τ ρ0 ρ' A (orO o (some A)) → kX8_layPlans_109 (d + 1) Q (nI D) v2 v3 (nI n) ρ' := by
        intro ρ' w
        have w2 := hk ρ' w
        have et : tl (orO o (some A)) = 1 := by cases o <;> rfl
        rw [et] at w2
        rcases hpk with ⟨p1, p2⟩ | ⟨a, b, ha, hb, p1, p2, hUa, hUb, p3⟩
        · rw [jN_t (p2 A), ← nI_1] at w2
          exact bX8_layPlans_109 (fun _ => w2) (fun c => absurd p1 c) (fun c => absurd p1 c) (fun c => absurd p1 c) (fun c => absurd p1 c)
        · subst p1
          subst p2
          have hla := hA a ha hUa
          have hlb := hA b hb hUb
          have ee : (ρ' 66 0 (nI a).toNatClampNeg = ρ' 66 0 (nI b).toNatClampNeg) ↔ A a = A b := by
            rw [nI_clamp (n := a) (by omega), nI_clamp (n := b) (by omega), w.2.2.1 a ha, w.2.2.1 b hb, dO_t hUa, dO_t hUb, nI_eq (by omega) (by omega)]
          refine bX8_layPlans_109 (fun c => absurd c (nI_none (by omega))) (fun _ => vp_in_nI ha (by decide)) (fun _ => vp_in_nI hb (by decide)) (fun _ c => ?_) (fun _ c => ?_)
          · rw [ee] at c
            rw [jN_f (fun y => c ((p3 A).mp y)), Nat.add_zero] at w2
            rw [Int32.add_zero]
            exact w2
          · rw [ee] at c
            rw [jN_t ((p3 A).mpr c), ← nI_1] at w2
            exact w2
      cases o with
      | some x =>
        exact bX8_layPlans_77 (fun _ => cnt ρ hS) (fun _ _ => cnt ρ hS) (fun _ w => absurd w (show ¬ (1 : Int32) = 0 from by decide)) (fun _ w => absurd w (show ¬ (1 : Int32) = 0 from by decide))
      | none =>
        have copy : ∀ t f, f + t = 6 → ∀ ρ', (∀ g, g ≠ 67 → ρ' g = ρ g) → (∀ i, i < f → ρ' 67 0 i = dO τ A i) → kX8_layPlans_77 (d + 1) Q (nI D) v2 v3 (tl none) (nI n) (nI f) ρ' := by
          intro t
          induction t with
          | zero =>
            intro f hf ρ' g1 g2
            obtain rfl : f = 6 := by omega
            refine bX8_layPlans_77 (fun _ => cnt ρ' ⟨fun g x y z => by rw [g1 g z]; exact s1 g x y z, by rw [g1 65 (by decide)]; exact s2, by rw [g1 66 (by decide)]; exact s3, g2⟩) (lpX (N := 6) (by decide)) (lpX (N := 6) (by decide)) (lpX (N := 6) (by decide))
          | succ t ih =>
            intro f hf ρ' g1 g2
            have hf0 : f < 6 := by omega
            refine bX8_layPlans_77 (lpN (N := 6) hf0 (by decide)) (fun _ w => absurd rfl w) (fun _ _ => vp_in_nI hf0 (by decide)) (fun _ _ => ?_)
            rw [nI_clamp (by omega), nI_1]
            refine ih (f + 1) (by omega) _ (fun g x => by rw [ps_up_o x]; exact g1 g x) (fun i hi => ?_)
            by_cases e : i = f
            · rw [e, ps_up_s, g1 66 (by decide)]
              exact s3 f hf0
            · rw [ps_up_v (by omega)]
              exact g2 i (by omega)
        exact copy 6 0 rfl ρ (fun _ _ => rfl) (fun i h => absurd h (by omega))
  | r + 1, A, n, o, ρ, hr, hS, h0, hA, hk => by
    have hc : 6 - (r + 1) = 5 - r := by omega
    have hk1 : 6 - r = (5 - r) + 1 := by omega
    have hf6 : 5 - r < 6 := by omega
    rw [hc] at h0 hk
    have e1 : nI (6 - r) + (-1) = nI (5 - r) := by rw [hk1]; exact nI_m1 _
    have hfc : (nI (5 - r)).toNatClampNeg = 5 - r := nI_clamp (by omega)
    have vf : vp_in (nI (5 - r)) 6 := vp_in_nI hf6 (by decide)
    have nneg : ¬ nI (5 - r) < 0 := nI_nlt (a := 5 - r) (b := 0) (Nat.zero_le _) (by omega)
    by_cases c : (uN τ).testBit (5 - r) = true
    · rw [fp_t c, SA_t c] at hk
      have hA0 : A (5 - r) = 0 := h0 (5 - r) (Nat.le_refl _) hf6 c
      have eA : upA A (5 - r) 0 = A := by
        funext i
        unfold upA
        by_cases z : i = 5 - r
        · rw [if_pos z, z, hA0]
        · rw [if_neg z]
      have loop : ∀ t e o' ρ1, e + t + 1 = D → plS τ ρ0 ρ1 (upA A (5 - r) e) o' → orO o ((List.range' 0 D).findSome? (fun d => fp (uN τ) D (isPl τ) r (upA A (5 - r) d))) = orO o' ((List.range' e (t + 1)).findSome? (fun d => fp (uN τ) D (isPl τ) r (upA A (5 - r) d))) → kX8_layPlans_62 (d + 1) Q (nI D) v2 v3 (tl o') (nI (n + sumN e (fun d => SA (uN τ) D (fun A => jN (isPl τ A ∧ pk A)) r (upA A (5 - r) d)))) 1 ρ1 := by
        intro t
        induction t with
        | zero =>
          intro e o' ρ1 he hS1 ho
          refine lpE hD hz h63 h13 hpk r (upA A (5 - r) e) _ o' ρ1 (by omega) hS1 (fun i h1 h2 h3 => ?_) (fun i h1 h2 => ?_) (fun ρ' hS' => ?_)
          · unfold upA; rw [if_neg (by omega)]; exact h0 i (by omega) h2 h3
          · unfold upA
            by_cases z : i = 5 - r
            · rw [if_pos z]; omega
            · rw [if_neg z]; exact hA i h1 h2
          · rw [e1]
            have e66 : ρ' 66 0 (nI (5 - r)).toNatClampNeg = nI e := by
              rw [hfc, hS'.2.2.1 _ hf6, dO_t c]
              unfold upA
              rw [if_pos rfl]
            have eD : nI D - 1 = nI e := by rw [← he]; exact nI_pred e
            refine bX8_layPlans_146 (fun q => absurd q nneg) (fun _ => vf) (fun _ q => absurd q (by rw [e66]; exact nI_none (by omega))) (fun _ _ q => absurd (by rw [e66, eD]) q) (fun _ _ _ => bX8_layPlans_176 vf (fun _ => ?_) (fun q => absurd q (by rw [e66]; exact nI_none (by omega))))
            rw [hfc]
            have eo : orO o ((List.range' 0 D).findSome? (fun d => fp (uN τ) D (isPl τ) r (upA A (5 - r) d))) = orO o' (fp (uN τ) D (isPl τ) r (upA A (5 - r) e)) := by
              rw [ho]
              show orO o' ((e :: []).findSome? _) = _
              rw [orO_cons]
              exact orO_none _
            have en : n + sumN D (fun d => SA (uN τ) D (fun A => jN (isPl τ A ∧ pk A)) r (upA A (5 - r) d)) = n + sumN e (fun d => SA (uN τ) D (fun A => jN (isPl τ A ∧ pk A)) r (upA A (5 - r) d)) + SA (uN τ) D (fun A => jN (isPl τ A ∧ pk A)) r (upA A (5 - r) e) := by
              have : sumN D (fun d => SA (uN τ) D (fun A => jN (isPl τ A ∧ pk A)) r (upA A (5 - r) d)) = sumN (e + 1) (fun d => SA (uN τ) D (fun A => jN (isPl τ A ∧ pk A)) r (upA A (5 - r) d)) := by congr 1; omega
              rw [this]
              exact (Nat.add_assoc n (sumN e _) _).symm
            rw [eo, en] at hk
            refine hk _ ⟨fun g x y z => by rw [ps_up_o y]; exact hS'.1 g x y z, by rw [ps_up_o (by decide)]; exact hS'.2.1, fun i hi => ?_, by rw [ps_up_o (by decide)]; exact hS'.2.2.2⟩
            by_cases z : i = 5 - r
            · rw [z, ps_up_s, dO_t c, hA0]
              rfl
            · rw [ps_up_v (by omega), hS'.2.2.1 i hi]
              unfold dO upA
              rw [if_neg z]
        | succ t ih =>
          intro e o' ρ1 he hS1 ho
          refine lpE hD hz h63 h13 hpk r (upA A (5 - r) e) _ o' ρ1 (by omega) hS1 (fun i h1 h2 h3 => ?_) (fun i h1 h2 => ?_) (fun ρ' hS' => ?_)
          · unfold upA; rw [if_neg (by omega)]; exact h0 i (by omega) h2 h3
          · unfold upA
            by_cases z : i = 5 - r
            · rw [if_pos z]; omega
            · rw [if_neg z]; exact hA i h1 h2
          · rw [e1]
            have e66 : ρ' 66 0 (nI (5 - r)).toNatClampNeg = nI e := by
              rw [hfc, hS'.2.2.1 _ hf6, dO_t c]
              unfold upA
              rw [if_pos rfl]
            have eD : nI D - 1 = nI (e + t + 1) := by rw [← he]; exact nI_pred _
            have ne : ¬ ρ' 66 0 (nI (5 - r)).toNatClampNeg = nI D - 1 := by
              rw [e66, eD, nI_eq (by omega) (by omega)]
              omega
            refine bX8_layPlans_146 (fun q => absurd q nneg) (fun _ => vf) (fun _ q => absurd q (by rw [e66]; exact nI_none (by omega))) (fun _ _ _ => bX8_layPlans_207 (fun q => absurd q nneg) (fun _ => bX8_layPlans_217 (fun q => absurd q (by decide)) (fun _ => vf) (fun _ => ?_))) (fun _ _ q => absurd q ne)
            rw [e66, hfc, nI_1]
            have hnx := ih (e + 1) (orO o' (fp (uN τ) D (isPl τ) r (upA A (5 - r) e))) (ps_up ρ' 66 0 (5 - r) (nI (e + 1))) (by omega) ⟨fun g x y z => by rw [ps_up_o y]; exact hS'.1 g x y z, by rw [ps_up_o (by decide)]; exact hS'.2.1, fun i hi => ?_, by rw [ps_up_o (by decide)]; exact hS'.2.2.2⟩ (by rw [ho, List.range'_succ, orO_cons])
            · have en : sumN (e + 1) (fun d => SA (uN τ) D (fun A => jN (isPl τ A ∧ pk A)) r (upA A (5 - r) d)) = sumN e (fun d => SA (uN τ) D (fun A => jN (isPl τ A ∧ pk A)) r (upA A (5 - r) d)) + SA (uN τ) D (fun A => jN (isPl τ A ∧ pk A)) r (upA A (5 - r) e) := rfl
              rw [en, ← Nat.add_assoc] at hnx
              exact hnx
            · by_cases z : i = 5 - r
              · rw [z, ps_up_s, dO_t c]
                unfold upA
                rw [if_pos rfl]
              · rw [ps_up_v (by omega), hS'.2.2.1 i hi]
                unfold dO upA
                rw [if_neg z, if_neg z]
      have := loop (D - 1) 0 o ρ (by omega) (by rw [eA]; exact hS) (by rw [show D - 1 + 1 = D from by omega])
      exact this
    · rw [fp_f c, SA_f c] at hk
      refine lpE hD hz h63 h13 hpk r A n o ρ (by omega) hS (fun i h1 h2 h3 => h0 i (by omega) h2 h3) hA (fun ρ' hS' => ?_)
      rw [e1]
      have e66 : ρ' 66 0 (nI (5 - r)).toNatClampNeg = -900009 := by rw [hfc, hS'.2.2.1 _ hf6, dO_f c]
      refine bX8_layPlans_146 (fun q => absurd q nneg) (fun _ => vf) (fun _ _ => bX8_layPlans_176 vf (fun q => absurd e66 q) (fun _ => ?_)) (fun _ q => absurd e66 q) (fun _ q => absurd e66 q)
      rw [hfc]
      refine hk _ ⟨fun g x y z => by rw [ps_up_o y]; exact hS'.1 g x y z, by rw [ps_up_o (by decide)]; exact hS'.2.1, fun i hi => ?_, by rw [ps_up_o (by decide)]; exact hS'.2.2.2⟩
      by_cases z : i = 5 - r
      · rw [z, ps_up_s, dO_f c]
      · rw [ps_up_v (by omega)]
        exact hS'.2.2.1 i hi
/-- layPlans of the reference -/
theorem pX8_layPlans {ρ : ps_S} {D pair : Nat} {v2 v3 : Int32} {pk : (Nat → Nat) → Prop} (hD : 1 ≤ D ∧ D ≤ 6) (hz : 1 ≤ pz τ ∧ pz τ ≤ 6) (h63 : ρ 63 0 = τ 63 0) (h13 : ρ 50 0 13 = nI (pz τ)) (hpk : pkM τ v2 v3 pk) (hp : ∀ A, (∀ i, i < 6 → (uN τ).testBit i = true → A i < D) → (pk A ↔ ∀ d, d < D → (dm (uN τ) A d &&& pair = 0 ∨ dm (uN τ) A d &&& pair = pair))) (hq : ∀ ρ', (∀ g, g ≠ 65 → g ≠ 66 → g ≠ 67 → ρ' g = ρ g) → (∀ f, f < 6 → ρ' 67 0 f = fdN τ D f) → Q (some (.inl (nI (plN τ D pair)))) ρ') : ps_C mX8_layPlans (d + 2) [ps_m, .inl (nI D), .inl v2, .inl v3] ρ Q := by
  refine eX8_layPlans (bX8_layPlans_0 (pX8_layMusts (τ := τ) h63 (fun ρ1 f1 f2 => ⟨rfl, bX8_layPlans_4 ?_⟩)))
  have start : ∀ r f, f + r = 6 → ∀ ρ', (∀ g, g ≠ 66 → g ≠ 67 → ρ' g = ρ1 g) → (∀ i, i < f → ρ' 66 0 i = dO τ A0 i ∧ ρ' 67 0 i = -900009) → kX8_layPlans_10 (d + 1) Q (nI D) v2 v3 0 (nI f) ρ' := by
    intro r
    induction r with
    | zero =>
      intro f hf ρ' g1 g2
      obtain rfl : f = 6 := by omega
      refine bX8_layPlans_10 (fun _ => ?_) (lpX (N := 6) (by decide)) (lpX (N := 6) (by decide)) (lpX (N := 6) (by decide))
      refine lpE (ρ0 := ρ) hD hz h63 h13 hpk 6 A0 0 none ρ' (by decide) ⟨fun g x y z => by rw [g1 g y z]; exact f1 g x, fun f hf => by rw [g1 65 (by decide) (by decide)]; exact f2 f hf, fun i hi => (g2 i hi).1, fun i hi => (g2 i hi).2⟩ (fun _ _ _ _ => rfl) (fun i _ _ => hD.1) (fun ρ2 hS => ?_)
      have neg : (nI (6 - 6) + (-1) : Int32) < 0 := by decide
      have e : orO none (fp (uN τ) D (isPl τ) 6 A0) = fp (uN τ) D (isPl τ) 6 A0 := rfl
      refine bX8_layPlans_146 (fun _ => bX8_layPlans_207 (fun _ => bX8_layPlans_217 (fun _ => bX8_layPlans_62 (fun _ => ?_) (fun q => absurd rfl q)) (fun q => absurd rfl q) (fun q => absurd rfl q)) (fun q => absurd neg q)) (fun q => absurd neg q) (fun q => absurd neg q) (fun q => absurd neg q) (fun q => absurd neg q)
      rw [Nat.zero_add, ← plN_SA hp]
      exact hq ρ2 hS.1 hS.2.2.2
    | succ r ih =>
      intro f hf ρ' g1 g2
      have hf0 : f < 6 := by omega
      have hfc : (nI f).toNatClampNeg = f := nI_clamp (by omega)
      have l63 : ρ' 63 0 = τ 63 0 := by rw [g1 63 (by decide) (by decide), f1 63 (by decide)]; exact h63
      have nxt : ∀ w, w = dO τ A0 f → kX8_layPlans_10 (d + 1) Q (nI D) v2 v3 0 (nI f + 1) (ps_up (ps_up ρ' 66 0 f w) 67 0 f (-900009)) := by
        intro w hw
        rw [nI_1]
        refine ih (f + 1) (by omega) _ (fun g x y => by rw [ps_up_o y, ps_up_o x]; exact g1 g x y) (fun i hi => ?_)
        by_cases e : i = f
        · rw [e, ps_up_o (by decide), ps_up_s, ps_up_s]
          exact ⟨hw, rfl⟩
        · rw [ps_up_o (by decide), ps_up_v (by omega), ps_up_v (by omega), ps_up_o (by decide)]
          exact g2 i (by omega)
      refine bX8_layPlans_10 (lpN (N := 6) hf0 (by decide)) (fun _ => vp_in_nI hf0 (by decide)) (fun _ c => ?_) (fun _ c => ?_)
      · rw [hfc, jbP_0, mSh_63 l63] at c
        rw [hfc]
        exact nxt _ (dO_f (fun q => c (uN_tb.mp q).2)).symm
      · rw [hfc, jbP_0, Classical.not_not, mSh_63 l63] at c
        rw [hfc]
        exact nxt _ ((dO_t (A := A0) (uN_tb.mpr ⟨hf0, c⟩)).trans (show nI (A0 f) = 0 from rfl)).symm
  exact start 6 0 rfl ρ1 (fun _ _ _ => rfl) (fun i h => absurd h (by omega))
end PMm

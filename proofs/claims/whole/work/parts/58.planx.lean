/-! ===== plans: the class ===== -/
theorem bm6N {s : Nat} (hs : s < 64) : bm (nI s) 6 (fun i => s.testBit i = true) := fun i hi => by
  rw [b_nI s i hi]
  refine ⟨fun q => ⟨?_, q⟩, fun q => q.2⟩
  rcases Nat.lt_or_ge i 6 with z | z
  · exact z
  · rw [Nat.testBit_lt_two_pow (Nat.lt_of_lt_of_le hs (Nat.pow_le_pow_right (n := 2) (by decide) z))] at q
    cases q
theorem lt64_of {p s : Nat} (h : sb p s) (hs : s < 64) : p < 64 := Nat.lt_of_le_of_lt (sb_le h) hs
/-- presses and the first plan -/
def iP (σ τ : ps_S) : Prop := (σ 24 0 5 = nI (pz τ) ∧ τ 50 0 13 = nI (pz τ) ∧ 1 ≤ pz τ ∧ pz τ ≤ 6) ∧ (σ 24 0 6 = 0 ∨ ∃ D, 1 ≤ D ∧ D ≤ 6 ∧ σ 24 0 6 = nI D ∧ ∀ f, f < 6 → σ 28 0 f = fdN τ D f)
/-- cells that questions about plans may write -/
def kP (σ σ' : ps_S) : Prop := (∀ g, g ≠ 24 → g < 25 ∨ 29 < g → σ' g = σ g) ∧ ∀ j, j ≠ 6 → σ' 24 0 j = σ 24 0 j
theorem kP_refl (σ : ps_S) : kP σ σ := ⟨fun _ _ _ => rfl, fun _ _ => rfl⟩
theorem kP_trans {σ σ' σ'' : ps_S} (h : kP σ σ') (h' : kP σ' σ'') : kP σ σ'' := ⟨fun g a b => (h'.1 g a b).trans (h.1 g a b), fun j a => (h'.2 j a).trans (h.2 j a)⟩
theorem kP_g {σ σ' : ps_S} (h : ∀ g, g < 25 ∨ 29 < g → σ' g = σ g) : kP σ σ' := ⟨fun g _ b => h g b, fun j _ => by rw [h 24 (by omega)]⟩
theorem iT_k {σ σ' τ : ps_S} (h : kP σ σ') (hT : iT σ τ) : iT σ' τ := by
  unfold iT iTb
  rw [h.1 21 (by decide) (by omega), h.1 22 (by decide) (by omega), h.1 23 (by decide) (by omega), h.1 19 (by decide) (by omega)]
  exact hT
section PX
variable {σ τ : ps_S} {d : Nat} {Q : Option ps_V → ps_S → Prop}
/-- the rest of what may lie on one day -/
def liN (τ : ps_S) (m : Nat) : Prop := cntN 6 (fun i => m.testBit i = true) ≤ pz τ ∧ ∀ a b, a < 6 → b < 6 → m.testBit a = true → m.testBit b = true → a ≠ b → ¬ mSh τ a b
theorem pX4_canLie {s : Nat} (hT : iT σ τ) (h5 : σ 24 0 5 = nI (pz τ)) (hz : pz τ ≤ 6) (hs : s < 64) (hq : Q (some (.inl (jbP (liN τ s)))) σ) : ps_C mX4_canLie (d + 1) [.inr (.inr (24, 0)), .inr (.inr (19, 0)), .inl (nI s)] σ Q := by
  have hc6 := cnt_le (fun i => s.testBit i = true) 6
  have e0 : jbPop (nI s) = nI (cntN 6 (fun i => s.testBit i = true)) := pop_bm6 (bm6N hs)
  refine eX4_canLie (bX4_canLie_0 (fun c => ?_) (fun c => ?_))
  · rw [e0, h5, nI_leI (by omega) (by omega)] at c
    have key : ∀ r a, a + r = 6 → (∀ a' b, a' < a → b < 6 → s.testBit a' = true → s.testBit b = true → a' ≠ b → ¬ mSh τ a' b) → kX4_canLie_15 d Q (nI s) (nI a) σ := by
      intro r
      induction r with
      | zero =>
        intro a ha f1
        obtain rfl : a = 6 := by omega
        rw [jbP_t ⟨c, f1⟩] at hq
        exact bX4_canLie_15 (fun _ => hq) (lpX (N := 6) (by decide)) (lpX (N := 6) (by decide)) (lpX (N := 6) (by decide)) (lpX (N := 6) (by decide))
      | succ r ih =>
        intro a ha f1
        have ha0 : a < 6 := by omega
        have hac : (nI a).toNatClampNeg = a := nI_clamp (by omega)
        have hot : bm (nI s &&& (((1 : Int32) <<< (nI a &&& 31)) ^^^ (-1))) 6 (fun i => s.testBit i = true ∧ ¬ i = a) := bm_diff (bm6N hs) (bm_1 ha0 (by decide))
        have heq : nI s &&& (((1 : Int32) <<< (nI a &&& 31)) ^^^ (-1)) = nI s ↔ ¬ s.testBit a = true := by
          rw [bm_eq hot (bm6N hs) (by decide)]
          constructor
          · intro q w; exact ((q a ha0).mpr w).2 rfl
          · intro q i hi
            exact ⟨fun w => w.1, fun w => ⟨w, fun z => q (z ▸ w)⟩⟩
        have hz2 : (σ 22 0 a) &&& (nI s &&& (((1 : Int32) <<< (nI a &&& 31)) ^^^ (-1))) = 0 ↔ ∀ i, i < 6 → ¬ (mSh τ a i ∧ s.testBit i = true ∧ ¬ i = a) := bm_zero (bm_and (hT.2.1 a ha0).1 hot) (by decide)
        refine bX4_canLie_15 (lpN (N := 6) ha0 (by decide)) (fun _ q => ?_) (fun _ _ => vp_in_nI ha0 (by decide)) (fun _ q q2 => ?_) (fun _ q q2 => ?_)
        · rw [heq] at q
          rw [nI_1]
          refine ih (a + 1) (by omega) (fun a' b h1 h2 h3 h4 h6 => ?_)
          rcases Nat.lt_or_eq_of_le (Nat.le_of_lt_succ h1) with z | z
          · exact f1 a' b z h2 h3 h4 h6
          · exact absurd (z ▸ h3) q
        · rw [hac, hz2] at q2
          rw [nI_1]
          refine ih (a + 1) (by omega) (fun a' b h1 h2 h3 h4 h6 => ?_)
          rcases Nat.lt_or_eq_of_le (Nat.le_of_lt_succ h1) with z | z
          · exact f1 a' b z h2 h3 h4 h6
          · rw [z] at h6 ⊢
            exact fun w => q2 b h2 ⟨w, h4, fun y => h6 y.symm⟩
        · rw [hac, hz2] at q2
          have ha1 : s.testBit a = true := Classical.not_not.mp (fun w => q (heq.mpr w))
          have hno : ¬ liN τ s := fun w => q2 (fun i hi y => w.2 a i ha0 hi ha1 y.2.1 (fun z => y.2.2 z.symm) y.1)
          rw [jbP_f hno] at hq
          exact hq
    exact key 6 0 rfl (fun a' b h => absurd h (by omega))
  · rw [e0, h5, nI_leI (by omega) (by omega)] at c
    rw [jbP_f (fun w => c w.1)] at hq
    exact hq
theorem pX4_formesAhead {s : Nat} (hT : iT σ τ) (hs : s < 64) (hq : ∀ w, bm w 6 (fun f => ∃ a, a < 6 ∧ s.testBit a = true ∧ mstT τ f a) → Q (some (.inl w)) σ) : ps_C mX4_formesAhead d [.inr (.inr (19, 0)), .inl (nI s)] σ Q := by
  have key : ∀ r f, f + r = 6 → ∀ w, bm w 6 (fun i => i < f ∧ ∃ a, a < 6 ∧ s.testBit a = true ∧ mstT τ i a) → kX4_formesAhead_4 d Q (nI s) w (nI f) σ := by
    intro r
    induction r with
    | zero =>
      intro f hf w hw
      obtain rfl : f = 6 := by omega
      exact bX4_formesAhead_4 (fun _ => hq w (bm_congr hw (fun i hi => ⟨fun q => q.2, fun q => ⟨hi, q⟩⟩))) (lpX (N := 6) (by decide)) (lpX (N := 6) (by decide)) (lpX (N := 6) (by decide))
    | succ r ih =>
      intro f hf w hw
      have hf0 : f < 6 := by omega
      have hfc : (nI f).toNatClampNeg = f := nI_clamp (by omega)
      have hz : (σ 23 0 f) &&& nI s = 0 ↔ ∀ i, i < 6 → ¬ (mstT τ f i ∧ s.testBit i = true) := bm_zero (bm_and (hT.2.1 f hf0).2 (bm6N hs)) (by decide)
      refine bX4_formesAhead_4 (lpN (N := 6) hf0 (by decide)) (fun _ => vp_in_nI hf0 (by decide)) (fun _ c => ?_) (fun _ c => ?_)
      · rw [hfc, hz] at c
        rw [nI_1]
        refine ih (f + 1) (by omega) w (bm_congr hw (fun i hi => ?_))
        refine ⟨fun q => ⟨by omega, q.2⟩, fun q => ⟨?_, q.2⟩⟩
        rcases Nat.lt_or_eq_of_le (Nat.le_of_lt_succ q.1) with z | z
        · exact z
        · obtain ⟨a, a1, a2, a3⟩ := q.2
          rw [z] at a3
          exact absurd ⟨a3, a2⟩ (c a a1)
      · rw [hfc, hz] at c
        rw [nI_1]
        have hex : ∃ a, a < 6 ∧ s.testBit a = true ∧ mstT τ f a := Classical.not_not.mp (fun q => c (fun i hi y => q ⟨i, hi, y.2, y.1⟩))
        refine ih (f + 1) (by omega) _ (bm_congr (bm_or hw (bm_1 hf0 (by decide))) (fun i hi => ?_))
        constructor
        · rintro (q | q)
          · exact ⟨by omega, q.2⟩
          · rw [q]; exact ⟨by omega, hex⟩
        · intro q
          rcases Nat.lt_or_eq_of_le (Nat.le_of_lt_succ q.1) with z | z
          · exact Or.inl ⟨z, q.2⟩
          · exact Or.inr z
  exact eX4_formesAhead (bX4_formesAhead_0 (key 6 0 rfl 0 (bm_congr bm_0 (fun i _ => ⟨fun q => q.elim, fun q => absurd q.1 (by omega)⟩))))
/-- the weighed sets -/
def wgO (τ : ps_S) (pr : Nat) (σ : ps_S) (N : Nat) : Prop := ∀ s, s < N → σ 25 0 s = jbP (ftN τ pr s) ∧ bm (σ 26 0 s) 6 (fun f => ∃ a, a < 6 ∧ s.testBit a = true ∧ mstT τ f a)
theorem pX4_weighSets {pr : Nat} (hpr : pr < 64) (hT : iT σ τ) (h5 : σ 24 0 5 = nI (pz τ)) (hz : pz τ ≤ 6) (hq : ∀ σ', (∀ g, g ≠ 25 → g ≠ 26 → σ' g = σ g) → wgO τ pr σ' 64 → Q none σ') : ps_C mX4_weighSets (d + 2) [.inr (.inr (24, 0)), .inr (.inr (19, 0)), .inl (nI pr)] σ Q := by
  have key : ∀ r s, s + r = 64 → ∀ ρ, (∀ g, g ≠ 25 → g ≠ 26 → ρ g = σ g) → wgO τ pr ρ s → kX4_weighSets_2 (d + 1) Q (nI pr) (nI s) ρ := by
    intro r
    induction r with
    | zero =>
      intro s hs ρ f1 f2
      obtain rfl : s = 64 := by omega
      exact bX4_weighSets_2 (fun _ => hq ρ f1 f2) (lpX (N := 64) (by decide)) (lpX (N := 64) (by decide)) (lpX (N := 64) (by decide))
    | succ r ih =>
      intro s hs ρ f1 f2
      have hs0 : s < 64 := by omega
      have hsc : (nI s).toNatClampNeg = s := nI_clamp (by omega)
      have vs : vp_in (nI s) 64 := vp_in_nI hs0 (by decide)
      have kk : ∀ ρ' : ps_S, (∀ g, g ≠ 25 → g ≠ 26 → ρ' g = σ g) → iT ρ' τ := fun ρ' g1 => iT_k (kP_g (fun g x => g1 g (by omega) (by omega))) hT
      have ha : s &&& pr < 64 := Nat.lt_of_le_of_lt Nat.and_le_left hs0
      have z1 : nI s &&& nI pr = 0 ↔ s &&& pr = 0 := by rw [nx_and, show (0 : Int32) = nI 0 from rfl, nI_eq (by omega) (by decide)]
      have z2 : nI s &&& nI pr = nI pr ↔ s &&& pr = pr := by rw [nx_and, nI_eq (by omega) (by omega)]
      -- the rest
      have put : ∀ w, w = jbP (ftN τ pr s) → kX4_weighSets_55 (d + 1) Q (nI pr) (nI s) w (nI s) ρ := by
        intro w hw
        refine bX4_weighSets_55 vs ?_
        rw [hsc]
        refine pX4_formesAhead (τ := τ) (kk _ (fun g x y => by rw [ps_up_o x]; exact f1 g x y)) hs0 (fun w2 hw2 => ⟨_, rfl, bX4_weighSets_66 vs ?_⟩)
        rw [hsc, nI_1]
        refine ih (s + 1) (by omega) _ (fun g x y => by rw [ps_up_o y, ps_up_o x]; exact f1 g x y) (fun s' h => ?_)
        by_cases e : s' = s
        · subst e
          rw [ps_up_s, ps_up_o (by decide), ps_up_s]
          exact ⟨hw, hw2⟩
        · rw [ps_up_v (f := 26) (by omega), ps_up_o (by decide), ps_up_v (by omega), ps_up_o (by decide)]
          exact f2 s' (by omega)
      have no : ¬ (s &&& pr = 0 ∨ s &&& pr = pr) → kX4_weighSets_29 (d + 1) Q (nI pr) (nI s) 0 ρ := fun w => bX4_weighSets_29 (fun _ => bX4_weighSets_54 (put 0 (jbP_f (fun q => w q.1)).symm)) (fun q => absurd rfl q)
      have yes : (s &&& pr = 0 ∨ s &&& pr = pr) → kX4_weighSets_24 (d + 1) Q (nI pr) (nI s) ρ := fun w => by
        refine bX4_weighSets_24 (bX4_weighSets_29 (fun q => absurd q (by decide)) (fun _ => pX4_canLie (τ := τ) (kk ρ f1) (by rw [f1 24 (by decide) (by decide)]; exact h5) hz hs0 ⟨_, rfl, bX4_weighSets_47 (fun q => bX4_weighSets_54 (put 0 ?_)) (fun q => put 1 ?_)⟩))
        · rw [jbP_0] at q
          exact (jbP_f (fun y => q y.2)).symm
        · rw [jbP_0, Classical.not_not] at q
          exact (jbP_t ⟨w, q⟩).symm
      refine bX4_weighSets_2 (lpN (N := 64) hs0 (by decide)) (fun _ c => yes (Or.inl (z1.mp c))) (fun _ c c2 => no (fun w => w.elim (fun y => c (z1.mpr y)) (fun y => c2 (z2.mpr y)))) (fun _ _ c => yes (Or.inr (z2.mp c)))
  exact eX4_weighSets (bX4_weighSets_0 (key 64 0 rfl σ (fun _ _ _ => rfl) (fun s h => absurd h (by omega))))
theorem ft_0 (τ : ps_S) (pr : Nat) : ftN τ pr 0 := by
  refine ⟨Or.inl (Nat.zero_and _), ?_, fun a b _ _ h => by rw [Nat.zero_testBit] at h; cases h⟩
  rw [cnt_none (fun i _ h => by rw [Nat.zero_testBit] at h; cases h)]
  exact Nat.zero_le _
/-- what a part adds -/
noncomputable def adF (τ : ps_S) (pr t S m : Nat) : Nat := jN (okD (ftN τ pr) (mstT τ) m (S ^^^ m)) * wC (ftN τ pr) (mstT τ) (S ^^^ m) t
theorem wC_loop {τ : ps_S} {pr t S : Nat} (hS : S < 64) : wC (ftN τ pr) (mstT τ) S (t + 1) = wC (ftN τ pr) (mstT τ) S t + ((lpL S 64 S).map (adF τ pr t S)).sum := by
  rw [wC_step hS, SS_loop hS]
  congr 1
  show jN (okD (ftN τ pr) (mstT τ) 0 (S ^^^ 0)) * wC (ftN τ pr) (mstT τ) (S ^^^ 0) t = _
  rw [Nat.xor_zero, jN_t ⟨ft_0 τ pr, fun a f _ h => by rw [Nat.zero_testBit] at h; cases h⟩, Nat.one_mul]
theorem pX4_addDay {pr t : Nat} (hw : wgO τ pr σ 64) (h27 : ∀ s, sb s (uN τ) → σ 27 0 s = nI (wC (ftN τ pr) (mstT τ) s t)) (hq : ∀ σ', (∀ g, g ≠ 27 → σ' g = σ g) → (∀ s, sb s (uN τ) → σ' 27 0 s = nI (wC (ftN τ pr) (mstT τ) s (t + 1))) → Q none σ') : ps_C mX4_addDay d [.inr (.inr (24, 0)), .inl (nI (uN τ))] σ Q := by
  have hu := uN_lt τ
  have sets : ∀ v, sb v (uN τ) → ∀ ρ, (∀ g, g ≠ 27 → ρ g = σ g) → (∀ s, sb s (uN τ) → ρ 27 0 s = nI (wC (ftN τ pr) (mstT τ) s (if v < s then t + 1 else t))) → kX4_addDay_2 d Q (nI (uN τ)) (nI v) ρ := by
    intro v
    induction v using Nat.strongRecOn with
    | ind v ihv =>
      intro hv ρ f1 f2
      have hvl := lt64_of hv hu
      rcases Nat.eq_zero_or_pos v with z | z
      · refine bX4_addDay_2 (fun _ => hq ρ f1 (fun s hs => ?_)) ?_ ?_
        · rw [f2 s hs]
          rcases Nat.eq_zero_or_pos s with w | w
          · have e : wC (ftN τ pr) (mstT τ) s (t + 1) = wC (ftN τ pr) (mstT τ) s t := by
              rw [w, wC_loop (by decide)]
              rfl
            rw [if_neg (by omega), e]
          · rw [if_pos (by omega)]
        all_goals rw [z]
        all_goals exact lpX (N := 0) (by decide)
      · have hvc : (nI v).toNatClampNeg = v := nI_clamp (by omega)
        have vv : vp_in (nI v) 64 := vp_in_nI hvl (by decide)
        refine bX4_addDay_2 (fun c => absurd c (nI_ge (a := 0) (b := v) z (by omega))) (fun _ => vv) (fun _ => ?_)
        rw [hvc, f2 v hv, if_neg (Nat.lt_irrefl v)]
        have hnb : sb ((v - 1) &&& uN τ) (uN τ) := sb_and _ _
        have hlt : (v - 1) &&& uN τ < v := Nat.lt_of_le_of_lt Nat.and_le_left (by omega)
        -- the parts
        have parts : ∀ k q acc, q < k → sb q v → acc + ((lpL v k q).map (adF τ pr t v)).sum = wC (ftN τ pr) (mstT τ) v (t + 1) → kX4_addDay_16 d Q (nI (uN τ)) (nI v) (nI acc) (nI q) ρ := by
          intro k
          induction k with
          | zero => intro q acc h; omega
          | succ k ih =>
            intro q acc hqk hqv hsum
            have hql := lt64_of hqv hvl
            rcases Nat.eq_zero_or_pos q with y | y
            · have e : lpL v (k + 1) q = [] := by show (if q = 0 then [] else _) = _; rw [if_pos y]
              rw [e] at hsum
              have hsum : acc = wC (ftN τ pr) (mstT τ) v (t + 1) := hsum
              refine bX4_addDay_16 (fun _ => vv) (fun _ => ?_) ?_ ?_ ?_ ?_ ?_
              · rw [nxt_nI z, hvc]
                refine ihv _ hlt hnb _ (fun g x => by rw [ps_up_o x]; exact f1 g x) (fun s hs => ?_)
                by_cases e2 : s = v
                · subst e2
                  rw [ps_up_s, if_pos hlt, hsum]
                · rw [ps_up_v (by omega), f2 s hs]
                  rcases Nat.lt_or_ge v s with w | w
                  · rw [if_pos w, if_pos (by omega)]
                  · have := sb_next 6 v _ s hvl hv hs (by omega)
                    rw [if_neg (by omega), if_neg (by omega)]
              all_goals rw [y]
              all_goals exact lpX (N := 0) (by decide)
            · have e : lpL v (k + 1) q = q :: lpL v k ((q - 1) &&& v) := by show (if q = 0 then [] else _) = _; rw [if_neg (by omega)]
              rw [e, List.map_cons, List.sum_cons] at hsum
              have hqc : (nI q).toNatClampNeg = q := nI_clamp (by omega)
              have hxl := lt64_of (sb_xor hqv) hvl
              have hwq := hw q hql
              have e25 : ρ 25 0 q = jbP (ftN τ pr q) := by rw [f1 25 (by decide)]; exact hwq.1
              have e26 : bm (ρ 26 0 q) 6 (fun f => ∃ a, a < 6 ∧ q.testBit a = true ∧ mstT τ f a) := by rw [f1 26 (by decide)]; exact hwq.2
              have hzz : (ρ 26 0 q) &&& ((nI v ^^^ nI q) ^^^ (-1)) = 0 ↔ ∀ f, f < 6 → ¬ ((∃ a, a < 6 ∧ q.testBit a = true ∧ mstT τ f a) ∧ ¬ (v ^^^ q).testBit f = true) := by
                rw [nx_xor]
                exact bm_zero (bm_diff e26 (bm6N hxl)) (by decide)
              have hlq : (q - 1) &&& v < k := Nat.lt_of_le_of_lt Nat.and_le_left (by omega)
              have skip : ¬ okD (ftN τ pr) (mstT τ) q (v ^^^ q) → kX4_addDay_16 d Q (nI (uN τ)) (nI v) (nI acc) ((nI q - 1) &&& nI v) ρ := by
                intro w
                rw [nxt_nI y]
                refine ih _ acc hlq (sb_and _ _) ?_
                have : adF τ pr t v q = 0 := by unfold adF; rw [jN_f w, Nat.zero_mul]
                rw [this, Nat.zero_add] at hsum
                exact hsum
              refine bX4_addDay_16 (fun c => absurd c (nI_ge (a := 0) (b := q) y (by omega))) (fun c => absurd c (nI_ge (a := 0) (b := q) y (by omega))) (fun _ => vp_in_nI hql (by decide)) (fun _ c => skip (fun w => ?_)) (fun _ _ c => skip (fun w => ?_)) (fun _ _ _ => by rw [nx_xor]; exact vp_in_nI hxl (by decide)) (fun _ c c2 => ?_)
              · rw [hqc, e25, jbP_0] at c
                exact c w.1
              · rw [hqc, hzz] at c
                exact c (fun f hf y => by
                  obtain ⟨⟨a, a1, a2, a3⟩, y2⟩ := y
                  exact y2 (w.2 a f a1 a2 hf a3))
              · rw [hqc, e25, jbP_0, Classical.not_not] at c
                rw [hqc, hzz] at c2
                have hok : okD (ftN τ pr) (mstT τ) q (v ^^^ q) := ⟨c, fun a f a1 a2 hf a3 => Classical.not_not.mp (fun w => c2 f hf ⟨⟨a, a1, a2, a3⟩, w⟩)⟩
                have hlx : v ^^^ q ≤ v := sb_le (sb_xor hqv)
                have e27 : ρ 27 0 (v ^^^ q) = nI (wC (ftN τ pr) (mstT τ) (v ^^^ q) t) := by
                  rw [f2 _ (sb_trans (sb_xor hqv) hv), if_neg (by omega)]
                rw [nx_xor, nI_clamp (n := v ^^^ q) (by omega), e27, nI_add, nxt_nI y]
                refine ih _ _ hlq (sb_and _ _) ?_
                have : adF τ pr t v q = wC (ftN τ pr) (mstT τ) (v ^^^ q) t := by unfold adF; rw [jN_t hok, Nat.one_mul]
                rw [this] at hsum
                omega
        exact parts 64 v _ hvl (sb_refl v) (wC_loop hvl).symm
  refine eX4_addDay (bX4_addDay_0 (sets _ (sb_refl _) σ (fun _ _ => rfl) (fun s hs => ?_)))
  have := sb_le hs
  rw [if_neg (by omega)]
  exact h27 s hs
theorem pX4_planCount {pr D : Nat} (hpr : pr < 64) (hD : D ≤ 6) (hT : iT σ τ) (h5 : σ 24 0 5 = nI (pz τ)) (hz : pz τ ≤ 6) (hq : ∀ σ', (∀ g, g ≠ 25 → g ≠ 26 → g ≠ 27 → σ' g = σ g) → Q (some (.inl (nI (plN τ D pr)))) σ') : ps_C mX4_planCount (d + 3) [.inr (.inr (24, 0)), .inr (.inr (19, 0)), .inl (nI D), .inl (nI pr)] σ Q := by
  have hu := uN_lt τ
  refine eX4_planCount (bX4_planCount_0 (pX4_weighSets hpr hT h5 hz (fun σ1 f1 f2 => ⟨rfl, bX4_planCount_6 (pJ7_fill (n := 64) (by rfl) (by decide) (by decide) ⟨rfl, bX4_planCount_14 (vp_in_nI (n := 0) (by decide) (by decide)) ?_⟩)⟩)))
  have days : ∀ r t, t + r = D → ∀ ρ, (∀ g, g ≠ 25 → g ≠ 26 → g ≠ 27 → ρ g = σ g) → wgO τ pr ρ 64 → (∀ s, sb s (uN τ) → ρ 27 0 s = nI (wC (ftN τ pr) (mstT τ) s t)) → kX4_planCount_24 (d + 2) Q (nI D) (nI t) ρ := by
    intro r
    have e19 : ∀ ρ : ps_S, (∀ g, g ≠ 25 → g ≠ 26 → g ≠ 27 → ρ g = σ g) → ρ 19 0 3 = nI (uN τ) := fun ρ g => by
      rw [g 19 (by decide) (by decide) (by decide)]
      exact bm_mkN hT.2.2 (by decide)
    induction r with
    | zero =>
      intro t ht ρ g1 g2 g3
      obtain rfl : t = D := by omega
      refine bX4_planCount_24 (fun _ => by rw [e19 ρ g1]; exact vp_in_nI hu (by decide)) (fun _ => ?_) (lpX (by omega))
      rw [e19 ρ g1, nI_clamp (by omega), g3 _ (sb_refl _)]
      exact hq ρ g1
    | succ r ih =>
      intro t ht ρ g1 g2 g3
      refine bX4_planCount_24 (lpN (show t < D by omega) (by omega)) (lpN (show t < D by omega) (by omega)) (fun _ => ?_)
      rw [e19 ρ g1]
      refine pX4_addDay g2 g3 (fun ρ' k1 k2 => ⟨rfl, bX4_planCount_38 ?_⟩)
      rw [nI_1]
      refine ih (t + 1) (by omega) ρ' (fun g x y w => by rw [k1 g w]; exact g1 g x y w) (fun s hs => ?_) k2
      rw [k1 25 (by decide), k1 26 (by decide)]
      exact g2 s hs
  refine days D 0 (by omega) _ (fun g x y w => by rw [ps_up_o w, ps_fil_o w]; exact f1 g x y) (fun s hs => ?_) (fun s hs => ?_)
  · rw [ps_up_o (by decide), ps_fil_o (by decide), ps_up_o (by decide), ps_fil_o (by decide)]
    exact f2 s hs
  · have hsl := lt64_of hs hu
    rcases Nat.eq_zero_or_pos s with w | w
    · rw [w, wC_00]
      exact ps_up_s
    · have e : (ps_up (ps_fil σ1 27 0 64 0) 27 0 (0 : Int32).toNatClampNeg 1) 27 0 s = (ps_fil σ1 27 0 64 0) 27 0 s := ps_up_v (fun q => by
        have q2 : s = 0 := q.2
        omega)
      rw [e, ps_fil_s hsl, wC_0 hsl (by omega)]
      rfl
/-- before forme k: who lies where -/
def pL (τ : ps_S) (D : Nat) (σ : ps_S) (A : Nat → Nat) (k : Nat) : Prop := (∀ e, e < D → bm (σ 29 0 e) 6 (fun i => i < k ∧ (uN τ).testBit i = true ∧ A i = e)) ∧ (∀ i, i < k → (uN τ).testBit i = true → σ 28 0 i = nI (A i) ∧ A i < D) ∧ ∀ i, i < 6 → ¬ (uN τ).testBit i = true → σ 28 0 i = -900009
theorem pX4_keepsTurn {D k e : Nat} {A : Nat → Nat} (hT : iT σ τ) (hk : k < 6) (hD : D ≤ 6) (he : e < D) (hp : pL τ D σ A k) (hq : Q (some (.inl (jbP (∀ b, b < k → (uN τ).testBit b = true → (mstT τ b k → A b < e) ∧ (mstT τ k b → e < A b))))) σ) : ps_C mX4_keepsTurn d [.inr (.inr (24, 0)), .inr (.inr (19, 0)), .inl (nI k), .inl (nI e)] σ Q := by
  have hkc : (nI k).toNatClampNeg = k := nI_clamp (by omega)
  have key : ∀ r f, f + r = k → (∀ b, b < f → (uN τ).testBit b = true → (mstT τ b k → A b < e) ∧ (mstT τ k b → e < A b)) → kX4_keepsTurn_3 d Q (nI k) (nI e) (nI f) σ := by
    intro r
    induction r with
    | zero =>
      intro f hf f1
      obtain rfl : f = k := by omega
      rw [jbP_t f1] at hq
      exact bX4_keepsTurn_3 (fun _ => hq) (lpX (by omega)) (lpX (by omega)) (lpX (by omega))
    | succ r ih =>
      intro f hf f1
      have hf0 : f < k := by omega
      have hfc : (nI f).toNatClampNeg = f := nI_clamp (by omega)
      have b1 := bm_bit (hT.2.1 f (by omega)).2 hk (by decide)
      have b2 := bm_bit (hT.2.1 k hk).2 (show f < 6 by omega) (by decide)
      have toldF : (mstT τ f k ∨ mstT τ k f) → (uN τ).testBit f = true := fun q => uN_tb.mpr ⟨by omega, q.elim (fun z => (mst_told z).1) (fun z => (mst_told z).2)⟩
      have no : ∀ {p : Prop}, p → (p → ¬ ((uN τ).testBit f = true → (mstT τ f k → A f < e) ∧ (mstT τ k f → e < A f))) → Q (some (.inl 0)) σ := fun hp' h => by
        rw [jbP_f (fun w => h hp' (w f hf0))] at hq
        exact hq
      have go : ((uN τ).testBit f = true → (mstT τ f k → A f < e) ∧ (mstT τ k f → e < A f)) → kX4_keepsTurn_3 d Q (nI k) (nI e) (nI f + 1) σ := fun w => by
        rw [nI_1]
        refine ih (f + 1) (by omega) (fun b hb hU => ?_)
        rcases Nat.lt_or_eq_of_le (Nat.le_of_lt_succ hb) with z | z
        · exact f1 b z hU
        · rw [z] at hU ⊢; exact w hU
      -- behind the first question
      have two : (mstT τ f k → A f < e) → ∀ s0 : Int32, (s0 = 0 ↔ ¬ mstT τ k f) → kX4_keepsTurn_67 d Q (nI k) (nI e) (nI f) s0 σ := by
        intro h1 s0 hs0
        refine bX4_keepsTurn_67 (fun c => go (fun _ => ⟨h1, fun q => absurd q (hs0.mp c)⟩)) (fun _ => vp_in_nI (by omega) (by decide)) (fun c c2 => ?_) (fun c c2 => ?_)
        · have hm : mstT τ k f := Classical.not_not.mp (fun q => c (hs0.mpr q))
          obtain ⟨p1, p2⟩ := hp.2.1 f hf0 (toldF (Or.inr hm))
          rw [hfc, p1, nI_ltI (by omega) (by omega)] at c2
          exact go (fun _ => ⟨h1, fun _ => c2⟩)
        · have hm : mstT τ k f := Classical.not_not.mp (fun q => c (hs0.mpr q))
          obtain ⟨p1, p2⟩ := hp.2.1 f hf0 (toldF (Or.inr hm))
          rw [hfc, p1, nI_ltI (by omega) (by omega)] at c2
          exact no hm (fun _ w => c2 ((w (toldF (Or.inr hm))).2 hm))
      have mid : ∀ v5 : Int32, (v5 = 0 ↔ ¬ mstT τ f k) → ∀ s0 : Int32, (s0 = 0 ↔ ¬ mstT τ k f) → kX4_keepsTurn_49 d Q (nI k) (nI e) (nI f) v5 s0 σ := by
        intro v5 h5 s0 hs0
        refine bX4_keepsTurn_49 (fun c => two (fun q => absurd q (h5.mp c)) s0 hs0) (fun _ => vp_in_nI (by omega) (by decide)) (fun c c2 => ?_) (fun c c2 => ?_)
        · have hm : mstT τ f k := Classical.not_not.mp (fun q => c (h5.mpr q))
          obtain ⟨p1, p2⟩ := hp.2.1 f hf0 (toldF (Or.inl hm))
          rw [hfc, p1, nI_leI (by omega) (by omega)] at c2
          exact no hm (fun _ w => by have := (w (toldF (Or.inl hm))).1 hm; omega)
        · have hm : mstT τ f k := Classical.not_not.mp (fun q => c (h5.mpr q))
          obtain ⟨p1, p2⟩ := hp.2.1 f hf0 (toldF (Or.inl hm))
          rw [hfc, p1, nI_leI (by omega) (by omega)] at c2
          exact two (fun _ => by omega) s0 hs0
      have mid28 : ∀ v5 : Int32, (v5 = 0 ↔ ¬ mstT τ f k) → kX4_keepsTurn_28 d Q (nI k) (nI e) (nI f) v5 σ := by
        intro v5 h5
        refine bX4_keepsTurn_28 (vp_in_nI hk (by decide)) (fun c => ?_) (fun c => ?_)
        · rw [hkc, b2, jbP_0] at c
          exact mid v5 h5 0 ⟨fun _ => c, fun _ => rfl⟩
        · rw [hkc, b2, jbP_0, Classical.not_not] at c
          exact mid v5 h5 1 ⟨fun q => absurd q (by decide), fun q => absurd c q⟩
      refine bX4_keepsTurn_3 (lpN hf0 (by omega)) (fun _ => vp_in_nI (by omega) (by decide)) (fun _ c => ?_) (fun _ c => ?_)
      · rw [hfc, b1, jbP_0] at c
        exact mid28 0 ⟨fun _ => c, fun _ => rfl⟩
      · rw [hfc, b1, jbP_0, Classical.not_not] at c
        exact mid28 1 ⟨fun q => absurd q (by decide), fun q => absurd c q⟩
  exact eX4_keepsTurn (bX4_keepsTurn_0 (key k 0 (by omega) (fun b h => absurd h (by omega))))
theorem room_x {D k e : Nat} {A : Nat → Nat} (hT : iT σ τ) (h5 : σ 24 0 5 = nI (pz τ)) (hz : pz τ ≤ 6) (hk : k < 6) (hD : D ≤ 6) (he : e < D) (hp : pL τ D σ A k) : jX4_hasRoom σ (nI k) (nI e) = jbP (cntN k (fun b => (uN τ).testBit b = true ∧ A b = e) < pz τ ∧ ∀ b, b < k → (uN τ).testBit b = true → A b = e → ¬ mSh τ k b) := by
  have hkc : (nI k).toNatClampNeg = k := nI_clamp (by omega)
  have hec : (nI e).toNatClampNeg = e := nI_clamp (by omega)
  have hc6 := cnt_le (fun b => (uN τ).testBit b = true ∧ A b = e) k
  have ep : jbPop (σ 29 0 e) = nI (cntN k (fun b => (uN τ).testBit b = true ∧ A b = e)) := by
    rw [pop_bm6 (hp.1 e he)]
    refine congrArg nI ?_
    obtain ⟨j, hj⟩ : ∃ j, 6 = k + j := ⟨6 - k, by omega⟩
    rw [hj, cnt_add, cnt_none (P := fun j => k + j < k ∧ _) (fun i _ q => absurd q.1 (by omega)), Nat.add_zero]
    exact cnt_congr (fun i hi => ⟨fun q => q.2, fun q => ⟨hi, q⟩⟩)
  have hzz : (σ 29 0 e) &&& (σ 22 0 k) = 0 ↔ ∀ b, b < 6 → ¬ ((b < k ∧ (uN τ).testBit b = true ∧ A b = e) ∧ mSh τ k b) := bm_zero (bm_and (hp.1 e he) (hT.2.1 k hk).1) (by decide)
  unfold jX4_hasRoom
  rw [hkc, hec, ep, h5]
  by_cases c : pz τ ≤ cntN k (fun b => (uN τ).testBit b = true ∧ A b = e)
  · rw [if_pos (nI_le c (by omega)), jbP_f (fun q => by omega)]
  · rw [if_neg (nI_ge (by omega) (by omega))]
    by_cases c2 : ∀ b, b < 6 → ¬ ((b < k ∧ (uN τ).testBit b = true ∧ A b = e) ∧ mSh τ k b)
    · rw [if_neg (fun q => q (hzz.mpr c2)), jbP_t ⟨by omega, fun b h1 h2 h3 h4 => c2 b (by omega) ⟨⟨h1, h2, h3⟩, h4⟩⟩]
    · rw [if_pos (fun q => c2 (hzz.mp q)), jbP_f (fun q => c2 (fun b _ w => q.2 b w.1.1 w.1.2.1 w.1.2.2 w.2))]
/-- cells that lay writes -/
theorem pX4_lay {D : Nat} (hD : D ≤ 6) (hz : pz τ ≤ 6) : ∀ (r d : Nat) (σ : ps_S) (A : Nat → Nat) (Q : Option ps_V → ps_S → Prop), r ≤ 6 → iT σ τ → σ 24 0 5 = nI (pz τ) → pL τ D σ A (6 - r) → (∀ A' σ', fq (uN τ) D (okN τ) r A = some A' → (∀ g, g ≠ 28 → g ≠ 29 → σ' g = σ g) → pL τ D σ' A' 6 → Q (some (.inl 1)) σ') → (fq (uN τ) D (okN τ) r A = none → ∀ σ', (∀ g, g ≠ 28 → g ≠ 29 → σ' g = σ g) → pL τ D σ' A (6 - r) → Q (some (.inl 0)) σ') → ps_C mX4_lay (d + (r + 2)) [.inr (.inr (24, 0)), .inr (.inr (19, 0)), .inl (nI (6 - r)), .inl (nI D)] σ Q
  | 0, d, σ, A, Q, _, hT, h5, hp, hs, _ => eX4_lay (bX4_lay_0 (fun c => absurd c (nI_nlt (a := 6) (b := 6) (Nat.le_refl _) (by decide))) (fun c => absurd c (nI_nlt (a := 6) (b := 6) (Nat.le_refl _) (by decide))) (fun _ => hs A σ rfl (fun _ _ _ => rfl) hp))
  | r + 1, d, σ, A, Q, hr, hT, h5, hp, hs, hn => by
    have hc : 6 - (r + 1) = 5 - r := by omega
    rw [hc] at hp hn ⊢
    have hc6 : 5 - r < 6 := by omega
    have hk1 : 6 - r = (5 - r) + 1 := by omega
    have hnx : nI (5 - r) + 1 = nI (6 - r) := by rw [nI_1, hk1]
    have hkc : (nI (5 - r)).toNatClampNeg = 5 - r := nI_clamp (by omega)
    have hb19 := bm_bit hT.2.2 hc6 (by decide)
    have htold : ¬ jX6_isTold σ (nI (5 - r)) = 0 ↔ (uN τ).testBit (5 - r) = true := by
      unfold jX6_isTold
      rw [hb19, uN_tb]
      by_cases q : mSh τ (5 - r) (5 - r)
      · rw [jbP_t q, if_neg (by decide)]
        exact ⟨fun _ => ⟨hc6, q⟩, fun _ => by decide⟩
      · rw [jbP_f q, if_pos rfl]
        exact ⟨fun w => absurd rfl w, fun w => absurd w.2 q⟩
    refine eX4_lay (d := d + (r + 1)) (bX4_lay_0 (fun _ c => ?_) (fun _ c => ?_) (fun c => absurd (nI_lt (a := 5 - r) (b := 6) hc6 (by decide)) c))
    · rw [htold] at c
      rw [fq_t c] at hs hn
      have loop : ∀ t e σ1, e + t = D → (∀ g, g ≠ 28 → g ≠ 29 → σ1 g = σ g) → pL τ D σ1 A (5 - r) → (List.range' 0 D).findSome? (fqg (uN τ) D (okN τ) r A) = (List.range' e t).findSome? (fqg (uN τ) D (okN τ) r A) → kX4_lay_29 (d + (r + 1)) Q (nI (5 - r)) (nI D) (nI e) σ1 := by
        intro t
        induction t with
        | zero =>
          intro e σ1 he f1 f2 f3
          obtain rfl : e = D := by omega
          exact bX4_lay_29 (fun _ => hn f3 σ1 f1 f2) (lpX (by omega)) (lpX (by omega)) (lpX (by omega)) (lpX (by omega))
        | succ t ih =>
          intro e σ1 he f1 f2 f3
          have he0 : e < D := by omega
          have hec : (nI e).toNatClampNeg = e := nI_clamp (by omega)
          have hT1 : iT σ1 τ := iT_k (kP_g (fun g x => f1 g (by omega) (by omega))) hT
          have h51 : σ1 24 0 5 = nI (pz τ) := by rw [f1 24 (by decide) (by decide)]; exact h5
          have hroom := room_x hT1 h51 hz hc6 hD he0 f2
          have skip : ¬ okN τ A (5 - r) e → kX4_lay_29 (d + (r + 1)) Q (nI (5 - r)) (nI D) (nI e + 1) σ1 := by
            intro w
            rw [nI_1]
            refine ih (e + 1) σ1 (by omega) f1 f2 ?_
            rw [f3, List.range'_succ, fs_none (fqg_f w)]
          refine bX4_lay_29 (lpN he0 (by omega)) (fun _ => vp_in_nI (by omega) (by decide)) (fun _ _ => vp_in_nI hc6 (by decide)) (fun _ q => skip (fun w => ?_)) (fun _ q => pX4_keepsTurn hT1 hc6 hD he0 f2 ⟨_, rfl, bX4_lay_54 (fun q2 => skip (fun w => ?_)) (fun _ => vp_in_nI (by omega) (by decide)) (fun _ => vp_in_nI hc6 (by decide)) (fun q2 => ?_)⟩)
          · rw [hroom, jbP_0] at q
            exact q ⟨w.1, w.2.1⟩
          · rw [jbP_0] at q2
            exact q2 w.2.2
          · rw [hroom, jbP_0, Classical.not_not] at q
            rw [jbP_0, Classical.not_not] at q2
            have hok : okN τ A (5 - r) e := ⟨q.1, q.2, q2⟩
            rw [hec, hkc, hnx]
            have hbit : bm ((1 : Int32) <<< (nI (5 - r) &&& 31)) 6 (fun i => i = 5 - r) := bm_1 hc6 (by decide)
            have hpre2 : pL τ D (ps_up (ps_up σ1 29 0 e (σ1 29 0 e ||| ((1 : Int32) <<< (nI (5 - r) &&& 31)))) 28 0 (5 - r) (nI e)) (upA A (5 - r) e) (6 - r) := by
              refine ⟨fun e' he' => ?_, fun i h1 h2 => ?_, fun i h1 h2 => ?_⟩
              · rw [ps_up_o (by decide)]
                by_cases w : e' = e
                · subst w
                  rw [ps_up_s]
                  refine bm_congr (bm_or (f2.1 e' he') hbit) (fun i hi => ?_)
                  unfold upA
                  by_cases z : i = 5 - r
                  · subst z
                    rw [if_pos rfl]
                    exact ⟨fun _ => ⟨by omega, c, rfl⟩, fun _ => Or.inr rfl⟩
                  · rw [if_neg z]
                    exact ⟨fun y => y.elim (fun x => ⟨by omega, x.2⟩) (fun x => absurd x z), fun y => Or.inl ⟨by omega, y.2⟩⟩
                · rw [ps_up_v (by omega)]
                  refine bm_congr (f2.1 e' he') (fun i hi => ?_)
                  unfold upA
                  by_cases z : i = 5 - r
                  · subst z
                    rw [if_pos rfl]
                    exact ⟨fun y => absurd y.1 (by omega), fun y => absurd y.2.2 (fun x => w x.symm)⟩
                  · rw [if_neg z]
                    exact ⟨fun y => ⟨by omega, y.2⟩, fun y => ⟨by omega, y.2⟩⟩
              · unfold upA
                by_cases z : i = 5 - r
                · subst z
                  rw [ps_up_s, if_pos rfl]
                  exact ⟨rfl, he0⟩
                · rw [ps_up_v (by omega), if_neg z, ps_up_o (by decide)]
                  exact f2.2.1 i (by omega) h2
              · rw [ps_up_v (fun y => by rw [y.2] at h2; exact h2 c), ps_up_o (by decide)]
                exact f2.2.2 i h1 h2
            have fr2 : ∀ g, g ≠ 28 → g ≠ 29 → (ps_up (ps_up σ1 29 0 e (σ1 29 0 e ||| ((1 : Int32) <<< (nI (5 - r) &&& 31)))) 28 0 (5 - r) (nI e)) g = σ g := fun g x y => by rw [ps_up_o x, ps_up_o y]; exact f1 g x y
            refine pX4_lay hD hz r d _ (upA A (5 - r) e) _ (by omega) (iT_k (kP_g (fun g x => fr2 g (by omega) (by omega))) hT) (by rw [fr2 24 (by decide) (by decide)]; exact h5) hpre2 (fun A' σ' e1 e2 e3 => ⟨_, rfl, bX4_lay_87 (fun y => absurd y (by decide)) (fun y => absurd y (by decide)) (fun _ => ?_)⟩) (fun e1 σ' e2 e3 => ⟨_, rfl, bX4_lay_87 (fun _ => vp_in_nI (by omega) (by decide)) (fun _ => ?_) (fun y => absurd rfl y)⟩)
            · refine hs A' σ' ?_ (fun g x y => by rw [e2 g x y]; exact fr2 g x y) e3
              rw [f3, List.range'_succ, fs_some ((fqg_t hok).trans e1)]
            · rw [hec, nI_1]
              refine ih (e + 1) _ (by omega) (fun g x y => by rw [ps_up_o y, e2 g x y]; exact fr2 g x y) ?_ ?_
              · refine ⟨fun e' he' => ?_, fun i h1 h2 => ?_, fun i h1 h2 => ?_⟩
                · by_cases w : e' = e
                  · subst w
                    rw [ps_up_s]
                    refine bm_congr (bm_diff (e3.1 e' he') hbit) (fun i hi => ?_)
                    unfold upA
                    by_cases z : i = 5 - r
                    · subst z
                      exact ⟨fun y => absurd rfl y.2, fun y => absurd y.1 (by omega)⟩
                    · rw [if_neg z]
                      exact ⟨fun y => ⟨by omega, y.1.2⟩, fun y => ⟨⟨by omega, y.2⟩, z⟩⟩
                  · rw [ps_up_v (by omega)]
                    refine bm_congr (e3.1 e' he') (fun i hi => ?_)
                    unfold upA
                    by_cases z : i = 5 - r
                    · subst z
                      rw [if_pos rfl]
                      exact ⟨fun y => absurd y.2.2 (fun x => w x.symm), fun y => absurd y.1 (by omega)⟩
                    · rw [if_neg z]
                      exact ⟨fun y => ⟨by omega, y.2⟩, fun y => ⟨by omega, y.2⟩⟩
                · rw [ps_up_o (by decide)]
                  have := e3.2.1 i (by omega) h2
                  unfold upA at this
                  rw [if_neg (by omega)] at this
                  exact this
                · rw [ps_up_o (by decide)]
                  exact e3.2.2 i h1 h2
              · rw [f3, List.range'_succ, fs_none ((fqg_t hok).trans e1)]
      exact loop D 0 σ (by omega) (fun _ _ _ => rfl) hp rfl
    · have cn : ¬ (uN τ).testBit (5 - r) = true := fun w => htold.mpr w c
      rw [fq_f cn] at hs hn
      rw [hnx]
      have up : ∀ (ρ : ps_S) (B : Nat → Nat), pL τ D ρ B (6 - r) ↔ pL τ D ρ B (5 - r) := by
        intro ρ B
        have lt : ∀ i, i < 6 - r → (uN τ).testBit i = true → i < 5 - r := fun i h1 h2 => by
          rcases Nat.lt_or_eq_of_le (show i ≤ 5 - r by omega) with z | z
          · exact z
          · exact absurd (z ▸ h2) cn
        constructor
        · rintro ⟨a1, a2, a3⟩
          exact ⟨fun e' he' => bm_congr (a1 e' he') (fun i hi => ⟨fun y => ⟨lt i y.1 y.2.1, y.2⟩, fun y => ⟨by omega, y.2⟩⟩), fun i h1 h2 => a2 i (by omega) h2, a3⟩
        · rintro ⟨a1, a2, a3⟩
          exact ⟨fun e' he' => bm_congr (a1 e' he') (fun i hi => ⟨fun y => ⟨by omega, y.2⟩, fun y => ⟨lt i y.1 y.2.1, y.2⟩⟩), fun i h1 h2 => a2 i (lt i h1 h2) h2, a3⟩
      exact pX4_lay hD hz r d σ A _ (by omega) hT h5 ((up σ A).mpr hp) (fun A' σ' e1 e2 e3 => ⟨_, rfl, bX4_lay_25 (Or.inr rfl) (hs A' σ' e1 e2 e3)⟩) (fun e1 σ' e2 e3 => ⟨_, rfl, bX4_lay_25 (Or.inl rfl) (hn e1 σ' e2 ((up σ' A).mp e3))⟩)
end PX

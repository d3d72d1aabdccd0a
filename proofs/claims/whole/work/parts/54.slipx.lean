/-! ===== slips: the class ===== -/
theorem nx_and (a b : Nat) : nI a &&& nI b = nI (a &&& b) := by
  apply Int32.toBitVec_inj.1
  show BitVec.ofNat 32 a &&& BitVec.ofNat 32 b = BitVec.ofNat 32 (a &&& b)
  apply BitVec.eq_of_getLsbD_eq
  intro i hi
  simp [hi]
theorem nx_xor (a b : Nat) : nI a ^^^ nI b = nI (a ^^^ b) := by
  apply Int32.toBitVec_inj.1
  show BitVec.ofNat 32 a ^^^ BitVec.ofNat 32 b = BitVec.ofNat 32 (a ^^^ b)
  apply BitVec.eq_of_getLsbD_eq
  intro i hi
  simp [hi]
theorem lowI : ∀ s, s < 512 → nI s &&& (-nI s) = nI (s ^^^ (s &&& (s - 1))) := by decide +kernel
theorem lowN : ∀ s, s < 512 → s ≠ 0 → ∃ b, b < 9 ∧ s.testBit b = true ∧ s ^^^ (s &&& (s - 1)) = 2 ^ b := by decide +kernel
theorem nxt_nI {v s : Nat} (h : 0 < v) : (nI v - 1) &&& nI s = nI ((v - 1) &&& s) := by
  obtain ⟨w, rfl⟩ : ∃ w, v = w + 1 := ⟨v - 1, by omega⟩
  rw [nI_pred, nx_and]
  rfl
/-- the letters' readers at a place -/
noncomputable def rdN (τ : ps_S) (f p L : Nat) : Nat := mkN 9 (fun c => τ 51 0 (54 * f + 6 * c + p) = nI L)
theorem rdN_lt (τ : ps_S) (f p L : Nat) : rdN τ f p L < 512 := mkN_lt _ 9
def neN (τ : ps_S) (f p L : Nat) : Prop := rdN τ f p L ≠ 0
theorem pop_rd {τ : ps_S} {f p L s : Nat} (hs : s < 512) : jbPop (nI s &&& nI (rdN τ f p L)) = nI (nL τ f p s L) := by
  unfold rdN
  rw [pop_bm (bm_and (bmN hs) (bm_mk (n := 9) (P := fun c => τ 51 0 (54 * f + 6 * c + p) = nI L) (by decide)))]
  rfl
theorem nL_ne {τ : ps_S} {f p L s : Nat} (h : ¬ neN τ f p L) : nL τ f p s L = 0 := by
  refine cnt_none (fun c hc q => h (fun z => ?_))
  have : (rdN τ f p L).testBit c = true := (mkN_bit (n := 9) (by decide) _ 9 c).mpr ⟨hc, q.2⟩
  rw [z, Nat.zero_testBit] at this
  cases this
/-- what takeReaders lays -/
def rdO (τ : ps_S) (f p : Nat) (σ : ps_S) (N : Nat) : Prop := σ 11 0 3 = nI (cntN N (neN τ f p)) ∧ ∀ L, L < N → neN τ f p L → σ 14 0 (cntN L (neN τ f p)) = nI (rdN τ f p L)
section SX
variable {σ τ : ps_S} {f d : Nat} {Q : Option ps_V → ps_S → Prop}
theorem pX5_takeReaders {p : Nat} (hp : p < 6) (hl : iL σ τ f) (hq : ∀ σ', (∀ g, g ≠ 11 → g ≠ 14 → σ' g = σ g) → rdO τ f p σ' 10 → Q none σ') : ps_C mX5_takeReaders (d + 1) [.inr (.inr (11, 0)), .inr (.inr (3, f)), .inl (nI p)] σ Q := by
  have hpc : (nI p).toNatClampNeg = p := nI_clamp (by omega)
  have key : ∀ r L, L + r = 10 → ∀ ρ, (∀ g, g ≠ 11 → g ≠ 14 → ρ g = σ g) → rdO τ f p ρ L → kX5_takeReaders_7 d Q f (nI p) (nI L) ρ := by
    intro r
    induction r with
    | zero =>
      intro L hL ρ f1 f2
      obtain rfl : L = 10 := by omega
      exact bX5_takeReaders_7 (fun _ => hq ρ f1 f2) (lpX (N := 10) (by decide)) (lpX (N := 10) (by decide)) (lpX (N := 10) (by decide)) (lpX (N := 10) (by decide))
    | succ r ih =>
      intro L hL ρ f1 f2
      have hL0 : L < 10 := by omega
      have hlt := rdN_lt τ f p L
      have hcl := cnt_le (neN τ f p) L
      have e : mkN 9 (fun c => ρ 5 (9 * f + c) p = nI L) = rdN τ f p L := tb_ext (fun i => by
        unfold rdN
        rw [mkN_bit (n := 9) (by decide) _ 9 i, mkN_bit (n := 9) (by decide) _ 9 i]
        constructor
        · rintro ⟨a, b⟩; exact ⟨a, by rw [← hl i p a hp, ← f1 5 (by decide) (by decide)]; exact b⟩
        · rintro ⟨a, b⟩; exact ⟨a, by rw [f1 5 (by decide) (by decide), hl i p a hp]; exact b⟩)
      refine bX5_takeReaders_7 (lpN (N := 10) hL0 (by decide)) (fun _ => vp_in_nI hp (by decide)) (fun _ c => ?_) (fun _ c => ?_) (fun _ c => ?_)
      · rw [hpc, e, show (0 : Int32) = nI 0 from rfl, nI_eq (by omega) (by decide)] at c
        rw [nI_1]
        refine ih (L + 1) (by omega) ρ f1 ⟨?_, fun L' a b => ?_⟩
        · rw [cnt_S, jN_f (fun q => q c), Nat.add_zero]; exact f2.1
        · rcases Nat.lt_or_eq_of_le (Nat.le_of_lt_succ a) with z | z
          · exact f2.2 L' z b
          · rw [z] at b; exact absurd c b
      · rw [f2.1]
        exact vp_in_nI (by omega) (by decide)
      · rw [hpc, e, show (0 : Int32) = nI 0 from rfl, nI_eq (by omega) (by decide)] at c
        rw [hpc, e, f2.1, nI_clamp (n := cntN L (neN τ f p)) (by omega), ps_up_o (by decide), f2.1, nI_1, nI_1]
        refine ih (L + 1) (by omega) _ (fun g x y => by rw [ps_up_o x, ps_up_o y]; exact f1 g x y) ⟨?_, fun L' a b => ?_⟩
        · rw [ps_up_s, cnt_S, jN_t (show neN τ f p L from c)]
        · rw [ps_up_o (by decide)]
          rcases Nat.lt_or_eq_of_le (Nat.le_of_lt_succ a) with z | z
          · have := cnt_lt b z
            rw [ps_up_v (by omega)]
            exact f2.2 L' z b
          · rw [z, ps_up_s]
  exact eX5_takeReaders (bX5_takeReaders_0 (key 10 0 rfl _ (fun g x _ => ps_up_o x) ⟨ps_up_s, fun L h => absurd h (by omega)⟩))
theorem pX5_slipsAtPlace {p s : Nat} (hs : s < 512) (h : rdO τ f p σ 10) (hq : Q (some (.inl (nI (slP τ f s p)))) σ) : ps_C mX5_slipsAtPlace (d + 1) [.inr (.inr (11, 0)), .inl (nI s)] σ Q := by
  have h10 := cnt_le (neN τ f p) 10
  have hb : ∀ L, L ≤ 10 → sumN L (nL τ f p s) ≤ 90 := fun L hL => by
    have := sum_le (n := L) (fun i (_ : i < L) => nL_le τ f p s i)
    have : L * 9 ≤ 90 := by omega
    omega
  have key : ∀ r L, L + r = 10 → kX5_slipsAtPlace_7 d Q (nI s) (nI (sumN L (nL τ f p s))) (nI (mxN L (nL τ f p s))) (nI (cntN L (neN τ f p))) σ := by
    intro r
    induction r with
    | zero =>
      intro L hL
      obtain rfl : L = 10 := by omega
      refine bX5_slipsAtPlace_7 (fun _ => ?_) ?_ ?_
      · rw [nI_sub (mx_le_sum _ 10)]
        exact hq
      all_goals rw [h.1]
      all_goals exact lpX (by omega)
    | succ r ih =>
      intro L hL
      have hL0 : L < 10 := by omega
      have hnx := ih (L + 1) (by omega)
      have eS : sumN (L + 1) (nL τ f p s) = sumN L (nL τ f p s) + nL τ f p s L := rfl
      have eM : mxN (L + 1) (nL τ f p s) = max (mxN L (nL τ f p s)) (nL τ f p s L) := rfl
      by_cases c : neN τ f p L
      · have hlt := cnt_lt (b := 10) c hL0
        have h1 := mx_le_sum (nL τ f p s) L
        have h2 := hb L (by omega)
        have h3 := nL_le τ f p s L
        refine bX5_slipsAtPlace_7 (fun q => ?_) (fun _ => vp_in_nI (by omega) (by decide)) (fun _ => ?_)
        · rw [h.1] at q
          exact lpN hlt (by omega) q
        · rw [nI_clamp (by omega), h.2 L hL0 c, pop_rd hs, nI_add, jbMax_n (by omega) (by omega), nI_1, ← eS, ← eM]
          rw [cnt_S (neN τ f p) L, jN_t c] at hnx
          exact hnx
      · rw [eS, eM, nL_ne c, Nat.add_zero, Nat.max_eq_left (Nat.zero_le _), cnt_S (neN τ f p) L, jN_f c, Nat.add_zero] at hnx
        exact hnx
  exact eX5_slipsAtPlace (bX5_slipsAtPlace_0 (key 10 0 rfl))
theorem pX5_countAlone (hl : iL σ τ f) (hq : ∀ σ', (∀ g, g ≠ 11 → g ≠ 12 → g ≠ 14 → σ' g = σ g) → (∀ s, sb s (lkN τ f) → σ' 12 0 s = nI (on1 τ f s)) → Q none σ') : ps_C mX5_countAlone (d + 2) [.inr (.inr (11, 0)), .inr (.inr (3, f)), .inl (nI (lkN τ f))] σ Q := by
  have ha := lkN_lt τ f
  have z0p : ∀ p, slP τ f 0 p = 0 := fun p => by
    have e : ∀ L, nL τ f p 0 L = 0 := fun L => cnt_none (fun c _ q => by rw [Nat.zero_testBit] at q; cases q.1)
    unfold slP
    rw [sum_0 (fun i _ => e i)]
    omega
  have places : ∀ r p, p + r = 6 → ∀ ρ, (∀ g, g ≠ 11 → g ≠ 12 → g ≠ 14 → ρ g = σ g) → (∀ s, sb s (lkN τ f) → ρ 12 0 s = nI (sumN p (slP τ f s))) → kX5_countAlone_10 (d + 1) Q f (nI (lkN τ f)) (nI p) ρ := by
    intro r
    induction r with
    | zero =>
      intro p hp ρ f1 f2
      obtain rfl : p = 6 := by omega
      exact bX5_countAlone_10 (fun _ => hq ρ f1 f2) (lpX (N := 6) (by decide))
    | succ r ih =>
      intro p hp ρ f1 f2
      have hp0 : p < 6 := by omega
      have hl' : iL ρ τ f := by unfold iL; rw [f1 5 (by decide) (by decide) (by decide)]; exact hl
      refine bX5_countAlone_10 (lpN (N := 6) hp0 (by decide)) (fun _ => pX5_takeReaders hp0 hl' (fun ρ1 g1 g2 => ⟨rfl, bX5_countAlone_22 ?_⟩))
      -- the parts from v down
      have parts : ∀ v, sb v (lkN τ f) → ∀ ρ2, (∀ g, g ≠ 12 → ρ2 g = ρ1 g) → (∀ s, sb s (lkN τ f) → ρ2 12 0 s = nI (sumN (if v < s then p + 1 else p) (slP τ f s))) → kX5_countAlone_25 (d + 1) Q f (nI (lkN τ f)) (nI p) (nI v) ρ2 := by
        intro v
        induction v using Nat.strongRecOn with
        | ind v ihv =>
          intro hv ρ2 k1 k2
          have hvl := lt_of_sb hv ha
          have h1112 : ∀ g, g ≠ 11 → g ≠ 12 → g ≠ 14 → ρ2 g = σ g := fun g x y z => by rw [k1 g y, g1 g x z]; exact f1 g x y z
          rcases Nat.eq_zero_or_pos v with z | z
          · refine bX5_countAlone_25 (fun _ => ?_) ?_ ?_
            · rw [nI_1]
              refine ih (p + 1) (by omega) ρ2 h1112 (fun s hs => ?_)
              rw [k2 s hs]
              rcases Nat.eq_zero_or_pos s with w | w
              · have : ∀ n, sumN n (slP τ f s) = 0 := fun n => by rw [w]; exact sum_0 (fun i _ => z0p i)
                rw [this, this]
              · rw [if_pos (by omega)]
            all_goals rw [z]
            all_goals exact lpX (N := 0) (by decide)
          · have hvc : (nI v).toNatClampNeg = v := nI_clamp (by omega)
            have hrd : rdO τ f p ρ2 10 := by unfold rdO; rw [k1 11 (by decide), k1 14 (by decide)]; exact g2
            refine bX5_countAlone_25 (fun c => absurd c (nI_ge (a := 0) (b := v) z (by omega))) (fun _ => vp_in_nI hvl (by decide)) (fun _ => pX5_slipsAtPlace hvl hrd ⟨_, rfl, bX5_countAlone_44 (vp_in_nI hvl (by decide)) ?_⟩)
            have hnb : sb ((v - 1) &&& lkN τ f) (lkN τ f) := sb_and _ _
            have hlt : (v - 1) &&& lkN τ f < v := Nat.lt_of_le_of_lt Nat.and_le_left (by omega)
            rw [nxt_nI z, hvc, k2 v hv, if_neg (Nat.lt_irrefl v), nI_add]
            refine ihv _ hlt hnb _ (fun g x => by rw [ps_up_o x]; exact k1 g x) (fun s hs => ?_)
            by_cases e : s = v
            · subst e
              rw [ps_up_s, if_pos hlt]
              rfl
            · rw [ps_up_v (by omega), k2 s hs]
              rcases Nat.lt_or_ge v s with w | w
              · rw [if_pos w, if_pos (by omega)]
              · have := sb_next 9 v _ s hvl hv hs (by omega)
                rw [if_neg (by omega), if_neg (by omega)]
      refine parts (lkN τ f) (sb_refl _) ρ1 (fun _ _ => rfl) (fun s hs => ?_)
      have := sb_le hs
      rw [if_neg (by omega), g1 12 (by decide) (by decide)]
      exact f2 s hs
  refine eX5_countAlone (bX5_countAlone_0 (pJ7_fill (n := 512) (by rfl) (by decide) (by decide) ⟨rfl, bX5_countAlone_8 (places 6 0 rfl _ (fun g _ y _ => ps_fil_o y) (fun s hs => ?_))⟩))
  rw [ps_fil_s (lt_of_sb hs ha)]
  rfl
/-- tables of the class: of a set alone; of a set in k + 1 groups, up to s0 -/
def alO (τ : ps_S) (f : Nat) (σ : ps_S) : Prop := ∀ s, sb s (lkN τ f) → σ 12 0 s = nI (on1 τ f s)
theorem pX5_slipsWithOneMore {k s : Nat} (hs : sb s (lkN τ f)) (h0 : 0 < s) (h12 : alO τ f σ) (h13 : ∀ q, sb q s → q < s → σ 13 0 q = nI (oM (on1 τ f) k q)) (hq : Q (some (.inl (nI (oM (on1 τ f) (k + 1) s)))) σ) : ps_C mX5_slipsWithOneMore (d + 1) [.inr (.inr (11, 0)), .inl (nI s)] σ Q := by
  have ha := lkN_lt τ f
  have hsl := lt_of_sb hs ha
  obtain ⟨b, hb, htb, hlow⟩ := lowN s hsl (by omega)
  have h2b : sb (2 ^ b) s := fun i q => by
    rw [Nat.testBit_two_pow, decide_eq_true_eq] at q
    rw [← q]; exact htb
  have e1 : nI s &&& (-nI s) = nI (2 ^ b) := by rw [lowI s hsl, hlow]
  have e2 : nI s ^^^ nI (2 ^ b) = nI (s ^^^ 2 ^ b) := nx_xor _ _
  have hr : sb (s ^^^ 2 ^ b) s := sb_xor h2b
  have hrl := lt_of_sb hr hsl
  have hrlt : s ^^^ 2 ^ b < s := by
    rcases Nat.lt_or_eq_of_le (sb_le hr) with z | z
    · exact z
    · exfalso
      have h1 : (s ^^^ 2 ^ b).testBit b = true := by rw [z]; exact htb
      exact ((xor_tb h2b).mp h1).2 Nat.testBit_two_pow_self
  have rtb : ∀ {i}, (s ^^^ 2 ^ b).testBit i = true ↔ (s.testBit i = true ∧ i ≠ b) := fun {i} => by
    rw [xor_tb h2b, Nat.testBit_two_pow, decide_eq_true_eq]
    exact ⟨fun q => ⟨q.1, fun w => q.2 w.symm⟩, fun q => ⟨q.1, fun w => q.2 w.symm⟩⟩
  have one0 := on1_0 τ f
  -- a part of the rest, with the least copy
  have pt : ∀ q, sb q (s ^^^ 2 ^ b) → sb (q ||| 2 ^ b) s ∧ s ^^^ (q ||| 2 ^ b) = (s ^^^ 2 ^ b) ^^^ q := fun q hq => by
    have h1 : sb (q ||| 2 ^ b) s := fun i w => by
      rw [or_tb] at w
      exact w.elim (fun z => hr i (hq i z)) (fun z => z ▸ htb)
    refine ⟨h1, tb_ext (fun i => ?_)⟩
    rw [xor_tb h1, or_tb, xor_tb hq, rtb]
    exact ⟨fun w => ⟨⟨w.1, fun z => w.2 (Or.inr z)⟩, fun z => w.2 (Or.inl z)⟩, fun w => ⟨w.1.1, fun z => z.elim w.2 w.1.2⟩⟩
  -- what the walk comes to
  have fin : ∀ m, isM (s ^^^ 2 ^ b) (oM (on1 τ f) k (s ^^^ 2 ^ b)) (fun q => on1 τ f (q ||| 2 ^ b) + oM (on1 τ f) k ((s ^^^ 2 ^ b) ^^^ q)) 0 m → m = oM (on1 τ f) (k + 1) s := by
    intro m hm
    have hM := oM_isM (one := on1 τ f) (k := k) hsl
    apply Nat.le_antisymm
    · obtain ⟨t, t1, t2, t3⟩ := oM_low one0 k s b hsl htb
      have h2t : sb (2 ^ b) t := fun i q => by
        rw [Nat.testBit_two_pow, decide_eq_true_eq] at q
        rw [← q]; exact t2
      have hsub : sb (t ^^^ 2 ^ b) (s ^^^ 2 ^ b) := fun i q => by
        rw [xor_tb h2t] at q
        rw [xor_tb h2b]
        exact ⟨t1 i q.1, q.2⟩
      have et : (t ^^^ 2 ^ b) ||| 2 ^ b = t := tb_ext (fun i => by
        rw [or_tb, xor_tb h2t, Nat.testBit_two_pow, decide_eq_true_eq]
        refine ⟨fun q => q.elim (fun z => z.1) (fun z => z ▸ t2), fun q => ?_⟩
        by_cases z : i = b
        · exact Or.inr z
        · exact Or.inl ⟨q, fun w => z w.symm⟩)
      rcases Nat.eq_zero_or_pos (t ^^^ 2 ^ b) with z | z
      · have et2 : t = 2 ^ b := by rw [z, Nat.zero_or] at et; exact et.symm
        rw [et2, on1_one, Nat.zero_add] at t3
        exact Nat.le_trans hm.2.1 t3
      · have h5 := hm.2.2 _ hsub z
        have h5 : m ≤ on1 τ f ((t ^^^ 2 ^ b) ||| 2 ^ b) + oM (on1 τ f) k ((s ^^^ 2 ^ b) ^^^ (t ^^^ 2 ^ b)) := h5
        rw [← (pt _ hsub).2, et] at h5
        exact Nat.le_trans h5 t3
    · rcases hm.1 with z | ⟨q, q1, q2, q3⟩
      · have h5 := hM.2.2 _ h2b (Nat.two_pow_pos b)
        have h5 : oM (on1 τ f) (k + 1) s ≤ on1 τ f (2 ^ b) + oM (on1 τ f) k (s ^^^ 2 ^ b) := h5
        rw [on1_one, Nat.zero_add] at h5
        omega
      · have h5 := hM.2.2 _ (pt q q1).1 (tb_pos (or_tb.mpr (Or.inr rfl)))
        have h5 : oM (on1 τ f) (k + 1) s ≤ on1 τ f (q ||| 2 ^ b) + oM (on1 τ f) k (s ^^^ (q ||| 2 ^ b)) := h5
        rw [(pt q q1).2] at h5
        rw [q3]
        exact h5
  have walk : ∀ v, sb v (s ^^^ 2 ^ b) → ∀ m, isM (s ^^^ 2 ^ b) (oM (on1 τ f) k (s ^^^ 2 ^ b)) (fun q => on1 τ f (q ||| 2 ^ b) + oM (on1 τ f) k ((s ^^^ 2 ^ b) ^^^ q)) v m → kX5_slipsWithOneMore_20 d Q (nI (2 ^ b)) (nI (s ^^^ 2 ^ b)) (nI m) (nI v) σ := by
    intro v
    induction v using Nat.strongRecOn with
    | ind v ihv =>
      intro hv m hm
      have hvl := lt_of_sb hv hrl
      rcases Nat.eq_zero_or_pos v with z | z
      · rw [z] at hm ⊢
        refine bX5_slipsWithOneMore_20 (fun _ => ?_) (lpX (N := 0) (by decide)) (lpX (N := 0) (by decide)) (lpX (N := 0) (by decide))
        rw [fin m hm]
        exact hq
      · have hor : v ||| 2 ^ b < 512 := lt_of_sb (pt v hv).1 hsl
        have hxl : (s ^^^ 2 ^ b) ^^^ v < 512 := lt_of_sb (sb_xor hv) hrl
        have e3 : nI v ||| nI (2 ^ b) = nI (v ||| 2 ^ b) := nx_or _ _
        have e4 : nI (s ^^^ 2 ^ b) ^^^ nI v = nI ((s ^^^ 2 ^ b) ^^^ v) := nx_xor _ _
        have hml := oM_le τ f k _ hxl
        have hol := on1_le τ f (v ||| 2 ^ b)
        have hmm : m ≤ 540 := Nat.le_trans hm.2.1 (oM_le τ f k _ hrl)
        have hnb : sb ((v - 1) &&& (s ^^^ 2 ^ b)) (s ^^^ 2 ^ b) := sb_and _ _
        have hlt : (v - 1) &&& (s ^^^ 2 ^ b) < v := Nat.lt_of_le_of_lt Nat.and_le_left (by omega)
        refine bX5_slipsWithOneMore_20 (fun c => absurd c (nI_ge (a := 0) (b := v) z (by omega))) (fun _ => by rw [e3]; exact vp_in_nI hor (by decide)) (fun _ => by rw [e4]; exact vp_in_nI hxl (by decide)) (fun _ => ?_)
        rw [e3, e4, nI_clamp (n := v ||| 2 ^ b) (by omega), nI_clamp (n := (s ^^^ 2 ^ b) ^^^ v) (by omega), h12 _ (sb_trans (pt v hv).1 hs), h13 _ (sb_trans (sb_xor hv) hr) (Nat.lt_of_le_of_lt (sb_le (sb_xor hv)) hrlt), nI_add, jbMin_n (by omega) (by omega), nxt_nI z]
        exact ihv _ hlt hnb _ (isM_step hrl hv z hm)
  refine eX5_slipsWithOneMore (bX5_slipsWithOneMore_0 ?_ ?_)
  · rw [e1, e2]
    exact vp_in_nI hrl (by decide)
  · rw [e1, e2, nI_clamp (n := s ^^^ 2 ^ b) (by omega), h13 _ hr hrlt]
    exact walk _ (sb_refl _) _ ⟨Or.inl rfl, Nat.le_refl _, fun q q1 q2 => by have := sb_le q1; omega⟩
theorem pX5_allowOneMore {k : Nat} (h12 : alO τ f σ) (h13 : ∀ q, sb q (lkN τ f) → σ 13 0 q = nI (oM (on1 τ f) k q)) (hq : ∀ σ', (∀ g, g ≠ 13 → σ' g = σ g) → (∀ q, sb q (lkN τ f) → σ' 13 0 q = nI (oM (on1 τ f) (k + 1) q)) → Q none σ') : ps_C mX5_allowOneMore (d + 2) [.inr (.inr (11, 0)), .inl (nI (lkN τ f))] σ Q := by
  have ha := lkN_lt τ f
  have parts : ∀ v, sb v (lkN τ f) → ∀ ρ, (∀ g, g ≠ 13 → ρ g = σ g) → (∀ s, sb s (lkN τ f) → ρ 13 0 s = nI (oM (on1 τ f) (if v < s then k + 1 else k) s)) → kX5_allowOneMore_2 (d + 1) Q (nI (lkN τ f)) (nI v) ρ := by
    intro v
    induction v using Nat.strongRecOn with
    | ind v ihv =>
      intro hv ρ f1 f2
      have hvl := lt_of_sb hv ha
      rcases Nat.eq_zero_or_pos v with z | z
      · refine bX5_allowOneMore_2 (fun _ => hq ρ f1 (fun q hq' => ?_)) ?_
        · rw [f2 q hq']
          rcases Nat.eq_zero_or_pos q with w | w
          · rw [w, oM_0 (on1_0 τ f), oM_0 (on1_0 τ f)]
          · rw [if_pos (by omega)]
        · rw [z]
          exact lpX (N := 0) (by decide)
      · have hnb : sb ((v - 1) &&& lkN τ f) (lkN τ f) := sb_and _ _
        have hlt : (v - 1) &&& lkN τ f < v := Nat.lt_of_le_of_lt Nat.and_le_left (by omega)
        have h12' : alO τ f ρ := by unfold alO; rw [f1 12 (by decide)]; exact h12
        refine bX5_allowOneMore_2 (fun c => absurd c (nI_ge (a := 0) (b := v) z (by omega))) (fun _ => pX5_slipsWithOneMore (k := k) hv z h12' (fun q q1 q2 => ?_) ⟨_, rfl, bX5_allowOneMore_16 (vp_in_nI hvl (by decide)) ?_⟩)
        · rw [f2 q (sb_trans q1 hv), if_neg (by omega)]
        · rw [nxt_nI z, nI_clamp (by omega)]
          refine ihv _ hlt hnb _ (fun g x => by rw [ps_up_o x]; exact f1 g x) (fun s hs => ?_)
          by_cases e : s = v
          · subst e
            rw [ps_up_s, if_pos hlt]
          · rw [ps_up_v (by omega), f2 s hs]
            rcases Nat.lt_or_ge v s with w | w
            · rw [if_pos w, if_pos (by omega)]
            · have := sb_next 9 v _ s hvl hv hs (by omega)
              rw [if_neg (by omega), if_neg (by omega)]
  refine eX5_allowOneMore (bX5_allowOneMore_0 (parts _ (sb_refl _) σ (fun _ _ => rfl) (fun s hs => ?_)))
  have := sb_le hs
  rw [if_neg (by omega)]
  exact h13 s hs
theorem pX5_fewestSlips {n : Nat} (h1 : 1 ≤ n) (h9 : n ≤ 9) (hl : iL σ τ f) (hg : gOK σ τ f) (hq : ∀ σ', (∀ g, g < 11 ∨ 14 < g → σ' g = σ g) → Q (some (.inl (nI (oM (on1 τ f) (n - 1) 511)))) σ') : ps_C mX5_fewestSlips (d + 4) [.inr (.inr (11, 0)), .inr (.inr (3, f)), .inl (nI n)] σ Q := by
  have ha := lkN_lt τ f
  have hn := nst_le τ f
  have e5 : σ 3 f 5 = nI (lkN τ f) := bm_mkN hg.1.1 (by decide)
  have e6 : σ 3 f 6 = nI (nst τ f) := hg.1.2.1
  have eA : oM (on1 τ f) (n - 1) 511 = oM (on1 τ f) (n - 1) (lkN τ f) := by
    rw [oM_and (fun s _ => on1_and τ f s) (on1_0 τ f) _ _ (by decide)]
    congr 1
    refine tb_ext (fun i => ?_)
    rw [and_tb, lkN_tb]
    refine ⟨fun q => q.2, fun q => ⟨?_, q⟩⟩
    rw [show 511 = 2 ^ 9 - 1 from rfl, Nat.testBit_two_pow_sub_one, decide_eq_true q.1]
  refine eX5_fewestSlips (bX5_fewestSlips_0 (fun c => ?_) (fun c => ?_))
  · rw [e6, nI_ltI (by omega) (by omega)] at c
    rw [e5]
    refine pX5_countAlone hl (fun σ1 f1 f2 => ⟨rfl, bX5_fewestSlips_21 (fun c2 => ?_) (fun _ => vp_in_nI ha (by decide)) (fun c2 => ?_)⟩)
    · have hn1 : n ≠ 1 := fun q => c2 (by rw [q]; rfl)
      -- somebody was looked at
      have hpos : 0 < lkN τ f := by
        rcases Nat.eq_zero_or_pos (lkN τ f) with z | z
        · exfalso
          have hno : ∀ i, i < 9 → ¬ mLk τ f i := fun i hi q => by
            have := (lkN_tb (τ := τ) (f := f) (i := i)).mpr ⟨hi, q⟩
            rw [z, Nat.zero_testBit] at this
            cases this
          have h0 : nst τ f = 0 := by
            have hex : exG τ f 0 := by
              have key : ∀ r, r ≤ 9 → fl (mLk τ f) (mAlk τ f) 0 r A0 0 = some A0 := by
                intro r
                induction r with
                | zero => intro _; rfl
                | succ r ih => intro hr; rw [fl_no (hno (8 - r) (by omega))]; exact ih (by omega)
              exact ⟨A0, key 9 (by decide)⟩
            exact isF_uniq (nst_isF τ f) ⟨by decide, hex, fun i hi => absurd hi (by omega)⟩
          omega
        · exact z
      have cp12 : (ps_cpy σ1 12 0 13 0 512) 12 = σ1 12 := by
        funext k j
        unfold ps_cpy
        rw [if_neg (by omega)]
      have rounds : ∀ r k, k + r = n → 2 ≤ k → ∀ ρ, (∀ g, g < 11 ∨ 14 < g → ρ g = σ g) → alO τ f ρ → (∀ q, sb q (lkN τ f) → ρ 13 0 q = nI (oM (on1 τ f) (k - 2) q)) → kX5_fewestSlips_52 (d + 3) Q (nI n) (nI (lkN τ f)) (nI k) ρ := by
        intro r
        induction r with
        | zero =>
          intro k hk h2 ρ g1 g2 g3
          obtain rfl : k = n := by omega
          refine bX5_fewestSlips_52 (fun _ => pX5_slipsWithOneMore (k := k - 2) (sb_refl _) hpos g2 (fun q q1 _ => g3 q q1) ⟨_, rfl, bX5_fewestSlips_74 ?_⟩) (lpX (by omega))
          have := hq ρ g1
          rw [eA] at this
          rw [show k - 2 + 1 = k - 1 from by omega]
          exact this
        | succ r ih =>
          intro k hk h2 ρ g1 g2 g3
          refine bX5_fewestSlips_52 (lpN (show k < n by omega) (by omega)) (fun _ => pX5_allowOneMore g2 g3 (fun ρ' k1 k2 => ⟨rfl, bX5_fewestSlips_63 ?_⟩))
          rw [nI_1]
          refine ih (k + 1) (by omega) (by omega) ρ' (fun g x => by rw [k1 g (by omega)]; exact g1 g x) (by unfold alO; rw [k1 12 (by decide)]; exact g2) (fun q q1 => ?_)
          rw [k2 q q1, show k - 2 + 1 = k + 1 - 2 from by omega]
      refine rounds (n - 2) 2 (by omega) (Nat.le_refl _) _ (fun g x => ?_) ?_ (fun q q1 => ?_)
      · funext k j
        unfold ps_cpy
        rw [if_neg (by omega), f1 g (by omega) (by omega) (by omega)]
      · unfold alO; rw [cp12]; exact f2
      · have hql := lt_of_sb q1 ha
        unfold ps_cpy
        rw [if_pos ⟨rfl, rfl, hql⟩]
        exact f2 q q1
    · have hn1 : n = 1 := (nI_eq (a := n) (b := 1) (by omega) (by decide)).mp c2
      rw [nI_clamp (by omega), f2 _ (sb_refl _)]
      have := hq σ1 (fun g x => f1 g (by omega) (by omega) (by omega))
      rw [eA, hn1] at this
      exact this
  · rw [e6, nI_ltI (by omega) (by omega)] at c
    have := hq σ (fun _ _ => rfl)
    rw [oM_states τ f h1 (by omega)] at this
    exact this
end SX
theorem x_slips {σ τ : ps_S} {d : Nat} {Q : Option ps_V → ps_S → Prop} {v1 v2 : Int32} (h : iF σ τ) (h1 : ¬ vp_in v1 6 → Q (some (.inl (-900001))) σ) (h2 : vp_in v1 6 → ¬ r1n v2 9 → Q (some (.inl (-900002))) σ) (h3 : ∀ f n σ', f < 6 → v1 = nI f → v2 = nI n → 1 ≤ n → n ≤ 9 → kF σ σ' → iF σ' τ → Q (some (.inl (nI (oM (on1 τ f) (n - 1) 511)))) σ') : ps_C mX7_slips (d + 30) [ps_x, .inl v1, .inl v2] σ Q := by
  have e1 : (1 : Int32).toInt = 1 := by decide
  have e9 : (9 : Int32).toInt = 9 := by decide
  refine eX7_slips (bX7_slips_0 (fun c c2 => h2 (wi6.mp c) (fun q => ?_)) (fun c c2 c3 => ?_) (fun c _ c3 => h2 (wi6.mp c) (fun q => ?_)) (fun c => h1 ((z0 wi6).mp c)))
  · rw [Int32.lt_iff_toInt_lt, e1] at c2
    have := q.1
    omega
  · obtain ⟨f, hf, rfl⟩ := vp_num (by decide) (wi6.mp c)
    rw [Int32.lt_iff_toInt_lt, e1] at c2
    rw [Int32.le_iff_toInt_le, e9] at c3
    obtain ⟨n, n1, n2, rfl⟩ := num_of (v := v2) (lo := 1) (hi := 9) (by omega) (by omega)
    refine x_grouped (d := d + 14) h hf (fun σ1 g1 g2 g3 => ⟨_, rfl, bX7_slips_33 (pX5_fewestSlips (d := d + 25) n1 n2 (g2 f hf).1 g3 (fun σ2 k1 => ⟨_, rfl, bX7_slips_37 ?_⟩))⟩)
    have frr : ∀ g, g < 11 ∨ 18 < g → σ2 g = σ1 g := fun g x => k1 g (by omega)
    exact h3 f n σ2 hf rfl rfl n1 n2 (kF_trans g1 (kF_O (f := f) (frO_scr frr))) (iF_O (f := f) g2 (frO_scr frr) (Or.inl ⟨by rw [frr 3 (by omega)], by rw [frr 3 (by omega)], by rw [frr 3 (by omega)], by rw [frr 10 (by omega)]⟩))
  · rw [Int32.le_iff_toInt_le, e9] at c3
    have := q.2
    omega

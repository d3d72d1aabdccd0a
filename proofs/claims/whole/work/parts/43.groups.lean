/-! ===== states of a forme: the search, as a function; the class's fill ===== -/
def okg (lk : Nat → Prop) (alk : Nat → Nat → Prop) (A : Nat → Nat) (c g : Nat) : Prop := ∀ c', c' < c → lk c' → A c' = g → alk c' c
def upA (A : Nat → Nat) (c g : Nat) : Nat → Nat := fun i => if i = c then g else A i
/-- copies 9 - r, .. 8 are put into groups below m, the least number first; u are begun -/
noncomputable def fl (lk : Nat → Prop) (alk : Nat → Nat → Prop) (m : Nat) : Nat → (Nat → Nat) → Nat → Option (Nat → Nat)
  | 0, A, _ => some A
  | r + 1, A, u => @ite _ (lk (8 - r)) (Classical.propDecidable _) ((List.range' 0 (min (u + 1) m)).findSome? (fun g => @ite _ (okg lk alk A (8 - r) g) (Classical.propDecidable _) (fl lk alk m r (upA A (8 - r) g) (max u (g + 1))) none)) (fl lk alk m r A u)
section FL
variable {lk : Nat → Prop} {alk : Nat → Nat → Prop} {m r u : Nat} {A : Nat → Nat}
theorem fl_no (h : ¬ lk (8 - r)) : fl lk alk m (r + 1) A u = fl lk alk m r A u := by
  show @ite _ (lk (8 - r)) (Classical.propDecidable _) _ _ = _
  rw [if_neg h]
/-- one number tried -/
noncomputable def flg (lk : Nat → Prop) (alk : Nat → Nat → Prop) (m r : Nat) (A : Nat → Nat) (u g : Nat) : Option (Nat → Nat) := @ite _ (okg lk alk A (8 - r) g) (Classical.propDecidable _) (fl lk alk m r (upA A (8 - r) g) (max u (g + 1))) none
theorem fl_yes (h : lk (8 - r)) : fl lk alk m (r + 1) A u = (List.range' 0 (min (u + 1) m)).findSome? (flg lk alk m r A u) := by
  show @ite _ (lk (8 - r)) (Classical.propDecidable _) _ _ = _
  rw [if_pos h]
  rfl
theorem flg_ok {g : Nat} (h : okg lk alk A (8 - r) g) : flg lk alk m r A u g = fl lk alk m r (upA A (8 - r) g) (max u (g + 1)) := by unfold flg; rw [if_pos h]
theorem flg_no {g : Nat} (h : ¬ okg lk alk A (8 - r) g) : flg lk alk m r A u g = none := by unfold flg; rw [if_neg h]
theorem fs_some {α β : Type} {F : α → Option β} {a : α} {l : List α} {x : β} (h : F a = some x) : (a :: l).findSome? F = some x := by simp [List.findSome?, h]
theorem fs_none {α β : Type} {F : α → Option β} {a : α} {l : List α} (h : F a = none) : (a :: l).findSome? F = l.findSome? F := by simp [List.findSome?, h]
/-- what is found keeps what was there -/
theorem fl_keeps : ∀ (r : Nat) (A : Nat → Nat) (u : Nat) (A' : Nat → Nat), r ≤ 9 → fl lk alk m r A u = some A' → ∀ c, c < 9 - r → A' c = A c
  | 0, A, u, A', _, h, c, _ => by cases h; rfl
  | r + 1, A, u, A', hr, h, c, hc => by
    by_cases hl : lk (8 - r)
    · rw [fl_yes hl] at h
      obtain ⟨g, -, hg⟩ := List.exists_of_findSome?_eq_some h
      by_cases ho : okg lk alk A (8 - r) g
      · rw [flg_ok ho] at hg
        have h1 := fl_keeps r _ _ A' (by omega) hg c (by omega)
        rw [h1]
        unfold upA
        rw [if_neg (by omega)]
      · rw [flg_no ho] at hg; cases hg
    · rw [fl_no hl] at h
      exact fl_keeps r A u A' (by omega) h c (by omega)
/-- groups enough: there is one -/
theorem fl_ex : ∀ (r : Nat) (A : Nat → Nat) (u : Nat), r ≤ 9 → u + r ≤ m → (∀ c, c < 9 - r → lk c → A c < u) → ∃ A', fl lk alk m r A u = some A'
  | 0, A, u, _, _, _ => ⟨A, rfl⟩
  | r + 1, A, u, hr, hu, hA => by
    by_cases hl : lk (8 - r)
    · rw [fl_yes hl]
      cases hf : (List.range' 0 (min (u + 1) m)).findSome? (flg lk alk m r A u) with
      | some A' => exact ⟨A', rfl⟩
      | none =>
        exfalso
        rw [List.findSome?_eq_none_iff] at hf
        have h1 := hf u (by rw [List.mem_range'_1]; omega)
        have ho : okg lk alk A (8 - r) u := fun c' hc' hl' he => by
          have := hA c' (by omega) hl'
          omega
        rw [flg_ok ho] at h1
        obtain ⟨A', h2⟩ := fl_ex r (upA A (8 - r) u) (max u (u + 1)) (by omega) (by omega) (fun c hc hlc => by
          unfold upA
          split
          · omega
          · have := hA c (by omega) hlc
            omega)
        rw [h1] at h2
        cases h2
    · rw [fl_no hl]
      exact fl_ex r A u (by omega) (by omega) (fun c hc hlc => hA c (by
        rcases Nat.lt_or_ge c (8 - r) with q | q
        · omega
        · have : c = 8 - r := by omega
          subst this
          exact absurd hlc hl) hlc)
end FL
/-- cells that fill writes -/
def frG (f : Nat) (σ σ' : ps_S) : Prop := (∀ g, g ≠ 8 → g ≠ 9 → σ' g = σ g) ∧ ∀ k, k ≠ f → σ' 8 k = σ 8 k ∧ σ' 9 k = σ 9 k
theorem frG_refl (f : Nat) (σ : ps_S) : frG f σ σ := ⟨fun _ _ _ => rfl, fun _ _ => ⟨rfl, rfl⟩⟩
theorem frG_trans {f : Nat} {σ σ' σ'' : ps_S} (h : frG f σ σ') (h' : frG f σ' σ'') : frG f σ σ'' :=
  ⟨fun g a b => (h'.1 g a b).trans (h.1 g a b), fun k a => ⟨(h'.2 k a).1.trans (h.2 k a).1, (h'.2 k a).2.trans (h.2 k a).2⟩⟩
theorem ps_up_k {σ : ps_S} {f k j k' : Nat} {x : Int32} (h : k' ≠ k) : ps_up σ f k j x f k' = σ f k' := by
  funext j'
  unfold ps_up
  rw [if_neg (fun q => h q.2.1)]
theorem frG_up {f g j : Nat} {σ : ps_S} {x : Int32} (h : g = 8 ∨ g = 9) : frG f σ (ps_up σ g f j x) := by
  refine ⟨fun g' a b => ps_up_o (by omega), fun k hk => ?_⟩
  rcases h with rfl | rfl
  · exact ⟨ps_up_k hk, by rw [ps_up_o (by decide)]⟩
  · exact ⟨by rw [ps_up_o (by decide)], ps_up_k hk⟩
/-- before copy c: who was looked at, the groups there may be, who is unlike, the groups so far -/
def preG (lk : Nat → Prop) (alk : Nat → Nat → Prop) (m f : Nat) (σ : ps_S) (A : Nat → Nat) (c : Nat) : Prop :=
  (bm (σ 3 f 5) 9 lk ∧ σ 3 f 6 = nI m ∧ ∀ a, a < 9 → bm (σ 7 f a) 9 (fun b => ¬ alk b a)) ∧ (∀ g, g < 9 → bm (σ 8 f g) 9 (fun c' => c' < c ∧ lk c' ∧ A c' = g)) ∧ (∀ c', c' < c → lk c' → σ 9 f c' = nI (A c')) ∧ ∀ c', c' < 9 → ¬ lk c' → σ 9 f c' = -900009
section FC
variable {lk : Nat → Prop} {alk : Nat → Nat → Prop} {m f : Nat} {σ : ps_S} {A : Nat → Nat}
theorem pX0_fill (hm : m ≤ 9) : ∀ (r d : Nat) (σ : ps_S) (A : Nat → Nat) (u : Nat) (Q : Option ps_V → ps_S → Prop), r ≤ 9 → u ≤ 9 - r → preG lk alk m f σ A (9 - r) → (∀ A' σ', fl lk alk m r A u = some A' → frG f σ σ' → preG lk alk m f σ' A' 9 → Q (some (.inl 1)) σ') → (fl lk alk m r A u = none → ∀ σ', frG f σ σ' → preG lk alk m f σ' A (9 - r) → Q (some (.inl 0)) σ') → ps_C mX0_fill (d + (r + 1)) [.inr (.inr (3, f)), .inl (nI (9 - r)), .inl (nI u)] σ Q
  | 0, d, σ, A, u, Q, _, _, hp, hs, _ => eX0_fill (bX0_fill_0 (fun c => absurd c (nI_nlt (a := 9) (b := 9) (Nat.le_refl _) (by decide))) (fun c => absurd c (nI_nlt (a := 9) (b := 9) (Nat.le_refl _) (by decide))) (fun _ => hs A σ rfl (frG_refl f σ) hp))
  | r + 1, d, σ, A, u, Q, hr, hu, hp, hs, hn => by
    have hc : 9 - (r + 1) = 8 - r := by omega
    rw [hc] at hu hp hn ⊢
    have hc9 : 8 - r < 9 := by omega
    have hnx : nI (8 - r) + 1 = nI (9 - r) := by rw [nI_1]; congr 1; omega
    have hcc : (nI (8 - r)).toNatClampNeg = 8 - r := nI_clamp (by omega)
    refine eX0_fill (bX0_fill_0 (fun _ c => ?_) (fun _ c => ?_) (fun c => absurd (nI_lt (a := 8 - r) (b := 9) hc9 (by decide)) c))
    · rw [bm_bit hp.1.1 hc9 (by decide), jbP_0, Classical.not_not] at c
      rw [fl_yes c] at hs hn
      -- the numbers from g on
      have loop : ∀ t g σ1, g + t = min (u + 1) m → frG f σ σ1 → preG lk alk m f σ1 A (8 - r) → (List.range' 0 (min (u + 1) m)).findSome? (flg lk alk m r A u) = (List.range' g t).findSome? (flg lk alk m r A u) → kX0_fill_30 (d + (r + 1)) Q f (nI (8 - r)) (nI u) (nI g) σ1 := by
        intro t
        induction t with
        | zero =>
          intro g σ1 hg f1 f2 f3
          have hnone : (List.range' 0 (min (u + 1) m)).findSome? (flg lk alk m r A u) = none := f3
          have hq := hn hnone σ1 f1 f2
          refine bX0_fill_30 (fun _ => hq) (fun _ _ => hq) (fun c1 c2 => ?_) (fun c1 c2 => ?_) (fun c1 c2 => ?_) (fun c1 c2 => ?_)
          all_goals
            exfalso
            rw [nI_ltI (by omega) (by omega)] at c1
            rw [f2.1.2.1, nI_leI (by omega) (by omega)] at c2
            omega
        | succ t ih =>
          intro g σ1 hg f1 f2 f3
          have hgu : g ≤ u := by omega
          have hgm : g < m := by omega
          have hgc : (nI g).toNatClampNeg = g := nI_clamp (by omega)
          have hzero : (σ1 8 f g &&& σ1 7 f (8 - r) = 0) ↔ okg lk alk A (8 - r) g := by
            rw [bm_zero (bm_and (f2.2.1 g (by omega)) (f2.1.2.2 (8 - r) hc9)) (by decide)]
            constructor
            · intro q c' h1 h2 h3
              exact Classical.not_not.mp (fun z => q c' (by omega) ⟨⟨h1, h2, h3⟩, z⟩)
            · intro q c' h1 h2
              exact h2.2 (q c' h2.1.1 h2.1.2.1 h2.1.2.2)
          refine bX0_fill_30 (fun c1 => absurd c1 (nI_nlt hgu (by omega))) (fun _ c2 => absurd c2 (by rw [f2.1.2.1]; exact nI_ge hgm (by omega))) (fun _ _ => vp_in_nI (by omega) (by decide)) (fun _ _ => vp_in_nI hc9 (by decide)) (fun _ _ c3 => ?_) (fun _ _ c3 => ?_)
          · rw [hgc, hcc, hzero] at c3
            rw [nI_1]
            refine ih (g + 1) σ1 (by omega) f1 f2 ?_
            rw [f3, List.range'_succ, fs_none (flg_no c3)]
          · rw [hgc, hcc, hzero] at c3
            rw [hgc, hcc, hnx, nI_1]
            have hmx : jbMax (nI u) (nI (g + 1)) = nI (max u (g + 1)) := by
              unfold jbMax
              by_cases z : u < g + 1
              · rw [if_pos (nI_lt z (by omega))]; congr 1; omega
              · rw [if_neg (nI_nlt (by omega) (by omega))]; congr 1; omega
            rw [hmx]
            have hbit : bm ((1 : Int32) <<< (nI (8 - r) &&& 31)) 9 (fun i => i = 8 - r) := bm_1 hc9 (by decide)
            have hpre2 : preG lk alk m f (ps_up (ps_up σ1 8 f g (σ1 8 f g ||| ((1 : Int32) <<< (nI (8 - r) &&& 31)))) 9 f (8 - r) (nI g)) (upA A (8 - r) g) (9 - r) := by
              refine ⟨⟨?_, ?_, fun a ha => ?_⟩, fun g' hg' => ?_, fun c' h1 h2 => ?_, fun c' h1 h2 => ?_⟩
              · rw [ps_up_o (by decide), ps_up_o (by decide)]; exact f2.1.1
              · rw [ps_up_o (by decide), ps_up_o (by decide)]; exact f2.1.2.1
              · rw [ps_up_o (by decide), ps_up_o (by decide)]; exact f2.1.2.2 a ha
              · rw [ps_up_o (by decide)]
                by_cases e : g' = g
                · subst e
                  rw [ps_up_s]
                  refine bm_congr (bm_or (f2.2.1 g' hg') hbit) (fun i hi => ?_)
                  unfold upA
                  by_cases z : i = 8 - r
                  · subst z
                    rw [if_pos rfl]
                    exact ⟨fun _ => ⟨by omega, c, rfl⟩, fun _ => Or.inr rfl⟩
                  · rw [if_neg z]
                    exact ⟨fun q => q.elim (fun w => ⟨by omega, w.2⟩) (fun w => absurd w z), fun q => Or.inl ⟨by omega, q.2⟩⟩
                · rw [ps_up_v (by omega)]
                  refine bm_congr (f2.2.1 g' hg') (fun i hi => ?_)
                  unfold upA
                  by_cases z : i = 8 - r
                  · subst z
                    rw [if_pos rfl]
                    exact ⟨fun q => absurd q.1 (by omega), fun q => absurd q.2.2 (fun w => e w.symm)⟩
                  · rw [if_neg z]
                    exact ⟨fun q => ⟨by omega, q.2⟩, fun q => ⟨by omega, q.2⟩⟩
              · unfold upA
                by_cases z : c' = 8 - r
                · subst z
                  rw [ps_up_s, if_pos rfl]
                · rw [ps_up_v (by omega), if_neg z, ps_up_o (by decide)]
                  exact f2.2.2.1 c' (by omega) h2
              · rw [ps_up_v (fun q => by rw [q.2] at h2; exact h2 c), ps_up_o (by decide)]
                exact f2.2.2.2 c' h1 h2
            have fr2 : frG f σ (ps_up (ps_up σ1 8 f g (σ1 8 f g ||| ((1 : Int32) <<< (nI (8 - r) &&& 31)))) 9 f (8 - r) (nI g)) := frG_trans f1 (frG_trans (frG_up (by omega)) (frG_up (by omega)))
            refine pX0_fill hm r d _ (upA A (8 - r) g) (max u (g + 1)) _ (by omega) (by omega) hpre2 (fun A' σ' e1 e2 e3 => ⟨_, rfl, bX0_fill_92 (fun q => absurd q (by decide)) (fun q => absurd q (by decide)) (fun _ => ?_)⟩) (fun e1 σ' e2 e3 => ⟨_, rfl, bX0_fill_92 (fun _ => vp_in_nI (by omega) (by decide)) (fun _ => ?_) (fun q => absurd rfl q)⟩)
            · refine hs A' σ' ?_ (frG_trans fr2 e2) e3
              rw [f3, List.range'_succ, fs_some ((flg_ok c3).trans e1)]
            · rw [hgc, nI_1]
              refine ih (g + 1) _ (by omega) (frG_trans fr2 (frG_trans e2 (frG_up (by omega)))) ?_ ?_
              · refine ⟨⟨?_, ?_, fun a ha => ?_⟩, fun g' hg' => ?_, fun c' h1 h2 => ?_, fun c' h1 h2 => ?_⟩
                · rw [ps_up_o (by decide)]; exact e3.1.1
                · rw [ps_up_o (by decide)]; exact e3.1.2.1
                · rw [ps_up_o (by decide)]; exact e3.1.2.2 a ha
                · by_cases e : g' = g
                  · subst e
                    rw [ps_up_s]
                    refine bm_congr (bm_diff (e3.2.1 g' hg') hbit) (fun i hi => ?_)
                    unfold upA
                    by_cases z : i = 8 - r
                    · subst z
                      exact ⟨fun q => absurd rfl q.2, fun q => absurd q.1 (by omega)⟩
                    · rw [if_neg z]
                      exact ⟨fun q => ⟨by omega, q.1.2⟩, fun q => ⟨⟨by omega, q.2⟩, z⟩⟩
                  · rw [ps_up_v (by omega)]
                    refine bm_congr (e3.2.1 g' hg') (fun i hi => ?_)
                    unfold upA
                    by_cases z : i = 8 - r
                    · subst z
                      rw [if_pos rfl]
                      exact ⟨fun q => absurd q.2.2 (fun w => e w.symm), fun q => absurd q.1 (by omega)⟩
                    · rw [if_neg z]
                      exact ⟨fun q => ⟨by omega, q.2⟩, fun q => ⟨by omega, q.2⟩⟩
                · rw [ps_up_o (by decide)]
                  have := e3.2.2.1 c' (by omega) h2
                  unfold upA at this
                  rw [if_neg (by omega)] at this
                  exact this
                · rw [ps_up_o (by decide)]
                  exact e3.2.2.2 c' h1 h2
              · rw [f3, List.range'_succ, fs_none ((flg_ok c3).trans e1)]
      exact loop (min (u + 1) m) 0 σ (by omega) (frG_refl f σ) hp rfl
    · rw [bm_bit hp.1.1 hc9 (by decide), jbP_0] at c
      rw [fl_no c] at hs hn
      rw [hnx]
      have key : ∀ (σ' : ps_S) (B : Nat → Nat), preG lk alk m f σ' B (9 - r) → preG lk alk m f σ' B (8 - r) := by
        intro σ' B q
        refine ⟨q.1, fun g hg => bm_congr (q.2.1 g hg) (fun i hi => ⟨fun w => ⟨?_, w.2⟩, fun w => ⟨by omega, w.2⟩⟩), fun c' h1 h2 => q.2.2.1 c' (by omega) h2, q.2.2.2⟩
        have := w.1
        rcases Nat.lt_or_ge i (8 - r) with z | z
        · exact z
        · have : i = 8 - r := by omega
          subst this
          exact absurd w.2.1 c
      have key2 : preG lk alk m f σ A (9 - r) := by
        refine ⟨hp.1, fun g hg => bm_congr (hp.2.1 g hg) (fun i hi => ⟨fun w => ⟨by omega, w.2⟩, fun w => ⟨?_, w.2⟩⟩), fun c' h1 h2 => hp.2.2.1 c' ?_ h2, hp.2.2.2⟩
        · have := w.1
          rcases Nat.lt_or_ge i (8 - r) with z | z
          · exact z
          · have : i = 8 - r := by omega
            subst this
            exact absurd w.2.1 c
        · rcases Nat.lt_or_ge c' (8 - r) with z | z
          · exact z
          · have : c' = 8 - r := by omega
            subst this
            exact absurd h2 c
      exact pX0_fill hm r d σ A u _ (by omega) (by omega) key2 (fun A' σ' e1 e2 e3 => ⟨_, rfl, bX0_fill_27 (Or.inr rfl) (hs A' σ' e1 e2 e3)⟩) (fun e1 σ' e2 e3 => ⟨_, rfl, bX0_fill_27 (Or.inl rfl) (hn e1 σ' e2 (key σ' A e3))⟩)
end FC

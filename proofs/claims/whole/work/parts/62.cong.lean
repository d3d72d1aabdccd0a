/-! ===== what the numbers rest on: the reference's basics alone ===== -/
section CG
variable {σ σ' τ τ' : ps_S} {f : Nat}
-- men
def bW (τ τ' : ps_S) : Prop := τ' 74 0 = τ 74 0 ∧ τ' 75 0 = τ 75 0 ∧ τ' 50 0 21 = τ 50 0 21 ∧ τ' 50 0 22 = τ 50 0 22 ∧ τ' 50 0 25 = τ 50 0 25
theorem cW_M (h : bW τ τ') : wM τ' = wM τ := by unfold wM; rw [h.2.2.1]
theorem cW_P (h : bW τ τ') : wP τ' = wP τ := by unfold wP; rw [h.2.2.2.1]
theorem cW_c (h : bW τ τ') : wc τ' = wc τ := by unfold wc; rw [h.2.2.2.2]
theorem cW_cg (h : bW τ τ') : cg τ' = cg τ := by funext a b; unfold cg; rw [cW_c h]
theorem cW_ow (h : bW τ τ') : ow τ' = ow τ := by
  funext p m
  unfold ow
  congr 1
  funext w
  unfold owW
  rw [h.1, h.2.1]
theorem cW_bhk (h : bW τ τ') : ∀ k m, bhk τ' k m = bhk τ k m
  | 0, _ => rfl
  | k + 1, m => by
    show mn (wM τ') (fun o => cg τ' m o + ow τ' (wP τ' - 1 - k) o + bhk τ' k o) FARn = mn (wM τ) (fun o => cg τ m o + ow τ (wP τ - 1 - k) o + bhk τ k o) FARn
    rw [cW_M h, cW_P h, cW_cg h, cW_ow h, show bhk τ' k = bhk τ k from funext (cW_bhk h k)]
theorem cW_b (h : bW τ τ') : bhk τ' = bhk τ := by funext k m; exact cW_bhk h k m
theorem cW_v (h : bW τ τ') : vth τ' = vth τ := by
  funext k m o
  unfold vth
  rw [cW_P h, cW_cg h, cW_ow h, cW_b h]
theorem cW_wyk (h : bW τ τ') : ∀ k m, wyk τ' k m = wyk τ k m
  | 0, _ => rfl
  | k + 1, m => by
    show jSum (wM τ') (fun o => if vth τ' k m o = bhk τ' (k + 1) m then wyk τ' k o else 0) = jSum (wM τ) (fun o => if vth τ k m o = bhk τ (k + 1) m then wyk τ k o else 0)
    rw [cW_M h, cW_v h, cW_b h, show wyk τ' k = wyk τ k from funext (cW_wyk h k)]
theorem cW_w (h : bW τ τ') : wyk τ' = wyk τ := by funext k m; exact cW_wyk h k m
theorem cW_upk (h : bW τ τ') : ∀ k m, upk τ' k m = upk τ k m
  | 0, m => by show ow τ' 0 m = ow τ 0 m; rw [cW_ow h]
  | k + 1, m => by
    show ow τ' (k + 1) m + mn (wM τ') (fun o => upk τ' k o + cg τ' o m) FARn = ow τ (k + 1) m + mn (wM τ) (fun o => upk τ k o + cg τ o m) FARn
    rw [cW_M h, cW_cg h, cW_ow h, show upk τ' k = upk τ k from funext (cW_upk h k)]
theorem cW_u (h : bW τ τ') : upk τ' = upk τ := by funext k m; exact cW_upk h k m
theorem cW_bh (h : bW τ τ') : bh τ' = bh τ := by funext p m; unfold bh; rw [cW_P h, cW_b h]
theorem cW_wy (h : bW τ τ') : wy τ' = wy τ := by funext p m; unfold wy; rw [cW_P h, cW_w h]
theorem cW_l (h : bW τ τ') : lst τ' = lst τ := by unfold lst; rw [cW_M h, cW_P h, cW_u h]
theorem cW_isB (h : bW τ τ') : isB τ' = isB τ := by funext p m; unfold isB; rw [cW_u h, cW_bh h, cW_l h]
theorem cW_stt (h : bW τ τ') : sttN τ' = sttN τ := by unfold sttN; rw [cW_M h, cW_isB h, cW_wy h]
theorem cW_whoN (h : bW τ τ') : ∀ k, whoN τ' k = whoN τ k
  | 0 => by show (fstN (wM τ') 0 (isB τ' 0)).getD 0 = (fstN (wM τ) 0 (isB τ 0)).getD 0; rw [cW_M h, cW_isB h]
  | k + 1 => by
    show (fstN (wM τ') 0 (fun o => vth τ' (wP τ' - 1 - (k + 1)) (whoN τ' k) o = bh τ' k (whoN τ' k))).getD 0 = (fstN (wM τ) 0 (fun o => vth τ (wP τ - 1 - (k + 1)) (whoN τ k) o = bh τ k (whoN τ k))).getD 0
    rw [cW_M h, cW_P h, cW_v h, cW_bh h, cW_whoN h k]
theorem iWb_mv (hc : ∀ g, 36 ≤ g → g ≤ 48 → σ' g = σ g) (h : bW τ τ') (hi : iWb σ τ) : iWb σ' τ' := by
  unfold iWb
  rw [cW_M h, cW_P h, cW_c h, h.1, h.2.1, h.2.2.1, h.2.2.2.1, h.2.2.2.2, hc 36 (by omega) (by omega), hc 38 (by omega) (by omega), hc 40 (by omega) (by omega)]
  exact hi
theorem sW_mv (hc : ∀ g, 36 ≤ g → g ≤ 48 → σ' g = σ g) (h : bW τ τ') (hi : sW σ τ) : sW σ' τ' := by
  unfold sW
  rw [cW_M h, cW_P h, cW_ow h, cW_u h, cW_bh h, cW_wy h, cW_l h, hc 36 (by omega) (by omega), hc 42 (by omega) (by omega), hc 44 (by omega) (by omega), hc 46 (by omega) (by omega), hc 48 (by omega) (by omega)]
  exact hi
theorem iW_mv (hc : ∀ g, 36 ≤ g → g ≤ 48 → σ' g = σ g) (h : bW τ τ') (hi : iW σ τ) : iW σ' τ' := by
  refine ⟨iWb_mv hc h hi.1, ?_⟩
  rw [hc 36 (by omega) (by omega)]
  exact hi.2.elim Or.inl (fun q => Or.inr ⟨q.1, sW_mv hc h q.2⟩)
-- type
theorem cT_sh (h : τ' 63 0 = τ 63 0) : mSh τ' = mSh τ := by funext a b; unfold mSh; rw [h]
theorem cT_w (h : τ' 63 0 = τ 63 0) : ∀ k a b, wsh τ' k a b = wsh τ k a b
  | 0, a, b => by show dirT τ' a b = dirT τ a b; unfold dirT; rw [h]
  | k + 1, a, b => by
    show (wsh τ' k a b ∨ (wsh τ' k a k ∧ wsh τ' k k b)) = (wsh τ k a b ∨ (wsh τ k a k ∧ wsh τ k k b))
    rw [cT_w h k a b, cT_w h k a k, cT_w h k k b]
theorem cT_m (h : τ' 63 0 = τ 63 0) : mstT τ' = mstT τ := by funext a b; exact cT_w h 6 a b
theorem iT_mv (hc : ∀ g, 19 ≤ g → g ≤ 23 → σ' g = σ g) (h : τ' 63 0 = τ 63 0) (hi : iT σ τ) : iT σ' τ' := by
  unfold iT iTb
  rw [hc 19 (by omega) (by omega), hc 21 (by omega) (by omega), hc 22 (by omega) (by omega), hc 23 (by omega) (by omega), h, cT_sh h, cT_m h]
  exact hi
-- plans
theorem cP_u (h : τ' 63 0 = τ 63 0) : uN τ' = uN τ := by unfold uN; rw [cT_sh h]
theorem cP_z (h : τ' 50 0 13 = τ 50 0 13) : pz τ' = pz τ := by unfold pz; rw [h]
theorem cP_is (h : τ' 63 0 = τ 63 0) (h2 : τ' 50 0 13 = τ 50 0 13) : isPl τ' = isPl τ := by
  funext A
  unfold isPl
  rw [cP_u h, cP_z h2, cT_sh h, cT_m h]
theorem cP_fd (h : τ' 63 0 = τ 63 0) (h2 : τ' 50 0 13 = τ 50 0 13) (D f : Nat) : fdN τ' D f = fdN τ D f := by
  unfold fdN
  rw [cP_u h, cP_is h h2]
  unfold fdA
  rw [cP_u h]
theorem iP_mv (h24 : σ' 24 = σ 24) (h28 : σ' 28 = σ 28) (h : τ' 63 0 = τ 63 0) (h2 : τ' 50 0 13 = τ 50 0 13) (hi : iP σ τ) : iP σ' τ' := by
  unfold iP
  rw [h24, h28, h2, cP_z h2]
  refine ⟨hi.1, hi.2.elim Or.inl (fun q => Or.inr ?_)⟩
  obtain ⟨D, a, b, c, e⟩ := q
  exact ⟨D, a, b, c, fun f hf => by rw [cP_fd h h2]; exact e f hf⟩
-- heaps
theorem iH_mv (hc : ∀ g, 30 ≤ g → g ≤ 35 → σ' g = σ g) (h68 : τ' 68 0 = τ 68 0) (h69 : τ' 69 0 = τ 69 0) (h70 : τ' 70 0 = τ 70 0) (h20 : τ' 50 0 20 = τ 50 0 20) (hi : iH σ τ) : iH σ' τ' := by
  unfold iH
  rw [hc 30 (by omega) (by omega), hc 32 (by omega) (by omega), hc 33 (by omega) (by omega), hc 35 (by omega) (by omega), h68, h69, h70, h20]
  exact hi
-- formes
def bF (τ τ' : ps_S) (f : Nat) : Prop := (∀ c p, c < 9 → p < 6 → τ' 51 0 (54 * f + 6 * c + p) = τ 51 0 (54 * f + 6 * c + p)) ∧ ∀ a b, a < 9 → b < 9 → τ' 58 0 (81 * f + 9 * a + b) = τ 58 0 (81 * f + 9 * a + b)
theorem cF_lk (h : bF τ τ' f) (c : Nat) (hc : c < 9) : mLk τ' f c = mLk τ f c := by
  unfold mLk
  refine propext ⟨fun q => ?_, fun q => ?_⟩
  · obtain ⟨p, hp, q⟩ := q
    exact ⟨p, hp, by rw [← h.1 c p hc hp]; exact q⟩
  · obtain ⟨p, hp, q⟩ := q
    exact ⟨p, hp, by rw [h.1 c p hc hp]; exact q⟩
theorem cF_alk (h : bF τ τ' f) (a b : Nat) (ha : a < 9) (hb : b < 9) : mAlk τ' f a b = mAlk τ f a b := by
  unfold mAlk
  refine propext ⟨fun q p hp => ?_, fun q p hp => ?_⟩
  · rw [← h.1 a p ha hp, ← h.1 b p hb hp]; exact q p hp
  · rw [h.1 a p ha hp, h.1 b p hb hp]; exact q p hp
theorem fl_cg {lk lk' : Nat → Prop} {alk alk' : Nat → Nat → Prop} {m : Nat} (h1 : ∀ c, c < 9 → lk' c = lk c) (h2 : ∀ a b, a < 9 → b < 9 → alk' a b = alk a b) : ∀ (r : Nat) (A : Nat → Nat) (u : Nat), fl lk' alk' m r A u = fl lk alk m r A u
  | 0, _, _ => rfl
  | r + 1, A, u => by
    have e2 : ∀ g, okg lk' alk' A (8 - r) g = okg lk alk A (8 - r) g := fun g => by
      unfold okg
      refine propext ⟨fun q c h h' e => ?_, fun q c h h' e => ?_⟩
      · rw [← h2 c (8 - r) (by omega) (by omega)]
        exact q c h (by rw [h1 c (by omega)]; exact h') e
      · rw [h2 c (8 - r) (by omega) (by omega)]
        exact q c h (by rw [← h1 c (by omega)]; exact h') e
    have e3 : flg lk' alk' m r A u = flg lk alk m r A u := by
      funext g
      unfold flg
      rw [e2 g, fl_cg h1 h2 r]
    have e1 : lk' (8 - r) = lk (8 - r) := h1 _ (by omega)
    by_cases c : lk (8 - r)
    · rw [fl_yes c, fl_yes (show lk' (8 - r) by rw [e1]; exact c), e3]
    · rw [fl_no c, fl_no (show ¬ lk' (8 - r) by rw [e1]; exact c), fl_cg h1 h2 r]
theorem cF_fl (h : bF τ τ' f) (m : Nat) : fl (mLk τ' f) (mAlk τ' f) m 9 A0 0 = fl (mLk τ f) (mAlk τ f) m 9 A0 0 := fl_cg (cF_lk h) (cF_alk h) 9 A0 0
theorem cF_n (h : bF τ τ' f) : nst τ' f = nst τ f := by
  unfold nst
  rw [show exG τ' f = exG τ f from funext fun m => by unfold exG; rw [cF_fl h m]]
theorem cF_g (h : bF τ τ' f) : grp τ' f = grp τ f := by unfold grp; rw [cF_n h, cF_fl h]
theorem cF_st (h : bF τ τ' f) (c : Nat) (hc : c < 9) : stN τ' f c = stN τ f c := by unfold stN; rw [cF_lk h c hc, cF_g h]
theorem cF_gl (h : bF τ τ' f) (s : Int32) (p : Nat) (hp : p < 6) : glN τ' f s p = glN τ f s p := by
  unfold glN
  rw [fst_congr (R := fun c => stN τ f c = s ∧ ¬ τ 51 0 (54 * f + 6 * c + p) = -900009) (fun c _ hc => by rw [cF_st h c (by omega), h.1 c p (by omega) hp])]
  cases q : fstN 9 0 (fun c => stN τ f c = s ∧ ¬ τ 51 0 (54 * f + 6 * c + p) = -900009) with
  | none => rfl
  | some c => exact h.1 c p (by have := fst_lt q; omega) hp
theorem cF_chI (h : bF τ τ' f) : chI τ' f = chI τ f := by
  funext a b
  unfold chI
  exact cnt_congr (fun p hp => by rw [cF_gl h a p hp, cF_gl h b p hp])
theorem cF_ch (h : bF τ τ' f) : chF τ' f = chF τ f := by funext a b; unfold chF; rw [cF_chI h]
theorem cF_nd (h : bF τ τ' f) : ndF τ' f = ndF τ f := by
  funext s t
  unfold ndF
  rw [cF_g h]
  refine propext ⟨fun q => ?_, fun q => ?_⟩
  · obtain ⟨x, y, hx, hy, a, b, c, d⟩ := q
    exact ⟨x, y, hx, hy, by rw [← h.2 x y hx hy]; exact a, by rw [← cF_lk h x hx]; exact b, by rw [← cF_lk h y hy]; exact c, d⟩
  · obtain ⟨x, y, hx, hy, a, b, c, d⟩ := q
    exact ⟨x, y, hx, hy, by rw [h.2 x y hx hy]; exact a, by rw [cF_lk h x hx]; exact b, by rw [cF_lk h y hy]; exact c, d⟩
theorem cF_W (h : bF τ τ' f) : fW τ' f = fW τ f := by unfold fW; rw [cF_n h, cF_nd h, cF_ch h]
theorem cF_ls (h : bF τ τ' f) : lsN τ' f = lsN τ f := by unfold lsN; rw [cF_W h]
theorem cF_fs (h : bF τ τ' f) (i : Nat) : fsN τ' f i = fsN τ f i := by unfold fsN; rw [cF_W h, cF_n h, cF_nd h, cF_ch h]
theorem gOK_b (h : bF τ τ' f) (hg : gOK σ τ f) : gOK σ τ' f := by
  unfold gOK preG at hg ⊢
  rw [cF_n h, cF_g h]
  obtain ⟨⟨a1, a2, a3⟩, b, c, d⟩ := hg
  exact ⟨⟨bm_congr a1 (fun i hi => by rw [cF_lk h i hi]), a2, fun a ha => bm_congr (a3 a ha) (fun b hb => by rw [cF_alk h b a hb ha])⟩, fun g hg => bm_congr (b g hg) (fun i hi => by rw [cF_lk h i hi]), fun c' h1 h2 => c c' h1 (by rw [← cF_lk h c' h1]; exact h2), fun c' h1 h2 => d c' h1 (by rw [← cF_lk h c' h1]; exact h2)⟩
theorem oOK_b (h : bF τ τ' f) (ho : oOK σ τ f) : oOK σ τ' f := by
  unfold oOK
  rw [cF_ls h, cF_W h]
  exact ⟨ho.1, ho.2.1, fun i hi => by rw [cF_fs h]; exact ho.2.2 i hi⟩
/-- what holds of one forme -/
def iF1 (σ τ : ps_S) (f : Nat) : Prop := iL σ τ f ∧ (∀ c p, c < 9 → p < 6 → τ 51 0 (54 * f + 6 * c + p) = -900009 ∨ vp_in (τ 51 0 (54 * f + 6 * c + p)) 10) ∧ tdF σ τ f ∧ (∀ a b, a < 9 → b < 9 → τ 58 0 (81 * f + 9 * a + b) = 0 ∨ τ 58 0 (81 * f + 9 * a + b) = 1) ∧ (σ 3 f 7 = 0 ∨ (σ 3 f 7 = 1 ∧ gOK σ τ f)) ∧ (σ 3 f 11 = 0 ∨ (σ 3 f 11 = 1 ∧ oOK σ τ f))
theorem iF1_mv (h3 : σ' 3 f = σ 3 f) (h5 : ∀ c, c < 9 → σ' 5 (9 * f + c) = σ 5 (9 * f + c)) (h6 : σ' 6 f = σ 6 f) (h7 : σ' 7 f = σ 7 f) (h8 : σ' 8 f = σ 8 f) (h9 : σ' 9 f = σ 9 f) (h10 : σ' 10 f = σ 10 f) (b : bF τ τ' f) (h : iF1 σ τ f) : iF1 σ' τ' f := by
  obtain ⟨a1, a2, a3, a4, a5, a6⟩ := h
  refine ⟨fun c p hc hp => by rw [h5 c hc, b.1 c p hc hp]; exact a1 c p hc hp, fun c p hc hp => by rw [b.1 c p hc hp]; exact a2 c p hc hp, fun a ha => ?_, fun x y hx hy => by rw [b.2 x y hx hy]; exact a4 x y hx hy, ?_, ?_⟩
  · rw [h6]
    exact bm_congr (a3 a ha) (fun i hi => by rw [b.2 a i ha hi])
  · rw [h3]
    exact a5.elim Or.inl (fun z => Or.inr ⟨z.1, gOK_eq (by rw [h3]) (by rw [h3]) h7 h8 h9 (gOK_b b z.2)⟩)
  · rw [h3]
    refine a6.elim Or.inl (fun z => Or.inr ⟨z.1, ?_⟩)
    have w := oOK_b b z.2
    unfold oOK at w ⊢
    rw [h3, h10]
    exact w
theorem iF_mv (hc : ∀ g, 3 ≤ g → g ≤ 10 → σ' g = σ g) (h : ∀ f, f < 6 → bF τ τ' f) (hi : iF σ τ) : iF σ' τ' := fun f hf => iF1_mv (by rw [hc 3 (by omega) (by omega)]) (fun c _ => by rw [hc 5 (by omega) (by omega)]) (by rw [hc 6 (by omega) (by omega)]) (by rw [hc 7 (by omega) (by omega)]) (by rw [hc 8 (by omega) (by omega)]) (by rw [hc 9 (by omega) (by omega)]) (by rw [hc 10 (by omega) (by omega)]) (h f hf) (hi f hf)
theorem bF_of (h51 : τ' 51 0 = τ 51 0) (h58 : τ' 58 0 = τ 58 0) (f : Nat) : bF τ τ' f := ⟨fun _ _ _ _ => by rw [h51], fun _ _ _ _ => by rw [h58]⟩
end CG
/-! ===== all that holds between calls ===== -/
def INV (σ τ : ps_S) : Prop := iF σ τ ∧ iT σ τ ∧ iP σ τ ∧ iH σ τ ∧ iW σ τ
section IV
variable {σ σ' τ τ' ρ : ps_S}
theorem bW_of (h : eqB τ τ') : bW τ τ' := by
  obtain ⟨b1, b2, b3, b4, b5, b6, b7, b8, b9, b10, b11, b12, b13⟩ := h
  exact ⟨b7.symm, b8.symm, b11.symm, b12.symm, b13.symm⟩
theorem INV_mv (hc : ∀ g, g < 50 → σ' g = σ g) (hb : eqB τ τ') (h : INV σ τ) : INV σ' τ' := by
  have hw := bW_of hb
  obtain ⟨b1, b2, b3, b4, b5, b6, b7, b8, b9, b10, b11, b12, b13⟩ := hb
  obtain ⟨hF, hT, hP, hH, hW⟩ := h
  exact ⟨iF_mv (fun g _ _ => hc g (by omega)) (fun f _ => bF_of b1.symm b2.symm f) hF, iT_mv (fun g _ _ => hc g (by omega)) b3.symm hT, iP_mv (hc 24 (by omega)) (hc 28 (by omega)) b3.symm b9.symm hP, iH_mv (fun g _ _ => hc g (by omega)) b4.symm b5.symm b6.symm b10.symm hH, iW_mv (fun g _ _ => hc g (by omega)) hw hW⟩
theorem eqB_of (h : ∀ g, 50 ≤ g → σ' g = σ g) : eqB σ σ' := by
  unfold eqB
  rw [h 50 (by omega), h 51 (by omega), h 58 (by omega), h 63 (by omega), h 68 (by omega), h 69 (by omega), h 70 (by omega), h 74 (by omega), h 75 (by omega)]
  exact ⟨rfl, rfl, rfl, rfl, rfl, rfl, rfl, rfl, rfl, rfl, rfl, rfl, rfl⟩
theorem eqB_trans {a b c : ps_S} (h : eqB a b) (h' : eqB b c) : eqB a c := by
  obtain ⟨b1, b2, b3, b4, b5, b6, b7, b8, b9, b10, b11, b12, b13⟩ := h
  obtain ⟨c1, c2, c3, c4, c5, c6, c7, c8, c9, c10, c11, c12, c13⟩ := h'
  exact ⟨b1.trans c1, b2.trans c2, b3.trans c3, b4.trans c4, b5.trans c5, b6.trans c6, b7.trans c7, b8.trans c8, b9.trans c9, b10.trans c10, b11.trans c11, b12.trans c12, b13.trans c13⟩
/-- behind a question: the class's cells as it left them, then the reference's -/
theorem INV_q (h : INV σ' σ) (hx : ∀ g, 50 ≤ g → σ' g = σ g) (hm : frB σ' ρ) : INV ρ ρ := INV_mv hm.1 (eqB_trans (eqB_of hx) hm.2) h
theorem INV_kF (h : INV σ τ) (k : kF σ σ') (i : iF σ' τ) : INV σ' τ := by
  obtain ⟨hF, hT, hP, hH, hW⟩ := h
  have e : ∀ g, 18 < g → σ' g = σ g := fun g x => k g (by omega) (by omega) (by omega) (by omega) (by omega) (by omega)
  exact ⟨i, iT_mv (fun g a b => e g (by omega)) rfl hT, iP_mv (e 24 (by omega)) (e 28 (by omega)) rfl rfl hP, iH_mv (fun g a b => e g (by omega)) rfl rfl rfl rfl hH, iW_mv (fun g a b => e g (by omega)) ⟨rfl, rfl, rfl, rfl, rfl⟩ hW⟩
theorem kF_50 (k : kF σ σ') : ∀ g, 50 ≤ g → σ' g = σ g := fun g x => k g (by omega) (by omega) (by omega) (by omega) (by omega) (by omega)
theorem INV_kP (h : INV σ τ) (k : kP σ σ') (i : iP σ' τ) : INV σ' τ := by
  obtain ⟨hF, hT, hP, hH, hW⟩ := h
  have e : ∀ g, g < 24 ∨ 29 < g → σ' g = σ g := fun g x => k.1 g (by omega) (by omega)
  exact ⟨iF_mv (fun g a b => e g (by omega)) (fun f _ => bF_of rfl rfl f) hF, iT_mv (fun g a b => e g (by omega)) rfl hT, i, iH_mv (fun g a b => e g (by omega)) rfl rfl rfl rfl hH, iW_mv (fun g a b => e g (by omega)) ⟨rfl, rfl, rfl, rfl, rfl⟩ hW⟩
theorem kP_50 (k : kP σ σ') : ∀ g, 50 ≤ g → σ' g = σ g := fun g x => k.1 g (by omega) (by omega)
theorem INV_kW (h : INV σ τ) (k : frW σ σ') (i : iW σ' τ) : INV σ' τ := by
  obtain ⟨hF, hT, hP, hH, hW⟩ := h
  have e : ∀ g, g < 36 → σ' g = σ g := fun g x => k.1 g (by omega) (by omega) (by omega) (by omega) (by omega)
  exact ⟨iF_mv (fun g a b => e g (by omega)) (fun f _ => bF_of rfl rfl f) hF, iT_mv (fun g a b => e g (by omega)) rfl hT, iP_mv (e 24 (by omega)) (e 28 (by omega)) rfl rfl hP, iH_mv (fun g a b => e g (by omega)) rfl rfl rfl rfl hH, i⟩
theorem kW_50 (k : frW σ σ') : ∀ g, 50 ≤ g → σ' g = σ g := fun g x => k.1 g (by omega) (by omega) (by omega) (by omega) (by omega)
theorem frB_P (h : frP σ ρ) : frB σ ρ := frB_of (fun g _ _ _ _ _ a b c => h g a b c) (fun j _ => by rw [h 50 (by omega) (by omega) (by omega)])
theorem frB_R (h : frR σ ρ) : frB σ ρ := by
  refine ⟨fun g x => h g (by omega) (by omega) (by omega), ?_⟩
  unfold eqB
  rw [h 50 (by omega) (by omega) (by omega), h 51 (by omega) (by omega) (by omega), h 58 (by omega) (by omega) (by omega), h 63 (by omega) (by omega) (by omega), h 68 (by omega) (by omega) (by omega), h 69 (by omega) (by omega) (by omega), h 70 (by omega) (by omega) (by omega), h 74 (by omega) (by omega) (by omega), h 75 (by omega) (by omega) (by omega)]
  exact ⟨rfl, rfl, rfl, rfl, rfl, rfl, rfl, rfl, rfl, rfl, rfl, rfl, rfl⟩
theorem frB_65 (h : ∀ g, g ≠ 65 → ρ g = σ g) : frB σ ρ := frB_P (fun g a _ _ => h g a)
end IV

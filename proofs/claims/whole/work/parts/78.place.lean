/-! ===== where the cells of the two objects lie, once both are made ===== -/
def lc_sh (i : Nat) (q : Nat × Nat) : Nat × Nat := (q.1, if q.1 = 5 then 9 * i + q.2 else i)
def lc_F (j : Nat) : List (Nat × Nat) := (List.range j).flatMap fun i => lcX0.map (lc_sh i)
/-- the cells in the order in which they are made -/
def lc_all : List (Nat × Nat) := ((1, 0) :: ((((((((2, 0) :: lc_F 6) ++ lcX5) ++ lcX3) ++ lcX6) ++ lcX4) ++ lcX1) ++ lcX2)) ++ lcX8
set_option maxRecDepth 100000 in
theorem lc_perm : lc_all.Perm ps_cells := List.isPerm_iff.mp (by decide +kernel)
def lc_w (G : ps_G) (q : Nat × Nat) : Nat × va_E := (G.1 q.1 q.2, ps_E G q (σ0 q.1 q.2))
theorem lc_P {G : ps_G} {ws : va_W} {H : Heap} (hw : ws = lc_all.map (lc_w G)) (h : va_P G.2.1 ps_cls ws H) : va_P G.2.1 ps_cls (ps_ws G σ0) H := by
  intro k q hk
  have hm : q ∈ ws := by
    rw [hw]
    have hq : q ∈ ps_cells.map (lc_w G) := List.mem_of_getElem? hk
    exact ((lc_perm.map (lc_w G)).mem_iff).mpr hq
  obtain ⟨i, hi⟩ := List.getElem?_of_mem hm
  exact h i q hi
theorem lc_nd {A : Nat → Prop} {ws : va_W} (h : va_D A ws) : (ws.map Prod.fst).Nodup := by
  refine List.pairwise_map.mpr (List.pairwise_iff_getElem.mpr fun i j hi hj hij e => ?_)
  have := h.1 i j _ _ (List.getElem?_eq_getElem hi) (List.getElem?_eq_getElem hj) e
  omega
theorem lc_dn {A : Nat → Prop} {ws : va_W} (h : (ws.map Prod.fst).Nodup) (hA : ∀ q ∈ ws, A q.1) : va_D A ws := by
  refine ⟨fun i j p q hi hj e => ?_, fun k q hk => hA q (List.mem_of_getElem? hk)⟩
  have hl : i < (ws.map Prod.fst).length := by
    rw [List.length_map]
    exact (List.getElem?_eq_some_iff.mp hi).1
  refine (List.getElem?_inj hl h).mp ?_
  rw [List.getElem?_map, List.getElem?_map, hi, hj]
  exact congrArg some e
theorem lc_D {G : ps_G} {ws : va_W} {A : Nat → Prop} (hw : ws = lc_all.map (lc_w G)) (h : va_D A ws) : va_D (ps_A G) (ps_ws G σ0) := by
  refine lc_dn ?_ (fun q hq => ?_)
  · have h1 := lc_nd h
    rw [hw] at h1
    exact (((lc_perm.map (lc_w G)).map Prod.fst).nodup_iff).mp h1
  · obtain ⟨c, hc, rfl⟩ := List.mem_map.mp hq
    exact ⟨c, hc, rfl⟩
theorem lc_A {G : ps_G} {ws : va_W} {A : Nat → Prop} (hw : ws = lc_all.map (lc_w G)) (h : va_D A ws) : ∀ a, ps_A G a → A a := by
  rintro a ⟨q, hq, rfl⟩
  have hm : lc_w G q ∈ ws := by
    rw [hw]
    exact List.mem_map.mpr ⟨q, lc_perm.mem_iff.mpr hq, rfl⟩
  obtain ⟨i, hi⟩ := List.getElem?_of_mem hm
  exact h.2 i _ hi
/-- the families that a cell points into -/
def lc_rf : ((Nat × List (Option Nat)) ⊕ (Nat × Nat × Option Nat)) → List Nat
  | .inl (_, fs) => fs.filterMap id
  | .inr (_, _, o) => o.toList
theorem lc_E {ad ad' : Nat → Nat → Nat} {g : cs_G} {q : Nat × Nat} {φ : Nat → Int32} (h : ∀ f ∈ lc_rf (ps_sh q.1).2, ad f = ad' f) : ps_E (ad, g) q φ = ps_E (ad', g) q φ := by
  unfold ps_E
  revert h
  generalize (ps_sh q.1).2 = t
  intro h
  match t, h with
  | .inl (ci, fs), h =>
    have e : fs.mapIdx (ps_fld (ad, g) φ q.2) = fs.mapIdx (ps_fld (ad', g) φ q.2) := by
      apply List.ext_getElem?
      intro i
      rw [List.getElem?_mapIdx, List.getElem?_mapIdx]
      cases ho : fs[i]? with
      | none => rfl
      | some o =>
        cases o with
        | none => rfl
        | some f =>
          have e1 : ad f = ad' f := h f (List.mem_filterMap.mpr ⟨some f, List.mem_of_getElem? ho, rfl⟩)
          show some (Value.ref (ad f q.2)) = some (Value.ref (ad' f q.2))
          rw [e1]
    exact congrArg (fun z => (.inr (ci, z) : va_E)) e
  | .inr (ay, n, none), _ => rfl
  | .inr (ay, n, some f), h =>
    have e1 : ad f = ad' f := h f (List.mem_singleton.mpr rfl)
    show (.inl (g.2 ay, n, .inr (.inr (.inr (.inr (fun j => if j < n then some (ad f (n * q.2 + j)) else none))))) : va_E) = .inl (g.2 ay, n, .inr (.inr (.inr (.inr (fun j => if j < n then some (ad' f (n * q.2 + j)) else none)))))
    rw [e1]
theorem lc_blk {LC : List (Nat × Nat)} {g : cs_G} {ad ad' : Nat → Nat → Nat} (lo hi : Nat) (h : ∀ f, lo ≤ f → f < hi → ad' f = ad f) (hc : ∀ q ∈ LC, (lo ≤ q.1 ∧ q.1 < hi) ∧ ∀ f ∈ lc_rf (ps_sh q.1).2, lo ≤ f ∧ f < hi) : cs_blk LC g ad = LC.map (lc_w (ad', g)) := by
  apply List.map_congr_left
  intro q hq
  obtain ⟨⟨h1, h2⟩, h3⟩ := hc q hq
  show (ad q.1 q.2, ps_E (ad, g) q (σ0 q.1 q.2)) = (ad' q.1 q.2, ps_E (ad', g) q (σ0 q.1 q.2))
  rw [h q.1 h1 h2, lc_E (ad := ad) (ad' := ad') (fun f hf => (h f (h3 f hf).1 (h3 f hf).2).symm)]
/-- the i-th forme -/
theorem lc_blk0 {g : cs_G} {ad : Nat → Nat → Nat → Nat} {A : Nat → Nat → Nat} {i : Nat} (h : ∀ f k, 3 ≤ f → f < 11 → A f k = if f = 5 then ad (k / 9) 5 (k % 9) else ad k f 0) : cs_blk lcX0 g (ad i) = (lcX0.map (lc_sh i)).map (lc_w (A, g)) := by
  have hn : ∀ f, 3 ≤ f → f < 11 → f ≠ 5 → A f i = ad i f 0 := fun f h1 h2 h3 => by rw [h f i h1 h2, if_neg h3]
  have h5 : ∀ k, k < 9 → A 5 (9 * i + k) = ad i 5 k := fun k hk => by
    rw [h 5 _ (by decide) (by decide), if_pos rfl, show (9 * i + k) / 9 = i by omega, show (9 * i + k) % 9 = k by omega]
  rw [List.map_map]
  apply List.map_congr_left
  intro q hq
  have hq' : q = (3, 0) ∨ q = (4, 0) ∨ (∃ k, k < 9 ∧ q = (5, k)) ∨ q = (6, 0) ∨ q = (7, 0) ∨ q = (8, 0) ∨ q = (9, 0) ∨ q = (10, 0) := by
    simp only [lcX0, List.mem_append, List.mem_singleton, List.mem_map, List.mem_range] at hq
    rcases hq with ((((((hq | hq) | ⟨k, hk, rfl⟩) | hq) | hq) | hq) | hq) | hq
    · exact Or.inl hq
    · exact Or.inr (Or.inl hq)
    · exact Or.inr (Or.inr (Or.inl ⟨k, hk, rfl⟩))
    · exact Or.inr (Or.inr (Or.inr (Or.inl hq)))
    · exact Or.inr (Or.inr (Or.inr (Or.inr (Or.inl hq))))
    · exact Or.inr (Or.inr (Or.inr (Or.inr (Or.inr (Or.inl hq)))))
    · exact Or.inr (Or.inr (Or.inr (Or.inr (Or.inr (Or.inr (Or.inl hq))))))
    · exact Or.inr (Or.inr (Or.inr (Or.inr (Or.inr (Or.inr (Or.inr hq))))))
  have hI : ∀ f, 3 ≤ f → f < 11 → f ≠ 5 → (ps_sh f).2 = .inr (0, 9, none) → (ad i f 0, ps_E (ad i, g) (f, 0) (σ0 f 0)) = (A f i, ps_E (A, g) (f, i) (σ0 f i)) := fun f h1 h2 h3 hs => by
    rw [hn f h1 h2 h3, ps_E_arr hs, ps_E_arr hs]
    rfl
  rcases hq' with rfl | rfl | ⟨k, hk, rfl⟩ | rfl | rfl | rfl | rfl | rfl
  · show (ad i 3 0, ps_E (ad i, g) (3, 0) (σ0 3 0)) = (A 3 i, ps_E (A, g) (3, i) (σ0 3 i))
    rw [hn 3 (by decide) (by decide) (by decide), ps_E_obj sh_3, ps_E_obj sh_3]
    show (ad i 3 0, (.inr (0, [.ref (ad i 4 0), .ref (ad i 6 0), .ref (ad i 7 0), .ref (ad i 8 0), .ref (ad i 9 0), .int (σ0 3 0 5), .int (σ0 3 0 6), .int (σ0 3 0 7), .ref (ad i 10 0), .int (σ0 3 0 9), .int (σ0 3 0 10), .int (σ0 3 0 11)]) : va_E)) = (ad i 3 0, .inr (0, [.ref (A 4 i), .ref (A 6 i), .ref (A 7 i), .ref (A 8 i), .ref (A 9 i), .int (σ0 3 i 5), .int (σ0 3 i 6), .int (σ0 3 i 7), .ref (A 10 i), .int (σ0 3 i 9), .int (σ0 3 i 10), .int (σ0 3 i 11)]))
    rw [hn 4 (by decide) (by decide) (by decide), hn 6 (by decide) (by decide) (by decide), hn 7 (by decide) (by decide) (by decide), hn 8 (by decide) (by decide) (by decide), hn 9 (by decide) (by decide) (by decide), hn 10 (by decide) (by decide) (by decide)]
    rfl
  · show (ad i 4 0, ps_E (ad i, g) (4, 0) (σ0 4 0)) = (A 4 i, ps_E (A, g) (4, i) (σ0 4 i))
    rw [hn 4 (by decide) (by decide) (by decide), ps_E_ref sh_4, ps_E_ref sh_4]
    have e : (fun j => if j < 9 then some (ad i 5 (9 * 0 + j)) else none) = fun j => if j < 9 then some (A 5 (9 * i + j)) else none := by
      funext j
      by_cases c : j < 9
      · rw [if_pos c, if_pos c, h5 j c, Nat.mul_zero, Nat.zero_add]
      · rw [if_neg c, if_neg c]
    exact congrArg (fun z => (ad i 4 0, (.inl (g.2 2, 9, .inr (.inr (.inr (.inr z)))) : va_E))) e
  · show (ad i 5 k, ps_E (ad i, g) (5, k) (σ0 5 k)) = (A 5 (9 * i + k), ps_E (A, g) (5, 9 * i + k) (σ0 5 (9 * i + k)))
    rw [h5 k hk, ps_E_arr sh_5, ps_E_arr sh_5]
    rfl
  · exact hI 6 (by decide) (by decide) (by decide) sh_6
  · exact hI 7 (by decide) (by decide) (by decide) sh_7
  · exact hI 8 (by decide) (by decide) (by decide) sh_8
  · exact hI 9 (by decide) (by decide) (by decide) sh_9
  · exact hI 10 (by decide) (by decide) (by decide) sh_10
theorem lc_fr {g : cs_G} {ad : Nat → Nat → Nat → Nat} {A : Nat → Nat → Nat} (h : ∀ f k, 3 ≤ f → f < 11 → A f k = if f = 5 then ad (k / 9) 5 (k % 9) else ad k f 0) : ∀ j, frB7 g ad j = (lc_F j).map (lc_w (A, g))
  | 0 => rfl
  | j + 1 => by
    have e : lc_F (j + 1) = lc_F j ++ lcX0.map (lc_sh j) := by
      unfold lc_F
      rw [List.range_succ, List.flatMap_append]
      simp
    show frB7 g ad j ++ cs_blk lcX0 g (ad j) = _
    rw [e, List.map_append, lc_fr h j, lc_blk0 h]
def lc_ad (b h0 qf : Nat) (ad : Nat → Nat → Nat → Nat) (a5 a3 a6 a4 a1 a2 a8 : Nat → Nat → Nat) : Nat → Nat → Nat := fun f k =>
  if f = 0 then b else if f = 1 then h0 else if f = 2 then qf else if f < 11 then (if f = 5 then ad (k / 9) 5 (k % 9) else ad k f 0) else if f < 15 then a5 f k else if f < 19 then a3 f k else if f < 24 then a6 f k else if f < 30 then a4 f k else if f < 36 then a1 f k else if f < 49 then a2 f k else a8 f k
section LCW
variable {g : cs_G} {b h0 qf : Nat} {ad : Nat → Nat → Nat → Nat} {a5 a3 a6 a4 a1 a2 a8 : Nat → Nat → Nat}
theorem lc_world : ((h0, .inr (7, [.ref qf, .ref (a5 11 0), .ref (a3 15 0), .ref (a6 19 0), .ref (a4 24 0), .ref (a1 30 0), .ref (a2 36 0)])) :: (((((((((qf, .inl (g.2 3, 6, .inr (.inr (.inr (.inr (fun i => if i < 6 then some (ad i 3 0) else none)))))) :: frB7 g ad 6)) ++ cs_blk lcX5 g a5) ++ cs_blk lcX3 g a3) ++ cs_blk lcX6 g a6) ++ cs_blk lcX4 g a4) ++ cs_blk lcX1 g a1) ++ cs_blk lcX2 g a2)) ++ cs_blk lcX8 g a8 = lc_all.map (lc_w (lc_ad b h0 qf ad a5 a3 a6 a4 a1 a2 a8, g)) := by
  generalize hA : lc_ad b h0 qf ad a5 a3 a6 a4 a1 a2 a8 = A
  have hv : ∀ f k, A f k = if f = 0 then b else if f = 1 then h0 else if f = 2 then qf else if f < 11 then (if f = 5 then ad (k / 9) 5 (k % 9) else ad k f 0) else if f < 15 then a5 f k else if f < 19 then a3 f k else if f < 24 then a6 f k else if f < 30 then a4 f k else if f < 36 then a1 f k else if f < 49 then a2 f k else a8 f k := fun f k => by rw [← hA]; rfl
  have hF : ∀ f k, 3 ≤ f → f < 11 → A f k = if f = 5 then ad (k / 9) 5 (k % 9) else ad k f 0 := fun f k h1 h2 => by
    rw [hv, if_neg (show ¬ f = 0 by omega), if_neg (show ¬ f = 1 by omega), if_neg (show ¬ f = 2 by omega), if_pos h2]
  have e5 : ∀ f, 11 ≤ f → f < 15 → A f = a5 f := fun f h1 h2 => by
    funext k
    rw [hv, if_neg (show ¬ f = 0 by omega), if_neg (show ¬ f = 1 by omega), if_neg (show ¬ f = 2 by omega), if_neg (show ¬ f < 11 by omega), if_pos h2]
  have e3 : ∀ f, 15 ≤ f → f < 19 → A f = a3 f := fun f h1 h2 => by
    funext k
    rw [hv, if_neg (show ¬ f = 0 by omega), if_neg (show ¬ f = 1 by omega), if_neg (show ¬ f = 2 by omega), if_neg (show ¬ f < 11 by omega), if_neg (show ¬ f < 15 by omega), if_pos h2]
  have e6 : ∀ f, 19 ≤ f → f < 24 → A f = a6 f := fun f h1 h2 => by
    funext k
    rw [hv, if_neg (show ¬ f = 0 by omega), if_neg (show ¬ f = 1 by omega), if_neg (show ¬ f = 2 by omega), if_neg (show ¬ f < 11 by omega), if_neg (show ¬ f < 15 by omega), if_neg (show ¬ f < 19 by omega), if_pos h2]
  have e4 : ∀ f, 24 ≤ f → f < 30 → A f = a4 f := fun f h1 h2 => by
    funext k
    rw [hv, if_neg (show ¬ f = 0 by omega), if_neg (show ¬ f = 1 by omega), if_neg (show ¬ f = 2 by omega), if_neg (show ¬ f < 11 by omega), if_neg (show ¬ f < 15 by omega), if_neg (show ¬ f < 19 by omega), if_neg (show ¬ f < 24 by omega), if_pos h2]
  have e1 : ∀ f, 30 ≤ f → f < 36 → A f = a1 f := fun f h1 h2 => by
    funext k
    rw [hv, if_neg (show ¬ f = 0 by omega), if_neg (show ¬ f = 1 by omega), if_neg (show ¬ f = 2 by omega), if_neg (show ¬ f < 11 by omega), if_neg (show ¬ f < 15 by omega), if_neg (show ¬ f < 19 by omega), if_neg (show ¬ f < 24 by omega), if_neg (show ¬ f < 30 by omega), if_pos h2]
  have e2 : ∀ f, 36 ≤ f → f < 49 → A f = a2 f := fun f h1 h2 => by
    funext k
    rw [hv, if_neg (show ¬ f = 0 by omega), if_neg (show ¬ f = 1 by omega), if_neg (show ¬ f = 2 by omega), if_neg (show ¬ f < 11 by omega), if_neg (show ¬ f < 15 by omega), if_neg (show ¬ f < 19 by omega), if_neg (show ¬ f < 24 by omega), if_neg (show ¬ f < 30 by omega), if_neg (show ¬ f < 36 by omega), if_pos h2]
  have e8 : ∀ f, 50 ≤ f → f < 80 → A f = a8 f := fun f h1 h2 => by
    funext k
    rw [hv, if_neg (show ¬ f = 0 by omega), if_neg (show ¬ f = 1 by omega), if_neg (show ¬ f = 2 by omega), if_neg (show ¬ f < 11 by omega), if_neg (show ¬ f < 15 by omega), if_neg (show ¬ f < 19 by omega), if_neg (show ¬ f < 24 by omega), if_neg (show ¬ f < 30 by omega), if_neg (show ¬ f < 36 by omega), if_neg (show ¬ f < 49 by omega)]
  have r1 : ((h0, .inr (7, [.ref qf, .ref (a5 11 0), .ref (a3 15 0), .ref (a6 19 0), .ref (a4 24 0), .ref (a1 30 0), .ref (a2 36 0)])) : Nat × va_E) = lc_w (A, g) (1, 0) := by
    show _ = (A 1 0, ps_E (A, g) (1, 0) (σ0 1 0))
    rw [ps_E_obj sh_1]
    show _ = (A 1 0, (.inr (7, [.ref (A 2 0), .ref (A 11 0), .ref (A 15 0), .ref (A 19 0), .ref (A 24 0), .ref (A 30 0), .ref (A 36 0)]) : va_E))
    rw [e5 11 (by decide) (by decide), e3 15 (by decide) (by decide), e6 19 (by decide) (by decide), e4 24 (by decide) (by decide), e1 30 (by decide) (by decide), e2 36 (by decide) (by decide), show A 1 0 = h0 from hv 1 0, show A 2 0 = qf from hv 2 0]
  have r2 : ((qf, .inl (g.2 3, 6, .inr (.inr (.inr (.inr (fun i => if i < 6 then some (ad i 3 0) else none)))))) : Nat × va_E) = lc_w (A, g) (2, 0) := by
    show _ = (A 2 0, ps_E (A, g) (2, 0) (σ0 2 0))
    rw [ps_E_ref sh_2, show A 2 0 = qf from hv 2 0]
    have e : (fun i => if i < 6 then some (ad i 3 0) else none) = fun j => if j < 6 then some (A 3 (6 * 0 + j)) else none := by
      funext j
      rw [hF 3 _ (by decide) (by decide), if_neg (show ¬ (3 : Nat) = 5 by decide), Nat.mul_zero, Nat.zero_add]
    exact congrArg (fun z => (qf, (.inl (g.2 3, 6, .inr (.inr (.inr (.inr z)))) : va_E))) e
  rw [r1, r2, lc_fr hF 6, lc_blk 11 15 e5 (by decide +kernel), lc_blk 15 19 e3 (by decide +kernel), lc_blk 19 24 e6 (by decide +kernel), lc_blk 24 30 e4 (by decide +kernel), lc_blk 30 36 e1 (by decide +kernel), lc_blk 36 49 e2 (by decide +kernel), lc_blk 50 80 e8 (by decide +kernel)]
  unfold lc_all
  simp only [List.map_append, List.map_cons]
end LCW

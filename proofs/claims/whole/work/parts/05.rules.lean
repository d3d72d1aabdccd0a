/-! ===== the rules, a row an instruction (2) ===== -/
section PSL
variable {M : ps_M} {d pc : Nat} {F : ps_F} {L L' : ps_L} {st : List ps_V} {σ : ps_S}
theorem ps_idiv {x y : Int32} (hd : decode (ps_code M) pc = .ok (.idiv, 1)) (hn : ¬ y = 0) (k : ps_K M d F (pc + 1) L (.inl (x / y) :: st) σ) : ps_K M d F pc L (.inl y :: .inl x :: st) σ :=
  fun G p l e R s m args below meth c H locs ls hI => lv_idiv hI.1.1 hI.1.2.1 hd hn (k G p l e R s m args below meth c H locs ls (hI.to (ps_ok_i (ps_ok_t2 hI.2.2.1))))
theorem ps_irem {x y : Int32} (hd : decode (ps_code M) pc = .ok (.irem, 1)) (hn : ¬ y = 0) (k : ps_K M d F (pc + 1) L (.inl (x - x / y * y) :: st) σ) : ps_K M d F pc L (.inl y :: .inl x :: st) σ :=
  fun G p l e R s m args below meth c H locs ls hI => lv_irem hI.1.1 hI.1.2.1 hd hn (k G p l e R s m args below meth c H locs ls (hI.to (ps_ok_i (ps_ok_t2 hI.2.2.1))))
theorem ps_ishl {x y : Int32} (hd : decode (ps_code M) pc = .ok (.ishl, 1)) (k : ps_K M d F (pc + 1) L (.inl (x <<< (y &&& 31)) :: st) σ) : ps_K M d F pc L (.inl y :: .inl x :: st) σ :=
  fun G p l e R s m args below meth c H locs ls hI => lv_ishl hI.1.1 hI.1.2.1 hd (k G p l e R s m args below meth c H locs ls (hI.to (ps_ok_i (ps_ok_t2 hI.2.2.1))))
theorem ps_ishr {x y : Int32} (hd : decode (ps_code M) pc = .ok (.ishr, 1)) (k : ps_K M d F (pc + 1) L (.inl (x >>> (y &&& 31)) :: st) σ) : ps_K M d F pc L (.inl y :: .inl x :: st) σ :=
  fun G p l e R s m args below meth c H locs ls hI => lv_ishr hI.1.1 hI.1.2.1 hd (k G p l e R s m args below meth c H locs ls (hI.to (ps_ok_i (ps_ok_t2 hI.2.2.1))))
theorem ps_iushr {x y : Int32} (hd : decode (ps_code M) pc = .ok (.iushr, 1)) (k : ps_K M d F (pc + 1) L (.inl ((x.toUInt32 >>> (y.toUInt32 &&& Int32.toUInt32 31)).toInt32) :: st) σ) : ps_K M d F pc L (.inl y :: .inl x :: st) σ :=
  fun G p l e R s m args below meth c H locs ls hI => lv_iushr hI.1.1 hI.1.2.1 hd rfl (k G p l e R s m args below meth c H locs ls (hI.to (ps_ok_i (ps_ok_t2 hI.2.2.1))))
theorem ps_ineg {x : Int32} (hd : decode (ps_code M) pc = .ok (.ineg, 1)) (k : ps_K M d F (pc + 1) L (.inl (-x) :: st) σ) : ps_K M d F pc L (.inl x :: st) σ :=
  fun G p l e R s m args below meth c H locs ls hI => lv_ineg hI.1.1 hI.1.2.1 hd (k G p l e R s m args below meth c H locs ls (hI.to (ps_ok_i (ps_ok_t hI.2.2.1))))
theorem ps_dup_i {x : Int32} (hd : decode (ps_code M) pc = .ok (.dup, 1)) (k : ps_K M d F (pc + 1) L (.inl x :: .inl x :: st) σ) : ps_K M d F pc L (.inl x :: st) σ :=
  fun G p l e R s m args below meth c H locs ls hI => lv_dup hI.1.1 hI.1.2.1 hd rfl (k G p l e R s m args below meth c H locs ls (hI.to (ps_ok_i hI.2.2.1)))
theorem ps_dup_r {q : Nat × Nat} (hd : decode (ps_code M) pc = .ok (.dup, 1)) (k : ps_K M d F (pc + 1) L (.inr (.inr q) :: .inr (.inr q) :: st) σ) : ps_K M d F pc L (.inr (.inr q) :: st) σ :=
  fun G p l e R s m args below meth c H locs ls hI => lv_dup hI.1.1 hI.1.2.1 hd rfl (k G p l e R s m args below meth c H locs ls (hI.to (ps_ok_c (hI.2.2.1 _ List.mem_cons_self) hI.2.2.1)))
theorem ps_dup2 {x : Int32} {q : Nat × Nat} (hd : decode (ps_code M) pc = .ok (.dup2, 1)) (k : ps_K M d F (pc + 1) L (.inl x :: .inr (.inr q) :: .inl x :: .inr (.inr q) :: st) σ) : ps_K M d F pc L (.inl x :: .inr (.inr q) :: st) σ :=
  fun G p l e R s m args below meth c H locs ls hI => lv_dup2_11 hI.1.1 hI.1.2.1 hd rfl rfl (k G p l e R s m args below meth c H locs ls (hI.to (ps_ok_i (ps_ok_c (hI.2.2.1 _ (List.mem_cons_of_mem _ List.mem_cons_self)) hI.2.2.1))))
theorem ps_if_eq {x : Int32} {off : Int} {tgt : Nat} (hd : decode (ps_code M) pc = .ok (.ifCond .eq off, 3)) (ht : (pc : Int) + off = (tgt : Int)) (kt : x = 0 → ps_K M d F tgt L st σ) (kf : ¬ x = 0 → ps_K M d F (pc + 3) L st σ) : ps_K M d F pc L (.inl x :: st) σ :=
  fun G p l e R s m args below meth c H locs ls hI => lv_if_eq hI.1.1 hI.1.2.1 hd ht (fun h => kt h G p l e R s m args below meth c H locs ls (hI.to (ps_ok_t hI.2.2.1))) (fun h => kf h G p l e R s m args below meth c H locs ls (hI.to (ps_ok_t hI.2.2.1)))
theorem ps_icmp_eq {x y : Int32} {off : Int} {tgt : Nat} (hd : decode (ps_code M) pc = .ok (.if_icmp .eq off, 3)) (ht : (pc : Int) + off = (tgt : Int)) (kt : x = y → ps_K M d F tgt L st σ) (kf : ¬ x = y → ps_K M d F (pc + 3) L st σ) : ps_K M d F pc L (.inl y :: .inl x :: st) σ :=
  fun G p l e R s m args below meth c H locs ls hI => lv_icmp_eq hI.1.1 hI.1.2.1 hd ht (fun h => kt h G p l e R s m args below meth c H locs ls (hI.to (ps_ok_t2 hI.2.2.1))) (fun h => kf h G p l e R s m args below meth c H locs ls (hI.to (ps_ok_t2 hI.2.2.1)))
theorem ps_if_ne {x : Int32} {off : Int} {tgt : Nat} (hd : decode (ps_code M) pc = .ok (.ifCond .ne off, 3)) (ht : (pc : Int) + off = (tgt : Int)) (kt : ¬ x = 0 → ps_K M d F tgt L st σ) (kf : x = 0 → ps_K M d F (pc + 3) L st σ) : ps_K M d F pc L (.inl x :: st) σ :=
  fun G p l e R s m args below meth c H locs ls hI => lv_if_ne hI.1.1 hI.1.2.1 hd ht (fun h => kt h G p l e R s m args below meth c H locs ls (hI.to (ps_ok_t hI.2.2.1))) (fun h => kf h G p l e R s m args below meth c H locs ls (hI.to (ps_ok_t hI.2.2.1)))
theorem ps_icmp_ne {x y : Int32} {off : Int} {tgt : Nat} (hd : decode (ps_code M) pc = .ok (.if_icmp .ne off, 3)) (ht : (pc : Int) + off = (tgt : Int)) (kt : ¬ x = y → ps_K M d F tgt L st σ) (kf : x = y → ps_K M d F (pc + 3) L st σ) : ps_K M d F pc L (.inl y :: .inl x :: st) σ :=
  fun G p l e R s m args below meth c H locs ls hI => lv_icmp_ne hI.1.1 hI.1.2.1 hd ht (fun h => kt h G p l e R s m args below meth c H locs ls (hI.to (ps_ok_t2 hI.2.2.1))) (fun h => kf h G p l e R s m args below meth c H locs ls (hI.to (ps_ok_t2 hI.2.2.1)))
theorem ps_if_lt {x : Int32} {off : Int} {tgt : Nat} (hd : decode (ps_code M) pc = .ok (.ifCond .lt off, 3)) (ht : (pc : Int) + off = (tgt : Int)) (kt : x < 0 → ps_K M d F tgt L st σ) (kf : ¬ x < 0 → ps_K M d F (pc + 3) L st σ) : ps_K M d F pc L (.inl x :: st) σ :=
  fun G p l e R s m args below meth c H locs ls hI => lv_if_lt hI.1.1 hI.1.2.1 hd ht (fun h => kt h G p l e R s m args below meth c H locs ls (hI.to (ps_ok_t hI.2.2.1))) (fun h => kf h G p l e R s m args below meth c H locs ls (hI.to (ps_ok_t hI.2.2.1)))
theorem ps_icmp_lt {x y : Int32} {off : Int} {tgt : Nat} (hd : decode (ps_code M) pc = .ok (.if_icmp .lt off, 3)) (ht : (pc : Int) + off = (tgt : Int)) (kt : x < y → ps_K M d F tgt L st σ) (kf : ¬ x < y → ps_K M d F (pc + 3) L st σ) : ps_K M d F pc L (.inl y :: .inl x :: st) σ :=
  fun G p l e R s m args below meth c H locs ls hI => lv_icmp_lt hI.1.1 hI.1.2.1 hd ht (fun h => kt h G p l e R s m args below meth c H locs ls (hI.to (ps_ok_t2 hI.2.2.1))) (fun h => kf h G p l e R s m args below meth c H locs ls (hI.to (ps_ok_t2 hI.2.2.1)))
theorem ps_if_ge {x : Int32} {off : Int} {tgt : Nat} (hd : decode (ps_code M) pc = .ok (.ifCond .ge off, 3)) (ht : (pc : Int) + off = (tgt : Int)) (kt : 0 ≤ x → ps_K M d F tgt L st σ) (kf : ¬ 0 ≤ x → ps_K M d F (pc + 3) L st σ) : ps_K M d F pc L (.inl x :: st) σ :=
  fun G p l e R s m args below meth c H locs ls hI => lv_if_ge hI.1.1 hI.1.2.1 hd ht (fun h => kt h G p l e R s m args below meth c H locs ls (hI.to (ps_ok_t hI.2.2.1))) (fun h => kf h G p l e R s m args below meth c H locs ls (hI.to (ps_ok_t hI.2.2.1)))
theorem ps_icmp_ge {x y : Int32} {off : Int} {tgt : Nat} (hd : decode (ps_code M) pc = .ok (.if_icmp .ge off, 3)) (ht : (pc : Int) + off = (tgt : Int)) (kt : y ≤ x → ps_K M d F tgt L st σ) (kf : ¬ y ≤ x → ps_K M d F (pc + 3) L st σ) : ps_K M d F pc L (.inl y :: .inl x :: st) σ :=
  fun G p l e R s m args below meth c H locs ls hI => lv_icmp_ge hI.1.1 hI.1.2.1 hd ht (fun h => kt h G p l e R s m args below meth c H locs ls (hI.to (ps_ok_t2 hI.2.2.1))) (fun h => kf h G p l e R s m args below meth c H locs ls (hI.to (ps_ok_t2 hI.2.2.1)))
theorem ps_if_gt {x : Int32} {off : Int} {tgt : Nat} (hd : decode (ps_code M) pc = .ok (.ifCond .gt off, 3)) (ht : (pc : Int) + off = (tgt : Int)) (kt : 0 < x → ps_K M d F tgt L st σ) (kf : ¬ 0 < x → ps_K M d F (pc + 3) L st σ) : ps_K M d F pc L (.inl x :: st) σ :=
  fun G p l e R s m args below meth c H locs ls hI => lv_if_gt hI.1.1 hI.1.2.1 hd ht (fun h => kt h G p l e R s m args below meth c H locs ls (hI.to (ps_ok_t hI.2.2.1))) (fun h => kf h G p l e R s m args below meth c H locs ls (hI.to (ps_ok_t hI.2.2.1)))
theorem ps_icmp_gt {x y : Int32} {off : Int} {tgt : Nat} (hd : decode (ps_code M) pc = .ok (.if_icmp .gt off, 3)) (ht : (pc : Int) + off = (tgt : Int)) (kt : y < x → ps_K M d F tgt L st σ) (kf : ¬ y < x → ps_K M d F (pc + 3) L st σ) : ps_K M d F pc L (.inl y :: .inl x :: st) σ :=
  fun G p l e R s m args below meth c H locs ls hI => lv_icmp_gt hI.1.1 hI.1.2.1 hd ht (fun h => kt h G p l e R s m args below meth c H locs ls (hI.to (ps_ok_t2 hI.2.2.1))) (fun h => kf h G p l e R s m args below meth c H locs ls (hI.to (ps_ok_t2 hI.2.2.1)))
theorem ps_if_le {x : Int32} {off : Int} {tgt : Nat} (hd : decode (ps_code M) pc = .ok (.ifCond .le off, 3)) (ht : (pc : Int) + off = (tgt : Int)) (kt : x ≤ 0 → ps_K M d F tgt L st σ) (kf : ¬ x ≤ 0 → ps_K M d F (pc + 3) L st σ) : ps_K M d F pc L (.inl x :: st) σ :=
  fun G p l e R s m args below meth c H locs ls hI => lv_if_le hI.1.1 hI.1.2.1 hd ht (fun h => kt h G p l e R s m args below meth c H locs ls (hI.to (ps_ok_t hI.2.2.1))) (fun h => kf h G p l e R s m args below meth c H locs ls (hI.to (ps_ok_t hI.2.2.1)))
theorem ps_icmp_le {x y : Int32} {off : Int} {tgt : Nat} (hd : decode (ps_code M) pc = .ok (.if_icmp .le off, 3)) (ht : (pc : Int) + off = (tgt : Int)) (kt : x ≤ y → ps_K M d F tgt L st σ) (kf : ¬ x ≤ y → ps_K M d F (pc + 3) L st σ) : ps_K M d F pc L (.inl y :: .inl x :: st) σ :=
  fun G p l e R s m args below meth c H locs ls hI => lv_icmp_le hI.1.1 hI.1.2.1 hd ht (fun h => kt h G p l e R s m args below meth c H locs ls (hI.to (ps_ok_t2 hI.2.2.1))) (fun h => kf h G p l e R s m args below meth c H locs ls (hI.to (ps_ok_t2 hI.2.2.1)))
theorem ps_goto {off : Int} {tgt : Nat} (hd : decode (ps_code M) pc = .ok (.goto off, 3)) (ht : (pc : Int) + off = (tgt : Int)) (k : ps_K M d F tgt L st σ) : ps_K M d F pc L st σ :=
  fun G p l e R s m args below meth c H locs ls hI => lv_goto hI.1.1 hI.1.2.1 hd ht (k G p l e R s m args below meth c H locs ls hI)
theorem ps_tabOut {x : Int32} {dflt lo hi : Int} {offs : Array Int} {len tgt : Nat} (hd : decode (ps_code M) pc = .ok (.tableswitch dflt lo hi offs, len)) (h : x.toInt < lo ∨ hi < x.toInt) (ht : (pc : Int) + dflt = (tgt : Int)) (k : ps_K M d F tgt L st σ) : ps_K M d F pc L (.inl x :: st) σ :=
  fun G p l e R s m args below meth c H locs ls hI => lv_tableOut hI.1.1 hI.1.2.1 hd h ht (k G p l e R s m args below meth c H locs ls (hI.to (ps_ok_t hI.2.2.1)))
theorem ps_tabIn {x : Int32} {dflt lo hi off : Int} {offs : Array Int} {len tgt : Nat} (hd : decode (ps_code M) pc = .ok (.tableswitch dflt lo hi offs, len)) (h1 : ¬ x.toInt < lo) (h2 : ¬ hi < x.toInt) (ho : offs[(x.toInt - lo).toNat]? = some off) (ht : (pc : Int) + off = (tgt : Int)) (k : ps_K M d F tgt L st σ) : ps_K M d F pc L (.inl x :: st) σ :=
  fun G p l e R s m args below meth c H locs ls hI => lv_tableIn hI.1.1 hI.1.2.1 hd h1 h2 ho ht (k G p l e R s m args below meth c H locs ls (hI.to (ps_ok_t hI.2.2.1)))
/-- fewer locals known -/
def ps_sub (L' L : ps_L) : Prop := match L', L with
  | [], _ => True
  | none :: a, _ :: b => ps_sub a b
  | none :: a, [] => ps_sub a []
  | some v :: a, w :: b => w = some v ∧ ps_sub a b
  | some _ :: _, [] => False
theorem ps_sub_at : ∀ (L' L : ps_L), ps_sub L' L → ∀ (i : Nat) (v : ps_V), L'[i]? = some (some v) → L[i]? = some (some v)
  | [], _, _, i, v, h => by simp at h
  | none :: a, w :: b, hs, i, v, h => by
    cases i with
    | zero => simp at h
    | succ i => simp only [List.getElem?_cons_succ] at h ⊢; exact ps_sub_at a b (by simpa [ps_sub] using hs) i v h
  | none :: a, [], hs, i, v, h => by
    cases i with
    | zero => simp at h
    | succ i =>
      simp only [List.getElem?_cons_succ] at h
      have := ps_sub_at a [] (by simpa [ps_sub] using hs) i v h
      simp at this
  | some u :: a, w :: b, hs, i, v, h => by
    have hs : w = some u ∧ ps_sub a b := by simpa [ps_sub] using hs
    cases i with
    | zero => simp only [List.getElem?_cons_zero, Option.some.injEq] at h ⊢; rw [hs.1, h]
    | succ i => simp only [List.getElem?_cons_succ] at h ⊢; exact ps_sub_at a b hs.2 i v h
  | some u :: a, [], hs, i, v, h => by simp [ps_sub] at hs
theorem ps_forget (hs : ps_sub L' L) (k : ps_K M d F pc L' st σ) : ps_K M d F pc L st σ :=
  fun G p l e R s m args below meth c H locs ls hI => k G p l e R s m args below meth c H locs ls ⟨hI.1, ⟨hI.2.1.1, hI.2.1.2.1, fun i v hv => hI.2.1.2.2 i v (ps_sub_at L' L hs i v hv)⟩, hI.2.2⟩
theorem ps_deeper {d' : Nat} (hd : d ≤ d') (k : ps_K M d F pc L st σ) : ps_K M d' F pc L st σ :=
  fun G p l e R s m args below meth c H locs ls hI => k G p l e R s m args below meth c H locs ls ⟨⟨hI.1.1, hI.1.2.1, hI.1.2.2.1, hI.1.2.2.2.1, hI.1.2.2.2.2.1, hI.1.2.2.2.2.2.1, hI.1.2.2.2.2.2.2.1, ⟨Nat.le_trans hd hI.1.2.2.2.2.2.2.2.1.1, by have := hI.1.2.2.2.2.2.2.2.1.2.1; omega, hI.1.2.2.2.2.2.2.2.1.2.2⟩, hI.1.2.2.2.2.2.2.2.2⟩, hI.2⟩
-- fields
def ps_fl (own : String) (index ci k : Nat) : Prop := ∃ r : vw_C, ps_cls[ci]? = some r ∧ k < r.2.2 ∧ (Cond.fieldLink own index (r.2.1 k).1 (r.2.1 k).2.1 (r.2.1 k).2.2.1 ∈ lw_tbl ∨ ∃ host, Cond.fieldLinkNest own index (r.2.1 k).1 (r.2.1 k).2.1 (r.2.1 k).2.2.1 host ∈ lw_tbl)
def ps_lays : ∀ (ci : Nat) (r : vw_C), ps_cls[ci]? = some r → ∀ w ∈ u_ws r.1 r.2.1 r.2.2, w ∈ lw_tbl ∧ goodWord w = true := by
  intro ci r h
  match ci, h with
  | 0, h => cases h; exact (by decide +kernel : ∀ w ∈ u_ws RX0 TX0 12, w ∈ lw_tbl ∧ goodWord w = true)
  | 1, h => cases h; exact (by decide +kernel : ∀ w ∈ u_ws RX1 TX1 4, w ∈ lw_tbl ∧ goodWord w = true)
  | 2, h => cases h; exact (by decide +kernel : ∀ w ∈ u_ws RX2 TX2 11, w ∈ lw_tbl ∧ goodWord w = true)
  | 3, h => cases h; exact (by decide +kernel : ∀ w ∈ u_ws RX3 TX3 4, w ∈ lw_tbl ∧ goodWord w = true)
  | 4, h => cases h; exact (by decide +kernel : ∀ w ∈ u_ws RX4 TX4 7, w ∈ lw_tbl ∧ goodWord w = true)
  | 5, h => cases h; exact (by decide +kernel : ∀ w ∈ u_ws RX5 TX5 4, w ∈ lw_tbl ∧ goodWord w = true)
  | 6, h => cases h; exact (by decide +kernel : ∀ w ∈ u_ws RX6 TX6 4, w ∈ lw_tbl ∧ goodWord w = true)
  | 7, h => cases h; exact (by decide +kernel : ∀ w ∈ u_ws RX7 TX7 7, w ∈ lw_tbl ∧ goodWord w = true)
  | 8, h => cases h; exact (by decide +kernel : ∀ w ∈ u_ws RX8 TX8 29, w ∈ lw_tbl ∧ goodWord w = true)
  | n + 9, h => simp [ps_cls] at h
theorem ps_names : ∀ (ci : Nat) (r : vw_C), ps_cls[ci]? = some r → (∃ ty0 : Nat → FieldType, ∀ k, k < r.2.2 → parseFieldDescriptor (r.2.1 k).2.2.1 = some (ty0 k)) ∧ ∀ a, a < r.2.2 → ∀ b, b < r.2.2 → a ≠ b → (r.2.1 a).2.1 ≠ (r.2.1 b).2.1 := by
  intro ci r h
  match ci, h with
  | 0, h => cases h; exact ⟨⟨_, tyX0_ok⟩, nmX0⟩
  | 1, h => cases h; exact ⟨⟨_, tyX1_ok⟩, nmX1⟩
  | 2, h => cases h; exact ⟨⟨_, tyX2_ok⟩, nmX2⟩
  | 3, h => cases h; exact ⟨⟨_, tyX3_ok⟩, nmX3⟩
  | 4, h => cases h; exact ⟨⟨_, tyX4_ok⟩, nmX4⟩
  | 5, h => cases h; exact ⟨⟨_, tyX5_ok⟩, nmX5⟩
  | 6, h => cases h; exact ⟨⟨_, tyX6_ok⟩, nmX6⟩
  | 7, h => cases h; exact ⟨⟨_, tyX7_ok⟩, nmX7⟩
  | 8, h => cases h; exact ⟨⟨_, tyX8_ok⟩, nmX8⟩
  | n + 9, h => simp [ps_cls] at h
def ps_tabB (f : Nat) : Bool := match (ps_sh f).2 with
  | .inl (_, fs) => fs.all (fun t => match t with | none => true | some g => ps_cnt g == ps_cnt f)
  | .inr (_, n, some g) => ps_cnt g == n * ps_cnt f
  | _ => true
theorem ps_tab0 : (List.range ps_fams.length).all ps_tabB = true := by decide +kernel
theorem ps_tab {f : Nat} (h : 0 < ps_cnt f) : ps_tabB f = true := by
  refine List.all_eq_true.mp ps_tab0 f (List.mem_range.mpr ?_)
  rcases Nat.lt_or_ge f ps_fams.length with q | q
  · exact q
  · exfalso
    have e : ps_cnt f = 0 := by
      unfold ps_cnt ps_sh
      simp [List.getD, List.getElem?_eq_none q]
    omega
theorem ps_live {f i : Nat} {x : (Nat × List (Option Nat)) ⊕ (Nat × Nat × Option Nat)} (h : ps_ok (.inr (.inr (f, i)))) (hs : (ps_sh f).2 = x) (hx : x ≠ .inr (0, 0, none)) : i < ps_cnt f := by
  rcases h with h | h
  · exact h
  · exfalso
    have h0 : f = 0 := h
    subst h0
    exact hx (hs.symm.trans rfl)
theorem ps_E_obj {G : ps_G} {f i ci : Nat} {fs : List (Option Nat)} {g : Nat → Int32} (hs : (ps_sh f).2 = .inl (ci, fs)) : ps_E G (f, i) g = .inr (ci, fs.mapIdx (ps_fld G g i)) := by
  unfold ps_E
  show (match (ps_sh f).2 with | .inl (ci, fs) => _ | .inr (ay, n, none) => _ | .inr (ay, n, some f') => _) = _
  rw [hs]
theorem ps_E_arr {G : ps_G} {f i ay n : Nat} {g : Nat → Int32} (hs : (ps_sh f).2 = .inr (ay, n, none)) : ps_E G (f, i) g = .inl (G.2.2 ay, n, .inl g) := by
  unfold ps_E
  show (match (ps_sh f).2 with | .inl (ci, fs) => _ | .inr (ay, n, none) => _ | .inr (ay, n, some f') => _) = _
  rw [hs]
theorem ps_E_ref {G : ps_G} {f i ay n t : Nat} {g : Nat → Int32} (hs : (ps_sh f).2 = .inr (ay, n, some t)) : ps_E G (f, i) g = .inl (G.2.2 ay, n, .inr (.inr (.inr (.inr (fun j => if j < n then some (G.1 t (n * i + j)) else none))))) := by
  unfold ps_E
  show (match (ps_sh f).2 with | .inl (ci, fs) => _ | .inr (ay, n, none) => _ | .inr (ay, n, some f') => _) = _
  rw [hs]
theorem ps_at_obj {G : ps_G} {f i ci : Nat} {fs : List (Option Nat)} (σ : ps_S) (hs : (ps_sh f).2 = .inl (ci, fs)) (h : ps_ok (.inr (.inr (f, i)))) : ∃ q0 : Nat, ps_cells[q0]? = some (f, i) ∧ (ps_ws G σ)[q0]? = some (G.1 f i, .inr (ci, fs.mapIdx (ps_fld G (σ f i) i))) := by
  obtain ⟨q0, hq⟩ := ps_idx (ps_live h hs (by simp))
  exact ⟨q0, hq, by rw [ps_ws_at hq]; exact congrArg (fun e => some (G.1 f i, e)) (ps_E_obj hs)⟩
theorem ps_at_arr {G : ps_G} {f i ay n : Nat} (σ : ps_S) (hs : (ps_sh f).2 = .inr (ay, n, none)) (hn : n ≠ 0) (h : ps_ok (.inr (.inr (f, i)))) : ∃ q0 : Nat, ps_cells[q0]? = some (f, i) ∧ (ps_ws G σ)[q0]? = some (G.1 f i, .inl (G.2.2 ay, n, .inl (σ f i))) := by
  obtain ⟨q0, hq⟩ := ps_idx (ps_live h hs (by simp [hn]))
  exact ⟨q0, hq, by rw [ps_ws_at hq]; exact congrArg (fun e => some (G.1 f i, e)) (ps_E_arr hs)⟩
theorem ps_at_ref {G : ps_G} {f i ay n t : Nat} (σ : ps_S) (hs : (ps_sh f).2 = .inr (ay, n, some t)) (h : ps_ok (.inr (.inr (f, i)))) : ∃ q0 : Nat, ps_cells[q0]? = some (f, i) ∧ (ps_ws G σ)[q0]? = some (G.1 f i, .inl (G.2.2 ay, n, .inr (.inr (.inr (.inr (fun j => if j < n then some (G.1 t (n * i + j)) else none)))))) := by
  obtain ⟨q0, hq⟩ := ps_idx (ps_live h hs (by simp))
  exact ⟨q0, hq, by rw [ps_ws_at hq]; exact congrArg (fun e => some (G.1 f i, e)) (ps_E_ref hs)⟩
theorem ps_getV {G : ps_G} {p : Program} {l : Launch} {e : Env} {R : Room} {s : State} {m : MethodId} {args : Array Value} {below : List Frame} {meth : Method} {c : Code} {H : Heap} {locs : List Loc} {ls : Array Slot} {Z : State → Prop} {index ci k f i cs ss : Nat} {fs : List (Option Nat)} {t : Option Nat} {rest : List Value} (hI : ps_I M d G p R s m args meth c H locs ls L st σ) (hd : decode (ps_code M) pc = .ok (.getfield index, 3)) (hf : ps_fl (ps_own M) index ci k) (hs : (ps_sh f).2 = .inl (ci, fs)) (hk : fs[k]? = some t) (ho : ps_ok (.inr (.inr (f, i))))
    (kk : W p l e R s m args below meth c H locs cs ss Z (F0 m (pc + 3) ls (ps_fld G (σ f i) i k t :: rest))) : W p l e R s m args below meth c H locs cs ss Z (F0 m pc ls (.ref (G.1 f i) :: rest)) := by
  obtain ⟨r, hr, hkr, hw⟩ := hf
  obtain ⟨q0, -, hq⟩ := ps_at_obj (G := G) σ hs ho
  have hv : (fs.mapIdx (ps_fld G (σ f i) i))[k]? = some (ps_fld G (σ f i) i k t) := by rw [List.getElem?_mapIdx, hk]; rfl
  have hts : ∀ w ∈ u_ws r.1 r.2.1 r.2.2, w.before args s = true := fun w hw => hI.1.2.2.2.2.2.1 w (ps_lays ci r hr w hw).1 (ps_lays ci r hr w hw).2
  rcases hw with hw | ⟨host, hw⟩
  · exact va_get (own := ps_own M) (ref := (r.2.1 k).1) (C := r.1) (T := r.2.1) (N := r.2.2) hI.1.1 hI.1.2.1 hts (fun _ h => h) hI.1.2.2.2.2.1 hI.1.2.2.2.2.2.2.2.2.1 hI.2.2.2.1 q0 hq hr k hkr (hI.1.2.2.2.2.2.1 _ hw rfl) (fun _ h => h) hv hd kk
  · exact va_getN (own := ps_own M) (ref := (r.2.1 k).1) (C := r.1) (host := host) (T := r.2.1) (N := r.2.2) hI.1.1 hI.1.2.1 hts (fun _ h => h) hI.1.2.2.2.2.1 hI.1.2.2.2.2.2.2.2.2.1 hI.2.2.2.1 q0 hq hr k hkr (va_Nw.use rfl (hI.1.2.2.2.2.2.2.2.2.2.2 _ _ _ _ _ _ hw)) (fun _ h => h) hv hd kk
theorem ps_getI {index ci k f i : Nat} {fs : List (Option Nat)} (hd : decode (ps_code M) pc = .ok (.getfield index, 3)) (hf : ps_fl (ps_own M) index ci k) (hs : (ps_sh f).2 = .inl (ci, fs)) (hk : fs[k]? = some none) (kk : ps_K M d F (pc + 3) L (.inl (σ f i k) :: st) σ) : ps_K M d F pc L (.inr (.inr (f, i)) :: st) σ :=
  fun G p l e R s m args below meth c H locs ls hI => ps_getV hI hd hf hs hk (hI.2.2.1 _ List.mem_cons_self) (kk G p l e R s m args below meth c H locs ls (hI.to (ps_ok_i (ps_ok_t hI.2.2.1))))
theorem ps_fld_ok {f g i ci : Nat} {fs : List (Option Nat)} {k : Nat} (hs : (ps_sh f).2 = .inl (ci, fs)) (hk : fs[k]? = some (some g)) (ho : ps_ok (.inr (.inr (f, i)))) : ps_ok (.inr (.inr (g, i))) := by
  have hi := ps_live ho hs (by simp)
  have ht := ps_tab (f := f) (by omega)
  unfold ps_tabB at ht
  rw [hs] at ht
  have h1 := List.all_eq_true.mp ht (some g) (List.mem_of_getElem? hk)
  have h2 : ps_cnt g = ps_cnt f := by simpa using h1
  exact Or.inl (by rw [h2]; exact hi)
theorem ps_getR {index ci k f i g : Nat} {fs : List (Option Nat)} (hd : decode (ps_code M) pc = .ok (.getfield index, 3)) (hf : ps_fl (ps_own M) index ci k) (hs : (ps_sh f).2 = .inl (ci, fs)) (hk : fs[k]? = some (some g)) (kk : ps_K M d F (pc + 3) L (.inr (.inr (g, i)) :: st) σ) : ps_K M d F pc L (.inr (.inr (f, i)) :: st) σ :=
  fun G p l e R s m args below meth c H locs ls hI => ps_getV hI hd hf hs hk (hI.2.2.1 _ List.mem_cons_self) (kk G p l e R s m args below meth c H locs ls (hI.to (ps_ok_c (ps_fld_ok hs hk (hI.2.2.1 _ List.mem_cons_self)) (ps_ok_t hI.2.2.1))))
theorem ps_fset {G : ps_G} {fs : List (Option Nat)} {g : Nat → Int32} {i k : Nat} {x : Int32} (hk : fs[k]? = some none) : (fs.mapIdx (ps_fld G g i)).set k (.int x) = fs.mapIdx (ps_fld G (upd g k x) i) := by
  apply List.ext_getElem?
  intro j
  rw [List.getElem?_mapIdx]
  by_cases e : k = j
  · subst e
    rw [List.getElem?_set_self (by rw [List.length_mapIdx]; exact (List.getElem?_eq_some_iff.mp hk).1), hk]
    simp [ps_fld, upd]
  · rw [List.getElem?_set_ne e, List.getElem?_mapIdx]
    cases hj : fs[j]? with
    | none => rfl
    | some t =>
      cases t with
      | none => simp [ps_fld, upd, show ¬ j = k from fun q => e q.symm]
      | some g => rfl
def ps_fp (own : String) (index ci k : Nat) (ty : FieldType) : Prop := ∃ r : vw_C, ps_cls[ci]? = some r ∧ k < r.2.2 ∧ (r.2.1 k).2.2.2 = false ∧ parseFieldDescriptor (r.2.1 k).2.2.1 = some ty ∧ (Cond.fieldLink own index (r.2.1 k).1 (r.2.1 k).2.1 (r.2.1 k).2.2.1 ∈ lw_tbl ∨ ∃ host, Cond.fieldLinkNest own index (r.2.1 k).1 (r.2.1 k).2.1 (r.2.1 k).2.2.1 host ∈ lw_tbl)
theorem ps_putT {index ci k f i : Nat} {ty : FieldType} {fs : List (Option Nat)} {x : Int32} (hd : decode (ps_code M) pc = .ok (.putfield index, 3)) (hf : ps_fp (ps_own M) index ci k ty) (hs : (ps_sh f).2 = .inl (ci, fs)) (hk : fs[k]? = some none) (hn : narrow ty (.int x) = .int x) (hfit : fits ty (.int x) = true) (kk : ps_K M d F (pc + 3) L st (ps_up σ f i k x)) : ps_K M d F pc L (.inl x :: .inr (.inr (f, i)) :: st) σ := by
  intro G p l e R s m args below meth c H locs ls hI
  obtain ⟨r, hr, hkr, hfin, hty, hw⟩ := hf
  obtain ⟨q0, hq1, hq⟩ := ps_at_obj (G := G) σ hs (hI.2.2.1 _ (List.mem_cons_of_mem _ List.mem_cons_self))
  have hts : ∀ w ∈ u_ws r.1 r.2.1 r.2.2, w.before args s = true := fun w hw => hI.1.2.2.2.2.2.1 w (ps_lays ci r hr w hw).1 (ps_lays ci r hr w hw).2
  obtain ⟨⟨ty0, hty0⟩, hnm⟩ := ps_names ci r hr
  have hlen : k < (fs.mapIdx (ps_fld G (σ f i) i)).length := by rw [List.length_mapIdx]; exact (List.getElem?_eq_some_iff.mp hk).1
  have fin : ∀ (H1 : Heap) (locs1 : List Loc), va_P G.2.1 ps_cls ((ps_ws G σ).set q0 (G.1 f i, .inr (ci, (fs.mapIdx (ps_fld G (σ f i) i)).set k (.int x)))) H1 → va_D (ps_A G) ((ps_ws G σ).set q0 (G.1 f i, .inr (ci, (fs.mapIdx (ps_fld G (σ f i) i)).set k (.int x)))) → va_S (ps_A G) s.heap H1 locs1 → W p l e R s m args below meth c H1 locs1 (ps_cs M) (ps_ss M) (F G s args below) (F0 m (pc + 3) ls (st.map (ps_cv G))) := by
    intro H1 locs1 h1 h2 h3
    rw [ps_ws_set (x := x) (j := k) hq1 (by rw [ps_E_obj hs, ps_fset hk])] at h1 h2
    exact kk G p l e R s m args below meth c H1 locs1 ls ⟨hI.1, hI.2.1, ps_ok_t2 hI.2.2.1, h1, h2, h3⟩
  rcases hw with hw | ⟨host, hw⟩
  · exact va_put (own := ps_own M) (ref := (r.2.1 k).1) (C := r.1) (T := r.2.1) (N := r.2.2) hI.1.1 hI.1.2.1 hts (fun _ h => h) ty0 hty0 hnm hI.1.2.2.2.2.1 hI.1.2.2.2.2.2.2.2.2.1 hI.2.2.2.1 hI.2.2.2.2.1 hI.2.2.2.2.2 q0 hq hr k hkr (hI.1.2.2.2.2.2.1 _ hw rfl) (fun _ h => h) hfin hty hn hfit hlen hd fin
  · exact va_putN (own := ps_own M) (ref := (r.2.1 k).1) (C := r.1) (host := host) (T := r.2.1) (N := r.2.2) hI.1.1 hI.1.2.1 hts (fun _ h => h) ty0 hty0 hnm hI.1.2.2.2.2.1 hI.1.2.2.2.2.2.2.2.2.1 hI.2.2.2.1 hI.2.2.2.2.1 hI.2.2.2.2.2 q0 hq hr k hkr (va_Nw.use rfl (hI.1.2.2.2.2.2.2.2.2.2.2 _ _ _ _ _ _ hw)) (fun _ h => h) hfin hty hn hfit hlen hd fin
theorem ps_putI {index ci k f i : Nat} {fs : List (Option Nat)} {x : Int32} (hd : decode (ps_code M) pc = .ok (.putfield index, 3)) (hf : ps_fp (ps_own M) index ci k .int) (hs : (ps_sh f).2 = .inl (ci, fs)) (hk : fs[k]? = some none) (kk : ps_K M d F (pc + 3) L st (ps_up σ f i k x)) : ps_K M d F pc L (.inl x :: .inr (.inr (f, i)) :: st) σ :=
  ps_putT hd hf hs hk rfl rfl kk
theorem ps_bit_n {x : Int32} (h : x = 0 ∨ x = 1) : narrow .boolean (.int x) = .int x := by rcases h with rfl | rfl <;> rfl
theorem ps_bit_f {x : Int32} (h : x = 0 ∨ x = 1) : fits .boolean (.int x) = true := by rcases h with rfl | rfl <;> rfl
theorem ps_putZ {index ci k f i : Nat} {fs : List (Option Nat)} {x : Int32} (hd : decode (ps_code M) pc = .ok (.putfield index, 3)) (hf : ps_fp (ps_own M) index ci k .boolean) (hs : (ps_sh f).2 = .inl (ci, fs)) (hk : fs[k]? = some none) (hx : x = 0 ∨ x = 1) (kk : ps_K M d F (pc + 3) L st (ps_up σ f i k x)) : ps_K M d F pc L (.inl x :: .inr (.inr (f, i)) :: st) σ :=
  ps_putT hd hf hs hk (ps_bit_n hx) (ps_bit_f hx) kk
-- arrays
theorem ps_iald {f i n : Nat} {j : Int32} (hd : decode (ps_code M) pc = .ok (.iaload, 1)) (hs : (ps_sh f).2 = .inr (0, n, none)) (hin : vp_in j n) (kk : ps_K M d F (pc + 1) L (.inl (σ f i j.toNatClampNeg) :: st) σ) : ps_K M d F pc L (.inl j :: .inr (.inr (f, i)) :: st) σ := by
  intro G p l e R s m args below meth c H locs ls hI
  have hn : n ≠ 0 := fun h => hin (Or.inr (by omega))
  obtain ⟨q0, hq1, hq⟩ := ps_at_arr (G := G) σ hs hn (hI.2.2.1 _ (List.mem_cons_of_mem _ List.mem_cons_self))
  exact va_iald hI.1.1 hI.1.2.1 hI.1.2.2.2.2.2.2.2.2.1 hI.2.2.2.1 q0 0 hq rfl hin hd (kk G p l e R s m args below meth c H locs ls (hI.to (ps_ok_i (ps_ok_t2 hI.2.2.1))))
theorem ps_zald {f i n : Nat} {j : Int32} (hd : decode (ps_code M) pc = .ok (.baload, 1)) (hs : (ps_sh f).2 = .inr (1, n, none)) (hin : vp_in j n) (kk : ps_K M d F (pc + 1) L (.inl (σ f i j.toNatClampNeg) :: st) σ) : ps_K M d F pc L (.inl j :: .inr (.inr (f, i)) :: st) σ := by
  intro G p l e R s m args below meth c H locs ls hI
  have hn : n ≠ 0 := fun h => hin (Or.inr (by omega))
  obtain ⟨q0, hq1, hq⟩ := ps_at_arr (G := G) σ hs hn (hI.2.2.1 _ (List.mem_cons_of_mem _ List.mem_cons_self))
  exact va_zald hI.1.1 hI.1.2.1 hI.1.2.2.2.2.2.2.2.2.1 hI.2.2.2.1 q0 1 hq rfl hin hd (kk G p l e R s m args below meth c H locs ls (hI.to (ps_ok_i (ps_ok_t2 hI.2.2.1))))
theorem ps_iast {f i n : Nat} {j x : Int32} (hd : decode (ps_code M) pc = .ok (.iastore, 1)) (hs : (ps_sh f).2 = .inr (0, n, none)) (hin : vp_in j n) (kk : ps_K M d F (pc + 1) L st (ps_up σ f i j.toNatClampNeg x)) : ps_K M d F pc L (.inl x :: .inl j :: .inr (.inr (f, i)) :: st) σ := by
  intro G p l e R s m args below meth c H locs ls hI
  have hn : n ≠ 0 := fun h => hin (Or.inr (by omega))
  obtain ⟨q0, hq1, hq⟩ := ps_at_arr (G := G) σ hs hn (hI.2.2.1 _ (List.mem_cons_of_mem _ (List.mem_cons_of_mem _ List.mem_cons_self)))
  refine va_iast hI.1.1 hI.1.2.1 hI.1.2.2.2.2.2.2.2.2.1 hI.2.2.2.1 hI.2.2.2.2.1 hI.2.2.2.2.2 q0 0 hq rfl hin hd (fun H1 locs1 h1 h2 h3 => ?_)
  rw [ps_ws_set (x := x) (j := j.toNatClampNeg) hq1 (by rw [ps_E_arr hs])] at h1 h2
  exact kk G p l e R s m args below meth c H1 locs1 ls ⟨hI.1, hI.2.1, ps_ok_t (ps_ok_t2 hI.2.2.1), h1, h2, h3⟩
theorem ps_zast {f i n : Nat} {j x : Int32} (hd : decode (ps_code M) pc = .ok (.bastore, 1)) (hs : (ps_sh f).2 = .inr (1, n, none)) (hin : vp_in j n) (hx : x = 0 ∨ x = 1) (kk : ps_K M d F (pc + 1) L st (ps_up σ f i j.toNatClampNeg x)) : ps_K M d F pc L (.inl x :: .inl j :: .inr (.inr (f, i)) :: st) σ := by
  intro G p l e R s m args below meth c H locs ls hI
  have hn : n ≠ 0 := fun h => hin (Or.inr (by omega))
  have hx2 : vp_nar .boolean x = x := by unfold vp_nar; rw [ps_bit_n hx]
  obtain ⟨q0, hq1, hq⟩ := ps_at_arr (G := G) σ hs hn (hI.2.2.1 _ (List.mem_cons_of_mem _ (List.mem_cons_of_mem _ List.mem_cons_self)))
  refine va_zast hI.1.1 hI.1.2.1 hI.1.2.2.2.2.2.2.2.2.1 hI.2.2.2.1 hI.2.2.2.2.1 hI.2.2.2.2.2 q0 1 hq rfl hin hd (fun H1 locs1 h1 h2 h3 => ?_)
  rw [hx2, ps_ws_set (x := x) (j := j.toNatClampNeg) hq1 (by rw [ps_E_arr hs])] at h1 h2
  exact kk G p l e R s m args below meth c H1 locs1 ls ⟨hI.1, hI.2.1, ps_ok_t (ps_ok_t2 hI.2.2.1), h1, h2, h3⟩
theorem ps_aald {f i n g ay : Nat} {j : Int32} (hd : decode (ps_code M) pc = .ok (.aaload, 1)) (hs : (ps_sh f).2 = .inr (ay, n, some g)) (hay : ay = 2 ∨ ay = 3) (hin : vp_in j n) (kk : ps_K M d F (pc + 1) L (.inr (.inr (g, n * i + j.toNatClampNeg)) :: st) σ) : ps_K M d F pc L (.inl j :: .inr (.inr (f, i)) :: st) σ := by
  intro G p l e R s m args below meth c H locs ls hI
  have ho := hI.2.2.1 _ (List.mem_cons_of_mem _ List.mem_cons_self)
  obtain ⟨q0, hq1, hq⟩ := ps_at_ref (G := G) σ hs ho
  have hlt : j.toNatClampNeg < n := Nat.not_le.mp fun q => hin (Or.inr q)
  have hcell := hI.2.2.2.1 q0 _ hq
  have hok : ps_ok (.inr (.inr (g, n * i + j.toNatClampNeg))) := by
    have hi := ps_live ho hs (by simp)
    have ht := ps_tab (f := f) (by omega)
    unfold ps_tabB at ht
    rw [hs] at ht
    have h2 : ps_cnt g = n * ps_cnt f := by simpa using ht
    refine Or.inl ?_
    show n * i + j.toNatClampNeg < ps_cnt g
    rw [h2]
    calc n * i + j.toNatClampNeg < n * i + n := by omega
      _ = n * (i + 1) := by rw [Nat.mul_add, Nat.mul_one]
      _ ≤ n * ps_cnt f := Nat.mul_le_mul_left _ hi
  have kk2 := kk G p l e R s m args below meth c H locs ls (hI.to (ps_ok_c hok (ps_ok_t2 hI.2.2.1)))
  have key : ∀ (ty : FieldType), ty.isReference = true → ArrOfT s (G.2.2 ay) ty → W p l e R s m args below meth c H locs (ps_cs M) (ps_ss M) (F G s args below) (F0 m pc ls (.int j :: .ref (G.1 f i) :: st.map (ps_cv G))) := by
    intro ty hty harr
    refine W.aald (v := .ref (G.1 g (n * i + j.toNatClampNeg))) (ty := ty) hI.1.1 hI.1.2.1 hcell (harr n _) hty (fun q => by cases q) (by show ¬ (j < 0 ∨ (arrV _ _ _).slots.size ≤ _); rw [arrV_size]; exact hin) (by show (arrV _ _ _).slots[_]? = _; rw [arrV_read _ _ hlt]; simp [va_rf, hlt]) rfl rfl hd kk2
  rcases hay with rfl | rfl
  · exact key _ rfl (hI.1.2.2.2.2.2.2.2.2.1.2 2 _ rfl).1
  · exact key _ rfl (hI.1.2.2.2.2.2.2.2.2.1.2 3 _ rfl).1
theorem ps_alen {f i n : Nat} {x : Int32} (hd : decode (ps_code M) pc = .ok (.arraylength, 1)) (hs : (ps_sh f).2 = .inr (0, n, none)) (hn : n ≠ 0) (hx : Int32.ofNat n = x) (kk : ps_K M d F (pc + 1) L (.inl x :: st) σ) : ps_K M d F pc L (.inr (.inr (f, i)) :: st) σ := by
  intro G p l e R s m args below meth c H locs ls hI
  obtain ⟨q0, hq1, hq⟩ := ps_at_arr (G := G) σ hs hn (hI.2.2.1 _ List.mem_cons_self)
  exact va_alen hI.1.1 hI.1.2.1 hI.1.2.2.2.2.2.2.2.2.1 hI.2.2.2.1 q0 0 hq rfl hx hd (kk G p l e R s m args below meth c H locs ls (hI.to (ps_ok_i (ps_ok_t hI.2.2.1))))
end PSL

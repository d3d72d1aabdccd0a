/-! ===== what the small methods answer ===== -/
def jbIn (v a b : Int64) : Int32 := if a ≤ v ∧ v ≤ b then 1 else 0
def jbWi (v n : Int32) : Int32 := if v < 0 then 0 else if n ≤ v then 0 else 1
def jbDays (v : Int32) : Int32 := if v < 1 then 0 else if 6 < v then 0 else 1
def jbUn (x y : Int32) : Int32 := if x = -900009 then 0 else if y = -900009 then 0 else if x = y then 0 else 1
def jbP1 (x : Int32) : Int32 := x - ((x.toUInt32 >>> ((1 : Int32).toUInt32 &&& Int32.toUInt32 31)).toInt32 &&& 1431655765)
def jbP2 (x : Int32) : Int32 := (x &&& 858993459) + ((x.toUInt32 >>> ((2 : Int32).toUInt32 &&& Int32.toUInt32 31)).toInt32 &&& 858993459)
def jbP3 (x : Int32) : Int32 := (x + (x.toUInt32 >>> ((4 : Int32).toUInt32 &&& Int32.toUInt32 31)).toInt32) &&& 252645135
def jbP4 (x : Int32) : Int32 := x + (x.toUInt32 >>> ((8 : Int32).toUInt32 &&& Int32.toUInt32 31)).toInt32
def jbP5 (x : Int32) : Int32 := x + (x.toUInt32 >>> ((16 : Int32).toUInt32 &&& Int32.toUInt32 31)).toInt32
/-- Integer.bitCount, as its code has it -/
def jbPop (x : Int32) : Int32 := jbP5 (jbP4 (jbP3 (jbP2 (jbP1 x)))) &&& 63
theorem ps_bitI (v a b : Int64) : jbIn v a b = 0 ∨ jbIn v a b = 1 := by unfold jbIn; split <;> simp
theorem ps_bitW (v n : Int32) : jbWi v n = 0 ∨ jbWi v n = 1 := by unfold jbWi; split <;> (try split) <;> simp
set_option maxHeartbeats 4000000 in
set_option maxRecDepth 100000 in
/-- in(v, a, b) of the reference: whether v lies from a to b -/
theorem pX8_in {d : Nat} {Q : Option ps_V → ps_S → Prop} {x y z : Int64} {σ : ps_S} (hq : Q (some (.inl (jbIn x y z))) σ) : ps_C mX8_in d [.inr (.inl x), .inr (.inl y), .inr (.inl z)] σ Q := by
  intro hav G l
  refine Met.ofW (cc := cX8_in) (maxL := 6) (ret := some .boolean) (by decide) rfl ?_
  intro p e s m args below meth c s₁ B hml hv
  obtain ⟨rfl, hP, hK, hD, hN⟩ := hv
  have hx := B.exec
  have hb := B.bytes
  have hr := B.returns
  have hlocks := B.notSynchronized
  have hl := lv_entry ([.long x, .long y, .long z]) (n := 6) (Nat.le_of_ble_eq_true rfl)
  show W p l e _ s m _ below meth c s.heap [] 0 0 _ (entryFrame m ([.long x, .long y, .long z] : List Value).toArray 6)
  rw [lg_entry_eq]
  generalize (lg_sl ([.long x, .long y, .long z]) ++ List.replicate (6 - (lg_sl ([.long x, .long y, .long z])).length) Slot.unset).toArray = ls at hl ⊢
  have hl : lv_has ls 6 [(0, .long x), (2, .long y), (4, .long z)] := hl
  have hS : va_S (ps_A G) s.heap s.heap [] := va_S.rf
  have fin : ∀ v : Int32, (v = 0 ∨ v = 1) → v = jbIn x y z → W p l e (headSpec (ps_words mX8_in) (ps_rm d)).room s m ((List.map (ps_cv G) [.inr (.inl x), .inr (.inl y), .inr (.inl z)]).toArray) below meth c s.heap [] 0 0 (MQ below (ps_Qc G Q) ((List.map (ps_cv G) [.inr (.inl x), .inr (.inl y), .inr (.inl z)]).toArray) s 0 0 (ps_A G)) (F0 m 18 ls [.int v]) := by
    intro v hv1 hv2
    subst hv2
    exact W.zret (v := jbIn x y z) hx hb hr (ps_bit_n hv1) (fun t ht hW => ⟨⟨some (.inl (jbIn x y z)), σ, rfl, fun v hv => (by cases hv; exact trivial), hq, by rw [ht]; exact hP⟩, hS.F ht⟩) hS.2.2 (ps_at tX8_in_ok 11 rfl) hlocks
  refine lv_lload_n hx hb (ps_at tX8_in_ok 0 rfl) rfl (lv_at hl 0 rfl) ?_
  refine lv_lload_n hx hb (ps_at tX8_in_ok 1 rfl) rfl (lv_at hl 1 rfl) ?_
  refine W.lcmp hx hb (ps_at tX8_in_ok 2 rfl) ?_
  have e1 : ∀ a b : Int64, lg_cmp a b < 0 ↔ ¬ b ≤ a := fun a b => by
    rw [← lg_cmp_ge]; exact Int32.not_le.symm
  refine lv_if_lt (tgt := 17) hx hb (ps_at tX8_in_ok 3 rfl) (by decide) (fun c1 => ?_) (fun c1 => ?_)
  · refine lv_iconst (v := 0) hx hb (ps_at tX8_in_ok 10 rfl) (by decide) ?_
    refine fin 0 (Or.inl rfl) ?_
    unfold jbIn
    rw [if_neg (fun h => (e1 x y).mp c1 h.1)]
  · have h1 : y ≤ x := Classical.not_not.mp (fun h => c1 ((e1 x y).mpr h))
    refine lv_lload_n hx hb (ps_at tX8_in_ok 4 rfl) rfl (lv_at hl 0 rfl) ?_
    refine lv_lload hx hb (ps_at tX8_in_ok 5 rfl) (lv_at hl 2 rfl) ?_
    refine W.lcmp hx hb (ps_at tX8_in_ok 6 rfl) ?_
    have e2 : 0 < lg_cmp x z ↔ ¬ x ≤ z := by
      unfold lg_cmp
      by_cases q : x > z
      · rw [if_pos q]; exact ⟨fun _ h => absurd q (Int64.not_lt.mpr h), fun _ => by decide⟩
      · rw [if_neg q]
        have q2 : x ≤ z := Int64.not_lt.mp q
        by_cases q3 : x = z
        · rw [if_pos q3]; exact ⟨fun h => absurd h (by decide), fun h => absurd q2 h⟩
        · rw [if_neg q3]; exact ⟨fun h => absurd h (by decide), fun h => absurd q2 h⟩
    refine lv_if_gt (tgt := 17) hx hb (ps_at tX8_in_ok 7 rfl) (by decide) (fun c2 => ?_) (fun c2 => ?_)
    · refine lv_iconst (v := 0) hx hb (ps_at tX8_in_ok 10 rfl) (by decide) ?_
      refine fin 0 (Or.inl rfl) ?_
      unfold jbIn
      rw [if_neg (fun h => e2.mp c2 h.2)]
    · have h2 : x ≤ z := Classical.not_not.mp (fun h => c2 (e2.mpr h))
      refine lv_iconst (v := 1) hx hb (ps_at tX8_in_ok 8 rfl) (by decide) ?_
      refine lv_goto (tgt := 18) hx hb (ps_at tX8_in_ok 9 rfl) (by decide) ?_
      refine fin 1 (Or.inr rfl) ?_
      unfold jbIn
      rw [if_pos ⟨h1, h2⟩]

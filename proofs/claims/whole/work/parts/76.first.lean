/-! ===== what holds at first ===== -/
theorem INV_first : INV σ0 σ0 := by
  have hN : ∀ p f, p < 16 → f < 6 → σ0 63 0 (6 * p + f) = -900009 := fun p f hp hf => by
    show (if 6 * p + f < 96 then (-900009 : Int32) else 0) = -900009
    rw [if_pos (by omega)]
  have hsh : ∀ a b, a < 6 → ¬ mSh σ0 a b := fun a b ha h => by
    obtain ⟨p, hp, h1, -⟩ := h
    exact h1 (hN p a hp ha)
  refine ⟨fun f hf => ⟨fun c p hc hp => ?_, fun c p hc hp => Or.inl ?_, fun a ha => ?_, fun a b ha hb => Or.inl rfl, Or.inl rfl, Or.inl rfl⟩, ⟨fun p f hp hf => ⟨?_, Or.inl (hN p f hp hf)⟩, fun f hf => ⟨?_, ?_⟩, ?_⟩, ⟨?_, Or.inl rfl⟩, ⟨⟨rfl, 4, by decide, by decide, rfl⟩, fun f hf => ⟨rfl, 0, by decide, rfl⟩, fun f b hf hb => ⟨rfl, ?_⟩⟩, ⟨⟨?_, ?_, ?_, fun m w hm hw => ⟨?_, Or.inl ?_⟩, fun p j hp hj => ⟨rfl, 0, by decide, rfl⟩⟩, Or.inl rfl⟩⟩
  · show (if p < 6 then (-900009 : Int32) else 0) = (if 54 * f + 6 * c + p < 324 then (-900009 : Int32) else 0)
    rw [if_pos hp, if_pos (by omega)]
  · show (if 54 * f + 6 * c + p < 324 then (-900009 : Int32) else 0) = -900009
    rw [if_pos (by omega)]
  · show bm 0 9 (fun b => (0 : Int32) = 1)
    exact bm_congr bm_0 (fun i _ => ⟨fun q => q.elim, fun q => absurd q (by decide)⟩)
  · rw [hN p f hp hf]
    show (if f < 6 then (-900009 : Int32) else 0) = -900009
    rw [if_pos hf]
  · show bm 0 6 (fun b => mSh σ0 f b)
    exact bm_congr bm_0 (fun i _ => ⟨fun q => q.elim, fun q => absurd q (hsh f i hf)⟩)
  · show bm 0 6 (fun b => mstT σ0 f b)
    exact bm_congr bm_0 (fun i _ => ⟨fun q => q.elim, fun q => absurd (mst_told q).1 (hsh f f hf)⟩)
  · show bm 0 6 (fun f => mSh σ0 f f)
    exact bm_congr bm_0 (fun i hi => ⟨fun q => q.elim, fun q => absurd q (hsh i i hi)⟩)
  · have e : pz σ0 = 2 := by show (2 : Int32).toNatClampNeg = 2; decide
    rw [e]
    exact ⟨rfl, rfl, by decide, by decide⟩
  · show (if b < 12 then (-900009 : Int32) else 0) = (if 12 * f + b < 72 then (-900009 : Int32) else 0)
    rw [if_pos hb, if_pos (by omega)]
  · have e : wM σ0 = 2 := by show (2 : Int32).toNatClampNeg = 2; decide
    rw [e]
    exact ⟨rfl, rfl, by decide, by decide⟩
  · have e : wP σ0 = 4 := by show (4 : Int32).toNatClampNeg = 4; decide
    rw [e]
    exact ⟨rfl, rfl, by decide, by decide⟩
  · have e : wc σ0 = 3 := by show (3 : Int32).toNatClampNeg = 3; decide
    rw [e]
    exact ⟨rfl, rfl, by decide⟩
  · show (if w < 6 then (-900009 : Int32) else 0) = (if 6 * m + w < 24 then (-900009 : Int32) else 0)
    rw [if_pos hw, if_pos (by omega)]
  · show (if 6 * m + w < 24 then (-900009 : Int32) else 0) = -900009
    rw [if_pos (by omega)]

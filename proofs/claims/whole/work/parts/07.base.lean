/-! ===== small words for the printed rows ===== -/
theorem ps_at {c : ByteArray} {t : List (Nat × Instr × Nat)} (h : ∀ q ∈ t, decode c q.1 = .ok (q.2.1, q.2.2)) (k : Nat) {pc n : Nat} {i : Instr} (hk : t[k]? = some (pc, i, n)) : decode c pc = .ok (i, n) := h (pc, i, n) (List.mem_of_getElem? hk)
def ps_ri (q : Int32 → ps_S → Prop) : Option ps_V → ps_S → Prop := fun r σ => ∃ x : Int32, r = some (.inl x) ∧ q x σ
def ps_rv (q : ps_S → Prop) : Option ps_V → ps_S → Prop := fun r σ => r = none ∧ q σ
def ps_rr (f : Nat) (q : Nat → ps_S → Prop) : Option ps_V → ps_S → Prop := fun r σ => ∃ k : Nat, r = some (.inr (.inr (f, k))) ∧ q k σ
def ps_cpy (σ : ps_S) (f i g j n : Nat) : ps_S := fun f' k' j' => if f' = g ∧ k' = j ∧ j' < n then σ f i j' else σ f' k' j'
theorem ps_aald0 {M : ps_M} {d pc : Nat} {F : ps_F} {L : ps_L} {st : List ps_V} {σ : ps_S} {f n g ay : Nat} {j : Int32} (hd : decode (ps_code M) pc = .ok (.aaload, 1)) (hs : (ps_sh f).2 = .inr (ay, n, some g)) (hay : ay = 2 ∨ ay = 3) (hin : vp_in j n) (kk : ps_K M d F (pc + 1) L (.inr (.inr (g, j.toNatClampNeg)) :: st) σ) : ps_K M d F pc L (.inl j :: .inr (.inr (f, 0)) :: st) σ :=
  ps_aald hd hs hay hin (by rw [Nat.mul_zero, Nat.zero_add]; exact kk)
def jbMax (a b : Int32) : Int32 := if a < b then b else a
def jbMin (a b : Int32) : Int32 := if b < a then b else a
theorem ps_mmax {M : ps_M} {d pc index : Nat} {F : ps_F} {L : ps_L} {st : List ps_V} {σ : ps_S} {x y : Int32} (hd : decode (ps_code M) pc = .ok (.invokestatic index, 3)) (hl : Cond.methodLink (ps_own M) index Lib.Math.max.name ∈ lw_tbl) (hrm : ∀ G : ps_G, ((st.map (ps_cv G)).map fun v => v.category).sum ≤ 8) (k : ps_K M (d + 1) F (pc + 3) L (.inl (jbMax x y) :: st) σ) : ps_K M (d + 1) F pc L (.inl y :: .inl x :: st) σ := by
  intro G p l e R s m args below meth c H locs ls hI
  have hR := hI.1.2.2.2.2.2.2.2.1
  exact va_mmax hI.1.1 hI.1.2.1 (hI.1.2.2.1.trans hI.2.1.1.symm) hI.1.2.2.2.2.1 (hI.1.2.2.2.2.2.1 _ hl rfl) (hI.1.2.2.2.2.2.1 (.static Lib.Math.max.name) (by decide +kernel) rfl) (hI.1.2.2.2.2.2.1 (.initialized "java/lang/Math") (by decide +kernel) rfl) (hI.1.2.2.2.2.2.1 (.code Lib.Math.max.name Lib.Math.max.code 2 (some .int)) (by decide +kernel) rfl) (by have := hR.1; omega) (by have := hR.2.1; have := hrm G; omega) hR.2.2.1 hR.2.2.2 hd (k G p l e R s m args below meth c H locs ls (hI.to (ps_ok_i (ps_ok_t2 hI.2.2.1))))
theorem ps_mmin {M : ps_M} {d pc index : Nat} {F : ps_F} {L : ps_L} {st : List ps_V} {σ : ps_S} {x y : Int32} (hd : decode (ps_code M) pc = .ok (.invokestatic index, 3)) (hl : Cond.methodLink (ps_own M) index Lib.Math.min.name ∈ lw_tbl) (hrm : ∀ G : ps_G, ((st.map (ps_cv G)).map fun v => v.category).sum ≤ 8) (k : ps_K M (d + 1) F (pc + 3) L (.inl (jbMin x y) :: st) σ) : ps_K M (d + 1) F pc L (.inl y :: .inl x :: st) σ := by
  intro G p l e R s m args below meth c H locs ls hI
  have hR := hI.1.2.2.2.2.2.2.2.1
  exact va_mmin hI.1.1 hI.1.2.1 (hI.1.2.2.1.trans hI.2.1.1.symm) hI.1.2.2.2.2.1 (hI.1.2.2.2.2.2.1 _ hl rfl) (hI.1.2.2.2.2.2.1 (.static Lib.Math.min.name) (by decide +kernel) rfl) (hI.1.2.2.2.2.2.1 (.initialized "java/lang/Math") (by decide +kernel) rfl) (hI.1.2.2.2.2.2.1 (.code Lib.Math.min.name Lib.Math.min.code 2 (some .int)) (by decide +kernel) rfl) (by have := hR.1; omega) (by have := hR.2.1; have := hrm G; omega) hR.2.2.1 hR.2.2.2 hd (k G p l e R s m args below meth c H locs ls (hI.to (ps_ok_i (ps_ok_t2 hI.2.2.1))))
theorem ps_sw7 (x : Int32) : x = 0 ∨ x = 1 ∨ x = 2 ∨ x = 3 ∨ x = 4 ∨ x = 5 ∨ x = 6 ∨ (x.toInt < 0 ∨ 6 < x.toInt) := by
  by_cases h : x.toInt < 0 ∨ 6 < x.toInt
  · simp [h]
  · have e : ∀ n : Int, x.toInt = n → x = Int32.ofInt n := fun n hn => by rw [← hn, Int32.ofInt_toInt]
    have h2 : x.toInt = 0 ∨ x.toInt = 1 ∨ x.toInt = 2 ∨ x.toInt = 3 ∨ x.toInt = 4 ∨ x.toInt = 5 ∨ x.toInt = 6 := by omega
    rcases h2 with q | q | q | q | q | q | q <;> rw [e _ q] <;> decide

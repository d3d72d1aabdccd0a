/-! ===== plans: what is asked; the first plan ===== -/
noncomputable def uN (τ : ps_S) : Nat := mkN 6 (fun f => mSh τ f f)
theorem uN_tb {τ : ps_S} {i : Nat} : (uN τ).testBit i = true ↔ (i < 6 ∧ mSh τ i i) := mkN_bit (n := 6) (by decide) _ 6 i
theorem uN_lt (τ : ps_S) : uN τ < 64 := mkN_lt _ 6
def pz (τ : ps_S) : Nat := (τ 50 0 13).toNatClampNeg
theorem mSh_sym {τ : ps_S} {a b : Nat} : mSh τ a b ↔ mSh τ b a := by
  unfold mSh
  exact ⟨fun ⟨p, h1, h2, h3⟩ => ⟨p, h1, h3, h2⟩, fun ⟨p, h1, h2, h3⟩ => ⟨p, h1, h3, h2⟩⟩
theorem wsh_told {τ : ps_S} : ∀ (r a b : Nat), wsh τ r a b → mSh τ a a ∧ mSh τ b b
  | 0, a, b, h => by
    obtain ⟨p, h1, h2, h3⟩ := h
    have n0 : ¬ (0 : Int32) = -900009 := by decide
    have n1 : ¬ (1 : Int32) = -900009 := by decide
    exact ⟨⟨p, h1, by rw [h2]; exact n0, by rw [h2]; exact n0⟩, ⟨p, h1, by rw [h3]; exact n1, by rw [h3]; exact n1⟩⟩
  | r + 1, a, b, h => by
    rcases h with h | ⟨h1, h2⟩
    · exact wsh_told r a b h
    · exact ⟨(wsh_told r _ _ h1).1, (wsh_told r _ _ h2).2⟩
theorem mst_told {τ : ps_S} {a b : Nat} (h : mstT τ a b) : mSh τ a a ∧ mSh τ b b := wsh_told 6 a b h
/-- a plan -/
def isPl (τ : ps_S) (A : Nat → Nat) : Prop := (∀ a, a < 6 → (uN τ).testBit a = true → cntN 6 (fun b => (uN τ).testBit b = true ∧ A b = A a) ≤ pz τ) ∧ (∀ a b, a < 6 → b < 6 → (uN τ).testBit a = true → (uN τ).testBit b = true → a ≠ b → A a = A b → ¬ mSh τ a b) ∧ ∀ a b, a < 6 → b < 6 → (uN τ).testBit a = true → (uN τ).testBit b = true → mstT τ a b → A a < A b
/-- what may lie on one day, those of the pair together -/
def ftN (τ : ps_S) (pair m : Nat) : Prop := (m &&& pair = 0 ∨ m &&& pair = pair) ∧ cntN 6 (fun i => m.testBit i = true) ≤ pz τ ∧ ∀ a b, a < 6 → b < 6 → m.testBit a = true → m.testBit b = true → a ≠ b → ¬ mSh τ a b
/-- how many plans -/
noncomputable def plN (τ : ps_S) (D pair : Nat) : Nat := wC (ftN τ pair) (mstT τ) (uN τ) D
theorem PP_isPl {τ : ps_S} {D pair : Nat} {A : Nat → Nat} {pk : Prop} (hA : ∀ i, i < 6 → (uN τ).testBit i = true → A i < D) (hp : pk ↔ ∀ d, d < D → (dm (uN τ) A d &&& pair = 0 ∨ dm (uN τ) A d &&& pair = pair)) : PP (ftN τ pair) (mstT τ) (uN τ) D A ↔ (isPl τ A ∧ pk) := by
  have ec : ∀ d, cntN 6 (fun i => (dm (uN τ) A d).testBit i = true) = cntN 6 (fun b => (uN τ).testBit b = true ∧ A b = d) := fun d => cnt_congr (fun i hi => by
    rw [dm_tb]
    exact ⟨fun q => q.2, fun q => ⟨hi, q⟩⟩)
  rw [hp]
  constructor
  · rintro ⟨p1, p2⟩
    refine ⟨⟨fun a ha hU => ?_, fun a b ha hb hUa hUb hne e => ?_, fun a b ha hb hUa hUb hm => ?_⟩, fun d hd => (p1 d hd).1⟩
    · have := (p1 (A a) (hA a ha hU)).2.1
      rw [ec] at this
      exact this
    · exact (p1 (A a) (hA a ha hUa)).2.2 a b ha hb (dm_tb.mpr ⟨ha, hUa, rfl⟩) (dm_tb.mpr ⟨hb, hUb, e.symm⟩) hne
    · exact (p2 b a hb hUb ha hm).2
  · rintro ⟨⟨q1, q2, q3⟩, hk⟩
    refine ⟨fun d hd => ⟨hk d hd, ?_, fun a b ha hb ma mb hne => ?_⟩, fun a f ha hS hf hm => ?_⟩
    · rw [ec]
      by_cases w : ∃ a, a < 6 ∧ (uN τ).testBit a = true ∧ A a = d
      · obtain ⟨a, ha, hU, e⟩ := w
        have := q1 a ha hU
        rw [e] at this
        exact this
      · rw [cnt_none (fun i hi z => w ⟨i, hi, z⟩)]
        exact Nat.zero_le _
    · obtain ⟨_, a2, a3⟩ := dm_tb.mp ma
      obtain ⟨_, b2, b3⟩ := dm_tb.mp mb
      exact q2 a b ha hb a2 b2 hne (by rw [a3, b3])
    · have hU : (uN τ).testBit f = true := uN_tb.mpr ⟨hf, (mst_told hm).1⟩
      exact ⟨hU, q3 f a hf ha hU hS hm⟩
/-- the count, as the reference has it -/
theorem plN_SA {τ : ps_S} {D pair : Nat} {pk : (Nat → Nat) → Prop} (hp : ∀ A, (∀ i, i < 6 → (uN τ).testBit i = true → A i < D) → (pk A ↔ ∀ d, d < D → (dm (uN τ) A d &&& pair = 0 ∨ dm (uN τ) A d &&& pair = pair))) : plN τ D pair = SA (uN τ) D (fun A => jN (isPl τ A ∧ pk A)) 6 A0 := by
  unfold plN wC
  refine SA_congr 6 A0 A0 (by decide) (fun A' B' a b e => ?_)
  have hA : ∀ i, i < 6 → (uN τ).testBit i = true → B' i < D := fun i hi w => b.2 i (by omega) hi w
  rw [← jN_iff (PP_isPl hA (hp B' hA)), jN_iff (PP_on (fun i hi w => e i (by omega) hi w))]
theorem pk_none {τ : ps_S} {D : Nat} (A : Nat → Nat) : True ↔ ∀ d, d < D → (dm (uN τ) A d &&& 0 = 0 ∨ dm (uN τ) A d &&& 0 = 0) := ⟨fun _ d _ => Or.inl (Nat.and_zero _), fun _ => trivial⟩
theorem pk_pair {τ : ps_S} {D a b : Nat} {A : Nat → Nat} (ha : a < 6) (hb : b < 6) (hUa : (uN τ).testBit a = true) (hUb : (uN τ).testBit b = true) (hA : ∀ i, i < 6 → (uN τ).testBit i = true → A i < D) : A a = A b ↔ ∀ d, d < D → (dm (uN τ) A d &&& (2 ^ a ||| 2 ^ b) = 0 ∨ dm (uN τ) A d &&& (2 ^ a ||| 2 ^ b) = (2 ^ a ||| 2 ^ b)) := by
  have tb : ∀ {d i}, (dm (uN τ) A d &&& (2 ^ a ||| 2 ^ b)).testBit i = true ↔ ((i < 6 ∧ (uN τ).testBit i = true ∧ A i = d) ∧ (i = a ∨ i = b)) := fun {d i} => by
    rw [and_tb, dm_tb, or_tb, Nat.testBit_two_pow, decide_eq_true_eq]
    exact ⟨fun q => ⟨q.1, q.2.elim (fun z => Or.inl z.symm) Or.inr⟩, fun q => ⟨q.1, q.2.elim (fun z => Or.inl z.symm) Or.inr⟩⟩
  have tp : ∀ {i}, (2 ^ a ||| 2 ^ b).testBit i = true ↔ (i = a ∨ i = b) := fun {i} => by
    rw [or_tb, Nat.testBit_two_pow, decide_eq_true_eq]
    exact ⟨fun q => q.elim (fun z => Or.inl z.symm) Or.inr, fun q => q.elim (fun z => Or.inl z.symm) Or.inr⟩
  constructor
  · intro e d hd
    by_cases w : A a = d
    · refine Or.inr (tb_ext (fun i => ?_))
      rw [tb, tp]
      refine ⟨fun q => q.2, fun q => ⟨?_, q⟩⟩
      rcases q with z | z
      · rw [z]; exact ⟨ha, hUa, w⟩
      · rw [z]; exact ⟨hb, hUb, by rw [← e]; exact w⟩
    · refine Or.inl (tb_ext (fun i => ?_))
      rw [tb, Nat.zero_testBit]
      refine ⟨fun q => ?_, fun q => Bool.noConfusion q⟩
      rcases q.2 with z | z
      · rw [z] at q; exact absurd q.1.2.2 w
      · rw [z] at q; exact absurd (e.trans q.1.2.2) w
  · intro h
    rcases h (A a) (hA a ha hUa) with z | z
    · have h1 := tb.mpr ⟨⟨ha, hUa, rfl⟩, Or.inl rfl⟩
      rw [z, Nat.zero_testBit] at h1
      cases h1
    · have h1 := (tp (i := b)).mpr (Or.inr rfl)
      rw [← z, tb] at h1
      exact h1.1.2.2.symm
/-- the first plan: as all are gone through; as the class goes -/
noncomputable def fp (s D : Nat) (Pl : (Nat → Nat) → Prop) : Nat → (Nat → Nat) → Option (Nat → Nat)
  | 0, A => @ite _ (Pl A) (Classical.propDecidable _) (some A) none
  | r + 1, A => if s.testBit (5 - r) = true then (List.range' 0 D).findSome? (fun d => fp s D Pl r (upA A (5 - r) d)) else fp s D Pl r A
noncomputable def fq (s D : Nat) (ok : (Nat → Nat) → Nat → Nat → Prop) : Nat → (Nat → Nat) → Option (Nat → Nat)
  | 0, A => some A
  | r + 1, A => if s.testBit (5 - r) = true then (List.range' 0 D).findSome? (fun d => @ite _ (ok A (5 - r) d) (Classical.propDecidable _) (fq s D ok r (upA A (5 - r) d)) none) else fq s D ok r A
theorem fp_t {s D r : Nat} {Pl : (Nat → Nat) → Prop} {A : Nat → Nat} (h : s.testBit (5 - r) = true) : fp s D Pl (r + 1) A = (List.range' 0 D).findSome? (fun d => fp s D Pl r (upA A (5 - r) d)) := by
  show (if s.testBit (5 - r) = true then _ else _) = _
  rw [if_pos h]
theorem fp_f {s D r : Nat} {Pl : (Nat → Nat) → Prop} {A : Nat → Nat} (h : ¬ s.testBit (5 - r) = true) : fp s D Pl (r + 1) A = fp s D Pl r A := by
  show (if s.testBit (5 - r) = true then _ else _) = _
  rw [if_neg h]
noncomputable def fqg (s D : Nat) (ok : (Nat → Nat) → Nat → Nat → Prop) (r : Nat) (A : Nat → Nat) (d : Nat) : Option (Nat → Nat) := @ite _ (ok A (5 - r) d) (Classical.propDecidable _) (fq s D ok r (upA A (5 - r) d)) none
theorem fqg_t {s D r d : Nat} {ok : (Nat → Nat) → Nat → Nat → Prop} {A : Nat → Nat} (h : ok A (5 - r) d) : fqg s D ok r A d = fq s D ok r (upA A (5 - r) d) := by unfold fqg; rw [if_pos h]
theorem fqg_f {s D r d : Nat} {ok : (Nat → Nat) → Nat → Nat → Prop} {A : Nat → Nat} (h : ¬ ok A (5 - r) d) : fqg s D ok r A d = none := by unfold fqg; rw [if_neg h]
theorem fq_t {s D r : Nat} {ok : (Nat → Nat) → Nat → Nat → Prop} {A : Nat → Nat} (h : s.testBit (5 - r) = true) : fq s D ok (r + 1) A = (List.range' 0 D).findSome? (fqg s D ok r A) := by
  show (if s.testBit (5 - r) = true then _ else _) = _
  rw [if_pos h]
  rfl
theorem fq_f {s D r : Nat} {ok : (Nat → Nat) → Nat → Nat → Prop} {A : Nat → Nat} (h : ¬ s.testBit (5 - r) = true) : fq s D ok (r + 1) A = fq s D ok r A := by
  show (if s.testBit (5 - r) = true then _ else _) = _
  rw [if_neg h]
theorem fs_congr {α : Type} {F G : Nat → Option α} : ∀ {l : List Nat}, (∀ x, x ∈ l → F x = G x) → l.findSome? F = l.findSome? G
  | [], _ => rfl
  | a :: l, h => by
    have h1 := h a (List.mem_cons_self ..)
    have h2 := fs_congr (l := l) (fun x hx => h x (List.mem_cons_of_mem _ hx))
    cases e : G a with
    | none => rw [fs_none (h1.trans e), fs_none e, h2]
    | some x => rw [fs_some (h1.trans e), fs_some e]
section FP
variable {s D : Nat} {Pl : (Nat → Nat) → Prop} {ok : (Nat → Nat) → Nat → Nat → Prop} {cons : Nat → (Nat → Nat) → Prop}
theorem fp_none (h6 : ∀ A, Pl A → cons 6 A) (ht : ∀ A k d, k < 6 → s.testBit k = true → cons (k + 1) (upA A k d) → cons k A) (hf : ∀ A k, k < 6 → ¬ s.testBit k = true → cons (k + 1) A → cons k A) : ∀ (r : Nat) (A : Nat → Nat), r ≤ 6 → ¬ cons (6 - r) A → fp s D Pl r A = none
  | 0, A, _, h => by
    show @ite _ (Pl A) (Classical.propDecidable _) (some A) none = none
    rw [if_neg (fun q => h (h6 A q))]
  | r + 1, A, hr, h => by
    rw [show 6 - (r + 1) = 5 - r from by omega] at h
    have hk : 6 - r = (5 - r) + 1 := by omega
    by_cases c : s.testBit (5 - r) = true
    · rw [fp_t c, List.findSome?_eq_none_iff]
      exact fun d _ => fp_none h6 ht hf r _ (by omega) (fun q => h (ht A (5 - r) d (by omega) c (hk ▸ q)))
    · rw [fp_f c]
      exact fp_none h6 ht hf r A (by omega) (fun q => h (hf A (5 - r) (by omega) c (hk ▸ q)))
theorem fp_fq (h6 : ∀ A, Pl A ↔ cons 6 A) (ht : ∀ A k d, k < 6 → s.testBit k = true → (cons (k + 1) (upA A k d) ↔ (cons k A ∧ ok A k d))) (hf : ∀ A k, k < 6 → ¬ s.testBit k = true → (cons (k + 1) A ↔ cons k A)) : ∀ (r : Nat) (A : Nat → Nat), r ≤ 6 → cons (6 - r) A → fp s D Pl r A = fq s D ok r A
  | 0, A, _, h => by
    show @ite _ (Pl A) (Classical.propDecidable _) (some A) none = some A
    rw [if_pos ((h6 A).mpr h)]
  | r + 1, A, hr, h => by
    rw [show 6 - (r + 1) = 5 - r from by omega] at h
    have hk : 6 - r = (5 - r) + 1 := by omega
    by_cases c : s.testBit (5 - r) = true
    · rw [fp_t c, fq_t c]
      refine fs_congr (fun d _ => ?_)
      by_cases o : ok A (5 - r) d
      · rw [fqg_t o]
        exact fp_fq h6 ht hf r _ (by omega) (hk ▸ (ht A (5 - r) d (by omega) c).mpr ⟨h, o⟩)
      · rw [fqg_f o]
        exact fp_none (fun A q => (h6 A).mp q) (fun A k d a b q => ((ht A k d a b).mp q).1) (fun A k a b q => (hf A k a b).mp q) r _ (by omega) (fun q => o ((ht A (5 - r) d (by omega) c).mp (hk ▸ q)).2)
    · rw [fp_f c, fq_f c]
      exact fp_fq h6 ht hf r A (by omega) (hk ▸ (hf A (5 - r) (by omega) c).mpr h)
end FP
/-- formes below k keep a plan; forme k may lie on day d -/
def csN (τ : ps_S) (k : Nat) (A : Nat → Nat) : Prop := (∀ a, a < k → (uN τ).testBit a = true → cntN k (fun b => (uN τ).testBit b = true ∧ A b = A a) ≤ pz τ) ∧ (∀ a b, a < k → b < k → (uN τ).testBit a = true → (uN τ).testBit b = true → a ≠ b → A a = A b → ¬ mSh τ a b) ∧ ∀ a b, a < k → b < k → (uN τ).testBit a = true → (uN τ).testBit b = true → a ≠ b → mstT τ a b → A a < A b
def okN (τ : ps_S) (A : Nat → Nat) (k d : Nat) : Prop := cntN k (fun b => (uN τ).testBit b = true ∧ A b = d) < pz τ ∧ (∀ b, b < k → (uN τ).testBit b = true → A b = d → ¬ mSh τ k b) ∧ ∀ b, b < k → (uN τ).testBit b = true → (mstT τ b k → A b < d) ∧ (mstT τ k b → d < A b)
theorem cs_t {τ : ps_S} (A : Nat → Nat) (k d : Nat) (hk : k < 6) (hU : (uN τ).testBit k = true) : csN τ (k + 1) (upA A k d) ↔ (csN τ k A ∧ okN τ A k d) := by
  have lo : ∀ i, i < k → upA A k d i = A i := fun i hi => by unfold upA; rw [if_neg (by omega)]
  have hi : upA A k d k = d := by unfold upA; rw [if_pos rfl]
  have ec : ∀ e, cntN (k + 1) (fun b => (uN τ).testBit b = true ∧ upA A k d b = e) = cntN k (fun b => (uN τ).testBit b = true ∧ A b = e) + jN (d = e) := fun e => by
    rw [cnt_S, cnt_congr (R := fun b => (uN τ).testBit b = true ∧ A b = e) (fun i h => by rw [lo i h])]
    congr 1
    rw [hi]
    exact jN_iff ⟨fun q => q.2, fun q => ⟨hU, q⟩⟩
  constructor
  · rintro ⟨c1, c2, c3⟩
    refine ⟨⟨fun a ha hUa => ?_, fun a b ha hb hUa hUb hne e => ?_, fun a b ha hb hUa hUb hne hm => ?_⟩, ?_, fun b hb hUb e => ?_, fun b hb hUb => ⟨fun hm => ?_, fun hm => ?_⟩⟩
    · have := c1 a (by omega) hUa
      rw [ec, lo a ha] at this
      omega
    · exact c2 a b (by omega) (by omega) hUa hUb hne (by rw [lo a ha, lo b hb]; exact e)
    · have := c3 a b (by omega) (by omega) hUa hUb hne hm
      rw [lo a ha, lo b hb] at this
      exact this
    · have := c1 k (by omega) hU
      rw [ec, hi, jN_t rfl] at this
      omega
    · exact c2 k b (by omega) (by omega) hU hUb (by omega) (by rw [hi, lo b hb]; exact e.symm)
    · have := c3 b k (by omega) (by omega) hUb hU (by omega) hm
      rw [hi, lo b hb] at this
      exact this
    · have := c3 k b (by omega) (by omega) hU hUb (by omega) hm
      rw [hi, lo b hb] at this
      exact this
  · rintro ⟨⟨c1, c2, c3⟩, o1, o2, o3⟩
    refine ⟨fun a ha hUa => ?_, fun a b ha hb hUa hUb hne e => ?_, fun a b ha hb hUa hUb hne hm => ?_⟩
    · rw [ec]
      rcases Nat.lt_or_eq_of_le (Nat.le_of_lt_succ ha) with z | z
      · rw [lo a z]
        by_cases w : d = A a
        · rw [← w, jN_t rfl]; omega
        · rw [jN_f w]
          have := c1 a z hUa
          omega
      · rw [z, hi, jN_t rfl]
        omega
    · rcases Nat.lt_or_eq_of_le (Nat.le_of_lt_succ ha) with z | z
      · rcases Nat.lt_or_eq_of_le (Nat.le_of_lt_succ hb) with w | w
        · rw [lo a z, lo b w] at e
          exact c2 a b z w hUa hUb hne e
        · rw [w, lo a z, hi] at e
          rw [w, mSh_sym]
          exact o2 a z hUa e
      · rcases Nat.lt_or_eq_of_le (Nat.le_of_lt_succ hb) with w | w
        · rw [z, lo b w, hi] at e
          rw [z]
          exact o2 b w hUb e.symm
        · omega
    · rcases Nat.lt_or_eq_of_le (Nat.le_of_lt_succ ha) with z | z
      · rcases Nat.lt_or_eq_of_le (Nat.le_of_lt_succ hb) with w | w
        · rw [lo a z, lo b w]
          exact c3 a b z w hUa hUb hne hm
        · rw [w] at hm ⊢
          rw [lo a z, hi]
          exact (o3 a z hUa).1 hm
      · rcases Nat.lt_or_eq_of_le (Nat.le_of_lt_succ hb) with w | w
        · rw [z] at hm ⊢
          rw [lo b w, hi]
          exact (o3 b w hUb).2 hm
        · omega
theorem cs_f {τ : ps_S} (A : Nat → Nat) (k : Nat) (_ : k < 6) (hU : ¬ (uN τ).testBit k = true) : csN τ (k + 1) A ↔ csN τ k A := by
  have ec : ∀ e, cntN (k + 1) (fun b => (uN τ).testBit b = true ∧ A b = e) = cntN k (fun b => (uN τ).testBit b = true ∧ A b = e) := fun e => by
    rw [cnt_S, jN_f (fun q => hU q.1), Nat.add_zero]
  have hne : ∀ a, a < k + 1 → (uN τ).testBit a = true → a < k := fun a ha hUa => by
    rcases Nat.lt_or_eq_of_le (Nat.le_of_lt_succ ha) with z | z
    · exact z
    · exact absurd (z ▸ hUa) hU
  constructor
  · rintro ⟨c1, c2, c3⟩
    refine ⟨fun a ha hUa => ?_, fun a b ha hb => c2 a b (by omega) (by omega), fun a b ha hb => c3 a b (by omega) (by omega)⟩
    have := c1 a (by omega) hUa
    rw [ec] at this
    exact this
  · rintro ⟨c1, c2, c3⟩
    refine ⟨fun a ha hUa => ?_, fun a b ha hb hUa hUb => c2 a b (hne a ha hUa) (hne b hb hUb) hUa hUb, fun a b ha hb hUa hUb => c3 a b (hne a ha hUa) (hne b hb hUb) hUa hUb⟩
    rw [ec]
    exact c1 a (hne a ha hUa) hUa
theorem cs_6 {τ : ps_S} (hr : ∀ f, f < 6 → ¬ mstT τ f f) (A : Nat → Nat) : isPl τ A ↔ csN τ 6 A := by
  unfold isPl csN
  constructor
  · rintro ⟨a, b, c⟩
    exact ⟨a, b, fun x y hx hy hUx hUy _ hm => c x y hx hy hUx hUy hm⟩
  · rintro ⟨a, b, c⟩
    refine ⟨a, b, fun x y hx hy hUx hUy hm => ?_⟩
    by_cases e : x = y
    · rw [e] at hm; exact absurd hm (hr y hy)
    · exact c x y hx hy hUx hUy e hm
theorem fp_first {τ : ps_S} {D : Nat} (hr : ∀ f, f < 6 → ¬ mstT τ f f) : fp (uN τ) D (isPl τ) 6 A0 = fq (uN τ) D (okN τ) 6 A0 :=
  fp_fq (cons := csN τ) (cs_6 hr) (fun A k d a b => cs_t A k d a b) (fun A k a b => cs_f A k a b) 6 A0 (by decide) ⟨fun a h => absurd h (by omega), fun a b h => absurd h (by omega), fun a b h => absurd h (by omega)⟩
theorem fp_ring {τ : ps_S} {D : Nat} {f : Nat} (hf : f < 6) (h : mstT τ f f) : fp (uN τ) D (isPl τ) 6 A0 = none := by
  have hU : (uN τ).testBit f = true := uN_tb.mpr ⟨hf, (mst_told h).1⟩
  exact fp_none (cons := fun _ _ => False) (fun A q => by have := q.2.2 f f hf hf hU hU h; omega) (fun _ _ _ _ _ q => q) (fun _ _ _ _ q => q) 6 A0 (by decide) (fun q => q)
/-- the day of a forme in the first plan -/
noncomputable def fdA (τ : ps_S) (o : Option (Nat → Nat)) (f : Nat) : Int32 := match o with
  | some A => if (uN τ).testBit f = true then nI (A f) else -900009
  | none => -900009
noncomputable def fdN (τ : ps_S) (D f : Nat) : Int32 := fdA τ (fp (uN τ) D (isPl τ) 6 A0) f

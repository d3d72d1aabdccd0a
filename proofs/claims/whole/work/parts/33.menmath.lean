/-! ===== men and pages: the numbers, over the reference's cells ===== -/
def wM (τ : ps_S) : Nat := (τ 50 0 21).toNatClampNeg
def wP (τ : ps_S) : Nat := (τ 50 0 22).toNatClampNeg
def wc (τ : ps_S) : Nat := (τ 50 0 25).toNatClampNeg
/-- what the tables of men and pages are, on both sides -/
def iWb (σ τ : ps_S) : Prop := (σ 36 0 2 = nI (wM τ) ∧ τ 50 0 21 = nI (wM τ) ∧ 1 ≤ wM τ ∧ wM τ ≤ 4) ∧ (σ 36 0 3 = nI (wP τ) ∧ τ 50 0 22 = nI (wP τ) ∧ 1 ≤ wP τ ∧ wP τ ≤ 12) ∧ (σ 36 0 4 = nI (wc τ) ∧ τ 50 0 25 = nI (wc τ) ∧ wc τ ≤ 99) ∧
  (∀ m w, m < 4 → w < 6 → σ 38 m w = τ 74 0 (6 * m + w) ∧ (τ 74 0 (6 * m + w) = -900009 ∨ τ 74 0 (6 * m + w) = 0 ∨ τ 74 0 (6 * m + w) = 1)) ∧
  ∀ p j, p < 12 → j < 12 → σ 40 p j = τ 75 0 (12 * p + j) ∧ ∃ n, n ≤ 9 ∧ τ 75 0 (12 * p + j) = nI n
/-- what is against, of a word and of a page -/
def owW (τ : ps_S) (p m w : Nat) : Nat := if τ 74 0 (6 * m + w) = -900009 then 0 else if τ 74 0 (6 * m + w) = 0 then (τ 75 0 (12 * p + 2 * w + 1)).toNatClampNeg else (τ 75 0 (12 * p + 2 * w)).toNatClampNeg
def ow (τ : ps_S) (p m : Nat) : Nat := sumN 6 (owW τ p m)
def cg (τ : ps_S) (a b : Nat) : Nat := if a = b then 0 else wc τ
def mn : Nat → (Nat → Nat) → Nat → Nat
  | 0, _, b => b
  | k + 1, g, b => min (mn k g b) (g k)
theorem mn_le {g : Nat → Nat} {b : Nat} : ∀ {n : Nat}, mn n g b ≤ b ∧ ∀ i, i < n → mn n g b ≤ g i
  | 0 => ⟨Nat.le_refl _, fun i h => absurd h (Nat.not_lt_zero i)⟩
  | n + 1 => by
    obtain ⟨h1, h2⟩ := mn_le (g := g) (b := b) (n := n)
    refine ⟨Nat.le_trans (Nat.min_le_left _ _) h1, fun i hi => ?_⟩
    rcases Nat.lt_or_eq_of_le (Nat.le_of_lt_succ hi) with q | q
    · exact Nat.le_trans (Nat.min_le_left _ _) (h2 i q)
    · subst q; exact Nat.min_le_right _ _
theorem mn_at {g : Nat → Nat} {b : Nat} : ∀ {n : Nat}, mn n g b = b ∨ ∃ i, i < n ∧ mn n g b = g i
  | 0 => Or.inl rfl
  | n + 1 => by
    show min (mn n g b) (g n) = b ∨ _
    rcases Nat.le_total (mn n g b) (g n) with q | q
    · rw [Nat.min_eq_left q]
      rcases mn_at (g := g) (b := b) (n := n) with h | ⟨i, hi, h⟩
      · exact Or.inl h
      · exact Or.inr ⟨i, by omega, by show min (mn n g b) (g n) = g i; rw [Nat.min_eq_left q]; exact h⟩
    · rw [Nat.min_eq_right q]
      exact Or.inr ⟨n, by omega, by show min (mn n g b) (g n) = g n; rw [Nat.min_eq_right q]⟩
/-- with a base that isn't below all: the least is one of them -/
theorem mn_in {g : Nat → Nat} {b n : Nat} (h : ∃ i, i < n ∧ g i ≤ b) : ∃ i, i < n ∧ mn n g b = g i := by
  obtain ⟨i, hi, hb⟩ := h
  rcases mn_at (g := g) (b := b) (n := n) with e | e
  · have := mn_le (g := g) (b := b) (n := n)
    exact ⟨i, hi, Nat.le_antisymm (this.2 i hi) (by rw [e]; exact hb)⟩
  · exact e
theorem mn_eq {g : Nat → Nat} {b v n : Nat} (h1 : ∃ i, i < n ∧ v = g i) (h2 : ∀ i, i < n → v ≤ g i) (h3 : v ≤ b) : mn n g b = v := by
  obtain ⟨i, hi, e⟩ := h1
  have hl := mn_le (g := g) (b := b) (n := n)
  refine Nat.le_antisymm (by rw [e]; exact hl.2 i hi) ?_
  rcases mn_at (g := g) (b := b) (n := n) with q | ⟨j, hj, q⟩
  · rw [q]; exact h3
  · rw [q]; exact h2 j hj
theorem mn_congr {g h : Nat → Nat} {b : Nat} : ∀ {n : Nat}, (∀ i, i < n → g i = h i) → mn n g b = mn n h b
  | 0, _ => rfl
  | n + 1, e => by
    show min (mn n g b) (g n) = min (mn n h b) (h n)
    rw [mn_congr (fun i hi => e i (by omega)), e n (by omega)]
abbrev FARn : Nat := 100000000
/-- what the pages behind cost at least, k of them; in how many ways; what all up to a page cost -/
def bhk (τ : ps_S) : Nat → Nat → Nat
  | 0, _ => 0
  | k + 1, m => mn (wM τ) (fun o => cg τ m o + ow τ (wP τ - 1 - k) o + bhk τ k o) FARn
def vth (τ : ps_S) (k m o : Nat) : Nat := cg τ m o + ow τ (wP τ - 1 - k) o + bhk τ k o
def wyk (τ : ps_S) : Nat → Nat → Int32
  | 0, _ => 1
  | k + 1, m => jSum (wM τ) (fun o => if vth τ k m o = bhk τ (k + 1) m then wyk τ k o else 0)
def upk (τ : ps_S) : Nat → Nat → Nat
  | 0, m => ow τ 0 m
  | p + 1, m => ow τ (p + 1) m + mn (wM τ) (fun o => upk τ p o + cg τ o m) FARn
def bh (τ : ps_S) (p m : Nat) : Nat := bhk τ (wP τ - 1 - p) m
def wy (τ : ps_S) (p m : Nat) : Int32 := wyk τ (wP τ - 1 - p) m
def lst (τ : ps_S) : Nat := mn (wM τ) (fun m => upk τ (wP τ - 1) m) FARn
theorem sumN_le {g : Nat → Nat} {b : Nat} : ∀ {n : Nat}, (∀ i, i < n → g i ≤ b) → sumN n g ≤ n * b
  | 0, _ => Nat.zero_le _
  | n + 1, h => by
    have h1 := sumN_le (n := n) (fun i hi => h i (by omega))
    have h2 := h n (by omega)
    show sumN n g + g n ≤ (n + 1) * b
    rw [Nat.add_mul, Nat.one_mul]
    omega
theorem nI_sum {g : Nat → Nat} {h : Nat → Int32} : ∀ {n : Nat}, (∀ i, i < n → h i = nI (g i)) → jSum n h = nI (sumN n g)
  | 0, _ => rfl
  | n + 1, e => by
    show jSum n h + h n = nI (sumN n g + g n)
    rw [nI_sum (fun i hi => e i (by omega)), e n (by omega), nI_add]
section MW
variable {σ τ : ps_S}
theorem owW_le (h : iWb σ τ) {p m w : Nat} (hp : p < 12) (hw : w < 6) : owW τ p m w ≤ 9 := by
  obtain ⟨-, -, -, -, h5⟩ := h
  unfold owW
  obtain ⟨-, n1, b1, e1⟩ := h5 p (2 * w + 1) hp (by omega)
  obtain ⟨-, n2, b2, e2⟩ := h5 p (2 * w) hp (by omega)
  rw [← Nat.add_assoc] at e1
  rw [e1, e2, nI_clamp (by omega), nI_clamp (by omega)]
  split
  · omega
  · split <;> omega
theorem ow_le (h : iWb σ τ) {p m : Nat} (hp : p < 12) : ow τ p m ≤ 54 := sumN_le (n := 6) (b := 9) (fun w hw => owW_le h hp hw)
theorem mWa_eq (h : iWb σ τ) {p m : Nat} (hp : p < 12) (hm : m < 4) : mWa τ p m = nI (ow τ p m) := by
  obtain ⟨-, -, -, -, h5⟩ := h
  unfold mWa ow
  refine nI_sum (fun w hw => ?_)
  obtain ⟨-, n1, b1, e1⟩ := h5 p (2 * w + 1) hp (by omega)
  obtain ⟨-, n2, b2, e2⟩ := h5 p (2 * w) hp (by omega)
  rw [← Nat.add_assoc] at e1
  unfold owW
  rw [e1, e2, nI_clamp (by omega), nI_clamp (by omega)]
  split
  · rfl
  · split <;> rfl
theorem mHab_of (h : iWb σ τ) {m : Nat} (hm : m < 4) : mHab τ m := fun w hw => (h.2.2.2.1 m w hm hw).2
theorem sWa_eq (h : iWb σ τ) {p m : Nat} (hp : p < 12) (hm : m < 4) : sWa σ p m = nI (ow τ p m) := by
  rw [← mWa_eq h hp hm]
  obtain ⟨-, -, -, h4, h5⟩ := h
  unfold sWa mWa
  have ext : ∀ (g k : Nat → Int32) (n : Nat), (∀ i, i < n → g i = k i) → jSum n g = jSum n k := by
    intro g k n
    induction n with
    | zero => intro _; rfl
    | succ n ih =>
      intro e
      show jSum n g + g n = jSum n k + k n
      rw [ih (fun i hi => e i (by omega)), e n (by omega)]
  refine ext _ _ 6 (fun w hw => ?_)
  obtain ⟨e1, e2⟩ := h4 m w hm hw
  have e3 := (h5 p (2 * w) hp (by omega)).1
  have e4 := (h5 p (2 * w + 1) hp (by omega)).1
  rw [← Nat.add_assoc] at e4
  show (0 + (if σ 38 m w = -900009 then 0 else if σ 38 m w = nI 0 then 0 else σ 40 p (2 * w + 0))) + (if σ 38 m w = -900009 then 0 else if σ 38 m w = nI 1 then 0 else σ 40 p (2 * w + 1)) = _
  rw [e1, Nat.add_zero, e3, e4]
  rcases e2 with z | z | z
  · rw [z]; simp
  · rw [z, show nI 0 = 0 from rfl, show nI 1 = 1 from rfl]
    simp
  · rw [z, show nI 0 = 0 from rfl, show nI 1 = 1 from rfl]
    simp
theorem cg_le (h : iWb σ τ) {a b : Nat} : cg τ a b ≤ 99 := by
  have := h.2.2.1.2.2
  unfold cg
  split <;> omega
theorem bhk_le (h : iWb σ τ) : ∀ (k m : Nat), k < wP τ → m < wM τ → bhk τ k m ≤ k * 153
  | 0, m, _, _ => Nat.zero_le _
  | k + 1, m, hk, hm => by
    have h1 := bhk_le h k m (by omega) hm
    have h2 := (mn_le (n := wM τ) (g := fun o => cg τ m o + ow τ (wP τ - 1 - k) o + bhk τ k o) (b := FARn)).2 m hm
    have h3 := cg_le h (a := m) (b := m)
    have h4 := ow_le h (p := wP τ - 1 - k) (m := m) (by have := h.2.1.2.2.2; omega)
    show mn _ _ _ ≤ _
    omega
theorem upk_le (h : iWb σ τ) : ∀ (p m : Nat), p < wP τ → m < wM τ → upk τ p m ≤ 54 + p * 153
  | 0, m, hp, _ => by
    have := ow_le h (p := 0) (m := m) (by omega)
    show ow τ 0 m ≤ _
    omega
  | p + 1, m, hp, hm => by
    have h1 := upk_le h p m (by omega) hm
    have h2 := (mn_le (n := wM τ) (g := fun o => upk τ p o + cg τ o m) (b := FARn)).2 m hm
    have h3 := cg_le h (a := m) (b := m)
    have h4 := ow_le h (p := p + 1) (m := m) (by have := h.2.1.2.2.2; omega)
    show ow τ (p + 1) m + mn _ _ _ ≤ _
    omega
/-- what the pages behind a page cost is what one of the next page's men takes -/
theorem bhk_in (h : iWb σ τ) {k m : Nat} (hk : k + 1 < wP τ) (hm : m < wM τ) : (∃ o, o < wM τ ∧ bhk τ (k + 1) m = vth τ k m o) ∧ ∀ o, o < wM τ → bhk τ (k + 1) m ≤ vth τ k m o := by
  refine ⟨mn_in ⟨m, hm, ?_⟩, fun o ho => (mn_le (n := wM τ) (g := fun o => cg τ m o + ow τ (wP τ - 1 - k) o + bhk τ k o) (b := FARn)).2 o ho⟩
  have h1 := bhk_le h k m (by omega) hm
  have h3 := cg_le h (a := m) (b := m)
  have h4 := ow_le h (p := wP τ - 1 - k) (m := m) (by have := h.2.1.2.2.2; omega)
  have h5 := h.2.1.2.2.2
  show cg τ m m + ow τ (wP τ - 1 - k) m + bhk τ k m ≤ 100000000
  have : k * 153 ≤ 12 * 153 := Nat.mul_le_mul_right _ (by omega)
  omega
theorem upk_in (h : iWb σ τ) {p m : Nat} (hp : p + 1 < wP τ) (hm : m < wM τ) : ∃ v, upk τ (p + 1) m = ow τ (p + 1) m + v ∧ (∃ o, o < wM τ ∧ v = upk τ p o + cg τ o m) ∧ ∀ o, o < wM τ → v ≤ upk τ p o + cg τ o m := by
  refine ⟨_, rfl, mn_in ⟨m, hm, ?_⟩, fun o ho => (mn_le (n := wM τ) (g := fun o => upk τ p o + cg τ o m) (b := FARn)).2 o ho⟩
  have h1 := upk_le h p m (by omega) hm
  have h3 := cg_le h (a := m) (b := m)
  have h5 := h.2.1.2.2.2
  show upk τ p m + cg τ m m ≤ 100000000
  have : p * 153 ≤ 12 * 153 := Nat.mul_le_mul_right _ (by omega)
  omega
/-- from ahead or from behind: the same least -/
theorem fwd_bwd (h : iWb σ τ) : ∀ r p, p + r + 1 = wP τ → mn (wM τ) (fun m => upk τ p m + bh τ p m) FARn = lst τ := by
  have hP := h.2.1.2.2
  have hM := h.1.2.2
  intro r
  induction r with
  | zero =>
    intro p hp
    have e : wP τ - 1 = p := by omega
    unfold lst
    rw [e]
    refine mn_congr (fun i hi => ?_)
    unfold bh
    rw [e, Nat.sub_self]
    rfl
  | succ r ih =>
    intro p hp
    rw [← ih (p + 1) (by omega)]
    have hk : wP τ - 1 - p = (wP τ - 1 - (p + 1)) + 1 := by omega
    have hpg : wP τ - 1 - (wP τ - 1 - (p + 1)) = p + 1 := by omega
    have big : ∀ q m, q < wP τ → m < wM τ → upk τ q m + bh τ q m ≤ 100000000 := by
      intro q m hq hm
      have h1 := upk_le h q m hq hm
      have h2 := bhk_le h (wP τ - 1 - q) m (by omega) hm
      have h3 : q * 153 ≤ 12 * 153 := Nat.mul_le_mul_right _ (by omega)
      have h4 : (wP τ - 1 - q) * 153 ≤ 12 * 153 := Nat.mul_le_mul_right _ (by omega)
      unfold bh
      omega
    obtain ⟨m1, hm1, e1⟩ := mn_in (n := wM τ) (g := fun m => upk τ (p + 1) m + bh τ (p + 1) m) (b := FARn) ⟨0, by omega, big (p + 1) 0 (by omega) (by omega)⟩
    rw [e1]
    have hl1 : ∀ m, m < wM τ → upk τ (p + 1) m1 + bh τ (p + 1) m1 ≤ upk τ (p + 1) m + bh τ (p + 1) m := fun m hm => by
      have := (mn_le (n := wM τ) (g := fun m => upk τ (p + 1) m + bh τ (p + 1) m) (b := FARn)).2 m hm
      rw [e1] at this
      exact this
    -- the step between a man of this page and one of the next
    have step : ∀ o m, o < wM τ → m < wM τ → upk τ (p + 1) m + bh τ (p + 1) m ≤ upk τ p o + (cg τ o m + ow τ (p + 1) m + bh τ (p + 1) m) := by
      intro o m ho hm
      obtain ⟨v, q1, -, q3⟩ := upk_in h (p := p) (m := m) (by omega) hm
      have := q3 o ho
      omega
    have hb : ∀ o, o < wM τ → (∃ m, m < wM τ ∧ bh τ p o = cg τ o m + ow τ (p + 1) m + bh τ (p + 1) m) ∧ ∀ m, m < wM τ → bh τ p o ≤ cg τ o m + ow τ (p + 1) m + bh τ (p + 1) m := by
      intro o ho
      have := bhk_in h (k := wP τ - 1 - (p + 1)) (m := o) (by omega) ho
      unfold vth at this
      rw [hpg, ← hk] at this
      exact this
    refine mn_eq ?_ ?_ (big (p + 1) m1 (by omega) hm1)
    · obtain ⟨v, q1, ⟨o, ho, q2⟩, q3⟩ := upk_in h (p := p) (m := m1) (by omega) hm1
      refine ⟨o, ho, ?_⟩
      obtain ⟨⟨m2, hm2, q4⟩, q5⟩ := hb o ho
      have q6 := q5 m1 hm1
      have q7 := step o m2 ho hm2
      have q8 := hl1 m2 hm2
      show upk τ (p + 1) m1 + bh τ (p + 1) m1 = upk τ p o + bh τ p o
      omega
    · intro o ho
      obtain ⟨⟨m2, hm2, q4⟩, q5⟩ := hb o ho
      have q7 := step o m2 ho hm2
      have q8 := hl1 m2 hm2
      show upk τ (p + 1) m1 + bh τ (p + 1) m1 ≤ upk τ p o + bh τ p o
      omega
end MW

/-! ===== a call of the class, then the same of the reference: questions ===== -/
def prD (Mx Mm : ps_M) (d : Nat) (av : List ps_V) (σ : ps_S) (P : ps_S → Prop) : Prop := ps_C Mx (d + 30) (ps_x :: av) σ (ps_ri fun r σ1 => ps_C Mm (d + 30) (ps_m :: av) σ1 (ps_ri fun r' σ2 => r = r' ∧ P σ2))
theorem vI {v : Int32} {f n : Nat} (hf : f < n) (hn : n ≤ 4096) (e : v = nI f) : vp_in v n := by rw [e]; exact vp_in_nI hf (by omega)
theorem vJ {v : Int32} {a b n : Nat} (ha : a < n) (hb : b < n) (hn : n ≤ 4096) (e : v = nI a) (e' : v = nI b) : a = b := (nI_eq (by omega) (by omega)).mp (e.symm.trans e')
theorem vR {v : Int32} {D n : Nat} (h1 : 1 ≤ D) (h2 : D ≤ n) (hn : n ≤ 4096) (e : v = nI D) : r1n v n := by
  unfold r1n
  rw [e, nI_toInt (by omega)]
  omega
section PQ
variable {σ : ps_S} {d : Nat} {P : ps_S → Prop} {v1 v2 v3 v4 : Int32}
theorem kF51 {σ1 : ps_S} (k : kF σ σ1) : σ1 51 0 = σ 51 0 := by rw [kF_50 k 51 (by omega)]
theorem kF_pr {σ1 : ps_S} (h : INV σ σ) (k : kF σ σ1) : prO σ σ1 := ⟨kF51 k, by rw [kF_50 k 58 (by omega)], fun f a b hf ha hb => (h.1 f hf).2.2.2.1 a b ha hb⟩
theorem INV_F {σ1 ρ : ps_S} (h : INV σ σ) (k : kF σ σ1) (i : iF σ1 σ) (m : frB σ1 ρ) : INV ρ ρ := INV_q (INV_kF h k i) (kF_50 k) m
theorem INV_0 {ρ : ps_S} (h : INV σ σ) (m : frB σ ρ) : INV ρ ρ := INV_q h (fun _ _ => rfl) m
-- formes
theorem pr_agree (h : INV σ σ) (K : ∀ ρ, INV ρ ρ → P ρ) : prD mX7_agree mX8_agree d [.inl v1, .inl v2, .inl v3] σ P :=
  x_agree h.1 (fun c => ⟨_, rfl, m_agree (fun _ => ⟨_, rfl, rfl, K _ h⟩) (fun f a b hf ha hb e1 e2 e3 => absurd ⟨vI hf (by decide) e1, vI ha (by decide) e2, vI hb (by decide) e3⟩ c)⟩)
    (fun f a b hf ha hb e1 e2 e3 => ⟨_, rfl, m_agree (fun c => absurd ⟨vI hf (by decide) e1, vI ha (by decide) e2, vI hb (by decide) e3⟩ c) (fun f' a' b' hf' ha' hb' e1' e2' e3' => ⟨_, rfl, by rw [vJ hf hf' (by decide) e1 e1', vJ ha ha' (by decide) e2 e2', vJ hb hb' (by decide) e3 e3'], K _ h⟩)⟩)
theorem pr_states (h : INV σ σ) (K : ∀ ρ, INV ρ ρ → P ρ) : prD mX7_states mX8_states d [.inl v1] σ P :=
  x_states h.1 (fun c => ⟨_, rfl, m_states (τ := σ) rfl (fun _ => ⟨_, rfl, rfl, K _ h⟩) (fun f ρ hf e _ => absurd (vI hf (by decide) e) c)⟩)
    (fun f σ1 hf e k i => ⟨_, rfl, m_states (τ := σ) (kF51 k) (fun c => absurd (vI hf (by decide) e) c) (fun f' ρ hf' e' m => ⟨_, rfl, by rw [vJ hf hf' (by decide) e e'], K _ (INV_F h k i m)⟩)⟩)
theorem pr_state (h : INV σ σ) (K : ∀ ρ, INV ρ ρ → P ρ) : prD mX7_state mX8_state d [.inl v1, .inl v2] σ P :=
  x_state h.1 (fun c => ⟨_, rfl, m_state (τ := σ) rfl (fun _ => ⟨_, rfl, rfl, K _ h⟩) (fun f a ρ hf ha e1 e2 _ => absurd ⟨vI hf (by decide) e1, vI ha (by decide) e2⟩ c)⟩)
    (fun f a σ1 hf ha e1 e2 k i => ⟨_, rfl, m_state (τ := σ) (kF51 k) (fun c => absurd ⟨vI hf (by decide) e1, vI ha (by decide) e2⟩ c) (fun f' a' ρ hf' ha' e1' e2' m => ⟨_, rfl, by rw [vJ hf hf' (by decide) e1 e1', vJ ha ha' (by decide) e2 e2'], K _ (INV_F h k i m)⟩)⟩)
theorem pr_letter (h : INV σ σ) (K : ∀ ρ, INV ρ ρ → P ρ) : prD mX7_letter mX8_letter d [.inl v1, .inl v2, .inl v3] σ P :=
  x_letter h.1 (fun c => ⟨_, rfl, m_letter (τ := σ) rfl (fun _ => ⟨_, rfl, rfl, K _ h⟩) (fun f ρ hf e _ _ => absurd (vI hf (by decide) e) c) (fun f p ρ hf _ e _ _ _ => absurd (vI hf (by decide) e) c)⟩)
    (fun f σ1 hf e k i w => ⟨_, rfl, m_letter (τ := σ) (kF51 k) (fun c => absurd (vI hf (by decide) e) c) (fun f' ρ hf' e' m _ => ⟨_, rfl, rfl, K _ (INV_F h k i m)⟩) (fun f' p ρ hf' hp e' e2 w2 _ => absurd ⟨by rw [vJ hf hf' (by decide) e e']; exact w2, vI hp (by decide) e2⟩ w)⟩)
    (fun f p σ1 hf hp e e2 w k i => ⟨_, rfl, m_letter (τ := σ) (kF51 k) (fun c => absurd (vI hf (by decide) e) c) (fun f' ρ hf' e' m q => absurd ⟨by rw [← vJ hf hf' (by decide) e e']; exact w, vI hp (by decide) e2⟩ q) (fun f' p' ρ hf' hp' e' e2' _ m => ⟨_, rfl, by rw [vJ hf hf' (by decide) e e', vJ hp hp' (by decide) e2 e2'], K _ (INV_F h k i m)⟩)⟩)
theorem pr_changes (h : INV σ σ) (K : ∀ ρ, INV ρ ρ → P ρ) : prD mX7_changes mX8_changes d [.inl v1, .inl v2, .inl v3] σ P :=
  x_changes h.1 (fun c => ⟨_, rfl, m_changes (τ := σ) rfl (fun _ => ⟨_, rfl, rfl, K _ h⟩) (fun f ρ hf e _ _ => absurd (vI hf (by decide) e) c) (fun f ρ hf e _ _ _ => absurd (vI hf (by decide) e) c)⟩)
    (fun f σ1 hf e k i w => ⟨_, rfl, m_changes (τ := σ) (kF51 k) (fun c => absurd (vI hf (by decide) e) c) (fun f' ρ hf' e' m _ => ⟨_, rfl, rfl, K _ (INV_F h k i m)⟩) (fun f' ρ hf' e' w2 w3 _ => absurd ⟨by rw [vJ hf hf' (by decide) e e']; exact w2, by rw [vJ hf hf' (by decide) e e']; exact w3⟩ w)⟩)
    (fun f σ1 hf e w2 w3 k i => ⟨_, rfl, m_changes (τ := σ) (kF51 k) (fun c => absurd (vI hf (by decide) e) c) (fun f' ρ hf' e' m q => absurd ⟨by rw [← vJ hf hf' (by decide) e e']; exact w2, by rw [← vJ hf hf' (by decide) e e']; exact w3⟩ q) (fun f' ρ hf' e' _ _ m => ⟨_, rfl, by rw [vJ hf hf' (by decide) e e'], K _ (INV_F h k i m)⟩)⟩)
theorem pr_slips (h : INV σ σ) (K : ∀ ρ, INV ρ ρ → P ρ) : prD mX7_slips mX8_slips d [.inl v1, .inl v2] σ P :=
  x_slips h.1 (fun c => ⟨_, rfl, m_slips (τ := σ) rfl (fun _ => ⟨_, rfl, rfl, K _ h⟩) (fun c' _ => absurd c' c) (fun f n ρ hf e _ _ _ _ => absurd (vI hf (by decide) e) c)⟩)
    (fun c c2 => ⟨_, rfl, m_slips (τ := σ) rfl (fun c' => absurd c c') (fun _ _ => ⟨_, rfl, rfl, K _ h⟩) (fun f n ρ hf _ e2 n1 n2 _ => absurd (vR n1 n2 (by decide) e2) c2)⟩)
    (fun f n σ1 hf e e2 n1 n2 k i => ⟨_, rfl, m_slips (τ := σ) (kF51 k) (fun c => absurd (vI hf (by decide) e) c) (fun _ c => absurd (vR n1 n2 (by decide) e2) c) (fun f' n' ρ hf' e' e2' n1' n2' m => ⟨_, rfl, by rw [vJ hf hf' (by decide) e e', vJ (n := 10) (by omega) (by omega) (by decide) e2 e2'], K _ (INV_F h k i m)⟩)⟩)
-- orders
theorem pr_least (h : INV σ σ) (K : ∀ ρ, INV ρ ρ → P ρ) : prD mX7_least mX8_least d [.inl v1] σ P :=
  x_least h.1 (fun c => ⟨_, rfl, m_least (kF_pr h (kF_refl σ)) (fun _ => ⟨_, rfl, rfl, K _ h⟩) (fun f ρ hf e _ => absurd (vI hf (by decide) e) c)⟩)
    (fun f σ1 hf e k i => ⟨_, rfl, m_least (kF_pr h k) (fun c => absurd (vI hf (by decide) e) c) (fun f' ρ hf' e' m => ⟨_, rfl, by rw [vJ hf hf' (by decide) e e'], K _ (INV_F h k i m)⟩)⟩)
theorem pr_orders (h : INV σ σ) (K : ∀ ρ, INV ρ ρ → P ρ) : prD mX7_orders mX8_orders d [.inl v1] σ P :=
  x_orders h.1 (fun c => ⟨_, rfl, m_orders (kF_pr h (kF_refl σ)) (fun _ => ⟨_, rfl, rfl, K _ h⟩) (fun f ρ hf e _ => absurd (vI hf (by decide) e) c)⟩)
    (fun f σ1 hf e k i => ⟨_, rfl, m_orders (kF_pr h k) (fun c => absurd (vI hf (by decide) e) c) (fun f' ρ hf' e' m => ⟨_, rfl, by rw [vJ hf hf' (by decide) e e'], K _ (INV_F h k i m)⟩)⟩)
theorem pr_first (h : INV σ σ) (K : ∀ ρ, INV ρ ρ → P ρ) : prD mX7_first mX8_first d [.inl v1, .inl v2] σ P :=
  x_first h.1 (fun c => ⟨_, rfl, m_first (kF_pr h (kF_refl σ)) (fun _ => ⟨_, rfl, rfl, K _ h⟩) (fun f ρ hf e _ _ => absurd (vI hf (by decide) e) c) (fun f i ρ hf _ e _ _ => absurd (vI hf (by decide) e) c)⟩)
    (fun c c2 => ⟨_, rfl, m_first (kF_pr h (kF_refl σ)) (fun c' => absurd c c') (fun f ρ hf e _ m => ⟨_, rfl, rfl, K _ (INV_0 h m)⟩) (fun f i ρ _ hi _ e2 _ => absurd (vI hi (by decide) e2) c2)⟩)
    (fun f i σ1 hf hi e e2 k q => ⟨_, rfl, m_first (kF_pr h k) (fun c => absurd (vI hf (by decide) e) c) (fun f' ρ hf' e' c2 _ => absurd (vI hi (by decide) e2) c2) (fun f' i' ρ hf' hi' e' e2' m => ⟨_, rfl, by rw [vJ hf hf' (by decide) e e', vJ hi hi' (by decide) e2 e2'], K _ (INV_F h k q m)⟩)⟩)
theorem n9 {f a : Nat} (h : a < nst σ f) : a < 9 := Nat.lt_of_lt_of_le h (nst_le σ f)
theorem vN {v : Int32} {f a : Nat} (h : a < nst σ f) (e : v = nI a) : vp_in v (nst σ f) := vI h (Nat.le_trans (nst_le σ f) (by decide)) e
theorem pr_before (h : INV σ σ) (K : ∀ ρ, INV ρ ρ → P ρ) : prD mX7_before mX8_before d [.inl v1, .inl v2, .inl v3] σ P :=
  x_before h.1 (fun c => ⟨_, rfl, m_before (kF_pr h (kF_refl σ)) (fun _ => ⟨_, rfl, rfl, K _ h⟩) (fun f ρ hf e _ _ => absurd (vI hf (by decide) e) c) (fun f ρ hf e _ _ _ _ => absurd (vI hf (by decide) e) c) (fun f a b ρ hf e _ _ _ _ _ _ => absurd (vI hf (by decide) e) c)⟩)
    (fun f σ1 hf e k i w => ⟨_, rfl, m_before (kF_pr h k) (fun c => absurd (vI hf (by decide) e) c) (fun f' ρ hf' e' m _ => ⟨_, rfl, rfl, K _ (INV_F h k i m)⟩) (fun f' ρ hf' e' w2 w3 _ _ => absurd ⟨by rw [vJ hf hf' (by decide) e e']; exact w2, by rw [vJ hf hf' (by decide) e e']; exact w3⟩ w) (fun f' a b ρ hf' e' ea eb ha hb _ _ => absurd ⟨by rw [vJ hf hf' (by decide) e e']; exact vN ha ea, by rw [vJ hf hf' (by decide) e e']; exact vN hb eb⟩ w)⟩)
    (fun f σ1 hf e w2 w3 w4 k i => ⟨_, rfl, m_before (kF_pr h k) (fun c => absurd (vI hf (by decide) e) c) (fun f' ρ hf' e' m q => absurd ⟨by rw [← vJ hf hf' (by decide) e e']; exact w2, by rw [← vJ hf hf' (by decide) e e']; exact w3⟩ q) (fun f' ρ hf' e' _ _ _ m => ⟨_, rfl, rfl, K _ (INV_F h k i m)⟩) (fun f' a b ρ hf' e' ea eb ha hb hab _ => absurd (vJ (n9 ha) (n9 hb) (by decide) ea (w4.trans eb)) hab)⟩)
    (fun f a b σ1 hf e ea eb ha hb hab k i => ⟨_, rfl, m_before (kF_pr h k) (fun c => absurd (vI hf (by decide) e) c) (fun f' ρ hf' e' m q => absurd ⟨by rw [← vJ hf hf' (by decide) e e']; exact vN ha ea, by rw [← vJ hf hf' (by decide) e e']; exact vN hb eb⟩ q) (fun f' ρ hf' e' _ _ q _ => absurd (vJ (n9 ha) (n9 hb) (by decide) ea (q.trans eb)) hab) (fun f' a' b' ρ hf' e' ea' eb' ha' hb' _ m => ⟨_, rfl, by rw [vJ hf hf' (by decide) e e', vJ (n9 ha) (n9 ha') (by decide) ea ea', vJ (n9 hb) (n9 hb') (by decide) eb eb'], K _ (INV_F h k i m)⟩)⟩)
-- type
theorem pr_share (h : INV σ σ) (K : ∀ ρ, INV ρ ρ → P ρ) : prD mX7_share mX8_share d [.inl v1, .inl v2] σ P :=
  x_share h.2.1 (fun c => ⟨_, rfl, m_share (fun _ => ⟨_, rfl, rfl, K _ h⟩) (fun a b ha hb e1 e2 => absurd ⟨vI ha (by decide) e1, vI hb (by decide) e2⟩ c)⟩)
    (fun a b ha hb e1 e2 => ⟨_, rfl, m_share (fun c => absurd ⟨vI ha (by decide) e1, vI hb (by decide) e2⟩ c) (fun a' b' ha' hb' e1' e2' => ⟨_, rfl, by rw [vJ ha ha' (by decide) e1 e1', vJ hb hb' (by decide) e2 e2'], K _ h⟩)⟩)
theorem pr_must (h : INV σ σ) (K : ∀ ρ, INV ρ ρ → P ρ) : prD mX7_must mX8_must d [.inl v1, .inl v2] σ P :=
  x_must h.2.1 (fun c => ⟨_, rfl, m_must (τ := σ) rfl (fun _ => ⟨_, rfl, rfl, K _ h⟩) (fun a b ρ ha hb e1 e2 _ => absurd ⟨vI ha (by decide) e1, vI hb (by decide) e2⟩ c)⟩)
    (fun a b ha hb e1 e2 => ⟨_, rfl, m_must (τ := σ) rfl (fun c => absurd ⟨vI ha (by decide) e1, vI hb (by decide) e2⟩ c) (fun a' b' ρ ha' hb' e1' e2' m => ⟨_, rfl, by rw [vJ ha ha' (by decide) e1 e1', vJ hb hb' (by decide) e2 e2'], K _ (INV_0 h (frB_65 m))⟩)⟩)
theorem pr_ring (h : INV σ σ) (K : ∀ ρ, INV ρ ρ → P ρ) : prD mX7_ring mX8_ring d [] σ P :=
  x_ring h.2.1 ⟨_, rfl, m_ring (τ := σ) rfl (fun ρ m => ⟨_, rfl, rfl, K _ (INV_0 h (frB_65 m))⟩)⟩
-- plans
theorem INV_P {σ1 ρ : ps_S} (h : INV σ σ) (k : kP σ σ1) (i : iP σ1 σ) (m : frP σ1 ρ) : INV ρ ρ := INV_q (INV_kP h k i) (kP_50 k) (frB_P m)
theorem INV_z (h : INV σ σ) : 1 ≤ pz σ ∧ pz σ ≤ 6 := h.2.2.1.1.2.2
theorem kP63 {σ1 : ps_S} (k : kP σ σ1) : σ1 63 0 = σ 63 0 := by rw [kP_50 k 63 (by omega)]
theorem kP13 {σ1 : ps_S} (h : INV σ σ) (k : kP σ σ1) : σ1 50 0 13 = nI (pz σ) := by rw [kP_50 k 50 (by omega)]; exact h.2.2.1.1.2.1
theorem pr_plans (h : INV σ σ) (K : ∀ ρ, INV ρ ρ → P ρ) : prD mX7_plans mX8_plans d [.inl v1] σ P :=
  x_plans h.2.1 h.2.2.1 (fun c => ⟨_, rfl, m_plans (τ := σ) (INV_z h) rfl (kP13 h (kP_refl σ)) (fun _ => ⟨_, rfl, rfl, K _ h⟩) (fun D ρ d1 d2 e _ => absurd (vR d1 d2 (by decide) e) c)⟩)
    (fun D σ1 d1 d2 e k i => ⟨_, rfl, m_plans (τ := σ) (INV_z h) (kP63 k) (kP13 h k) (fun c => absurd (vR d1 d2 (by decide) e) c) (fun D' ρ d1' d2' e' m => ⟨_, rfl, by rw [vJ (n := 7) (by omega) (by omega) (by decide) e e'], K _ (INV_P h k i m)⟩)⟩)
theorem pr_day (h : INV σ σ) (K : ∀ ρ, INV ρ ρ → P ρ) : prD mX7_day mX8_day d [.inl v1, .inl v2] σ P :=
  x_day h.2.1 h.2.2.1 (fun c => ⟨_, rfl, m_day (τ := σ) (INV_z h) rfl (kP13 h (kP_refl σ)) (fun _ => ⟨_, rfl, rfl, K _ h⟩) (fun c' _ => absurd c' c) (fun D f ρ _ _ hf _ e _ => absurd (vI hf (by decide) e) c)⟩)
    (fun c c2 => ⟨_, rfl, m_day (τ := σ) (INV_z h) rfl (kP13 h (kP_refl σ)) (fun c' => absurd c c') (fun _ _ => ⟨_, rfl, rfl, K _ h⟩) (fun D f ρ d1 d2 _ e _ _ => absurd (vR d1 d2 (by decide) e) c2)⟩)
    (fun D f σ1 d1 d2 hf e e2 k i => ⟨_, rfl, m_day (τ := σ) (INV_z h) (kP63 k) (kP13 h k) (fun c => absurd (vI hf (by decide) e2) c) (fun _ c => absurd (vR d1 d2 (by decide) e) c) (fun D' f' ρ d1' d2' hf' e' e2' m => ⟨_, rfl, by rw [vJ (n := 7) (by omega) (by omega) (by decide) e e', vJ hf hf' (by decide) e2 e2'], K _ (INV_P h k i m)⟩)⟩)
theorem pr_beside (h : INV σ σ) (K : ∀ ρ, INV ρ ρ → P ρ) : prD mX7_beside mX8_beside d [.inl v1, .inl v2, .inl v3] σ P :=
  x_beside h.2.1 h.2.2.1 (fun c => ⟨_, rfl, m_beside (τ := σ) (INV_z h) rfl (kP13 h (kP_refl σ)) (fun _ => ⟨_, rfl, rfl, K _ h⟩) (fun c1 c2 _ => absurd ⟨c1, c2⟩ c) (fun a b ha hb e1 e2 _ _ => absurd ⟨vI ha (by decide) e1, vI hb (by decide) e2⟩ c) (fun D a b ρ _ _ ha hb _ e1 e2 _ _ _ => absurd ⟨vI ha (by decide) e1, vI hb (by decide) e2⟩ c)⟩)
    (fun c c2 c3 => ⟨_, rfl, m_beside (τ := σ) (INV_z h) rfl (kP13 h (kP_refl σ)) (fun q => absurd ⟨c, c2⟩ q) (fun _ _ _ => ⟨_, rfl, rfl, K _ h⟩) (fun a b _ _ _ _ q _ => absurd q c3) (fun D a b ρ d1 d2 _ _ e _ _ _ _ _ => absurd (vR d1 d2 (by decide) e) c3)⟩)
    (fun a b ha hb e1 e2 r w => ⟨_, rfl, m_beside (τ := σ) (INV_z h) rfl (kP13 h (kP_refl σ)) (fun q => absurd ⟨vI ha (by decide) e1, vI hb (by decide) e2⟩ q) (fun _ _ q => absurd r q) (fun a' b' _ _ _ _ _ _ => ⟨_, rfl, rfl, K _ h⟩) (fun D a' b' ρ d1 d2 ha' hb' e e1' e2' s1 s2 _ => absurd ⟨by rw [vJ ha ha' (by decide) e1 e1']; exact s1, by rw [vJ hb hb' (by decide) e2 e2']; exact s2⟩ w)⟩)
    (fun D a b σ1 d1 d2 ha hb e e1 e2 s1 s2 k i => ⟨_, rfl, m_beside (τ := σ) (INV_z h) (kP63 k) (kP13 h k) (fun q => absurd ⟨vI ha (by decide) e1, vI hb (by decide) e2⟩ q) (fun _ _ q => absurd (vR d1 d2 (by decide) e) q) (fun a' b' ha' hb' e1' e2' _ w => absurd ⟨by rw [← vJ ha ha' (by decide) e1 e1']; exact s1, by rw [← vJ hb hb' (by decide) e2 e2']; exact s2⟩ w) (fun D' a' b' ρ d1' d2' ha' hb' e' e1' e2' _ _ m => ⟨_, rfl, by rw [vJ (n := 7) (by omega) (by omega) (by decide) e e', vJ ha ha' (by decide) e1 e1', vJ hb hb' (by decide) e2 e2'], K _ (INV_P h k i m)⟩)⟩)
theorem pr_fewest (h : INV σ σ) (K : ∀ ρ, INV ρ ρ → P ρ) : prD mX7_fewest mX8_fewest d [] σ P :=
  x_fewest h.2.1 h.2.2.1 (fun σ1 k i => ⟨_, rfl, m_fewest (τ := σ) (INV_z h) (kP63 k) (kP13 h k) (fun ρ m => ⟨_, rfl, rfl, K _ (INV_P h k i m)⟩)⟩)
-- heaps
theorem pr_turns (h : INV σ σ) (K : ∀ ρ, INV ρ ρ → P ρ) : prD mX7_turns mX8_turns d [.inl v1] σ P :=
  x_turns h.2.2.2.1 (fun c => ⟨_, rfl, m_turns h.2.2.2.1 (fun _ => ⟨_, rfl, rfl, K _ h⟩) (fun f hf e => absurd (vI hf (by decide) e) c)⟩)
    (fun f hf e => ⟨_, rfl, m_turns h.2.2.2.1 (fun c => absurd (vI hf (by decide) e) c) (fun f' hf' e' => ⟨_, rfl, by rw [vJ hf hf' (by decide) e e'], K _ h⟩)⟩)
theorem hCn (h : INV σ σ) {f k : Nat} (hf : f < 6) (hk : k < (hn σ f + hz σ - 1) / hz σ) : k < 12 := (hHeap h.2.2.2.1 hf hk).2
theorem hC12 (h : INV σ σ) {f : Nat} (hf : f < 6) : (hn σ f + hz σ - 1) / hz σ ≤ 12 := by
  rcases Nat.lt_or_ge 12 ((hn σ f + hz σ - 1) / hz σ) with q | q
  · have := hCn h hf q
    omega
  · exact q
theorem pr_turned (h : INV σ σ) (K : ∀ ρ, INV ρ ρ → P ρ) : prD mX7_turned mX8_turned d [.inl v1, .inl v2] σ P :=
  x_turned h.2.2.2.1 (fun c => ⟨_, rfl, m_turned h.2.2.2.1 (fun _ => ⟨_, rfl, rfl, K _ h⟩) (fun f hf e _ => absurd (vI hf (by decide) e) c) (fun f k hf e _ _ => absurd (vI hf (by decide) e) c)⟩)
    (fun f hf e w => ⟨_, rfl, m_turned h.2.2.2.1 (fun c => absurd (vI hf (by decide) e) c) (fun _ _ _ _ => ⟨_, rfl, rfl, K _ h⟩) (fun f' k hf' e' e2 hk => absurd (by rw [vJ hf hf' (by decide) e e']; exact vI hk (Nat.le_trans (hC12 h hf') (by decide)) e2) w)⟩)
    (fun f k hf e e2 hk => ⟨_, rfl, m_turned h.2.2.2.1 (fun c => absurd (vI hf (by decide) e) c) (fun f' hf' e' w => absurd (by rw [← vJ hf hf' (by decide) e e']; exact vI hk (Nat.le_trans (hC12 h hf) (by decide)) e2) w) (fun f' k' hf' e' e2' hk' => ⟨_, rfl, by rw [vJ hf hf' (by decide) e e', vJ (hCn h hf hk) (hCn h hf' hk') (by decide) e2 e2'], K _ h⟩)⟩)
theorem pr_bound (h : INV σ σ) (K : ∀ ρ, INV ρ ρ → P ρ) : prD mX7_bound mX8_bound d [.inl v1, .inl v2, .inl v3] σ P :=
  x_bound h.2.2.2.1 (fun c => ⟨_, rfl, m_bound h.2.2.2.1 (fun _ => ⟨_, rfl, rfl, K _ h⟩) (fun f b hf hb e1 e2 _ => absurd ⟨vI hf (by decide) e1, vI hb (by decide) e2⟩ c) (fun f b hf hb e1 e2 _ => absurd ⟨vI hf (by decide) e1, vI hb (by decide) e2⟩ c)⟩)
    (fun f b hf hb e1 e2 w => ⟨_, rfl, m_bound h.2.2.2.1 (fun c => absurd ⟨vI hf (by decide) e1, vI hb (by decide) e2⟩ c) (fun _ _ _ _ _ _ _ => ⟨_, rfl, rfl, K _ h⟩) (fun f' b' hf' hb' e1' e2' w' => absurd w (by rw [vJ hf hf' (by decide) e1 e1', vJ hb hb' (by decide) e2 e2']; omega))⟩)
    (fun f b hf hb e1 e2 w => ⟨_, rfl, m_bound h.2.2.2.1 (fun c => absurd ⟨vI hf (by decide) e1, vI hb (by decide) e2⟩ c) (fun f' b' hf' hb' e1' e2' w' => absurd w (by rw [vJ hf hf' (by decide) e1 e1', vJ hb hb' (by decide) e2 e2']; omega)) (fun f' b' hf' hb' e1' e2' _ => ⟨_, rfl, by rw [vJ hf hf' (by decide) e1 e1', vJ hb hb' (by decide) e2 e2'], K _ h⟩)⟩)
-- men
theorem INV_W {σ1 ρ : ps_S} (h : INV σ σ) (k : frW σ σ1) (i : iW σ1 σ) (m : frR σ1 ρ) : INV ρ ρ := INV_q (INV_kW h k i) (kW_50 k) (frB_R m)
theorem kWb {σ1 : ps_S} (k : frW σ σ1) : bW σ σ1 := bW_of (eqB_of (kW_50 k))
theorem kWi {σ1 : ps_S} (k : frW σ σ1) (i : iW σ1 σ) : iWb σ1 σ1 := iWb_mv (fun _ _ _ => rfl) (kWb k) i.1
theorem frR0 (σ : ps_S) : frR σ σ := fun _ _ _ _ => rfl
theorem wM4 (h : INV σ σ) : wM σ ≤ 4 := h.2.2.2.2.1.1.2.2.2
theorem wP12 (h : INV σ σ) : wP σ ≤ 12 := h.2.2.2.2.1.2.1.2.2.2
theorem pr_against (h : INV σ σ) (K : ∀ ρ, INV ρ ρ → P ρ) : prD mX7_against mX8_against d [.inl v1, .inl v2] σ P :=
  x_against h.2.2.2.2.1 (fun c => ⟨_, rfl, m_against h.2.2.2.2.1 (frR0 σ) (fun _ => ⟨_, rfl, rfl, K _ h⟩) (fun p m hp hm e1 e2 => absurd ⟨vI hp (Nat.le_trans (wP12 h) (by decide)) e1, vI hm (Nat.le_trans (wM4 h) (by decide)) e2⟩ c)⟩)
    (fun p m hp hm e1 e2 => ⟨_, rfl, m_against h.2.2.2.2.1 (frR0 σ) (fun c => absurd ⟨vI hp (Nat.le_trans (wP12 h) (by decide)) e1, vI hm (Nat.le_trans (wM4 h) (by decide)) e2⟩ c) (fun p' m' hp' hm' e1' e2' => ⟨_, rfl, by rw [vJ hp hp' (Nat.le_trans (wP12 h) (by decide)) e1 e1', vJ hm hm' (Nat.le_trans (wM4 h) (by decide)) e2 e2'], K _ h⟩)⟩)
theorem pr_setting (h : INV σ σ) (K : ∀ ρ, INV ρ ρ → P ρ) : prD mX7_setting mX8_setting d [] σ P :=
  x_setting h.2.2.2.2 (fun σ1 k i => ⟨_, rfl, m_setting (kWi k i) (frR0 σ1) (fun ρ m => ⟨_, rfl, by rw [cW_l (kWb k)], K _ (INV_W h k i m)⟩)⟩)
theorem pr_settings (h : INV σ σ) (K : ∀ ρ, INV ρ ρ → P ρ) : prD mX7_settings mX8_settings d [] σ P :=
  x_settings h.2.2.2.2 (fun σ1 k i => ⟨_, rfl, m_settings (kWi k i) (frR0 σ1) (fun ρ m => ⟨_, rfl, by rw [cW_stt (kWb k)], K _ (INV_W h k i m)⟩)⟩)
theorem pr_who (h : INV σ σ) (K : ∀ ρ, INV ρ ρ → P ρ) : prD mX7_who mX8_who d [.inl v1] σ P :=
  x_who h.2.2.2.2 (fun c => ⟨_, rfl, m_who h.2.2.2.2.1 (frR0 σ) (fun _ => ⟨_, rfl, rfl, K _ h⟩) (fun p ρ hp e _ => absurd (vI hp (Nat.le_trans (wP12 h) (by decide)) e) c)⟩)
    (fun p σ1 hp e k i => ⟨_, rfl, m_who (kWi k i) (frR0 σ1) (fun c => absurd (by rw [cW_P (kWb k)]; exact vI hp (Nat.le_trans (wP12 h) (by decide)) e) c) (fun p' ρ hp' e' m => ⟨_, rfl, by rw [vJ hp (show p' < wP σ by rw [← cW_P (kWb k)]; exact hp') (Nat.le_trans (wP12 h) (by decide)) e e', cW_whoN (kWb k)], K _ (INV_W h k i m)⟩)⟩)
theorem pr_sure (h : INV σ σ) (K : ∀ ρ, INV ρ ρ → P ρ) : prD mX7_sure mX8_sure d [.inl v1] σ P :=
  x_sure h.2.2.2.2 (fun c => ⟨_, rfl, m_sure h.2.2.2.2.1 (frR0 σ) (fun _ => ⟨_, rfl, rfl, K _ h⟩) (fun p ρ hp e _ => absurd (vI hp (Nat.le_trans (wP12 h) (by decide)) e) c)⟩)
    (fun p σ1 hp e k i => ⟨_, rfl, m_sure (kWi k i) (frR0 σ1) (fun c => absurd (by rw [cW_P (kWb k)]; exact vI hp (Nat.le_trans (wP12 h) (by decide)) e) c) (fun p' ρ hp' e' m => ⟨_, rfl, by rw [vJ hp (show p' < wP σ by rw [← cW_P (kWb k)]; exact hp') (Nat.le_trans (wP12 h) (by decide)) e e', cW_M (kWb k), cW_isB (kWb k)], K _ (INV_W h k i m)⟩)⟩)
theorem pr_count (h : INV σ σ) (K : ∀ ρ, INV ρ ρ → P ρ) : prD mX7_count mX8_count d [.inl v1] σ P :=
  x_count h.1 h.2.1 h.2.2.2.1 h.2.2.2.2.1 ⟨_, rfl, m_count ⟨_, rfl, rfl, K _ h⟩⟩
end PQ

/-! ===== the machine as this proof sees it: values, families of cells, memory =====
A value is an int, a long, or a cell (family, number). A family is a kind of cell of the two objects (the class's and the reference's): how many there are, and either an object
(its class's number, its fields: none is an int, some g the cell of family g of the same number) or an array (its type's number, its length; of ints, or of the cells of family g). No cell is made behind the constructors,
and no reference is ever written there: so a memory is a function from family, number and place to an int. -/
abbrev ps_V : Type := Int32 ⊕ (Int64 ⊕ (Nat × Nat))
abbrev ps_S : Type := Nat → Nat → Nat → Int32
abbrev ps_Sh : Type := Nat × ((Nat × List (Option Nat)) ⊕ (Nat × Nat × Option Nat))
def ps_fams : List ps_Sh := [
  (0, .inr (0, 0, none)),
  (1, .inl (7, [some 2, some 11, some 15, some 19, some 24, some 30, some 36])),
  (1, .inr (3, 6, some 3)),
  (6, .inl (0, [some 4, some 6, some 7, some 8, some 9, none, none, none, some 10, none, none, none])),
  (6, .inr (2, 9, some 5)),
  (54, .inr (0, 6, none)),
  (6, .inr (0, 9, none)),
  (6, .inr (0, 9, none)),
  (6, .inr (0, 9, none)),
  (6, .inr (0, 9, none)),
  (6, .inr (0, 9, none)),
  (1, .inl (5, [some 12, some 13, some 14, none])),
  (1, .inr (0, 512, none)),
  (1, .inr (0, 512, none)),
  (1, .inr (0, 10, none)),
  (1, .inl (3, [some 16, some 17, some 18, none])),
  (1, .inr (0, 4608, none)),
  (1, .inr (0, 81, none)),
  (1, .inr (0, 9, none)),
  (1, .inl (6, [some 20, some 22, some 23, none])),
  (1, .inr (2, 16, some 21)),
  (16, .inr (0, 6, none)),
  (1, .inr (0, 6, none)),
  (1, .inr (0, 6, none)),
  (1, .inl (4, [some 25, some 26, some 27, some 28, some 29, none, none])),
  (1, .inr (0, 64, none)),
  (1, .inr (0, 64, none)),
  (1, .inr (0, 64, none)),
  (1, .inr (0, 6, none)),
  (1, .inr (0, 6, none)),
  (1, .inl (1, [some 31, some 33, some 34, none])),
  (1, .inr (2, 6, some 32)),
  (6, .inr (0, 12, none)),
  (1, .inr (0, 6, none)),
  (1, .inr (2, 6, some 35)),
  (6, .inr (0, 12, none)),
  (1, .inl (2, [some 37, some 39, none, none, none, some 41, some 43, some 45, some 47, none, none])),
  (1, .inr (2, 4, some 38)),
  (4, .inr (0, 6, none)),
  (1, .inr (2, 12, some 40)),
  (12, .inr (0, 12, none)),
  (1, .inr (2, 12, some 42)),
  (12, .inr (0, 4, none)),
  (1, .inr (2, 12, some 44)),
  (12, .inr (0, 4, none)),
  (1, .inr (2, 12, some 46)),
  (12, .inr (0, 4, none)),
  (1, .inr (2, 12, some 48)),
  (12, .inr (0, 4, none)),
  (0, .inr (0, 0, none)),
  (1, .inl (8, [some 51, none, some 53, some 54, some 55, some 56, some 57, some 58, some 59, some 60, some 61, some 62, some 63, none, some 65, some 66, some 67, some 68, some 69, some 70, none, none, none, some 74, some 75, none, some 77, some 78, some 79])),
  (1, .inr (0, 324, none)),
  (0, .inr (0, 0, none)),
  (1, .inr (0, 9, none)),
  (1, .inr (0, 9, none)),
  (1, .inr (0, 512, none)),
  (1, .inr (0, 512, none)),
  (1, .inr (0, 512, none)),
  (1, .inr (1, 486, none)),
  (1, .inr (0, 9, none)),
  (1, .inr (0, 81, none)),
  (1, .inr (0, 4608, none)),
  (1, .inr (0, 4608, none)),
  (1, .inr (0, 96, none)),
  (0, .inr (0, 0, none)),
  (1, .inr (0, 6, none)),
  (1, .inr (0, 6, none)),
  (1, .inr (0, 6, none)),
  (1, .inr (0, 6, none)),
  (1, .inr (0, 72, none)),
  (1, .inr (0, 72, none)),
  (0, .inr (0, 0, none)),
  (0, .inr (0, 0, none)),
  (0, .inr (0, 0, none)),
  (1, .inr (0, 24, none)),
  (1, .inr (0, 144, none)),
  (0, .inr (0, 0, none)),
  (1, .inr (0, 52, none)),
  (1, .inr (0, 52, none)),
  (1, .inr (0, 48, none))]
def ps_sh (f : Nat) : ps_Sh := ps_fams.getD f (0, .inr (0, 0, none))
def ps_cnt (f : Nat) : Nat := (ps_sh f).1
/-- addresses of the cells; the classes' numbers and slots; the array classes' numbers (0 int[], 1 boolean[], 2 int[][], 3 Forme[]) -/
abbrev ps_G : Type := (Nat → Nat → Nat) × va_G × (Nat → ClassId)
def ps_cv (G : ps_G) (v : ps_V) : Value := match v with
  | .inl x => .int x
  | .inr (.inl x) => .long x
  | .inr (.inr q) => .ref (G.1 q.1 q.2)
def ps_ok (v : ps_V) : Prop := match v with
  | .inr (.inr q) => q.2 < ps_cnt q.1 ∨ q.1 = 0
  | _ => True
def ps_fld (G : ps_G) (g : Nat → Int32) (k : Nat) : Nat → Option Nat → Value := fun j t => match t with
  | none => .int (g j)
  | some f' => .ref (G.1 f' k)
def ps_E (G : ps_G) (q : Nat × Nat) (g : Nat → Int32) : va_E := match (ps_sh q.1).2 with
  | .inl (ci, fs) => .inr (ci, fs.mapIdx (ps_fld G g q.2))
  | .inr (ay, n, none) => .inl (G.2.2 ay, n, .inl g)
  | .inr (ay, n, some f') => .inl (G.2.2 ay, n, .inr (.inr (.inr (.inr (fun j => if j < n then some (G.1 f' (n * q.2 + j)) else none)))))
def ps_cells : List (Nat × Nat) := (List.range ps_fams.length).flatMap fun f => (List.range (ps_cnt f)).map fun k => (f, k)
def ps_ws (G : ps_G) (σ : ps_S) : va_W := ps_cells.map fun q => (G.1 q.1 q.2, ps_E G q (σ q.1 q.2))
def ps_up (σ : ps_S) (f k j : Nat) (x : Int32) : ps_S := fun f' k' j' => if f' = f ∧ k' = k ∧ j' = j then x else σ f' k' j'
def ps_A (G : ps_G) : Nat → Prop := fun a => ∃ q ∈ ps_cells, a = G.1 q.1 q.2
abbrev ps_cls : List vw_C := [(RX0, TX0, 12), (RX1, TX1, 4), (RX2, TX2, 11), (RX3, TX3, 4), (RX4, TX4, 7), (RX5, TX5, 4), (RX6, TX6, 4), (RX7, TX7, 7), (RX8, TX8, 29)]
def ps_tys (G : ps_G) : List (ClassId × FieldType) := [(G.2.2 0, .int), (G.2.2 1, .boolean), (G.2.2 2, .array .int), (G.2.2 3, .object "PressSheets$Forme")]
theorem ps_mem {f k : Nat} (h : k < ps_cnt f) : (f, k) ∈ ps_cells := by
  refine List.mem_flatMap.mpr ⟨f, List.mem_range.mpr ?_, List.mem_map.mpr ⟨k, List.mem_range.mpr h, rfl⟩⟩
  rcases Nat.lt_or_ge f ps_fams.length with q | q
  · exact q
  · exfalso
    have e : ps_cnt f = 0 := by
      unfold ps_cnt ps_sh
      simp [List.getD, List.getElem?_eq_none q]
    omega
theorem ps_mem_iff {f k : Nat} (h : (f, k) ∈ ps_cells) : k < ps_cnt f := by
  obtain ⟨f', -, h2⟩ := List.mem_flatMap.mp h
  obtain ⟨k', h3, h4⟩ := List.mem_map.mp h2
  cases h4
  exact List.mem_range.mp h3
set_option maxRecDepth 100000 in
theorem ps_nodup : ps_cells.Nodup := by decide +kernel
theorem ps_idx {f k : Nat} (h : k < ps_cnt f) : ∃ i : Nat, ps_cells[i]? = some (f, k) := List.getElem?_of_mem (ps_mem h)
theorem ps_ws_at {G : ps_G} {σ : ps_S} {i : Nat} {q : Nat × Nat} (h : ps_cells[i]? = some q) : (ps_ws G σ)[i]? = some (G.1 q.1 q.2, ps_E G q (σ q.1 q.2)) := by
  unfold ps_ws
  rw [List.getElem?_map, h]
  rfl
theorem ps_up_ne {σ : ps_S} {f k j f' k' : Nat} {x : Int32} (h : ¬ (f' = f ∧ k' = k)) : ps_up σ f k j x f' k' = σ f' k' := by
  funext j'
  unfold ps_up
  rw [if_neg (fun q => h ⟨q.1, q.2.1⟩)]
theorem ps_up_eq {σ : ps_S} {f k j : Nat} {x : Int32} : ps_up σ f k j x f k = upd (σ f k) j x := by
  funext j'
  unfold ps_up upd
  by_cases e : j' = j
  · rw [if_pos e, if_pos ⟨rfl, rfl, e⟩]
  · rw [if_neg e, if_neg (fun q => e q.2.2)]
theorem ps_ws_set {G : ps_G} {σ : ps_S} {i f k j : Nat} {x : Int32} {e : va_E} (h : ps_cells[i]? = some (f, k)) (he : e = ps_E G (f, k) (upd (σ f k) j x)) : (ps_ws G σ).set i (G.1 f k, e) = ps_ws G (ps_up σ f k j x) := by
  apply List.ext_getElem?
  intro i'
  by_cases hi : i' = i
  · subst hi
    rw [ps_ws_at h, ps_up_eq, ← he]
    have hl : i' < (ps_ws G σ).length := by
      unfold ps_ws
      rw [List.length_map]
      exact (List.getElem?_eq_some_iff.mp h).1
    rw [List.getElem?_set_self hl]
  · rw [List.getElem?_set_ne (fun q => hi q.symm)]
    unfold ps_ws
    rw [List.getElem?_map, List.getElem?_map]
    cases hq : ps_cells[i']? with
    | none => rfl
    | some q =>
      show some (G.1 q.1 q.2, ps_E G q (σ q.1 q.2)) = some (G.1 q.1 q.2, ps_E G q (ps_up σ f k j x q.1 q.2))
      rw [ps_up_ne (σ := σ) (f := f) (k := k) (j := j) (x := x) (f' := q.1) (k' := q.2)]
      rintro ⟨e1, e2⟩
      have e3 : q = (f, k) := by rw [← e1, ← e2]
      subst e3
      exact hi ((List.getElem?_inj (List.getElem?_eq_some_iff.mp hq).1 ps_nodup).mp (hq.trans h.symm))
theorem ps_ws_len (G : ps_G) (σ : ps_S) : (ps_ws G σ).length = ps_cells.length := List.length_map ..
/-- the cells are apart: said of the addresses alone -/
theorem ps_D_of {G : ps_G} {σ σ' : ps_S} {A : Nat → Prop} (h : va_D A (ps_ws G σ)) : va_D A (ps_ws G σ') := by
  have at' : ∀ {k : Nat} {q : Nat × va_E}, (ps_ws G σ')[k]? = some q → ∃ e, (ps_ws G σ)[k]? = some (q.1, e) := by
    intro k q hq
    unfold ps_ws at hq ⊢
    rw [List.getElem?_map] at hq ⊢
    cases hc : ps_cells[k]? with
    | none => rw [hc] at hq; cases hq
    | some c =>
      rw [hc] at hq
      cases hq
      exact ⟨_, rfl⟩
  refine ⟨fun i j p q hi hj hpq => ?_, fun k q hk => ?_⟩
  · obtain ⟨e1, h1⟩ := at' hi
    obtain ⟨e2, h2⟩ := at' hj
    exact h.1 i j _ _ h1 h2 hpq
  · obtain ⟨e1, h1⟩ := at' hk
    exact h.2 k (q.1, e1) h1

/-! ===== printed by wip/whole/cons.py: what the constructors make ===== -/
/-- the memory at first -/
def σ0 : ps_S := fun f _ j => match f with
  | 5 => if j < 6 then -900009 else 0
  | 21 => if j < 6 then -900009 else 0
  | 35 => if j < 12 then -900009 else 0
  | 38 => if j < 6 then -900009 else 0
  | 51 => if j < 324 then -900009 else 0
  | 63 => if j < 96 then -900009 else 0
  | 70 => if j < 72 then -900009 else 0
  | 74 => if j < 24 then -900009 else 0
  | 24 => if j = 5 then 2 else 0
  | 30 => if j = 3 then 4 else 0
  | 36 => if j = 2 then 2 else if j = 3 then 4 else if j = 4 then 3 else 0
  | 50 => if j = 13 then 2 else if j = 20 then 4 else if j = 21 then 2 else if j = 22 then 4 else if j = 25 then 3 else 0
  | _ => 0
/-- the cells of a list, by their addresses -/
def cs_blk (LC : List (Nat × Nat)) (g : cs_G) (ad : Nat → Nat → Nat) : va_W := LC.map (fun q => (ad q.1 q.2, ps_E (ad, g) q (σ0 q.1 q.2)))
def cs_Post (LC : List (Nat × Nat)) (f0 : Nat) (g : cs_G) (h0 : Nat) (ws : va_W) : Prop := ∃ ad : Nat → Nat → Nat, ad f0 0 = h0 ∧ ws = cs_blk LC g ad
theorem cs_eR {ad : Nat → Nat → Nat} {g : cs_G} {f n t : Nat} {φ : Nat → Int32} (hs : (ps_sh f).2 = .inr (2, n, some t)) : ps_E (ad, g) (f, 0) φ = .inl (g.2 2, n, .inr (.inr (.inr (.inr (cs_rf n (ad t)))))) := by
  rw [ps_E_ref hs]
  have e : (fun j => if j < n then some (ad t (n * 0 + j)) else none) = cs_rf n (ad t) := by
    funext j
    rw [Nat.mul_zero, Nat.zero_add]
  exact congrArg (fun z => (.inl (g.2 2, n, .inr (.inr (.inr (.inr z)))) : va_E)) e
theorem cs_fj0 (K : Nat) (v : Int32) : cs_fj K v 0 = fun _ _ => 0 := by
  funext i t
  unfold cs_fj
  rw [if_neg (by omega)]
theorem cs_rows_full {g : cs_G} {N K : Nat} {v : Int32} {r : Nat → Nat} : cs_rows g N K r (cs_fj K v N) = cs_rows g N K r (fun _ t => if t < K then v else 0) := by
  apply List.map_congr_left
  intro i hi
  have h := List.mem_range.mp hi
  have e : cs_fj K v N i = fun t => if t < K then v else 0 := by
    funext t
    unfold cs_fj
    rw [if_pos h]
  rw [e]
def lcX5 : List (Nat × Nat) := [(11, 0)] ++ [(12, 0)] ++ [(13, 0)] ++ [(14, 0)]
def lcX3 : List (Nat × Nat) := [(15, 0)] ++ [(16, 0)] ++ [(17, 0)] ++ [(18, 0)]
def lcX4 : List (Nat × Nat) := [(24, 0)] ++ [(25, 0)] ++ [(26, 0)] ++ [(27, 0)] ++ [(28, 0)] ++ [(29, 0)]
def lcX0 : List (Nat × Nat) := [(3, 0)] ++ [(4, 0)] ++ (List.range 9).map (fun k => (5, k)) ++ [(6, 0)] ++ [(7, 0)] ++ [(8, 0)] ++ [(9, 0)] ++ [(10, 0)]
def lcX6 : List (Nat × Nat) := [(19, 0)] ++ [(20, 0)] ++ (List.range 16).map (fun k => (21, k)) ++ [(22, 0)] ++ [(23, 0)]
def lcX1 : List (Nat × Nat) := [(30, 0)] ++ [(31, 0)] ++ (List.range 6).map (fun k => (32, k)) ++ [(33, 0)] ++ [(34, 0)] ++ (List.range 6).map (fun k => (35, k))
def lcX2 : List (Nat × Nat) := [(36, 0)] ++ [(37, 0)] ++ (List.range 4).map (fun k => (38, k)) ++ [(39, 0)] ++ (List.range 12).map (fun k => (40, k)) ++ [(41, 0)] ++ (List.range 12).map (fun k => (42, k)) ++ [(43, 0)] ++ (List.range 12).map (fun k => (44, k)) ++ [(45, 0)] ++ (List.range 12).map (fun k => (46, k)) ++ [(47, 0)] ++ (List.range 12).map (fun k => (48, k))
def lcX8 : List (Nat × Nat) := [(50, 0)] ++ [(51, 0)] ++ [(53, 0)] ++ [(54, 0)] ++ [(55, 0)] ++ [(56, 0)] ++ [(57, 0)] ++ [(58, 0)] ++ [(59, 0)] ++ [(60, 0)] ++ [(61, 0)] ++ [(62, 0)] ++ [(63, 0)] ++ [(65, 0)] ++ [(66, 0)] ++ [(67, 0)] ++ [(68, 0)] ++ [(69, 0)] ++ [(70, 0)] ++ [(74, 0)] ++ [(75, 0)] ++ [(77, 0)] ++ [(78, 0)] ++ [(79, 0)]

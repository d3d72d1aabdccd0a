/-! ===== constructors: calls, loops ===== -/
theorem cs_nd : ∀ n k : Nat, va_nd (List.range' k n) = true
  | 0, _ => rfl
  | n + 1, k => by
    rw [List.range'_succ]
    simp only [va_nd, Bool.and_eq_true, decide_eq_true_eq]
    exact ⟨fun h => by have := (List.mem_range'_1.mp h).1; omega, cs_nd n (k + 1)⟩
theorem cs_rng (wr x : va_W) : (List.range' 0 wr.length).map (fun i => (wr ++ x)[i]?) = wr.map some := by
  apply List.ext_getElem?
  intro i
  rw [List.getElem?_map, List.getElem?_map]
  by_cases h : i < wr.length
  · rw [List.getElem?_range' h, Option.map_some, Nat.zero_add, Nat.one_mul, List.getElem?_append_left h, List.getElem?_eq_getElem h]
    rfl
  · rw [List.getElem?_eq_none (by rw [List.length_range']; omega), List.getElem?_eq_none (by omega)]
    rfl
section CC
variable {M M2 : ps_M} {d pc : Nat} {g : cs_G} {A : State → Nat → Prop} {F : State → Array Value → List Frame → State → Prop} {L L' : List (Nat × Value)} {st : List Value} {ws : va_W} {cells slots : Nat}
/-- fewer locals, or in another order -/
theorem cs_loc (h : ∀ q ∈ L', q ∈ L) (k : cs_K M d g A F pc L' st ws cells slots) : cs_K M d g A F pc L st ws cells slots :=
  fun p l e R s m args below meth c H locs ls hI hl => k p l e R s m args below meth c H locs ls hI ⟨hl.1, hl.2.1, fun q hq => hl.2.2 q (h q hq)⟩
def cs_cI (own : String) (index : Nat) (M2 : ps_M) : Prop := (Cond.methodLink own index (ps_y M2) ∈ lw_tbl ∨ ∃ host, Cond.methodLinkNest own index (ps_y M2) host ∈ lw_tbl) ∧ Cond.initialized (ps_y M2).cls ∈ lw_tbl ∧ Cond.code (ps_y M2) (ps_code M2) (ps_maxL M2) (ps_ret M2) ∈ lw_tbl ∧ ((ps_y M2).cls ≠ "java/lang/invoke/MethodHandle" ∧ (ps_y M2).cls ≠ "java/lang/invoke/VarHandle") ∧
  (parseMethodDescriptor (ps_y M2).desc).map (fun d => d.parameters.length) = some 0 ∧ ps_maxL M2 ≤ 21 ∧ Cond.instanceMethod (ps_y M2) ∈ lw_tbl ∧ (ps_y M2).name = "<init>" ∧ ps_ret M2 = none
theorem cs_callI {index q : Nat} {e0 : va_E} {wr : va_W} {Post : va_W → Prop} (hd : decode (ps_code M) pc = .ok (.invokespecial index, 3)) (hc : cs_cI (ps_own M) index M2) (hst : (st.map fun v => v.category).sum ≤ 8) (hcl : cells + ps_cs M2 ≤ ps_cs M) (hsl : slots + ps_ss M2 ≤ ps_ss M) (hC : cs_C M2 d g [.ref q] [(q, e0)] Post)
    (kk : ∀ w1, Post w1 → cs_K M (d + 1) g A F (pc + 3) L st (wr ++ w1) (cells + ps_cs M2) (slots + ps_ss M2)) : cs_K M (d + 1) g A F pc L (.ref q :: st) (wr ++ [(q, e0)]) cells slots := by
  intro p l e R s m args below meth c H locs ls hI hl
  have hR := hI.1.2.2.2.2.2.2.2.1
  have hts : ∀ w ∈ lw_tbl.filter goodWord, w.before args s = true := fun w hw => hI.1.2.2.2.2.2.1 w (List.mem_filter.mp hw).1 (List.mem_filter.mp hw).2
  have hM := hC H.size l
  have hlast : (wr ++ [(q, e0)])[wr.length]? = some (q, e0) := by simp
  have hPc : va_P g.1 ps_cls [(q, e0)] H := hI.2.1.sub [wr.length] (by simp)
  have hDc : va_D (fun _ => True) [(q, e0)] := (hI.2.2.1.sub (ws' := [(q, e0)]) [wr.length] rfl (by simp)).weaken (fun _ _ _ _ => trivial)
  have hFc := va_free (wc := [(q, e0)]) hI.2.2.1 hI.2.2.2.1 hI.2.2.2.2 [wr.length] (by simp)
  have hpre : PreS s H (va_Pc [.ref q] (cs_Pre g [(q, e0)] H.size)) [.ref q] := ⟨cs_blind _, fun U hU hW => ⟨rfl, by rw [hU], by rw [hU]; exact hPc, hI.1.2.2.2.2.2.2.2.2.1.warm hW, hDc⟩⟩
  have hfix : CallFix p m c (ps_code M) (ps_maxL M) s args (lw_tbl.filter goodWord) (ps_own M) := ⟨hI.1.1, hI.1.2.1, hI.1.2.2.1, hI.1.2.2.2.2.1, hts⟩
  obtain ⟨hlk, w1, w2, w3, w4, w5, w6, w7, w8⟩ := hc
  have hroom : (cs_rm M2 d).frames + 1 ≤ R.frames ∧ 8 + (ps_maxL M2 + 11) + (cs_rm M2 d).locals ≤ R.locals := ⟨hR.1, by show 8 + (ps_maxL M2 + 11) + 40 * d ≤ R.locals; have := hR.2.1; omega⟩
  have hfit : cells + ps_cs M2 ≤ R.cells ∧ slots + ps_ss M2 ≤ R.slots := ⟨Nat.le_trans hcl hR.2.2.1, Nat.le_trans hsl hR.2.2.2⟩
  have hrun : va_Run p l e R s m args below meth c H locs cells slots (ps_cs M2) (ps_ss M2) (F0 m pc ls (.ref q :: st)) st (va_Qv Post (fun ws t => va_P g.1 ps_cls ws t.heap ∧ va_D (va_A [(q, e0)] H.size) ws) (va_A [(q, e0)] H.size) [Value.ref q].toArray) (va_A [(q, e0)] H.size) := by
    rcases hlk with hlk | ⟨host, hlk⟩
    · have hcb : CallB R s args (ps_own M) index (ps_y M2) (ps_code M2) (ps_maxL M2) (ps_ret M2) (ps_words M2) (cs_rm M2 d) (ps_cs M2) (ps_ss M2) 0 := callB_of (Ts := lw_tbl.filter goodWord) 0 hts (ps_goodIn w2) rfl rfl rfl (hI.1.2.2.2.2.2.1 _ w1 rfl) (hI.1.2.2.2.2.2.1 _ hlk rfl) ⟨w3.1, w3.2, w4⟩ hroom
      rw [w8] at hcb
      exact va_runI (As := []) (rest := st) hfix hM ⟨hcb, w7, hI.1.2.2.2.2.2.1 _ w6 rfl⟩ hpre rfl rfl hl.1 rfl (lv_room hst) hd hfit
    · have hcb : va_CN R s args (ps_own M) index (ps_y M2) host (ps_code M2) (ps_maxL M2) (ps_ret M2) (ps_words M2) (cs_rm M2 d) (ps_cs M2) (ps_ss M2) 0 := va_cnB (Ts := lw_tbl.filter goodWord) 0 hts (ps_goodIn w2) rfl rfl rfl (hI.1.2.2.2.2.2.2.2.2.1.2.2.1 _ _ _ _ hlk) (hI.1.2.2.2.2.2.1 _ w1 rfl) ⟨w3.1, w3.2, w4⟩ hroom
      rw [w8] at hcb
      exact va_runIN (As := []) (rest := st) hfix hM ⟨hcb, w7, hI.1.2.2.2.2.2.1 _ w6 rfl⟩ hpre rfl rfl hl.1 rfl (lv_room hst) hd hfit
  refine va_callv hrun hI.2.2.2.1 (fun x _ h => hFc x h) hFc (fun w t H1 locs1 ht hvm hpost hB hz hk hS => ?_)
  obtain ⟨hP1, hD1⟩ := hB
  rw [ht] at hP1
  obtain ⟨hPj, hDj⟩ := va_join (wc := [(q, e0)]) (wr := wr) (w1 := w) hI.2.1 hI.2.2.1 [wr.length] (List.range' 0 wr.length) (by simp) (cs_rng wr _) (cs_nd _ _) (fun i hi h => by
    have h1 := (List.mem_range'_1.mp hi).2
    have h2 := List.mem_singleton.mp h
    omega) hk hFc hP1 hD1
  exact kk w hpost p l e R s m args below meth c H1 locs1 ls ⟨hI.1, hPj, hDj, hS, hI.2.2.2.2⟩ hl
/-- a static method that writes one cell -/
theorem cs_callS {index k a n : Nat} {e0 e1 : va_E} {av : List Value} (hd : decode (ps_code M) pc = .ok (.invokestatic index, 3)) (hc : ps_cS (ps_own M) index M2 n) (hn : av.length = n) (h0 : ps_cs M2 = 0 ∧ ps_ss M2 = 0) (hcl : cells ≤ ps_cs M) (hsl : slots ≤ ps_ss M) (hst : (st.map fun v => v.category).sum ≤ 8) (hk : ws[k]? = some (a, e0)) (hC : cs_C M2 d g av [(a, e0)] (fun w => w = [(a, e1)]))
    (kk : cs_K M (d + 1) g A F (pc + 3) L st (ws.set k (a, e1)) cells slots) : cs_K M (d + 1) g A F pc L (av.reverse ++ st) ws cells slots := by
  intro p l e R s m args below meth c H locs ls hI hl
  have hR := hI.1.2.2.2.2.2.2.2.1
  have hts : ∀ w ∈ lw_tbl.filter goodWord, w.before args s = true := fun w hw => hI.1.2.2.2.2.2.1 w (List.mem_filter.mp hw).1 (List.mem_filter.mp hw).2
  have hM := hC H.size l
  have hPc : va_P g.1 ps_cls [(a, e0)] H := hI.2.1.sub [k] (by simp [hk])
  have hDc : va_D (fun _ => True) [(a, e0)] := (hI.2.2.1.sub (ws' := [(a, e0)]) [k] rfl (by simp [hk])).weaken (fun _ _ _ _ => trivial)
  have hFc := va_free (wc := [(a, e0)]) hI.2.2.1 hI.2.2.2.1 hI.2.2.2.2 [k] (by simp [hk])
  have hpre : PreS s H (va_Pc av (cs_Pre g [(a, e0)] H.size)) av := ⟨cs_blind _, fun U hU hW => ⟨rfl, by rw [hU], by rw [hU]; exact hPc, hI.1.2.2.2.2.2.2.2.2.1.warm hW, hDc⟩⟩
  have hfix : CallFix p m c (ps_code M) (ps_maxL M) s args (lw_tbl.filter goodWord) (ps_own M) := ⟨hI.1.1, hI.1.2.1, hI.1.2.2.1, hI.1.2.2.2.2.1, hts⟩
  obtain ⟨⟨hlk, w1, w2, w3, w4, w5⟩, w6⟩ := hc
  have hroom : (cs_rm M2 d).frames + 1 ≤ R.frames ∧ 8 + (ps_maxL M2 + 11) + (cs_rm M2 d).locals ≤ R.locals := ⟨hR.1, by show 8 + (ps_maxL M2 + 11) + 40 * d ≤ R.locals; have := hR.2.1; omega⟩
  have hcb : CallB R s args (ps_own M) index (ps_y M2) (ps_code M2) (ps_maxL M2) (ps_ret M2) (ps_words M2) (cs_rm M2 d) (ps_cs M2) (ps_ss M2) n := callB_of (Ts := lw_tbl.filter goodWord) n hts (ps_goodIn w2) rfl rfl rfl (hI.1.2.2.2.2.2.1 _ w1 rfl) (hI.1.2.2.2.2.2.1 _ hlk rfl) ⟨w3.1, w3.2, w4⟩ hroom
  have hfit : cells + ps_cs M2 ≤ R.cells ∧ slots + ps_ss M2 ≤ R.slots := ⟨by rw [h0.1]; exact Nat.le_trans hcl hR.2.2.1, by rw [h0.2]; exact Nat.le_trans hsl hR.2.2.2⟩
  have hrun : va_Run p l e R s m args below meth c H locs cells slots (ps_cs M2) (ps_ss M2) (F0 m pc ls (av.reverse ++ st)) st (va_Qv (fun w => w = [(a, e1)]) (fun ws t => va_P g.1 ps_cls ws t.heap ∧ va_D (va_A [(a, e0)] H.size) ws) (va_A [(a, e0)] H.size) av.toArray) (va_A [(a, e0)] H.size) :=
    va_runS (As := av) (rest := st) hfix hM ⟨hcb, hI.1.2.2.2.2.2.1 _ w6 rfl⟩ hpre rfl hn hl.1 rfl (lv_room hst) hd hfit
  refine va_callv hrun hI.2.2.2.1 (fun x _ h => hFc x h) hFc (fun w t H1 locs1 ht hvm hpost hB hz hkk hS => ?_)
  obtain ⟨hP1, -⟩ := hB
  subst hpost
  rw [ht] at hP1
  have hPs : va_P g.1 ps_cls (ws.set k (a, e1)) H1 := by
    intro i q hq
    by_cases hi : i = k
    · subst hi
      rw [List.getElem?_set_self (List.getElem?_eq_some_iff.mp hk).1] at hq
      cases hq
      exact hP1 0 _ rfl
    · rw [List.getElem?_set_ne (fun z => hi z.symm)] at hq
      refine (hI.2.1 i q hq).kept (hkk q.1 (hI.2.1 i q hq).lt (fun h => ?_))
      rcases h with ⟨j, e', hj⟩ | h
      · have hj0 : j < 1 := (List.getElem?_eq_some_iff.mp hj).1
        rw [show j = 0 by omega] at hj
        have e3 : (a, e0) = (q.1, e') := Option.some.inj hj
        exact hi (hI.2.2.1.1 i k q (a, e0) hq hk (Prod.mk.inj e3).1.symm)
      · have := (hI.2.1 i q hq).lt
        omega
  rw [h0.1, h0.2]
  exact kk p l e R s m args below meth c H1 locs1 ls ⟨hI.1, hPs, hI.2.2.1.set hk, hS, hI.2.2.2.2⟩ hl
/-- Arrays.fill of a row of ints -/
theorem cs_fillC {a n : Nat} {f : Nat → Int32} {v : Int32} (hn : n < 2 ^ 31) : cs_C mJ7_fill_53178 d g [.ref a, .int v] [(a, .inl (g.2 0, n, .inl f))] (fun w => w = [(a, .inl (g.2 0, n, .inl (fun t => if t < n then v else f t)))]) := by
  have key : ∀ r j, j + r = n → cs_K mJ7_fill_53178 d g (cs_A [(a, .inl (g.2 0, n, .inl f))]) (cs_QF g mJ7_fill_53178 [(a, .inl (g.2 0, n, .inl f))] (fun w => w = [(a, .inl (g.2 0, n, .inl (fun t => if t < n then v else f t)))])) 5 [(2, .int (nI j)), (3, .int (nI n)), (0, .ref a), (1, .int v)] [] [(a, .inl (g.2 0, n, .inl (fun t => if t < j then v else f t)))] 0 0 := by
    intro r
    induction r with
    | zero =>
      intro j hj
      obtain rfl : j = n := by omega
      refine cs_iload 0 (ps_at tJ7_fill_53178_ok 5 rfl) rfl rfl ?_
      refine cs_iload 1 (ps_at tJ7_fill_53178_ok 6 rfl) rfl rfl ?_
      exact cs_ge (tgt := 20) (ps_at tJ7_fill_53178_ok 7 rfl) (by decide) (fun _ => cs_vret (ps_at tJ7_fill_53178_ok 14 rfl) rfl (Nat.le_refl _) (Nat.le_refl _) rfl) (lpX hn)
    | succ r ih =>
      intro j hj
      have hj0 : j < n := by omega
      refine cs_iload 0 (ps_at tJ7_fill_53178_ok 5 rfl) rfl rfl ?_
      refine cs_iload 1 (ps_at tJ7_fill_53178_ok 6 rfl) rfl rfl ?_
      refine cs_ge (tgt := 20) (ps_at tJ7_fill_53178_ok 7 rfl) (by decide) (lpN hj0 hn) (fun _ => ?_)
      refine cs_aload 2 (ps_at tJ7_fill_53178_ok 8 rfl) rfl rfl ?_
      refine cs_iload 0 (ps_at tJ7_fill_53178_ok 9 rfl) rfl rfl ?_
      refine cs_iload 3 (ps_at tJ7_fill_53178_ok 10 rfl) rfl rfl ?_
      refine cs_iast 0 (ps_at tJ7_fill_53178_ok 11 rfl) rfl (vp_in_nI hj0 hn) ?_
      rw [nI_clamp (by omega)]
      refine cs_iinc (v := nI (j + 1)) 0 (ps_at tJ7_fill_53178_ok 12 rfl) rfl (nI_1 j) (by decide) rfl ?_
      refine cs_goto (tgt := 5) (ps_at tJ7_fill_53178_ok 13 rfl) (by decide) ?_
      have e : upd (fun t => if t < j then v else f t) j v = fun t => if t < j + 1 then v else f t := by
        funext t
        unfold upd
        by_cases c : t = j
        · rw [if_pos c, if_pos (by omega)]
        · rw [if_neg c]
          show (if t < j then v else f t) = _
          by_cases c2 : t < j
          · rw [if_pos c2, if_pos (by omega)]
          · rw [if_neg c2, if_neg (by omega)]
      rw [e]
      exact ih (j + 1) (by omega)
  refine cs_enter (by decide) rfl (Nat.le_of_ble_eq_true rfl) ?_
  refine cs_iconst (v := 0) (ps_at tJ7_fill_53178_ok 0 rfl) (by decide) ?_
  refine cs_istore (L' := [(2, .int 0), (0, .ref a), (1, .int v)]) (ps_at tJ7_fill_53178_ok 1 rfl) rfl (by decide) rfl ?_
  refine cs_aload 1 (ps_at tJ7_fill_53178_ok 2 rfl) rfl rfl ?_
  refine cs_alen 0 (ps_at tJ7_fill_53178_ok 3 rfl) rfl ?_
  refine cs_istore (L' := [(3, .int (nI n)), (2, .int 0), (0, .ref a), (1, .int v)]) (ps_at tJ7_fill_53178_ok 4 rfl) rfl (by decide) rfl ?_
  refine cs_loc (L' := [(2, .int (nI 0)), (3, .int (nI n)), (0, .ref a), (1, .int v)]) (fun q hq => ?_) ?_
  · rcases List.mem_cons.mp hq with h | hq
    · rw [h]; exact List.mem_cons_of_mem _ List.mem_cons_self
    · rcases List.mem_cons.mp hq with h | hq
      · rw [h]; exact List.mem_cons_self
      · exact List.mem_cons_of_mem _ (List.mem_cons_of_mem _ hq)
  · have := key n 0 (by omega)
    have e0 : (fun t => if t < 0 then v else f t) = f := by funext t; rw [if_neg (by omega)]
    rw [e0] at this
    exact this
/-- the rows of an int[N][K], the first j of them filled -/
def cs_fj (K : Nat) (v : Int32) (j : Nat) : Nat → Nat → Int32 := fun i t => if i < j then (if t < K then v else 0) else 0
theorem cs_row_at {P S : va_W} {N K j : Nat} {r : Nat → Nat} {f : Nat → Nat → Int32} (hj : j < N) : ((P ++ cs_rows g N K r f) ++ S)[P.length + j]? = some (r j, .inl (g.2 0, K, .inl (f j))) := by
  have hl : (cs_rows g N K r f).length = N := by simp [cs_rows]
  rw [List.getElem?_append_left (by rw [List.length_append, hl]; omega), List.getElem?_append_right (by omega), show P.length + j - P.length = j by omega]
  show ((List.range N).map _)[j]? = _
  rw [List.getElem?_map, List.getElem?_range hj]
  rfl
theorem cs_row_set {P S : va_W} {N K j : Nat} {r : Nat → Nat} {f f' : Nat → Nat → Int32} (hj : j < N) (h : ∀ i, i ≠ j → f' i = f i) : ((P ++ cs_rows g N K r f) ++ S).set (P.length + j) (r j, .inl (g.2 0, K, .inl (f' j))) = (P ++ cs_rows g N K r f') ++ S := by
  have hl : ∀ f, (cs_rows g N K r f).length = N := fun f => by simp [cs_rows]
  apply List.ext_getElem?
  intro i
  by_cases hi : i = P.length + j
  · subst hi
    rw [List.getElem?_set_self (by simp only [List.length_append, hl]; omega), cs_row_at hj]
  · rw [List.getElem?_set_ne (fun z => hi z.symm)]
    by_cases h1 : i < P.length
    · rw [List.getElem?_append_left (by rw [List.length_append]; omega), List.getElem?_append_left h1, List.getElem?_append_left (by rw [List.length_append]; omega), List.getElem?_append_left h1]
    · by_cases h2 : i < P.length + N
      · obtain ⟨t, rfl⟩ : ∃ t, i = P.length + t := ⟨i - P.length, by omega⟩
        rw [cs_row_at (by omega), cs_row_at (by omega), h t (by omega)]
      · rw [List.getElem?_append_right (by rw [List.length_append, hl]; omega), List.getElem?_append_right (by rw [List.length_append, hl]; omega)]
        simp only [List.length_append, hl]
/-- for (c = 0; c < N; c++) Arrays.fill(rows[c], v) -/
theorem cs_fillLoop {hp pl N K h0 ci k qo po idx cidx fidx : Nat} {off1 off2 : Int} {end_ : Nat} {v : Int32} {r : Nat → Nat} {P S : va_W} {fs : List Value} (hN : N < 100) (hK : K < 100) (hmax : 1 < ps_maxL M)
    (d0 : decode (ps_code M) hp = .ok (.iload_n 1, 1)) (push : ∀ (L : List (Nat × Value)) (st : List Value) (ws : va_W), cs_K M (d + 1) g A F (hp + 1 + pl) L (.int (nI N) :: st) ws cells slots → cs_K M (d + 1) g A F (hp + 1) L st ws cells slots)
    (d1 : decode (ps_code M) (hp + 1 + pl) = .ok (.if_icmp .ge off1, 3)) (t1 : ((hp + 1 + pl : Nat) : Int) + off1 = (end_ : Int)) (d2 : decode (ps_code M) (hp + 1 + pl + 3) = .ok (.aload_n 0, 1)) (d3 : decode (ps_code M) (hp + 1 + pl + 4) = .ok (.getfield idx, 3)) (hf : ps_fl (ps_own M) idx ci k) (d4 : decode (ps_code M) (hp + 1 + pl + 7) = .ok (.iload_n 1, 1)) (d5 : decode (ps_code M) (hp + 1 + pl + 8) = .ok (.aaload, 1)) (d6 : decode (ps_code M) (hp + 1 + pl + 9) = .ok (.ldc cidx, 2)) (hw : Cond.constant (ps_own M) cidx v ∈ lw_tbl) (d7 : decode (ps_code M) (hp + 1 + pl + 11) = .ok (.invokestatic fidx, 3)) (hc : ps_cS (ps_own M) fidx mJ7_fill_53178 2) (d8 : decode (ps_code M) (hp + 1 + pl + 14) = .ok (.iinc 1 1, 3)) (d9 : decode (ps_code M) (hp + 1 + pl + 17) = .ok (.goto off2, 3)) (t2 : ((hp + 1 + pl + 17 : Nat) : Int) + off2 = (hp : Int))
    (hcl : cells ≤ ps_cs M) (hsl : slots ≤ ps_ss M) (hP0 : P[0]? = some (h0, .inr (ci, fs))) (hfk : fs[k]? = some (.ref qo)) (hPo : P[po]? = some (qo, .inl (g.2 2, N, .inr (.inr (.inr (.inr (cs_rf N r)))))))
    (kk : cs_K M (d + 1) g A F end_ [(1, .int (nI N)), (0, .ref h0)] [] ((P ++ cs_rows g N K r (cs_fj K v N)) ++ S) cells slots) : ∀ t j, j + t = N → cs_K M (d + 1) g A F hp [(1, .int (nI j)), (0, .ref h0)] [] ((P ++ cs_rows g N K r (cs_fj K v j)) ++ S) cells slots := by
  have inP : ∀ (i : Nat) (x : Nat × va_E) (R' : va_W), P[i]? = some x → ((P ++ R') ++ S)[i]? = some x := fun i x R' h => by
    have hl := (List.getElem?_eq_some_iff.mp h).1
    rw [List.getElem?_append_left (by rw [List.length_append]; omega), List.getElem?_append_left hl, h]
  intro t
  induction t with
  | zero =>
    intro j hj
    obtain rfl : j = N := by omega
    refine cs_iload 0 d0 rfl rfl ?_
    refine push _ _ _ ?_
    exact cs_ge (tgt := end_) d1 t1 (fun _ => kk) (lpX (by omega))
  | succ t ih =>
    intro j hj
    have hj0 : j < N := by omega
    refine cs_iload 0 d0 rfl rfl ?_
    refine push _ _ _ ?_
    refine cs_ge (tgt := end_) d1 t1 (lpN hj0 (by omega)) (fun _ => ?_)
    refine cs_aload 1 d2 rfl rfl ?_
    refine cs_get 0 d3 hf (inP 0 _ _ hP0) hfk ?_
    refine cs_iload 0 d4 rfl rfl ?_
    refine cs_aald po d5 (inP po _ _ hPo) (vp_in_nI hj0 (by omega)) ?_
    rw [nI_clamp (by omega)]
    refine cs_ldc d6 hw ?_
    refine cs_callS (M2 := mJ7_fill_53178) (k := P.length + j) (a := r j) (e0 := .inl (g.2 0, K, .inl (cs_fj K v j j))) (e1 := .inl (g.2 0, K, .inl (fun t => if t < K then v else cs_fj K v j j t))) (av := [.ref (r j), .int v]) (st := []) d7 hc rfl ⟨rfl, rfl⟩ hcl hsl (Nat.zero_le _) (cs_row_at hj0) (cs_fillC (by omega)) ?_
    have e : (fun t => if t < K then v else cs_fj K v j j t) = cs_fj K v (j + 1) j := by
      funext t
      unfold cs_fj
      rw [if_neg (show ¬ j < j by omega), if_pos (show j < j + 1 by omega)]
    rw [e, cs_row_set (f' := cs_fj K v (j + 1)) hj0 (fun i hi => by
      funext t
      unfold cs_fj
      by_cases c : i < j
      · rw [if_pos c, if_pos (by omega)]
      · rw [if_neg c, if_neg (by omega)])]
    refine cs_iinc (v := nI (j + 1)) 0 d8 rfl (nI_1 j) hmax rfl ?_
    refine cs_goto (tgt := hp) d9 t2 ?_
    exact ih (j + 1) (by omega)
/-- for (k = 0; k < N; k++) row[k] = v, of a field of this -/
theorem cs_rowLoop {hp pl N h0 ci k a q0 idx cidx : Nat} {off1 off2 : Int} {end_ : Nat} {v : Int32} {fs : List Value} (hN : N < 10000) (hmax : 1 < ps_maxL M) (hq : q0 ≠ 0)
    (d0 : decode (ps_code M) hp = .ok (.iload_n 1, 1)) (push : ∀ (L : List (Nat × Value)) (st : List Value) (ws : va_W), cs_K M d g A F (hp + 1 + pl) L (.int (nI N) :: st) ws cells slots → cs_K M d g A F (hp + 1) L st ws cells slots)
    (d1 : decode (ps_code M) (hp + 1 + pl) = .ok (.if_icmp .ge off1, 3)) (t1 : ((hp + 1 + pl : Nat) : Int) + off1 = (end_ : Int)) (d2 : decode (ps_code M) (hp + 1 + pl + 3) = .ok (.aload_n 0, 1)) (d3 : decode (ps_code M) (hp + 1 + pl + 4) = .ok (.getfield idx, 3)) (hf : ps_fl (ps_own M) idx ci k) (d4 : decode (ps_code M) (hp + 1 + pl + 7) = .ok (.iload_n 1, 1)) (d5 : decode (ps_code M) (hp + 1 + pl + 8) = .ok (.ldc cidx, 2)) (hw : Cond.constant (ps_own M) cidx v ∈ lw_tbl) (d6 : decode (ps_code M) (hp + 1 + pl + 10) = .ok (.iastore, 1)) (d7 : decode (ps_code M) (hp + 1 + pl + 11) = .ok (.iinc 1 1, 3)) (d8 : decode (ps_code M) (hp + 1 + pl + 14) = .ok (.goto off2, 3)) (t2 : ((hp + 1 + pl + 14 : Nat) : Int) + off2 = (hp : Int))
    (h0' : ws[0]? = some (h0, .inr (ci, fs))) (hfk : fs[k]? = some (.ref a)) (hq0 : ws[q0]? = some (a, .inl (g.2 0, N, .inl (fun _ => 0))))
    (kk : cs_K M d g A F end_ [(1, .int (nI N)), (0, .ref h0)] [] (ws.set q0 (a, .inl (g.2 0, N, .inl (fun t => if t < N then v else 0)))) cells slots) : cs_K M d g A F hp [(1, .int 0), (0, .ref h0)] [] ws cells slots := by
  have hlt := (List.getElem?_eq_some_iff.mp hq0).1
  have key : ∀ t j, j + t = N → cs_K M d g A F hp [(1, .int (nI j)), (0, .ref h0)] [] (ws.set q0 (a, .inl (g.2 0, N, .inl (fun t => if t < j then v else 0)))) cells slots := by
    intro t
    induction t with
    | zero =>
      intro j hj
      obtain rfl : j = N := by omega
      refine cs_iload 0 d0 rfl rfl ?_
      refine push _ _ _ ?_
      exact cs_ge (tgt := end_) d1 t1 (fun _ => kk) (lpX (by omega))
    | succ t ih =>
      intro j hj
      have hj0 : j < N := by omega
      refine cs_iload 0 d0 rfl rfl ?_
      refine push _ _ _ ?_
      refine cs_ge (tgt := end_) d1 t1 (lpN hj0 (by omega)) (fun _ => ?_)
      refine cs_aload 1 d2 rfl rfl ?_
      refine cs_get 0 d3 hf (by rw [List.getElem?_set_ne hq]; exact h0') hfk ?_
      refine cs_iload 0 d4 rfl rfl ?_
      refine cs_ldc d5 hw ?_
      refine cs_iast q0 d6 (List.getElem?_set_self hlt) (vp_in_nI hj0 (by omega)) ?_
      rw [nI_clamp (by omega), List.set_set]
      refine cs_iinc (v := nI (j + 1)) 0 d7 rfl (nI_1 j) hmax rfl ?_
      refine cs_goto (tgt := hp) d8 t2 ?_
      have e : upd (fun t => if t < j then v else 0) j v = fun t => if t < j + 1 then v else 0 := by
        funext t
        unfold upd
        by_cases c : t = j
        · rw [if_pos c, if_pos (by omega)]
        · rw [if_neg c]
          show (if t < j then v else 0) = _
          by_cases c2 : t < j
          · rw [if_pos c2, if_pos (by omega)]
          · rw [if_neg c2, if_neg (by omega)]
      rw [e]
      exact ih (j + 1) (by omega)
  have h := key N 0 (by omega)
  have e0 : (fun t : Nat => if t < 0 then v else (0 : Int32)) = fun _ => 0 := by funext t; rw [if_neg (by omega)]
  have e1 : ws.set q0 (a, .inl (g.2 0, N, .inl (fun _ => 0))) = ws := by
    apply List.ext_getElem?
    intro i
    by_cases hi : i = q0
    · subst hi
      rw [List.getElem?_set_self hlt, hq0]
    · rw [List.getElem?_set_ne (fun z => hi z.symm)]
  rw [e0, e1] at h
  exact h
end CC

/-! the law: machinery (heads by mask, pieces, hooks) -/
def xl_bS (a b : xk_S) : Bool := xk_bL (fun p q => xk_bI p.1 q.1 && xk_bI p.2 q.2) a.1.1 b.1.1 && (xk_bL (fun p q => Nat.beq p.1 q.1 && (Nat.beq p.2.1 q.2.1 && xk_bI p.2.2 q.2.2)) a.1.2 b.1.2 && (xk_bL xk_bO a.2.1 b.2.1 && (xk_bL xk_bV a.2.2.1 b.2.2.1 && (xk_bL xk_bC a.2.2.2.1 b.2.2.2.1 && (Nat.beq a.2.2.2.2.1 b.2.2.2.2.1 && Nat.beq a.2.2.2.2.2 b.2.2.2.2.2)))))
theorem xl_bS_eq {a b : xk_S} (h : xl_bS a b = true) : a = b := by
  unfold xl_bS at h
  simp only [Bool.and_eq_true] at h
  obtain ⟨h1, h1b, h2, h3, h4, h5, h6⟩ := h
  refine Prod.ext (Prod.ext (xk_bL_eq (fun p q z => ?_) h1) (xk_bL_eq (fun p q z => ?_) h1b)) (Prod.ext (xk_bL_eq (fun _ _ q => xk_bO_eq q) h2) (Prod.ext (xk_bL_eq (fun _ _ q => xk_bV_eq q) h3) (Prod.ext (xk_bL_eq (fun _ _ q => xk_bC_eq q) h4) (Prod.ext (Nat.eq_of_beq_eq_true h5) (Nat.eq_of_beq_eq_true h6)))))
  · rw [Bool.and_eq_true] at z
    exact Prod.ext (xk_bI_eq z.1) (xk_bI_eq z.2)
  · rw [Bool.and_eq_true, Bool.and_eq_true] at z
    exact Prod.ext (Nat.eq_of_beq_eq_true z.1) (Prod.ext (Nat.eq_of_beq_eq_true z.2.1) (xk_bI_eq z.2.2))
/-- references in the order of their places -/
def xl_nzl (ov : List (Nat × xk_V)) (ls : List Nat) : List (Nat × xk_V) := ls.filterMap (fun j => (xk_ov ov j).map (fun v => (j, v)))
def xl_nz (c : xk_C) : xk_C := if c.1 = 3 then (c.1, c.2.1, c.2.2.1, c.2.2.2.1, c.2.2.2.2.1, xl_nzl c.2.2.2.2.2 (List.range c.2.2.2.1)) else c
theorem xl_ovc (a : Nat) (v : xk_V) (r : List (Nat × xk_V)) (j : Nat) : xk_ov ((a, v) :: r) j = if a = j then some v else xk_ov r j := rfl
theorem xl_nzl_ok (ov : List (Nat × xk_V)) (j : Nat) : ∀ ls : List Nat, xk_ov (xl_nzl ov ls) j = if j ∈ ls then xk_ov ov j else none
  | [] => rfl
  | a :: r => by
    have ih := xl_nzl_ok ov j r
    unfold xl_nzl at ih ⊢
    cases ha : xk_ov ov a with
    | none =>
      rw [List.filterMap_cons_none (by rw [ha]; rfl), ih]
      by_cases hj : j = a
      · subst hj
        rw [if_pos List.mem_cons_self, ha]
        split <;> rfl
      · by_cases hr : j ∈ r
        · rw [if_pos hr, if_pos (List.mem_cons_of_mem _ hr)]
        · rw [if_neg hr, if_neg (fun z => (List.mem_cons.mp z).elim hj hr)]
    | some v =>
      rw [List.filterMap_cons_some (b := (a, v)) (by rw [ha]; rfl), xl_ovc]
      by_cases hj : a = j
      · subst hj
        rw [if_pos rfl, if_pos List.mem_cons_self, ha]
      · rw [if_neg hj, ih]
        by_cases hr : j ∈ r
        · rw [if_pos hr, if_pos (List.mem_cons_of_mem _ hr)]
        · rw [if_neg hr, if_neg (fun z => (List.mem_cons.mp z).elim (fun q => hj q.symm) hr)]
theorem xl_nz_ok {U : State} {b : xk_b} {env : List Int} {ad : List Nat} {c : xk_C} {w : Nat × va_E} (h : xk_c U b env ad c w) : xk_c U b env ad (xl_nz c) w := by
  obtain ⟨k, ci, fs, n, I, ov⟩ := c
  unfold xl_nz
  split
  · rename_i hk
    have hk : k = 3 := hk
    subst hk
    obtain ⟨cA, f, h1, h2, h3⟩ := h
    refine ⟨cA, f, h1, h2, fun j hj => ?_⟩
    have h4 := h3 j hj
    have hj : j < n := hj
    unfold xk_eQ at h4 ⊢
    have e : xk_ov (xl_nzl ov (List.range n)) j = xk_ov ov j := by rw [xl_nzl_ok, if_pos (List.mem_range.mpr hj)]
    show (match xk_ov (xl_nzl ov (List.range n)) j with
      | some av => xk_v b env ad av (va_rf (f j))
      | none => f j = none)
    rw [e]
    exact h4
  · exact h
theorem xl_nzs_ok {U : State} {b : xk_b} {env : List Int} {ad : List Nat} : ∀ {hp : List xk_C} {ws : va_W}, xk_r2 (xk_c U b env ad) hp ws → xk_r2 (xk_c U b env ad) (hp.map xl_nz) ws
  | [], [], _ => trivial
  | _ :: _, _ :: _, h => ⟨xl_nz_ok h.1, xl_nzs_ok h.2⟩
  | [], _ :: _, h => h.elim
  | _ :: _, [], h => h.elim
/-- the row of five blocks: what a head wants told -/
def xl_hb : List Nat := [0, 1, 2, 3, 4, 5, 6, 7, 15, 23, 31, 39]
def xl_fj (r : xk_N × xk_C) (j : Nat) : xk_N × xk_C := if j < r.2.2.2.2.1 then (match xk_ov r.2.2.2.2.2.2 j with
  | none => ((r.1.1 ++ [xk_h8 (j % 8)], r.1.2), (r.2.1, r.2.2.1, r.2.2.2.1, r.2.2.2.2.1, r.2.2.2.2.2.1, (j, (0, (r.1.1.length : Int))) :: r.2.2.2.2.2.2))
  | some _ => r) else r
def xl_fc (N : xk_N) (c : xk_C) : xk_N × xk_C := if c.1 = 12 then xl_hb.foldl xl_fj (N, c) else (N, c)
def xl_fl : xk_N → List xk_C → xk_N × List xk_C
  | N, [] => (N, [])
  | N, c :: r => ((xl_fl (xl_fc N c).1 r).1, (xl_fc N c).2 :: (xl_fl (xl_fc N c).1 r).2)
theorem xl_fj_ok {U : State} {b : xk_b} {ad : List Nat} {env : List Int} {r : xk_N × xk_C} {w : Nat × va_E} {j : Nat} (h0 : xk_ok env r.1) (h : xk_c U b env ad r.2 w) (h12 : r.2.1 = 12) : ∃ e2 : List Int, xk_ok (env ++ e2) (xl_fj r j).1 ∧ xk_c U b (env ++ e2) ad (xl_fj r j).2 w ∧ (xl_fj r j).2.1 = 12 := by
  obtain ⟨N, k, ci, fs, n, I, ov⟩ := r
  have h12 : k = 12 := h12
  subst h12
  unfold xl_fj
  split
  · rename_i hj
    have hj : j < n := hj
    split
    · rename_i hov
      have hov : xk_ov ov j = none := hov
      obtain ⟨cA, f, h1, h2, h3⟩ := h
      have h4 := h3 j hj
      unfold xk_eI at h4
      rw [show xk_ov (12, ci, fs, n, I, ov).2.2.2.2.2 j = none from hov] at h4
      have hlen : env.length = N.1.length := h0.1
      refine ⟨[(f j).toInt], xk_ok_app h0 h4.1 h4.2, ⟨cA, f, h1, h2, fun i hi => ?_⟩, rfl⟩
      have h5 := h3 i hi
      unfold xk_eI at h5 ⊢
      show (match xk_ov ((j, (0, (N.1.length : Int))) :: ov) i with
        | some av => xk_v b (env ++ [(f j).toInt]) ad av (.int (f i))
        | none => (xk_h8 (i % 8)).1 ≤ (f i).toInt ∧ (f i).toInt ≤ (xk_h8 (i % 8)).2)
      have h5 : (match xk_ov ov i with
        | some av => xk_v b env ad av (.int (f i))
        | none => (xk_h8 (i % 8)).1 ≤ (f i).toInt ∧ (f i).toInt ≤ (xk_h8 (i % 8)).2) := h5
      by_cases hji : j = i
      · subst hji
        have e : xk_ov ((j, ((0 : Nat), (N.1.length : Int))) :: ov) j = some (0, (N.1.length : Int)) := by
          rw [xl_ovc, if_pos rfl]
        rw [e]
        refine ⟨f j, rfl, ?_⟩
        show (env ++ [(f j).toInt])[((N.1.length : Nat) : Int).toNat]? = _
        rw [Int.toNat_natCast]
        exact xe_last hlen
      · have e : xk_ov ((j, ((0 : Nat), (N.1.length : Int))) :: ov) i = xk_ov ov i := by
          rw [xl_ovc, if_neg hji]
        rw [e]
        cases hc : xk_ov ov i with
        | none =>
          rw [hc] at h5
          exact h5
        | some av =>
          rw [hc] at h5
          exact xk_v_e _ h5
    · exact ⟨[], by rw [List.append_nil]; exact h0, by rw [List.append_nil]; exact h, rfl⟩
  · exact ⟨[], by rw [List.append_nil]; exact h0, by rw [List.append_nil]; exact h, rfl⟩
theorem xl_fjs_ok {U : State} {b : xk_b} {ad : List Nat} {w : Nat × va_E} : ∀ (js : List Nat) {env : List Int} {r : xk_N × xk_C}, xk_ok env r.1 → xk_c U b env ad r.2 w → r.2.1 = 12 → ∃ e2 : List Int, xk_ok (env ++ e2) (js.foldl xl_fj r).1 ∧ xk_c U b (env ++ e2) ad (js.foldl xl_fj r).2 w
  | [], env, r, h0, h, _ => ⟨[], by rw [List.append_nil]; exact h0, by rw [List.append_nil]; exact h⟩
  | j :: js, env, r, h0, h, h12 => by
    obtain ⟨e2, g0, g1, g2⟩ := xl_fj_ok (j := j) h0 h h12
    obtain ⟨e3, k0, k1⟩ := xl_fjs_ok js g0 g1 g2
    rw [List.append_assoc] at k0 k1
    exact ⟨e2 ++ e3, k0, k1⟩
theorem xl_fc_ok {U : State} {b : xk_b} {ad : List Nat} {w : Nat × va_E} {env : List Int} {N : xk_N} {c : xk_C} (h0 : xk_ok env N) (h : xk_c U b env ad c w) : ∃ e2 : List Int, xk_ok (env ++ e2) (xl_fc N c).1 ∧ xk_c U b (env ++ e2) ad (xl_fc N c).2 w := by
  unfold xl_fc
  split
  · rename_i h12
    exact xl_fjs_ok xl_hb h0 h h12
  · exact ⟨[], by rw [List.append_nil]; exact h0, by rw [List.append_nil]; exact h⟩
theorem xl_fl_ok {U : State} {b : xk_b} {ad : List Nat} : ∀ {hp : List xk_C} {ws : va_W} {env : List Int} {N : xk_N}, xk_ok env N → xk_r2 (xk_c U b env ad) hp ws → ∃ e2 : List Int, xk_ok (env ++ e2) (xl_fl N hp).1 ∧ xk_r2 (xk_c U b (env ++ e2) ad) (xl_fl N hp).2 ws
  | [], [], env, N, h0, _ => ⟨[], by rw [List.append_nil]; exact h0, trivial⟩
  | c :: r, w :: ws, env, N, h0, h => by
    obtain ⟨e2, g0, g1⟩ := xl_fc_ok h0 h.1
    have h2 := xk_r2_mono (fun _ _ q => xk_c_map (Vm.Alike.refl _) (fun _ _ z => xk_v_e e2 z) q) h.2
    obtain ⟨e3, k0, k1⟩ := xl_fl_ok g0 h2
    rw [List.append_assoc] at k0 k1
    refine ⟨e2 ++ e3, k0, ?_, k1⟩
    have g2 := xk_c_map (Vm.Alike.refl _) (fun _ _ z => xk_v_e e3 z) g1
    rw [List.append_assoc] at g2
    exact g2
  | [], _ :: _, _, _, _, h => h.elim
  | _ :: _, [], _, _, _, h => h.elim
/-- the model's rows behind its constructor: all 0 -/
def xl_f0 (c : xk_C) : xk_C := match c with
  | (1, 0, [], 40, (0, 0), []) => (12, 0, [], 40, (0, 0), xl_hb.map (fun j => (j, (5, 0))))
  | (1, 0, [], 45, (0, 0), []) => (8, 0, [(5, 0), (5, 0), (5, 0), (5, 0), (5, 0)], 45, (0, 0), [])
  | c => c
theorem xl_h80 (k : Nat) : (xk_h8 k).1 = 0 ∧ 0 ≤ (xk_h8 k).2 := by
  unfold xk_h8
  split <;> exact ⟨rfl, by decide⟩
theorem xl_ov0 : ∀ (ls : List Nat) (j : Nat), xk_ov (ls.map (fun j => (j, ((5 : Nat), (0 : Int))))) j = none ∨ xk_ov (ls.map (fun j => (j, ((5 : Nat), (0 : Int))))) j = some (5, 0)
  | [], _ => Or.inl rfl
  | a :: r, j => by
    rw [List.map_cons, xl_ovc]
    by_cases h : a = j
    · rw [if_pos h]
      exact Or.inr rfl
    · rw [if_neg h]
      exact xl_ov0 r j
theorem xl_f0_ok {U : State} {b : xk_b} {env : List Int} {ad : List Nat} {c : xk_C} {w : Nat × va_E} (h : xk_c U b env ad c w) : xk_c U b env ad (xl_f0 c) w := by
  unfold xl_f0
  split
  · obtain ⟨cA, f, h1, h2, h3⟩ := h
    have hz : ∀ j, j < 40 → (f j).toInt = 0 := by
      intro j hj
      have h4 : (0 : Int) ≤ (f j).toInt ∧ (f j).toInt ≤ 0 := h3 j hj
      omega
    refine ⟨cA, f, h1, h2, fun j hj => ?_⟩
    have hj : j < 40 := hj
    unfold xk_eI
    show (match xk_ov (xl_hb.map (fun j => (j, ((5 : Nat), (0 : Int))))) j with
      | some av => xk_v b env ad av (.int (f j))
      | none => (xk_h8 (j % 8)).1 ≤ (f j).toInt ∧ (f j).toInt ≤ (xk_h8 (j % 8)).2)
    have h8 := xl_h80 (j % 8)
    have hz := hz j hj
    rcases xl_ov0 xl_hb j with e | e
    · rw [e]
      exact ⟨by omega, by omega⟩
    · rw [e]
      exact ⟨f j, rfl, hz⟩
  · obtain ⟨cA, f, h1, h2, h3⟩ := h
    refine ⟨cA, f, h1, h2, h3, [0, 0, 0, 0, 0], ⟨⟨0, rfl, rfl⟩, ⟨0, rfl, rfl⟩, ⟨0, rfl, rfl⟩, ⟨0, rfl, rfl⟩, ⟨0, rfl, rfl⟩, trivial⟩, fun k hk i j hi hj => ?_, trivial⟩
    have e : (([0, 0, 0, 0, 0] : List Int32).map Int32.toInt).getD k 0 = 0 := by
      rcases (show k = 0 ∨ k = 1 ∨ k = 2 ∨ k = 3 ∨ k = 4 by omega) with rfl | rfl | rfl | rfl | rfl <;> rfl
    rw [e] at hi
    omega
  · exact h
theorem xl_f0s_ok {U : State} {b : xk_b} {env : List Int} {ad : List Nat} : ∀ {hp : List xk_C} {ws : va_W}, xk_r2 (xk_c U b env ad) hp ws → xk_r2 (xk_c U b env ad) (hp.map xl_f0) ws
  | [], [], _ => trivial
  | _ :: _, _ :: _, h => ⟨xl_f0_ok h.1, xl_f0s_ok h.2⟩
  | [], _ :: _, h => h.elim
  | _ :: _, [], h => h.elim

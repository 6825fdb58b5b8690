def xk_num (env : List Int) (q : xk_V) : Int := if q.1 = 5 then q.2 else env.getD q.2.toNat 0
/-- numbers and places of one method told in another's -/
def xk_oa (b : xk_b) (ad : List Nat) (q : xk_V) : Nat := if q.1 = 2 then ad.getD q.2.toNat 0 else b.2.2.2.1.getD q.2.toNat 0
/-- the references of which nothing is told, told in another method's: as they are, or each by a value -/
def xk_oq (b : xk_b) (ad : List Nat) (om : Option (List xk_V)) : xk_O := match om with
  | none => b.2.2.2
  | some l => (l.map (xk_oa b ad), b.2.2.2.2)
def xk_ook (b : xk_b) (ad : List Nat) (om : Option (List xk_V)) : Prop := ∀ l, om = some l → ∀ q ∈ l, q.1 = 2 ∧ q.2.toNat < ad.length ∨ q.1 = 7 ∧ q.2.toNat < b.2.2.2.1.length
def xk_sv (mp : List xk_V) (pm : List Nat) (om : Option (List xk_V)) (av : xk_V) : xk_V := match av.1 with
  | 0 => match mp[av.2.toNat]? with
    | some q => if q.1 = 0 ∨ q.1 = 5 then q else (20, 0)
    | none => (20, 0)
  | 1 => match mp[av.2.toNat]? with
    | some q => if q.1 = 0 ∨ q.1 = 5 then (q.1 + 1, q.2) else (20, 0)
    | none => (20, 0)
  | 2 => match pm[av.2.toNat]? with
    | some p => (2, (p : Int))
    | none => (20, 0)
  | 4 => (20, 0)
  | 7 => match om with
    | none => av
    | some l => match l[av.2.toNat]? with
      | some q => if q.1 = 2 ∨ q.1 = 7 then q else (20, 0)
      | none => (20, 0)
  | _ => av
def xk_sc (mp : List xk_V) (pm : List Nat) (om : Option (List xk_V)) (ce : xk_C) : xk_C := (ce.1, ce.2.1, ce.2.2.1.map (xk_sv mp pm om), ce.2.2.2.1, ce.2.2.2.2.1, ce.2.2.2.2.2.map (fun q => (q.1, xk_sv mp pm om q.2)))
theorem xk_sv_in {b : xk_b} {env : List Int} {ad : List Nat} {mp : List xk_V} {pm : List Nat} {om : Option (List xk_V)} {av : xk_V} {v : Value} (h : xk_v b env ad (xk_sv mp pm om av) v) : xk_v (0, [], [], xk_oq b ad om) (mp.map (xk_num env)) (pm.map (fun p => ad.getD p 0)) av v := by
  obtain ⟨t, i⟩ := av
  unfold xk_sv at h
  rcases t with _ | _ | _ | _ | _ | _ | _ | _ | _ | _ | _ | t
  · dsimp only at h
    cases hm : mp[i.toNat]? with
    | none => rw [hm] at h; exact h.elim
    | some q =>
      rw [hm] at h
      dsimp only at h
      obtain ⟨qt, qi⟩ := q
      by_cases hq : qt = 0 ∨ qt = 5
      · rw [if_pos hq] at h
        rcases hq with rfl | rfl
        · have h' : xk_v b env ad (0, qi) v := h
          obtain ⟨x, e1, e2⟩ := h'
          refine ⟨x, e1, ?_⟩
          rw [List.getElem?_map, hm]
          show some (env.getD qi.toNat 0) = _
          have e3 : env[qi.toNat]? = some x.toInt := e2
          rw [List.getD_eq_getElem?_getD, e3]
          rfl
        · have h' : xk_v b env ad (5, qi) v := h
          obtain ⟨x, e1, e2⟩ := h'
          refine ⟨x, e1, ?_⟩
          rw [List.getElem?_map, hm]
          show some qi = _
          have e3 : x.toInt = qi := e2
          rw [e3]
      · rw [if_neg hq] at h; exact h.elim
  · dsimp only at h
    cases hm : mp[i.toNat]? with
    | none => rw [hm] at h; exact h.elim
    | some q =>
      rw [hm] at h
      dsimp only at h
      obtain ⟨qt, qi⟩ := q
      by_cases hq : qt = 0 ∨ qt = 5
      · rw [if_pos hq] at h
        rcases hq with rfl | rfl
        · have h' : xk_v b env ad (1, qi) v := h
          obtain ⟨x, e1, e2⟩ := h'
          refine ⟨x, e1, ?_⟩
          rw [List.getElem?_map, hm]
          show some (env.getD qi.toNat 0) = _
          have e3 : env[qi.toNat]? = some x.toInt := e2
          rw [List.getD_eq_getElem?_getD, e3]
          rfl
        · have h' : xk_v b env ad (6, qi) v := h
          obtain ⟨x, e1, e2⟩ := h'
          refine ⟨x, e1, ?_⟩
          rw [List.getElem?_map, hm]
          show some qi = _
          have e3 : x.toInt = qi := e2
          rw [e3]
      · have h' : xk_v b env ad (if qt = 0 ∨ qt = 5 then (qt + 1, qi) else (20, 0)) v := h
        rw [if_neg hq] at h'; exact h'.elim
  · dsimp only at h
    cases hm : pm[i.toNat]? with
    | none => rw [hm] at h; exact h.elim
    | some q =>
      rw [hm] at h
      obtain ⟨a, e1, e2⟩ := h
      refine ⟨a, e1, ?_⟩
      rw [List.getElem?_map, hm]
      show some (ad.getD q 0) = _
      have e3 : ad[q]? = some a := e2
      rw [List.getD_eq_getElem?_getD, e3]
      rfl
  · exact h
  · exact h.elim
  · exact h
  · exact h
  · dsimp only at h
    cases om with
    | none => exact h
    | some l =>
      dsimp only at h
      cases hm : l[i.toNat]? with
      | none => rw [hm] at h; exact h.elim
      | some q =>
        rw [hm] at h
        dsimp only at h
        obtain ⟨qt, qi⟩ := q
        by_cases hq : qt = 2 ∨ qt = 7
        · rw [if_pos hq] at h
          rcases hq with rfl | rfl
          · have h' : xk_v b env ad (2, qi) v := h
            obtain ⟨a, e1, e2⟩ := h'
            refine ⟨a, e1, ?_⟩
            show (l.map (xk_oa b ad))[i.toNat]? = some a
            rw [List.getElem?_map, hm]
            show some (ad.getD qi.toNat 0) = _
            have e3 : ad[qi.toNat]? = some a := e2
            rw [List.getD_eq_getElem?_getD, e3]
            rfl
          · have h' : xk_v b env ad (7, qi) v := h
            obtain ⟨a, e1, e2⟩ := h'
            refine ⟨a, e1, ?_⟩
            show (l.map (xk_oa b ad))[i.toNat]? = some a
            rw [List.getElem?_map, hm]
            show some (b.2.2.2.1.getD qi.toNat 0) = _
            have e3 : b.2.2.2.1[qi.toNat]? = some a := e2
            rw [List.getD_eq_getElem?_getD, e3]
            rfl
        · rw [if_neg hq] at h; exact h.elim
  · cases om with
    | none => exact h
    | some l => exact h
  · cases om with
    | none => exact h
    | some l => exact h
  · cases om with
    | none => exact h
    | some l => exact h
  · exact h.elim
theorem xk_sv_out {b : xk_b} {env e2 : List Int} {ad a2 : List Nat} {mp : List xk_V} {pm : List Nat} {om : Option (List xk_V)} {av : xk_V} {v : Value} (hmp : ∀ q ∈ mp, q.1 = 5 ∨ q.1 = 0 ∧ q.2.toNat < env.length) (hpm : ∀ p ∈ pm, p < ad.length) (hom : xk_ook b ad om) (h : xk_v (0, [], [], xk_oq b ad om) (mp.map (xk_num env) ++ e2) (pm.map (fun p => ad.getD p 0) ++ a2) av v) : xk_v b (env ++ e2) (ad ++ a2) (xk_sv (mp ++ (List.range e2.length).map (fun i => (0, ((env.length + i : Nat) : Int)))) (pm ++ (List.range a2.length).map (fun i => ad.length + i)) om av) v := by
  have key : ∀ (i : Nat) (n : Int), (mp.map (xk_num env) ++ e2)[i]? = some n → ∃ q : xk_V, (mp ++ (List.range e2.length).map (fun i => (0, ((env.length + i : Nat) : Int))))[i]? = some q ∧ (q.1 = 5 ∧ q.2 = n ∨ q.1 = 0 ∧ (env ++ e2)[q.2.toNat]? = some n) := by
    intro i n hn
    rcases Nat.lt_or_ge i mp.length with hi | hi
    · rw [List.getElem?_append_left (by rw [List.length_map]; exact hi), List.getElem?_map, List.getElem?_eq_getElem hi] at hn
      refine ⟨mp[i], by rw [List.getElem?_append_left hi, List.getElem?_eq_getElem hi], ?_⟩
      have hn2 : xk_num env mp[i] = n := Option.some.inj hn
      rcases hmp mp[i] (List.getElem_mem hi) with h5 | ⟨h0, hl⟩
      · left
        unfold xk_num at hn2
        rw [if_pos h5] at hn2
        exact ⟨h5, hn2⟩
      · right
        unfold xk_num at hn2
        rw [if_neg (by omega), List.getD_eq_getElem?_getD, List.getElem?_eq_getElem hl] at hn2
        refine ⟨h0, ?_⟩
        rw [List.getElem?_append_left hl, List.getElem?_eq_getElem hl]
        exact congrArg some hn2
    · rw [List.getElem?_append_right (by rw [List.length_map]; exact hi), List.length_map] at hn
      have hj : i - mp.length < e2.length := (List.getElem?_eq_some_iff.mp hn).1
      refine ⟨(0, ((env.length + (i - mp.length) : Nat) : Int)), ?_, Or.inr ⟨rfl, ?_⟩⟩
      · rw [List.getElem?_append_right hi, List.getElem?_map, List.getElem?_range hj]
        rfl
      · show (env ++ e2)[(((env.length + (i - mp.length) : Nat) : Int)).toNat]? = some n
        rw [Int.toNat_natCast, List.getElem?_append_right (by omega)]
        rw [show env.length + (i - mp.length) - env.length = i - mp.length by omega]
        exact hn
  obtain ⟨t, i⟩ := av
  unfold xk_sv
  rcases t with _ | _ | _ | _ | _ | _ | _ | _ | _ | _ | _ | t
  · obtain ⟨x, e1, e3⟩ := h
    obtain ⟨q, hq, hc⟩ := key _ _ e3
    dsimp only at hq ⊢
    rw [hq]
    dsimp only
    obtain ⟨qt, qi⟩ := q
    rcases hc with ⟨rfl, hc⟩ | ⟨rfl, hc⟩
    · rw [if_pos (Or.inr rfl)]
      exact ⟨x, e1, Eq.symm hc⟩
    · rw [if_pos (Or.inl rfl)]
      exact ⟨x, e1, hc⟩
  · obtain ⟨x, e1, e3⟩ := h
    obtain ⟨q, hq, hc⟩ := key _ _ e3
    dsimp only at hq ⊢
    rw [hq]
    dsimp only
    obtain ⟨qt, qi⟩ := q
    rcases hc with ⟨rfl, hc⟩ | ⟨rfl, hc⟩
    · rw [if_pos (Or.inr rfl)]
      exact ⟨x, e1, Eq.symm hc⟩
    · rw [if_pos (Or.inl rfl)]
      exact ⟨x, e1, hc⟩
  · obtain ⟨a, e1, e3⟩ := h
    dsimp only at e3 ⊢
    rcases Nat.lt_or_ge i.toNat pm.length with hi | hi
    · rw [List.getElem?_append_left (by rw [List.length_map]; exact hi), List.getElem?_map, List.getElem?_eq_getElem hi] at e3
      rw [List.getElem?_append_left hi, List.getElem?_eq_getElem hi]
      have hl := hpm pm[i.toNat] (List.getElem_mem hi)
      have e4 : ad.getD pm[i.toNat] 0 = a := Option.some.inj e3
      rw [List.getD_eq_getElem?_getD, List.getElem?_eq_getElem hl] at e4
      refine ⟨a, e1, ?_⟩
      show (ad ++ a2)[((pm[i.toNat] : Nat) : Int).toNat]? = some a
      rw [Int.toNat_natCast, List.getElem?_append_left hl, List.getElem?_eq_getElem hl]
      exact congrArg some e4
    · rw [List.getElem?_append_right (by rw [List.length_map]; exact hi), List.length_map] at e3
      have hj : i.toNat - pm.length < a2.length := (List.getElem?_eq_some_iff.mp e3).1
      rw [List.getElem?_append_right hi, List.getElem?_map, List.getElem?_range hj]
      refine ⟨a, e1, ?_⟩
      show (ad ++ a2)[(((ad.length + (i.toNat - pm.length) : Nat)) : Int).toNat]? = some a
      rw [Int.toNat_natCast, List.getElem?_append_right (by omega)]
      rw [show ad.length + (i.toNat - pm.length) - ad.length = i.toNat - pm.length by omega]
      exact e3
  · exact h
  · exact absurd h.2.1 (Nat.lt_irrefl 0)
  · exact h
  · exact h
  · dsimp only
    cases om with
    | none => exact h
    | some l =>
      obtain ⟨a, e1, e3⟩ := h
      have e4 : (l.map (xk_oa b ad))[i.toNat]? = some a := e3
      rw [List.getElem?_map] at e4
      dsimp only
      cases hm : l[i.toNat]? with
      | none => rw [hm] at e4; cases e4
      | some q =>
        rw [hm] at e4
        have e5 : xk_oa b ad q = a := Option.some.inj e4
        dsimp only
        obtain ⟨qt, qi⟩ := q
        rcases hom l rfl _ (List.mem_of_getElem? hm) with ⟨rfl, hl⟩ | ⟨rfl, hl⟩
        · rw [if_pos (Or.inl rfl)]
          have e6 : ad.getD qi.toNat 0 = a := e5
          have hl : qi.toNat < ad.length := hl
          rw [List.getD_eq_getElem?_getD, List.getElem?_eq_getElem hl] at e6
          refine ⟨a, e1, ?_⟩
          show (ad ++ a2)[qi.toNat]? = some a
          rw [List.getElem?_append_left hl, List.getElem?_eq_getElem hl]
          exact congrArg some e6
        · rw [if_pos (Or.inr rfl)]
          have e6 : b.2.2.2.1.getD qi.toNat 0 = a := e5
          have hl : qi.toNat < b.2.2.2.1.length := hl
          rw [List.getD_eq_getElem?_getD, List.getElem?_eq_getElem hl] at e6
          refine ⟨a, e1, ?_⟩
          show b.2.2.2.1[qi.toNat]? = some a
          rw [List.getElem?_eq_getElem hl]
          exact congrArg some e6
  · cases om with
    | none => exact h
    | some l => exact h
  · cases om with
    | none => exact h
    | some l => exact h
  · cases om with
    | none => exact h
    | some l => exact h
  · exact h.elim
theorem xk_ov_map (f : xk_V → xk_V) (j : Nat) : ∀ (ov : List (Nat × xk_V)), xk_ov (ov.map (fun q => (q.1, f q.2))) j = (xk_ov ov j).map f
  | [] => rfl
  | q :: r => by
    rw [List.map_cons]
    unfold xk_ov
    dsimp only
    by_cases hq : q.1 = j
    · rw [if_pos hq, if_pos hq]; rfl
    · rw [if_neg hq, if_neg hq]; exact xk_ov_map f j r
def xk_fc (f : xk_V → xk_V) (ce : xk_C) : xk_C := (ce.1, ce.2.1, ce.2.2.1.map f, ce.2.2.2.1, ce.2.2.2.2.1, ce.2.2.2.2.2.map (fun q => (q.1, f q.2)))
theorem xk_r2_mapl {α β γ : Type} {R : α → β → Prop} {S : γ → β → Prop} {f : γ → α} (h : ∀ a b, R (f a) b → S a b) : ∀ {as : List γ} {bs : List β}, xk_r2 R (as.map f) bs → xk_r2 S as bs
  | [], [], _ => trivial
  | [], _ :: _, q => q.elim
  | _ :: _, [], q => q.elim
  | _ :: _, _ :: _, q => ⟨h _ _ q.1, xk_r2_mapl h q.2⟩
theorem xk_r2_mapr {α β γ : Type} {R : α → β → Prop} {S : γ → β → Prop} {f : γ → α} (h : ∀ a b, S a b → R (f a) b) : ∀ {as : List γ} {bs : List β}, xk_r2 S as bs → xk_r2 R (as.map f) bs
  | [], [], _ => trivial
  | [], _ :: _, q => q.elim
  | _ :: _, [], q => q.elim
  | _ :: _, _ :: _, q => ⟨h _ _ q.1, xk_r2_mapr h q.2⟩
theorem xk_eI_in {b b' : xk_b} {env env' : List Int} {ad ad' : List Nat} {f : xk_V → xk_V} {I : xk_I} {ov : List (Nat × xk_V)} {g : Nat → Int32} {j : Nat} (hv : ∀ (av : xk_V) (v : Value), xk_v b env ad (f av) v → xk_v b' env' ad' av v) (h4 : xk_eI b env ad I (ov.map (fun q => (q.1, f q.2))) g j) : xk_eI b' env' ad' I ov g j := by
  unfold xk_eI at h4 ⊢
  rw [xk_ov_map] at h4
  cases hc : xk_ov ov j with
  | none => rw [hc] at h4; exact h4
  | some av => rw [hc] at h4; exact hv _ _ h4
theorem xk_eI_out {b b' : xk_b} {env env' : List Int} {ad ad' : List Nat} {f : xk_V → xk_V} {I : xk_I} {ov : List (Nat × xk_V)} {g : Nat → Int32} {j : Nat} (hv : ∀ (av : xk_V) (v : Value), xk_v b env ad av v → xk_v b' env' ad' (f av) v) (h4 : xk_eI b env ad I ov g j) : xk_eI b' env' ad' I (ov.map (fun q => (q.1, f q.2))) g j := by
  unfold xk_eI at h4 ⊢
  rw [xk_ov_map]
  cases hc : xk_ov ov j with
  | none => rw [hc] at h4; exact h4
  | some av => rw [hc] at h4; exact hv _ _ h4
theorem xk_c8_in {md : Nat} {U U' : State} {b b' : xk_b} {env env' : List Int} {ad ad' : List Nat} {f : xk_V → xk_V} (hvm : U.vm.Alike U'.vm) (hv : ∀ (av : xk_V) (v : Value), xk_v b env ad (f av) v → xk_v b' env' ad' av v) {ce : xk_C} {w : Nat × va_E} (h : xk_c8 md U b env ad (xk_fc f ce) w) : xk_c8 md U' b' env' ad' ce w := by
  obtain ⟨cA, g, h1, h2, h3, vs, h4, h5⟩ := h
  refine ⟨cA, g, h1, xk_ar_moved hvm h2, fun j hj => ?_, vs, xk_r2_mapl (f := f) (R := fun av (x : Int32) => xk_v b env ad av (.int x)) (S := fun av (x : Int32) => xk_v b' env' ad' av (.int x)) (fun _ _ q => hv _ _ q) h4, h5⟩
  have h4 : xk_eI b env ad ce.2.2.2.2.1 (ce.2.2.2.2.2.map (fun q => (q.1, f q.2))) g j := h3 j hj
  show xk_eI b' env' ad' ce.2.2.2.2.1 ce.2.2.2.2.2 g j
  unfold xk_eI at h4 ⊢
  rw [xk_ov_map] at h4
  cases hc : xk_ov ce.2.2.2.2.2 j with
  | none => rw [hc] at h4; exact h4
  | some av => rw [hc] at h4; exact hv _ _ h4
theorem xk_c8_out {md : Nat} {U U' : State} {b b' : xk_b} {env env' : List Int} {ad ad' : List Nat} {f : xk_V → xk_V} (hvm : U.vm.Alike U'.vm) (hv : ∀ (av : xk_V) (v : Value), xk_v b env ad av v → xk_v b' env' ad' (f av) v) {ce : xk_C} {w : Nat × va_E} (h : xk_c8 md U b env ad ce w) : xk_c8 md U' b' env' ad' (xk_fc f ce) w := by
  obtain ⟨cA, g, h1, h2, h3, vs, h4, h5⟩ := h
  refine ⟨cA, g, h1, xk_ar_moved hvm h2, fun j hj => ?_, vs, xk_r2_mapr (f := f) (S := fun av (x : Int32) => xk_v b env ad av (.int x)) (R := fun av (x : Int32) => xk_v b' env' ad' av (.int x)) (fun _ _ q => hv _ _ q) h4, h5⟩
  have h4 : xk_eI b env ad ce.2.2.2.2.1 ce.2.2.2.2.2 g j := h3 j hj
  show xk_eI b' env' ad' ce.2.2.2.2.1 (ce.2.2.2.2.2.map (fun q => (q.1, f q.2))) g j
  unfold xk_eI at h4 ⊢
  rw [xk_ov_map]
  cases hc : xk_ov ce.2.2.2.2.2 j with
  | none => rw [hc] at h4; exact h4
  | some av => rw [hc] at h4; exact hv _ _ h4
theorem xk_c_in {U U' : State} {b b' : xk_b} {env env' : List Int} {ad ad' : List Nat} {f : xk_V → xk_V} (hvm : U.vm.Alike U'.vm) (hv : ∀ (av : xk_V) (v : Value), xk_v b env ad (f av) v → xk_v b' env' ad' av v) {ce : xk_C} {w : Nat × va_E} (h : xk_c U b env ad (xk_fc f ce) w) : xk_c U' b' env' ad' ce w := by
  obtain ⟨k, ci, fs, n, I, ov⟩ := ce
  rcases k with _ | _ | _ | _ | _ | _ | _ | _ | _ | _ | _ | _ | _ | k
  · obtain ⟨vs, h1, h2⟩ := h
    exact ⟨vs, h1, xk_r2_mapl hv h2⟩
  · obtain ⟨cA, g, h1, h2, h3⟩ := h
    refine ⟨cA, g, h1, xk_ar_moved hvm h2, fun j hj => ?_⟩
    have h4 : xk_eI b env ad I (ov.map (fun q => (q.1, f q.2))) g j := h3 j hj
    show xk_eI b' env' ad' I ov g j
    unfold xk_eI at h4 ⊢
    rw [xk_ov_map] at h4
    cases hc : xk_ov ov j with
    | none => rw [hc] at h4; exact h4
    | some av => rw [hc] at h4; exact hv _ _ h4
  · obtain ⟨cA, g, h1, h2, h3⟩ := h
    refine ⟨cA, g, h1, xk_ar_moved hvm h2, fun j hj => ?_⟩
    have h4 : xk_eL b env ad I (ov.map (fun q => (q.1, f q.2))) g j := h3 j hj
    show xk_eL b' env' ad' I ov g j
    unfold xk_eL at h4 ⊢
    rw [xk_ov_map] at h4
    cases hc : xk_ov ov j with
    | none => rw [hc] at h4; exact h4
    | some av => rw [hc] at h4; exact hv _ _ h4
  · obtain ⟨cA, g, h1, h2, h3⟩ := h
    refine ⟨cA, g, h1, xk_ar_moved hvm h2, fun j hj => ?_⟩
    have h4 : xk_eQ b env ad (ov.map (fun q => (q.1, f q.2))) g j := h3 j hj
    show xk_eQ b' env' ad' ov g j
    unfold xk_eQ at h4 ⊢
    rw [xk_ov_map] at h4
    cases hc : xk_ov ov j with
    | none => rw [hc] at h4; exact h4
    | some av => rw [hc] at h4; exact hv _ _ h4
  · exact h.elim
  · exact h.elim
  · exact h.elim
  · trivial
  · exact xk_c8_in hvm hv h
  · obtain ⟨cA, g, h1, h2, h3, i, v, x, h5, h6, h7⟩ := h
    have h5 : fs.map f = [i, v] := h5
    obtain ⟨i0, v0, e5, e6, e7⟩ : ∃ i0 v0, fs = [i0, v0] ∧ f i0 = i ∧ f v0 = v := by
      rcases fs with _ | ⟨a, _ | ⟨c, _ | ⟨d, r⟩⟩⟩
      · cases h5
      · cases h5
      · simp only [List.map_cons, List.map_nil, List.cons.injEq, and_true] at h5
        exact ⟨a, c, rfl, h5.1, h5.2⟩
      · cases h5
    refine ⟨cA, g, h1, xk_ar_moved hvm h2, fun j hj => ?_, i0, v0, x, e5, hv _ _ (by rw [e6]; exact h6), hv _ _ (by rw [e7]; exact h7)⟩
    have h4 : xk_eI b env ad I (ov.map (fun q => (q.1, f q.2))) g j := h3 j hj
    show xk_eI b' env' ad' I ov g j
    unfold xk_eI at h4 ⊢
    rw [xk_ov_map] at h4
    cases hc : xk_ov ov j with
    | none => rw [hc] at h4; exact h4
    | some av => rw [hc] at h4; exact hv _ _ h4
  · exact xk_c8_in hvm hv h
  · exact xk_c8_in hvm hv h
  · obtain ⟨cA, g, h1, h2, h3⟩ := h
    exact ⟨cA, g, h1, xk_ar_moved hvm h2, fun j hj => xk_eI_in hv (h3 j hj)⟩
  · exact h.elim
theorem xk_c_out {U U' : State} {b b' : xk_b} {env env' : List Int} {ad ad' : List Nat} {f : xk_V → xk_V} (hvm : U.vm.Alike U'.vm) (hv : ∀ (av : xk_V) (v : Value), xk_v b env ad av v → xk_v b' env' ad' (f av) v) {ce : xk_C} {w : Nat × va_E} (h : xk_c U b env ad ce w) : xk_c U' b' env' ad' (xk_fc f ce) w := by
  obtain ⟨k, ci, fs, n, I, ov⟩ := ce
  rcases k with _ | _ | _ | _ | _ | _ | _ | _ | _ | _ | _ | _ | _ | k
  · obtain ⟨vs, h1, h2⟩ := h
    exact ⟨vs, h1, xk_r2_mapr hv h2⟩
  · obtain ⟨cA, g, h1, h2, h3⟩ := h
    refine ⟨cA, g, h1, xk_ar_moved hvm h2, fun j hj => ?_⟩
    have h4 : xk_eI b env ad I ov g j := h3 j hj
    show xk_eI b' env' ad' I (ov.map (fun q => (q.1, f q.2))) g j
    unfold xk_eI at h4 ⊢
    rw [xk_ov_map]
    cases hc : xk_ov ov j with
    | none => rw [hc] at h4; exact h4
    | some av => rw [hc] at h4; exact hv _ _ h4
  · obtain ⟨cA, g, h1, h2, h3⟩ := h
    refine ⟨cA, g, h1, xk_ar_moved hvm h2, fun j hj => ?_⟩
    have h4 : xk_eL b env ad I ov g j := h3 j hj
    show xk_eL b' env' ad' I (ov.map (fun q => (q.1, f q.2))) g j
    unfold xk_eL at h4 ⊢
    rw [xk_ov_map]
    cases hc : xk_ov ov j with
    | none => rw [hc] at h4; exact h4
    | some av => rw [hc] at h4; exact hv _ _ h4
  · obtain ⟨cA, g, h1, h2, h3⟩ := h
    refine ⟨cA, g, h1, xk_ar_moved hvm h2, fun j hj => ?_⟩
    have h4 : xk_eQ b env ad ov g j := h3 j hj
    show xk_eQ b' env' ad' (ov.map (fun q => (q.1, f q.2))) g j
    unfold xk_eQ at h4 ⊢
    rw [xk_ov_map]
    cases hc : xk_ov ov j with
    | none => rw [hc] at h4; exact h4
    | some av => rw [hc] at h4; exact hv _ _ h4
  · exact h.elim
  · exact h.elim
  · exact h.elim
  · trivial
  · exact xk_c8_out hvm hv h
  · obtain ⟨cA, g, h1, h2, h3, i, v, x, h5, h6, h7⟩ := h
    have h5 : fs = [i, v] := h5
    refine ⟨cA, g, h1, xk_ar_moved hvm h2, fun j hj => ?_, f i, f v, x, by show fs.map f = _; rw [h5]; rfl, hv _ _ h6, hv _ _ h7⟩
    have h4 : xk_eI b env ad I ov g j := h3 j hj
    show xk_eI b' env' ad' I (ov.map (fun q => (q.1, f q.2))) g j
    unfold xk_eI at h4 ⊢
    rw [xk_ov_map]
    cases hc : xk_ov ov j with
    | none => rw [hc] at h4; exact h4
    | some av => rw [hc] at h4; exact hv _ _ h4
  · exact xk_c8_out hvm hv h
  · exact xk_c8_out hvm hv h
  · obtain ⟨cA, g, h1, h2, h3⟩ := h
    exact ⟨cA, g, h1, xk_ar_moved hvm h2, fun j hj => xk_eI_out hv (h3 j hj)⟩
  · exact h.elim
def xk_mix {α : Type} : List α → List Nat → List α → List α
  | h, p :: ps, c :: cs => xk_mix (h.set p c) ps cs
  | h, _, _ => h
theorem xk_r2_mix {α β : Type} {R : α → β → Prop} : ∀ {h : List α} {w : List β} (ps : List Nat) {cs : List α} {vs : List β}, xk_r2 R h w → xk_r2 R cs vs → xk_r2 R (xk_mix h ps cs) (xk_mix w ps vs)
  | _, _, [], [], [], q, _ => q
  | _, _, [], _ :: _, _ :: _, q, _ => q
  | _, _, _ :: _, [], [], q, _ => q
  | _, _, _, [], _ :: _, _, q => q.elim
  | _, _, _, _ :: _, [], _, q => q.elim
  | _, _, p :: ps, c :: cs, v :: vs, q, q2 => xk_r2_mix ps (xk_r2_set q2.1 p q) q2.2
theorem xk_mix_get {α : Type} {k : Nat} {q : α} : ∀ {h : List α} (ps : List Nat) {cs : List α}, ps.length ≤ cs.length → (xk_mix h ps cs)[k]? = some q → q ∈ cs ∨ h[k]? = some q ∧ k ∉ ps
  | _, [], cs, _, hq => Or.inr ⟨by cases cs <;> exact hq, List.not_mem_nil⟩
  | _, _ :: _, [], hl, _ => absurd hl (by simp)
  | h, p :: ps, c :: cs, hl, hq => by
    rcases xk_mix_get ps (cs := cs) (by simp at hl; exact hl) hq with h1 | ⟨h1, h2⟩
    · exact Or.inl (List.mem_cons_of_mem _ h1)
    · by_cases hk : p = k
      · subst hk
        have hlen : p < (h.set p c).length := (List.getElem?_eq_some_iff.mp h1).1
        rw [List.length_set] at hlen
        rw [List.getElem?_set_self hlen] at h1
        cases h1
        exact Or.inl List.mem_cons_self
      · rw [List.getElem?_set_ne hk] at h1
        refine Or.inr ⟨h1, fun hm => ?_⟩
        rcases List.mem_cons.mp hm with e | e
        · exact hk (Eq.symm e)
        · exact h2 e
theorem xk_mix_map {α β : Type} (f : α → β) : ∀ (h : List α) (ps : List Nat) (cs : List α), (xk_mix h ps cs).map f = xk_mix (h.map f) ps (cs.map f)
  | _, [], _ => by simp [xk_mix]
  | _, _ :: _, [] => by simp [xk_mix]
  | h, p :: ps, c :: cs => by
    rw [List.map_cons]
    unfold xk_mix
    rw [xk_mix_map f (h.set p c) ps cs, List.map_set]
theorem xk_set_same {α : Type} {l : List α} {p : Nat} {v : α} (h : l[p]? = some v) : l.set p v = l := by
  apply List.ext_getElem?
  intro j
  by_cases hj : p = j
  · subst hj
    rw [List.getElem?_set_self (List.getElem?_eq_some_iff.mp h).1, h]
  · rw [List.getElem?_set_ne hj]
theorem xk_mix_id {α : Type} {d : α} : ∀ (l : List α) (ps : List Nat) (r : List α), (∀ p ∈ ps, p < l.length) → xk_mix l ps (ps.map (fun p => l.getD p d) ++ r) = l
  | _, [], _, _ => by simp [xk_mix]
  | l, p :: ps, r, h => by
    have hp := h p List.mem_cons_self
    rw [List.map_cons, List.cons_append]
    unfold xk_mix
    have e : l.set p (l.getD p d) = l := xk_set_same (by rw [List.getD_eq_getElem?_getD, List.getElem?_eq_getElem hp]; rfl)
    rw [e]
    exact xk_mix_id l ps r (fun q hq => h q (List.mem_cons_of_mem _ hq))
theorem xk_D_ad {A : Nat → Prop} {ws ws' : va_W} (h : va_D A ws) (e : ws'.map Prod.fst = ws.map Prod.fst) : va_D A ws' := by
  have key : ∀ (k : Nat) (q : Nat × va_E), ws'[k]? = some q → ∃ q', ws[k]? = some q' ∧ q'.1 = q.1 := by
    intro k q hq
    have h1 : (ws'.map Prod.fst)[k]? = some q.1 := by rw [List.getElem?_map, hq]; rfl
    rw [e, List.getElem?_map] at h1
    cases hw : ws[k]? with
    | none => rw [hw] at h1; cases h1
    | some q' => rw [hw] at h1; exact ⟨q', rfl, Option.some.inj h1⟩
  refine ⟨fun i j p q hp hq hpq => ?_, fun k q hk => ?_⟩
  · obtain ⟨p', e1, e2⟩ := key i p hp
    obtain ⟨q', e3, e4⟩ := key j q hq
    exact h.1 i j p' q' e1 e3 (by rw [e2, e4]; exact hpq)
  · obtain ⟨q', e1, e2⟩ := key k q hk
    rw [← e2]
    exact h.2 k q' e1

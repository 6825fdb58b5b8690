theorem xk_nb1 : ¬ xk_big ≤ 1 := by unfold xk_big; omega
theorem xk_nbm : ¬ xk_big ≤ -1 := by unfold xk_big; omega
theorem xp_pig : ∀ (n : Nat) (l : List Nat), l.Nodup → (∀ x ∈ l, x < n) → l.length ≤ n
  | 0, l, _, h => by
    cases l with
    | nil => exact Nat.le_refl _
    | cons a r => exact absurd (h a List.mem_cons_self) (Nat.not_lt_zero _)
  | n + 1, l, hn, h => by
    have h1 := xp_pig n (l.erase n) (hn.erase n) (fun x hx => by
      have h2 := (List.Nodup.mem_erase_iff hn).mp hx
      have h3 := h x h2.2
      omega)
    have h4 := List.length_erase_le (a := n) (l := l)
    by_cases hm : n ∈ l
    · have h5 := List.length_erase_of_mem hm
      omega
    · rw [List.erase_of_not_mem hm] at h1
      omega
theorem xp_ten {f : Nat → Int32} {S x : Int} (hx : 0 ≤ x) (hx8 : x ≤ 8) (hS : S ≤ 9) (hf : ∀ j : Nat, j < 45 → (0 : Int) ≤ (f j).toInt ∧ (f j).toInt ≤ 17) (hd : xk_dis f 0 S) (ha : ∀ i : Nat, (i : Int) < S → (f i).toInt / 2 ≠ x) : S ≤ 8 := by
  apply Classical.byContradiction
  intro hn
  have hS9 : S = 9 := by omega
  subst hS9
  have hnd : (x.toNat :: (List.range 9).map (fun i => ((f i).toInt / 2).toNat)).Nodup := by
    rw [List.nodup_cons]
    constructor
    · intro hm
      obtain ⟨i, hi, e⟩ := List.mem_map.mp hm
      have hi9 := List.mem_range.mp hi
      have h1 := hf i (by omega)
      exact ha i (by omega) (by omega)
    · rw [List.nodup_iff_pairwise_ne, List.pairwise_map]
      refine List.Pairwise.imp_of_mem ?_ List.nodup_range
      intro i j hi hj hij e
      have hi9 := List.mem_range.mp hi
      have hj9 := List.mem_range.mp hj
      have h1 := hf i (by omega)
      have h2 := hf j (by omega)
      have h3 := hd i j (by omega) (by omega) hij
      rw [Nat.zero_add, Nat.zero_add] at h3
      exact h3 (by omega)
  have h9 := xp_pig 9 _ hnd (fun z hz => by
    rcases List.mem_cons.mp hz with rfl | hz
    · omega
    · obtain ⟨i, hi, e⟩ := List.mem_map.mp hz
      have hi9 := List.mem_range.mp hi
      have h1 := hf i (by omega)
      omega)
  simp at h9
/-- say, ahead of asking: the claim is none of those said (then eight at most are), or one of them -/
def xy_hkA (pt : Nat) : xk_Hk := fun pc σ => if Nat.beq pc 27 then (match σ.2.2.1, σ.2.2.2.1[pt]? with
  | [], some (8, 0, [(0, S0), x1, x2, x3, x4], 45, (0, 17), []) => (match xk_ov σ.2.1 1 with
    | some cv => if xk_isI cv = true ∧ 0 ≤ (xk_iv σ.1 cv).1 ∧ (xk_iv σ.1 cv).2 ≤ 8 ∧ S0.toNat < σ.1.1.length ∧ (xk_iv σ.1 (0, S0)).2 ≤ 9 then some ((match xk_set σ.1 (0, S0) ((xk_iv σ.1 (0, S0)).1, min (xk_iv σ.1 (0, S0)).2 8) with
        | some N' => [(27, (N', σ.2.1, [], σ.2.2.2.1.set pt (10, 0, [(0, S0), x1, x2, x3, x4, cv], 45, (0, 17), []), σ.2.2.2.2.1, σ.2.2.2.2.2))]
        | none => []) ++ (match xk_le σ.1 (5, 1) (0, S0) 0 with
        | some N1 => [(27, ((N1.1 ++ [(0, 8)], (N1.1.length, S0.toNat, -1) :: N1.2), σ.2.1, [], σ.2.2.2.1.set pt (11, 0, [(0, S0), x1, x2, x3, x4, cv, (0, (N1.1.length : Int))], 45, (0, 17), []), σ.2.2.2.2.1, σ.2.2.2.2.2))]
        | none => [])) else none
    | none => none)
  | _, _ => none) else none
/-- told[SAID] = 2 c + v: one more is said -/
def xy_hkB : xk_Hk := fun pc σ => if Nat.beq pc 50 then (match σ.2.2.1 with
  | [i, (2, q)] => (match σ.2.2.2.1[q.toNat]? with
    | some (10, 0, [(0, S0), x1, x2, x3, x4, cv], 45, (0, 17), []) => (match xk_ov σ.2.1 1, xk_ov σ.2.1 2 with
      | some c1, some v1 => if xk_bV c1 cv = true ∧ xk_bV i (0, S0) = true ∧ xk_isI cv = true ∧ xk_isI v1 = true ∧ 0 ≤ (xk_iv σ.1 cv).1 ∧ (xk_iv σ.1 cv).2 ≤ 8 ∧ 0 ≤ (xk_iv σ.1 v1).1 ∧ (xk_iv σ.1 v1).2 ≤ 1 ∧ 0 ≤ (xk_iv σ.1 (0, S0)).1 ∧ (xk_iv σ.1 (0, S0)).2 ≤ 8 ∧ S0.toNat < σ.1.1.length then some [(56, ((σ.1.1 ++ [(1, 9)], (σ.1.1.length, S0.toNat, 1) :: (S0.toNat, σ.1.1.length, -1) :: σ.1.2), σ.2.1, [], σ.2.2.2.1.set q.toNat (8, 0, [(0, (σ.1.1.length : Int)), x1, x2, x3, x4], 45, (0, 17), []), σ.2.2.2.2.1, σ.2.2.2.2.2))] else none
      | _, _ => none)
    | _ => none)
  | _ => none) else none
def xy_hk (pt : Nat) : xk_Hk := fun pc σ => match xy_hkA pt pc σ with
  | some r => some r
  | none => xy_hkB pc σ
theorem xy_set_same {α : Type} {l : List α} {k : Nat} {x : α} (h : l[k]? = some x) : l.set k x = l := xk_set_same h
section XY
variable {p : Program} {l : Launch} {e : Env} {R : Room} {s : State} {m : MethodId} {args : Array Value} {below : List Frame} {meth : Method} {c : Code} {Q : State → Prop} {D : va_G} {A : Nat → Prop} {b : xk_b}
/-- another picture of one cell, in a world with more numbers -/
theorem xy_in {nL : Nat} {iv' : xk_N} {lo : List (Nat × xk_V)} {hp : List xk_C} {st : List xk_V} {kc ks k : Nat} {env e2 : List Int} {ad : List Nat} {H : Heap} {locs : List Loc} {ls : Array Slot} {sv : List Value} {ce' : xk_C} {ws : va_W} {w : Nat × va_E} (h0 : xk_ok (env ++ e2) iv') (hlv : ∃ lvs, lv_has ls nL lvs ∧ xk_r2 (fun a q => a.1 = q.1 ∧ xk_v b env ad a.2 q.2) lo lvs) (hst : xk_r2 (xk_v b env ad) st sv) (ha : ws.map Prod.fst = ad) (hc : xk_r2 (xk_c s b env ad) hp ws) (hP : va_P D vwCl ws H) (hD : va_D A ws) (hS : va_S A s.heap H locs) (hpre : xk_pre b env ad) (hw : ws[k]? = some w) (hcw : xk_c s b (env ++ e2) ad ce' w) : xk_In b nL s D A (iv', lo, st, hp.set k ce', kc, ks) (env ++ e2) ad H locs ls sv := by
  obtain ⟨lvs, hl, hr⟩ := hlv
  refine ⟨h0, ⟨lvs, hl, xk_r2_mono (fun _ _ q => ⟨q.1, xk_v_e e2 q.2⟩) hr⟩, xk_r2_mono (fun _ _ q => xk_v_e e2 q) hst, ws, ha, ?_, hP, hD, hS, xk_pre_e hpre⟩
  have h1 := xk_r2_mono (fun _ _ q => xk_c_map (Vm.Alike.refl _) (fun _ _ z => xk_v_e e2 z) q) hc
  have h2 := xk_r2_set (a := ce') (b := w) (R := xk_c s b (env ++ e2) ad) hcw k h1
  rw [xk_set_same hw] at h2
  exact h2
theorem xy_num {env : List Int} {ad : List Nat} {i : Int} {x : Int32} (h : xk_v b env ad (0, i) (.int x)) : env[i.toNat]? = some x.toInt := by
  obtain ⟨y, e1, e2⟩ := h
  cases e1
  exact e2
theorem xy_HKA {pt : Nat} (pc : Nat) (σ : xk_S) (l2 : List (Nat × xk_S)) (hk : xy_hkA pt pc σ = some l2) (kk : ∀ q ∈ l2, xk_G p l e R s m args below meth c Q b 3 D A q.1 q.2) : xk_G p l e R s m args below meth c Q b 3 D A pc σ := by
  obtain ⟨iv, lo, st, hp, kc, ks⟩ := σ
  unfold xy_hkA at hk
  split at hk
  · rename_i hpc
    have hpc := Nat.eq_of_beq_eq_true hpc
    subst hpc
    split at hk
    · rename_i S0 x1 x2 x3 x4 est hcell
      have est : st = [] := est
      subst est
      have hcell : hp[pt]? = some (8, 0, [(0, S0), x1, x2, x3, x4], 45, (0, 17), []) := hcell
      split at hk
      · rename_i cv hcv
        have hcv : xk_ov lo 1 = some cv := hcv
        split at hk
        · rename_i hcond
          obtain ⟨c1, c2, c3, c4, c5⟩ := hcond
          cases hk
          intro env ad H locs ls sv h
          have c2 : 0 ≤ (xk_iv iv cv).1 := c2
          have c3 : (xk_iv iv cv).2 ≤ 8 := c3
          have c4 : S0.toNat < iv.1.length := c4
          have c5 : (xk_iv iv (0, S0)).2 ≤ 9 := c5
          obtain ⟨v1, l1, l2⟩ := xk_ldI h hcv
          obtain ⟨xc, e1, hnc⟩ := xk_vI c1 l2
          subst e1
          have hbc : (xk_iv iv cv).1 ≤ xc.toInt ∧ xc.toInt ≤ (xk_iv iv cv).2 := xk_iv_ok h.1 hnc
          obtain ⟨h0, hlv, hst, ws, ha, hc, hP, hD, hS, hpre⟩ := id h
          obtain ⟨w, hw, hcw⟩ := xk_r2_get pt hc hcell
          obtain ⟨cA, f, he, har, hel, vs, hvs, hdd⟩ : xk_c8 0 s b env ad (8, 0, [(0, S0), x1, x2, x3, x4], 45, (0, 17), []) w := hcw
          obtain ⟨xS, vs2, evs, hxS, hvs2⟩ := xk_r2_cons hvs
          have hnS := xy_num hxS
          have hnS2 : xk_n env (0, S0) xS.toInt := hnS
          have hbS : (xk_iv iv (0, S0)).1 ≤ xS.toInt ∧ xS.toInt ≤ (xk_iv iv (0, S0)).2 := xk_iv_ok h0 hnS2
          have hf : ∀ j : Nat, j < 45 → (0 : Int) ≤ (f j).toInt ∧ (f j).toInt ≤ 17 := fun j hj => hel j hj
          have hlen5 : vs2.length = 4 := (xk_r2_len hvs2).symm
          subst evs
          have hdis : xk_dis f 0 xS.toInt := hdd.1 0 (by decide)
          by_cases hPa : ∀ i : Nat, (i : Int) < xS.toInt → (f i).toInt / 2 ≠ xc.toInt
          · have h8 := xp_ten (by omega) (by omega) (by omega) hf hdis hPa
            obtain ⟨N', e1, e2⟩ := xk_set_ok (I := ((xk_iv iv (0, S0)).1, min (xk_iv iv (0, S0)).2 8)) h0 hnS2 hbS.1 (by show xS.toInt ≤ min _ _; omega)
            have hin : xk_In b 3 s D A (N', lo, [], hp.set pt (10, 0, [(0, S0), x1, x2, x3, x4, cv], 45, (0, 17), []), kc, ks) (env ++ []) ad H locs ls sv := by
              refine xy_in (e2 := []) (by rw [List.append_nil]; exact e2) hlv hst ha hc hP hD hS hpre hw ?_
              rw [List.append_nil]
              refine ⟨cA, f, he, har, hel, (xS :: vs2) ++ [xc], xk_r2_app (as' := [cv]) (bs' := [xc]) ⟨l2, trivial⟩ hvs, ?_⟩
              rw [List.map_append]
              refine ⟨fun k hk5 => ?_, fun i hi => ?_⟩
              · rw [List.getD_eq_getElem?_getD, List.getElem?_append_left (by rw [List.length_map, List.length_cons]; omega), ← List.getD_eq_getElem?_getD]
                exact hdd.1 k hk5
              · have e5 : ((xS :: vs2).map Int32.toInt ++ [xc].map Int32.toInt).getD 5 0 = xc.toInt := by
                  rw [List.getD_eq_getElem?_getD, List.getElem?_append_right (by rw [List.length_map, List.length_cons]; omega), List.length_map, List.length_cons, hlen5]
                  rfl
                rw [e5]
                exact hPa i hi
            refine kk (27, (N', lo, [], hp.set pt (10, 0, [(0, S0), x1, x2, x3, x4, cv], 45, (0, 17), []), kc, ks)) ?_ _ _ _ _ _ _ hin
            rw [show xk_set (iv, lo, [], hp, kc, ks).1 (0, S0) ((xk_iv (iv, lo, [], hp, kc, ks).1 (0, S0)).1, min (xk_iv (iv, lo, [], hp, kc, ks).1 (0, S0)).2 8) = some N' from e1]
            exact List.mem_append_left _ List.mem_cons_self
          · obtain ⟨i, hi⟩ := Classical.not_forall.mp hPa
            obtain ⟨hi1, hi2⟩ := Classical.not_imp.mp hi
            have hi2 := Classical.not_not.mp hi2
            obtain ⟨N1, eN1, h01⟩ := xk_le_ok (a := (5, 1)) (c := (0, S0)) (k := 0) (x := 1) h0 rfl hnS2 (by omega)
            have hok1 := xk_ok_app (n := (i : Int)) (q := (0, 8)) h01 (by show (0 : Int) ≤ i; omega) (by show (i : Int) ≤ 8; omega)
            have hwi : (env ++ [(i : Int)])[N1.1.length]? = some (i : Int) := by rw [← h01.1]; simp
            have hok : xk_ok (env ++ [(i : Int)]) (N1.1 ++ [(0, 8)], (N1.1.length, S0.toNat, -1) :: N1.2) := by
              refine ⟨hok1.1, hok1.2.1, fun r hr => ?_⟩
              rcases List.mem_cons.mp hr with rfl | hr
              · refine ⟨(List.getElem?_eq_some_iff.mp hwi).1, by rw [List.length_append, h0.1]; show S0.toNat < _; omega, fun x y hx hy => ?_, fun z => absurd z xk_nbm⟩
                have hx : (env ++ [(i : Int)])[N1.1.length]? = some x := hx
                have hy : (env ++ [(i : Int)])[S0.toNat]? = some y := hy
                rw [hwi] at hx
                rw [xk_ga hnS] at hy
                have := Option.some.inj hx
                have := Option.some.inj hy
                show x ≤ y + -1
                omega
              · exact hok1.2.2 r hr
            have hI8 : (Int32.ofInt (i : Int)).toInt = (i : Int) := Int32.toInt_ofInt_of_le (by omega) (by omega)
            refine kk (27, ((N1.1 ++ [(0, 8)], (N1.1.length, S0.toNat, -1) :: N1.2), lo, [], hp.set pt (11, 0, [(0, S0), x1, x2, x3, x4, cv, (0, (N1.1.length : Int))], 45, (0, 17), []), kc, ks)) (List.mem_append_right _ (by rw [show xk_le (iv, lo, [], hp, kc, ks).1 (5, 1) (0, S0) 0 = some N1 from eN1]; exact List.mem_cons_self)) _ _ _ _ _ _ (xy_in (e2 := [(i : Int)]) hok hlv hst ha hc hP hD hS hpre hw ?_)
            refine ⟨cA, f, he, har, fun j hj => hel j hj, (xS :: vs2) ++ [xc, Int32.ofInt (i : Int)], xk_r2_app (as' := [cv, (0, (N1.1.length : Int))]) (bs' := [xc, Int32.ofInt (i : Int)]) ⟨xk_v_e _ l2, ⟨_, rfl, ?_⟩, trivial⟩ (xk_r2_mono (S := fun av (x : Int32) => xk_v b (env ++ [(i : Int)]) ad av (.int x)) (fun _ _ q => xk_v_e _ q) hvs), ?_⟩
            · rw [List.map_append]
              have e5 : ((xS :: vs2).map Int32.toInt ++ [xc, Int32.ofInt (i : Int)].map Int32.toInt).getD 5 0 = xc.toInt := by
                rw [List.getD_eq_getElem?_getD, List.getElem?_append_right (by rw [List.length_map, List.length_cons]; omega), List.length_map, List.length_cons, hlen5]
                rfl
              have e6 : ((xS :: vs2).map Int32.toInt ++ [xc, Int32.ofInt (i : Int)].map Int32.toInt).getD 6 0 = (i : Int) := by
                rw [List.getD_eq_getElem?_getD, List.getElem?_append_right (by rw [List.length_map, List.length_cons]; omega), List.length_map, List.length_cons, hlen5]
                exact hI8
              refine ⟨fun k hk5 => ?_, ?_⟩
              · rw [List.getD_eq_getElem?_getD, List.getElem?_append_left (by rw [List.length_map, List.length_cons]; omega), ← List.getD_eq_getElem?_getD]
                exact hdd.1 k hk5
              · show 0 ≤ _ ∧ _ < _ ∧ _
                rw [e5, e6, Int.toNat_natCast]
                exact ⟨by omega, hi1, hi2⟩
            · show (env ++ [(i : Int)])[((N1.1.length : Nat) : Int).toNat]? = _
              rw [Int.toNat_natCast, hwi, hI8]
        · cases hk
      · cases hk
    · cases hk
  · cases hk
theorem xy_dd {f : Nat → Int32} {z : Int32} {S C l1 l2 l3 l4 : Int} (h0 : 0 ≤ S) (h8 : S ≤ 8) (hz : z.toInt / 2 = C) (hd : xk_dd 1 f [S, l1, l2, l3, l4, C]) : xk_dd 0 (upd f S.toNat z) [S + 1, l1, l2, l3, l4] := by
  refine ⟨fun k hk5 => ?_, trivial⟩
  have hdk := hd.1 k hk5
  have hab : ∀ y : Nat, (y : Int) < S → (f y).toInt / 2 ≠ C := hd.2
  intro a1 a2 ha1 ha2 hne
  rcases (show k = 0 ∨ 1 ≤ k by omega) with hk0 | hk1
  · subst hk0
    have ha1 : (a1 : Int) < S + 1 := ha1
    have ha2 : (a2 : Int) < S + 1 := ha2
    have hd0 : ∀ y y2 : Nat, (y : Int) < S → (y2 : Int) < S → y ≠ y2 → (f y).toInt / 2 ≠ (f y2).toInt / 2 := by
      intro y y2 hy hy2 hyy
      have q1 := hdk y y2 hy hy2 hyy
      rw [Nat.mul_zero, Nat.zero_add, Nat.zero_add] at q1
      exact q1
    rw [Nat.mul_zero, Nat.zero_add, Nat.zero_add]
    by_cases q1 : a1 = S.toNat
    · by_cases q2 : a2 = S.toNat
      · omega
      · rw [q1, pk_us, pk_un q2, hz]
        have q3 := hab a2 (by omega)
        omega
    · by_cases q2 : a2 = S.toNat
      · rw [q2, pk_us, pk_un q1, hz]
        exact hab a1 (by omega)
      · rw [pk_un q1, pk_un q2]
        exact hd0 a1 a2 (by omega) (by omega) hne
  · have e9 : ([S + 1, l1, l2, l3, l4] : List Int).getD k 0 = ([S, l1, l2, l3, l4, C] : List Int).getD k 0 := by
      rcases (show k = 1 ∨ k = 2 ∨ k = 3 ∨ k = 4 by omega) with rfl | rfl | rfl | rfl <;> rfl
    rw [e9] at ha1 ha2
    rw [pk_un (by omega), pk_un (by omega)]
    exact hdk a1 a2 ha1 ha2 hne
theorem xy_val : ∀ c : Nat, c < 9 → ∀ v : Nat, v < 2 → ((2 : Int32) * Int32.ofNat c + Int32.ofNat v).toInt = 2 * (c : Int) + (v : Int) := by decide +kernel
theorem xy_HKB (F : xk_Fx p s m args c D A RX10 cX10_say 3) (pc : Nat) (σ : xk_S) (l2 : List (Nat × xk_S)) (hk : xy_hkB pc σ = some l2) (kk : ∀ q ∈ l2, xk_G p l e R s m args below meth c Q b 3 D A q.1 q.2) : xk_G p l e R s m args below meth c Q b 3 D A pc σ := by
  obtain ⟨iv, lo, st, hp, kc, ks⟩ := σ
  unfold xy_hkB at hk
  split at hk
  · rename_i hpc
    have hpc := Nat.eq_of_beq_eq_true hpc
    subst hpc
    split at hk
    · rename_i i q est
      have est : st = [i, (2, q)] := est
      subst est
      split at hk
      · rename_i S0 x1 x2 x3 x4 cv hcell
        have hcell : hp[q.toNat]? = some (10, 0, [(0, S0), x1, x2, x3, x4, cv], 45, (0, 17), []) := hcell
        split at hk
        · rename_i c1 v1 hc1 hv1
          have hc1 : xk_ov lo 1 = some c1 := hc1
          have hv1 : xk_ov lo 2 = some v1 := hv1
          split at hk
          · rename_i hcond
            obtain ⟨d1, d2, d3, d4, d5, d6, d7, d8, d9, d10, d11⟩ := hcond
            cases hk
            have e1 := xk_bV_eq d1
            have e2 := xk_bV_eq d2
            subst e1 e2
            have d5 : 0 ≤ (xk_iv iv c1).1 := d5
            have d6 : (xk_iv iv c1).2 ≤ 8 := d6
            have d7 : 0 ≤ (xk_iv iv v1).1 := d7
            have d8 : (xk_iv iv v1).2 ≤ 1 := d8
            have d9 : 0 ≤ (xk_iv iv (0, S0)).1 := d9
            have d10 : (xk_iv iv (0, S0)).2 ≤ 8 := d10
            have d11 : S0.toNat < iv.1.length := d11
            intro env ad H locs ls sv h
            obtain ⟨xS, r1, rfl, hnS, h0⟩ := xk_popI h rfl
            obtain ⟨a, rest, rfl, hada, h0⟩ := xk_popR h0
            have hnil : rest = [] := xk_r2_nil h0.2.2.1
            subst hnil
            have hnS : env[S0.toNat]? = some xS.toInt := hnS
            obtain ⟨w1, l1, m1⟩ := xk_ldI h0 hc1
            obtain ⟨xc, e1, hnc⟩ := xk_vI d3 m1
            subst e1
            obtain ⟨w2, l2, m2⟩ := xk_ldI h0 hv1
            obtain ⟨xv, e1, hnv⟩ := xk_vI d4 m2
            subst e1
            have bS : (xk_iv iv (0, S0)).1 ≤ xS.toInt ∧ xS.toInt ≤ (xk_iv iv (0, S0)).2 := xk_iv_ok h0.1 hnS
            have bc : (xk_iv iv c1).1 ≤ xc.toInt ∧ xc.toInt ≤ (xk_iv iv c1).2 := xk_iv_ok h0.1 hnc
            have bv : (xk_iv iv v1).1 ≤ xv.toInt ∧ xv.toInt ≤ (xk_iv iv v1).2 := xk_iv_ok h0.1 hnv
            have hval : ((2 : Int32) * xc + xv).toInt = 2 * xc.toInt + xv.toInt := by
              have z1 := xs_nat (x := xc) (by omega)
              have z2 := xs_nat (x := xv) (by omega)
              have z3 := xy_val xc.toInt.toNat (by omega) xv.toInt.toNat (by omega)
              rw [← z1, ← z2] at z3
              rw [z3]
              omega
            have hG : (Int32.ofInt (xS.toInt + 1)).toInt = xS.toInt + 1 := Int32.toInt_ofInt_of_le (by omega) (by omega)
            have hok1 := xk_ok_app (n := xS.toInt + 1) (q := (1, 9)) h0.1 (by show 1 ≤ xS.toInt + 1; omega) (by show xS.toInt + 1 ≤ 9; omega)
            have hlen : env.length = iv.1.length := h0.1.1
            have hwi : (env ++ [xS.toInt + 1])[iv.1.length]? = some (xS.toInt + 1) := by rw [← hlen]; simp
            have hwS : (env ++ [xS.toInt + 1])[S0.toNat]? = some xS.toInt := xk_ga hnS
            have hok : xk_ok (env ++ [xS.toInt + 1]) (iv.1 ++ [(1, 9)], (iv.1.length, S0.toNat, 1) :: (S0.toNat, iv.1.length, -1) :: iv.2) := by
              refine ⟨hok1.1, hok1.2.1, fun r hr => ?_⟩
              rcases List.mem_cons.mp hr with rfl | hr
              · refine ⟨(List.getElem?_eq_some_iff.mp hwi).1, (List.getElem?_eq_some_iff.mp hwS).1, fun x y hx hy => ?_, fun z => absurd z xk_nb1⟩
                have hx : (env ++ [xS.toInt + 1])[iv.1.length]? = some x := hx
                have hy : (env ++ [xS.toInt + 1])[S0.toNat]? = some y := hy
                rw [hwi] at hx
                rw [hwS] at hy
                have := Option.some.inj hx
                have := Option.some.inj hy
                show x ≤ y + 1
                omega
              · rcases List.mem_cons.mp hr with rfl | hr
                · refine ⟨(List.getElem?_eq_some_iff.mp hwS).1, (List.getElem?_eq_some_iff.mp hwi).1, fun x y hx hy => ?_, fun z => absurd z xk_nbm⟩
                  have hx : (env ++ [xS.toInt + 1])[S0.toNat]? = some x := hx
                  have hy : (env ++ [xS.toInt + 1])[iv.1.length]? = some y := hy
                  rw [hwS] at hx
                  rw [hwi] at hy
                  have := Option.some.inj hx
                  have := Option.some.inj hy
                  show x ≤ y + -1
                  omega
                · exact hok1.2.2 r hr
            have hg := xk_grow [xS.toInt + 1] h0 hok
            obtain ⟨ws, ev, g1, g2, hP, hD, hS, hw, hcc⟩ := xk_cell hg hada hcell
            obtain ⟨cA, f, he, har, hel, vs, hvs, hdd⟩ := xk_c10 hcc
            have he : ev = .inl (cA, 45, .inl f) := he
            subst he
            obtain ⟨hx, hb, hml, hown, hts, hK, hA⟩ := F
            have hin : vp_in xS 45 := by rw [vp_in_iff]; omega
            refine lv_iconst hx hb (n := 2) (v := 2) (by decide +kernel) rfl ?_
            refine lv_iload_n hx hb (k := 1) (i := 1) (by decide +kernel) rfl l1 ?_
            refine lv_imul hx hb (by decide +kernel) ?_
            refine lv_iload_n hx hb (k := 2) (i := 2) (by decide +kernel) rfl l2 ?_
            refine lv_iadd hx hb (by decide +kernel) ?_
            refine va_iast hx hb (xk_K1 hK har) hP hD hS q.toNat 0 hw rfl hin (by decide +kernel) (fun H1 locs1 p1 p2 p3 => kk _ List.mem_cons_self _ _ _ _ _ _ (xk_wr hg g1 g2 hw ?_ p1 p2 p3))
            obtain ⟨yS, vs2, evs, hyS, hvs2⟩ := xk_r2_cons hvs
            subst evs
            have hyS2 := xy_num hyS
            have eyS : yS.toInt = xS.toInt := by
              rw [hwS] at hyS2
              exact (Option.some.inj hyS2).symm
            obtain ⟨yc, yc1, yc2⟩ := xk_r2_get 4 hvs2 (show ([x1, x2, x3, x4, c1] : List xk_V)[4]? = some c1 from rfl)
            have eyc : yc.toInt = xc.toInt := by
              obtain ⟨z, ez, hz⟩ := xk_vI d3 yc2
              cases ez
              have hnc2 : xk_n (env ++ [xS.toInt + 1]) c1 xc.toInt := by
                obtain ⟨z2, ez2, hz2⟩ := xk_vI d3 (xk_v_e [xS.toInt + 1] m1)
                cases ez2
                exact hz2
              unfold xk_n at hz hnc2
              by_cases hcc2 : xk_isC c1 = true
              · rw [if_pos hcc2] at hz hnc2; omega
              · rw [if_neg hcc2] at hz hnc2
                rw [hz] at hnc2
                exact Option.some.inj hnc2
            have hlen5 : vs2.length = 5 := (xk_r2_len hvs2).symm
            obtain ⟨y1, r1, ev1, hy1, hr1⟩ := xk_r2_cons hvs2
            obtain ⟨y2, r2, ev2, hy2, hr2⟩ := xk_r2_cons hr1
            obtain ⟨y3, r3, ev3, hy3, hr3⟩ := xk_r2_cons hr2
            obtain ⟨y4, r4, ev4, hy4, hr4⟩ := xk_r2_cons hr3
            subst ev1 ev2 ev3 ev4
            have hf : ∀ j : Nat, j < 45 → (0 : Int) ≤ (f j).toInt ∧ (f j).toInt ≤ 17 := fun j hj => hel j hj
            have hcl : xS.toNatClampNeg = xS.toInt.toNat := rfl
            refine ⟨cA, upd f xS.toNatClampNeg ((2 : Int32) * xc + xv), rfl, har, fun j hj => ?_, [Int32.ofInt (xS.toInt + 1), y1, y2, y3, y4], ⟨⟨_, rfl, ?_⟩, hy1, hy2, hy3, hy4, trivial⟩, ?_⟩
            · show (0 : Int) ≤ (upd f xS.toNatClampNeg ((2 : Int32) * xc + xv) j).toInt ∧ (upd f xS.toNatClampNeg ((2 : Int32) * xc + xv) j).toInt ≤ 17
              by_cases hj2 : j = xS.toNatClampNeg
              · rw [hj2, pk_us, hval]; omega
              · rw [pk_un hj2]; exact hf j hj
            · show (env ++ [xS.toInt + 1])[((iv.1.length : Nat) : Int).toNat]? = _
              rw [Int.toNat_natCast, hwi, hG]
            · have er4 : r4 = [yc] := by
                have q3 : r4[0]? = some yc := yc1
                have q4 : r4.length = 1 := by
                  have q5 := hlen5
                  simp only [List.length_cons] at q5
                  omega
                cases r4 with
                | nil => cases q3
                | cons u us =>
                  have q6 : us = [] := List.eq_nil_of_length_eq_zero (by simpa using q4)
                  subst q6
                  have q7 : u = yc := Option.some.inj q3
                  rw [q7]
              subst er4
              have hdd2 : xk_dd 1 f [xS.toInt, y1.toInt, y2.toInt, y3.toInt, y4.toInt, xc.toInt] := by
                rw [← eyS, ← eyc]
                exact hdd
              have q9 := xy_dd (z := (2 : Int32) * xc + xv) (by omega) (by omega) (by rw [hval]; omega) hdd2
              have q10 : ([Int32.ofInt (xS.toInt + 1), y1, y2, y3, y4]).map Int32.toInt = [xS.toInt + 1, y1.toInt, y2.toInt, y3.toInt, y4.toInt] := by
                rw [List.map_cons, hG]
                rfl
              rw [q10, hcl]
              exact q9
          · cases hk
        · cases hk
      · cases hk
    · cases hk
  · cases hk
theorem xy_HK {pt : Nat} (F : xk_Fx p s m args c D A RX10 cX10_say 3) (pc : Nat) (σ : xk_S) (l2 : List (Nat × xk_S)) (hk : xy_hk pt pc σ = some l2) (kk : ∀ q ∈ l2, xk_G p l e R s m args below meth c Q b 3 D A q.1 q.2) : xk_G p l e R s m args below meth c Q b 3 D A pc σ := by
  unfold xy_hk at hk
  split at hk
  · rename_i r hr
    cases hk
    exact xy_HKA pc σ _ hr kk
  · exact xy_HKB F pc σ l2 hk kk
end XY

theorem xk_c10 {U : State} {b : xk_b} {env : List Int} {ad : List Nat} {t n : Nat} {fs : List xk_V} {I : xk_I} {ov : List (Nat × xk_V)} {w : Nat × va_E} (h : xk_c U b env ad (10, t, fs, n, I, ov) w) : xk_c8 1 U b env ad (10, t, fs, n, I, ov) w := h
theorem xk_c11 {U : State} {b : xk_b} {env : List Int} {ad : List Nat} {t n : Nat} {fs : List xk_V} {I : xk_I} {ov : List (Nat × xk_V)} {w : Nat × va_E} (h : xk_c U b env ad (11, t, fs, n, I, ov) w) : xk_c8 2 U b env ad (11, t, fs, n, I, ov) w := h
def xs_lc (lo : List (Nat × xk_V)) (cv : xk_V) : Bool := match xk_ov lo 1 with
  | some v => xk_bV v cv && xk_isI cv
  | none => false
/-- saidOf where the claim is none of those said: what is read is another's -/
def xs_hk10 : xk_Hk := fun pc σ => if Nat.beq pc 18 then (match σ.2.2.1 with
  | [i, (2, q)] => (match σ.2.2.2.1[q.toNat]? with
    | some (10, 0, [S0, x1, x2, x3, x4, cv], 45, (0, 17), []) => if xk_isI i = true ∧ xk_isI S0 = true ∧ 0 ≤ (xk_iv σ.1 i).1 ∧ (xk_iv σ.1 S0).2 ≤ 9 ∧ xk_ent 5 σ.1 i S0 (-1) = true ∧ xs_lc σ.2.1 cv = true then some [(34, (σ.1, σ.2.1, [], σ.2.2.2.1, σ.2.2.2.2.1, σ.2.2.2.2.2))] else none
    | _ => none)
  | _ => none) else none
/-- where it is one of them, at a place that is told: till there -/
def xs_hk11 : xk_Hk := fun pc σ => if Nat.beq pc 18 then (match σ.2.2.1 with
  | [i, (2, q)] => (match σ.2.2.2.1[q.toNat]? with
    | some (11, 0, [S0, x1, x2, x3, x4, cv, wv], 45, (0, 17), []) => if xk_isI i = true ∧ xk_isI S0 = true ∧ 0 ≤ (xk_iv σ.1 i).1 ∧ (xk_iv σ.1 S0).2 ≤ 9 ∧ xk_ent 5 σ.1 i S0 (-1) = true ∧ xk_isI wv = true ∧ xk_ent 5 σ.1 i wv 0 = true ∧ xs_lc σ.2.1 cv = true then some ((25, (σ.1, σ.2.1, [], σ.2.2.2.1, σ.2.2.2.2.1, σ.2.2.2.2.2)) :: (match xk_le σ.1 i wv (-1) with
        | some N' => (match xk_le N' i S0 (-2) with
          | some N2 => [(34, (N2, σ.2.1, [], σ.2.2.2.1, σ.2.2.2.2.1, σ.2.2.2.2.2))]
          | none => [])
        | none => [])) else none
    | _ => none)
  | _ => none) else none
theorem xs_div {x : Int32} (h1 : 0 ≤ x.toInt) (h2 : x.toInt ≤ 17) : (x / 2).toInt = x.toInt / 2 := by
  have e : x = Int32.ofNat x.toInt.toNat := xs_nat h1
  have key : ∀ k : Nat, k < 18 → (Int32.ofNat k / 2).toInt = ((k : Nat) : Int) / 2 := by decide +kernel
  have h3 := key x.toInt.toNat (by omega)
  rw [← e] at h3
  rw [h3, Int.toNat_of_nonneg h1]
section XT
variable {p : Program} {l : Launch} {e : Env} {R : Room} {s : State} {m : MethodId} {args : Array Value} {below : List Frame} {meth : Method} {c : Code} {Q : State → Prop} {D : va_G} {A : Nat → Prop} {b : xk_b}
/-- told[i] / 2 against the claim, by hand: pcs 18 to 22 -/
theorem xs_walk (F : xk_Fx p s m args c D A RX10 cX10_saidOf 3) {iv : xk_N} {lo : List (Nat × xk_V)} {hp : List xk_C} {kc ks kd md : Nat} {i S0 cv : xk_V} {x1 x2 x3 x4 : xk_V} {mo : List xk_V} {q : Int} {env : List Int} {ad : List Nat} {H : Heap} {locs : List Loc} {ls : Array Slot} {sv : List Value} (hkd : ∀ w, xk_c s b env ad (kd, 0, S0 :: x1 :: x2 :: x3 :: x4 :: cv :: mo, 45, (0, 17), []) w → xk_c8 md s b env ad (kd, 0, S0 :: x1 :: x2 :: x3 :: x4 :: cv :: mo, 45, (0, 17), []) w) (hi : xk_isI i = true) (hS0 : xk_isI S0 = true) (h1 : 0 ≤ (xk_iv iv i).1) (h2 : (xk_iv iv S0).2 ≤ 9) (h3 : xk_ent 5 iv i S0 (-1) = true) (hcv : xk_isI cv = true) (hlo : xk_ov lo 1 = some cv) (hmo : mo = [] ∨ ∃ wv, mo = [wv] ∧ xk_isI wv = true) (hc : hp[q.toNat]? = some (kd, 0, S0 :: x1 :: x2 :: x3 :: x4 :: cv :: mo, 45, (0, 17), [])) (h : xk_In b 3 s D A (iv, lo, [i, (2, q)], hp, kc, ks) env ad H locs ls sv) : ∃ (f : Nat → Int32) (xi xS xc : Int32) (vs : List Int32), xk_n env i xi.toInt ∧ xk_n env S0 xS.toInt ∧ 0 ≤ xi.toInt ∧ xi.toInt < xS.toInt ∧ xk_dd md f (xS.toInt :: vs.map Int32.toInt) ∧ (vs.map Int32.toInt).getD 4 0 = xc.toInt ∧ xk_In b 3 s D A (iv, lo, [], hp, kc, ks) env ad H locs ls [] ∧ (∀ wv, mo = [wv] → ∃ xw : Int32, xk_n env wv xw.toInt ∧ (xS.toInt :: vs.map Int32.toInt).getD 6 0 = xw.toInt) ∧ ((f xi.toInt.toNat).toInt / 2 = xc.toInt → W p l e R s m args below meth c H locs kc ks Q (F0 m 25 ls []) → W p l e R s m args below meth c H locs kc ks Q (F0 m 18 ls sv)) ∧ (¬ (f xi.toInt.toNat).toInt / 2 = xc.toInt → W p l e R s m args below meth c H locs kc ks Q (F0 m 34 ls []) → W p l e R s m args below meth c H locs kc ks Q (F0 m 18 ls sv)) := by
  have hall := h
  obtain ⟨xi, r1, rfl, hxi, h0⟩ := xk_popI h hi
  obtain ⟨a, rest, rfl, ha, h0⟩ := xk_popR h0
  have hnil : rest = [] := xk_r2_nil h0.2.2.1
  subst hnil
  obtain ⟨ws, ev, w1, w2, hP, hD, hS, hw, hcc⟩ := xk_cell h0 ha hc
  obtain ⟨cA, f, he, har, hel, vs0, hvs, hdd⟩ := hkd _ hcc
  have he : ev = .inl (cA, 45, .inl f) := he
  subst he
  obtain ⟨hx, hb, hml, hown, hts, hK, hA⟩ := F
  obtain ⟨xS, vs, rfl, hxS, hvs2⟩ := xk_r2_cons hvs
  obtain ⟨xS', exS, hnS⟩ := xk_vI hS0 hxS
  cases exS
  obtain ⟨xc, hxc⟩ : ∃ xc : Int32, vs[4]? = some xc ∧ xk_n env cv xc.toInt := by
    obtain ⟨xc, e1, e2⟩ := xk_r2_get 4 hvs2 (show (x1 :: x2 :: x3 :: x4 :: cv :: mo)[4]? = some cv from rfl)
    obtain ⟨z, ez, hz⟩ := xk_vI hcv e2
    cases ez
    exact ⟨xc, e1, hz⟩
  have hbi : (xk_iv iv i).1 ≤ xi.toInt ∧ xi.toInt ≤ (xk_iv iv i).2 := xk_iv_ok hall.1 hxi
  have hbS : (xk_iv iv S0).1 ≤ xS.toInt ∧ xS.toInt ≤ (xk_iv iv S0).2 := xk_iv_ok hall.1 hnS
  have hlt := xk_ent_ok hall.1 5 hxi hnS h3
  have hxi0 : 0 ≤ xi.toInt := by omega
  have hin : vp_in xi 45 := by rw [vp_in_iff]; omega
  have hcl : xi.toNatClampNeg = xi.toInt.toNat := rfl
  have hE : (0 : Int) ≤ (f xi.toInt.toNat).toInt ∧ (f xi.toInt.toNat).toInt ≤ 17 := hel xi.toInt.toNat (by show xi.toInt.toNat < 45; omega)
  obtain ⟨v1, l1, l2⟩ := xk_ldI h0 hlo
  obtain ⟨x1v, e1v, hn1⟩ := xk_vI hcv l2
  subst e1v
  have hsame : x1v = xc := by
    apply Int32.toInt_inj.mp
    have g1 := hxc.2
    unfold xk_n at g1 hn1
    by_cases hcc2 : xk_isC cv = true
    · rw [if_pos hcc2] at g1 hn1; omega
    · rw [if_neg hcc2] at g1 hn1
      rw [g1] at hn1
      exact (Option.some.inj hn1).symm
  subst hsame
  have hdiv := xs_div hE.1 hE.2
  refine ⟨f, xi, xS, x1v, vs, hxi, hnS, hxi0, by omega, hdd, ?_, h0, fun wv hwv => ?_, fun hq kk => ?_, fun hq kk => ?_⟩
  · rw [List.getD_eq_getElem?_getD, List.getElem?_map, hxc.1]
    rfl
  · subst hwv
    obtain ⟨xw, e1, e2⟩ := xk_r2_get 5 hvs2 (show (x1 :: x2 :: x3 :: x4 :: cv :: [wv])[5]? = some wv from rfl)
    obtain ⟨z, ez, hz⟩ := xk_vI (by rcases hmo with hmo | ⟨w2, hmo, hw2⟩; cases hmo; cases hmo; exact hw2) e2
    cases ez
    refine ⟨xw, hz, ?_⟩
    rw [List.getD_cons_succ, List.getD_eq_getElem?_getD, List.getElem?_map, e1]
    rfl
  · refine va_iald hx hb (xk_K1 hK har) hP q.toNat 0 hw rfl hin (by decide +kernel) ?_
    refine lv_iconst hx hb (n := 2) (v := 2) (by decide +kernel) rfl ?_
    refine lv_idiv hx hb (by decide +kernel) (by decide) ?_
    refine lv_iload_n hx hb (k := 1) (i := 1) (by decide +kernel) rfl l1 ?_
    refine lv_icmp_ne hx hb (off := 12) (tgt := 34) (by decide +kernel) rfl (fun hz => absurd (Int32.toInt_inj.mp (by rw [hcl, hdiv]; exact hq)) hz) (fun _ => kk)
  · refine va_iald hx hb (xk_K1 hK har) hP q.toNat 0 hw rfl hin (by decide +kernel) ?_
    refine lv_iconst hx hb (n := 2) (v := 2) (by decide +kernel) rfl ?_
    refine lv_idiv hx hb (by decide +kernel) (by decide) ?_
    refine lv_iload_n hx hb (k := 1) (i := 1) (by decide +kernel) rfl l1 ?_
    refine lv_icmp_ne hx hb (off := 12) (tgt := 34) (by decide +kernel) rfl (fun _ => kk) (fun hz => absurd (by rw [← hdiv, ← hcl, hz]) hq)
theorem xs_HK10 (F : xk_Fx p s m args c D A RX10 cX10_saidOf 3) (pc : Nat) (σ : xk_S) (l2 : List (Nat × xk_S)) (hk : xs_hk10 pc σ = some l2) (kk : ∀ q ∈ l2, xk_G p l e R s m args below meth c Q b 3 D A q.1 q.2) : xk_G p l e R s m args below meth c Q b 3 D A pc σ := by
  obtain ⟨iv, lo, st, hp, kc, ks⟩ := σ
  unfold xs_hk10 at hk
  split at hk
  · rename_i hpc
    have hpc := Nat.eq_of_beq_eq_true hpc
    subst hpc
    split at hk
    · rename_i i q est
      have est : st = [i, (2, q)] := est
      subst est
      split at hk
      · rename_i S0 x1 x2 x3 x4 cv hcell
        split at hk
        · rename_i hcond
          obtain ⟨c1, c2, c3, c4, c5, c6⟩ := hcond
          cases hk
          unfold xs_lc at c6
          split at c6
          · rename_i v hv
            rw [Bool.and_eq_true] at c6
            have ev := xk_bV_eq c6.1
            subst ev
            intro env ad H locs ls sv h
            obtain ⟨f, xi, xS, xc, vs, n1, n2, g1, g2, g3, g5, hI, -, w1, w2⟩ := xs_walk (kd := 10) (md := 1) (mo := []) (e := e) (l := l) (R := R) (below := below) (meth := meth) (Q := Q) F (fun w hw => xk_c10 hw) c1 c2 c3 c4 c5 c6.2 hv (Or.inl rfl) hcell h
            refine w2 ?_ (kk _ List.mem_cons_self env ad H locs ls [] hI)
            have h7 := g3.2 xi.toInt.toNat (by show ((xi.toInt.toNat : Nat) : Int) < xS.toInt; omega)
            intro hz
            apply h7
            rw [hz, ← g5]
            show _ = (xS.toInt :: vs.map Int32.toInt).getD 5 0
            rw [List.getD_cons_succ]
          · cases c6
        · cases hk
      · cases hk
    · cases hk
  · cases hk
theorem xs_HK11 (F : xk_Fx p s m args c D A RX10 cX10_saidOf 3) (pc : Nat) (σ : xk_S) (l2 : List (Nat × xk_S)) (hk : xs_hk11 pc σ = some l2) (kk : ∀ q ∈ l2, xk_G p l e R s m args below meth c Q b 3 D A q.1 q.2) : xk_G p l e R s m args below meth c Q b 3 D A pc σ := by
  obtain ⟨iv, lo, st, hp, kc, ks⟩ := σ
  unfold xs_hk11 at hk
  split at hk
  · rename_i hpc
    have hpc := Nat.eq_of_beq_eq_true hpc
    subst hpc
    split at hk
    · rename_i i q est
      have est : st = [i, (2, q)] := est
      subst est
      split at hk
      · rename_i S0 x1 x2 x3 x4 cv wv hcell
        split at hk
        · rename_i hcond
          obtain ⟨c1, c2, c3, c4, c5, c7, c8, c6⟩ := hcond
          cases hk
          unfold xs_lc at c6
          split at c6
          · rename_i v hv
            rw [Bool.and_eq_true] at c6
            have ev := xk_bV_eq c6.1
            subst ev
            intro env ad H locs ls sv h
            obtain ⟨f, xi, xS, xc, vs, n1, n2, g1, g2, g3, g5, hI, hmw, w1, w2⟩ := xs_walk (kd := 11) (md := 2) (mo := [wv]) (e := e) (l := l) (R := R) (below := below) (meth := meth) (Q := Q) F (fun w hw => xk_c11 hw) c1 c2 c3 c4 c5 c6.2 hv (Or.inr ⟨wv, rfl, c7⟩) hcell h
            obtain ⟨xw, n3, g6⟩ := hmw wv rfl
            by_cases hq : (f xi.toInt.toNat).toInt / 2 = xc.toInt
            · exact w1 hq (kk _ List.mem_cons_self env ad H locs ls [] hI)
            · have hle := xk_ent_ok h.1 5 n1 n3 c8
              have hne : xi.toInt ≠ xw.toInt := by
                intro hz
                apply hq
                have h7 := g3.2.2.2
                rw [g6] at h7
                rw [hz, ← g5]
                show _ = (vs.map Int32.toInt).getD 4 0
                rw [h7, List.getD_cons_succ]
              obtain ⟨N', e1, e2⟩ := xk_le_ok (k := -1) h.1 n1 n3 (by omega)
              have hlt2 : xw.toInt < xS.toInt := by
                have h8 := g3.2.2.1
                rw [g6] at h8
                exact h8
              obtain ⟨N2, e3, e4⟩ := xk_le_ok (k := -2) e2 n1 n2 (by omega)
              refine w2 hq (kk (34, (N2, lo, [], hp, kc, ks)) ?_ env ad H locs ls [] (xk_bnd hI e4))
              rw [show xk_le (iv, lo, [i, (2, q)], hp, kc, ks).1 i wv (-1) = some N' from e1]
              show _ ∈ _ :: (match xk_le N' i S0 (-2) with
                | some N2 => [(34, (N2, lo, [], hp, kc, ks))]
                | none => [])
              rw [e3]
              exact List.mem_cons_of_mem _ List.mem_cons_self
          · cases c6
        · cases hk
      · cases hk
    · cases hk
  · cases hk
end XT

def xr_f8 : Int := xk_big + 8 + 6100000000000
theorem xr_dec8 : xk_dec xr_f8 = (8, [0, 0, 0], 61) := by decide +kernel
theorem xr_big8 : xk_big ≤ xr_f8 := by unfold xr_f8; omega
/-- a fact that is known already -/
def xr_has (iv : xk_N) (i n : Int) (k : Int) : Bool := iv.2.any (fun r => Nat.beq r.1 i.toNat && (Nat.beq r.2.1 n.toNat && decide (r.2.2 = k)))
theorem xr_has1 {env : List Int} {iv : xk_N} {i n x y : Int} (h : xk_ok env iv) (hx : env[i.toNat]? = some x) (hy : env[n.toNat]? = some y) (hh : xr_has iv i n xq_fact = true) : x + y ≤ 60 := by
  obtain ⟨r, hr, hrr⟩ := List.any_eq_true.mp hh
  simp only [Bool.and_eq_true, decide_eq_true_eq] at hrr
  have k1 := Nat.eq_of_beq_eq_true hrr.1
  have k2 := Nat.eq_of_beq_eq_true hrr.2.1
  have hf := ((h.2.2 r hr).2.2.2 (by rw [hrr.2.2]; exact xq_bigl)).2
  rw [hrr.2.2, xq_dec, k1, k2] at hf
  have hf : env.getD i.toNat 0 + env.getD n.toNat 0 ≤ ((60 : Nat) : Int) := hf
  rw [List.getD_eq_getElem?_getD, List.getD_eq_getElem?_getD, hx, hy] at hf
  exact hf
theorem xr_has8 {env : List Int} {iv : xk_N} {i n x y : Int} (h : xk_ok env iv) (hx : env[i.toNat]? = some x) (hy : env[n.toNat]? = some y) (hh : xr_has iv i n xr_f8 = true) : 61 ≤ x + y := by
  obtain ⟨r, hr, hrr⟩ := List.any_eq_true.mp hh
  simp only [Bool.and_eq_true, decide_eq_true_eq] at hrr
  have k1 := Nat.eq_of_beq_eq_true hrr.1
  have k2 := Nat.eq_of_beq_eq_true hrr.2.1
  have hf := ((h.2.2 r hr).2.2.2 (by rw [hrr.2.2]; exact xr_big8)).2
  rw [hrr.2.2, xr_dec8, k1, k2] at hf
  have hf : ((61 : Nat) : Int) ≤ env.getD i.toNat 0 + env.getD n.toNat 0 := hf
  rw [List.getD_eq_getElem?_getD, List.getD_eq_getElem?_getD, hx, hy] at hf
  exact hf
/-- one fact more -/
theorem xr_add {env : List Int} {iv : xk_N} {i n : Nat} {k x y : Int} (h : xk_ok env iv) (hx : env[i]? = some x) (hy : env[n]? = some y) (hb : xk_big ≤ k) (hxy : x ≤ y + xk_big) (hes : ∀ j ∈ (xk_dec k).2.1, j < env.length) (hf : xk_fa (xk_dec k).1 x y ((xk_dec k).2.1.map (fun j => env.getD j 0)) (xk_dec k).2.2) : xk_ok env (iv.1, (i, n, k) :: iv.2) := by
  refine ⟨h.1, h.2.1, fun r hr => ?_⟩
  rcases List.mem_cons.mp hr with rfl | hr
  · refine ⟨(List.getElem?_eq_some_iff.mp hx).1, (List.getElem?_eq_some_iff.mp hy).1, fun u v hu hv => ?_, fun _ => ⟨hes, ?_⟩⟩
    · have hu : env[i]? = some u := hu
      have hv : env[n]? = some v := hv
      rw [hx] at hu
      rw [hy] at hv
      have q1 := Option.some.inj hu
      have q2 := Option.some.inj hv
      show u ≤ v + k
      omega
    · show xk_fa _ (env.getD i 0) (env.getD n 0) _ _
      rw [List.getD_eq_getElem?_getD (l := env) (i := i), List.getD_eq_getElem?_getD (l := env) (i := n), hx, hy]
      exact hf
  · exact h.2.2 r hr
/-- lacks: length - n, where i + n is more than any length -/
def xr_hkL : xk_Hk := fun pc σ => if Nat.beq pc 22 then (match σ.2.2.1 with
  | [(0, n), L, (0, i)] => if xk_isI L = true ∧ 0 ≤ (xk_iv σ.1 L).1 ∧ (xk_iv σ.1 L).2 ≤ 60 ∧ 0 ≤ (xk_iv σ.1 (0, n)).1 ∧ xr_has σ.1 i n xr_f8 = true then some [(23, ((σ.1.1 ++ [xk_full], (σ.1.1.length, i.toNat, -1) :: σ.1.2), σ.2.1, [(0, (σ.1.1.length : Int)), (0, i)], σ.2.2.2.1, σ.2.2.2.2.1, σ.2.2.2.2.2))] else none
  | _ => none) else none
def xr_sp (pc : Nat) (σ : xk_S) : Option (List (Nat × xk_S)) := match σ.2.2.1 with
  | [(0, n), (0, i), (2, q)] => if i.toNat < σ.1.1.length ∧ n.toNat < σ.1.1.length ∧ -2147483648 ≤ (xk_iv σ.1 (0, i)).1 ∧ (xk_iv σ.1 (0, i)).2 ≤ 2147483647 ∧ -2147483648 ≤ (xk_iv σ.1 (0, n)).1 ∧ (xk_iv σ.1 (0, n)).2 ≤ 2147483647 ∧ ¬ (xk_iv σ.1 (0, i)).2 ≤ -1 ∧ ¬ (xk_iv σ.1 (0, n)).2 ≤ -1 ∧ xr_has σ.1 i n xq_fact = false ∧ xr_has σ.1 i n xr_f8 = false then some ((match xk_le σ.1 (0, i) (5, -1) 0 with
      | some N1 => [(pc, (N1, σ.2.1, σ.2.2.1, σ.2.2.2.1, σ.2.2.2.2.1, σ.2.2.2.2.2))]
      | none => []) ++ ((match xk_le σ.1 (0, n) (5, -1) 0 with
      | some N1 => [(pc, (N1, σ.2.1, σ.2.2.1, σ.2.2.2.1, σ.2.2.2.2.1, σ.2.2.2.2.2))]
      | none => []) ++ (match xk_le σ.1 (5, 0) (0, i) 0 with
      | some N1 => (match xk_le N1 (5, 0) (0, n) 0 with
        | some N2 => [(pc, ((N2.1, (i.toNat, n.toNat, xr_f8) :: N2.2), σ.2.1, σ.2.2.1, σ.2.2.2.1, σ.2.2.2.2.1, σ.2.2.2.2.2)), (pc, ((N2.1, (i.toNat, n.toNat, xq_fact) :: N2.2), σ.2.1, σ.2.2.1, σ.2.2.2.1, σ.2.2.2.2.1, σ.2.2.2.2.2))]
        | none => [])
      | none => []))) else none
  | _ => none
def xr_cp (σ : xk_S) : Option (List (Nat × xk_S)) := match σ.2.2.1 with
  | [(0, n), (0, k), (2, q1), (0, i), (2, q0)] => (match σ.2.2.2.1[q0.toNat]?, σ.2.2.2.1[q1.toNat]? with
    | some (2, 3, fs0, 60, (-9223372036854775808, 9223372036854775807), []), some (2, 3, fs1, 60, (-9223372036854775808, 9223372036854775807), []) => if 0 ≤ (xk_iv σ.1 (0, i)).1 ∧ 0 ≤ (xk_iv σ.1 (0, k)).1 ∧ 0 ≤ (xk_iv σ.1 (0, n)).1 ∧ xr_has σ.1 i n xq_fact = true ∧ xr_has σ.1 k n xq_fact = true then some [(112, (σ.1, σ.2.1, [], σ.2.2.2.1.set q1.toNat (2, 3, fs1, 60, (-9223372036854775808, 9223372036854775807), []), σ.2.2.2.2.1, σ.2.2.2.2.2))] else none
    | _, _ => none)
  | _ => none
def xr_hkP : xk_Hk := fun pc σ => if Nat.beq pc 73 || Nat.beq pc 85 then xr_sp pc σ else if Nat.beq pc 109 then xr_cp σ else none
section XR
variable {p : Program} {l : Launch} {e : Env} {R : Room} {s : State} {m : MethodId} {args : Array Value} {below : List Frame} {meth : Method} {c : Code} {Q : State → Prop} {D : va_G} {A : Nat → Prop} {b : xk_b}
theorem xr_HKL (F : xk_Fx p s m args c D A RX6 cX6_lacks 3) (pc : Nat) (σ : xk_S) (l2 : List (Nat × xk_S)) (hk : xr_hkL pc σ = some l2) (kk : ∀ q ∈ l2, xk_G p l e R s m args below meth c Q b 3 D A q.1 q.2) : xk_G p l e R s m args below meth c Q b 3 D A pc σ := by
  obtain ⟨hx, hb, -⟩ := F
  obtain ⟨iv, lo, st, hp, kc, ks⟩ := σ
  unfold xr_hkL at hk
  split at hk
  · rename_i hpc
    have hpc := Nat.eq_of_beq_eq_true hpc
    subst hpc
    split at hk
    · rename_i n L i est
      have est : st = [(0, n), L, (0, i)] := est
      subst est
      split at hk
      · rename_i hcond
        obtain ⟨d1, d2, d3, d4, d5⟩ := hcond
        cases hk
        have d2 : 0 ≤ (xk_iv iv L).1 := d2
        have d3 : (xk_iv iv L).2 ≤ 60 := d3
        have d4 : 0 ≤ (xk_iv iv (0, n)).1 := d4
        intro env ad H locs ls sv h
        obtain ⟨xn, r1, rfl, hn, h1⟩ := xk_popI h rfl
        obtain ⟨xL, r2, rfl, hL, h2⟩ := xk_popI h1 d1
        have bn : (xk_iv iv (0, n)).1 ≤ xn.toInt ∧ xn.toInt ≤ (xk_iv iv (0, n)).2 := xk_iv_ok h.1 hn
        have bL : (xk_iv iv L).1 ≤ xL.toInt ∧ xL.toInt ≤ (xk_iv iv L).2 := xk_iv_ok h.1 hL
        obtain ⟨v, r3, e3, ⟨xi, e4, hi⟩, -⟩ := xk_r2_cons h2.2.2.1
        have hn : env[n.toNat]? = some xn.toInt := hn
        have hi : env[i.toNat]? = some xi.toInt := hi
        have hsum := xr_has8 h.1 hi hn d5
        have k1 := Int32.toInt_lt xn
        have hval : (xL - xn).toInt = xL.toInt - xn.toInt := by
          rw [Int32.toInt_sub]
          exact xk_bm (by omega) (by omega)
        have hlen : env.length = iv.1.length := h.1.1
        have hok1 := xk_ok_app (n := (xL - xn).toInt) (q := xk_full) h.1 (xk_full_ok _).1 (xk_full_ok _).2
        have hwi : (env ++ [(xL - xn).toInt])[iv.1.length]? = some (xL - xn).toInt := by rw [← hlen]; simp
        have hws := xk_ga (m := [(xL - xn).toInt]) hi
        have hok : xk_ok (env ++ [(xL - xn).toInt]) (iv.1 ++ [xk_full], (iv.1.length, i.toNat, -1) :: iv.2) := by
          refine ⟨hok1.1, hok1.2.1, fun r hr => ?_⟩
          rcases List.mem_cons.mp hr with rfl | hr
          · refine ⟨(List.getElem?_eq_some_iff.mp hwi).1, (List.getElem?_eq_some_iff.mp hws).1, fun u w hu hw => ?_, fun z => absurd z xk_nbm⟩
            have hu : (env ++ [(xL - xn).toInt])[iv.1.length]? = some u := hu
            have hw : (env ++ [(xL - xn).toInt])[i.toNat]? = some w := hw
            rw [hwi] at hu
            rw [hws] at hw
            have q1 := Option.some.inj hu
            have q2 := Option.some.inj hw
            show u ≤ w + -1
            omega
          · exact hok1.2.2 r hr
        refine lv_isub hx hb (by decide +kernel) (kk _ List.mem_cons_self _ _ _ _ _ _ (xk_push (xk_grow [(xL - xn).toInt] h2 hok) ⟨_, rfl, ?_⟩))
        show (env ++ [_])[((iv.1.length : Nat) : Int).toNat]? = _
        rw [Int.toNat_natCast, hwi]
      · cases hk
    · cases hk
  · cases hk
theorem xr_sp_ok {nL pc : Nat} {σ : xk_S} {l2 : List (Nat × xk_S)} (hk : xr_sp pc σ = some l2) (kk : ∀ q ∈ l2, xk_G p l e R s m args below meth c Q b nL D A q.1 q.2) : xk_G p l e R s m args below meth c Q b nL D A pc σ := by
  obtain ⟨iv, lo, st, hp, kc, ks⟩ := σ
  unfold xr_sp at hk
  split at hk
  · rename_i n i q est
    have est : st = [(0, n), (0, i), (2, q)] := est
    subst est
    split at hk
    · rename_i hcond
      obtain ⟨d1, d2, d3, d4, d5, d6, -⟩ := hcond
      cases hk
      have d3 : -2147483648 ≤ (xk_iv iv (0, i)).1 := d3
      have d4 : (xk_iv iv (0, i)).2 ≤ 2147483647 := d4
      have d5 : -2147483648 ≤ (xk_iv iv (0, n)).1 := d5
      have d6 : (xk_iv iv (0, n)).2 ≤ 2147483647 := d6
      intro env ad H locs ls sv h
      obtain ⟨v1, r1, e1, ⟨xn, f1, hn⟩, hr1⟩ := xk_r2_cons h.2.2.1
      obtain ⟨v2, r2, e2, ⟨xi, f2, hi⟩, hr2⟩ := xk_r2_cons hr1
      have hn : env[n.toNat]? = some xn.toInt := hn
      have hi : env[i.toNat]? = some xi.toInt := hi
      have nn : xk_n env (0, n) xn.toInt := hn
      have ni : xk_n env (0, i) xi.toInt := hi
      have bn : (xk_iv iv (0, n)).1 ≤ xn.toInt ∧ xn.toInt ≤ (xk_iv iv (0, n)).2 := xk_iv_ok h.1 nn
      have bi : (xk_iv iv (0, i)).1 ≤ xi.toInt ∧ xi.toInt ≤ (xk_iv iv (0, i)).2 := xk_iv_ok h.1 ni
      have hbig : xi.toInt ≤ xn.toInt + xk_big := by unfold xk_big; omega
      have hl0 : 0 < env.length := by have := (List.getElem?_eq_some_iff.mp hn).1; omega
      by_cases hA : xi.toInt ≤ -1
      · obtain ⟨N1, g1, g2⟩ := xk_le_ok (c := (5, -1)) (y := -1) (k := 0) h.1 ni rfl (by omega)
        refine kk (pc, (N1, lo, [(0, n), (0, i), (2, q)], hp, kc, ks)) ?_ _ _ _ _ _ _ (xk_bnd h g2)
        rw [show xk_le (iv, lo, [(0, n), (0, i), (2, q)], hp, kc, ks).1 (0, i) (5, -1) 0 = some N1 from g1]
        exact List.mem_append_left _ List.mem_cons_self
      · by_cases hB : xn.toInt ≤ -1
        · obtain ⟨N1, g1, g2⟩ := xk_le_ok (c := (5, -1)) (y := -1) (k := 0) h.1 nn rfl (by omega)
          refine kk (pc, (N1, lo, [(0, n), (0, i), (2, q)], hp, kc, ks)) ?_ _ _ _ _ _ _ (xk_bnd h g2)
          rw [show xk_le (iv, lo, [(0, n), (0, i), (2, q)], hp, kc, ks).1 (0, n) (5, -1) 0 = some N1 from g1]
          exact List.mem_append_right _ (List.mem_append_left _ List.mem_cons_self)
        · obtain ⟨N1, g1, g2⟩ := xk_le_ok (a := (5, 0)) (c := (0, i)) (x := 0) (k := 0) h.1 rfl ni (by omega)
          obtain ⟨N2, g3, g4⟩ := xk_le_ok (a := (5, 0)) (c := (0, n)) (x := 0) (k := 0) g2 rfl nn (by omega)
          by_cases hC : 61 ≤ xi.toInt + xn.toInt
          · have hok := xr_add (k := xr_f8) g4 hi hn xr_big8 hbig (by rw [xr_dec8]; intro j hj; simp only [List.mem_cons, List.not_mem_nil, or_false] at hj; rcases hj with rfl | rfl | rfl <;> exact hl0) (by rw [xr_dec8]; exact hC)
            refine kk (pc, ((N2.1, (i.toNat, n.toNat, xr_f8) :: N2.2), lo, [(0, n), (0, i), (2, q)], hp, kc, ks)) ?_ _ _ _ _ _ _ (xk_bnd h hok)
            rw [show xk_le (iv, lo, [(0, n), (0, i), (2, q)], hp, kc, ks).1 (5, 0) (0, i) 0 = some N1 from g1]
            refine List.mem_append_right _ (List.mem_append_right _ ?_)
            dsimp only
            rw [g3]
            exact List.mem_cons_self
          · have hok := xr_add (k := xq_fact) g4 hi hn xq_bigl hbig (by rw [xq_dec]; intro j hj; simp only [List.mem_cons, List.not_mem_nil, or_false] at hj; rcases hj with rfl | rfl | rfl <;> exact hl0) (by rw [xq_dec]; show xi.toInt + xn.toInt ≤ ((60 : Nat) : Int); omega)
            refine kk (pc, ((N2.1, (i.toNat, n.toNat, xq_fact) :: N2.2), lo, [(0, n), (0, i), (2, q)], hp, kc, ks)) ?_ _ _ _ _ _ _ (xk_bnd h hok)
            rw [show xk_le (iv, lo, [(0, n), (0, i), (2, q)], hp, kc, ks).1 (5, 0) (0, i) 0 = some N1 from g1]
            refine List.mem_append_right _ (List.mem_append_right _ ?_)
            dsimp only
            rw [g3]
            exact List.mem_cons_of_mem _ List.mem_cons_self
    · cases hk
  · cases hk
theorem xr_cp_ok {nL : Nat} {own : String} {cc : ByteArray} {idx : Nat} (F : xk_Fx p s m args c D A own cc nL) (hlink : Cond.methodLink own idx arraycopyName ∈ xk_tb) (GK : xk_GOK) (hfr : 1 ≤ R.frames) (hlo : 100 ≤ R.locals) (hd : decode cc 109 = .ok (.invokestatic idx, 3)) {σ : xk_S} {l2 : List (Nat × xk_S)} (hk : xr_cp σ = some l2) (kk : ∀ q ∈ l2, xk_G p l e R s m args below meth c Q b nL D A q.1 q.2) : xk_G p l e R s m args below meth c Q b nL D A 109 σ := by
  obtain ⟨iv, lo, st, hp, kc, ks⟩ := σ
  unfold xr_cp at hk
  split at hk
  · rename_i n k q1 i q0 est
    have est : st = [(0, n), (0, k), (2, q1), (0, i), (2, q0)] := est
    subst est
    split at hk
    · rename_i fs0 fs1 hc0 hc1
      have hc0 : hp[q0.toNat]? = some (2, 3, fs0, 60, (-9223372036854775808, 9223372036854775807), []) := hc0
      have hc1 : hp[q1.toNat]? = some (2, 3, fs1, 60, (-9223372036854775808, 9223372036854775807), []) := hc1
      split at hk
      · rename_i hcond
        obtain ⟨d1, d2, d3, d4, d5⟩ := hcond
        cases hk
        have d1 : 0 ≤ (xk_iv iv (0, i)).1 := d1
        have d2 : 0 ≤ (xk_iv iv (0, k)).1 := d2
        have d3 : 0 ≤ (xk_iv iv (0, n)).1 := d3
        intro env ad H locs ls sv h
        obtain ⟨x, r1, rfl, hx0, h0⟩ := xk_popI h rfl
        obtain ⟨dp, r2, rfl, hdp, h0⟩ := xk_popI h0 rfl
        obtain ⟨a1, r3, rfl, ha1, h0⟩ := xk_popR h0
        obtain ⟨sp, r4, rfl, hsp, h0⟩ := xk_popI h0 rfl
        obtain ⟨a0, r5, rfl, ha0, h0⟩ := xk_popR h0
        have bn : (xk_iv iv (0, n)).1 ≤ x.toInt ∧ x.toInt ≤ (xk_iv iv (0, n)).2 := xk_iv_ok h.1 hx0
        have bk : (xk_iv iv (0, k)).1 ≤ dp.toInt ∧ dp.toInt ≤ (xk_iv iv (0, k)).2 := xk_iv_ok h.1 hdp
        have bi : (xk_iv iv (0, i)).1 ≤ sp.toInt ∧ sp.toInt ≤ (xk_iv iv (0, i)).2 := xk_iv_ok h.1 hsp
        have s1 := xr_has1 h.1 (show env[i.toNat]? = some sp.toInt from hsp) (show env[n.toNat]? = some x.toInt from hx0) d4
        have s2 := xr_has1 h.1 (show env[k.toNat]? = some dp.toInt from hdp) (show env[n.toNat]? = some x.toInt from hx0) d5
        obtain ⟨ws, ev, h1, h2, hP, hD, hS, hw, cA, f, he, har, hel⟩ := xk_cell h0 ha0 hc0
        obtain ⟨w1, hw1, cB, g, he1, har1, hel1⟩ := xk_r2_get q1.toNat h2 hc1
        have h6 : w1.1 = a1 := by
          rw [← h1, List.getElem?_map, hw1] at ha1
          exact Option.some.inj ha1
        obtain ⟨a1', e1⟩ := w1
        have h6' : a1 = a1' := Eq.symm h6
        subst h6'
        cases he1
        cases he
        obtain ⟨hx, hb, hml, hown, hts, hK, hA⟩ := F
        obtain ⟨-, ⟨lvs, hl, -⟩, hst, -⟩ := id h0
        have hnil : r5 = [] := xk_r2_nil hst
        subst hnil
        have hcB : cB = cA := xk_RA_eq har1 har
        subst hcB
        have c1 : x.toNatClampNeg = x.toInt.toNat := rfl
        have c2 : dp.toNatClampNeg = dp.toInt.toNat := rfl
        have c3 : sp.toNatClampNeg = sp.toInt.toNat := rfl
        refine va_copyl (ty := .long) hx hb (by rw [hml]; exact Eq.symm hl.1) hown (hts _ hlink) (hts _ GK.2.2.1) (hts _ GK.2.2.2.1) (hts _ GK.2.2.2.2.1) (xk_K1 hK har) hP hD hS q0.toNat q1.toNat 0 0 hw hw1 rfl rfl rfl (by rw [Int32.lt_iff_toInt_lt, Int32.toInt_zero]; omega) (by rw [Int32.lt_iff_toInt_lt, Int32.toInt_zero]; omega) (by rw [Int32.lt_iff_toInt_lt, Int32.toInt_zero]; omega) (by rw [c1, c3]; show _ ≤ 60; omega) (by rw [c1, c2]; show _ ≤ 60; omega) (fun _ _ => rfl) hfr (Nat.le_trans (by decide) hlo) hd (fun H1 locs1 p1 p2 p3 => kk _ List.mem_cons_self _ _ _ _ _ _ (xk_wr h0 h1 h2 hw1 ⟨cB, _, rfl, har1, ?_⟩ p1 p2 p3))
        intro j hj
        exact xk_fulL_ok _
      · cases hk
    · cases hk
  · cases hk
theorem xr_HKP (F : xk_Fx p s m args c D A RX9 cX9_paste 8) (hlink : Cond.methodLink RX9 397 arraycopyName ∈ xk_tb) (GK : xk_GOK) (hfr : 1 ≤ R.frames) (hlo : 100 ≤ R.locals) (pc : Nat) (σ : xk_S) (l2 : List (Nat × xk_S)) (hk : xr_hkP pc σ = some l2) (kk : ∀ q ∈ l2, xk_G p l e R s m args below meth c Q b 8 D A q.1 q.2) : xk_G p l e R s m args below meth c Q b 8 D A pc σ := by
  unfold xr_hkP at hk
  split at hk
  · exact xr_sp_ok hk kk
  · split at hk
    · rename_i hpc
      have hpc := Nat.eq_of_beq_eq_true hpc
      subst hpc
      exact xr_cp_ok F hlink GK hfr hlo (by decide +kernel) hk kk
    · cases hk
end XR

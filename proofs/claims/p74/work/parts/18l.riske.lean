/-! risk's steps by hand, the rest: facts with further numbers -/
def xe_e (id e0 e1 e2 : Nat) : Int := xk_big + ((id + 100 * e0 + 100000 * e1 + 100000000 * e2 : Nat) : Int)
theorem xe_dec {id e0 e1 e2 : Nat} (h : id < 100) (h0 : e0 < 1000) (h1 : e1 < 1000) (h2 : e2 < 1000) : xk_dec (xe_e id e0 e1 e2) = (id, [e0, e1, e2], 0) := by
  unfold xk_dec xe_e
  have e : (xk_big + ((id + 100 * e0 + 100000 * e1 + 100000000 * e2 : Nat) : Int) - xk_big).toNat = id + 100 * e0 + 100000 * e1 + 100000000 * e2 := by omega
  rw [e, show (id + 100 * e0 + 100000 * e1 + 100000000 * e2) % 100 = id by omega, show (id + 100 * e0 + 100000 * e1 + 100000000 * e2) / 100 % 1000 = e0 by omega, show (id + 100 * e0 + 100000 * e1 + 100000000 * e2) / 100000 % 1000 = e1 by omega, show (id + 100 * e0 + 100000 * e1 + 100000000 * e2) / 100000000 % 1000 = e2 by omega, show (id + 100 * e0 + 100000 * e1 + 100000000 * e2) / 100000000000 = 0 by omega]
theorem xe_bige {id e0 e1 e2 : Nat} : xk_big ≤ xe_e id e0 e1 e2 := by unfold xe_e; omega
theorem xe_rel {env : List Int} {iv : xk_N} {i j : Nat} {k x y : Int} (h : xk_ok env iv) (hx : env[i]? = some x) (hy : env[j]? = some y) (hk : x ≤ y + k) (hb : k < xk_big) : xk_ok env (iv.1, (i, j, k) :: iv.2) := by
  refine ⟨h.1, h.2.1, fun r hr => ?_⟩
  rcases List.mem_cons.mp hr with rfl | hr
  · refine ⟨(List.getElem?_eq_some_iff.mp hx).1, (List.getElem?_eq_some_iff.mp hy).1, fun u v hu hv => ?_, fun hq => ?_⟩
    · have hu : env[i]? = some u := hu
      have hv : env[j]? = some v := hv
      rw [hx] at hu
      rw [hy] at hv
      cases hu
      cases hv
      exact hk
    · have hq : xk_big ≤ k := hq
      omega
  · exact h.2.2 r hr
theorem xe_gd {env : List Int} {i : Nat} {x : Int} (h : env[i]? = some x) : env.getD i 0 = x := by
  rw [List.getD_eq_getElem?_getD, h]
  rfl
theorem xe_last {env : List Int} {n : Nat} {z : Int} (h : env.length = n) : (env ++ [z])[n]? = some z := by
  rw [← h]
  simp
/-- a fact with three further numbers, told of numbers that are there -/
theorem xe_add {env : List Int} {iv : xk_N} {i n id e0 e1 e2 : Nat} {x y v0 v1 v2 : Int} (h : xk_ok env iv) (hx : env[i]? = some x) (hy : env[n]? = some y) (g0 : env[e0]? = some v0) (g1 : env[e1]? = some v1) (g2 : env[e2]? = some v2) (hid : id < 100) (he0 : e0 < 1000) (he1 : e1 < 1000) (he2 : e2 < 1000) (hxy : x ≤ y + xk_big) (hf : xk_fa id x y [v0, v1, v2] 0) : xk_ok env (iv.1, (i, n, xe_e id e0 e1 e2) :: iv.2) := by
  have hd := xe_dec (id := id) (e0 := e0) (e1 := e1) (e2 := e2) hid he0 he1 he2
  refine xr_add (k := xe_e id e0 e1 e2) h hx hy xe_bige hxy ?_ ?_
  · rw [hd]
    intro j hj
    simp only [List.mem_cons, List.not_mem_nil, or_false] at hj
    rcases hj with rfl | rfl | rfl
    · exact (List.getElem?_eq_some_iff.mp g0).1
    · exact (List.getElem?_eq_some_iff.mp g1).1
    · exact (List.getElem?_eq_some_iff.mp g2).1
  · rw [hd]
    show xk_fa id x y [env.getD e0 0, env.getD e1 0, env.getD e2 0] 0
    rw [xe_gd g0, xe_gd g1, xe_gd g2]
    exact hf
theorem xe_get {env : List Int} {iv : xk_N} {i n : Int} {id e0 e1 e2 : Nat} {x y v0 v1 v2 : Int} (h : xk_ok env iv) (hx : env[i.toNat]? = some x) (hy : env[n.toNat]? = some y) (g0 : env[e0]? = some v0) (g1 : env[e1]? = some v1) (g2 : env[e2]? = some v2) (hid : id < 100) (he0 : e0 < 1000) (he1 : e1 < 1000) (he2 : e2 < 1000) (hh : xr_has iv i n (xe_e id e0 e1 e2) = true) : xk_fa id x y [v0, v1, v2] 0 := by
  have f := xn_get (k := xe_e id e0 e1 e2) h hx hy xe_bige hh
  rw [xe_dec hid he0 he1 he2] at f
  have f : xk_fa id x y [env.getD e0 0, env.getD e1 0, env.getD e2 0] 0 := f
  rw [xe_gd g0, xe_gd g1, xe_gd g2] at f
  exact f
def xe_49 (σ : xk_S) : Option (List (Nat × xk_S)) := match σ.2.2.1 with
  | (0, u) :: st => if σ.2.2.2.2.1 = 0 ∧ σ.2.2.2.2.2 = 0 ∧ u.toNat < σ.1.1.length ∧ 0 ≤ (xk_iv σ.1 (0, u)).1 ∧ (xk_iv σ.1 (0, u)).2 ≤ 511 ∧ (st.map xk_cat).sum ≤ 8 then some [(52, ((σ.1.1 ++ [(0, 9)], (σ.1.1.length, u.toNat, xk_big + 11) :: σ.1.2), σ.2.1, (0, (σ.1.1.length : Int)) :: st, σ.2.2.2.1, σ.2.2.2.2.1, σ.2.2.2.2.2))] else none
  | _ => none
def xe_55 (σ : xk_S) : Option (List (Nat × xk_S)) := match σ.2.2.1 with
  | (1, n) :: (1, r) :: st => (match σ.1.2.find? (fun q => Nat.beq q.1 r.toNat && (decide (q.2.2 = xk_big + 11) && (decide (1 ≤ (xk_iv σ.1 (0, (q.2.1 : Int))).1) && decide ((xk_iv σ.1 (0, (q.2.1 : Int))).2 ≤ 511)))) with
    | some q => if n.toNat < σ.1.1.length ∧ r.toNat < σ.1.1.length ∧ 1 ≤ (xk_iv σ.1 (1, n)).1 ∧ (xk_iv σ.1 (1, n)).2 ≤ 2147483647 ∧ 0 ≤ (xk_iv σ.1 (1, r)).1 ∧ (xk_iv σ.1 (1, r)).2 ≤ 9 then some ((match xk_set σ.1 (1, n) ((xk_iv σ.1 (1, n)).1, min (xk_iv σ.1 (1, n)).2 9) with
      | some N1 => [(56, ((N1.1 ++ [(0, 9)], (q.2.1, n.toNat, xk_big + 9) :: N1.2), σ.2.1, (1, (N1.1.length : Int)) :: st, σ.2.2.2.1, σ.2.2.2.2.1, σ.2.2.2.2.2))]
      | none => []) ++ [(56, ((σ.1.1 ++ [(10, 19327352832)], σ.1.2), σ.2.1, (1, (σ.1.1.length : Int)) :: st, σ.2.2.2.1, σ.2.2.2.2.1, σ.2.2.2.2.2))]) else none
    | none => none)
  | _ => none
def xe_67 (σ : xk_S) : Option (List (Nat × xk_S)) := match σ.2.2.1, xk_ov σ.2.1 4, xk_ov σ.2.1 2 with
  | [], some (0, u), some (0, n) => if σ.1.1.length < 998 ∧ u.toNat < σ.1.1.length ∧ n.toNat < σ.1.1.length ∧ 1 ≤ (xk_iv σ.1 (0, u)).1 ∧ 1 ≤ (xk_iv σ.1 (0, n)).1 ∧ xr_has σ.1 u n (xk_big + 9) = true then some [(76, (((σ.1.1 ++ [(1, 1000000000000000000)]) ++ [(0, 9)], (σ.1.1.length, u.toNat, xe_e 12 (σ.1.1.length + 1) n.toNat 0) :: σ.1.2), (9, (0, ((σ.1.1.length + 1 : Nat) : Int))) :: ((7, (6, 1)) :: ((5, (1, (σ.1.1.length : Int))) :: σ.2.1.filter (xk_f2 5)).filter (xk_f2 7)).filter (xk_f1 9), [], σ.2.2.2.1, σ.2.2.2.2.1, σ.2.2.2.2.2))] else none
  | _, _, _ => none
def xe_87 (σ : xk_S) : Option (List (Nat × xk_S)) := match σ.2.2.1, xk_ov σ.2.1 4, xk_ov σ.2.1 2, xk_ov σ.2.1 9, xk_ov σ.2.1 5 with
  | [], some (0, u), some (0, n), some (0, cv), some (1, al) => if σ.1.1.length < 998 ∧ u.toNat < σ.1.1.length ∧ n.toNat < σ.1.1.length ∧ cv.toNat < σ.1.1.length ∧ al.toNat < σ.1.1.length ∧ 0 ≤ (xk_iv σ.1 (0, u)).1 ∧ (xk_iv σ.1 (1, al)).2 ≤ 1000000000000000000 ∧ xr_has σ.1 al u (xe_e 12 cv.toNat n.toNat 0) = true then some [(90, ((σ.1.1 ++ [(0, 9)], (al.toNat, u.toNat, xe_e 6 cv.toNat n.toNat σ.1.1.length) :: σ.1.2), (10, (0, (σ.1.1.length : Int))) :: σ.2.1.filter (xk_f1 10), [], σ.2.2.2.1, σ.2.2.2.2.1, σ.2.2.2.2.2))] else none
  | _, _, _, _, _ => none
def xe_106 (σ : xk_S) : Option (List (Nat × xk_S)) := match σ.2.2.1, xk_ov σ.2.1 4, xk_ov σ.2.1 2, xk_ov σ.2.1 9, xk_ov σ.2.1 10, xk_ov σ.2.1 5 with
  | [], some (0, u), some (0, n), some (0, cv), some (0, k), some (1, al) => if σ.1.1.length < 998 ∧ u.toNat < σ.1.1.length ∧ n.toNat < σ.1.1.length ∧ cv.toNat < σ.1.1.length ∧ k.toNat < σ.1.1.length ∧ al.toNat < σ.1.1.length ∧ 0 ≤ (xk_iv σ.1 (0, cv)).1 ∧ (xk_iv σ.1 (0, cv)).2 ≤ 8 ∧ 0 ≤ (xk_iv σ.1 (0, u)).1 ∧ xr_has σ.1 al u (xe_e 6 cv.toNat n.toNat k.toNat) = true ∧ xr_has σ.1 cv u (xk_big + 13) = true ∧ xk_ent 5 σ.1 (0, k) (0, n) (-1) = true then some [(114, ((σ.1.1 ++ [(1, 1000000000000000000)], (σ.1.1.length, u.toNat, xe_e 14 cv.toNat n.toNat k.toNat) :: σ.1.2), (5, (1, (σ.1.1.length : Int))) :: σ.2.1.filter (xk_f2 5), [], σ.2.2.2.1, σ.2.2.2.2.1, σ.2.2.2.2.2))] else none
  | _, _, _, _, _, _ => none
def xe_131 (σ : xk_S) : Option (List (Nat × xk_S)) := match σ.2.2.1, xk_ov σ.2.1 4, xk_ov σ.2.1 2, xk_ov σ.2.1 9, xk_ov σ.2.1 10, xk_ov σ.2.1 5 with
  | [], some (0, u), some (0, n), some (0, cv), some (0, k), some (1, al) => if σ.1.1.length < 998 ∧ u.toNat < σ.1.1.length ∧ n.toNat < σ.1.1.length ∧ cv.toNat < σ.1.1.length ∧ k.toNat < σ.1.1.length ∧ al.toNat < σ.1.1.length ∧ 0 ≤ (xk_iv σ.1 (0, k)).1 ∧ (xk_iv σ.1 (0, k)).2 ≤ 9 ∧ 1 ≤ (xk_iv σ.1 (0, n)).1 ∧ (xk_iv σ.1 (0, n)).2 ≤ 9 ∧ 0 ≤ (xk_iv σ.1 (0, u)).1 ∧ (xk_iv σ.1 (1, al)).2 ≤ 1000000000000000000 ∧ xr_has σ.1 al u (xe_e 14 cv.toNat n.toNat k.toNat) = true then some [(90, ((σ.1.1 ++ [(0, 9)], (al.toNat, u.toNat, xe_e 6 cv.toNat n.toNat σ.1.1.length) :: (σ.1.1.length, k.toNat, 1) :: (k.toNat, σ.1.1.length, -1) :: σ.1.2), (10, (0, (σ.1.1.length : Int))) :: σ.2.1.filter (xk_f1 10), [], σ.2.2.2.1, σ.2.2.2.2.1, σ.2.2.2.2.2))] else none
  | _, _, _, _, _, _ => none
def xe_137 (σ : xk_S) : Option (List (Nat × xk_S)) := match σ.2.2.1, xk_ov σ.2.1 4, xk_ov σ.2.1 2, xk_ov σ.2.1 9, xk_ov σ.2.1 10, xk_ov σ.2.1 5 with
  | [], some (0, u), some (0, n), some (0, cv), some (0, k), some (1, al) => if σ.1.1.length < 998 ∧ u.toNat < σ.1.1.length ∧ n.toNat < σ.1.1.length ∧ cv.toNat < σ.1.1.length ∧ k.toNat < σ.1.1.length ∧ al.toNat < σ.1.1.length ∧ 0 ≤ (xk_iv σ.1 (0, cv)).1 ∧ (xk_iv σ.1 (0, cv)).2 ≤ 8 ∧ 0 ≤ (xk_iv σ.1 (0, u)).1 ∧ (xk_iv σ.1 (1, al)).2 ≤ 1000000000000000000 ∧ xr_has σ.1 al u (xe_e 6 cv.toNat n.toNat k.toNat) = true ∧ (xr_has σ.1 cv u (xk_big + 5) = true ∨ xk_ent 5 σ.1 (0, n) (0, k) 0 = true) then some [(76, ((σ.1.1 ++ [(0, 9)], (al.toNat, u.toNat, xe_e 12 σ.1.1.length n.toNat 0) :: (σ.1.1.length, cv.toNat, 1) :: (cv.toNat, σ.1.1.length, -1) :: σ.1.2), (9, (0, (σ.1.1.length : Int))) :: σ.2.1.filter (xk_f1 9), [], σ.2.2.2.1, σ.2.2.2.2.1, σ.2.2.2.2.2))] else none
  | _, _, _, _, _, _ => none
def xe_hk : xk_Hk := fun pc σ => if Nat.beq pc 49 then xe_49 σ else if Nat.beq pc 55 then xe_55 σ else if Nat.beq pc 67 then xe_67 σ else if Nat.beq pc 87 then xe_87 σ else if Nat.beq pc 100 then xe_100 σ else if Nat.beq pc 106 then xe_106 σ else if Nat.beq pc 131 then xe_131 σ else if Nat.beq pc 137 then xe_137 σ else none
theorem xe_d9 : xk_dec (xk_big + 9) = (9, [0, 0, 0], 0) := by decide +kernel
theorem xe_d11 : xk_dec (xk_big + 11) = (11, [0, 0, 0], 0) := by decide +kernel
theorem xe_inc {x : Int32} (h0 : 0 ≤ x.toInt) (h1 : x.toInt ≤ 1000) : (x + Int32.ofInt 1).toInt = x.toInt + 1 := by
  have e0 : (Int32.ofInt 1).toInt = 1 := by decide
  rw [Int32.toInt_add, e0]
  exact xk_bm (by omega) (by omega)
theorem xe_mulL {x y : Int64} (h1 : 0 ≤ x.toInt) (h2 : x.toInt ≤ 9) (h3 : 0 ≤ y.toInt) (h4 : y.toInt ≤ 2147483647) : (x * y).toInt = x.toInt * y.toInt ∧ 0 ≤ x.toInt * y.toInt ∧ x.toInt * y.toInt ≤ 19327352832 := by
  have h5 : 0 ≤ x.toInt * y.toInt := Int.mul_nonneg h1 h3
  have h6 : x.toInt * y.toInt ≤ 9 * 2147483647 := Int.mul_le_mul h2 h4 h3 (by decide)
  refine ⟨?_, h5, by omega⟩
  rw [Int64.toInt_mul]
  exact xk_bmL (by omega) (by omega)
theorem xe_m100 {x : Int64} (h1 : 0 ≤ x.toInt) (h2 : x.toInt * 100 ≤ 1000000000000000000) : (x * Int64.ofInt 100).toInt = x.toInt * 100 := by
  have e0 : (Int64.ofInt 100).toInt = 100 := by decide
  rw [Int64.toInt_mul, e0]
  exact xk_bmL (by omega) (by omega)
/-- a number that the bits of a set bound -/
theorem xe_bound {u c n k : Nat} (hc : c ≤ 8) (hb : u.testBit c = true) (h9 : xf_cnt u 9 * n ≤ 9) (hk : k + 1 ≤ n) : xf_cnt u c * n + k + 1 ≤ 9 := by
  have h1 := xe_succ u c
  rw [if_pos hb] at h1
  have h2 := xe_mono u (c + 1) (8 - c)
  rw [show c + 1 + (8 - c) = 9 by omega, h1] at h2
  have h3 : (xf_cnt u c + 1) * n ≤ xf_cnt u 9 * n := Nat.mul_le_mul_right n h2
  rw [Nat.add_mul] at h3
  omega
theorem xe_es {a b c d e f : Int} (h : [a, b, c] = [d, e, f]) : a = d ∧ b = e ∧ c = f := by
  cases h
  exact ⟨rfl, rfl, rfl⟩
section XE2
variable {p : Program} {l : Launch} {e : Env} {R : Room} {s : State} {m : MethodId} {args : Array Value} {below : List Frame} {meth : Method} {c : Code} {Q : State → Prop} {D : va_G} {A : Nat → Prop} {b : xk_b}
theorem xe_49_ok {e0 : List Int} {a0 : List Nat} {oq : xk_O} {nL : Nat} {cc : ByteArray} (F : xk_Fx p s m args c D A RX10 cc nL) (SU : xk_SUH oq A s s.heap) (hR : xk_RnP l D RX10 cc nL R 49 xz_K xz_Φ) {σ : xk_S} {l2 : List (Nat × xk_S)} (hk : xe_49 σ = some l2) (kk : ∀ q ∈ l2, xk_G p l e R s m args below meth c Q (0, e0, a0, oq) nL D A q.1 q.2) : xk_G p l e R s m args below meth c Q (0, e0, a0, oq) nL D A 49 σ := by
  obtain ⟨iv, lo, st, hp, kc, ks⟩ := σ
  unfold xe_49 at hk
  split at hk
  · rename_i u st' est
    have est : st = (0, u) :: st' := est
    subst est
    split at hk
    · rename_i hcond
      obtain ⟨z1, z2, d1, d2, d3, d4⟩ := hcond
      cases hk
      have z1 : kc = 0 := z1
      have z2 : ks = 0 := z2
      subst z1
      subst z2
      have d2 : 0 ≤ (xk_iv iv (0, u)).1 := d2
      have d3 : (xk_iv iv (0, u)).2 ≤ 511 := d3
      refine xz_call (bv := (0, u)) F SU hR (Or.inr ⟨rfl, d1⟩) d2 d3 d4 (Nat.zero_le _) (Nat.zero_le _) ?_
      intro env ad H locs ls sv x r h h0 hnx hr
      have bx : (xk_iv iv (0, u)).1 ≤ x ∧ x ≤ (xk_iv iv (0, u)).2 := xk_iv_ok h0 hnx
      have hx : env[u.toNat]? = some x := hnx
      have hlen : env.length = iv.1.length := h0.1
      have c9 := xn_nine x.toNat (by omega)
      have hok := xr_add (i := iv.1.length) (n := u.toNat) (k := xk_big + 11) h.1 (xe_last hlen) (xk_ga hx) (by omega) (by unfold xk_big; omega) (by rw [xe_d11]; intro j hj; simp only [List.mem_cons, List.not_mem_nil, or_false] at hj; rcases hj with rfl | rfl | rfl <;> simp) (by rw [xe_d11]; exact hr)
      refine kk _ List.mem_cons_self _ _ _ _ _ _ (xk_push (av := (0, (iv.1.length : Int))) (v := .int (Int32.ofInt r)) (xk_bnd h hok) ⟨_, rfl, ?_⟩)
      show (env ++ [r])[((iv.1.length : Nat) : Int).toNat]? = _
      rw [Int.toNat_natCast, xe_last hlen, Int32.toInt_ofInt]
      rw [xk_bm (by omega) (by omega)]
    · cases hk
  · cases hk
theorem xe_55_ok (F : xk_Fx p s m args c D A RX10 cX10_risk 11) {σ : xk_S} {l2 : List (Nat × xk_S)} (hk : xe_55 σ = some l2) (kk : ∀ q ∈ l2, xk_G p l e R s m args below meth c Q b 11 D A q.1 q.2) : xk_G p l e R s m args below meth c Q b 11 D A 55 σ := by
  obtain ⟨hx, hb, -⟩ := F
  obtain ⟨iv, lo, st, hp, kc, ks⟩ := σ
  unfold xe_55 at hk
  split at hk
  · rename_i n r st' est
    have est : st = (1, n) :: (1, r) :: st' := est
    subst est
    split at hk
    · rename_i q hq
      have hq : iv.2.find? (fun q => Nat.beq q.1 r.toNat && (decide (q.2.2 = xk_big + 11) && (decide (1 ≤ (xk_iv iv (0, (q.2.1 : Int))).1) && decide ((xk_iv iv (0, (q.2.1 : Int))).2 ≤ 511)))) = some q := hq
      split at hk
      · rename_i hcond
        obtain ⟨d1, d2, d3, d4, d5, d6⟩ := hcond
        cases hk
        have d3 : 1 ≤ (xk_iv iv (1, n)).1 := d3
        have d4 : (xk_iv iv (1, n)).2 ≤ 2147483647 := d4
        have d5 : 0 ≤ (xk_iv iv (1, r)).1 := d5
        have d6 : (xk_iv iv (1, r)).2 ≤ 9 := d6
        have hmem := List.mem_of_find?_eq_some hq
        have hp := List.find?_some hq
        simp only [Bool.and_eq_true, decide_eq_true_eq] at hp
        obtain ⟨k1, k2, k3, k4⟩ := hp
        have k1 := Nat.eq_of_beq_eq_true k1
        intro env ad H locs ls sv h
        obtain ⟨y, r1, rfl, ny, h1⟩ := xk_popL h rfl
        obtain ⟨x, rest, rfl, nx, h0⟩ := xk_popL h1 rfl
        have by_ : (xk_iv iv (1, n)).1 ≤ y.toInt ∧ y.toInt ≤ (xk_iv iv (1, n)).2 := xk_iv_ok h.1 ny
        have bx : (xk_iv iv (1, r)).1 ≤ x.toInt ∧ x.toInt ≤ (xk_iv iv (1, r)).2 := xk_iv_ok h.1 nx
        have hlen : env.length = iv.1.length := h.1.1
        have q1 := h.1.2.2 q hmem
        have hf := (q1.2.2.2 (by rw [k2]; omega)).2
        obtain ⟨u, gu⟩ : ∃ u : Int, env[q.2.1]? = some u := ⟨_, List.getElem?_eq_getElem q1.2.1⟩
        have gx : env[q.1]? = some x.toInt := by rw [k1]; exact nx
        have ny' : env[n.toNat]? = some y.toInt := ny
        rw [k2, xe_d11] at hf
        have hf : env.getD q.1 0 = (xf_cnt (env.getD q.2.1 0).toNat 9 : Int) := hf
        rw [xe_gd gx, xe_gd gu] at hf
        have bu : (xk_iv iv (0, (q.2.1 : Int))).1 ≤ u ∧ u ≤ (xk_iv iv (0, (q.2.1 : Int))).2 := xk_iv_ok h.1 (show env[((q.2.1 : Nat) : Int).toNat]? = some u by rw [Int.toNat_natCast]; exact gu)
        have cp := xe_pos u.toNat (by omega) (by omega)
        obtain ⟨m1, m2, m3⟩ := xe_mulL (x := x) (y := y) (by omega) (by omega) (by omega) (by omega)
        refine lv_lmul hx hb (by decide +kernel) ?_
        by_cases h9 : x.toInt * y.toInt ≤ 9
        · have h10 : 1 * y.toInt ≤ x.toInt * y.toInt := Int.mul_le_mul_of_nonneg_right (by omega) (by omega)
          obtain ⟨N1, s1, s2⟩ := xk_set_ok (I := ((xk_iv iv (1, n)).1, min (xk_iv iv (1, n)).2 9)) (av := (1, n)) h.1 ny by_.1 (by show y.toInt ≤ min (xk_iv iv (1, n)).2 9; omega)
          have len1 : env.length = N1.1.length := s2.1
          have hokA := xk_ok_app (n := (x * y).toInt) (q := (0, 9)) s2 (by rw [m1]; exact m2) (by rw [m1]; exact h9)
          have ey : y.toInt = (y.toInt.toNat : Int) := by omega
          have e9 : x.toInt * y.toInt = ((xf_cnt u.toNat 9 * y.toInt.toNat : Nat) : Int) := by
            rw [hf]
            conv => lhs; rw [ey]
            rw [Int.natCast_mul]
          have hok := xr_add (i := q.2.1) (n := n.toNat) (k := xk_big + 9) hokA (xk_ga gu) (xk_ga ny') (by omega) (by unfold xk_big; omega) (by rw [xe_d9]; intro j hj; simp only [List.mem_cons, List.not_mem_nil, or_false] at hj; rcases hj with rfl | rfl | rfl <;> simp) (by
            rw [xe_d9]
            show xf_cnt u.toNat 9 * y.toInt.toNat ≤ 9
            exact Int.ofNat_le.mp (by rw [← e9]; exact h9))
          refine kk (56, ((N1.1 ++ [(0, 9)], (q.2.1, n.toNat, xk_big + 9) :: N1.2), lo, (1, (N1.1.length : Int)) :: st', _, kc, ks)) ?_ _ _ _ _ _ _ (xk_push (xk_grow [(x * y).toInt] h0 hok) ⟨_, rfl, ?_⟩)
          · rw [show xk_set (iv, lo, (1, n) :: (1, r) :: st', _, kc, ks).1 (1, n) ((xk_iv (iv, lo, (1, n) :: (1, r) :: st', _, kc, ks).1 (1, n)).1, min (xk_iv (iv, lo, (1, n) :: (1, r) :: st', _, kc, ks).1 (1, n)).2 9) = some N1 from s1]
            exact List.mem_append_left _ List.mem_cons_self
          · show (env ++ [_])[((N1.1.length : Nat) : Int).toNat]? = _
            rw [Int.toNat_natCast, xe_last len1]
        · have hok := xk_ok_app (n := (x * y).toInt) (q := (10, 19327352832)) h.1 (by rw [m1]; show 10 ≤ _; omega) (by rw [m1]; exact m3)
          refine kk _ (List.mem_append_right _ List.mem_cons_self) _ _ _ _ _ _ (xk_push (xk_grow [(x * y).toInt] h0 hok) ⟨_, rfl, ?_⟩)
          show (env ++ [_])[((iv.1.length : Nat) : Int).toNat]? = _
          rw [Int.toNat_natCast, xe_last hlen]
      · cases hk
    · cases hk
  · cases hk
theorem xe_67_ok (F : xk_Fx p s m args c D A RX10 cX10_risk 11) {σ : xk_S} {l2 : List (Nat × xk_S)} (hk : xe_67 σ = some l2) (kk : ∀ q ∈ l2, xk_G p l e R s m args below meth c Q b 11 D A q.1 q.2) : xk_G p l e R s m args below meth c Q b 11 D A 67 σ := by
  obtain ⟨hx, hb, -⟩ := F
  obtain ⟨iv, lo, st, hp, kc, ks⟩ := σ
  unfold xe_67 at hk
  split at hk
  · rename_i u n est hu hn
    have est : st = [] := est
    subst est
    split at hk
    · rename_i hcond
      obtain ⟨d1, d2, d3, d4, d5, d6⟩ := hcond
      cases hk
      have d1 : iv.1.length < 998 := d1
      have d2 : u.toNat < iv.1.length := d2
      have d3 : n.toNat < iv.1.length := d3
      have d4 : 1 ≤ (xk_iv iv (0, u)).1 := d4
      have d5 : 1 ≤ (xk_iv iv (0, n)).1 := d5
      intro env ad H locs ls sv h
      have hlen : env.length = iv.1.length := h.1.1
      obtain ⟨x, gu⟩ : ∃ x : Int, env[u.toNat]? = some x := ⟨_, List.getElem?_eq_getElem (by omega)⟩
      obtain ⟨y, gn⟩ : ∃ y : Int, env[n.toNat]? = some y := ⟨_, List.getElem?_eq_getElem (by omega)⟩
      obtain ⟨w, g0⟩ : ∃ w : Int, env[0]? = some w := ⟨_, List.getElem?_eq_getElem (by omega)⟩
      have bx : (xk_iv iv (0, u)).1 ≤ x ∧ x ≤ (xk_iv iv (0, u)).2 := xk_iv_ok h.1 (show xk_n env (0, u) _ from gu)
      have by_ : (xk_iv iv (0, n)).1 ≤ y ∧ y ≤ (xk_iv iv (0, n)).2 := xk_iv_ok h.1 (show xk_n env (0, n) _ from gn)
      have f9 := xn_get (k := xk_big + 9) h.1 gu gn (by omega) d6
      rw [xe_d9] at f9
      have f9 : xf_cnt x.toNat 9 * y.toNat ≤ 9 := f9
      have ok1 := xk_ok_app (n := 1) (q := (1, 1000000000000000000)) h.1 (by decide) (by decide)
      have ok2 := xk_ok_app (n := 0) (q := (0, 9)) ok1 (by decide) (by decide)
      have len1 : (env ++ [(1 : Int)]).length = iv.1.length + 1 := by rw [List.length_append, hlen]; rfl
      have ok3 := xe_add (i := iv.1.length) (n := u.toNat) (id := 12) (e0 := iv.1.length + 1) (e1 := n.toNat) (e2 := 0) ok2 (xk_ga (xe_last hlen)) (xk_ga (xk_ga gu)) (xe_last len1) (xk_ga (xk_ga gn)) (xk_ga (xk_ga g0)) (by decide) (by omega) (by omega) (by decide) (by unfold xk_big; omega) ⟨w, y.toNat, 0, by rw [Int.toNat_of_nonneg (by omega)]; rfl, by rw [show xf_cnt x.toNat 0 = 0 from rfl, Nat.zero_mul]; rfl, f9⟩
      have h2 := xk_grow [0] (xk_grow [1] h ok1) ok3
      obtain ⟨lvs1, s1, t1⟩ := xk_stL h2
      refine lv_lconst hx hb (n := 1) (v := 1) (by decide +kernel) rfl ?_
      refine lv_lstore hx hb (i := 5) (by decide +kernel) s1 (by decide) rfl (fun ls1 g1 => ?_)
      have h3 := t1 5 (1, (iv.1.length : Int)) _ ls1 ⟨_, rfl, by
        show ((env ++ [(1 : Int)]) ++ [(0 : Int)])[((iv.1.length : Nat) : Int).toNat]? = _
        rw [Int.toNat_natCast]
        exact xk_ga (xe_last hlen)⟩ g1
      obtain ⟨lvs2, s2, t2⟩ := xk_stL h3
      refine lv_lconst hx hb (n := 1) (v := 1) (by decide +kernel) rfl ?_
      refine lv_lstore hx hb (i := 7) (by decide +kernel) s2 (by decide) rfl (fun ls2 g2 => ?_)
      have h4 := t2 7 (6, 1) _ ls2 ⟨_, rfl, by decide⟩ g2
      obtain ⟨lvs3, s3, t3⟩ := xk_stI h4
      refine lv_iconst hx hb (n := 0) (v := 0) (by decide +kernel) rfl ?_
      refine lv_istore hx hb (i := 9) (by decide +kernel) s3 (by decide) rfl (fun ls3 g3 => ?_)
      refine kk _ List.mem_cons_self _ _ _ _ _ _ (t3 9 (0, ((iv.1.length + 1 : Nat) : Int)) _ ls3 ⟨_, rfl, ?_⟩ g3)
      show ((env ++ [(1 : Int)]) ++ [(0 : Int)])[((iv.1.length + 1 : Nat) : Int).toNat]? = _
      rw [Int.toNat_natCast]
      exact xe_last len1
    · cases hk
  · cases hk
theorem xe_87_ok (F : xk_Fx p s m args c D A RX10 cX10_risk 11) {σ : xk_S} {l2 : List (Nat × xk_S)} (hk : xe_87 σ = some l2) (kk : ∀ q ∈ l2, xk_G p l e R s m args below meth c Q b 11 D A q.1 q.2) : xk_G p l e R s m args below meth c Q b 11 D A 87 σ := by
  obtain ⟨hx, hb, -⟩ := F
  obtain ⟨iv, lo, st, hp, kc, ks⟩ := σ
  unfold xe_87 at hk
  split at hk
  · rename_i u n cv al est hu hn hcv hal
    have est : st = [] := est
    subst est
    split at hk
    · rename_i hcond
      obtain ⟨d1, d2, d3, d4, d5, d6, d7, d8⟩ := hcond
      cases hk
      have d1 : iv.1.length < 998 := d1
      have d2 : u.toNat < iv.1.length := d2
      have d3 : n.toNat < iv.1.length := d3
      have d4 : cv.toNat < iv.1.length := d4
      have d5 : al.toNat < iv.1.length := d5
      have d6 : 0 ≤ (xk_iv iv (0, u)).1 := d6
      have d7 : (xk_iv iv (1, al)).2 ≤ 1000000000000000000 := d7
      intro env ad H locs ls sv h
      have hlen : env.length = iv.1.length := h.1.1
      obtain ⟨x, gu⟩ : ∃ x : Int, env[u.toNat]? = some x := ⟨_, List.getElem?_eq_getElem (by omega)⟩
      obtain ⟨y, gn⟩ : ∃ y : Int, env[n.toNat]? = some y := ⟨_, List.getElem?_eq_getElem (by omega)⟩
      obtain ⟨z, gc⟩ : ∃ z : Int, env[cv.toNat]? = some z := ⟨_, List.getElem?_eq_getElem (by omega)⟩
      obtain ⟨a, ga⟩ : ∃ a : Int, env[al.toNat]? = some a := ⟨_, List.getElem?_eq_getElem (by omega)⟩
      obtain ⟨w, g0⟩ : ∃ w : Int, env[0]? = some w := ⟨_, List.getElem?_eq_getElem (by omega)⟩
      have bx : (xk_iv iv (0, u)).1 ≤ x ∧ x ≤ (xk_iv iv (0, u)).2 := xk_iv_ok h.1 (show xk_n env (0, u) _ from gu)
      have ba : (xk_iv iv (1, al)).1 ≤ a ∧ a ≤ (xk_iv iv (1, al)).2 := xk_iv_ok h.1 (show xk_n env (1, al) _ from ga)
      obtain ⟨k0, nn, cc, f1, f2, f3⟩ := xe_get (id := 12) h.1 ga gu gc gn g0 (by decide) (by omega) (by omega) (by decide) d8
      obtain ⟨r1, r2, -⟩ := xe_es f1
      have ok1 := xk_ok_app (n := 0) (q := (0, 9)) h.1 (by decide) (by decide)
      have ok2 := xe_add (i := al.toNat) (n := u.toNat) (id := 6) (e0 := cv.toNat) (e1 := n.toNat) (e2 := iv.1.length) ok1 (xk_ga ga) (xk_ga gu) (xk_ga gc) (xk_ga gn) (xe_last hlen) (by decide) (by omega) (by omega) (by omega) (by unfold xk_big; omega) ⟨0, nn, cc, by rw [r1, r2]; rfl, by rw [Nat.add_zero]; exact f2, f3, Nat.zero_le _, Or.inl rfl⟩
      have h2 := xk_grow [0] h ok2
      obtain ⟨lvs1, s1, t1⟩ := xk_stI h2
      refine lv_iconst hx hb (n := 0) (v := 0) (by decide +kernel) rfl ?_
      refine lv_istore hx hb (i := 10) (by decide +kernel) s1 (by decide) rfl (fun ls1 g1 => ?_)
      refine kk _ List.mem_cons_self _ _ _ _ _ _ (t1 10 (0, (iv.1.length : Int)) _ ls1 ⟨_, rfl, ?_⟩ g1)
      show (env ++ [(0 : Int)])[((iv.1.length : Nat) : Int).toNat]? = _
      rw [Int.toNat_natCast]
      exact xe_last hlen
    · cases hk
  · cases hk
theorem xe_106_ok (hC : Cond.constantLong RX10 325 (Int64.ofInt 100) ∈ xk_tb) (F : xk_Fx p s m args c D A RX10 cX10_risk 11) {σ : xk_S} {l2 : List (Nat × xk_S)} (hk : xe_106 σ = some l2) (kk : ∀ q ∈ l2, xk_G p l e R s m args below meth c Q b 11 D A q.1 q.2) : xk_G p l e R s m args below meth c Q b 11 D A 106 σ := by
  obtain ⟨hx, hb, hml, hown, hts, -⟩ := F
  obtain ⟨iv, lo, st, hp, kc, ks⟩ := σ
  unfold xe_106 at hk
  split at hk
  · rename_i u n cv k al est hu hn hcv hkv hal
    have est : st = [] := est
    subst est
    have hal : xk_ov lo 5 = some (1, al) := hal
    split at hk
    · rename_i hcond
      obtain ⟨d1, d2, d3, d4, d5, d6, d7, d8, d9, d10, d11, d12⟩ := hcond
      cases hk
      have d1 : iv.1.length < 998 := d1
      have d2 : u.toNat < iv.1.length := d2
      have d3 : n.toNat < iv.1.length := d3
      have d4 : cv.toNat < iv.1.length := d4
      have d5 : k.toNat < iv.1.length := d5
      have d6 : al.toNat < iv.1.length := d6
      have d7 : 0 ≤ (xk_iv iv (0, cv)).1 := d7
      have d8 : (xk_iv iv (0, cv)).2 ≤ 8 := d8
      have d9 : 0 ≤ (xk_iv iv (0, u)).1 := d9
      intro env ad H locs ls sv h
      have hlen : env.length = iv.1.length := h.1.1
      obtain ⟨v5, l5, al64, e5, ga⟩ := xk_ldI h hal
      subst e5
      have ga : env[al.toNat]? = some al64.toInt := ga
      obtain ⟨x, gu⟩ : ∃ x : Int, env[u.toNat]? = some x := ⟨_, List.getElem?_eq_getElem (by omega)⟩
      obtain ⟨y, gn⟩ : ∃ y : Int, env[n.toNat]? = some y := ⟨_, List.getElem?_eq_getElem (by omega)⟩
      obtain ⟨z, gc⟩ : ∃ z : Int, env[cv.toNat]? = some z := ⟨_, List.getElem?_eq_getElem (by omega)⟩
      obtain ⟨t, gk⟩ : ∃ t : Int, env[k.toNat]? = some t := ⟨_, List.getElem?_eq_getElem (by omega)⟩
      have bx : (xk_iv iv (0, u)).1 ≤ x ∧ x ≤ (xk_iv iv (0, u)).2 := xk_iv_ok h.1 (show xk_n env (0, u) _ from gu)
      have bz : (xk_iv iv (0, cv)).1 ≤ z ∧ z ≤ (xk_iv iv (0, cv)).2 := xk_iv_ok h.1 (show xk_n env (0, cv) _ from gc)
      obtain ⟨k0, nn, cc, f1, f2, f3, f4, f5⟩ := xe_get (id := 6) h.1 ga gu gc gn gk (by decide) (by omega) (by omega) (by omega) d10
      obtain ⟨r1, r2, r3⟩ := xe_es f1
      have f13 := xn_get (k := xk_big + 13) h.1 gc gu (by omega) d11
      rw [xe_d13] at f13
      have f13 : x.toNat.testBit z.toNat = true := f13
      rw [r1, Int.toNat_natCast] at f13
      have hlt := xk_ent_ok (a := (0, k)) (c := (0, n)) h.1 5 (show xk_n env (0, k) _ from gk) (show xk_n env (0, n) _ from gn) d12
      have hkn : k0 + 1 ≤ nn := by omega
      have hbd := xe_bound (u := x.toNat) (c := cc) (n := nn) (k := k0) (by omega) f13 f3 hkn
      have hpow := xe_pow hbd
      have hpw : (100 : Int) ^ (xf_cnt x.toNat cc * nn + k0 + 1) = al64.toInt * 100 := by rw [Int.pow_succ, f2]
      have hpos := xe_pow (k := xf_cnt x.toNat cc * nn + k0) (by omega)
      rw [← f2] at hpos
      rw [hpw] at hpow
      have hmul := xe_m100 (x := al64) (by omega) hpow.2
      have ok1 := xk_ok_app (n := (al64 * Int64.ofInt 100).toInt) (q := (1, 1000000000000000000)) h.1 (by rw [hmul]; exact hpow.1) (by rw [hmul]; exact hpow.2)
      have ok2 := xe_add (i := iv.1.length) (n := u.toNat) (id := 14) (e0 := cv.toNat) (e1 := n.toNat) (e2 := k.toNat) ok1 (xe_last hlen) (xk_ga gu) (xk_ga gc) (xk_ga gn) (xk_ga gk) (by decide) (by omega) (by omega) (by omega) (by rw [hmul]; unfold xk_big; omega) ⟨k0, nn, cc, f1, by rw [hmul, hpw], f3, hkn, f13⟩
      have h2 := xk_grow [(al64 * Int64.ofInt 100).toInt] h ok2
      obtain ⟨lvs1, s1, t1⟩ := xk_stL h2
      refine lv_lload hx hb (i := 5) (by decide +kernel) l5 ?_
      refine lv_ldc2 hx hb (own := RX10) (index := 325) (v := Int64.ofInt 100) hown (hts _ hC) (by decide +kernel) ?_
      refine lv_lmul hx hb (by decide +kernel) ?_
      refine lv_lstore hx hb (i := 5) (by decide +kernel) s1 (by decide) rfl (fun ls1 g1 => ?_)
      refine kk _ List.mem_cons_self _ _ _ _ _ _ (t1 5 (1, (iv.1.length : Int)) _ ls1 ⟨_, rfl, ?_⟩ g1)
      show (env ++ [_])[((iv.1.length : Nat) : Int).toNat]? = _
      rw [Int.toNat_natCast]
      exact xe_last hlen
    · cases hk
  · cases hk
theorem xe_131_ok (F : xk_Fx p s m args c D A RX10 cX10_risk 11) {σ : xk_S} {l2 : List (Nat × xk_S)} (hk : xe_131 σ = some l2) (kk : ∀ q ∈ l2, xk_G p l e R s m args below meth c Q b 11 D A q.1 q.2) : xk_G p l e R s m args below meth c Q b 11 D A 131 σ := by
  obtain ⟨hx, hb, -⟩ := F
  obtain ⟨iv, lo, st, hp, kc, ks⟩ := σ
  unfold xe_131 at hk
  split at hk
  · rename_i u n cv k al est hu hn hcv hkv hal
    have est : st = [] := est
    subst est
    have hkv : xk_ov lo 10 = some (0, k) := hkv
    split at hk
    · rename_i hcond
      obtain ⟨d1, d2, d3, d4, d5, d6, d7, d8, d9, d10, d11, d12, d13⟩ := hcond
      cases hk
      have d1 : iv.1.length < 998 := d1
      have d2 : u.toNat < iv.1.length := d2
      have d3 : n.toNat < iv.1.length := d3
      have d4 : cv.toNat < iv.1.length := d4
      have d5 : k.toNat < iv.1.length := d5
      have d6 : al.toNat < iv.1.length := d6
      have d7 : 0 ≤ (xk_iv iv (0, k)).1 := d7
      have d8 : (xk_iv iv (0, k)).2 ≤ 9 := d8
      have d9 : 1 ≤ (xk_iv iv (0, n)).1 := d9
      have d10 : (xk_iv iv (0, n)).2 ≤ 9 := d10
      have d11 : 0 ≤ (xk_iv iv (0, u)).1 := d11
      have d12 : (xk_iv iv (1, al)).2 ≤ 1000000000000000000 := d12
      intro env ad H locs ls sv h
      have hlen : env.length = iv.1.length := h.1.1
      obtain ⟨g0, ⟨lvs, hl, hr⟩, g3⟩ := id h
      obtain ⟨kq, v, e1, ⟨k32, e2, gk⟩⟩ := xk_lo_get hr hkv
      subst e2
      have gk : env[k.toNat]? = some k32.toInt := gk
      obtain ⟨x, gu⟩ : ∃ x : Int, env[u.toNat]? = some x := ⟨_, List.getElem?_eq_getElem (by omega)⟩
      obtain ⟨y, gn⟩ : ∃ y : Int, env[n.toNat]? = some y := ⟨_, List.getElem?_eq_getElem (by omega)⟩
      obtain ⟨z, gc⟩ : ∃ z : Int, env[cv.toNat]? = some z := ⟨_, List.getElem?_eq_getElem (by omega)⟩
      obtain ⟨a, ga⟩ : ∃ a : Int, env[al.toNat]? = some a := ⟨_, List.getElem?_eq_getElem (by omega)⟩
      have bx : (xk_iv iv (0, u)).1 ≤ x ∧ x ≤ (xk_iv iv (0, u)).2 := xk_iv_ok h.1 (show xk_n env (0, u) _ from gu)
      have by_ : (xk_iv iv (0, n)).1 ≤ y ∧ y ≤ (xk_iv iv (0, n)).2 := xk_iv_ok h.1 (show xk_n env (0, n) _ from gn)
      have bk : (xk_iv iv (0, k)).1 ≤ k32.toInt ∧ k32.toInt ≤ (xk_iv iv (0, k)).2 := xk_iv_ok h.1 (show xk_n env (0, k) _ from gk)
      have ba : (xk_iv iv (1, al)).1 ≤ a ∧ a ≤ (xk_iv iv (1, al)).2 := xk_iv_ok h.1 (show xk_n env (1, al) _ from ga)
      obtain ⟨k0, nn, cc, f1, f2, f3, f4, f5⟩ := xe_get (id := 14) h.1 ga gu gc gn gk (by decide) (by omega) (by omega) (by omega) d13
      obtain ⟨r1, r2, r3⟩ := xe_es f1
      have hinc := xe_inc (x := k32) (by omega) (by omega)
      have ok1 := xk_ok_app (n := (k32 + Int32.ofInt 1).toInt) (q := (0, 9)) h.1 (by rw [hinc]; show 0 ≤ _; omega) (by rw [hinc]; show _ ≤ 9; omega)
      have ok2 := xe_rel (i := k.toNat) (j := iv.1.length) (k := -1) ok1 (xk_ga gk) (xe_last hlen) (by omega) (by decide)
      have ok3 := xe_rel (i := iv.1.length) (j := k.toNat) (k := 1) ok2 (xe_last hlen) (xk_ga gk) (by omega) (by decide)
      have ok4 := xe_add (i := al.toNat) (n := u.toNat) (id := 6) (e0 := cv.toNat) (e1 := n.toNat) (e2 := iv.1.length) ok3 (xk_ga ga) (xk_ga gu) (xk_ga gc) (xk_ga gn) (xe_last hlen) (by decide) (by omega) (by omega) (by omega) (by unfold xk_big; omega) ⟨k0 + 1, nn, cc, by rw [r1, r2, hinc, r3]; rfl, f2, f3, f4, Or.inr f5⟩
      have h2 := xk_grow [(k32 + Int32.ofInt 1).toInt] h ok4
      obtain ⟨j0, ⟨lvs2, jl, jr⟩, j3⟩ := id h2
      obtain ⟨kq2, v2, w1, ⟨k2, w2, w3⟩⟩ := xk_lo_get jr hkv
      subst w2
      have w3 : (env ++ [(k32 + Int32.ofInt 1).toInt])[k.toNat]? = some k2.toInt := w3
      rw [xk_ga gk] at w3
      have w4 : k32 = k2 := Int32.toInt_inj.mp (Option.some.inj w3)
      subst w4
      refine lv_iinc hx hb (i := 10) (n := 1) (k := kq2) (by decide +kernel) jl w1 rfl (by decide) rfl (fun ls1 g1 => ?_)
      refine lv_goto hx hb (off := -44) (tgt := 90) (by decide +kernel) rfl ?_
      refine kk _ List.mem_cons_self _ _ _ _ _ _ ⟨j0, ⟨_, g1, ⟨rfl, _, rfl, ?_⟩, xk_r2_filter (fun a q hq => by unfold xk_f1; rw [hq.1, xk_v_cat hq.2]) jr⟩, j3⟩
      show (env ++ [_])[((iv.1.length : Nat) : Int).toNat]? = _
      rw [Int.toNat_natCast]
      exact xe_last hlen
    · cases hk
  · cases hk
theorem xe_137_ok (F : xk_Fx p s m args c D A RX10 cX10_risk 11) {σ : xk_S} {l2 : List (Nat × xk_S)} (hk : xe_137 σ = some l2) (kk : ∀ q ∈ l2, xk_G p l e R s m args below meth c Q b 11 D A q.1 q.2) : xk_G p l e R s m args below meth c Q b 11 D A 137 σ := by
  obtain ⟨hx, hb, -⟩ := F
  obtain ⟨iv, lo, st, hp, kc, ks⟩ := σ
  unfold xe_137 at hk
  split at hk
  · rename_i u n cv k al est hu hn hcv hkv hal
    have est : st = [] := est
    subst est
    have hcv : xk_ov lo 9 = some (0, cv) := hcv
    split at hk
    · rename_i hcond
      obtain ⟨d1, d2, d3, d4, d5, d6, d7, d8, d9, d10, d11, d12⟩ := hcond
      cases hk
      have d1 : iv.1.length < 998 := d1
      have d2 : u.toNat < iv.1.length := d2
      have d3 : n.toNat < iv.1.length := d3
      have d4 : cv.toNat < iv.1.length := d4
      have d5 : k.toNat < iv.1.length := d5
      have d6 : al.toNat < iv.1.length := d6
      have d7 : 0 ≤ (xk_iv iv (0, cv)).1 := d7
      have d8 : (xk_iv iv (0, cv)).2 ≤ 8 := d8
      have d9 : 0 ≤ (xk_iv iv (0, u)).1 := d9
      have d10 : (xk_iv iv (1, al)).2 ≤ 1000000000000000000 := d10
      intro env ad H locs ls sv h
      have hlen : env.length = iv.1.length := h.1.1
      obtain ⟨x, gu⟩ : ∃ x : Int, env[u.toNat]? = some x := ⟨_, List.getElem?_eq_getElem (by omega)⟩
      obtain ⟨y, gn⟩ : ∃ y : Int, env[n.toNat]? = some y := ⟨_, List.getElem?_eq_getElem (by omega)⟩
      obtain ⟨t, gk⟩ : ∃ t : Int, env[k.toNat]? = some t := ⟨_, List.getElem?_eq_getElem (by omega)⟩
      obtain ⟨a, ga⟩ : ∃ a : Int, env[al.toNat]? = some a := ⟨_, List.getElem?_eq_getElem (by omega)⟩
      obtain ⟨w0, g0⟩ : ∃ w : Int, env[0]? = some w := ⟨_, List.getElem?_eq_getElem (by omega)⟩
      obtain ⟨lvs, hl, hr⟩ := h.2.1
      obtain ⟨kq, v, e1, ⟨c32, e2, gc⟩⟩ := xk_lo_get hr hcv
      subst e2
      have gc : env[cv.toNat]? = some c32.toInt := gc
      have bx : (xk_iv iv (0, u)).1 ≤ x ∧ x ≤ (xk_iv iv (0, u)).2 := xk_iv_ok h.1 (show xk_n env (0, u) _ from gu)
      have bz : (xk_iv iv (0, cv)).1 ≤ c32.toInt ∧ c32.toInt ≤ (xk_iv iv (0, cv)).2 := xk_iv_ok h.1 (show xk_n env (0, cv) _ from gc)
      have ba : (xk_iv iv (1, al)).1 ≤ a ∧ a ≤ (xk_iv iv (1, al)).2 := xk_iv_ok h.1 (show xk_n env (1, al) _ from ga)
      obtain ⟨k0, nn, cc, f1, f2, f3, f4, f5⟩ := xe_get (id := 6) h.1 ga gu gc gn gk (by decide) (by omega) (by omega) (by omega) d11
      obtain ⟨r1, r2, r3⟩ := xe_es f1
      have hinc := xe_inc (x := c32) (by omega) (by omega)
      have hcnt : a = 100 ^ (xf_cnt x.toNat (cc + 1) * nn) := by
        have h1 := xe_succ x.toNat cc
        have hor : x.toNat.testBit cc = false ∨ nn ≤ k0 := by
          rcases d12 with d12 | d12
          · have f := xn_get (k := xk_big + 5) h.1 gc gu (by omega) d12
            rw [xn_d5] at f
            have f : x.toNat.testBit c32.toInt.toNat = false := f
            rw [r1, Int.toNat_natCast] at f
            exact Or.inl f
          · have hle := xk_ent_ok (a := (0, n)) (c := (0, k)) h.1 5 (show xk_n env (0, n) _ from gn) (show xk_n env (0, k) _ from gk) d12
            exact Or.inr (by omega)
        rcases hor with hf | hf
        · rw [hf] at h1
          have hk0 : k0 = 0 := by
            rcases f5 with f5 | f5
            · exact f5
            · rw [hf] at f5
              cases f5
          rw [f2, hk0, h1]
          rfl
        · have hk0 : k0 = nn := by omega
          rcases f5 with f5 | f5
          · have hn0 : nn = 0 := by omega
            rw [f2, f5, hn0, Nat.mul_zero, Nat.mul_zero]
          · rw [f5, if_pos rfl] at h1
            rw [f2, hk0, h1, Nat.add_mul, Nat.one_mul]
      have ok1 := xk_ok_app (n := (c32 + Int32.ofInt 1).toInt) (q := (0, 9)) h.1 (by rw [hinc]; show 0 ≤ _; omega) (by rw [hinc]; show _ ≤ 9; omega)
      have ok2 := xe_rel (i := cv.toNat) (j := iv.1.length) (k := -1) ok1 (xk_ga gc) (xe_last hlen) (by omega) (by decide)
      have ok3 := xe_rel (i := iv.1.length) (j := cv.toNat) (k := 1) ok2 (xe_last hlen) (xk_ga gc) (by omega) (by decide)
      have ok4 := xe_add (i := al.toNat) (n := u.toNat) (id := 12) (e0 := iv.1.length) (e1 := n.toNat) (e2 := 0) ok3 (xk_ga ga) (xk_ga gu) (xe_last hlen) (xk_ga gn) (xk_ga g0) (by decide) (by omega) (by omega) (by decide) (by unfold xk_big; omega) ⟨w0, nn, cc + 1, by rw [hinc, r1, r2]; rfl, hcnt, f3⟩
      have h2 := xk_grow [(c32 + Int32.ofInt 1).toInt] h ok4
      obtain ⟨j0, ⟨lvs2, jl, jr⟩, j3⟩ := id h2
      obtain ⟨kq2, v2, w1, ⟨c2, w2, w3⟩⟩ := xk_lo_get jr hcv
      subst w2
      have w3 : (env ++ [(c32 + Int32.ofInt 1).toInt])[cv.toNat]? = some c2.toInt := w3
      rw [xk_ga gc] at w3
      have w4 : c32 = c2 := Int32.toInt_inj.mp (Option.some.inj w3)
      subst w4
      refine lv_iinc hx hb (i := 9) (n := 1) (k := kq2) (by decide +kernel) jl w1 rfl (by decide) rfl (fun ls1 g1 => ?_)
      refine lv_goto hx hb (off := -64) (tgt := 76) (by decide +kernel) rfl ?_
      refine kk _ List.mem_cons_self _ _ _ _ _ _ ⟨j0, ⟨_, g1, ⟨rfl, _, rfl, ?_⟩, xk_r2_filter (fun a q hq => by unfold xk_f1; rw [hq.1, xk_v_cat hq.2]) jr⟩, j3⟩
      show (env ++ [_])[((iv.1.length : Nat) : Int).toNat]? = _
      rw [Int.toNat_natCast]
      exact xe_last hlen
    · cases hk
  · cases hk
theorem xe_HK {e0 : List Int} {a0 : List Nat} {oq : xk_O} (hC : Cond.constantLong RX10 325 (Int64.ofInt 100) ∈ xk_tb) (F : xk_Fx p s m args c D A RX10 cX10_risk 11) (SU : xk_SUH oq A s s.heap) (hS : xk_RnP l D RX10 cX10_risk 11 R 49 xz_K xz_Φ) (hR : xk_RnP l D RX10 cX10_risk 11 R 100 xi_K xi_Φ) (pc : Nat) (σ : xk_S) (l2 : List (Nat × xk_S)) (hk : xe_hk pc σ = some l2) (kk : ∀ q ∈ l2, xk_G p l e R s m args below meth c Q (0, e0, a0, oq) 11 D A q.1 q.2) : xk_G p l e R s m args below meth c Q (0, e0, a0, oq) 11 D A pc σ := by
  unfold xe_hk at hk
  split at hk
  · rename_i h1
    have h1 := Nat.eq_of_beq_eq_true h1
    subst h1
    exact xe_49_ok F SU hS hk kk
  split at hk
  · rename_i h1
    have h1 := Nat.eq_of_beq_eq_true h1
    subst h1
    exact xe_55_ok F hk kk
  split at hk
  · rename_i h1
    have h1 := Nat.eq_of_beq_eq_true h1
    subst h1
    exact xe_67_ok F hk kk
  split at hk
  · rename_i h1
    have h1 := Nat.eq_of_beq_eq_true h1
    subst h1
    exact xe_87_ok F hk kk
  split at hk
  · rename_i h1
    have h1 := Nat.eq_of_beq_eq_true h1
    subst h1
    exact xe_100_ok F SU hR hk kk
  split at hk
  · rename_i h1
    have h1 := Nat.eq_of_beq_eq_true h1
    subst h1
    exact xe_106_ok hC F hk kk
  split at hk
  · rename_i h1
    have h1 := Nat.eq_of_beq_eq_true h1
    subst h1
    exact xe_131_ok F hk kk
  split at hk
  · rename_i h1
    have h1 := Nat.eq_of_beq_eq_true h1
    subst h1
    exact xe_137_ok F hk kk
  cases hk
end XE2

/-! laysNaive's steps by hand (draft, not compiled): the model is cell 0, 'changed' its field 28 -/
def xn_50 (σ : xk_S) : Option (List (Nat × xk_S)) := match σ.2.2.2.1[0]?, xk_ov σ.2.1 2 with
  | some (0, ci, fs, n, I, ov), some (0, nt) => (match (fs[28]? : Option xk_V) with
    | some (5, 0) => if nt.toNat < σ.1.1.length ∧ 0 ≤ (xk_iv σ.1 (0, nt)).1 then some [(50, ((σ.1.1 ++ [(0, 9)], (σ.1.1.length, nt.toNat, xk_big + 2) :: σ.1.2), σ.2.1, σ.2.2.1, σ.2.2.2.1.set 0 (0, ci, fs.set 28 (0, (σ.1.1.length : Int)), n, I, ov), σ.2.2.2.2.1, σ.2.2.2.2.2))] else none
    | _ => none)
  | _, _ => none
def xn_80 (σ : xk_S) : Option (List (Nat × xk_S)) := match σ.2.2.1, xk_ov σ.2.1 2 with
  | [w], some (0, nt) => if xk_isI w = true ∧ nt.toNat < σ.1.1.length ∧ 0 ≤ (xk_iv σ.1 w).1 ∧ (xk_iv σ.1 w).2 ≤ 511 ∧ 0 ≤ (xk_iv σ.1 (0, nt)).1 ∧ (xk_iv σ.1 (0, nt)).2 ≤ 511 then some [(86, ((σ.1.1 ++ [(0, 511)], (σ.1.1.length, nt.toNat, xk_big + 3) :: σ.1.2), (4, (0, (σ.1.1.length : Int))) :: σ.2.1.filter (xk_f1 4), [], σ.2.2.2.1, σ.2.2.2.2.1, σ.2.2.2.2.2))] else none
  | _, _ => none
def xn_l5 (v : xk_V) (q : Nat × xk_V) : Nat × xk_V := if q.1 = 5 then (5, v) else q
def xn_101 (σ : xk_S) : Option (List (Nat × xk_S)) := match σ.2.2.1, xk_ov σ.2.1 2 with
  | (5, j) :: (0, may) :: st, some (0, nt) => if σ.2.2.2.2.1 = 0 ∧ σ.2.2.2.2.2 = 0 ∧ σ.2.1.all (fun q => !(Nat.beq q.1 5) || xk_bV q.2 (5, j)) = true ∧ 0 ≤ j ∧ j ≤ 8 ∧ may.toNat < σ.1.1.length ∧ nt.toNat < σ.1.1.length ∧ 1 ≤ (xk_iv σ.1 (0, may)).1 ∧ (xk_iv σ.1 (0, may)).2 ≤ 511 ∧ 0 ≤ (xk_iv σ.1 (0, nt)).1 ∧ (st.map xk_cat).sum ≤ 8 ∧ xr_has σ.1 may nt (xk_big + 3) = true ∧ (j = 0 ∨ xr_has σ.1 may may (xk_big + 15 + 100000000000 * j) = true) then some ((104, (((σ.1.1 ++ [(0, 1)]) ++ [(0, 8)], ((σ.1.1 ++ [((0 : Int), (1 : Int))]).length, nt.toNat, xk_big + 5) :: σ.1.2), σ.2.1.map (xn_l5 (0, ((σ.1.1 ++ [((0 : Int), (1 : Int))]).length : Int))), (5, 1) :: st, σ.2.2.2.1, σ.2.2.2.2.1, σ.2.2.2.2.2)) :: (if j < 8 then [(104, ((σ.1.1 ++ [(0, 1)], (may.toNat, may.toNat, xk_big + 15 + 100000000000 * (j + 1)) :: σ.1.2), σ.2.1, (5, 0) :: st, σ.2.2.2.1, σ.2.2.2.2.1, σ.2.2.2.2.2))] else [])) else none
  | _, _ => none
def xn_120 (σ : xk_S) : Option (List (Nat × xk_S)) := match σ.2.2.1, σ.2.2.2.1[0]?, xk_ov σ.2.1 2, xk_ov σ.2.1 5 with
  | [], some (0, ci, fs, n, I, ov), some (0, nt), some (0, cv) => (match fs[28]? with
    | some (0, ch) => if ch.toNat < σ.1.1.length ∧ 0 ≤ (xk_iv σ.1 (0, cv)).1 ∧ (xk_iv σ.1 (0, cv)).2 ≤ 8 ∧ 0 ≤ (xk_iv σ.1 (0, nt)).1 ∧ (xk_iv σ.1 (0, nt)).2 ≤ 511 ∧ xr_has σ.1 ch nt (xk_big + 2) = true ∧ xr_has σ.1 cv nt (xk_big + 5) = true then some (match xk_set σ.1 (0, ch) ((xk_iv σ.1 (0, ch)).1, min (xk_iv σ.1 (0, ch)).2 8) with
      | some N1 => [(127, ((N1.1 ++ [(0, 511)], (ch.toNat, N1.1.length, xk_big + 4) :: N1.2), (2, (0, (N1.1.length : Int))) :: σ.2.1.filter (xk_f1 2), [], σ.2.2.2.1, σ.2.2.2.2.1, σ.2.2.2.2.2))]
      | none => []) else none
    | _ => none)
  | _, _, _, _ => none
def xn_148 (σ : xk_S) : Option (List (Nat × xk_S)) := match σ.2.2.1, σ.2.2.2.1[0]?, xk_ov σ.2.1 2 with
  | [], some (0, ci, fs, n, I, ov), some (0, nt) => (match fs[28]? with
    | some (0, ch) => if xr_has σ.1 ch nt (xk_big + 2) = false ∧ 0 ≤ (xk_iv σ.1 (0, nt)).1 ∧ ch.toNat < σ.1.1.length ∧ nt.toNat < σ.1.1.length ∧ σ.1.2.any (fun r => Nat.beq r.2.1 nt.toNat && (decide (r.2.2 = xk_big + 4) && xk_ent 5 σ.1 (0, ch) (0, (r.1 : Int)) 1)) = true then some [(148, ((σ.1.1, (ch.toNat, nt.toNat, xk_big + 2) :: σ.1.2), σ.2.1, [], σ.2.2.2.1, σ.2.2.2.2.1, σ.2.2.2.2.2))] else none
    | _ => none)
  | _, _, _ => none
def xn_hk : xk_Hk := fun pc σ => if Nat.beq pc 50 then xn_50 σ else if Nat.beq pc 80 then xn_80 σ else if Nat.beq pc 101 then xn_101 σ else if Nat.beq pc 120 then xn_120 σ else if Nat.beq pc 148 then xn_148 σ else none
theorem xn_nn {x : Int32} (h : 0 ≤ x.toInt) : x.toInt = (x.toBitVec.toNat : Int) := by
  have h1 : x.toBitVec.toInt = if 2 * x.toBitVec.toNat < 2 ^ 32 then (x.toBitVec.toNat : Int) else (x.toBitVec.toNat : Int) - ((2 ^ 32 : Nat) : Int) := BitVec.toInt_eq_toNat_cond _
  have h2 : 0 ≤ x.toBitVec.toInt := h
  show x.toBitVec.toInt = _
  have h3 := x.toBitVec.isLt
  rw [h1] at h2 ⊢
  split at h2 <;> rename_i h4
  · rw [if_pos h4]
  · exfalso
    omega
theorem xn_pp {x : Int32} (h : x.toBitVec.toNat < 2147483648) : x.toInt = (x.toBitVec.toNat : Int) := by
  have h1 : x.toBitVec.toInt = if 2 * x.toBitVec.toNat < 2 ^ 32 then (x.toBitVec.toNat : Int) else (x.toBitVec.toNat : Int) - ((2 ^ 32 : Nat) : Int) := BitVec.toInt_eq_toNat_cond _
  show x.toBitVec.toInt = _
  rw [h1, if_pos (by omega)]
theorem xn_andn {x y : Int32} (hx : 0 ≤ x.toInt) (hx2 : x.toInt ≤ 511) (hy : 0 ≤ y.toInt) : 0 ≤ (x &&& (y ^^^ (-1))).toInt ∧ (x &&& (y ^^^ (-1))).toInt ≤ 511 ∧ (x &&& (y ^^^ (-1))).toInt.toNat &&& y.toInt.toNat = 0 := by
  have e1 := xn_nn hx
  have e2 := xn_nn hy
  have hz : (x &&& (y ^^^ (-1))).toBitVec = x.toBitVec &&& (y.toBitVec ^^^ BitVec.allOnes 32) := rfl
  have hle : (x &&& (y ^^^ (-1))).toBitVec.toNat ≤ x.toBitVec.toNat := by
    rw [hz, BitVec.toNat_and]
    exact Nat.and_le_left
  have e3 := xn_pp (x := x &&& (y ^^^ (-1))) (by omega)
  refine ⟨by omega, by omega, ?_⟩
  have h0 : (x.toBitVec &&& (y.toBitVec ^^^ BitVec.allOnes 32)) &&& y.toBitVec = 0#32 := by
    rw [BitVec.xor_allOnes]
    ext i hi
    simp
  have h1 := congrArg BitVec.toNat h0
  rw [BitVec.toNat_and, ← hz] at h1
  rw [e3, e2, Int.toNat_natCast, Int.toNat_natCast]
  exact h1
theorem xn_get {env : List Int} {iv : xk_N} {i n k x y : Int} (h : xk_ok env iv) (hx : env[i.toNat]? = some x) (hy : env[n.toNat]? = some y) (hb : xk_big ≤ k) (hh : xr_has iv i n k = true) : xk_fa (xk_dec k).1 x y ((xk_dec k).2.1.map (fun j => env.getD j 0)) (xk_dec k).2.2 := by
  obtain ⟨r, hr, hrr⟩ := List.any_eq_true.mp hh
  simp only [Bool.and_eq_true, decide_eq_true_eq] at hrr
  have k1 := Nat.eq_of_beq_eq_true hrr.1
  have k2 := Nat.eq_of_beq_eq_true hrr.2.1
  have hf := ((h.2.2 r hr).2.2.2 (by rw [hrr.2.2]; exact hb)).2
  rw [hrr.2.2, k1, k2, List.getD_eq_getElem?_getD (l := env) (i := i.toNat), List.getD_eq_getElem?_getD (l := env) (i := n.toNat), hx, hy] at hf
  exact hf
/-- one number more, and a fact on it -/
theorem xn_new {env : List Int} {iv : xk_N} {n id cst : Nat} {k z y : Int} {q : xk_I} (h : xk_ok env iv) (h1 : q.1 ≤ z) (h2 : z ≤ q.2) (hy : env[n]? = some y) (hb : xk_big ≤ k) (hzy : z ≤ y + xk_big) (hd : xk_dec k = (id, [0, 0, 0], cst)) (hf : ∀ es : List Int, xk_fa id z y es cst) : xk_ok (env ++ [z]) (iv.1 ++ [q], (iv.1.length, n, k) :: iv.2) := by
  have h3 := xk_ok_app (n := z) (q := q) h h1 h2
  have hlen : env.length = iv.1.length := h.1
  have hz : (env ++ [z])[iv.1.length]? = some z := by rw [← hlen]; simp
  exact xr_add (k := k) h3 hz (xk_ga hy) hb hzy (by rw [hd]; intro j hj; simp only [List.mem_cons, List.not_mem_nil, or_false] at hj; rcases hj with rfl | rfl | rfl <;> simp) (by rw [hd]; exact hf _)
theorem xn_d2 : xk_dec (xk_big + 2) = (2, [0, 0, 0], 0) := by decide +kernel
theorem xn_d3 : xk_dec (xk_big + 3) = (3, [0, 0, 0], 0) := by decide +kernel
theorem xn_d4 : xk_dec (xk_big + 4) = (4, [0, 0, 0], 0) := by decide +kernel
theorem xn_d5 : xk_dec (xk_big + 5) = (5, [0, 0, 0], 0) := by decide +kernel
theorem xn_map {α β : Type} {R R' : α → β → Prop} {f : α → α} : ∀ {l : List α} {w : List β}, xk_r2 R l w → (∀ a ∈ l, ∀ q, R a q → R' (f a) q) → xk_r2 R' (l.map f) w
  | [], [], _, _ => trivial
  | a :: l, q :: w, h, g => ⟨g a List.mem_cons_self q h.1, xn_map h.2 (fun a ha => g a (List.mem_cons_of_mem _ ha))⟩
  | [], _ :: _, h, _ => h.elim
  | _ :: _, [], h, _ => h.elim
theorem xn_d15 : ∀ j : Nat, j < 10 → xk_dec (xk_big + 15 + 100000000000 * (j : Int)) = (15, [0, 0, 0], j) := by decide +kernel
section XN
variable {p : Program} {l : Launch} {e : Env} {R : Room} {s : State} {m : MethodId} {args : Array Value} {below : List Frame} {meth : Method} {c : Code} {Q : State → Prop} {D : va_G} {A : Nat → Prop} {b : xk_b}
theorem xn_80_ok (F : xk_Fx p s m args c D A RX10 cX10_laysNaive 6) {σ : xk_S} {l2 : List (Nat × xk_S)} (hk : xn_80 σ = some l2) (kk : ∀ q ∈ l2, xk_G p l e R s m args below meth c Q b 6 D A q.1 q.2) : xk_G p l e R s m args below meth c Q b 6 D A 80 σ := by
  obtain ⟨hx, hb, -⟩ := F
  obtain ⟨iv, lo, st, hp, kc, ks⟩ := σ
  unfold xn_80 at hk
  split at hk
  · rename_i w nt est hnt
    have est : st = [w] := est
    subst est
    have hnt : xk_ov lo 2 = some (0, nt) := hnt
    split at hk
    · rename_i hcond
      obtain ⟨d1, d2, d3, d4, d5, d6⟩ := hcond
      cases hk
      have d3 : 0 ≤ (xk_iv iv w).1 := d3
      have d4 : (xk_iv iv w).2 ≤ 511 := d4
      have d5 : 0 ≤ (xk_iv iv (0, nt)).1 := d5
      have d6 : (xk_iv iv (0, nt)).2 ≤ 511 := d6
      intro env ad H locs ls sv h
      obtain ⟨v1, l1, l2⟩ := xk_ldI h hnt
      obtain ⟨y, e1, hy⟩ := l2
      subst e1
      have hy : env[nt.toNat]? = some y.toInt := hy
      obtain ⟨x, r1, rfl, hnx, h1⟩ := xk_popI h d1
      have bx : (xk_iv iv w).1 ≤ x.toInt ∧ x.toInt ≤ (xk_iv iv w).2 := xk_iv_ok h.1 hnx
      have by_ : (xk_iv iv (0, nt)).1 ≤ y.toInt ∧ y.toInt ≤ (xk_iv iv (0, nt)).2 := xk_iv_ok h.1 (show xk_n env (0, nt) y.toInt from hy)
      obtain ⟨z1, z2, z3⟩ := xn_andn (x := x) (y := y) (by omega) (by omega) (by omega)
      have hok := xn_new (q := (0, 511)) (k := xk_big + 3) (z := (x &&& (y ^^^ (-1))).toInt) h1.1 z1 z2 hy (by omega) (by unfold xk_big; omega) xn_d3 (fun _ => z3)
      have h2 := xk_grow [(x &&& (y ^^^ (-1))).toInt] h1 hok
      obtain ⟨lvs, s1, s2⟩ := xk_stI h2
      refine lv_iload_n hx hb (k := 2) (i := 2) (by decide +kernel) rfl l1 ?_
      refine lv_iconst hx hb (n := -1) (v := -1) (by decide +kernel) rfl ?_
      refine lv_ixor hx hb (by decide +kernel) ?_
      refine lv_iand hx hb (by decide +kernel) ?_
      refine lv_istore hx hb (i := 4) (by decide +kernel) s1 (by decide) rfl (fun ls' g => ?_)
      have hlen : env.length = iv.1.length := h.1.1
      refine kk _ List.mem_cons_self _ _ _ _ _ _ (s2 4 (0, (iv.1.length : Int)) _ ls' ⟨_, rfl, ?_⟩ g)
      show (env ++ [_])[((iv.1.length : Nat) : Int).toNat]? = _
      rw [Int.toNat_natCast, ← hlen]
      simp
    · cases hk
  · cases hk
theorem xn_50_ok {σ : xk_S} {l2 : List (Nat × xk_S)} (hk : xn_50 σ = some l2) (kk : ∀ q ∈ l2, xk_G p l e R s m args below meth c Q b 6 D A q.1 q.2) : xk_G p l e R s m args below meth c Q b 6 D A 50 σ := by
  obtain ⟨iv, lo, st, hp, kc, ks⟩ := σ
  unfold xn_50 at hk
  split at hk
  · rename_i ci fs n I ov nt hcell hnt
    have hcell : hp[0]? = some (0, ci, fs, n, I, ov) := hcell
    have hnt : xk_ov lo 2 = some (0, nt) := hnt
    split at hk
    · rename_i hch
      split at hk
      · rename_i hcond
        obtain ⟨d1, d2⟩ := hcond
        cases hk
        have d2 : 0 ≤ (xk_iv iv (0, nt)).1 := d2
        intro env ad H locs ls sv h
        obtain ⟨v1, l1, l2⟩ := xk_ldI h hnt
        obtain ⟨y, e1, hy⟩ := l2
        have hy : env[nt.toNat]? = some y.toInt := hy
        have by_ : (xk_iv iv (0, nt)).1 ≤ y.toInt ∧ y.toInt ≤ (xk_iv iv (0, nt)).2 := xk_iv_ok h.1 (show xk_n env (0, nt) y.toInt from hy)
        have hok := xn_new (q := (0, 9)) (k := xk_big + 2) (z := 0) h.1 (Int.le_refl _) (by decide) hy (by omega) (by unfold xk_big; omega) xn_d2 (fun _ => Int.natCast_nonneg _)
        obtain ⟨h0, hlv, hst, ws, ha, hc, hP, hD, hS, hpre⟩ := id h
        obtain ⟨w, hw, hcw⟩ := xk_r2_get 0 hc hcell
        obtain ⟨vs, ew, hvs⟩ : ∃ vs : List Value, w.2 = .inr (ci, vs) ∧ xk_r2 (xk_v b env ad) fs vs := hcw
        obtain ⟨v, hv, hvv⟩ := xk_r2_get 28 hvs hch
        have hlen : env.length = iv.1.length := h.1.1
        refine kk _ List.mem_cons_self _ _ _ _ _ _ (xy_in hok hlv hst ha hc hP hD hS hpre hw ⟨vs, ew, ?_⟩)
        have h1 := xk_r2_mono (fun _ _ q => xk_v_e [0] q) hvs
        obtain ⟨z, ez, hz⟩ : ∃ z : Int32, v = .int z ∧ z.toInt = 0 := hvv
        have h2 := xk_r2_set (a := (0, (iv.1.length : Int))) (b := v) (R := xk_v b (env ++ [0]) ad) ⟨z, ez, by
          show (env ++ [0])[((iv.1.length : Nat) : Int).toNat]? = _
          rw [Int.toNat_natCast, ← hlen, hz]
          simp⟩ 28 h1
        rw [xk_set_same hv] at h2
        exact h2
      · cases hk
    · cases hk
  · cases hk
theorem xn_148_ok {σ : xk_S} {l2 : List (Nat × xk_S)} (hk : xn_148 σ = some l2) (kk : ∀ q ∈ l2, xk_G p l e R s m args below meth c Q b 6 D A q.1 q.2) : xk_G p l e R s m args below meth c Q b 6 D A 148 σ := by
  obtain ⟨iv, lo, st, hp, kc, ks⟩ := σ
  unfold xn_148 at hk
  split at hk
  · rename_i ci fs n I ov nt est hcell hnt
    have est : st = [] := est
    subst est
    split at hk
    · rename_i ch hch
      split at hk
      · rename_i hcond
        obtain ⟨-, d1, d2, d3, d4⟩ := hcond
        cases hk
        have d1 : 0 ≤ (xk_iv iv (0, nt)).1 := d1
        have d2 : ch.toNat < iv.1.length := d2
        have d3 : nt.toNat < iv.1.length := d3
        intro env ad H locs ls sv h
        have hlen : env.length = iv.1.length := h.1.1
        obtain ⟨r, hr, hrr⟩ := List.any_eq_true.mp d4
        have hr : r ∈ iv.2 := hr
        simp only [Bool.and_eq_true, decide_eq_true_eq] at hrr
        have k2 := Nat.eq_of_beq_eq_true hrr.1
        have q := h.1.2.2 r hr
        have hf := (q.2.2.2 (by rw [hrr.2.1]; omega)).2
        have g1 : env[r.1]? = some env[r.1] := List.getElem?_eq_getElem q.1
        have g2 : env[ch.toNat]? = some (env[ch.toNat]'(by omega)) := List.getElem?_eq_getElem (by omega)
        have g3 : env[nt.toNat]? = some (env[nt.toNat]'(by omega)) := List.getElem?_eq_getElem (by omega)
        rw [hrr.2.1, xn_d4, k2] at hf
        have hf : env.getD r.1 0 + 1 ≤ (xf_cnt (env.getD nt.toNat 0).toNat 9 : Int) := hf
        rw [List.getD_eq_getElem?_getD, List.getD_eq_getElem?_getD, g1, g3] at hf
        have hf : env[r.1] + 1 ≤ (xf_cnt (env[nt.toNat]'(by omega)).toNat 9 : Int) := hf
        have he := xk_ent_ok (a := (0, ch)) (c := (0, (r.1 : Int))) h.1 5 g2 g1 hrr.2.2
        have hn9 : xf_cnt (env[nt.toNat]'(by omega)).toNat 9 ≤ 9 := Nat.le_trans (List.length_filter_le _ _) (Nat.le_of_eq List.length_range)
        have by_ : (xk_iv iv (0, nt)).1 ≤ (env[nt.toNat]'(by omega)) ∧ (env[nt.toNat]'(by omega)) ≤ (xk_iv iv (0, nt)).2 := xk_iv_ok h.1 (show xk_n env (0, nt) _ from g3)
        have hok := xr_add (k := xk_big + 2) h.1 g2 g3 (by omega) (by unfold xk_big; omega) (by rw [xn_d2]; intro j hj; simp only [List.mem_cons, List.not_mem_nil, or_false] at hj; rcases hj with rfl | rfl | rfl <;> omega) (by rw [xn_d2]; show (env[ch.toNat]'(by omega)) ≤ (xf_cnt (env[nt.toNat]'(by omega)).toNat 9 : Int); omega)
        exact kk _ List.mem_cons_self _ _ _ _ _ _ (xk_bnd h hok)
      · cases hk
    · cases hk
  · cases hk
theorem xn_120_ok (F : xk_Fx p s m args c D A RX10 cX10_laysNaive 6) {σ : xk_S} {l2 : List (Nat × xk_S)} (hk : xn_120 σ = some l2) (kk : ∀ q ∈ l2, xk_G p l e R s m args below meth c Q b 6 D A q.1 q.2) : xk_G p l e R s m args below meth c Q b 6 D A 120 σ := by
  obtain ⟨hx, hb, -⟩ := F
  obtain ⟨iv, lo, st, hp, kc, ks⟩ := σ
  unfold xn_120 at hk
  split at hk
  · rename_i ci fs n I ov nt cv est hcell hnt hcv
    have est : st = [] := est
    subst est
    have hnt : xk_ov lo 2 = some (0, nt) := hnt
    have hcv : xk_ov lo 5 = some (0, cv) := hcv
    split at hk
    · rename_i ch hch
      split at hk
      · rename_i hcond
        obtain ⟨d1, d2, d3, d4, d5, d6, d7⟩ := hcond
        cases hk
        have d1 : ch.toNat < iv.1.length := d1
        have d2 : 0 ≤ (xk_iv iv (0, cv)).1 := d2
        have d3 : (xk_iv iv (0, cv)).2 ≤ 8 := d3
        have d4 : 0 ≤ (xk_iv iv (0, nt)).1 := d4
        have d5 : (xk_iv iv (0, nt)).2 ≤ 511 := d5
        intro env ad H locs ls sv h
        have hlen : env.length = iv.1.length := h.1.1
        obtain ⟨v1, l1, y, e1, hy⟩ := xk_ldI h hnt
        obtain ⟨v2, l5, k, e2, hkk⟩ := xk_ldI h hcv
        subst e1
        subst e2
        have hy : env[nt.toNat]? = some y.toInt := hy
        have hkk : env[cv.toNat]? = some k.toInt := hkk
        have by_ : (xk_iv iv (0, nt)).1 ≤ y.toInt ∧ y.toInt ≤ (xk_iv iv (0, nt)).2 := xk_iv_ok h.1 (show xk_n env (0, nt) _ from hy)
        have bk : (xk_iv iv (0, cv)).1 ≤ k.toInt ∧ k.toInt ≤ (xk_iv iv (0, cv)).2 := xk_iv_ok h.1 (show xk_n env (0, cv) _ from hkk)
        obtain ⟨u, gch⟩ : ∃ u : Int, env[ch.toNat]? = some u := ⟨_, List.getElem?_eq_getElem (by omega)⟩
        have bu : (xk_iv iv (0, ch)).1 ≤ u ∧ u ≤ (xk_iv iv (0, ch)).2 := xk_iv_ok h.1 (show xk_n env (0, ch) _ from gch)
        have f2 := xn_get (k := xk_big + 2) h.1 gch hy (by omega) d6
        rw [xn_d2] at f2
        have f2 : u ≤ (xf_cnt y.toInt.toNat 9 : Int) := f2
        have f5 := xn_get (k := xk_big + 5) h.1 hkk hy (by omega) d7
        rw [xn_d5] at f5
        have f5 : y.toInt.toNat.testBit k.toInt.toNat = false := f5
        have ey := xs_nat (x := y) (by omega)
        have ek := xs_nat (x := k) (by omega)
        have hor := xn_or y.toInt.toNat (by omega) k.toInt.toNat (by omega)
        obtain ⟨c1, c2⟩ := xn_cnt y.toInt.toNat (by omega) k.toInt.toNat (by omega) f5
        have c3 := xn_nine _ c2
        rw [← ey, ← ek] at hor
        have hz : (y ||| ((1 : Int32) <<< (k &&& 31))).toInt = ((y.toInt.toNat ||| 2 ^ k.toInt.toNat : Nat) : Int) := by
          rw [hor]
          exact Int32.toInt_ofNat_of_lt (by omega)
        obtain ⟨N1, s1, s2⟩ := xk_set_ok (I := ((xk_iv iv (0, ch)).1, min (xk_iv iv (0, ch)).2 8)) (av := (0, ch)) h.1 gch bu.1 (by show u ≤ min (xk_iv iv (0, ch)).2 8; omega)
        have len1 : N1.1.length = iv.1.length := by rw [← s2.1, hlen]
        have hokA := xk_ok_app (n := (y ||| ((1 : Int32) <<< (k &&& 31))).toInt) (q := (0, 511)) s2 (by rw [hz]; exact Int.natCast_nonneg _) (by rw [hz]; show ((y.toInt.toNat ||| 2 ^ k.toInt.toNat : Nat) : Int) ≤ 511; omega)
        have hwz : (env ++ [(y ||| ((1 : Int32) <<< (k &&& 31))).toInt])[N1.1.length]? = some (y ||| ((1 : Int32) <<< (k &&& 31))).toInt := by
          rw [len1, ← hlen]
          simp
        have hok := xr_add (i := ch.toNat) (n := N1.1.length) (k := xk_big + 4) hokA (xk_ga gch) hwz (by omega) (by rw [hz]; unfold xk_big; omega) (by rw [xn_d4]; intro j hj; simp only [List.mem_cons, List.not_mem_nil, or_false] at hj; rcases hj with rfl | rfl | rfl <;> simp) (by
          rw [xn_d4]
          show u + 1 ≤ (xf_cnt (y ||| ((1 : Int32) <<< (k &&& 31))).toInt.toNat 9 : Int)
          rw [hz, Int.toNat_natCast]
          omega)
        have h2 := xk_grow [(y ||| ((1 : Int32) <<< (k &&& 31))).toInt] h hok
        obtain ⟨lvs, t1, t2⟩ := xk_stI h2
        refine lv_iload_n hx hb (k := 2) (i := 2) (by decide +kernel) rfl l1 ?_
        refine lv_iconst hx hb (n := 1) (v := 1) (by decide +kernel) rfl ?_
        refine lv_iload hx hb (i := 5) (by decide +kernel) l5 ?_
        refine lv_ishl hx hb (by decide +kernel) ?_
        refine lv_ior hx hb (by decide +kernel) ?_
        refine lv_istore_n hx hb (k := 2) (i := 2) (by decide +kernel) rfl t1 (by decide) rfl (fun ls' g => ?_)
        refine kk (127, ((N1.1 ++ [(0, 511)], (ch.toNat, N1.1.length, xk_big + 4) :: N1.2), (2, (0, (N1.1.length : Int))) :: lo.filter (xk_f1 2), [], hp, kc, ks)) ?_ _ _ _ _ _ _ (t2 2 (0, (N1.1.length : Int)) _ ls' ⟨_, rfl, ?_⟩ g)
        · rw [show xk_set (iv, lo, ([] : List xk_V), hp, kc, ks).1 (0, ch) ((xk_iv (iv, lo, ([] : List xk_V), hp, kc, ks).1 (0, ch)).1, min (xk_iv (iv, lo, ([] : List xk_V), hp, kc, ks).1 (0, ch)).2 8) = some N1 from s1]
          exact List.mem_cons_self
        · show (env ++ [_])[((N1.1.length : Nat) : Int).toNat]? = _
          rw [Int.toNat_natCast, hwz]
      · cases hk
    · cases hk
  · cases hk
theorem xn_101_ok {e0 : List Int} {a0 : List Nat} {oq : xk_O} (F : xk_Fx p s m args c D A RX10 cX10_laysNaive 6) (SU : xk_SUH oq A s s.heap) (hR : xk_RnP l D RX10 cX10_laysNaive 6 R 101 xi_K xi_Φ) {σ : xk_S} {l2 : List (Nat × xk_S)} (hk : xn_101 σ = some l2) (kk : ∀ q ∈ l2, xk_G p l e R s m args below meth c Q (0, e0, a0, oq) 6 D A q.1 q.2) : xk_G p l e R s m args below meth c Q (0, e0, a0, oq) 6 D A 101 σ := by
  obtain ⟨iv, lo, st, hp, kc, ks⟩ := σ
  unfold xn_101 at hk
  split at hk
  · rename_i j may st' nt est hnt
    have est : st = (5, j) :: (0, may) :: st' := est
    subst est
    have hnt : xk_ov lo 2 = some (0, nt) := hnt
    split at hk
    · rename_i hcond
      obtain ⟨z1, z2, d0, d1, d2, d3, d4, d5, d6, d7, d8, d9, d10⟩ := hcond
      cases hk
      have z1 : kc = 0 := z1
      have z2 : ks = 0 := z2
      subst z1
      subst z2
      have d3 : may.toNat < iv.1.length := d3
      have d4 : nt.toNat < iv.1.length := d4
      have d5 : 1 ≤ (xk_iv iv (0, may)).1 := d5
      have d6 : (xk_iv iv (0, may)).2 ≤ 511 := d6
      have d7 : 0 ≤ (xk_iv iv (0, nt)).1 := d7
      refine xi_call (bv := (0, may)) (kv := (5, j)) F SU hR (Or.inr ⟨rfl, d3⟩) (Or.inl rfl) (by omega) d6 d1 d2 d8 (Nat.zero_le _) (Nat.zero_le _) ?_
      intro env ad H locs ls sv x y r h h0 hnx hny hr
      have hny : y = j := hny
      subst hny
      have hlen : env.length = iv.1.length := h0.1
      have hx : env[may.toNat]? = some x := hnx
      obtain ⟨t, ht⟩ : ∃ t : Int, env[nt.toNat]? = some t := ⟨_, List.getElem?_eq_getElem (by omega)⟩
      have bx : (xk_iv iv (0, may)).1 ≤ x ∧ x ≤ (xk_iv iv (0, may)).2 := xk_iv_ok h0 hnx
      have bt : (xk_iv iv (0, nt)).1 ≤ t ∧ t ≤ (xk_iv iv (0, nt)).2 := xk_iv_ok h0 (show xk_n env (0, nt) _ from ht)
      by_cases hbit : x.toNat.testBit y.toNat = true
      · rw [if_pos hbit] at hr
        subst hr
        have f3 := xn_get (k := xk_big + 3) h0 hx ht (by omega) d9
        rw [xn_d3] at f3
        have f5 := xn_dis (show x.toNat &&& t.toNat = 0 from f3) hbit
        have hok := xn_new (q := (0, 8)) (k := xk_big + 5) (z := y) h.1 d1 d2 (xk_ga ht) (by omega) (by unfold xk_big; omega) xn_d5 (fun _ => f5)
        have h2 := xk_grow [y] h hok
        have h3 := xk_push (av := (5, 1)) (v := .int (Int32.ofInt 1)) h2 ⟨_, rfl, by decide⟩
        obtain ⟨g0, ⟨lvs, g1, g2⟩, g3⟩ := h3
        refine kk _ List.mem_cons_self _ _ _ _ _ _ ⟨g0, ⟨lvs, g1, xn_map g2 ?_⟩, g3⟩
        intro a ha q haq
        unfold xn_l5
        split
        · rename_i h5
          have h6 := List.all_eq_true.mp d0 a ha
          have h7 : a.2 = (5, y) := by
            rw [h5] at h6
            exact xk_bV_eq h6
          obtain ⟨w, ew, hw⟩ : ∃ w : Int32, q.2 = .int w ∧ w.toInt = y := by
            have h8 := haq.2
            rw [h7] at h8
            exact h8
          refine ⟨h5 ▸ haq.1, w, ew, ?_⟩
          show ((env ++ [1]) ++ [y])[(((iv.1 ++ [((0 : Int), (1 : Int))]).length : Nat) : Int).toNat]? = _
          rw [Int.toNat_natCast, hw, show (iv.1 ++ [((0 : Int), (1 : Int))]).length = (env ++ [(1 : Int)]).length from h.1.1.symm]
          simp
        · exact haq
      · rw [if_neg hbit] at hr
        subst hr
        have hbit : x.toNat.testBit y.toNat = false := by simpa using hbit
        have hall : ∀ i : Nat, i < y.toNat + 1 → x.toNat.testBit i = false := by
          intro i hi
          rcases Nat.lt_or_ge i y.toNat with h1 | h1
          · rcases d10 with d10 | d10
            · omega
            · have f := xn_get (k := xk_big + 15 + 100000000000 * y) h0 hx hx (by omega) d10
              have e1 := xn_d15 y.toNat (by omega)
              rw [Int.toNat_of_nonneg d1] at e1
              rw [e1] at f
              exact f i h1
          · rw [show i = y.toNat by omega]
            exact hbit
        by_cases h8 : y < 8
        · have e1 := xn_d15 (y.toNat + 1) (by omega)
          rw [show ((y.toNat + 1 : Nat) : Int) = y + 1 by omega] at e1
          have hx2 : (env ++ [0])[may.toNat]? = some x := xk_ga hx
          have hok := xr_add (k := xk_big + 15 + 100000000000 * (y + 1)) h.1 hx2 hx2 (by omega) (by unfold xk_big; omega) (by rw [e1]; intro j hj; simp only [List.mem_cons, List.not_mem_nil, or_false] at hj; rcases hj with rfl | rfl | rfl <;> simp) (by rw [e1]; exact hall)
          have h2 := xk_bnd h hok
          have h3 := xk_push (av := (5, 0)) (v := .int (Int32.ofInt 0)) h2 ⟨_, rfl, by decide⟩
          refine kk (104, ((iv.1 ++ [(0, 1)], (may.toNat, may.toNat, xk_big + 15 + 100000000000 * (y + 1)) :: iv.2), lo, (5, 0) :: st', hp, 0, 0)) (List.mem_cons_of_mem _ ?_) _ _ _ _ _ _ h3
          rw [if_pos h8]
          exact List.mem_cons_self
        · exfalso
          have h9 := xn_zero x.toNat (by omega) (fun i hi => hall i (by omega))
          omega
    · cases hk
  · cases hk
theorem xn_HK {e0 : List Int} {a0 : List Nat} {oq : xk_O} (F : xk_Fx p s m args c D A RX10 cX10_laysNaive 6) (SU : xk_SUH oq A s s.heap) (hR : xk_RnP l D RX10 cX10_laysNaive 6 R 101 xi_K xi_Φ) (pc : Nat) (σ : xk_S) (l2 : List (Nat × xk_S)) (hk : xn_hk pc σ = some l2) (kk : ∀ q ∈ l2, xk_G p l e R s m args below meth c Q (0, e0, a0, oq) 6 D A q.1 q.2) : xk_G p l e R s m args below meth c Q (0, e0, a0, oq) 6 D A pc σ := by
  unfold xn_hk at hk
  split at hk
  · rename_i h1
    have h1 := Nat.eq_of_beq_eq_true h1
    subst h1
    exact xn_50_ok hk kk
  · split at hk
    · rename_i h1
      have h1 := Nat.eq_of_beq_eq_true h1
      subst h1
      exact xn_80_ok F hk kk
    · split at hk
      · rename_i h1
        have h1 := Nat.eq_of_beq_eq_true h1
        subst h1
        exact xn_101_ok F SU hR hk kk
      · split at hk
        · rename_i h1
          have h1 := Nat.eq_of_beq_eq_true h1
          subst h1
          exact xn_120_ok F hk kk
        · split at hk
          · rename_i h1
            have h1 := Nat.eq_of_beq_eq_true h1
            subst h1
            exact xn_148_ok hk kk
          · cases hk
end XN

def xk_full : xk_I := (-2147483648, 2147483647)
def xk_fulL : xk_I := (-9223372036854775808, 9223372036854775807)
theorem xk_full_ok (x : Int32) : xk_full.1 ≤ x.toInt ∧ x.toInt ≤ xk_full.2 := by
  have h1 := Int32.le_toInt x
  have h2 := Int32.toInt_lt x
  refine ⟨?_, ?_⟩
  · show (-2147483648 : Int) ≤ x.toInt; omega
  · show x.toInt ≤ (2147483647 : Int); omega
theorem xk_fulL_ok (x : Int64) : xk_fulL.1 ≤ x.toInt ∧ x.toInt ≤ xk_fulL.2 := by
  have h1 := Int64.le_toInt x
  have h2 := Int64.toInt_lt x
  refine ⟨?_, ?_⟩
  · show (-9223372036854775808 : Int) ≤ x.toInt; omega
  · show x.toInt ≤ (9223372036854775807 : Int); omega
def xk_fit (I : xk_I) : xk_I := if -2147483648 ≤ I.1 ∧ I.2 ≤ 2147483647 then I else xk_full
def xk_fitL (I : xk_I) : xk_I := if -9223372036854775808 ≤ I.1 ∧ I.2 ≤ 9223372036854775807 then I else xk_fulL
theorem xk_fit_ok {I : xk_I} {x : Int32} (h : -2147483648 ≤ I.1 → I.2 ≤ 2147483647 → I.1 ≤ x.toInt ∧ x.toInt ≤ I.2) : (xk_fit I).1 ≤ x.toInt ∧ x.toInt ≤ (xk_fit I).2 := by
  unfold xk_fit
  by_cases hI : -2147483648 ≤ I.1 ∧ I.2 ≤ 2147483647
  · rw [if_pos hI]; exact h hI.1 hI.2
  · rw [if_neg hI]; exact xk_full_ok x
theorem xk_fitL_ok {I : xk_I} {x : Int64} (h : -9223372036854775808 ≤ I.1 → I.2 ≤ 9223372036854775807 → I.1 ≤ x.toInt ∧ x.toInt ≤ I.2) : (xk_fitL I).1 ≤ x.toInt ∧ x.toInt ≤ (xk_fitL I).2 := by
  unfold xk_fitL
  by_cases hI : -9223372036854775808 ≤ I.1 ∧ I.2 ≤ 9223372036854775807
  · rw [if_pos hI]; exact h hI.1 hI.2
  · rw [if_neg hI]; exact xk_fulL_ok x
def xk_okR (f : Int32 → Int32 → Int32) (r : xk_I → xk_I → xk_I) : Prop := ∀ (x y : Int32) (I J : xk_I), I.1 ≤ x.toInt → x.toInt ≤ I.2 → J.1 ≤ y.toInt → y.toInt ≤ J.2 → (r I J).1 ≤ (f x y).toInt ∧ (f x y).toInt ≤ (r I J).2
def xk_op (f : Int32 → Int32 → Int32) (r : xk_I → xk_I → xk_I) (I J : xk_I) : xk_I := if I.1 = I.2 ∧ J.1 = J.2 then ((f (Int32.ofInt I.1) (Int32.ofInt J.1)).toInt, (f (Int32.ofInt I.1) (Int32.ofInt J.1)).toInt) else r I J
theorem xk_op_ok {f : Int32 → Int32 → Int32} {r : xk_I → xk_I → xk_I} (hr : xk_okR f r) {x y : Int32} {I J : xk_I} (h1 : I.1 ≤ x.toInt) (h2 : x.toInt ≤ I.2) (h3 : J.1 ≤ y.toInt) (h4 : y.toInt ≤ J.2) : (xk_op f r I J).1 ≤ (f x y).toInt ∧ (f x y).toInt ≤ (xk_op f r I J).2 := by
  unfold xk_op
  by_cases h : I.1 = I.2 ∧ J.1 = J.2
  · rw [if_pos h]
    have e1 : Int32.ofInt I.1 = x := by rw [show I.1 = x.toInt by omega, Int32.ofInt_toInt]
    have e2 : Int32.ofInt J.1 = y := by rw [show J.1 = y.toInt by omega, Int32.ofInt_toInt]
    rw [e1, e2]
    exact ⟨Int.le_refl _, Int.le_refl _⟩
  · rw [if_neg h]; exact hr x y I J h1 h2 h3 h4
def xk_okRL (f : Int64 → Int64 → Int64) (r : xk_I → xk_I → xk_I) : Prop := ∀ (x y : Int64) (I J : xk_I), I.1 ≤ x.toInt → x.toInt ≤ I.2 → J.1 ≤ y.toInt → y.toInt ≤ J.2 → (r I J).1 ≤ (f x y).toInt ∧ (f x y).toInt ≤ (r I J).2
def xk_opL (f : Int64 → Int64 → Int64) (r : xk_I → xk_I → xk_I) (I J : xk_I) : xk_I := if I.1 = I.2 ∧ J.1 = J.2 then ((f (Int64.ofInt I.1) (Int64.ofInt J.1)).toInt, (f (Int64.ofInt I.1) (Int64.ofInt J.1)).toInt) else r I J
theorem xk_opL_ok {f : Int64 → Int64 → Int64} {r : xk_I → xk_I → xk_I} (hr : xk_okRL f r) {x y : Int64} {I J : xk_I} (h1 : I.1 ≤ x.toInt) (h2 : x.toInt ≤ I.2) (h3 : J.1 ≤ y.toInt) (h4 : y.toInt ≤ J.2) : (xk_opL f r I J).1 ≤ (f x y).toInt ∧ (f x y).toInt ≤ (xk_opL f r I J).2 := by
  unfold xk_opL
  by_cases h : I.1 = I.2 ∧ J.1 = J.2
  · rw [if_pos h]
    have e1 : Int64.ofInt I.1 = x := by rw [show I.1 = x.toInt by omega, Int64.ofInt_toInt]
    have e2 : Int64.ofInt J.1 = y := by rw [show J.1 = y.toInt by omega, Int64.ofInt_toInt]
    rw [e1, e2]
    exact ⟨Int.le_refl _, Int.le_refl _⟩
  · rw [if_neg h]; exact hr x y I J h1 h2 h3 h4
def xk_any (_ _ : xk_I) : xk_I := xk_full
def xk_anL (_ _ : xk_I) : xk_I := xk_fulL
theorem xk_any_ok (f : Int32 → Int32 → Int32) : xk_okR f xk_any := fun x y _ _ _ _ _ _ => xk_full_ok (f x y)
theorem xk_anL_ok (f : Int64 → Int64 → Int64) : xk_okRL f xk_anL := fun x y _ _ _ _ _ _ => xk_fulL_ok (f x y)
theorem xk_bm {z : Int} (h1 : -2147483648 ≤ z) (h2 : z ≤ 2147483647) : z.bmod (2 ^ 32) = z := by
  rw [Int.bmod_eq_of_le (by omega) (by omega)]
theorem xk_bmL {z : Int} (h1 : -9223372036854775808 ≤ z) (h2 : z ≤ 9223372036854775807) : z.bmod (2 ^ 64) = z := by
  rw [Int.bmod_eq_of_le (by omega) (by omega)]
def xk_radd (I J : xk_I) : xk_I := xk_fit (I.1 + J.1, I.2 + J.2)
def xk_rsub (I J : xk_I) : xk_I := xk_fit (I.1 - J.2, I.2 - J.1)
theorem xk_radd_ok : xk_okR (fun x y => x + y) xk_radd := by
  intro x y I J h1 h2 h3 h4
  refine xk_fit_ok fun h5 h6 => ?_
  dsimp only at h5 h6 ⊢
  rw [Int32.toInt_add, xk_bm (by omega) (by omega)]
  omega
theorem xk_rsub_ok : xk_okR (fun x y => x - y) xk_rsub := by
  intro x y I J h1 h2 h3 h4
  refine xk_fit_ok fun h5 h6 => ?_
  dsimp only at h5 h6 ⊢
  rw [Int32.toInt_sub, xk_bm (by omega) (by omega)]
  omega
def xk_raddL (I J : xk_I) : xk_I := xk_fitL (I.1 + J.1, I.2 + J.2)
def xk_rsubL (I J : xk_I) : xk_I := xk_fitL (I.1 - J.2, I.2 - J.1)
theorem xk_raddL_ok : xk_okRL (fun x y => x + y) xk_raddL := by
  intro x y I J h1 h2 h3 h4
  refine xk_fitL_ok fun h5 h6 => ?_
  dsimp only at h5 h6 ⊢
  rw [Int64.toInt_add, xk_bmL (by omega) (by omega)]
  omega
theorem xk_rsubL_ok : xk_okRL (fun x y => x - y) xk_rsubL := by
  intro x y I J h1 h2 h3 h4
  refine xk_fitL_ok fun h5 h6 => ?_
  dsimp only at h5 h6 ⊢
  rw [Int64.toInt_sub, xk_bmL (by omega) (by omega)]
  omega
theorem xk_and_r (x y : Int32) (hy : 0 ≤ y.toInt) : 0 ≤ (x &&& y).toInt ∧ (x &&& y).toInt ≤ y.toInt := by
  have e1 : (x &&& y).toInt = (x.toBitVec &&& y.toBitVec).toInt := rfl
  have e2 : y.toInt = y.toBitVec.toInt := rfl
  rw [e2] at hy
  rw [e1, e2, BitVec.toInt_eq_toNat_cond, BitVec.toInt_eq_toNat_cond, BitVec.toNat_and]
  rw [BitVec.toInt_eq_toNat_cond] at hy
  have h1 : x.toBitVec.toNat &&& y.toBitVec.toNat ≤ y.toBitVec.toNat := Nat.and_le_right
  have h2 := y.toBitVec.isLt
  by_cases hc : 2 * y.toBitVec.toNat < 2 ^ 32
  · rw [if_pos hc] at hy ⊢
    rw [if_pos (by omega)]
    omega
  · rw [if_neg hc] at hy
    omega
def xk_rand (I J : xk_I) : xk_I := if 0 ≤ J.1 then (0, J.2) else if 0 ≤ I.1 then (0, I.2) else xk_full
theorem xk_rand_ok : xk_okR (fun x y => x &&& y) xk_rand := by
  intro x y I J h1 h2 h3 h4
  unfold xk_rand
  by_cases hJ : 0 ≤ J.1
  · rw [if_pos hJ]
    have h := xk_and_r x y (by omega)
    exact ⟨h.1, by show (x &&& y).toInt ≤ J.2; omega⟩
  · rw [if_neg hJ]
    by_cases hI : 0 ≤ I.1
    · rw [if_pos hI]
      have h := xk_and_r y x (by omega)
      rw [Int32.and_comm] at h
      exact ⟨h.1, by show (x &&& y).toInt ≤ I.2; omega⟩
    · rw [if_neg hI]; exact xk_full_ok _
/-- what a new number is to its operands: the first (or the second), at most it and k (or at least), k -/
abbrev xk_Rg : Type := Bool × Bool × Int
def xk_rgP (z x y : Int) (g : xk_Rg) : Prop := if g.2.1 then z ≤ (if g.1 then x else y) + g.2.2 else (if g.1 then x else y) ≤ z + g.2.2
def xk_okG (f : Int32 → Int32 → Int32) (g : xk_I → xk_I → List xk_Rg) : Prop := ∀ (x y : Int32) (I J : xk_I), I.1 ≤ x.toInt → x.toInt ≤ I.2 → J.1 ≤ y.toInt → y.toInt ≤ J.2 → ∀ q ∈ g I J, xk_rgP (f x y).toInt x.toInt y.toInt q
def xk_rgo (a cv : xk_V) (g : xk_Rg) : xk_V := if g.1 then a else cv
def xk_rg1 (n : Nat) (a cv : xk_V) (g : xk_Rg) : List xk_R := if xk_isC (xk_rgo a cv g) || decide (xk_big ≤ g.2.2) then [] else if g.2.1 then [(n, (xk_rgo a cv g).2.toNat, g.2.2)] else [((xk_rgo a cv g).2.toNat, n, g.2.2)]
/-- a new number with its bounds, and what it is to its operands -/
def xk_nr (iv : xk_N) (I : xk_I) (a cv : xk_V) (gs : List xk_Rg) : xk_N × xk_V := if I.1 = I.2 then (iv, (5, I.1)) else ((iv.1 ++ [I], gs.flatMap (xk_rg1 iv.1.length a cv) ++ iv.2), (0, (iv.1.length : Int)))
theorem xk_nr_ok {b : xk_b} {env : List Int} {ad : List Nat} {iv : xk_N} {I : xk_I} {a cv : xk_V} {gs : List xk_Rg} {x y z : Int32} (h : xk_ok env iv) (hx : xk_n env a x.toInt) (hy : xk_n env cv y.toInt) (h1 : I.1 ≤ z.toInt) (h2 : z.toInt ≤ I.2) (hg : ∀ q ∈ gs, xk_rgP z.toInt x.toInt y.toInt q) : ∃ e2 : List Int, xk_ok (env ++ e2) (xk_nr iv I a cv gs).1 ∧ xk_v b (env ++ e2) ad (xk_nr iv I a cv gs).2 (.int z) := by
  unfold xk_nr
  by_cases hI : I.1 = I.2
  · rw [if_pos hI]
    exact ⟨[], by rw [List.append_nil]; exact h, z, rfl, by show z.toInt = I.1; omega⟩
  · rw [if_neg hI]
    have ho := xk_ok_app h h1 h2
    have hz : (env ++ [z.toInt])[iv.1.length]? = some z.toInt := by rw [← h.1]; simp
    refine ⟨[z.toInt], ⟨ho.1, ho.2.1, fun r hr => ?_⟩, z, rfl, ?_⟩
    · rcases List.mem_append.mp hr with hr | hr
      · obtain ⟨g, hgm, hr⟩ := List.mem_flatMap.mp hr
        have hP := hg g hgm
        unfold xk_rg1 at hr
        split at hr
        · cases hr
        · rename_i hc0
          rw [Bool.or_eq_true, decide_eq_true_eq] at hc0
          have hc : ¬ xk_isC (xk_rgo a cv g) = true := fun z => hc0 (Or.inl z)
          have hbg : ¬ xk_big ≤ g.2.2 := fun z => hc0 (Or.inr z)
          have hnc : xk_n (env ++ [z.toInt]) (xk_rgo a cv g) (if g.1 then x.toInt else y.toInt) := by
            have h3 : xk_n env (xk_rgo a cv g) (if g.1 then x.toInt else y.toInt) := by
              unfold xk_rgo
              by_cases hg1 : g.1 = true
              · rw [if_pos hg1, if_pos hg1]; exact hx
              · rw [if_neg hg1, if_neg hg1]; exact hy
            unfold xk_n at h3 ⊢
            rw [if_neg hc] at h3 ⊢
            exact xk_ga h3
          unfold xk_n at hnc
          rw [if_neg hc] at hnc
          have hlo := (List.getElem?_eq_some_iff.mp hnc).1
          have hlz := (List.getElem?_eq_some_iff.mp hz).1
          unfold xk_rgP at hP
          split at hr
          · rename_i hd
            rw [if_pos hd] at hP
            have e := List.mem_singleton.mp hr
            subst e
            refine ⟨hlz, hlo, fun u v hu hv => ?_, fun z => absurd z hbg⟩
            have e1 : (env ++ [z.toInt])[iv.1.length]? = some u := hu
            have e2 : (env ++ [z.toInt])[(xk_rgo a cv g).2.toNat]? = some v := hv
            rw [hz] at e1
            rw [hnc] at e2
            cases e1
            have e3 := Option.some.inj e2
            rw [← e3]
            exact hP
          · rename_i hd
            rw [if_neg hd] at hP
            have e := List.mem_singleton.mp hr
            subst e
            refine ⟨hlo, hlz, fun u v hu hv => ?_, fun z => absurd z hbg⟩
            have e1 : (env ++ [z.toInt])[iv.1.length]? = some v := hv
            have e2 : (env ++ [z.toInt])[(xk_rgo a cv g).2.toNat]? = some u := hu
            rw [hz] at e1
            rw [hnc] at e2
            cases e1
            have e3 := Option.some.inj e2
            rw [← e3]
            exact hP
      · exact ho.2.2 r hr
    · show (env ++ [z.toInt])[(iv.1.length : Int).toNat]? = some z.toInt
      rw [Int.toNat_natCast]
      exact hz
def xk_fitb (I : xk_I) : Bool := decide (-2147483648 ≤ I.1) && decide (I.2 ≤ 2147483647)
def xk_gadd (I J : xk_I) : List xk_Rg := if xk_fitb (I.1 + J.1, I.2 + J.2) then (if J.1 = J.2 then [(true, true, J.1), (true, false, -J.1)] else if I.1 = I.2 then [(false, true, I.1), (false, false, -I.1)] else []) else []
theorem xk_gadd_ok : xk_okG (fun x y => x + y) xk_gadd := by
  intro x y I J h1 h2 h3 h4 q hq
  unfold xk_gadd at hq
  split at hq
  · rename_i hf
    unfold xk_fitb at hf
    simp only [Bool.and_eq_true, decide_eq_true_eq] at hf
    have hs : (x + y).toInt = x.toInt + y.toInt := by rw [Int32.toInt_add]; exact xk_bm (by omega) (by omega)
    split at hq
    · rename_i hJ
      simp only [List.mem_cons, List.not_mem_nil, or_false] at hq
      unfold xk_rgP
      rcases hq with rfl | rfl
      · show (x + y).toInt ≤ x.toInt + J.1; omega
      · show x.toInt ≤ (x + y).toInt + -J.1; omega
    · split at hq
      · rename_i hI
        simp only [List.mem_cons, List.not_mem_nil, or_false] at hq
        unfold xk_rgP
        rcases hq with rfl | rfl
        · show (x + y).toInt ≤ y.toInt + I.1; omega
        · show y.toInt ≤ (x + y).toInt + -I.1; omega
      · cases hq
  · cases hq
def xk_gno (_ _ : xk_I) : List xk_Rg := []
theorem xk_gno_ok (f : Int32 → Int32 → Int32) : xk_okG f xk_gno := by
  intro x y I J _ _ _ _ q hq
  cases hq
section XB
variable {p : Program} {l : Launch} {e : Env} {R : Room} {s : State} {m : MethodId} {args : Array Value} {below : List Frame} {meth : Method} {c : Code} {Q : State → Prop} {b : xk_b} {D : va_G} {A : Nat → Prop} {own : String} {cc : ByteArray} {nL : Nat} {pc : Nat} {iv iv' : xk_N} {lo : List (Nat × xk_V)} {st : List xk_V} {hp : List xk_C} {kc ks : Nat}
theorem xk_s_ci {len : Nat} {x : Int32} (row : ∀ (H : Heap) (locs : List Loc) (cells slots : Nat) (ls : Array Slot) (rest : List Value), W p l e R s m args below meth c H locs cells slots Q (F0 m (pc + len) ls (.int x :: rest)) → W p l e R s m args below meth c H locs cells slots Q (F0 m pc ls rest)) (k : xk_G p l e R s m args below meth c Q b nL D A (pc + len) (iv, lo, (5, x.toInt) :: st, hp, kc, ks)) : xk_G p l e R s m args below meth c Q b nL D A pc (iv, lo, st, hp, kc, ks) :=
  fun env ad H locs ls sv h => row _ _ _ _ _ _ (k _ _ _ _ _ _ (xk_push h ⟨x, rfl, rfl⟩))
theorem xk_s_cl {len : Nat} {x : Int64} (row : ∀ (H : Heap) (locs : List Loc) (cells slots : Nat) (ls : Array Slot) (rest : List Value), W p l e R s m args below meth c H locs cells slots Q (F0 m (pc + len) ls (.long x :: rest)) → W p l e R s m args below meth c H locs cells slots Q (F0 m pc ls rest)) (k : xk_G p l e R s m args below meth c Q b nL D A (pc + len) (iv, lo, (6, x.toInt) :: st, hp, kc, ks)) : xk_G p l e R s m args below meth c Q b nL D A pc (iv, lo, st, hp, kc, ks) :=
  fun env ad H locs ls sv h => row _ _ _ _ _ _ (k _ _ _ _ _ _ (xk_push h ⟨x, rfl, rfl⟩))
theorem xk_s_ldI {len i : Nat} {av : xk_V} (hq : xk_ov lo i = some av) (hi : xk_isI av = true) (row : ∀ (H : Heap) (locs : List Loc) (cells slots : Nat) (ls : Array Slot) (rest : List Value) (x : Int32), ls[i]? = some (.val (.int x)) → W p l e R s m args below meth c H locs cells slots Q (F0 m (pc + len) ls (.int x :: rest)) → W p l e R s m args below meth c H locs cells slots Q (F0 m pc ls rest)) (k : xk_G p l e R s m args below meth c Q b nL D A (pc + len) (iv, lo, av :: st, hp, kc, ks)) : xk_G p l e R s m args below meth c Q b nL D A pc (iv, lo, st, hp, kc, ks) := by
  intro env ad H locs ls sv h
  obtain ⟨v, h1, h2⟩ := xk_ldI h hq
  obtain ⟨x, rfl, -⟩ := xk_vI hi h2
  exact row _ _ _ _ _ _ x h1 (k _ _ _ _ _ _ (xk_push h h2))
theorem xk_s_ldL {len i : Nat} {av : xk_V} (hq : xk_ov lo i = some av) (hi : xk_isL av = true) (row : ∀ (H : Heap) (locs : List Loc) (cells slots : Nat) (ls : Array Slot) (rest : List Value) (x : Int64), ls[i]? = some (.val (.long x)) → W p l e R s m args below meth c H locs cells slots Q (F0 m (pc + len) ls (.long x :: rest)) → W p l e R s m args below meth c H locs cells slots Q (F0 m pc ls rest)) (k : xk_G p l e R s m args below meth c Q b nL D A (pc + len) (iv, lo, av :: st, hp, kc, ks)) : xk_G p l e R s m args below meth c Q b nL D A pc (iv, lo, st, hp, kc, ks) := by
  intro env ad H locs ls sv h
  obtain ⟨v, h1, h2⟩ := xk_ldI h hq
  obtain ⟨x, rfl, -⟩ := xk_vL hi h2
  exact row _ _ _ _ _ _ x h1 (k _ _ _ _ _ _ (xk_push h h2))
def xk_isR (av : xk_V) : Bool := match av.1 with
  | 2 => true
  | 4 => true
  | 7 => true
  | 8 => !(Nat.beq av.2.toNat 32)
  | _ => false
theorem xk_vR {env : List Int} {ad : List Nat} {av : xk_V} {v : Value} (h : xk_isR av = true) (hv : xk_v b env ad av v) : ∃ a : Nat, v = .ref a := by
  obtain ⟨t, i⟩ := av
  rcases t with _ | _ | _ | _ | _ | _ | _ | _ | _ | _ | _ | t
  · cases h
  · cases h
  · obtain ⟨a, h1, -⟩ := hv; exact ⟨a, h1⟩
  · cases h
  · exact ⟨b.1 - 1, hv.1⟩
  · cases h
  · cases h
  · obtain ⟨a, h1, -⟩ := hv; exact ⟨a, h1⟩
  · have h1 : (!(Nat.beq i.toNat 32)) = true := h
    have h2 : i.toNat ≠ 32 := fun z => by
      rw [z] at h1
      cases h1
    exact ⟨_, (show v = xk_tv b.2.2.2.2 i.toNat from hv).trans (xk_tv_of h2)⟩
  · cases h
  · cases h
  · cases h
theorem xk_s_ldR {len i : Nat} {av : xk_V} (hq : xk_ov lo i = some av) (hi : xk_isR av = true) (row : ∀ (H : Heap) (locs : List Loc) (cells slots : Nat) (ls : Array Slot) (rest : List Value) (x : Nat), ls[i]? = some (.val (.ref x)) → W p l e R s m args below meth c H locs cells slots Q (F0 m (pc + len) ls (.ref x :: rest)) → W p l e R s m args below meth c H locs cells slots Q (F0 m pc ls rest)) (k : xk_G p l e R s m args below meth c Q b nL D A (pc + len) (iv, lo, av :: st, hp, kc, ks)) : xk_G p l e R s m args below meth c Q b nL D A pc (iv, lo, st, hp, kc, ks) := by
  intro env ad H locs ls sv h
  obtain ⟨v, h1, h2⟩ := xk_ldI h hq
  obtain ⟨x, rfl⟩ := xk_vR hi h2
  exact row _ _ _ _ _ _ x h1 (k _ _ _ _ _ _ (xk_push h h2))
theorem xk_s_stI {len i : Nat} {av : xk_V} (hi : xk_isI av = true) (row : ∀ (H : Heap) (locs : List Loc) (cells slots : Nat) (ls : Array Slot) (rest : List Value) (x : Int32) (lv : List (Nat × Value)), lv_has ls nL lv → (∀ ls' : Array Slot, lv_has ls' nL ((i, Value.int x) :: lv.filter (fun q => !(q.1 == i) && !(q.1 + 1 == i && q.2.category == 2))) → W p l e R s m args below meth c H locs cells slots Q (F0 m (pc + len) ls' rest)) → W p l e R s m args below meth c H locs cells slots Q (F0 m pc ls (.int x :: rest))) (k : xk_G p l e R s m args below meth c Q b nL D A (pc + len) (iv, (i, av) :: lo.filter (xk_f1 i), st, hp, kc, ks)) : xk_G p l e R s m args below meth c Q b nL D A pc (iv, lo, av :: st, hp, kc, ks) := by
  intro env ad H locs ls sv h
  obtain ⟨v, rest, rfl, hv, h1⟩ := xk_pop h
  obtain ⟨x, rfl, -⟩ := xk_vI hi hv
  obtain ⟨lvs, hl, hk⟩ := xk_stI h1
  exact row _ _ _ _ _ _ x lvs hl (fun ls' hl' => k _ _ _ _ _ _ (hk i av _ ls' hv hl'))
theorem xk_s_stR {len i : Nat} {av : xk_V} (hi : xk_isR av = true) (row : ∀ (H : Heap) (locs : List Loc) (cells slots : Nat) (ls : Array Slot) (rest : List Value) (x : Nat) (lv : List (Nat × Value)), lv_has ls nL lv → (∀ ls' : Array Slot, lv_has ls' nL ((i, Value.ref x) :: lv.filter (fun q => !(q.1 == i) && !(q.1 + 1 == i && q.2.category == 2))) → W p l e R s m args below meth c H locs cells slots Q (F0 m (pc + len) ls' rest)) → W p l e R s m args below meth c H locs cells slots Q (F0 m pc ls (.ref x :: rest))) (k : xk_G p l e R s m args below meth c Q b nL D A (pc + len) (iv, (i, av) :: lo.filter (xk_f1 i), st, hp, kc, ks)) : xk_G p l e R s m args below meth c Q b nL D A pc (iv, lo, av :: st, hp, kc, ks) := by
  intro env ad H locs ls sv h
  obtain ⟨v, rest, rfl, hv, h1⟩ := xk_pop h
  obtain ⟨x, rfl⟩ := xk_vR hi hv
  obtain ⟨lvs, hl, hk⟩ := xk_stI h1
  exact row _ _ _ _ _ _ x lvs hl (fun ls' hl' => k _ _ _ _ _ _ (hk i av _ ls' hv hl'))
theorem xk_s_stL {len i : Nat} {av : xk_V} (hi : xk_isL av = true) (row : ∀ (H : Heap) (locs : List Loc) (cells slots : Nat) (ls : Array Slot) (rest : List Value) (x : Int64) (lv : List (Nat × Value)), lv_has ls nL lv → (∀ ls' : Array Slot, lv_has ls' nL ((i, Value.long x) :: lv.filter (fun q => !(q.1 == i) && (!(q.1 == i + 1) && !(q.1 + 1 == i && q.2.category == 2)))) → W p l e R s m args below meth c H locs cells slots Q (F0 m (pc + len) ls' rest)) → W p l e R s m args below meth c H locs cells slots Q (F0 m pc ls (.long x :: rest))) (k : xk_G p l e R s m args below meth c Q b nL D A (pc + len) (iv, (i, av) :: lo.filter (xk_f2 i), st, hp, kc, ks)) : xk_G p l e R s m args below meth c Q b nL D A pc (iv, lo, av :: st, hp, kc, ks) := by
  intro env ad H locs ls sv h
  obtain ⟨v, rest, rfl, hv, h1⟩ := xk_pop h
  obtain ⟨x, rfl, -⟩ := xk_vL hi hv
  obtain ⟨lvs, hl, hk⟩ := xk_stL h1
  exact row _ _ _ _ _ _ x lvs hl (fun ls' hl' => k _ _ _ _ _ _ (hk i av _ ls' hv hl'))
/-- a load that takes a number apart into its single values -/
theorem xk_s_split {av : xk_V} {i : Nat} (hq : xk_ov lo i = some av) (hi : xk_isI av = true) (k : ∀ (j : Int) (iv1 : xk_N), (xk_iv iv av).1 ≤ j → j ≤ (xk_iv iv av).2 → xk_set iv av (j, j) = some iv1 → xk_G p l e R s m args below meth c Q b nL D A pc (iv1, (i, (5, j)) :: lo, st, hp, kc, ks)) : xk_G p l e R s m args below meth c Q b nL D A pc (iv, lo, st, hp, kc, ks) := by
  intro env ad H locs ls sv h
  obtain ⟨h0, ⟨lvs, hl, hr⟩, h3⟩ := id h
  obtain ⟨kk, v, e1, e2⟩ := xk_lo_get hr hq
  obtain ⟨x, rfl, hn⟩ := xk_vI hi e2
  have hb := xk_iv_ok h0 hn
  obtain ⟨iv1, e3, h4⟩ := xk_set_ok (I := (x.toInt, x.toInt)) h0 hn (Int.le_refl _) (Int.le_refl _)
  refine k x.toInt iv1 hb.1 hb.2 e3 env ad H locs ls sv ⟨h4, ⟨(i, .int x) :: lvs, ⟨hl.1, hl.2.1, fun q hq => ?_⟩, ⟨rfl, x, rfl, rfl⟩, hr⟩, h3⟩
  rcases List.mem_cons.mp hq with rfl | hq
  · exact lv_at hl kk e1
  · exact hl.2.2 q hq
theorem xk_s_iinc {len i : Nat} {n : Int} {av : xk_V} (hq : xk_ov lo i = some av) (hi : xk_isI av = true) (row : ∀ (H : Heap) (locs : List Loc) (cells slots : Nat) (ls : Array Slot) (rest : List Value) (x : Int32) (lv : List (Nat × Value)) (kk : Nat), lv_has ls nL lv → lv[kk]? = some (i, .int x) → (∀ ls' : Array Slot, lv_has ls' nL ((i, Value.int (x + Int32.ofInt n)) :: lv.filter (fun q => !(q.1 == i) && !(q.1 + 1 == i && q.2.category == 2))) → W p l e R s m args below meth c H locs cells slots Q (F0 m (pc + len) ls' rest)) → W p l e R s m args below meth c H locs cells slots Q (F0 m pc ls rest)) (k : xk_G p l e R s m args below meth c Q b nL D A (pc + len) ((xk_nr iv (xk_op (fun x y => x + y) xk_radd (xk_iv iv av) ((Int32.ofInt n).toInt, (Int32.ofInt n).toInt)) av (5, (Int32.ofInt n).toInt) (xk_gadd (xk_iv iv av) ((Int32.ofInt n).toInt, (Int32.ofInt n).toInt))).1, (i, (xk_nr iv (xk_op (fun x y => x + y) xk_radd (xk_iv iv av) ((Int32.ofInt n).toInt, (Int32.ofInt n).toInt)) av (5, (Int32.ofInt n).toInt) (xk_gadd (xk_iv iv av) ((Int32.ofInt n).toInt, (Int32.ofInt n).toInt))).2) :: lo.filter (xk_f1 i), st, hp, kc, ks)) : xk_G p l e R s m args below meth c Q b nL D A pc (iv, lo, st, hp, kc, ks) := by
  intro env ad H locs ls sv h
  obtain ⟨h0, ⟨lvs, hl, hr⟩, h3⟩ := id h
  obtain ⟨kk, v, e1, e2⟩ := xk_lo_get hr hq
  obtain ⟨x, rfl, hn⟩ := xk_vI hi e2
  have hb := xk_iv_ok h0 hn
  have h5 := xk_op_ok xk_radd_ok (x := x) (y := Int32.ofInt n) hb.1 hb.2 (J := ((Int32.ofInt n).toInt, (Int32.ofInt n).toInt)) (Int.le_refl _) (Int.le_refl _)
  obtain ⟨e2, a, q⟩ := xk_nr_ok (b := b) (ad := ad) (cv := (5, (Int32.ofInt n).toInt)) (y := Int32.ofInt n) h0 hn rfl h5.1 h5.2 (xk_gadd_ok x (Int32.ofInt n) _ ((Int32.ofInt n).toInt, (Int32.ofInt n).toInt) hb.1 hb.2 (Int.le_refl _) (Int.le_refl _))
  have hg := xk_grow e2 h a
  refine row _ _ _ _ _ _ x lvs kk hl e1 (fun ls' hl' => k _ _ _ _ _ _ ⟨hg.1, ⟨_, hl', ⟨rfl, q⟩, ?_⟩, hg.2.2⟩)
  exact xk_r2_filter (fun a q hq => by unfold xk_f1; rw [hq.1, xk_v_cat hq.2]) (xk_r2_mono (fun _ _ q => ⟨q.1, xk_v_e e2 q.2⟩) hr)
theorem xk_s_bin {f : Int32 → Int32 → Int32} {r : xk_I → xk_I → xk_I} {g : xk_I → xk_I → List xk_Rg} (hr : xk_okR f r) (hg : xk_okG f g) {a cv : xk_V} (ha : xk_isI a = true) (hc : xk_isI cv = true) (row : ∀ (H : Heap) (locs : List Loc) (cells slots : Nat) (ls : Array Slot) (rest : List Value) (x y : Int32), (xk_iv iv cv).1 ≤ y.toInt → y.toInt ≤ (xk_iv iv cv).2 → W p l e R s m args below meth c H locs cells slots Q (F0 m (pc + 1) ls (.int (f x y) :: rest)) → W p l e R s m args below meth c H locs cells slots Q (F0 m pc ls (.int y :: .int x :: rest)))
    (k : xk_G p l e R s m args below meth c Q b nL D A (pc + 1) ((xk_nr iv (xk_op f r (xk_iv iv a) (xk_iv iv cv)) a cv (g (xk_iv iv a) (xk_iv iv cv))).1, lo, (xk_nr iv (xk_op f r (xk_iv iv a) (xk_iv iv cv)) a cv (g (xk_iv iv a) (xk_iv iv cv))).2 :: st, hp, kc, ks)) : xk_G p l e R s m args below meth c Q b nL D A pc (iv, lo, cv :: a :: st, hp, kc, ks) := by
  intro env ad H locs ls sv h
  obtain ⟨y, r1, rfl, hy, h1⟩ := xk_popI h hc
  obtain ⟨x, r2, rfl, hx, h2⟩ := xk_popI h1 ha
  have b1 := xk_iv_ok h.1 hx
  have b2 := xk_iv_ok h.1 hy
  have h5 := xk_op_ok hr b1.1 b1.2 b2.1 b2.2
  obtain ⟨e2, o2, v2⟩ := xk_nr_ok (b := b) (ad := ad) h.1 hx hy h5.1 h5.2 (hg x y _ _ b1.1 b1.2 b2.1 b2.2)
  exact row _ _ _ _ _ _ x y b2.1 b2.2 (k _ _ _ _ _ _ (xk_push (xk_grow e2 h2 o2) v2))
theorem xk_s_binL {f : Int64 → Int64 → Int64} {r : xk_I → xk_I → xk_I} (hr : xk_okRL f r) {a cv : xk_V} (ha : xk_isL a = true) (hc : xk_isL cv = true) (row : ∀ (H : Heap) (locs : List Loc) (cells slots : Nat) (ls : Array Slot) (rest : List Value) (x y : Int64), (xk_iv iv cv).1 ≤ y.toInt → y.toInt ≤ (xk_iv iv cv).2 → W p l e R s m args below meth c H locs cells slots Q (F0 m (pc + 1) ls (.long (f x y) :: rest)) → W p l e R s m args below meth c H locs cells slots Q (F0 m pc ls (.long y :: .long x :: rest)))
    (k : xk_G p l e R s m args below meth c Q b nL D A (pc + 1) ((xk_new 1 iv (xk_opL f r (xk_iv iv a) (xk_iv iv cv))).1, lo, (xk_new 1 iv (xk_opL f r (xk_iv iv a) (xk_iv iv cv))).2 :: st, hp, kc, ks)) : xk_G p l e R s m args below meth c Q b nL D A pc (iv, lo, cv :: a :: st, hp, kc, ks) := by
  intro env ad H locs ls sv h
  obtain ⟨y, r1, rfl, hy, h1⟩ := xk_popL h hc
  obtain ⟨x, r2, rfl, hx, h2⟩ := xk_popL h1 ha
  have b1 := xk_iv_ok h.1 hx
  have b2 := xk_iv_ok h.1 hy
  have h5 := xk_opL_ok hr b1.1 b1.2 b2.1 b2.2
  obtain ⟨e2, hq⟩ := xk_pushL h2 h5.1 h5.2
  exact row _ _ _ _ _ _ x y b2.1 b2.2 (k _ _ _ _ _ _ hq)
/-- a long by an int: bounds are given up, but for two constants -/
def xk_opS (f : Int64 → Int32 → Int64) (I J : xk_I) : xk_I := if I.1 = I.2 ∧ J.1 = J.2 then ((f (Int64.ofInt I.1) (Int32.ofInt J.1)).toInt, (f (Int64.ofInt I.1) (Int32.ofInt J.1)).toInt) else xk_fulL
theorem xk_opS_ok {f : Int64 → Int32 → Int64} {x : Int64} {y : Int32} {I J : xk_I} (h1 : I.1 ≤ x.toInt) (h2 : x.toInt ≤ I.2) (h3 : J.1 ≤ y.toInt) (h4 : y.toInt ≤ J.2) : (xk_opS f I J).1 ≤ (f x y).toInt ∧ (f x y).toInt ≤ (xk_opS f I J).2 := by
  unfold xk_opS
  by_cases h : I.1 = I.2 ∧ J.1 = J.2
  · rw [if_pos h]
    have e1 : Int64.ofInt I.1 = x := by rw [show I.1 = x.toInt by omega, Int64.ofInt_toInt]
    have e2 : Int32.ofInt J.1 = y := by rw [show J.1 = y.toInt by omega, Int32.ofInt_toInt]
    rw [e1, e2]
    exact ⟨Int.le_refl _, Int.le_refl _⟩
  · rw [if_neg h]; exact xk_fulL_ok _
theorem xk_s_binS {f : Int64 → Int32 → Int64} {a cv : xk_V} (ha : xk_isL a = true) (hc : xk_isI cv = true) (row : ∀ (H : Heap) (locs : List Loc) (cells slots : Nat) (ls : Array Slot) (rest : List Value) (x : Int64) (y : Int32), W p l e R s m args below meth c H locs cells slots Q (F0 m (pc + 1) ls (.long (f x y) :: rest)) → W p l e R s m args below meth c H locs cells slots Q (F0 m pc ls (.int y :: .long x :: rest)))
    (k : xk_G p l e R s m args below meth c Q b nL D A (pc + 1) ((xk_new 1 iv (xk_opS f (xk_iv iv a) (xk_iv iv cv))).1, lo, (xk_new 1 iv (xk_opS f (xk_iv iv a) (xk_iv iv cv))).2 :: st, hp, kc, ks)) : xk_G p l e R s m args below meth c Q b nL D A pc (iv, lo, cv :: a :: st, hp, kc, ks) := by
  intro env ad H locs ls sv h
  obtain ⟨y, r1, rfl, hy, h1⟩ := xk_popI h hc
  obtain ⟨x, r2, rfl, hx, h2⟩ := xk_popL h1 ha
  have b1 := xk_iv_ok h.1 hx
  have b2 := xk_iv_ok h.1 hy
  have h5 := xk_opS_ok (f := f) b1.1 b1.2 b2.1 b2.2
  obtain ⟨e2, hq⟩ := xk_pushL h2 h5.1 h5.2
  exact row _ _ _ _ _ _ x y (k _ _ _ _ _ _ hq)
/-- one int to another -/
def xk_op1 (f : Int32 → Int32) (d I : xk_I) : xk_I := if I.1 = I.2 then ((f (Int32.ofInt I.1)).toInt, (f (Int32.ofInt I.1)).toInt) else d
theorem xk_s_un {f : Int32 → Int32} {d : xk_I} (hd : ∀ x, d.1 ≤ (f x).toInt ∧ (f x).toInt ≤ d.2) {a : xk_V} (ha : xk_isI a = true) (row : ∀ (H : Heap) (locs : List Loc) (cells slots : Nat) (ls : Array Slot) (rest : List Value) (x : Int32), W p l e R s m args below meth c H locs cells slots Q (F0 m (pc + 1) ls (.int (f x) :: rest)) → W p l e R s m args below meth c H locs cells slots Q (F0 m pc ls (.int x :: rest)))
    (k : xk_G p l e R s m args below meth c Q b nL D A (pc + 1) ((xk_new 0 iv (xk_op1 f d (xk_iv iv a))).1, lo, (xk_new 0 iv (xk_op1 f d (xk_iv iv a))).2 :: st, hp, kc, ks)) : xk_G p l e R s m args below meth c Q b nL D A pc (iv, lo, a :: st, hp, kc, ks) := by
  intro env ad H locs ls sv h
  obtain ⟨x, r1, rfl, hx, h1⟩ := xk_popI h ha
  have b1 : (xk_iv iv a).1 ≤ x.toInt ∧ x.toInt ≤ (xk_iv iv a).2 := xk_iv_ok h.1 hx
  have h5 : (xk_op1 f d (xk_iv iv a)).1 ≤ (f x).toInt ∧ (f x).toInt ≤ (xk_op1 f d (xk_iv iv a)).2 := by
    unfold xk_op1
    by_cases hI : (xk_iv iv a).1 = (xk_iv iv a).2
    · rw [if_pos hI]
      have e1 : Int32.ofInt (xk_iv iv a).1 = x := by rw [show (xk_iv iv a).1 = x.toInt by omega, Int32.ofInt_toInt]
      rw [e1]
      exact ⟨Int.le_refl _, Int.le_refl _⟩
    · rw [if_neg hI]; exact hd x
  obtain ⟨e2, hq⟩ := xk_pushI h1 h5.1 h5.2
  exact row _ _ _ _ _ _ x (k _ _ _ _ _ _ hq)
/-- an int as a long: the same number -/
theorem xk_s_i2l {a : xk_V} (ha : xk_isI a = true) (row : ∀ (H : Heap) (locs : List Loc) (cells slots : Nat) (ls : Array Slot) (rest : List Value) (x : Int32), W p l e R s m args below meth c H locs cells slots Q (F0 m (pc + 1) ls (.long x.toInt64 :: rest)) → W p l e R s m args below meth c H locs cells slots Q (F0 m pc ls (.int x :: rest)))
    (k : xk_G p l e R s m args below meth c Q b nL D A (pc + 1) (iv, lo, (a.1 + 1, a.2) :: st, hp, kc, ks)) : xk_G p l e R s m args below meth c Q b nL D A pc (iv, lo, a :: st, hp, kc, ks) := by
  intro env ad H locs ls sv h
  obtain ⟨v, rest, rfl, hv, h1⟩ := xk_pop h
  obtain ⟨x, rfl, -⟩ := xk_vI ha hv
  refine row _ _ _ _ _ _ x (k _ _ _ _ _ _ (xk_push h1 ?_))
  obtain ⟨t, i⟩ := a
  rcases t with _ | _ | _ | _ | _ | _ | _ | t
  · obtain ⟨y, e1, e2⟩ := hv
    cases e1
    exact ⟨x.toInt64, rfl, by rw [Int32.toInt_toInt64]; exact e2⟩
  · cases ha
  · cases ha
  · cases ha
  · cases ha
  · obtain ⟨y, e1, e2⟩ := hv
    cases e1
    exact ⟨x.toInt64, rfl, by rw [Int32.toInt_toInt64]; exact e2⟩
  · cases ha
  · cases ha
/-- a long cut to an int: bounds are given up, but for a constant -/
def xk_op2 (I : xk_I) : xk_I := if I.1 = I.2 then ((Int64.ofInt I.1).toInt32.toInt, (Int64.ofInt I.1).toInt32.toInt) else xk_full
theorem xk_s_l2i {a : xk_V} (ha : xk_isL a = true) (row : ∀ (H : Heap) (locs : List Loc) (cells slots : Nat) (ls : Array Slot) (rest : List Value) (x : Int64), W p l e R s m args below meth c H locs cells slots Q (F0 m (pc + 1) ls (.int x.toInt32 :: rest)) → W p l e R s m args below meth c H locs cells slots Q (F0 m pc ls (.long x :: rest)))
    (k : xk_G p l e R s m args below meth c Q b nL D A (pc + 1) ((xk_new 0 iv (xk_op2 (xk_iv iv a))).1, lo, (xk_new 0 iv (xk_op2 (xk_iv iv a))).2 :: st, hp, kc, ks)) : xk_G p l e R s m args below meth c Q b nL D A pc (iv, lo, a :: st, hp, kc, ks) := by
  intro env ad H locs ls sv h
  obtain ⟨x, r1, rfl, hx, h1⟩ := xk_popL h ha
  have b1 : (xk_iv iv a).1 ≤ x.toInt ∧ x.toInt ≤ (xk_iv iv a).2 := xk_iv_ok h.1 hx
  have h5 : (xk_op2 (xk_iv iv a)).1 ≤ x.toInt32.toInt ∧ x.toInt32.toInt ≤ (xk_op2 (xk_iv iv a)).2 := by
    unfold xk_op2
    by_cases hI : (xk_iv iv a).1 = (xk_iv iv a).2
    · rw [if_pos hI]
      have e1 : Int64.ofInt (xk_iv iv a).1 = x := by rw [show (xk_iv iv a).1 = x.toInt by omega, Int64.ofInt_toInt]
      rw [e1]
      exact ⟨Int.le_refl _, Int.le_refl _⟩
    · rw [if_neg hI]; exact xk_full_ok _
  obtain ⟨e2, hq⟩ := xk_pushI h1 h5.1 h5.2
  exact row _ _ _ _ _ _ x (k _ _ _ _ _ _ hq)
/-- two longs compared, three ways -/
theorem xk_s_lcmp {a cv : xk_V} (ha : xk_isL a = true) (hc : xk_isL cv = true) (row : ∀ (H : Heap) (locs : List Loc) (cells slots : Nat) (ls : Array Slot) (rest : List Value) (x y : Int64), W p l e R s m args below meth c H locs cells slots Q (F0 m (pc + 1) ls (.int (lg_cmp x y) :: rest)) → W p l e R s m args below meth c H locs cells slots Q (F0 m pc ls (.long y :: .long x :: rest)))
    (k1 : ∀ iv1, xk_le iv a cv (-1) = some iv1 → xk_G p l e R s m args below meth c Q b nL D A (pc + 1) (iv1, lo, (5, -1) :: st, hp, kc, ks))
    (k2 : ∀ iv1 iv2, xk_le iv a cv 0 = some iv1 → xk_le iv1 cv a 0 = some iv2 → xk_G p l e R s m args below meth c Q b nL D A (pc + 1) (iv2, lo, (5, 0) :: st, hp, kc, ks))
    (k3 : ∀ iv1, xk_le iv cv a (-1) = some iv1 → xk_G p l e R s m args below meth c Q b nL D A (pc + 1) (iv1, lo, (5, 1) :: st, hp, kc, ks)) : xk_G p l e R s m args below meth c Q b nL D A pc (iv, lo, cv :: a :: st, hp, kc, ks) := by
  intro env ad H locs ls sv h
  obtain ⟨y, r1, rfl, hy, h1⟩ := xk_popL h hc
  obtain ⟨x, r2, rfl, hx, h2⟩ := xk_popL h1 ha
  refine row _ _ _ _ _ _ x y ?_
  unfold lg_cmp
  by_cases c1 : x > y
  · rw [if_pos c1]
    have c1' : y.toInt < x.toInt := Int64.lt_iff_toInt_lt.mp c1
    obtain ⟨iv1, e1, o1⟩ := xk_le_ok (k := -1) h.1 hy hx (by omega)
    exact k3 iv1 e1 _ _ _ _ _ _ (xk_push (xk_bnd h2 o1) ⟨1, rfl, rfl⟩)
  · rw [if_neg c1]
    by_cases c2 : x = y
    · rw [if_pos c2]
      subst c2
      obtain ⟨iv1, e1, o1⟩ := xk_le_ok (k := 0) h.1 hx hy (by omega)
      obtain ⟨iv2, e2, o2⟩ := xk_le_ok (k := 0) o1 hy hx (by omega)
      exact k2 iv1 iv2 e1 e2 _ _ _ _ _ _ (xk_push (xk_bnd h2 o2) ⟨0, rfl, rfl⟩)
    · rw [if_neg c2]
      have c3 : x.toInt < y.toInt := by
        have d1 : ¬ y.toInt < x.toInt := fun q => c1 (Int64.lt_iff_toInt_lt.mpr q)
        have d2 : ¬ x.toInt = y.toInt := fun q => c2 (Int64.toInt_inj.mp q)
        omega
      obtain ⟨iv1, e1, o1⟩ := xk_le_ok (k := -1) h.1 hx hy (by omega)
      exact k1 iv1 e1 _ _ _ _ _ _ (xk_push (xk_bnd h2 o1) ⟨-1, rfl, rfl⟩)
/-- a branch by a comparison of two ints: T the successors of each outcome lt, eq, gt -/
theorem xk_s_cmp {a cv : xk_V} (ha : xk_isI a = true) (hc : xk_isI cv = true) {t1 t2 t3 : Nat} (row : ∀ (H : Heap) (locs : List Loc) (cells slots : Nat) (ls : Array Slot) (rest : List Value) (x y : Int32), (x.toInt < y.toInt → W p l e R s m args below meth c H locs cells slots Q (F0 m t1 ls rest)) → (x.toInt = y.toInt → W p l e R s m args below meth c H locs cells slots Q (F0 m t2 ls rest)) → (y.toInt < x.toInt → W p l e R s m args below meth c H locs cells slots Q (F0 m t3 ls rest)) → W p l e R s m args below meth c H locs cells slots Q (F0 m pc ls (.int y :: .int x :: rest)))
    (k1 : ∀ iv1, xk_le iv a cv (-1) = some iv1 → xk_G p l e R s m args below meth c Q b nL D A t1 (iv1, lo, st, hp, kc, ks))
    (k2 : ∀ iv1 iv2, xk_le iv a cv 0 = some iv1 → xk_le iv1 cv a 0 = some iv2 → xk_G p l e R s m args below meth c Q b nL D A t2 (iv2, lo, st, hp, kc, ks))
    (k3 : ∀ iv1, xk_le iv cv a (-1) = some iv1 → xk_G p l e R s m args below meth c Q b nL D A t3 (iv1, lo, st, hp, kc, ks)) : xk_G p l e R s m args below meth c Q b nL D A pc (iv, lo, cv :: a :: st, hp, kc, ks) := by
  intro env ad H locs ls sv h
  obtain ⟨y, r1, rfl, hy, h1⟩ := xk_popI h hc
  obtain ⟨x, r2, rfl, hx, h2⟩ := xk_popI h1 ha
  refine row _ _ _ _ _ _ x y (fun c1 => ?_) (fun c1 => ?_) (fun c1 => ?_)
  · obtain ⟨iv1, e1, o1⟩ := xk_le_ok (k := -1) h.1 hx hy (by omega)
    exact k1 iv1 e1 _ _ _ _ _ _ (xk_bnd h2 o1)
  · obtain ⟨iv1, e1, o1⟩ := xk_le_ok (k := 0) h.1 hx hy (by omega)
    obtain ⟨iv2, e2, o2⟩ := xk_le_ok (k := 0) o1 hy hx (by omega)
    exact k2 iv1 iv2 e1 e2 _ _ _ _ _ _ (xk_bnd h2 o2)
  · obtain ⟨iv1, e1, o1⟩ := xk_le_ok (k := -1) h.1 hy hx (by omega)
    exact k3 iv1 e1 _ _ _ _ _ _ (xk_bnd h2 o1)
theorem xk_s_cmp0 {a : xk_V} (ha : xk_isI a = true) {t1 t2 t3 : Nat} (row : ∀ (H : Heap) (locs : List Loc) (cells slots : Nat) (ls : Array Slot) (rest : List Value) (x : Int32), (x.toInt < 0 → W p l e R s m args below meth c H locs cells slots Q (F0 m t1 ls rest)) → (x.toInt = 0 → W p l e R s m args below meth c H locs cells slots Q (F0 m t2 ls rest)) → (0 < x.toInt → W p l e R s m args below meth c H locs cells slots Q (F0 m t3 ls rest)) → W p l e R s m args below meth c H locs cells slots Q (F0 m pc ls (.int x :: rest)))
    (k1 : ∀ iv1, xk_le iv a (5, 0) (-1) = some iv1 → xk_G p l e R s m args below meth c Q b nL D A t1 (iv1, lo, st, hp, kc, ks))
    (k2 : ∀ iv1 iv2, xk_le iv a (5, 0) 0 = some iv1 → xk_le iv1 (5, 0) a 0 = some iv2 → xk_G p l e R s m args below meth c Q b nL D A t2 (iv2, lo, st, hp, kc, ks))
    (k3 : ∀ iv1, xk_le iv (5, 0) a (-1) = some iv1 → xk_G p l e R s m args below meth c Q b nL D A t3 (iv1, lo, st, hp, kc, ks)) : xk_G p l e R s m args below meth c Q b nL D A pc (iv, lo, a :: st, hp, kc, ks) := by
  intro env ad H locs ls sv h
  obtain ⟨x, r2, rfl, hx, h2⟩ := xk_popI h ha
  have h0 : xk_n env (5, 0) 0 := rfl
  refine row _ _ _ _ _ _ x (fun c1 => ?_) (fun c1 => ?_) (fun c1 => ?_)
  · obtain ⟨iv1, e1, o1⟩ := xk_le_ok (k := -1) h.1 hx h0 (by omega)
    exact k1 iv1 e1 _ _ _ _ _ _ (xk_bnd h2 o1)
  · obtain ⟨iv1, e1, o1⟩ := xk_le_ok (k := 0) h.1 hx h0 (by omega)
    obtain ⟨iv2, e2, o2⟩ := xk_le_ok (k := 0) o1 h0 hx (by omega)
    exact k2 iv1 iv2 e1 e2 _ _ _ _ _ _ (xk_bnd h2 o2)
  · obtain ⟨iv1, e1, o1⟩ := xk_le_ok (k := -1) h.1 h0 hx (by omega)
    exact k3 iv1 e1 _ _ _ _ _ _ (xk_bnd h2 o1)
end XB

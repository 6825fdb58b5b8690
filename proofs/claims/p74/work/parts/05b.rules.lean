theorem xk_nn {x : Int32} (h : 0 ≤ x.toInt) : x.toBitVec.toInt = (x.toBitVec.toNat : Int) := by
  have h1 : x.toInt = x.toBitVec.toInt := rfl
  rw [h1] at h
  rw [BitVec.toInt_eq_toNat_cond] at h ⊢
  split
  · rfl
  · rename_i hc
    rw [if_neg hc] at h
    have := x.toBitVec.isLt
    omega
def xk_msk (n : Int) : Int := (2 : Int) ^ (n.toNat.log2 + 1) - 1
theorem xk_msk_lt {n : Int} {x : Nat} (h : (x : Int) ≤ n) : x < 2 ^ (n.toNat.log2 + 1) := by
  have h1 : x ≤ n.toNat := by omega
  exact Nat.lt_of_le_of_lt h1 Nat.lt_log2_self
def xk_ror (I J : xk_I) : xk_I := if 0 ≤ I.1 ∧ 0 ≤ J.1 ∧ max I.2 J.2 < 1073741824 then (0, xk_msk (max I.2 J.2)) else xk_full
theorem xk_pw {k : Nat} {z : Nat} (h : z < 2 ^ k) : (z : Int) ≤ (2 : Int) ^ k - 1 := by
  have h1 : (z : Int) < ((2 ^ k : Nat) : Int) := by omega
  rw [Int.natCast_pow] at h1
  have h2 : ((2 : Nat) : Int) = 2 := rfl
  rw [h2] at h1
  omega
theorem xk_ror_g {x y z : Int32} {I J : xk_I} (h1 : I.1 ≤ x.toInt) (h2 : x.toInt ≤ I.2) (h3 : J.1 ≤ y.toInt) (h4 : y.toInt ≤ J.2) (hz : ∀ k, x.toBitVec.toNat < 2 ^ k → y.toBitVec.toNat < 2 ^ k → z.toBitVec.toNat < 2 ^ k) : (xk_ror I J).1 ≤ z.toInt ∧ z.toInt ≤ (xk_ror I J).2 := by
  unfold xk_ror
  split
  · rename_i hc
    obtain ⟨c1, c2, c3⟩ := hc
    have ex : x.toInt = (x.toBitVec.toNat : Int) := xk_nn (by omega)
    have ey : y.toInt = (y.toBitVec.toNat : Int) := xk_nn (by omega)
    have q1 : x.toBitVec.toNat < 2 ^ ((max I.2 J.2).toNat.log2 + 1) := xk_msk_lt (by omega)
    have q2 : y.toBitVec.toNat < 2 ^ ((max I.2 J.2).toNat.log2 + 1) := xk_msk_lt (by omega)
    have q3 := hz _ q1 q2
    have p1 : x.toBitVec.toNat < 2 ^ 30 := by
      have : (2 : Nat) ^ 30 = 1073741824 := by decide
      omega
    have p2 : y.toBitVec.toNat < 2 ^ 30 := by
      have : (2 : Nat) ^ 30 = 1073741824 := by decide
      omega
    have p3 := hz 30 p1 p2
    have ez : z.toInt = (z.toBitVec.toNat : Int) := by
      show z.toBitVec.toInt = _
      rw [BitVec.toInt_eq_toNat_cond, if_pos]
      have : (2 : Nat) ^ 30 = 1073741824 := by decide
      have : (2 : Nat) ^ 32 = 4294967296 := by decide
      omega
    rw [ez]
    exact ⟨by show (0 : Int) ≤ _; omega, xk_pw q3⟩
  · exact xk_full_ok z
theorem xk_ror_ok : xk_okR (fun x y => x ||| y) xk_ror := by
  intro x y I J h1 h2 h3 h4
  refine xk_ror_g h1 h2 h3 h4 (fun k a c => ?_)
  show (x.toBitVec ||| y.toBitVec).toNat < _
  rw [BitVec.toNat_or]
  exact Nat.or_lt_two_pow a c
theorem xk_rxor_ok : xk_okR (fun x y => x ^^^ y) xk_ror := by
  intro x y I J h1 h2 h3 h4
  refine xk_ror_g h1 h2 h3 h4 (fun k a c => ?_)
  show (x.toBitVec ^^^ y.toBitVec).toNat < _
  rw [BitVec.toNat_xor]
  exact Nat.xor_lt_two_pow a c
def xk_gsub (I J : xk_I) : List xk_Rg := if xk_fitb (I.1 - J.2, I.2 - J.1) then (if J.1 = J.2 then [(true, true, -J.1), (true, false, J.1)] else []) else []
theorem xk_gsub_ok : xk_okG (fun x y => x - y) xk_gsub := by
  intro x y I J h1 h2 h3 h4 q hq
  unfold xk_gsub at hq
  split at hq
  · rename_i hf
    unfold xk_fitb at hf
    simp only [Bool.and_eq_true, decide_eq_true_eq] at hf
    have hs : (x - y).toInt = x.toInt - y.toInt := by rw [Int32.toInt_sub]; exact xk_bm (by omega) (by omega)
    split at hq
    · rename_i hJ
      simp only [List.mem_cons, List.not_mem_nil, or_false] at hq
      unfold xk_rgP
      rcases hq with rfl | rfl
      · show (x - y).toInt ≤ x.toInt + -J.1; omega
      · show x.toInt ≤ (x - y).toInt + J.1; omega
    · cases hq
  · cases hq
def xk_gand (I J : xk_I) : List xk_Rg := (if 0 ≤ J.1 then [(false, true, 0)] else []) ++ (if 0 ≤ I.1 then [(true, true, 0)] else [])
theorem xk_gand_ok : xk_okG (fun x y => x &&& y) xk_gand := by
  intro x y I J h1 h2 h3 h4 q hq
  unfold xk_gand at hq
  unfold xk_rgP
  rcases List.mem_append.mp hq with hq | hq
  · split at hq
    · have e := List.mem_singleton.mp hq
      subst e
      have := (xk_and_r x y (by omega)).2
      show (x &&& y).toInt ≤ y.toInt + 0; omega
    · cases hq
  · split at hq
    · have e := List.mem_singleton.mp hq
      subst e
      have := (xk_and_r y x (by omega)).2
      have hc : x &&& y = y &&& x := Int32.and_comm x y
      show (x &&& y).toInt ≤ x.toInt + 0; rw [hc]; omega
    · cases hq
/-- a constant times -/
def xk_rmul (I J : xk_I) : xk_I := if J.1 = J.2 ∧ 0 ≤ J.1 then xk_fit (I.1 * J.1, I.2 * J.1) else if I.1 = I.2 ∧ 0 ≤ I.1 then xk_fit (I.1 * J.1, I.1 * J.2) else xk_full
theorem xk_rmul_ok : xk_okR (fun x y => x * y) xk_rmul := by
  intro x y I J h1 h2 h3 h4
  unfold xk_rmul
  split
  · rename_i hc
    have ey : y.toInt = J.1 := by omega
    have q1 : I.1 * J.1 ≤ x.toInt * J.1 := Int.mul_le_mul_of_nonneg_right h1 hc.2
    have q2 : x.toInt * J.1 ≤ I.2 * J.1 := Int.mul_le_mul_of_nonneg_right h2 hc.2
    refine xk_fit_ok (fun a c => ?_)
    have a : -2147483648 ≤ I.1 * J.1 := a
    have c : I.2 * J.1 ≤ 2147483647 := c
    show I.1 * J.1 ≤ (x * y).toInt ∧ (x * y).toInt ≤ I.2 * J.1
    rw [Int32.toInt_mul, ey, xk_bm (by omega) (by omega)]
    exact ⟨q1, q2⟩
  · split
    · rename_i hc
      have ex : x.toInt = I.1 := by omega
      have q1 : I.1 * J.1 ≤ I.1 * y.toInt := Int.mul_le_mul_of_nonneg_left h3 hc.2
      have q2 : I.1 * y.toInt ≤ I.1 * J.2 := Int.mul_le_mul_of_nonneg_left h4 hc.2
      refine xk_fit_ok (fun a c => ?_)
      have a : -2147483648 ≤ I.1 * J.1 := a
      have c : I.1 * J.2 ≤ 2147483647 := c
      show I.1 * J.1 ≤ (x * y).toInt ∧ (x * y).toInt ≤ I.1 * J.2
      rw [Int32.toInt_mul, ex, xk_bm (by omega) (by omega)]
      exact ⟨q1, q2⟩
    · exact xk_full_ok _
/-- one operand a constant, the other one of a few: told one by one -/
def xk_hl : List Int → xk_I
  | [] => (0, 0)
  | [a] => (a, a)
  | a :: r => (min a (xk_hl r).1, max a (xk_hl r).2)
theorem xk_hl_ok {a : Int} : ∀ {l : List Int}, a ∈ l → (xk_hl l).1 ≤ a ∧ a ≤ (xk_hl l).2
  | [], h => by cases h
  | [c], h => by
    have e := List.mem_singleton.mp h
    subst e
    exact ⟨Int.le_refl _, Int.le_refl _⟩
  | c :: d :: r, h => by
    show min c (xk_hl (d :: r)).1 ≤ a ∧ a ≤ max c (xk_hl (d :: r)).2
    rcases List.mem_cons.mp h with rfl | h
    · omega
    · have := xk_hl_ok h
      omega
def xk_en (f : Int32 → Int32 → Int32) (r : xk_I → xk_I → xk_I) (I J : xk_I) : xk_I := if I.1 = I.2 ∧ J.2 < J.1 + 16 then xk_hl ((List.range (J.2 - J.1 + 1).toNat).map (fun k : Nat => (f (Int32.ofInt I.1) (Int32.ofInt (J.1 + k))).toInt)) else r I J
theorem xk_en_ok {f : Int32 → Int32 → Int32} {r : xk_I → xk_I → xk_I} (hr : xk_okR f r) : xk_okR f (xk_en f r) := by
  intro x y I J h1 h2 h3 h4
  unfold xk_en
  split
  · rename_i hc
    refine xk_hl_ok (List.mem_map.mpr ⟨(y.toInt - J.1).toNat, List.mem_range.mpr (by omega), ?_⟩)
    have e1 : Int32.ofInt I.1 = x := by rw [show I.1 = x.toInt by omega]; exact Int32.ofInt_toInt x
    have e2 : Int32.ofInt (J.1 + ((y.toInt - J.1).toNat : Int)) = y := by rw [show J.1 + ((y.toInt - J.1).toNat : Int) = y.toInt by omega]; exact Int32.ofInt_toInt y
    rw [e1, e2]
  · exact hr x y I J h1 h2 h3 h4
def xk_rshl : xk_I → xk_I → xk_I := xk_en (fun x y => x <<< (y &&& 31)) (fun I J => if J.1 = 1 ∧ J.2 = 1 then xk_fit (I.1 * 2, I.2 * 2) else xk_full)
theorem xk_shl1 (x : Int32) : x <<< ((1 : Int32) &&& 31) = x + x := by
  have key : ∀ v : BitVec 32, v <<< (1 : Nat) = v + v := by
    intro v
    apply BitVec.eq_of_toNat_eq
    rw [BitVec.toNat_shiftLeft, BitVec.toNat_add, Nat.shiftLeft_eq]
    congr 1
    omega
  apply Int32.toBitVec_inj.mp
  show x.toBitVec <<< _ = x.toBitVec + x.toBitVec
  rw [← key]
  rfl
theorem xk_rshl_ok : xk_okR (fun x y => x <<< (y &&& 31)) xk_rshl := by
  refine xk_en_ok (fun x y I J h1 h2 h3 h4 => ?_)
  split
  · rename_i hc
    have ey : y = 1 := Int32.toInt_inj.mp (by rw [show (1 : Int32).toInt = 1 from rfl]; omega)
    subst ey
    rw [xk_shl1]
    refine xk_fit_ok (fun a c => ?_)
    have a : -2147483648 ≤ I.1 * 2 := a
    have c : I.2 * 2 ≤ 2147483647 := c
    show I.1 * 2 ≤ (x + x).toInt ∧ (x + x).toInt ≤ I.2 * 2
    rw [Int32.toInt_add, xk_bm (by omega) (by omega)]
    omega
  · exact xk_full_ok _
def xk_gshl (I J : xk_I) : List xk_Rg := if J.1 = 1 ∧ J.2 = 1 ∧ 1 ≤ I.1 ∧ I.2 * 2 ≤ 2147483647 then [(true, false, -1)] else []
theorem xk_gshl_ok : xk_okG (fun x y => x <<< (y &&& 31)) xk_gshl := by
  intro x y I J h1 h2 h3 h4 q hq
  unfold xk_gshl at hq
  split at hq
  · rename_i hc
    have e := List.mem_singleton.mp hq
    subst e
    have ey : y = 1 := Int32.toInt_inj.mp (by rw [show (1 : Int32).toInt = 1 from rfl]; omega)
    subst ey
    unfold xk_rgP
    show x.toInt ≤ (x <<< ((1 : Int32) &&& 31)).toInt + -1
    rw [xk_shl1, Int32.toInt_add, xk_bm (by omega) (by omega)]
    omega
  · cases hq
def xk_sh (y : Int32) : Nat := ((y &&& 31).toBitVec.smod 32).toNat
theorem xk_shr_eq (x y : Int32) : (x >>> (y &&& 31)).toInt = x.toInt / 2 ^ xk_sh y := by
  have h : (x >>> (y &&& 31)).toInt = x.toInt >>> xk_sh y := BitVec.toInt_sshiftRight
  rw [h, Int.shiftRight_eq_div_pow]
  norm_cast
def xk_rshr (I J : xk_I) : xk_I := if 0 ≤ I.1 then (if J.1 = J.2 then (I.1 / 2 ^ xk_sh (Int32.ofInt J.1), I.2 / 2 ^ xk_sh (Int32.ofInt J.1)) else (0, I.2)) else xk_full
theorem xk_pos2 (n : Nat) : (0 : Int) < 2 ^ n := by
  have h : (0 : Nat) < 2 ^ n := Nat.two_pow_pos n
  have h2 : ((2 ^ n : Nat) : Int) = (2 : Int) ^ n := by norm_cast
  omega
theorem xk_rshr_ok : xk_okR (fun x y => x >>> (y &&& 31)) xk_rshr := by
  intro x y I J h1 h2 h3 h4
  unfold xk_rshr
  split
  · rename_i hc
    dsimp only
    rw [xk_shr_eq]
    split
    · rename_i hJ
      have ey : Int32.ofInt J.1 = y := by rw [show J.1 = y.toInt by omega]; exact Int32.ofInt_toInt y
      rw [ey]
      exact ⟨Int.ediv_le_ediv (xk_pos2 _) h1, Int.ediv_le_ediv (xk_pos2 _) h2⟩
    · have q1 : 0 ≤ x.toInt / 2 ^ xk_sh y := Int.ediv_nonneg (by omega) (Int.le_of_lt (xk_pos2 _))
      have q2 : x.toInt / 2 ^ xk_sh y ≤ x.toInt := Int.ediv_le_self _ (by omega)
      exact ⟨q1, Int.le_trans q2 h2⟩
  · exact xk_full_ok _
def xk_gshr (I _ : xk_I) : List xk_Rg := if 0 ≤ I.1 then [(true, true, 0)] else []
theorem xk_gshr_ok : xk_okG (fun x y => x >>> (y &&& 31)) xk_gshr := by
  intro x y I J h1 h2 h3 h4 q hq
  unfold xk_gshr at hq
  split at hq
  · have e := List.mem_singleton.mp hq
    subst e
    unfold xk_rgP
    show (x >>> (y &&& 31)).toInt ≤ x.toInt + 0
    rw [xk_shr_eq]
    have q2 : x.toInt / 2 ^ xk_sh y ≤ x.toInt := Int.ediv_le_self _ (by omega)
    omega
  · cases hq
def xk_rushr : xk_I → xk_I → xk_I := xk_any
theorem xk_rushr_ok : xk_okR (fun x y => (x.toUInt32 >>> (y.toUInt32 &&& Int32.toUInt32 31)).toInt32) xk_rushr := xk_any_ok _
theorem xk_div_eq {x y : Int32} (h1 : 0 ≤ x.toInt) (h2 : 1 ≤ y.toInt) : (x / y).toInt = x.toInt / y.toInt := by
  have hb := xk_full_ok x
  unfold xk_full at hb
  dsimp only at hb
  have q1 : 0 ≤ x.toInt / y.toInt := Int.ediv_nonneg h1 (by omega)
  have q2 : x.toInt / y.toInt ≤ x.toInt := Int.ediv_le_self _ h1
  rw [Int32.toInt_div, Int.tdiv_eq_ediv_of_nonneg h1]
  exact xk_bm (by omega) (by omega)
def xk_rdiv (I J : xk_I) : xk_I := if 0 ≤ I.1 ∧ 1 ≤ J.1 then (if J.1 = J.2 then (I.1 / J.1, I.2 / J.1) else (0, I.2)) else xk_full
theorem xk_rdiv_ok : xk_okR (fun x y => x / y) xk_rdiv := by
  intro x y I J h1 h2 h3 h4
  unfold xk_rdiv
  split
  · rename_i hc
    dsimp only
    rw [xk_div_eq (by omega) (by omega)]
    split
    · rename_i hJ
      have ey : y.toInt = J.1 := by omega
      rw [ey]
      exact ⟨Int.ediv_le_ediv (by omega) h1, Int.ediv_le_ediv (by omega) h2⟩
    · have q1 : 0 ≤ x.toInt / y.toInt := Int.ediv_nonneg (by omega) (by omega)
      have q2 : x.toInt / y.toInt ≤ x.toInt := Int.ediv_le_self _ (by omega)
      exact ⟨q1, Int.le_trans q2 h2⟩
  · exact xk_full_ok _
def xk_gdiv (I J : xk_I) : List xk_Rg := if 0 ≤ I.1 ∧ 1 ≤ J.1 then [(true, true, 0)] else []
theorem xk_gdiv_ok : xk_okG (fun x y => x / y) xk_gdiv := by
  intro x y I J h1 h2 h3 h4 q hq
  unfold xk_gdiv at hq
  split at hq
  · have e := List.mem_singleton.mp hq
    subst e
    unfold xk_rgP
    show (x / y).toInt ≤ x.toInt + 0
    rw [xk_div_eq (by omega) (by omega)]
    have q2 : x.toInt / y.toInt ≤ x.toInt := Int.ediv_le_self _ (by omega)
    omega
  · cases hq
theorem xk_rem_eq {x y : Int32} (h1 : 0 ≤ x.toInt) (h2 : 1 ≤ y.toInt) : (x - x / y * y).toInt = x.toInt % y.toInt := by
  have hb := xk_full_ok x
  unfold xk_full at hb
  dsimp only at hb
  have q1 : 0 ≤ x.toInt / y.toInt := Int.ediv_nonneg h1 (by omega)
  have q2 : x.toInt / y.toInt * y.toInt ≤ x.toInt := Int.ediv_mul_le _ (by omega)
  have q3 : 0 ≤ x.toInt / y.toInt * y.toInt := Int.mul_nonneg q1 (by omega)
  have e1 : (x / y * y).toInt = x.toInt / y.toInt * y.toInt := by
    rw [Int32.toInt_mul, xk_div_eq h1 h2]
    exact xk_bm (by omega) (by omega)
  rw [Int32.toInt_sub, e1, xk_bm (by omega) (by omega)]
  have h3 := Int.emod_def x.toInt y.toInt
  rw [h3, Int.mul_comm y.toInt]
def xk_rrem (I J : xk_I) : xk_I := if 0 ≤ I.1 ∧ 1 ≤ J.1 then (0, min I.2 (J.2 - 1)) else xk_full
theorem xk_rrem_ok : xk_okR (fun x y => x - x / y * y) xk_rrem := by
  intro x y I J h1 h2 h3 h4
  unfold xk_rrem
  split
  · rename_i hc
    dsimp only
    rw [xk_rem_eq (by omega) (by omega)]
    have q1 := Int.emod_nonneg x.toInt (show y.toInt ≠ 0 by omega)
    have q2 := Int.emod_lt_of_pos x.toInt (show 0 < y.toInt by omega)
    have q5 := Int.emod_def x.toInt y.toInt
    have q4 : 0 ≤ y.toInt * (x.toInt / y.toInt) := Int.mul_nonneg (by omega) (Int.ediv_nonneg (by omega) (by omega))
    have q3 : x.toInt % y.toInt ≤ x.toInt := by omega
    omega
  · exact xk_full_ok _
def xk_grem (I J : xk_I) : List xk_Rg := if 0 ≤ I.1 ∧ 1 ≤ J.1 then [(false, true, -1)] else []
theorem xk_grem_ok : xk_okG (fun x y => x - x / y * y) xk_grem := by
  intro x y I J h1 h2 h3 h4 q hq
  unfold xk_grem at hq
  split at hq
  · have e := List.mem_singleton.mp hq
    subst e
    unfold xk_rgP
    show (x - x / y * y).toInt ≤ y.toInt + -1
    rw [xk_rem_eq (by omega) (by omega)]
    have q2 := Int.emod_lt_of_pos x.toInt (show 0 < y.toInt by omega)
    omega
  · cases hq

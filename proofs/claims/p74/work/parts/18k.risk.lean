section XZ2
variable {p : Program} {l : Launch} {e : Env} {R : Room} {s : State} {m : MethodId} {args : Array Value} {below : List Frame} {meth : Method} {c : Code} {Q : State → Prop} {D : va_G} {A : Nat → Prop} {e0 : List Int} {a0 : List Nat} {oq : xk_O}
/-- a call of sizeOf: its answer is how many bits are set, and stands as one number more -/
theorem xz_call {own : String} {cc : ByteArray} {nL pc : Nat} (F : xk_Fx p s m args c D A own cc nL) (SU : xk_SUH oq A s s.heap) (hR : xk_RnP l D own cc nL R pc xz_K xz_Φ) {iv : xk_N} {lo : List (Nat × xk_V)} {st : List xk_V} {hp : List xk_C} {kc ks : Nat} {bv : xk_V} (hb : bv.1 = 5 ∨ bv.1 = 0 ∧ bv.2.toNat < iv.1.length) (b1 : 0 ≤ (xk_iv iv bv).1) (b2 : (xk_iv iv bv).2 ≤ 511) (hsum : (st.map xk_cat).sum ≤ 8) (hkc : kc ≤ R.cells) (hks : ks ≤ R.slots) (kk : ∀ (env : List Int) (ad : List Nat) (H : Heap) (locs : List Loc) (ls : Array Slot) (sv : List Value) (x r : Int), xk_In (0, e0, a0, oq) nL s D A ((iv.1 ++ [(0, 9)], iv.2), lo, st, hp, kc, ks) (env ++ [r]) ad H locs ls sv → xk_ok env iv → xk_n env bv x → r = (xf_cnt x.toNat 9 : Int) → W p l e R s m args below meth c H locs kc ks Q (F0 m (pc + 3) ls (.int (Int32.ofInt r) :: sv))) : xk_G p l e R s m args below meth c Q (0, e0, a0, oq) nL D A pc (iv, lo, bv :: st, hp, kc, ks) := by
  intro env ad H locs ls sv h
  have hbI := xi_isI hb
  obtain ⟨xb, r2, e2, nx, h2⟩ := xk_popI h hbI
  have bx : (xk_iv iv bv).1 ≤ xb.toInt ∧ xb.toInt ≤ (xk_iv iv bv).2 := xk_iv_ok h.1 nx
  obtain ⟨r, hr⟩ : ∃ r : Int, r = (xf_cnt xb.toInt.toNat 9 : Int) := ⟨_, rfl⟩
  have hr0 : 0 ≤ r ∧ r ≤ 9 := by
    have := xn_nine xb.toInt.toNat (by omega)
    omega
  have hlen : env.length = iv.1.length := h.1.1
  have hok : xk_ok (env ++ [r]) (iv.1 ++ [(0, 9)], iv.2) := xk_ok_app h.1 hr0.1 hr0.2
  have hin := xk_reb h [r] hok
  have numOf : ∀ (env' : List Int) (q : xk_V) (z : Int), (∀ (j : Nat) (n : Int), (env ++ [r])[j]? = some n → env'[j]? = some n) → (q.1 = 5 ∨ q.1 = 0 ∧ q.2.toNat < iv.1.length) → xk_n env q z → xk_num env' q = z := by
    intro env' q z hp' hq hz
    unfold xk_n at hz
    unfold xk_num
    rcases hq with hq | hq
    · rw [if_pos hq]
      rw [if_pos (by unfold xk_isC; rw [hq]; rfl)] at hz
      exact hz.symm
    · rw [if_neg (by omega)]
      rw [if_neg (by unfold xk_isC; rw [hq.1]; exact Bool.false_ne_true)] at hz
      rw [List.getD_eq_getElem?_getD, hp' _ _ (xk_ga hz)]
      rfl
  have lastOf : (env ++ [r])[iv.1.length]? = some r := by rw [← hlen]; simp
  have hΦ : ∀ env' : List Int, xk_ok env' (iv.1 ++ [(0, 9)], iv.2) → (∀ (j : Nat) (n : Int), (env ++ [r])[j]? = some n → env'[j]? = some n) → xz_Φ (([bv, (0, (iv.1.length : Int))] : List xk_V).map (xk_num env')) := by
    intro env' _ hp' x hx
    have hx : xk_num env' bv = x.toInt := Option.some.inj hx
    rw [numOf env' bv _ hp' hb nx] at hx
    show some (xk_num env' (0, (iv.1.length : Int))) = _
    have h3 : xk_num env' (0, (iv.1.length : Int)) = r := by
      unfold xk_num
      rw [if_neg (show ¬ ((0 : Nat) = 5) from by decide), List.getD_eq_getElem?_getD]
      show (env'[((iv.1.length : Nat) : Int).toNat]?).getD 0 = r
      rw [Int.toNat_natCast, hp' _ _ lastOf]
      rfl
    have hxx : x = xb := Int32.toInt_inj.mp hx.symm
    have ex := xs_nat (x := xb) (by omega)
    have e9 := xe_size xb.toInt.toNat (by omega)
    rw [← ex] at e9
    have e8 : xb.toBitVec.toNat = xb.toInt.toNat := by
      have := xn_nn (x := xb) (by omega)
      omega
    have := xn_nine xb.toInt.toNat (by omega)
    rw [h3, hr, hxx, e8, e9, Int32.toInt_ofNat_of_lt (by omega)]
  have hf : xk_fitK xz_K [bv, (0, (iv.1.length : Int))] [] [] (iv.1 ++ [(0, 9)], iv.2) [bv] hp = true := by
    have s0 := xi_sv (mp := [bv, (0, (iv.1.length : Int))]) (i := 0) rfl hb
    unfold xk_fitK
    have t1 : xk_bL xk_bV (xz_K.1.2.1.map (xk_sv [bv, (0, (iv.1.length : Int))] [] (some []))) [bv] = true := by
      show xk_bL xk_bV [xk_sv [bv, (0, (iv.1.length : Int))] [] (some []) (0, ((0 : Nat) : Int))] [bv] = true
      rw [s0]
      unfold xk_bL xk_bL
      rw [xi_bV]
      rfl
    have t2 : xk_fitN (iv.1 ++ [(0, 9)], iv.2) [bv, (0, (iv.1.length : Int))] xz_K.1.1 = true := by
      have u0 := xi_iv_app (I := (0, 9)) (rs := iv.2) hb
      have u2 := xi_iv_last (iv := iv) (I := (0, 9)) (rs := iv.2)
      have a0 : ∀ q : xk_V, (q.1 = 5 ∨ q.1 = 0 ∧ q.2.toNat < iv.1.length) → (decide (q.1 = 5) || (decide (q.1 = 0) && decide (q.2.toNat < (iv.1 ++ [((0 : Int), (9 : Int))]).length))) = true := by
        intro q hq
        rw [Bool.or_eq_true, Bool.and_eq_true, decide_eq_true_eq, decide_eq_true_eq, decide_eq_true_eq, List.length_append]
        rcases hq with hq | hq
        · exact Or.inl hq
        · exact Or.inr ⟨hq.1, Nat.lt_of_lt_of_le hq.2 (Nat.le_add_right _ _)⟩
      unfold xk_fitN
      rw [Bool.and_eq_true, Bool.and_eq_true, Bool.and_eq_true]
      refine ⟨⟨⟨rfl, ?_⟩, ?_⟩, rfl⟩
      · rw [List.all_eq_true]
        intro q hq
        simp only [List.mem_cons, List.not_mem_nil, or_false] at hq
        rcases hq with rfl | rfl
        · exact a0 _ hb
        · rw [Bool.or_eq_true, Bool.and_eq_true, decide_eq_true_eq, decide_eq_true_eq, decide_eq_true_eq, List.length_append]
          right
          refine ⟨rfl, ?_⟩
          show ((iv.1.length : Nat) : Int).toNat < iv.1.length + 1
          rw [Int.toNat_natCast]
          omega
      · rw [List.all_eq_true]
        intro z hz
        have hz : z ∈ [(bv, ((-2147483648 : Int), (2147483647 : Int))), ((0, (iv.1.length : Int)), (-2147483648, 2147483647))] := hz
        simp only [List.mem_cons, List.not_mem_nil, or_false] at hz
        rw [Bool.and_eq_true, Bool.or_eq_true, decide_eq_true_eq, decide_eq_true_eq]
        rcases hz with rfl | rfl
        · dsimp only
          rw [u0]
          exact ⟨by omega, Or.inl (by omega)⟩
        · dsimp only
          rw [u2]
          exact ⟨by decide, Or.inl (by decide)⟩
    rw [t1, t2]
    rfl
  have G1 := xk_s_callP (b := (0, env ++ [r], ad, oq)) (iv := (iv.1 ++ [(0, 9)], iv.2)) (lo := lo) (hp := hp) (kc := kc) (ks := ks) (As := [bv]) (rest := st) (mp := [bv, (0, (iv.1.length : Int))]) (pm := []) (om := []) (e := e) (Q := Q) (below := below) (meth := meth) F SU hR hΦ hf hsum hkc hks (fun P hP iv2 hiv2 => by
    have hP1 : P = (([(-2147483648, 2147483647), (-2147483648, 2147483647)], []), some (0, 1), []) := List.mem_singleton.mp hP
    subst hP1
    intro env2 ad2 H2 locs2 ls2 sv2 hI2
    have l2 : iv2.1.length = iv.1.length + 1 := by
      unfold xk_afn at hiv2
      split at hiv2
      · cases hiv2
      · rename_i iv1 e1
        have h3 := xi_refs_len _ _ e1
        have hiv2 : (iv1.1 ++ [], iv1.2) = iv2 := Option.some.inj hiv2
        rw [← hiv2]
        show (iv1.1 ++ []).length = _
        rw [List.append_nil, h3, List.length_append]
        rfl
    obtain ⟨g0, glv, gst, ws2, ga, gc, gP, gD, gS, gpre⟩ := hI2
    have he : env2 = env ++ [r] := by
      apply List.ext_getElem?
      intro j
      by_cases hj : j < (env ++ [r]).length
      · rw [List.getElem?_eq_getElem hj]
        exact gpre.1 j _ (List.getElem?_eq_getElem hj)
      · have hlen2 : env2.length = (env ++ [r]).length := by
          rw [g0.1]
          show iv2.1.length = _
          rw [l2, List.length_append, hlen]
          rfl
        rw [List.getElem?_eq_none (by omega), List.getElem?_eq_none (by omega)]
    subst he
    obtain ⟨v, rest2, ev, hv, hrest⟩ := xk_r2_cons gst
    have hv : xk_v (0, env ++ [r], ad, oq) (env ++ [r]) ad2 (0, (iv.1.length : Int)) v := hv
    obtain ⟨z, ez, hz⟩ := hv
    have hz2 : r = z.toInt := by
      have h5 : (env ++ [r])[iv.1.length]? = some z.toInt := hz
      rw [lastOf] at h5
      exact Option.some.inj h5
    have gc : xk_r2 (xk_c s (0, env ++ [r], ad, oq) (env ++ [r]) ad2) (hp ++ []) ws2 := gc
    rw [List.append_nil] at gc
    have hpre0 : xk_pre (0, e0, a0, oq) env ad := h.2.2.2.choose_spec.2.2.2.2.2
    have hpre2 : xk_pre (0, e0, a0, oq) (env ++ [r]) ad2 := ⟨fun j n hj => xk_ga (hpre0.1 j n hj), fun j a hj => gpre.2 j a (hpre0.2 j a hj)⟩
    have hin2 : xk_In (0, env ++ [r], ad, oq) nL s D A ((iv.1 ++ [(0, 9)], iv.2), lo, st, hp, kc, ks) (env ++ [r]) ad2 H2 locs2 ls2 rest2 := ⟨hok, glv, hrest, ws2, ga, gc, gP, gD, gS, gpre⟩
    have G2 := kk env ad2 H2 locs2 ls2 rest2 xb.toInt r (xk_In_b hpre2 hin2) h.1 nx hr
    have ez2 : v = .int (Int32.ofInt r) := by rw [ez, hz2, Int32.ofInt_toInt]
    rw [ev, ez2]
    exact G2)
  exact G1 (env ++ [r]) ad H locs ls sv hin
end XZ2
/-! risk's steps by hand (draft, not compiled) -/
def xe_100 (σ : xk_S) : Option (List (Nat × xk_S)) := match σ.2.2.1 with
  | (0, cv) :: (0, u) :: st => if σ.2.2.2.2.1 = 0 ∧ σ.2.2.2.2.2 = 0 ∧ cv.toNat < σ.1.1.length ∧ u.toNat < σ.1.1.length ∧ 0 ≤ (xk_iv σ.1 (0, cv)).1 ∧ (xk_iv σ.1 (0, cv)).2 ≤ 8 ∧ 0 ≤ (xk_iv σ.1 (0, u)).1 ∧ (xk_iv σ.1 (0, u)).2 ≤ 511 ∧ (st.map xk_cat).sum ≤ 8 then some [(103, ((σ.1.1 ++ [(0, 1)], (cv.toNat, u.toNat, xk_big + 13) :: σ.1.2), σ.2.1, (5, 1) :: st, σ.2.2.2.1, σ.2.2.2.2.1, σ.2.2.2.2.2)), (103, ((σ.1.1 ++ [(0, 1)], (cv.toNat, u.toNat, xk_big + 5) :: σ.1.2), σ.2.1, (5, 0) :: st, σ.2.2.2.1, σ.2.2.2.2.1, σ.2.2.2.2.2))] else none
  | _ => none
theorem xe_d13 : xk_dec (xk_big + 13) = (13, [0, 0, 0], 0) := by decide +kernel
section XE
variable {p : Program} {l : Launch} {e : Env} {R : Room} {s : State} {m : MethodId} {args : Array Value} {below : List Frame} {meth : Method} {c : Code} {Q : State → Prop} {D : va_G} {A : Nat → Prop} {b : xk_b}
theorem xe_100_ok {e0 : List Int} {a0 : List Nat} {oq : xk_O} {nL : Nat} {cc : ByteArray} (F : xk_Fx p s m args c D A RX10 cc nL) (SU : xk_SUH oq A s s.heap) (hR : xk_RnP l D RX10 cc nL R 100 xi_K xi_Φ) {σ : xk_S} {l2 : List (Nat × xk_S)} (hk : xe_100 σ = some l2) (kk : ∀ q ∈ l2, xk_G p l e R s m args below meth c Q (0, e0, a0, oq) nL D A q.1 q.2) : xk_G p l e R s m args below meth c Q (0, e0, a0, oq) nL D A 100 σ := by
  obtain ⟨iv, lo, st, hp, kc, ks⟩ := σ
  unfold xe_100 at hk
  split at hk
  · rename_i cv u st' est
    have est : st = (0, cv) :: (0, u) :: st' := est
    subst est
    split at hk
    · rename_i hcond
      obtain ⟨z1, z2, d1, d2, d3, d4, d5, d6, d7⟩ := hcond
      cases hk
      have z1 : kc = 0 := z1
      have z2 : ks = 0 := z2
      subst z1
      subst z2
      have d3 : 0 ≤ (xk_iv iv (0, cv)).1 := d3
      have d4 : (xk_iv iv (0, cv)).2 ≤ 8 := d4
      have d5 : 0 ≤ (xk_iv iv (0, u)).1 := d5
      have d6 : (xk_iv iv (0, u)).2 ≤ 511 := d6
      refine xi_call (bv := (0, u)) (kv := (0, cv)) F SU hR (Or.inr ⟨rfl, d2⟩) (Or.inr ⟨rfl, d1⟩) d5 d6 d3 d4 d7 (Nat.zero_le _) (Nat.zero_le _) ?_
      intro env ad H locs ls sv x y r h h0 hnx hny hr
      have bx : (xk_iv iv (0, u)).1 ≤ x ∧ x ≤ (xk_iv iv (0, u)).2 := xk_iv_ok h0 hnx
      have bY : (xk_iv iv (0, cv)).1 ≤ y ∧ y ≤ (xk_iv iv (0, cv)).2 := xk_iv_ok h0 hny
      have hx : env[u.toNat]? = some x := hnx
      have hy : env[cv.toNat]? = some y := hny
      by_cases hbit : x.toNat.testBit y.toNat = true
      · rw [if_pos hbit] at hr
        subst hr
        have hok := xr_add (k := xk_big + 13) h.1 (xk_ga hy) (xk_ga hx) (by omega) (by unfold xk_big; omega) (by rw [xe_d13]; intro j hj; simp only [List.mem_cons, List.not_mem_nil, or_false] at hj; rcases hj with rfl | rfl | rfl <;> simp) (by rw [xe_d13]; exact hbit)
        exact kk _ List.mem_cons_self _ _ _ _ _ _ (xk_push (av := (5, 1)) (v := .int (Int32.ofInt 1)) (xk_bnd h hok) ⟨_, rfl, by decide⟩)
      · rw [if_neg hbit] at hr
        subst hr
        have hbit : x.toNat.testBit y.toNat = false := by simpa using hbit
        have hok := xr_add (k := xk_big + 5) h.1 (xk_ga hy) (xk_ga hx) (by omega) (by unfold xk_big; omega) (by rw [xn_d5]; intro j hj; simp only [List.mem_cons, List.not_mem_nil, or_false] at hj; rcases hj with rfl | rfl | rfl <;> simp) (by rw [xn_d5]; exact hbit)
        exact kk _ (List.mem_cons_of_mem _ List.mem_cons_self) _ _ _ _ _ _ (xk_push (av := (5, 0)) (v := .int (Int32.ofInt 0)) (xk_bnd h hok) ⟨_, rfl, by decide⟩)
    · cases hk
  · cases hk
end XE

theorem xi_bit : ∀ b : Nat, b < 512 → ∀ j : Nat, j < 9 → decide (((Int32.ofNat b >>> (Int32.ofNat j &&& 31)) &&& 1) = 1) = b.testBit j := by decide +kernel
def xi_K : xk_K := ((([(0, 511), (0, 8), (0, 1)], []), [(0, 0), (0, 1)], []), [(([(0, 511), (0, 8), (0, 1)], []), some (0, 2), [])], (0, 0, 0, 0))
def xi_Φ (env : List Int) : Prop := ∀ x y : Int32, env[0]? = some x.toInt → env[1]? = some y.toInt → env[2]? = some (if x.toInt.toNat.testBit y.toInt.toNat then 1 else 0)
theorem xi_met (l : Launch) (D : va_G) : xk_KMp l D yX10_isBit cX10_isBit 2 (some .boolean) xi_K xi_Φ := by
  refine xk_KMp_by (by decide) rfl (by decide) ?_
  intro p e s m args below meth c env0 ad0 oq ws ls h0 hΦ hl0 F hret hlocks hnm hZ ha hc hP hD hlv
  obtain ⟨lvs, hl, hr⟩ := hlv
  obtain ⟨q, rest, rfl, ⟨hq1, x, hx1, hx2⟩, hr2⟩ := xk_r2_cons hr
  obtain ⟨q', rest', rfl, ⟨hq1', y, hy1, hy2⟩, hr3⟩ := xk_r2_cons hr2
  have l0 : ls[0]? = some (.val (.int x)) := by
    have h1 := hl.2.2 q List.mem_cons_self
    rw [← hq1, hx1] at h1
    exact h1
  have l1 : ls[1]? = some (.val (.int y)) := by
    have h1 := hl.2.2 q' (List.mem_cons_of_mem _ List.mem_cons_self)
    rw [← hq1', hy1] at h1
    exact h1
  have hx2 : env0[0]? = some x.toInt := hx2
  have hy2 : env0[1]? = some y.toInt := hy2
  have b0 := h0.2.1 0 _ (0, 511) hx2 rfl
  have b1 := h0.2.1 1 _ (0, 8) hy2 rfl
  have hres := hΦ x y hx2 hy2
  have ex := xs_nat (x := x) b0.1
  have ey := xs_nat (x := y) b1.1
  have hbit := xi_bit x.toInt.toNat (by have := b0.1; have := b0.2; omega) y.toInt.toNat (by have := b1.1; have := b1.2; omega)
  rw [← ex, ← ey] at hbit
  have fin : ∀ (ls' : Array Slot) (r : Int32), r.toInt = (if x.toInt.toNat.testBit y.toInt.toNat then 1 else 0) → narrow .boolean (.int r) = .int r → W p l e (headSpec (Cond.code yX10_isBit cX10_isBit 2 (some .boolean) :: xk_tg) (xk_rm xi_K)).room s m args below meth c s.heap [] 0 0 (MQ below (xk_Qc D xi_K env0 ad0 s.heap.size oq) args s xi_K.2.2.2.2.1 xi_K.2.2.2.2.2 (xk_fr ad0 s.heap.size)) (F0 m 14 ls' [.int r]) := by
    intro ls' r hr9 hnar
    refine W.zret F.1 F.2.1 hret hnar (fun t ht hW => ?_) (fun _ h => by cases h) (by decide +kernel)
    refine xk_Qsame (P := (([(0, 511), (0, 8), (0, 1)], []), some (0, 2), [])) (e2 := []) (locs := []) (by decide) rfl (by rw [List.append_nil]; exact h0) ⟨_, rfl, _, rfl, ?_⟩ ha hc hP hD va_S.rf ht hW
    rw [List.append_nil]
    show env0[2]? = some r.toInt
    rw [hres, hr9]
  refine lv_iload_n F.1 F.2.1 (k := 0) (i := 0) (by decide +kernel) rfl l0 ?_
  refine lv_iload_n F.1 F.2.1 (k := 1) (i := 1) (by decide +kernel) rfl l1 ?_
  refine lv_ishr F.1 F.2.1 (by decide +kernel) ?_
  refine lv_iconst F.1 F.2.1 (n := 1) (v := 1) (by decide +kernel) rfl ?_
  refine lv_iand F.1 F.2.1 (by decide +kernel) ?_
  refine lv_iconst F.1 F.2.1 (n := 1) (v := 1) (by decide +kernel) rfl ?_
  refine lv_icmp_ne F.1 F.2.1 (off := 7) (tgt := 13) (by decide +kernel) rfl (fun hz => ?_) (fun hz => ?_)
  · refine lv_iconst F.1 F.2.1 (n := 0) (v := 0) (by decide +kernel) rfl (fin _ 0 ?_ rfl)
    rw [← hbit, decide_eq_false hz]
    rfl
  · refine lv_iconst F.1 F.2.1 (n := 1) (v := 1) (by decide +kernel) rfl ?_
    refine lv_goto F.1 F.2.1 (off := 4) (tgt := 14) (by decide +kernel) rfl (fin _ 1 ?_ rfl)
    rw [← hbit, decide_eq_true hz]
    rfl
theorem xi_iv_app {iv : xk_N} {I : xk_I} {rs : List xk_R} {q : xk_V} (h : q.1 = 5 ∨ q.1 = 0 ∧ q.2.toNat < iv.1.length) : xk_iv (iv.1 ++ [I], rs) q = xk_iv iv q := by
  unfold xk_iv
  split
  · rfl
  · rename_i hc
    rcases h with h | h
    · exact absurd (by unfold xk_isC; rw [h]; rfl) hc
    · rw [List.getElem?_append_left h.2]
theorem xi_iv_last {iv : xk_N} {I : xk_I} {rs : List xk_R} : xk_iv (iv.1 ++ [I], rs) (0, (iv.1.length : Int)) = I := by
  unfold xk_iv
  rw [if_neg (show ¬ (xk_isC (0, (iv.1.length : Int)) = true) from Bool.false_ne_true)]
  show (match (iv.1 ++ [I])[((iv.1.length : Nat) : Int).toNat]? with
    | some q => q
    | none => (1, 0)) = I
  rw [Int.toNat_natCast]
  simp
theorem xi_refs_len : ∀ {iv iv' : xk_N} (mp : List xk_V) (js : List xk_I), xk_refs iv mp js = some iv' → iv'.1.length = iv.1.length
  | iv, iv', [], js, h => by unfold xk_refs at h; cases h; rfl
  | iv, iv', q :: mp, [], h => by unfold xk_refs at h; cases h; rfl
  | iv, iv', q :: mp, J :: js, h => by
    unfold xk_refs at h
    split at h
    · exact xi_refs_len mp js h
    · split at h
      · cases h
      · rename_i iv1 e1
        rw [xi_refs_len mp js h]
        unfold xk_set at e1
        split at e1
        · cases e1
        · split at e1
          · cases e1
            rfl
          · cases e1
            exact List.length_set
section XI2
variable {p : Program} {l : Launch} {e : Env} {R : Room} {s : State} {m : MethodId} {args : Array Value} {below : List Frame} {meth : Method} {c : Code} {Q : State → Prop} {D : va_G} {A : Nat → Prop} {e0 : List Int} {a0 : List Nat} {oq : xk_O}
theorem xi_bI (a : Int) : xk_bI a a = true := by
  unfold xk_bI
  cases a <;> simp
theorem xi_bV (a : xk_V) : xk_bV a a = true := by
  unfold xk_bV
  rw [xi_bI, Bool.and_true]
  exact Nat.beq_refl _
theorem xi_isI {q : xk_V} {n : Nat} (h : q.1 = 5 ∨ q.1 = 0 ∧ q.2.toNat < n) : xk_isI q = true := by
  unfold xk_isI
  rcases h with h | h
  · rw [h]
    rfl
  · rw [h.1]
    rfl
theorem xi_sv {mp : List xk_V} {i n : Nat} {q : xk_V} (hq : mp[i]? = some q) (h : q.1 = 5 ∨ q.1 = 0 ∧ q.2.toNat < n) : xk_sv mp [] (some []) (0, (i : Int)) = q := by
  unfold xk_sv
  show (match mp[((i : Nat) : Int).toNat]? with
    | some q => if q.1 = 0 ∨ q.1 = 5 then q else (20, 0)
    | none => (20, 0)) = q
  rw [Int.toNat_natCast, hq]
  show (if q.1 = 0 ∨ q.1 = 5 then q else (20, 0)) = q
  rw [if_pos (by rcases h with h | h; exact Or.inr h; exact Or.inl h.1)]
/-- a call of isBit whose answer is known by the bits: it stands as one number more -/
theorem xi_call {own : String} {cc : ByteArray} {nL pc : Nat} (F : xk_Fx p s m args c D A own cc nL) (SU : xk_SUH oq A s s.heap) (hR : xk_RnP l D own cc nL R pc xi_K xi_Φ) {iv : xk_N} {lo : List (Nat × xk_V)} {st : List xk_V} {hp : List xk_C} {kc ks : Nat} {bv kv : xk_V} (hb : bv.1 = 5 ∨ bv.1 = 0 ∧ bv.2.toNat < iv.1.length) (hk : kv.1 = 5 ∨ kv.1 = 0 ∧ kv.2.toNat < iv.1.length) (b1 : 0 ≤ (xk_iv iv bv).1) (b2 : (xk_iv iv bv).2 ≤ 511) (k1 : 0 ≤ (xk_iv iv kv).1) (k2 : (xk_iv iv kv).2 ≤ 8) (hsum : (st.map xk_cat).sum ≤ 8) (hkc : kc ≤ R.cells) (hks : ks ≤ R.slots) (kk : ∀ (env : List Int) (ad : List Nat) (H : Heap) (locs : List Loc) (ls : Array Slot) (sv : List Value) (x y r : Int), xk_In (0, e0, a0, oq) nL s D A ((iv.1 ++ [(0, 1)], iv.2), lo, st, hp, kc, ks) (env ++ [r]) ad H locs ls sv → xk_ok env iv → xk_n env bv x → xk_n env kv y → r = (if x.toNat.testBit y.toNat then 1 else 0) → W p l e R s m args below meth c H locs kc ks Q (F0 m (pc + 3) ls (.int (Int32.ofInt r) :: sv))) : xk_G p l e R s m args below meth c Q (0, e0, a0, oq) nL D A pc (iv, lo, kv :: bv :: st, hp, kc, ks) := by
  intro env ad H locs ls sv h
  have hbI := xi_isI hb
  have hkI := xi_isI hk
  obtain ⟨yk, r1, e1, ny, h1⟩ := xk_popI h hkI
  obtain ⟨xb, r2, e2, nx, h2⟩ := xk_popI h1 hbI
  obtain ⟨r, hr⟩ : ∃ r : Int, r = (if xb.toInt.toNat.testBit yk.toInt.toNat then 1 else 0) := ⟨_, rfl⟩
  have hr0 : 0 ≤ r ∧ r ≤ 1 := by rw [hr]; split <;> omega
  have hlen : env.length = iv.1.length := h.1.1
  have hok : xk_ok (env ++ [r]) (iv.1 ++ [(0, 1)], iv.2) := xk_ok_app h.1 hr0.1 hr0.2
  have hin := xk_reb h [r] hok
  have numOf : ∀ (env' : List Int) (q : xk_V) (z : Int), (∀ (j : Nat) (n : Int), (env ++ [r])[j]? = some n → env'[j]? = some n) → (q.1 = 5 ∨ q.1 = 0 ∧ q.2.toNat < iv.1.length) → xk_n env q z → xk_num env' q = z := by
    intro env' q z hp' hq hz
    unfold xk_n at hz
    unfold xk_num
    rcases hq with hq | hq
    · rw [if_pos hq]
      rw [if_pos (by unfold xk_isC; rw [hq]; rfl)] at hz
      exact hz.symm
    · rw [if_neg (by omega)]
      rw [if_neg (by unfold xk_isC; rw [hq.1]; exact Bool.false_ne_true)] at hz
      rw [List.getD_eq_getElem?_getD, hp' _ _ (xk_ga hz)]
      rfl
  have lastOf : (env ++ [r])[iv.1.length]? = some r := by rw [← hlen]; simp
  have hΦ : ∀ env' : List Int, xk_ok env' (iv.1 ++ [(0, 1)], iv.2) → (∀ (j : Nat) (n : Int), (env ++ [r])[j]? = some n → env'[j]? = some n) → xi_Φ (([bv, kv, (0, (iv.1.length : Int))] : List xk_V).map (xk_num env')) := by
    intro env' _ hp' x y hx hy
    have hx : xk_num env' bv = x.toInt := Option.some.inj hx
    have hy : xk_num env' kv = y.toInt := Option.some.inj hy
    rw [numOf env' bv _ hp' hb nx] at hx
    rw [numOf env' kv _ hp' hk ny] at hy
    show some (xk_num env' (0, (iv.1.length : Int))) = _
    have h3 : xk_num env' (0, (iv.1.length : Int)) = r := by
      unfold xk_num
      rw [if_neg (show ¬ ((0 : Nat) = 5) from by decide), List.getD_eq_getElem?_getD]
      show (env'[((iv.1.length : Nat) : Int).toNat]?).getD 0 = r
      rw [Int.toNat_natCast, hp' _ _ lastOf]
      rfl
    rw [h3, hr, hx, hy]
  have hf : xk_fitK xi_K [bv, kv, (0, (iv.1.length : Int))] [] [] (iv.1 ++ [(0, 1)], iv.2) [bv, kv] hp = true := by
    have s0 := xi_sv (mp := [bv, kv, (0, (iv.1.length : Int))]) (i := 0) rfl hb
    have s1 := xi_sv (mp := [bv, kv, (0, (iv.1.length : Int))]) (i := 1) rfl hk
    unfold xk_fitK
    have t1 : xk_bL xk_bV (xi_K.1.2.1.map (xk_sv [bv, kv, (0, (iv.1.length : Int))] [] (some []))) [bv, kv] = true := by
      show xk_bL xk_bV [xk_sv [bv, kv, (0, (iv.1.length : Int))] [] (some []) (0, ((0 : Nat) : Int)), xk_sv [bv, kv, (0, (iv.1.length : Int))] [] (some []) (0, ((1 : Nat) : Int))] [bv, kv] = true
      rw [s0, s1]
      unfold xk_bL xk_bL xk_bL
      rw [xi_bV, xi_bV]
      rfl
    have t2 : xk_fitN (iv.1 ++ [(0, 1)], iv.2) [bv, kv, (0, (iv.1.length : Int))] xi_K.1.1 = true := by
      have u0 := xi_iv_app (I := (0, 1)) (rs := iv.2) hb
      have u1 := xi_iv_app (I := (0, 1)) (rs := iv.2) hk
      have u2 := xi_iv_last (iv := iv) (I := (0, 1)) (rs := iv.2)
      have a0 : ∀ q : xk_V, (q.1 = 5 ∨ q.1 = 0 ∧ q.2.toNat < iv.1.length) → (decide (q.1 = 5) || (decide (q.1 = 0) && decide (q.2.toNat < (iv.1 ++ [((0 : Int), (1 : Int))]).length))) = true := by
        intro q hq
        rw [Bool.or_eq_true, Bool.and_eq_true, decide_eq_true_eq, decide_eq_true_eq, decide_eq_true_eq, List.length_append]
        rcases hq with hq | hq
        · exact Or.inl hq
        · exact Or.inr ⟨hq.1, Nat.lt_of_lt_of_le hq.2 (Nat.le_add_right _ _)⟩
      unfold xk_fitN
      rw [Bool.and_eq_true, Bool.and_eq_true, Bool.and_eq_true]
      refine ⟨⟨⟨rfl, ?_⟩, ?_⟩, rfl⟩
      · rw [List.all_eq_true]
        intro q hq
        simp only [List.mem_cons, List.not_mem_nil, or_false] at hq
        rcases hq with rfl | rfl | rfl
        · exact a0 _ hb
        · exact a0 _ hk
        · rw [Bool.or_eq_true, Bool.and_eq_true, decide_eq_true_eq, decide_eq_true_eq, decide_eq_true_eq, List.length_append]
          right
          refine ⟨rfl, ?_⟩
          show ((iv.1.length : Nat) : Int).toNat < iv.1.length + 1
          rw [Int.toNat_natCast]
          omega
      · rw [List.all_eq_true]
        intro z hz
        have hz : z ∈ [(bv, ((0 : Int), (511 : Int))), (kv, (0, 8)), ((0, (iv.1.length : Int)), (0, 1))] := hz
        simp only [List.mem_cons, List.not_mem_nil, or_false] at hz
        rw [Bool.and_eq_true, Bool.or_eq_true, decide_eq_true_eq, decide_eq_true_eq]
        rcases hz with rfl | rfl | rfl
        · dsimp only
          rw [u0]
          exact ⟨b1, Or.inl b2⟩
        · dsimp only
          rw [u1]
          exact ⟨k1, Or.inl k2⟩
        · dsimp only
          rw [u2]
          exact ⟨Int.le_refl _, Or.inl (Int.le_refl _)⟩
    rw [t1, t2]
    rfl
  have G1 := xk_s_callP (b := (0, env ++ [r], ad, oq)) (iv := (iv.1 ++ [(0, 1)], iv.2)) (lo := lo) (hp := hp) (kc := kc) (ks := ks) (As := [bv, kv]) (rest := st) (mp := [bv, kv, (0, (iv.1.length : Int))]) (pm := []) (om := []) (e := e) (Q := Q) (below := below) (meth := meth) F SU hR hΦ hf hsum hkc hks (fun P hP iv2 hiv2 => by
    have hP1 : P = (([(0, 511), (0, 8), (0, 1)], []), some (0, 2), []) := List.mem_singleton.mp hP
    subst hP1
    intro env2 ad2 H2 locs2 ls2 sv2 hI2
    have l2 : iv2.1.length = iv.1.length + 1 := by
      unfold xk_afn at hiv2
      split at hiv2
      · cases hiv2
      · rename_i iv1 e1
        have h3 := xi_refs_len _ _ e1
        have hiv2 : (iv1.1 ++ [], iv1.2) = iv2 := Option.some.inj hiv2
        rw [← hiv2]
        show (iv1.1 ++ []).length = _
        rw [List.append_nil, h3, List.length_append]
        rfl
    obtain ⟨g0, glv, gst, ws2, ga, gc, gP, gD, gS, gpre⟩ := hI2
    have he : env2 = env ++ [r] := by
      apply List.ext_getElem?
      intro j
      by_cases hj : j < (env ++ [r]).length
      · rw [List.getElem?_eq_getElem hj]
        exact gpre.1 j _ (List.getElem?_eq_getElem hj)
      · have hlen2 : env2.length = (env ++ [r]).length := by
          rw [g0.1]
          show iv2.1.length = _
          rw [l2, List.length_append, hlen]
          rfl
        rw [List.getElem?_eq_none (by omega), List.getElem?_eq_none (by omega)]
    subst he
    obtain ⟨v, rest2, ev, hv, hrest⟩ := xk_r2_cons gst
    have hv : xk_v (0, env ++ [r], ad, oq) (env ++ [r]) ad2 (0, (iv.1.length : Int)) v := hv
    obtain ⟨z, ez, hz⟩ := hv
    have hz2 : r = z.toInt := by
      have h5 : (env ++ [r])[iv.1.length]? = some z.toInt := hz
      rw [lastOf] at h5
      exact Option.some.inj h5
    have gc : xk_r2 (xk_c s (0, env ++ [r], ad, oq) (env ++ [r]) ad2) (hp ++ []) ws2 := gc
    rw [List.append_nil] at gc
    have hpre0 : xk_pre (0, e0, a0, oq) env ad := h.2.2.2.choose_spec.2.2.2.2.2
    have hpre2 : xk_pre (0, e0, a0, oq) (env ++ [r]) ad2 := ⟨fun j n hj => xk_ga (hpre0.1 j n hj), fun j a hj => gpre.2 j a (hpre0.2 j a hj)⟩
    have hin2 : xk_In (0, env ++ [r], ad, oq) nL s D A ((iv.1 ++ [(0, 1)], iv.2), lo, st, hp, kc, ks) (env ++ [r]) ad2 H2 locs2 ls2 rest2 := ⟨hok, glv, hrest, ws2, ga, gc, gP, gD, gS, gpre⟩
    have G2 := kk env ad2 H2 locs2 ls2 rest2 xb.toInt yk.toInt r (xk_In_b hpre2 hin2) h.1 nx ny hr
    have ez2 : v = .int (Int32.ofInt r) := by rw [ez, hz2, Int32.ofInt_toInt]
    rw [ev, ez2]
    exact G2)
  exact G1 (env ++ [r]) ad H locs ls sv hin
end XI2

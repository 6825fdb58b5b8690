section XD
variable {p : Program} {l : Launch} {e : Env} {R : Room} {s : State} {m : MethodId} {args : Array Value} {below : List Frame} {meth : Method} {c : Code} {Q : State → Prop} {b : xk_b} {D : va_G} {A : Nat → Prop} {own : String} {cc : ByteArray} {nL : Nat} {pc : Nat} {iv iv' : xk_N} {lo : List (Nat × xk_V)} {st : List xk_V} {hp : List xk_C} {kc ks : Nat}
theorem xk_s_astI (F : xk_Fx p s m args c D A own cc nL) {q j : Int} {t n : Nat} {fs : List xk_V} {I : xk_I} {ov : List (Nat × xk_V)} {av : xk_V} (ht : t = 0 ∨ t = 2 ∧ 0 ≤ (xk_iv iv av).1 ∧ (xk_iv iv av).2 ≤ 1) (hav : xk_isI av = true) (hd : decode cc pc = .ok (if t = 0 then .iastore else .bastore, 1)) (hc : hp[q.toNat]? = some (1, t, fs, n, I, ov)) (hj1 : 0 ≤ j) (hj2 : j < n) (kk : xk_G p l e R s m args below meth c Q b nL D A (pc + 1) (iv, lo, st, hp.set q.toNat (1, t, fs, n, I, xk_put ov I j.toNat av), kc, ks)) : xk_G p l e R s m args below meth c Q b nL D A pc (iv, lo, av :: (5, j) :: (2, q) :: st, hp, kc, ks) := by
  intro env ad H locs ls sv h
  obtain ⟨v, r0, rfl, hv, h0⟩ := xk_pop h
  obtain ⟨y, rfl, hyn⟩ := xk_vI hav hv
  obtain ⟨x, r1, rfl, hx0, h0⟩ := xk_popI h0 rfl
  obtain ⟨a, rest, rfl, ha, h0⟩ := xk_popR h0
  obtain ⟨ws, e, h1, h2, hP, hD, hS, hw, cA, f, he, har, hel⟩ := xk_cell h0 ha hc
  obtain ⟨hx, hb, hml, hown, hts, hK, hA⟩ := F
  have hxj : x.toInt = j := hx0
  have hin : vp_in x n := by rw [vp_in_iff]; omega
  have hcl : x.toNatClampNeg = j.toNat := xk_clamp (by omega)
  cases he
  rcases ht with rfl | ⟨rfl, hb1, hb2⟩
  · refine va_iast hx hb (xk_K1 hK har) hP hD hS q.toNat 0 hw rfl hin hd (fun H1 locs1 p1 p2 p3 => kk _ _ _ _ _ _ (xk_wr h0 h1 h2 hw ⟨cA, upd f x.toNatClampNeg y, rfl, har, ?_⟩ p1 p2 p3))
    rw [hcl]
    exact xk_put_I hel hv
  · have hbb := xk_iv_ok h.1 hyn
    have hbb1 : (xk_iv iv av).1 ≤ y.toInt := hbb.1
    have hbb2 : y.toInt ≤ (xk_iv iv av).2 := hbb.2
    have hnar : vp_nar .boolean y = y := by rcases xk_bool (x := y) (by omega) (by omega) with rfl | rfl <;> rfl
    refine va_zast hx hb (xk_K1 hK har) hP hD hS q.toNat 0 hw rfl hin hd (fun H1 locs1 p1 p2 p3 => kk _ _ _ _ _ _ (xk_wr h0 h1 h2 hw ⟨cA, upd f x.toNatClampNeg (vp_nar .boolean y), rfl, har, ?_⟩ p1 p2 p3))
    rw [hcl, hnar]
    exact xk_put_I hel hv
def xk_hull (I J : xk_I) : xk_I := (min I.1 J.1, max I.2 J.2)
theorem xk_s_astB (F : xk_Fx p s m args c D A own cc nL) {q j : Int} {n : Nat} {fs : List xk_V} {I : xk_I} {ov : List (Nat × xk_V)} {av : xk_V} (hav : xk_isI av = true) (hd : decode cc pc = .ok (.bastore, 1)) (hc : hp[q.toNat]? = some (1, 1, fs, n, I, ov)) (hj1 : 0 ≤ j) (hj2 : j < n) (kk : xk_G p l e R s m args below meth c Q b nL D A (pc + 1) (iv, lo, st, hp.set q.toNat (1, 1, fs, n, xk_hull I (-128, 127), xk_del ov j.toNat), kc, ks)) : xk_G p l e R s m args below meth c Q b nL D A pc (iv, lo, av :: (5, j) :: (2, q) :: st, hp, kc, ks) := by
  intro env ad H locs ls sv h
  obtain ⟨v, r0, rfl, hv, h0⟩ := xk_pop h
  obtain ⟨y, rfl, hyn⟩ := xk_vI hav hv
  obtain ⟨x, r1, rfl, hx0, h0⟩ := xk_popI h0 rfl
  obtain ⟨a, rest, rfl, ha, h0⟩ := xk_popR h0
  obtain ⟨ws, e, h1, h2, hP, hD, hS, hw, cA, f, he, har, hel⟩ := xk_cell h0 ha hc
  obtain ⟨hx, hb, hml, hown, hts, hK, hA⟩ := F
  have hxj : x.toInt = j := hx0
  have hin : vp_in x n := by rw [vp_in_iff]; omega
  have hcl : x.toNatClampNeg = j.toNat := xk_clamp (by omega)
  cases he
  refine va_bast hx hb (xk_K1 hK har) hP hD hS q.toNat 0 hw rfl hin hd (fun H1 locs1 p1 p2 p3 => kk _ _ _ _ _ _ (xk_wr h0 h1 h2 hw ⟨cA, upd f x.toNatClampNeg (vp_nar .byte y), rfl, har, ?_⟩ p1 p2 p3))
  rw [hcl]
  intro i hi
  have hE := hel i hi
  unfold xk_eI at hE ⊢
  show match xk_ov (xk_del ov j.toNat) i with
    | some av => xk_v b env ad av (.int (upd f j.toNat (vp_nar .byte y) i))
    | none => (xk_hull I (-128, 127)).1 ≤ (upd f j.toNat (vp_nar .byte y) i).toInt ∧ (upd f j.toNat (vp_nar .byte y) i).toInt ≤ (xk_hull I (-128, 127)).2
  rw [xk_ov_del]
  by_cases hij : i = j.toNat
  · rw [if_pos hij, hij, pk_us]
    have h8 := Int8.le_toInt y.toInt8
    have h9 := Int8.toInt_lt y.toInt8
    have h7 : (vp_nar .byte y).toInt = y.toInt8.toInt := by rw [vp_nar_byte, Int8.toInt_toInt32]
    show min I.1 (-128) ≤ _ ∧ _ ≤ max I.2 127
    omega
  · rw [if_neg hij, pk_un hij]
    have hE2 : match xk_ov ov i with
      | some av => xk_v b env ad av (.int (f i))
      | none => I.1 ≤ (f i).toInt ∧ (f i).toInt ≤ I.2 := hE
    cases ho : xk_ov ov i with
    | some av2 => rw [ho] at hE2; exact hE2
    | none =>
      rw [ho] at hE2
      show min I.1 (-128) ≤ _ ∧ _ ≤ max I.2 127
      have h3 : I.1 ≤ (f i).toInt := hE2.1
      have h4 : (f i).toInt ≤ I.2 := hE2.2
      omega
theorem xk_s_astL (F : xk_Fx p s m args c D A own cc nL) {q j : Int} {n : Nat} {fs : List xk_V} {I : xk_I} {ov : List (Nat × xk_V)} {av : xk_V} (hav : xk_isL av = true) (hd : decode cc pc = .ok (.lastore, 1)) (hc : hp[q.toNat]? = some (2, 3, fs, n, I, ov)) (hj1 : 0 ≤ j) (hj2 : j < n) (kk : xk_G p l e R s m args below meth c Q b nL D A (pc + 1) (iv, lo, st, hp.set q.toNat (2, 3, fs, n, I, xk_put ov I j.toNat av), kc, ks)) : xk_G p l e R s m args below meth c Q b nL D A pc (iv, lo, av :: (5, j) :: (2, q) :: st, hp, kc, ks) := by
  intro env ad H locs ls sv h
  obtain ⟨v, r0, rfl, hv, h0⟩ := xk_pop h
  obtain ⟨y, rfl, hyn⟩ := xk_vL hav hv
  obtain ⟨x, r1, rfl, hx0, h0⟩ := xk_popI h0 rfl
  obtain ⟨a, rest, rfl, ha, h0⟩ := xk_popR h0
  obtain ⟨ws, e, h1, h2, hP, hD, hS, hw, cA, f, he, har, hel⟩ := xk_cell h0 ha hc
  obtain ⟨hx, hb, hml, hown, hts, hK, hA⟩ := F
  have hxj : x.toInt = j := hx0
  have hin : vp_in x n := by rw [vp_in_iff]; omega
  have hcl : x.toNatClampNeg = j.toNat := xk_clamp (by omega)
  cases he
  refine va_last hx hb (xk_K1 hK har) hP hD hS q.toNat 0 hw rfl hin hd (fun H1 locs1 p1 p2 p3 => kk _ _ _ _ _ _ (xk_wr h0 h1 h2 hw ⟨cA, vp_updL f x.toNatClampNeg y, rfl, har, ?_⟩ p1 p2 p3))
  rw [hcl]
  exact xk_put_L hel hv
theorem xk_s_astQ (F : xk_Fx p s m args c D A own cc nL) {q j z : Int} {t n ci n2 : Nat} {fs fs2 : List xk_V} {I I2 : xk_I} {ov ov2 : List (Nat × xk_V)} (ht : t = 4 ∧ ci = 2 ∨ t = 5 ∧ ci = 6) (hd : decode cc pc = .ok (.aastore, 1)) (hc : hp[q.toNat]? = some (3, t, fs, n, I, ov)) (hz : hp[z.toNat]? = some (0, ci, fs2, n2, I2, ov2)) (hj1 : 0 ≤ j) (hj2 : j < n) (kk : xk_G p l e R s m args below meth c Q b nL D A (pc + 1) (iv, lo, st, hp.set q.toNat (3, t, fs, n, I, (j.toNat, (2, z)) :: xk_del ov j.toNat), kc, ks)) : xk_G p l e R s m args below meth c Q b nL D A pc (iv, lo, (2, z) :: (5, j) :: (2, q) :: st, hp, kc, ks) := by
  intro env ad H locs ls sv h
  obtain ⟨a2, r0, rfl, ha2, h0⟩ := xk_popR h
  obtain ⟨x, r1, rfl, hx0, h0⟩ := xk_popI h0 rfl
  obtain ⟨a, rest, rfl, ha, h0⟩ := xk_popR h0
  obtain ⟨ws, e, h1, h2, hP, hD, hS, hw, cA, f, he, har, hel⟩ := xk_cell h0 ha hc
  obtain ⟨w2, hw2, vs2, he2, hr2⟩ := xk_r2_get z.toNat h2 hz
  have h6 : w2.1 = a2 := by
    rw [← h1, List.getElem?_map, hw2] at ha2
    exact Option.some.inj ha2
  obtain ⟨a2', e2⟩ := w2
  have h6' : a2 = a2' := Eq.symm h6
  subst h6'
  cases he2
  obtain ⟨hx, hb, hml, hown, hts, hK, hA⟩ := F
  have hxj : x.toInt = j := hx0
  have hin : vp_in x n := by rw [vp_in_iff]; omega
  have hcl : x.toNatClampNeg = j.toNat := xk_clamp (by omega)
  cases he
  have hnew : ∀ i, i < n → xk_eQ b env ad ((j.toNat, (2, z)) :: xk_del ov j.toNat) (va_up f x.toNatClampNeg (some a2)) i := by
    intro i hi
    have hE := hel i hi
    unfold xk_eQ at hE ⊢
    rw [hcl]
    by_cases hij : i = j.toNat
    · rw [hij]
      unfold xk_ov
      rw [if_pos rfl]
      refine ⟨a2, ?_, ha2⟩
      unfold va_up
      rw [if_pos rfl]
      rfl
    · rw [xk_ov_ne hij, xk_ov_del, if_neg hij]
      have e3 : va_up f j.toNat (some a2) i = f i := by unfold va_up; exact if_neg hij
      rw [e3]
      exact hE
  rcases ht with ⟨rfl, rfl⟩ | ⟨rfl, rfl⟩
  · exact va_astq hx hb (xk_K1 hK har) hP hD hS q.toNat 0 z.toNat 2 (r := (RX2, TX2, 17)) hw rfl hw2 rfl hin hd (fun H1 locs1 p1 p2 p3 => kk _ _ _ _ _ _ (xk_wr h0 h1 h2 hw ⟨cA, _, rfl, har, hnew⟩ p1 p2 p3))
  · exact va_astq hx hb (xk_K1 hK har) hP hD hS q.toNat 0 z.toNat 6 (r := (RX6, TX6, 3)) hw rfl hw2 rfl hin hd (fun H1 locs1 p1 p2 p3 => kk _ _ _ _ _ _ (xk_wr h0 h1 h2 hw ⟨cA, _, rfl, har, hnew⟩ p1 p2 p3))
theorem xk_v_a {env : List Int} {ad : List Nat} (a2 : List Nat) {av : xk_V} {v : Value} (h : xk_v b env ad av v) : xk_v b env (ad ++ a2) av v := by
  have h2 := xk_v_mono [] a2 h
  rwa [List.append_nil] at h2
/-- a new cell behind the others -/
theorem xk_newc {env : List Int} {ad : List Nat} {H H1 : Heap} {locs locs1 : List Loc} {ls : Array Slot} {sv : List Value} {ws : va_W} {a kc2 ks2 : Nat} {e : va_E} {ce : xk_C} (h : xk_In b nL s D A (iv, lo, st, hp, kc, ks) env ad H locs ls sv) (h1 : ws.map Prod.fst = ad) (h2 : xk_r2 (xk_c s b env ad) hp ws) (hc : xk_c s b env (ad ++ [a]) ce (a, e)) (hP : va_P D vwCl (ws ++ [(a, e)]) H1) (hD : va_D A (ws ++ [(a, e)])) (hS : va_S A s.heap H1 locs1) : xk_In b nL s D A (iv, lo, (2, (hp.length : Int)) :: st, hp ++ [ce], kc2, ks2) env (ad ++ [a]) H1 locs1 ls (.ref a :: sv) := by
  obtain ⟨p1, ⟨lvs, hl, hr⟩, p3, ws0, -, -, -, -, -, hpre⟩ := h
  refine ⟨p1, ⟨lvs, hl, xk_r2_mono (fun _ _ q => ⟨q.1, xk_v_a [a] q.2⟩) hr⟩, ⟨⟨a, rfl, ?_⟩, xk_r2_mono (fun _ _ q => xk_v_a [a] q) p3⟩, ws ++ [(a, e)], by rw [List.map_append, h1]; rfl, xk_r2_app (as' := [ce]) (bs' := [(a, e)]) ⟨hc, trivial⟩ (xk_r2_mono (fun _ _ q => xk_c_map (Vm.Alike.refl _) (fun _ _ q => xk_v_a [a] q) q) h2), hP, hD, hS, xk_pre_a hpre⟩
  have hlen : hp.length = ad.length := by rw [← h1, List.length_map]; exact xk_r2_len h2
  show (ad ++ [a])[((hp.length : Int)).toNat]? = some a
  rw [hlen]
  simp
def xk_dv (tc : Nat) : xk_V := match tc % 4 with
  | 0 => (5, 0)
  | 1 => (6, 0)
  | 2 => (3, 0)
  | _ => (5, 0)
def xk_dV (tc : Nat) : Value := match tc % 4 with
  | 0 => .int 0
  | 1 => .long 0
  | 2 => .null
  | _ => .int 0
theorem xk_dv_ok {env : List Int} {ad : List Nat} (tc : Nat) : xk_v b env ad (xk_dv tc) (xk_dV tc) := by
  unfold xk_dv xk_dV
  split
  · exact ⟨0, rfl, rfl⟩
  · exact ⟨0, rfl, rfl⟩
  · rfl
  · exact ⟨0, rfl, rfl⟩
theorem xk_dV_ok {tc : Nat} {ty : FieldType} (h : xk_tc tc ty = true) : defaultValue ty = xk_dV tc := by
  unfold xk_tc at h
  unfold xk_dV
  split at h
  · rename_i e; rw [e]; rfl
  · rename_i e; rw [e]; rfl
  · rename_i e; rw [e]; rfl
  · rename_i e; rw [e]; rfl
  · rename_i e; rw [e]; rfl
  · cases h
theorem xk_r2_dv {env : List Int} {ad : List Nat} : ∀ (l : List Nat), xk_r2 (xk_v b env ad) (l.map xk_dv) (l.map xk_dV)
  | [] => trivial
  | tc :: l => ⟨xk_dv_ok tc, xk_r2_dv l⟩
def xk_Nw (own : String) (q : Nat × Nat × List Nat) : Prop := ∃ (C : String) (T : u_T) (N : Nat) (ty0 : Nat → FieldType), vwCl[q.2.1]? = some (C, T, N) ∧ (∀ w ∈ u_ws C T N, w ∈ xk_tb) ∧ (∀ k, k < N → parseFieldDescriptor (T k).2.2.1 = some (ty0 k)) ∧ Cond.classLink own q.1 C ∈ xk_tb ∧ Cond.instantiable C N ∈ xk_tb ∧ Cond.initialized C ∈ xk_tb ∧ q.2.2.length = N ∧ ∀ j, j < N → xk_tc (q.2.2.getD j 0) (ty0 j) = true
theorem xk_s_new (F : xk_Fx p s m args c D A own cc nL) {idx ci : Nat} {tcs : List Nat} (hnw : xk_Nw own (idx, ci, tcs)) (hd : decode cc pc = .ok (.new idx, 3)) (hcells : kc + 1 ≤ R.cells) (hslots : ks + tcs.length ≤ R.slots) (kk : xk_G p l e R s m args below meth c Q b nL D A (pc + 3) (iv, lo, (2, (hp.length : Int)) :: st, hp ++ [(0, ci, tcs.map xk_dv, 0, (0, 0), [])], kc + 1, ks + tcs.length)) : xk_G p l e R s m args below meth c Q b nL D A pc (iv, lo, st, hp, kc, ks) := by
  intro env ad H locs ls sv h
  obtain ⟨-, -, -, ws, h1, h2, hP, hD, hS, -⟩ := id h
  obtain ⟨hx, hb, hml, hown, hts, hK, hA⟩ := F
  obtain ⟨C, T, N, ty0, c1, c2, c3, c4, c5, c6, c7, c8⟩ := hnw
  dsimp only at c1 c4 c7 c8
  subst c7
  refine va_new (fs := tcs.map xk_dV) hx hb hts c2 ty0 c3 hown (hts _ c4) (hts _ c5) (hts _ c6) hK hP hD hS hA c1 (fun j hj => ?_) hcells hslots hd (fun q H1 p1 p2 p3 => kk _ _ _ _ _ _ (xk_newc h h1 h2 ⟨_, rfl, xk_r2_dv tcs⟩ p1 p2 p3))
  rw [xk_dV_ok (c8 j hj)]
  unfold vp_V
  rw [List.getD_eq_getElem?_getD, List.getD_eq_getElem?_getD, List.getElem?_map, List.getElem?_eq_getElem hj]
  rfl
def xk_at (t : Nat) : ArrayType := match t with
  | 0 => .int
  | 1 => .byte
  | 2 => .boolean
  | _ => .long
theorem xk_RA_eq {U : State} {t : Nat} {c1 c2 : ClassId} (h1 : xk_ar U t c1) (h2 : xk_ar U t c2) : c1 = c2 := by
  have e1 := h1.2
  have e2 := h2.2
  unfold xk_ty at e1 e2
  rcases t with _ | _ | _ | _ | _ | t
  · exact Option.some.inj (Eq.trans (Eq.symm e1) e2)
  · exact Option.some.inj (Eq.trans (Eq.symm e1) e2)
  · exact Option.some.inj (Eq.trans (Eq.symm e1) e2)
  · exact Option.some.inj (Eq.trans (Eq.symm e1) e2)
  · obtain ⟨k1, m1, -, -, -, q1⟩ := e1
    obtain ⟨k2, m2, -, -, -, q2⟩ := e2
    exact Option.some.inj (Eq.trans (Eq.symm q1) q2)
  · obtain ⟨k1, m1, -, -, -, q1⟩ := e1
    obtain ⟨k2, m2, -, -, -, q2⟩ := e2
    exact Option.some.inj (Eq.trans (Eq.symm q1) q2)
theorem xk_s_newa (F : xk_Fx p s m args c D A own cc nL) {t N : Nat} {n : Int} (ht : t < 4) (hN : n = N) (hN2 : N ≤ 100000) (hin : Cond.arrayClass (xk_ty t) ∈ xk_tb) (hd : decode cc pc = .ok (.newarray (xk_at t), 2)) (hcells : kc + 1 ≤ R.cells) (hslots : ks + N ≤ R.slots) (kk : xk_G p l e R s m args below meth c Q b nL D A (pc + 2) (iv, lo, (2, (hp.length : Int)) :: st, hp ++ [(if t = 3 then 2 else 1, t, [], N, (0, 0), [])], kc + 1, ks + N)) : xk_G p l e R s m args below meth c Q b nL D A pc (iv, lo, (5, n) :: st, hp, kc, ks) := by
  intro env ad H locs ls sv h
  obtain ⟨x, rest, rfl, hx0, h0⟩ := xk_popI h rfl
  obtain ⟨-, -, -, ws, h1, h2, hP, hD, hS, -⟩ := id h0
  obtain ⟨hx, hb, hml, hown, hts, hK, hA⟩ := F
  have hxn : x.toInt = n := hx0
  have hcl : x.toNatClampNeg = N := xk_clamp (by omega)
  have hneg : ¬ x < 0 := by rw [Int32.lt_iff_toInt_lt, Int32.toInt_zero]; omega
  rcases (show t = 0 ∨ t = 1 ∨ t = 2 ∨ t = 3 by omega) with rfl | rfl | rfl | rfl
  · refine va_newa (atype := .int) (ty := .int) (a0 := (N, .inl (fun _ => 0))) hx hb (hts (Cond.arrayClass .int) hin) rfl hK hP hD hS hA (fun _ => rfl) hneg hcl (by show N * 4 ≤ _; omega) hcells hslots hd (fun q cA H1 p0 p1 p2 p3 => kk _ _ _ _ _ _ (xk_newc h0 h1 h2 ⟨cA, fun _ => 0, rfl, p0.2 0 _ rfl, fun j _ => ⟨Int.le_refl _, Int.le_refl _⟩⟩ p1 p2 p3))
  · refine va_newa (atype := .byte) (ty := .byte) (a0 := (N, .inl (fun _ => 0))) hx hb (hts (Cond.arrayClass .byte) hin) rfl hK hP hD hS hA (fun _ => rfl) hneg hcl (by show N * 1 ≤ _; omega) hcells hslots hd (fun q cA H1 p0 p1 p2 p3 => kk _ _ _ _ _ _ (xk_newc h0 h1 h2 ⟨cA, fun _ => 0, rfl, p0.2 0 _ rfl, fun j _ => ⟨Int.le_refl _, Int.le_refl _⟩⟩ p1 p2 p3))
  · refine va_newa (atype := .boolean) (ty := .boolean) (a0 := (N, .inl (fun _ => 0))) hx hb (hts (Cond.arrayClass .boolean) hin) rfl hK hP hD hS hA (fun _ => rfl) hneg hcl (by show N * 1 ≤ _; omega) hcells hslots hd (fun q cA H1 p0 p1 p2 p3 => kk _ _ _ _ _ _ (xk_newc h0 h1 h2 ⟨cA, fun _ => 0, rfl, p0.2 0 _ rfl, fun j _ => ⟨Int.le_refl _, Int.le_refl _⟩⟩ p1 p2 p3))
  · refine va_newa (atype := .long) (ty := .long) (a0 := (N, .inr (.inl (fun _ => 0)))) hx hb (hts (Cond.arrayClass .long) hin) rfl hK hP hD hS hA (fun _ => rfl) hneg hcl (by show N * 8 ≤ _; omega) hcells hslots hd (fun q cA H1 p0 p1 p2 p3 => kk _ _ _ _ _ _ (xk_newc h0 h1 h2 ⟨cA, fun _ => 0, rfl, p0.2 0 _ rfl, fun j _ => ⟨Int.le_refl _, Int.le_refl _⟩⟩ p1 p2 p3))
theorem xk_s_newq (F : xk_Fx p s m args c D A own cc nL) {t N idx : Nat} {n : Int} (ht : t = 4 ∨ t = 5) (hN : n = N) (hN2 : N ≤ 100000) (hcl0 : Cond.classLink own idx (if t = 4 then "LieKitchen$Kitchen" else "LieKitchen$Slot") ∈ xk_tb) (hin : Cond.arrayOver (xk_ty t) ∈ xk_tb) (hd : decode cc pc = .ok (.anewarray idx, 3)) (hcells : kc + 1 ≤ R.cells) (hslots : ks + N ≤ R.slots) (kk : xk_G p l e R s m args below meth c Q b nL D A (pc + 3) (iv, lo, (2, (hp.length : Int)) :: st, hp ++ [(3, t, [], N, (0, 0), [])], kc + 1, ks + N)) : xk_G p l e R s m args below meth c Q b nL D A pc (iv, lo, (5, n) :: st, hp, kc, ks) := by
  intro env ad H locs ls sv h
  obtain ⟨x, rest, rfl, hx0, h0⟩ := xk_popI h rfl
  obtain ⟨-, -, -, ws, h1, h2, hP, hD, hS, -⟩ := id h0
  obtain ⟨hx, hb, hml, hown, hts, hK, hA⟩ := F
  have hxn : x.toInt = n := hx0
  have hcl : x.toNatClampNeg = N := xk_clamp (by omega)
  have hneg : ¬ x < 0 := by rw [Int32.lt_iff_toInt_lt, Int32.toInt_zero]; omega
  rcases ht with rfl | rfl
  · exact va_newq hx hb hown (hts _ hcl0) (va_AO.of (hts _ hin)) hK hP hD hS hA hneg hcl (by omega) hcells hslots hd (fun q cA H1 p0 p1 p2 p3 => kk _ _ _ _ _ _ (xk_newc h0 h1 h2 ⟨cA, fun _ => none, rfl, p0.2 0 _ rfl, fun j _ => rfl⟩ p1 p2 p3))
  · exact va_newq hx hb hown (hts _ hcl0) (va_AO.of (hts _ hin)) hK hP hD hS hA hneg hcl (by omega) hcells hslots hd (fun q cA H1 p0 p1 p2 p3 => kk _ _ _ _ _ _ (xk_newc h0 h1 h2 ⟨cA, fun _ => none, rfl, p0.2 0 _ rfl, fun j _ => rfl⟩ p1 p2 p3))
theorem xk_catsum {env : List Int} {ad : List Nat} : ∀ {st : List xk_V} {sv : List Value}, xk_r2 (xk_v b env ad) st sv → (sv.map fun v => v.category).sum = (st.map xk_cat).sum
  | [], [], _ => rfl
  | [], _ :: _, h => h.elim
  | _ :: _, [], h => h.elim
  | av :: st, v :: sv, h => by
    rw [List.map_cons, List.map_cons, List.sum_cons, List.sum_cons, xk_catsum h.2, xk_v_cat h.1]
theorem xk_s_obj (F : xk_Fx p s m args c D A own cc nL) {idx : Nat} {av : xk_V} (hav : xk_isR av = true) (hlink : Cond.methodLink own idx objectInit ∈ xk_tb) (hin : Cond.instanceMethod objectInit ∈ xk_tb) (hco : Cond.code objectInit ⟨#[0xb1]⟩ 1 none ∈ xk_tb) (hd : decode cc pc = .ok (.invokespecial idx, 3)) (hsum : (st.map xk_cat).sum ≤ 8) (hfr : 1 ≤ R.frames) (hlo : 20 ≤ R.locals) (kk : xk_G p l e R s m args below meth c Q b nL D A (pc + 3) (iv, lo, st, hp, kc, ks)) : xk_G p l e R s m args below meth c Q b nL D A pc (iv, lo, av :: st, hp, kc, ks) := by
  intro env ad H locs ls sv h
  obtain ⟨v, rest, rfl, hv, h0⟩ := xk_pop h
  obtain ⟨a, rfl⟩ := xk_vR hav hv
  obtain ⟨hx, hb, hml, hown, hts, hK, hA⟩ := F
  obtain ⟨-, ⟨lvs, hl, -⟩, hst, -⟩ := id h0
  have hs : (rest.map fun v => v.category).sum ≤ 8 := by rw [xk_catsum hst]; exact hsum
  have hr := lv_room (m := m) (pc := pc) (ls := ls) (rest := (.ref a :: rest)) hs
  refine W.objInit hx hb hown (hts _ hlink) (hts _ hin) (hts _ hco) rfl (by rw [hml]; exact hl.1) rfl hd hfr (by omega) ?_
  exact kk _ _ _ _ _ _ h0
theorem xk_s_acI (F : xk_Fx p s m args c D A own cc nL) {idx n : Nat} {q0 q1 n' : Int} {fs0 fs1 : List xk_V} {I0 I1 : xk_I} {ov0 ov1 : List (Nat × xk_V)} (hlink : Cond.methodLink own idx arraycopyName ∈ xk_tb) (hnat : Cond.native arraycopyName ∈ xk_tb) (hstat : Cond.static arraycopyName ∈ xk_tb) (hini : Cond.initialized "java/lang/System" ∈ xk_tb) (hd : decode cc pc = .ok (.invokestatic idx, 3)) (hn : n' = n) (hc0 : hp[q0.toNat]? = some (1, 0, fs0, n, I0, ov0)) (hc1 : hp[q1.toNat]? = some (1, 0, fs1, n, I1, ov1)) (hsum : (st.map xk_cat).sum ≤ 8) (hfr : 1 ≤ R.frames) (hlo : 8 + (nativeFrameWords "java/lang/System" "arraycopy" 5 + 11) ≤ R.locals) (kk : xk_G p l e R s m args below meth c Q b nL D A (pc + 3) (iv, lo, st, hp.set q1.toNat (1, 0, fs1, n, I0, ov0), kc, ks)) : xk_G p l e R s m args below meth c Q b nL D A pc (iv, lo, (5, n') :: (5, 0) :: (2, q1) :: (5, 0) :: (2, q0) :: st, hp, kc, ks) := by
  intro env ad H locs ls sv h
  obtain ⟨x, r1, rfl, hx0, h0⟩ := xk_popI h rfl
  obtain ⟨dp, r2, rfl, hdp, h0⟩ := xk_popI h0 rfl
  obtain ⟨a1, r3, rfl, ha1, h0⟩ := xk_popR h0
  obtain ⟨sp, r4, rfl, hsp, h0⟩ := xk_popI h0 rfl
  obtain ⟨a0, r5, rfl, ha0, h0⟩ := xk_popR h0
  obtain ⟨ws, e, h1, h2, hP, hD, hS, hw, cA, f, he, har, hel⟩ := xk_cell h0 ha0 hc0
  obtain ⟨w1, hw1, cB, g, he1, har1, hel1⟩ := xk_r2_get q1.toNat h2 hc1
  have h6 : w1.1 = a1 := by
    rw [← h1, List.getElem?_map, hw1] at ha1
    exact Option.some.inj ha1
  obtain ⟨a1', e1⟩ := w1
  have h6' : a1 = a1' := Eq.symm h6
  subst h6'
  cases he1
  cases he
  obtain ⟨hx, hb, hml, hown, hts, hK, hA⟩ := F
  obtain ⟨-, ⟨lvs, hl, -⟩, hst, -⟩ := id h0
  have hs : (r5.map fun v => v.category).sum ≤ 8 := by rw [xk_catsum hst]; exact hsum
  have e1 : x.toInt = n' := hx0
  have e2 : dp.toInt = 0 := hdp
  have e3 : sp.toInt = 0 := hsp
  have c1 : x.toNatClampNeg = n := xk_clamp (by omega)
  have c2 : dp.toNatClampNeg = 0 := xk_clamp (by omega)
  have c3 : sp.toNatClampNeg = 0 := xk_clamp (by omega)
  have hcB : cB = cA := xk_RA_eq har1 har
  subst hcB
  refine va_copyi (ty := .int) hx hb (by rw [hml]; exact Eq.symm hl.1) hown (hts _ hlink) (hts _ hnat) (hts _ hstat) (hts _ hini) (xk_K1 hK har) hP hD hS q0.toNat q1.toNat 0 0 hw hw1 rfl rfl rfl (by rw [Int32.lt_iff_toInt_lt, Int32.toInt_zero]; omega) (by rw [Int32.lt_iff_toInt_lt, Int32.toInt_zero]; omega) (by rw [Int32.lt_iff_toInt_lt, Int32.toInt_zero]; omega) (by rw [c1, c3]; show 0 + n ≤ n; omega) (by rw [c1, c2]; show 0 + n ≤ n; omega) (fun _ _ => rfl) hfr (by omega) hd (fun H1 locs1 p1 p2 p3 => kk _ _ _ _ _ _ (xk_wr h0 h1 h2 hw1 ⟨cB, _, rfl, har1, ?_⟩ p1 p2 p3))
  intro j hj
  have hj2 : j < n := hj
  have hE := hel j hj
  unfold xk_eI at hE ⊢
  have hcp : va_cpy f g sp.toNatClampNeg dp.toNatClampNeg x.toNatClampNeg j = f j := by
    rw [c1, c2, c3, pk_cpy_in (Nat.zero_le _) (by omega)]
    congr 1
    omega
  rw [hcp]
  exact hE
theorem xk_s_acL (F : xk_Fx p s m args c D A own cc nL) {idx n : Nat} {q0 q1 n' : Int} {fs0 fs1 : List xk_V} {I0 I1 : xk_I} {ov0 ov1 : List (Nat × xk_V)} (hlink : Cond.methodLink own idx arraycopyName ∈ xk_tb) (hnat : Cond.native arraycopyName ∈ xk_tb) (hstat : Cond.static arraycopyName ∈ xk_tb) (hini : Cond.initialized "java/lang/System" ∈ xk_tb) (hd : decode cc pc = .ok (.invokestatic idx, 3)) (hn : n' = n) (hc0 : hp[q0.toNat]? = some (2, 3, fs0, n, I0, ov0)) (hc1 : hp[q1.toNat]? = some (2, 3, fs1, n, I1, ov1)) (hsum : (st.map xk_cat).sum ≤ 8) (hfr : 1 ≤ R.frames) (hlo : 8 + (nativeFrameWords "java/lang/System" "arraycopy" 5 + 11) ≤ R.locals) (kk : xk_G p l e R s m args below meth c Q b nL D A (pc + 3) (iv, lo, st, hp.set q1.toNat (2, 3, fs1, n, I0, ov0), kc, ks)) : xk_G p l e R s m args below meth c Q b nL D A pc (iv, lo, (5, n') :: (5, 0) :: (2, q1) :: (5, 0) :: (2, q0) :: st, hp, kc, ks) := by
  intro env ad H locs ls sv h
  obtain ⟨x, r1, rfl, hx0, h0⟩ := xk_popI h rfl
  obtain ⟨dp, r2, rfl, hdp, h0⟩ := xk_popI h0 rfl
  obtain ⟨a1, r3, rfl, ha1, h0⟩ := xk_popR h0
  obtain ⟨sp, r4, rfl, hsp, h0⟩ := xk_popI h0 rfl
  obtain ⟨a0, r5, rfl, ha0, h0⟩ := xk_popR h0
  obtain ⟨ws, e, h1, h2, hP, hD, hS, hw, cA, f, he, har, hel⟩ := xk_cell h0 ha0 hc0
  obtain ⟨w1, hw1, cB, g, he1, har1, hel1⟩ := xk_r2_get q1.toNat h2 hc1
  have h6 : w1.1 = a1 := by
    rw [← h1, List.getElem?_map, hw1] at ha1
    exact Option.some.inj ha1
  obtain ⟨a1', e1⟩ := w1
  have h6' : a1 = a1' := Eq.symm h6
  subst h6'
  cases he1
  cases he
  obtain ⟨hx, hb, hml, hown, hts, hK, hA⟩ := F
  obtain ⟨-, ⟨lvs, hl, -⟩, hst, -⟩ := id h0
  have hs : (r5.map fun v => v.category).sum ≤ 8 := by rw [xk_catsum hst]; exact hsum
  have e1 : x.toInt = n' := hx0
  have e2 : dp.toInt = 0 := hdp
  have e3 : sp.toInt = 0 := hsp
  have c1 : x.toNatClampNeg = n := xk_clamp (by omega)
  have c2 : dp.toNatClampNeg = 0 := xk_clamp (by omega)
  have c3 : sp.toNatClampNeg = 0 := xk_clamp (by omega)
  have hcB : cB = cA := xk_RA_eq har1 har
  subst hcB
  refine va_copyl (ty := .long) hx hb (by rw [hml]; exact Eq.symm hl.1) hown (hts _ hlink) (hts _ hnat) (hts _ hstat) (hts _ hini) (xk_K1 hK har) hP hD hS q0.toNat q1.toNat 0 0 hw hw1 rfl rfl rfl (by rw [Int32.lt_iff_toInt_lt, Int32.toInt_zero]; omega) (by rw [Int32.lt_iff_toInt_lt, Int32.toInt_zero]; omega) (by rw [Int32.lt_iff_toInt_lt, Int32.toInt_zero]; omega) (by rw [c1, c3]; show 0 + n ≤ n; omega) (by rw [c1, c2]; show 0 + n ≤ n; omega) (fun _ _ => rfl) hfr (by omega) hd (fun H1 locs1 p1 p2 p3 => kk _ _ _ _ _ _ (xk_wr h0 h1 h2 hw1 ⟨cB, _, rfl, har1, ?_⟩ p1 p2 p3))
  intro j hj
  have hj2 : j < n := hj
  have hE := hel j hj
  unfold xk_eL at hE ⊢
  have hcp : va_cpy f g sp.toNatClampNeg dp.toNatClampNeg x.toNatClampNeg j = f j := by
    rw [c1, c2, c3, pk_cpy_in (Nat.zero_le _) (by omega)]
    congr 1
    omega
  rw [hcp]
  exact hE
/-- the script: number j of it is number j of all -/
theorem xk_s_sld (F : xk_Fx p s m args c D A own cc nL) {L : Nat} {xs : Nat → Int32} (hX : va_X (b.1 - 1) L xs s s.heap) (hbl : b.1 - 1 < s.heap.size) (hbA : ¬ A (b.1 - 1)) (hb2 : b.2.1 = (List.range L).map (fun j => (xs j).toInt)) {z j : Int} (hd : decode cc pc = .ok (.iaload, 1)) (hj1 : 0 ≤ j) (hj2 : j < L) (kk : xk_G p l e R s m args below meth c Q b nL D A (pc + 1) (iv, lo, (0, j) :: st, hp, kc, ks)) : xk_G p l e R s m args below meth c Q b nL D A pc (iv, lo, (5, j) :: (4, z) :: st, hp, kc, ks) := by
  intro env ad H locs ls sv h
  obtain ⟨x, r1, rfl, hx0, h0⟩ := xk_popI h rfl
  obtain ⟨v, rest, rfl, ⟨hv1, -, hv2⟩, h9⟩ := xk_pop h0
  obtain ⟨hx, hb, hml, hown, hts, hK, hA⟩ := F
  obtain ⟨-, -, -, ws, -, -, -, -, hS, -⟩ := id h9
  subst hv1
  have hxj : x.toInt = j := hx0
  have hcl : x.toNatClampNeg = j.toNat := xk_clamp (by omega)
  refine va_sld hx hb hX hbl hbA hS (by rw [vp_in_iff]; omega) hd ?_
  refine kk _ _ _ _ _ _ (xk_push h9 ⟨_, rfl, ?_⟩)
  rw [hcl]
  refine hv2 j.toNat _ ?_
  rw [hb2, List.getElem?_map, List.getElem?_range (by omega)]
  rfl
theorem xk_s_slen (F : xk_Fx p s m args c D A own cc nL) {L : Nat} {xs : Nat → Int32} (hX : va_X (b.1 - 1) L xs s s.heap) (hbl : b.1 - 1 < s.heap.size) (hbA : ¬ A (b.1 - 1)) {z : Int} (hd : decode cc pc = .ok (.arraylength, 1)) (kk : xk_G p l e R s m args below meth c Q b nL D A (pc + 1) (iv, lo, (5, (Int32.ofNat L).toInt) :: st, hp, kc, ks)) : xk_G p l e R s m args below meth c Q b nL D A pc (iv, lo, (4, z) :: st, hp, kc, ks) := by
  intro env ad H locs ls sv h
  obtain ⟨v, rest, rfl, ⟨hv1, -, hv2⟩, h0⟩ := xk_pop h
  obtain ⟨hx, hb, hml, hown, hts, hK, hA⟩ := F
  obtain ⟨-, -, -, ws, -, -, -, -, hS, -⟩ := id h0
  subst hv1
  exact va_slen hx hb hX hbl hbA hS hd (kk _ _ _ _ _ _ (xk_push h0 ⟨_, rfl, rfl⟩))
end XD

def xk_bJ (I : xk_I) : Bool := decide (I.1 = I.2)
theorem xk_bJ_eq {I : xk_I} (h : xk_bJ I = true) : I.1 = I.2 := by
  unfold xk_bJ at h
  exact of_decide_eq_true h
def xk_cz (iv : xk_N) (i : xk_V) : xk_V := if xk_isI i && xk_bJ (xk_iv iv i) then (5, (xk_iv iv i).1) else i
section XDb
variable {p : Program} {l : Launch} {e : Env} {R : Room} {s : State} {m : MethodId} {args : Array Value} {below : List Frame} {meth : Method} {c : Code} {Q : State → Prop} {b : xk_b} {D : va_G} {A : Nat → Prop} {own : String} {cc : ByteArray} {nL : Nat} {pc : Nat} {iv iv' : xk_N} {lo : List (Nat × xk_V)} {st : List xk_V} {hp : List xk_C} {kc ks : Nat}
theorem xk_cz_v {env : List Int} {ad : List Nat} {i : xk_V} {v : Value} (h0 : xk_ok env iv) (h : xk_v b env ad i v) : xk_v b env ad (xk_cz iv i) v := by
  unfold xk_cz
  split
  · rename_i hc
    rw [Bool.and_eq_true] at hc
    obtain ⟨x, rfl, hn⟩ := xk_vI hc.1 h
    have hb := xk_iv_ok h0 hn
    have he := xk_bJ_eq hc.2
    exact ⟨x, rfl, by show x.toInt = (xk_iv iv i).1; omega⟩
  · exact h
/-- a value of one number alone is that number -/
theorem xk_s_cz1 {i : xk_V} (k : xk_G p l e R s m args below meth c Q b nL D A pc (iv, lo, xk_cz iv i :: st, hp, kc, ks)) : xk_G p l e R s m args below meth c Q b nL D A pc (iv, lo, i :: st, hp, kc, ks) := by
  intro env ad H locs ls sv h
  exact k env ad H locs ls sv ⟨h.1, h.2.1, by
    obtain ⟨v, r, e, hv, hr⟩ := xk_r2_cons h.2.2.1
    rw [e]
    exact ⟨xk_cz_v h.1 hv, hr⟩, h.2.2.2⟩
theorem xk_s_cz2 {a i : xk_V} (k : xk_G p l e R s m args below meth c Q b nL D A pc (iv, lo, a :: xk_cz iv i :: st, hp, kc, ks)) : xk_G p l e R s m args below meth c Q b nL D A pc (iv, lo, a :: i :: st, hp, kc, ks) := by
  intro env ad H locs ls sv h
  exact k env ad H locs ls sv ⟨h.1, h.2.1, by
    obtain ⟨v, r, e, hv, hr⟩ := xk_r2_cons h.2.2.1
    obtain ⟨v2, r2, e2, hv2, hr2⟩ := xk_r2_cons hr
    rw [e, e2]
    exact ⟨hv, xk_cz_v h.1 hv2, hr2⟩, h.2.2.2⟩
theorem xk_clN {x : Int32} {n : Nat} (h1 : 0 ≤ x.toInt) (h2 : x.toInt < n) : x.toNatClampNeg < n := by
  unfold Int32.toNatClampNeg
  omega
theorem xk_s_aldIg (F : xk_Fx p s m args c D A own cc nL) {q : Int} {i : xk_V} {t n : Nat} {fs : List xk_V} {I : xk_I} (hi : xk_isI i = true) (ht : t < 3) (hd : decode cc pc = .ok (if t = 0 then .iaload else .baload, 1)) (hc : hp[q.toNat]? = some (1, t, fs, n, I, [])) (hj1 : 0 ≤ (xk_iv iv i).1) (hj2 : (xk_iv iv i).2 < n) (kk : xk_G p l e R s m args below meth c Q b nL D A (pc + 1) ((xk_new 0 iv I).1, lo, (xk_new 0 iv I).2 :: st, hp, kc, ks)) : xk_G p l e R s m args below meth c Q b nL D A pc (iv, lo, i :: (2, q) :: st, hp, kc, ks) := by
  intro env ad H locs ls sv h
  obtain ⟨x, r1, rfl, hx0, h0⟩ := xk_popI h hi
  obtain ⟨a, rest, rfl, ha, h0⟩ := xk_popR h0
  obtain ⟨ws, e, h1, h2, hP, hD, hS, hw, cA, f, he, har, hel⟩ := xk_cell h0 ha hc
  obtain ⟨hx, hb, hml, hown, hts, hK, hA⟩ := F
  have hbb := xk_iv_ok h.1 hx0
  have hbb1 : (xk_iv iv i).1 ≤ x.toInt := hbb.1
  have hbb2 : x.toInt ≤ (xk_iv iv i).2 := hbb.2
  have hin : vp_in x n := by rw [vp_in_iff]; omega
  cases he
  have hE := hel x.toNatClampNeg (xk_clN (by omega) (by show x.toInt < (n : Int); omega))
  have kk2 : W p l e R s m args below meth c H locs kc ks Q (F0 m (pc + 1) ls (.int (f x.toNatClampNeg) :: rest)) := by
    unfold xk_eI at hE
    obtain ⟨e2, hq⟩ := xk_pushI h0 hE.1 hE.2
    exact kk _ _ _ _ _ _ hq
  rcases (show t = 0 ∨ t = 1 ∨ t = 2 by omega) with rfl | rfl | rfl
  · exact va_iald hx hb (xk_K1 hK har) hP q.toNat 0 hw rfl hin hd kk2
  · exact va_bald hx hb (xk_K1 hK har) hP q.toNat 0 hw rfl hin hd kk2
  · exact va_zald hx hb (xk_K1 hK har) hP q.toNat 0 hw rfl hin hd kk2
theorem xk_s_ald12 (F : xk_Fx p s m args c D A own cc nL) {q j : Int} {n : Nat} {fs : List xk_V} {I : xk_I} {ov : List (Nat × xk_V)} (hd : decode cc pc = .ok (.iaload, 1)) (hc : hp[q.toNat]? = some (12, 0, fs, n, I, ov)) (hj1 : 0 ≤ j) (hj2 : j < n) (kk : xk_G p l e R s m args below meth c Q b nL D A (pc + 1) ((xk_ldv 0 iv (xk_h8 (j.toNat % 8)) ov j.toNat).1, lo, (xk_ldv 0 iv (xk_h8 (j.toNat % 8)) ov j.toNat).2 :: st, hp, kc, ks)) : xk_G p l e R s m args below meth c Q b nL D A pc (iv, lo, (5, j) :: (2, q) :: st, hp, kc, ks) := by
  intro env ad H locs ls sv h
  obtain ⟨x, r1, rfl, hx0, h0⟩ := xk_popI h rfl
  obtain ⟨a, rest, rfl, ha, h0⟩ := xk_popR h0
  obtain ⟨ws, e, h1, h2, hP, hD, hS, hw, cA, f, he, har, hel⟩ := xk_cell h0 ha hc
  obtain ⟨hx, hb, hml, hown, hts, hK, hA⟩ := F
  have hxj : x.toInt = j := hx0
  have hin : vp_in x n := by rw [vp_in_iff]; omega
  have hcl : x.toNatClampNeg = j.toNat := xk_clamp (by omega)
  cases he
  have hE : xk_eI b env ad (xk_h8 (j.toNat % 8)) ov f j.toNat := hel j.toNat (by show j.toNat < n; omega)
  have kk2 : W p l e R s m args below meth c H locs kc ks Q (F0 m (pc + 1) ls (.int (f x.toNatClampNeg) :: rest)) := by
    rw [hcl]
    unfold xk_eI at hE
    unfold xk_ldv at kk
    cases ho : xk_ov ov j.toNat with
    | some av =>
      rw [ho] at kk
      rw [ho] at hE
      exact kk _ _ _ _ _ _ (xk_push h0 hE)
    | none =>
      rw [ho] at kk
      rw [ho] at hE
      obtain ⟨e2, hq⟩ := xk_pushI h0 hE.1 hE.2
      exact kk _ _ _ _ _ _ hq
  exact va_iald hx hb (xk_K1 hK har) hP q.toNat 0 hw rfl hin hd kk2
theorem xk_s_ast12 (F : xk_Fx p s m args c D A own cc nL) {q j : Int} {n : Nat} {fs : List xk_V} {I : xk_I} {ov : List (Nat × xk_V)} {av : xk_V} (hav : xk_isI av = true) (hd : decode cc pc = .ok (.iastore, 1)) (hc : hp[q.toNat]? = some (12, 0, fs, n, I, ov)) (hj1 : 0 ≤ j) (hj2 : j < n) (kk : xk_G p l e R s m args below meth c Q b nL D A (pc + 1) (iv, lo, st, hp.set q.toNat (12, 0, fs, n, I, (j.toNat, av) :: xk_del ov j.toNat), kc, ks)) : xk_G p l e R s m args below meth c Q b nL D A pc (iv, lo, av :: (5, j) :: (2, q) :: st, hp, kc, ks) := by
  intro env ad H locs ls sv h
  obtain ⟨v, r0, rfl, hv, h0⟩ := xk_pop h
  obtain ⟨y, rfl, hyn⟩ := xk_vI hav hv
  obtain ⟨x, r1, rfl, hx0, h0⟩ := xk_popI h0 rfl
  obtain ⟨a, rest, rfl, ha, h0⟩ := xk_popR h0
  obtain ⟨ws, ev, h1, h2, hP, hD, hS, hw, cA, f, he, har, hel⟩ := xk_cell h0 ha hc
  obtain ⟨hx, hb, hml, hown, hts, hK, hA⟩ := F
  have hxj : x.toInt = j := hx0
  have hin : vp_in x n := by rw [vp_in_iff]; omega
  have hcl : x.toNatClampNeg = j.toNat := xk_clamp (by omega)
  cases he
  refine va_iast hx hb (xk_K1 hK har) hP hD hS q.toNat 0 hw rfl hin hd (fun H1 locs1 p1 p2 p3 => kk _ _ _ _ _ _ (xk_wr h0 h1 h2 hw ⟨cA, upd f x.toNatClampNeg y, rfl, har, ?_⟩ p1 p2 p3))
  rw [hcl]
  intro i hi
  show xk_eI b env ad (xk_h8 (i % 8)) ((j.toNat, av) :: xk_del ov j.toNat) (upd f j.toNat y) i
  have hE : xk_eI b env ad (xk_h8 (i % 8)) ov f i := hel i hi
  unfold xk_eI at hE ⊢
  by_cases hij : j.toNat = i
  · subst hij
    have e : xk_ov ((j.toNat, av) :: xk_del ov j.toNat) j.toNat = some av := by
      unfold xk_ov
      rw [if_pos rfl]
    rw [e]
    show xk_v b env ad av (.int (upd f j.toNat y j.toNat))
    rw [pk_us]
    exact hv
  · have e : xk_ov ((j.toNat, av) :: xk_del ov j.toNat) i = xk_ov ov i := by
      conv => lhs; unfold xk_ov
      rw [if_neg hij, xk_ov_del, if_neg (fun z => hij z.symm)]
    have e2 : upd f j.toNat y i = f i := pk_un (fun z => hij z.symm)
    rw [e, e2]
    exact hE
def xk_k8 (kd : Nat) : Bool := Nat.beq kd 8 || (Nat.beq kd 10 || Nat.beq kd 11)
theorem xk_c8_of {U : State} {b : xk_b} {env : List Int} {ad : List Nat} {kd t n : Nat} {fs : List xk_V} {I : xk_I} {ov : List (Nat × xk_V)} {w : Nat × va_E} (hk : xk_k8 kd = true) (h : xk_c U b env ad (kd, t, fs, n, I, ov) w) : ∃ (cA : ClassId) (f : Nat → Int32), w.2 = .inl (cA, n, .inl f) ∧ xk_ar U t cA ∧ ∀ j, j < n → xk_eI b env ad I ov f j := by
  unfold xk_k8 at hk
  simp only [Bool.or_eq_true] at hk
  rcases hk with hk | hk | hk
  · have e : kd = 8 := Nat.eq_of_beq_eq_true hk
    subst e
    obtain ⟨cA, f, h1, h2, h3, -⟩ := h
    exact ⟨cA, f, h1, h2, h3⟩
  · have e : kd = 10 := Nat.eq_of_beq_eq_true hk
    subst e
    obtain ⟨cA, f, h1, h2, h3, -⟩ := h
    exact ⟨cA, f, h1, h2, h3⟩
  · have e : kd = 11 := Nat.eq_of_beq_eq_true hk
    subst e
    obtain ⟨cA, f, h1, h2, h3, -⟩ := h
    exact ⟨cA, f, h1, h2, h3⟩
theorem xk_s_ald8 (F : xk_Fx p s m args c D A own cc nL) {q : Int} {i : xk_V} {kd n : Nat} {fs : List xk_V} {I : xk_I} (hk : xk_k8 kd = true) (hi : xk_isI i = true) (hd : decode cc pc = .ok (.iaload, 1)) (hc : hp[q.toNat]? = some (kd, 0, fs, n, I, [])) (hj1 : 0 ≤ (xk_iv iv i).1) (hj2 : (xk_iv iv i).2 < n) (kk : xk_G p l e R s m args below meth c Q b nL D A (pc + 1) ((xk_new 0 iv I).1, lo, (xk_new 0 iv I).2 :: st, hp, kc, ks)) : xk_G p l e R s m args below meth c Q b nL D A pc (iv, lo, i :: (2, q) :: st, hp, kc, ks) := by
  intro env ad H locs ls sv h
  obtain ⟨x, r1, rfl, hx0, h0⟩ := xk_popI h hi
  obtain ⟨a, rest, rfl, ha, h0⟩ := xk_popR h0
  obtain ⟨ws, ev, h1, h2, hP, hD, hS, hw, hcc⟩ := xk_cell h0 ha hc
  obtain ⟨cA, f, he, har, hel⟩ := xk_c8_of hk hcc
  obtain ⟨hx, hb, hml, hown, hts, hK, hA⟩ := F
  have hbb := xk_iv_ok h.1 hx0
  have hbb1 : (xk_iv iv i).1 ≤ x.toInt := hbb.1
  have hbb2 : x.toInt ≤ (xk_iv iv i).2 := hbb.2
  have hin : vp_in x n := by rw [vp_in_iff]; omega
  have he2 : ev = .inl (cA, n, .inl f) := he
  subst he2
  have hE := hel x.toNatClampNeg (xk_clN (by omega) (by show x.toInt < (n : Int); omega))
  have kk2 : W p l e R s m args below meth c H locs kc ks Q (F0 m (pc + 1) ls (.int (f x.toNatClampNeg) :: rest)) := by
    unfold xk_eI at hE
    obtain ⟨e2, hq⟩ := xk_pushI h0 hE.1 hE.2
    exact kk _ _ _ _ _ _ hq
  exact va_iald hx hb (xk_K1 hK har) hP q.toNat 0 hw rfl hin hd kk2
/-- what stands at a place told by a number is kept beside the row -/
theorem xk_s_aldIf (F : xk_Fx p s m args c D A own cc nL) {q : Int} {i : xk_V} {t n : Nat} {fs : List xk_V} {I : xk_I} (hi : xk_isI i = true) (ht : t < 3) (hd : decode cc pc = .ok (if t = 0 then .iaload else .baload, 1)) (hc : hp[q.toNat]? = some (1, t, fs, n, I, [])) (hj1 : 0 ≤ (xk_iv iv i).1) (hj2 : (xk_iv iv i).2 < n) (kk : xk_G p l e R s m args below meth c Q b nL D A (pc + 1) ((xk_new 0 iv I).1, lo, (xk_new 0 iv I).2 :: st, hp.set q.toNat (9, t, [i, (xk_new 0 iv I).2], n, I, []), kc, ks)) : xk_G p l e R s m args below meth c Q b nL D A pc (iv, lo, i :: (2, q) :: st, hp, kc, ks) := by
  intro env ad H locs ls sv h
  obtain ⟨v, r1, rfl, hvi, h0⟩ := xk_pop h
  obtain ⟨x, rfl, hx0⟩ := xk_vI hi hvi
  obtain ⟨a, rest, rfl, ha, h0⟩ := xk_popR h0
  obtain ⟨ws, ev, h1, h2, hP, hD, hS, hw, cA, f, he, har, hel⟩ := xk_cell h0 ha hc
  obtain ⟨hx, hb, hml, hown, hts, hK, hA⟩ := F
  have hbb := xk_iv_ok h.1 hx0
  have hbb1 : (xk_iv iv i).1 ≤ x.toInt := hbb.1
  have hbb2 : x.toInt ≤ (xk_iv iv i).2 := hbb.2
  have hin : vp_in x n := by rw [vp_in_iff]; omega
  have he2 : ev = .inl (cA, n, .inl f) := he
  have hpre : xk_pre b env ad := h.2.2.2.choose_spec.2.2.2.2.2
  have hE := hel x.toNatClampNeg (xk_clN (by omega) (by show x.toInt < (n : Int); omega))
  have kk2 : W p l e R s m args below meth c H locs kc ks Q (F0 m (pc + 1) ls (.int (f x.toNatClampNeg) :: rest)) := by
    unfold xk_eI at hE
    obtain ⟨e2, o2, v2⟩ := xk_new_I (b := b) (ad := ad) (I := I) (x := f x.toNatClampNeg) h.1 hE.1 hE.2
    have hg := xk_grow e2 h0 o2
    have hc9 : xk_c s b (env ++ e2) ad (9, t, [i, (xk_new 0 iv I).2], n, I, []) (a, ev) := ⟨cA, f, he, har, fun j hj => hel j hj, i, (xk_new 0 iv I).2, x, rfl, xk_v_e e2 hvi, v2⟩
    have h2' := xk_r2_mono (fun _ _ z => xk_c_map (Vm.Alike.refl _) (fun _ _ z => xk_v_e e2 z) z) h2
    have h3 := xk_r2_set hc9 q.toNat h2'
    have hws : ws.set q.toNat (a, ev) = ws := by
      apply List.ext_getElem?
      intro k
      by_cases hk : q.toNat = k
      · subst hk
        rw [List.getElem?_set_self (List.getElem?_eq_some_iff.mp hw).1, hw]
      · rw [List.getElem?_set_ne hk]
    rw [hws] at h3
    exact kk _ _ _ _ _ (.int (f x.toNatClampNeg) :: rest) ⟨o2, hg.2.1, ⟨v2, hg.2.2.1⟩, ws, h1, h3, hP, hD, hS, xk_pre_e hpre⟩
  subst he2
  rcases (show t = 0 ∨ t = 1 ∨ t = 2 by omega) with rfl | rfl | rfl
  · exact va_iald hx hb (xk_K1 hK har) hP q.toNat 0 hw rfl hin hd kk2
  · exact va_bald hx hb (xk_K1 hK har) hP q.toNat 0 hw rfl hin hd kk2
  · exact va_zald hx hb (xk_K1 hK har) hP q.toNat 0 hw rfl hin hd kk2
theorem xk_s_ald9 (F : xk_Fx p s m args c D A own cc nL) {q : Int} {i v : xk_V} {t n : Nat} {I : xk_I} {ov : List (Nat × xk_V)} (hi : xk_isI i = true) (ht : t < 3) (hd : decode cc pc = .ok (if t = 0 then .iaload else .baload, 1)) (hc : hp[q.toNat]? = some (9, t, [i, v], n, I, ov)) (hj1 : 0 ≤ (xk_iv iv i).1) (hj2 : (xk_iv iv i).2 < n) (kk : xk_G p l e R s m args below meth c Q b nL D A (pc + 1) (iv, lo, v :: st, hp, kc, ks)) : xk_G p l e R s m args below meth c Q b nL D A pc (iv, lo, i :: (2, q) :: st, hp, kc, ks) := by
  intro env ad H locs ls sv h
  obtain ⟨w, r1, rfl, hvi, h0⟩ := xk_pop h
  obtain ⟨x, rfl, hx0⟩ := xk_vI hi hvi
  obtain ⟨a, rest, rfl, ha, h0⟩ := xk_popR h0
  obtain ⟨ws, ev, h1, h2, hP, hD, hS, hw, cA, f, he, har, hel, i2, v2, x2, e5, e6, e7⟩ := xk_cell h0 ha hc
  obtain ⟨hx, hb, hml, hown, hts, hK, hA⟩ := F
  have hbb := xk_iv_ok h.1 hx0
  have hbb1 : (xk_iv iv i).1 ≤ x.toInt := hbb.1
  have hbb2 : x.toInt ≤ (xk_iv iv i).2 := hbb.2
  have hin : vp_in x n := by rw [vp_in_iff]; omega
  have he2 : ev = .inl (cA, n, .inl f) := he
  have e5 : [i, v] = [i2, v2] := e5
  simp only [List.cons.injEq, and_true] at e5
  obtain ⟨rfl, rfl⟩ := e5
  have hxx : x2 = x := by
    obtain ⟨z, ez, hz⟩ := xk_vI hi e6
    cases ez
    have hzz : x2.toInt = x.toInt := by
      unfold xk_n at hz hx0
      by_cases hcc : xk_isC i = true
      · rw [if_pos hcc] at hz hx0; omega
      · rw [if_neg hcc] at hz hx0
        rw [hz] at hx0
        exact Option.some.inj hx0
    exact Int32.toInt_inj.mp hzz
  subst hxx
  have kk2 : W p l e R s m args below meth c H locs kc ks Q (F0 m (pc + 1) ls (.int (f x2.toNatClampNeg) :: rest)) := kk _ _ _ _ _ _ (xk_push h0 e7)
  subst he2
  rcases (show t = 0 ∨ t = 1 ∨ t = 2 by omega) with rfl | rfl | rfl
  · exact va_iald hx hb (xk_K1 hK har) hP q.toNat 0 hw rfl hin hd kk2
  · exact va_bald hx hb (xk_K1 hK har) hP q.toNat 0 hw rfl hin hd kk2
  · exact va_zald hx hb (xk_K1 hK har) hP q.toNat 0 hw rfl hin hd kk2
/-- a kept place may be forgotten -/
theorem xk_s_weak9 {q t n : Nat} {fs : List xk_V} {I : xk_I} {ov : List (Nat × xk_V)} (hc : hp[q]? = some (9, t, fs, n, I, ov)) (kk : xk_G p l e R s m args below meth c Q b nL D A pc (iv, lo, st, hp.set q (1, t, [], n, I, ov), kc, ks)) : xk_G p l e R s m args below meth c Q b nL D A pc (iv, lo, st, hp, kc, ks) := by
  intro env ad H locs ls sv h
  obtain ⟨p1, p2, p3, ws, h1, h2, hP, hD, hS⟩ := h
  obtain ⟨w, hw, hcw⟩ := xk_r2_get q h2 hc
  obtain ⟨cA, f, q1, q2, q3, -⟩ := hcw
  have h3 := xk_r2_set (a := (1, t, [], n, I, ov)) (b := w) (R := xk_c s b env ad) ⟨cA, f, q1, q2, q3⟩ q h2
  have hws : ws.set q w = ws := by
    apply List.ext_getElem?
    intro k
    by_cases hk : q = k
    · subst hk
      rw [List.getElem?_set_self (List.getElem?_eq_some_iff.mp hw).1, hw]
    · rw [List.getElem?_set_ne hk]
  rw [hws] at h3
  exact kk _ _ _ _ _ _ ⟨p1, p2, p3, ws, h1, h3, hP, hD, hS⟩
theorem xk_s_aldLg (F : xk_Fx p s m args c D A own cc nL) {q : Int} {i : xk_V} {n : Nat} {fs : List xk_V} {I : xk_I} (hi : xk_isI i = true) (hd : decode cc pc = .ok (.laload, 1)) (hc : hp[q.toNat]? = some (2, 3, fs, n, I, [])) (hj1 : 0 ≤ (xk_iv iv i).1) (hj2 : (xk_iv iv i).2 < n) (kk : xk_G p l e R s m args below meth c Q b nL D A (pc + 1) ((xk_new 1 iv I).1, lo, (xk_new 1 iv I).2 :: st, hp, kc, ks)) : xk_G p l e R s m args below meth c Q b nL D A pc (iv, lo, i :: (2, q) :: st, hp, kc, ks) := by
  intro env ad H locs ls sv h
  obtain ⟨x, r1, rfl, hx0, h0⟩ := xk_popI h hi
  obtain ⟨a, rest, rfl, ha, h0⟩ := xk_popR h0
  obtain ⟨ws, e, h1, h2, hP, hD, hS, hw, cA, f, he, har, hel⟩ := xk_cell h0 ha hc
  obtain ⟨hx, hb, hml, hown, hts, hK, hA⟩ := F
  have hbb := xk_iv_ok h.1 hx0
  have hbb1 : (xk_iv iv i).1 ≤ x.toInt := hbb.1
  have hbb2 : x.toInt ≤ (xk_iv iv i).2 := hbb.2
  have hin : vp_in x n := by rw [vp_in_iff]; omega
  cases he
  have hE := hel x.toNatClampNeg (xk_clN (by omega) (by show x.toInt < (n : Int); omega))
  have kk2 : W p l e R s m args below meth c H locs kc ks Q (F0 m (pc + 1) ls (.long (f x.toNatClampNeg) :: rest)) := by
    unfold xk_eL at hE
    obtain ⟨e2, hq⟩ := xk_pushL h0 hE.1 hE.2
    exact kk _ _ _ _ _ _ hq
  exact va_lald hx hb (xk_K1 hK har) hP q.toNat 0 hw rfl hin hd kk2
theorem xk_hull_l {I J : xk_I} {n : Int} (h1 : I.1 ≤ n) (h2 : n ≤ I.2) : (xk_hull I J).1 ≤ n ∧ n ≤ (xk_hull I J).2 := by
  unfold xk_hull
  show min I.1 J.1 ≤ n ∧ n ≤ max I.2 J.2
  omega
theorem xk_hull_r {I J : xk_I} {n : Int} (h1 : J.1 ≤ n) (h2 : n ≤ J.2) : (xk_hull I J).1 ≤ n ∧ n ≤ (xk_hull I J).2 := by
  unfold xk_hull
  show min I.1 J.1 ≤ n ∧ n ≤ max I.2 J.2
  omega
theorem xk_updI {env : List Int} {ad : List Nat} {I J : xk_I} {f : Nat → Int32} {n k : Nat} {y : Int32} (hel : ∀ i, i < n → xk_eI b env ad I [] f i) (h1 : J.1 ≤ y.toInt) (h2 : y.toInt ≤ J.2) : ∀ i, i < n → xk_eI b env ad (xk_hull I J) [] (upd f k y) i := by
  intro i hi
  have hE := hel i hi
  unfold xk_eI at hE ⊢
  show (xk_hull I J).1 ≤ (upd f k y i).toInt ∧ (upd f k y i).toInt ≤ (xk_hull I J).2
  have hE2 : I.1 ≤ (f i).toInt ∧ (f i).toInt ≤ I.2 := hE
  by_cases hij : i = k
  · subst hij
    rw [pk_us]
    exact xk_hull_r h1 h2
  · rw [pk_un hij]
    exact xk_hull_l hE2.1 hE2.2
theorem xk_s_astIg (F : xk_Fx p s m args c D A own cc nL) {q : Int} {i : xk_V} {t n : Nat} {fs : List xk_V} {I : xk_I} {av : xk_V} (hi : xk_isI i = true) (ht : t = 0 ∨ t = 2 ∧ 0 ≤ (xk_iv iv av).1 ∧ (xk_iv iv av).2 ≤ 1) (hav : xk_isI av = true) (hd : decode cc pc = .ok (if t = 0 then .iastore else .bastore, 1)) (hc : hp[q.toNat]? = some (1, t, fs, n, I, [])) (hj1 : 0 ≤ (xk_iv iv i).1) (hj2 : (xk_iv iv i).2 < n) (kk : xk_G p l e R s m args below meth c Q b nL D A (pc + 1) (iv, lo, st, hp.set q.toNat (1, t, fs, n, xk_hull I (xk_iv iv av), []), kc, ks)) : xk_G p l e R s m args below meth c Q b nL D A pc (iv, lo, av :: i :: (2, q) :: st, hp, kc, ks) := by
  intro env ad H locs ls sv h
  obtain ⟨v, r0, rfl, hv, h0⟩ := xk_pop h
  obtain ⟨y, rfl, hyn⟩ := xk_vI hav hv
  obtain ⟨x, r1, rfl, hx0, h0⟩ := xk_popI h0 hi
  obtain ⟨a, rest, rfl, ha, h0⟩ := xk_popR h0
  obtain ⟨ws, e, h1, h2, hP, hD, hS, hw, cA, f, he, har, hel⟩ := xk_cell h0 ha hc
  obtain ⟨hx, hb, hml, hown, hts, hK, hA⟩ := F
  have hb0 := xk_iv_ok h.1 hx0
  have hb01 : (xk_iv iv i).1 ≤ x.toInt := hb0.1
  have hb02 : x.toInt ≤ (xk_iv iv i).2 := hb0.2
  have hin : vp_in x n := by rw [vp_in_iff]; omega
  have hbb := xk_iv_ok h.1 hyn
  have hbb1 : (xk_iv iv av).1 ≤ y.toInt := hbb.1
  have hbb2 : y.toInt ≤ (xk_iv iv av).2 := hbb.2
  cases he
  rcases ht with rfl | ⟨rfl, hb1, hb2⟩
  · exact va_iast hx hb (xk_K1 hK har) hP hD hS q.toNat 0 hw rfl hin hd (fun H1 locs1 p1 p2 p3 => kk _ _ _ _ _ _ (xk_wr h0 h1 h2 hw ⟨cA, upd f x.toNatClampNeg y, rfl, har, xk_updI hel hbb1 hbb2⟩ p1 p2 p3))
  · have hnar : vp_nar .boolean y = y := by rcases xk_bool (x := y) (by omega) (by omega) with rfl | rfl <;> rfl
    refine va_zast hx hb (xk_K1 hK har) hP hD hS q.toNat 0 hw rfl hin hd (fun H1 locs1 p1 p2 p3 => kk _ _ _ _ _ _ (xk_wr h0 h1 h2 hw ⟨cA, upd f x.toNatClampNeg (vp_nar .boolean y), rfl, har, ?_⟩ p1 p2 p3))
    rw [hnar]
    exact xk_updI hel hbb1 hbb2
theorem xk_s_astBg (F : xk_Fx p s m args c D A own cc nL) {q : Int} {i : xk_V} {n : Nat} {fs : List xk_V} {I : xk_I} {av : xk_V} (hi : xk_isI i = true) (hav : xk_isI av = true) (hd : decode cc pc = .ok (.bastore, 1)) (hc : hp[q.toNat]? = some (1, 1, fs, n, I, [])) (hj1 : 0 ≤ (xk_iv iv i).1) (hj2 : (xk_iv iv i).2 < n) (kk : xk_G p l e R s m args below meth c Q b nL D A (pc + 1) (iv, lo, st, hp.set q.toNat (1, 1, fs, n, xk_hull I (-128, 127), []), kc, ks)) : xk_G p l e R s m args below meth c Q b nL D A pc (iv, lo, av :: i :: (2, q) :: st, hp, kc, ks) := by
  intro env ad H locs ls sv h
  obtain ⟨v, r0, rfl, hv, h0⟩ := xk_pop h
  obtain ⟨y, rfl, hyn⟩ := xk_vI hav hv
  obtain ⟨x, r1, rfl, hx0, h0⟩ := xk_popI h0 hi
  obtain ⟨a, rest, rfl, ha, h0⟩ := xk_popR h0
  obtain ⟨ws, e, h1, h2, hP, hD, hS, hw, cA, f, he, har, hel⟩ := xk_cell h0 ha hc
  obtain ⟨hx, hb, hml, hown, hts, hK, hA⟩ := F
  have hb0 := xk_iv_ok h.1 hx0
  have hb01 : (xk_iv iv i).1 ≤ x.toInt := hb0.1
  have hb02 : x.toInt ≤ (xk_iv iv i).2 := hb0.2
  have hin : vp_in x n := by rw [vp_in_iff]; omega
  cases he
  refine va_bast hx hb (xk_K1 hK har) hP hD hS q.toNat 0 hw rfl hin hd (fun H1 locs1 p1 p2 p3 => kk _ _ _ _ _ _ (xk_wr h0 h1 h2 hw ⟨cA, upd f x.toNatClampNeg (vp_nar .byte y), rfl, har, ?_⟩ p1 p2 p3))
  have h8 := Int8.le_toInt y.toInt8
  have h9 := Int8.toInt_lt y.toInt8
  have h7 : (vp_nar .byte y).toInt = y.toInt8.toInt := by rw [vp_nar_byte, Int8.toInt_toInt32]
  exact xk_updI (J := (-128, 127)) hel (by show (-128 : Int) ≤ _; omega) (by show _ ≤ (127 : Int); omega)
theorem xk_s_astLg (F : xk_Fx p s m args c D A own cc nL) {q : Int} {i : xk_V} {n : Nat} {fs : List xk_V} {I : xk_I} {av : xk_V} (hi : xk_isI i = true) (hav : xk_isL av = true) (hd : decode cc pc = .ok (.lastore, 1)) (hc : hp[q.toNat]? = some (2, 3, fs, n, I, [])) (hj1 : 0 ≤ (xk_iv iv i).1) (hj2 : (xk_iv iv i).2 < n) (kk : xk_G p l e R s m args below meth c Q b nL D A (pc + 1) (iv, lo, st, hp.set q.toNat (2, 3, fs, n, xk_hull I (xk_iv iv av), []), kc, ks)) : xk_G p l e R s m args below meth c Q b nL D A pc (iv, lo, av :: i :: (2, q) :: st, hp, kc, ks) := by
  intro env ad H locs ls sv h
  obtain ⟨v, r0, rfl, hv, h0⟩ := xk_pop h
  obtain ⟨y, rfl, hyn⟩ := xk_vL hav hv
  obtain ⟨x, r1, rfl, hx0, h0⟩ := xk_popI h0 hi
  obtain ⟨a, rest, rfl, ha, h0⟩ := xk_popR h0
  obtain ⟨ws, e, h1, h2, hP, hD, hS, hw, cA, f, he, har, hel⟩ := xk_cell h0 ha hc
  obtain ⟨hx, hb, hml, hown, hts, hK, hA⟩ := F
  have hb0 := xk_iv_ok h.1 hx0
  have hb01 : (xk_iv iv i).1 ≤ x.toInt := hb0.1
  have hb02 : x.toInt ≤ (xk_iv iv i).2 := hb0.2
  have hin : vp_in x n := by rw [vp_in_iff]; omega
  have hbb := xk_iv_ok h.1 hyn
  have hbb1 : (xk_iv iv av).1 ≤ y.toInt := hbb.1
  have hbb2 : y.toInt ≤ (xk_iv iv av).2 := hbb.2
  cases he
  refine va_last hx hb (xk_K1 hK har) hP hD hS q.toNat 0 hw rfl hin hd (fun H1 locs1 p1 p2 p3 => kk _ _ _ _ _ _ (xk_wr h0 h1 h2 hw ⟨cA, vp_updL f x.toNatClampNeg y, rfl, har, ?_⟩ p1 p2 p3))
  intro k hk
  have hE := hel k hk
  unfold xk_eL at hE ⊢
  show (xk_hull I (xk_iv iv av)).1 ≤ (vp_updL f x.toNatClampNeg y k).toInt ∧ (vp_updL f x.toNatClampNeg y k).toInt ≤ (xk_hull I (xk_iv iv av)).2
  have hE2 : I.1 ≤ (f k).toInt ∧ (f k).toInt ≤ I.2 := hE
  unfold vp_updL
  by_cases hij : k = x.toNatClampNeg
  · rw [if_pos hij]
    exact xk_hull_r hbb1 hbb2
  · rw [if_neg hij]
    exact xk_hull_l hE2.1 hE2.2
end XDb

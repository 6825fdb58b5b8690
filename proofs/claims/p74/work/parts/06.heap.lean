theorem xk_mapset {ws : va_W} {q a : Nat} {e0 e : va_E} (h : ws[q]? = some (a, e0)) : (ws.set q (a, e)).map Prod.fst = ws.map Prod.fst := by
  rw [List.map_set]
  apply List.ext_getElem?
  intro j
  by_cases hj : q = j
  · subst hj
    have hl : q < ws.length := (List.getElem?_eq_some_iff.mp h).1
    rw [List.getElem?_set_self (by rw [List.length_map]; exact hl), List.getElem?_map, h]
    rfl
  · rw [List.getElem?_set_ne hj]
/-- type codes of a field: 0 int, 1 long, 2 a reference, 3 boolean; 4 more: final, put by a constructor; 8 more: read alone -/
def xk_tc (tc : Nat) (ty : FieldType) : Bool := match tc % 4, ty with
  | 0, .int => true
  | 1, .long => true
  | 2, .object _ => true
  | 2, .array _ => true
  | 3, .boolean => true
  | _, _ => false
def xk_pv (tc : Nat) (iv : xk_N) (av : xk_V) : Bool := match tc % 4 with
  | 0 => xk_isI av
  | 1 => xk_isL av
  | 2 => av.1 == 2 || av.1 == 3
  | _ => xk_isI av && (decide (0 ≤ (xk_iv iv av).1) && decide ((xk_iv iv av).2 ≤ 1))
theorem xk_bool {x : Int32} (h1 : 0 ≤ x.toInt) (h2 : x.toInt ≤ 1) : x = 0 ∨ x = 1 := by
  rcases (show x.toInt = 0 ∨ x.toInt = 1 by omega) with h | h
  · exact Or.inl (Int32.toInt_inj.mp h)
  · exact Or.inr (Int32.toInt_inj.mp h)
theorem xk_nf {b : xk_b} {tc : Nat} {ty : FieldType} {iv : xk_N} {env : List Int} {ad : List Nat} {av : xk_V} {v : Value} (ht : xk_tc tc ty = true) (hp : xk_pv tc iv av = true) (hok : xk_ok env iv) (hv : xk_v b env ad av v) : narrow ty v = v ∧ fits ty v = true := by
  unfold xk_tc at ht
  unfold xk_pv at hp
  split at ht
  · rename_i e
    rw [e] at hp
    obtain ⟨x, rfl, -⟩ := xk_vI hp hv
    exact ⟨rfl, rfl⟩
  · rename_i e
    rw [e] at hp
    obtain ⟨x, rfl, -⟩ := xk_vL hp hv
    exact ⟨rfl, rfl⟩
  · rename_i e
    rw [e] at hp
    obtain ⟨t, i⟩ := av
    simp only [Bool.or_eq_true, beq_iff_eq] at hp
    rcases hp with rfl | rfl
    · obtain ⟨a, rfl, -⟩ := hv
      exact ⟨rfl, rfl⟩
    · cases hv
      exact ⟨rfl, rfl⟩
  · rename_i e
    rw [e] at hp
    obtain ⟨t, i⟩ := av
    simp only [Bool.or_eq_true, beq_iff_eq] at hp
    rcases hp with rfl | rfl
    · obtain ⟨a, rfl, -⟩ := hv
      exact ⟨rfl, rfl⟩
    · cases hv
      exact ⟨rfl, rfl⟩
  · rename_i e
    rw [e] at hp
    simp only [Bool.and_eq_true, decide_eq_true_eq] at hp
    obtain ⟨x, rfl, hn⟩ := xk_vI hp.1 hv
    have hb := xk_iv_ok hok hn
    rcases xk_bool (x := x) (by omega) (by omega) with rfl | rfl
    · exact ⟨rfl, rfl⟩
    · exact ⟨rfl, rfl⟩
  · cases ht
/-- a field's row of the constant pool: (index, class, place, type code) -/
def xk_Fl (own : String) (q : Nat × Nat × Nat × Nat) : Prop := ∃ (C : String) (T : u_T) (N : Nat) (ty0 : Nat → FieldType), vwCl[q.2.1]? = some (C, T, N) ∧ q.2.2.1 < N ∧ (∀ w ∈ u_ws C T N, w ∈ xk_tb) ∧ (∀ k, k < N → parseFieldDescriptor (T k).2.2.1 = some (ty0 k)) ∧ (∀ a, a < N → ∀ b, b < N → a ≠ b → (T a).2.1 ≠ (T b).2.1) ∧ xk_tc q.2.2.2 (ty0 q.2.2.1) = true ∧ (q.2.2.2 < 4 → (T q.2.2.1).2.2.2 = false) ∧ (4 ≤ q.2.2.2 → q.2.2.2 < 8 → (T q.2.2.1).2.2.2 = true ∧ (T q.2.2.1).1 = own ∧ Cond.fieldLink own q.1 (T q.2.2.1).1 (T q.2.2.1).2.1 (T q.2.2.1).2.2.1 ∈ xk_tb) ∧ (Cond.fieldLink own q.1 (T q.2.2.1).1 (T q.2.2.1).2.1 (T q.2.2.1).2.2.1 ∈ xk_tb ∨ ∃ host, Cond.fieldLinkNest own q.1 (T q.2.2.1).1 (T q.2.2.1).2.1 (T q.2.2.1).2.2.1 host ∈ xk_tb)
def xk_del (ov : List (Nat × xk_V)) (j : Nat) : List (Nat × xk_V) := ov.filter (fun q => !(q.1 == j))
theorem xk_ov_del (j k : Nat) : ∀ (ov : List (Nat × xk_V)), xk_ov (xk_del ov j) k = if k = j then none else xk_ov ov k
  | [] => by simp [xk_del, xk_ov]
  | q :: r => by
    have ih := xk_ov_del j k r
    unfold xk_del at ih ⊢
    by_cases hq : q.1 = j
    · rw [List.filter_cons_of_neg (by simp [hq]), ih]
      by_cases hk : k = j
      · rw [if_pos hk, if_pos hk]
      · rw [if_neg hk, if_neg hk]
        conv => rhs; unfold xk_ov
        rw [if_neg (by rw [hq]; exact fun z => hk z.symm)]
    · rw [List.filter_cons_of_pos (by simp [hq])]
      unfold xk_ov
      by_cases hk : q.1 = k
      · rw [if_pos hk, if_pos hk, if_neg (by rw [← hk]; exact hq)]
      · rw [if_neg hk, if_neg hk, ih]
theorem xk_ov_ne {i j : Nat} {av : xk_V} {r : List (Nat × xk_V)} (h : ¬ i = j) : xk_ov ((j, av) :: r) i = xk_ov r i := by
  conv => lhs; unfold xk_ov
  exact if_neg (fun z => h (Eq.symm z))
def xk_put (ov : List (Nat × xk_V)) (I : xk_I) (j : Nat) (av : xk_V) : List (Nat × xk_V) := if xk_isC av = true ∧ I.1 = av.2 ∧ I.2 = av.2 then xk_del ov j else (j, av) :: xk_del ov j
section XC
variable {p : Program} {l : Launch} {e : Env} {R : Room} {s : State} {m : MethodId} {args : Array Value} {below : List Frame} {meth : Method} {c : Code} {Q : State → Prop} {b : xk_b} {D : va_G} {A : Nat → Prop} {own : String} {cc : ByteArray} {nL : Nat} {pc : Nat} {iv iv' : xk_N} {lo : List (Nat × xk_V)} {st : List xk_V} {hp : List xk_C} {kc ks : Nat}
theorem xk_K1 {t : Nat} {cA : ClassId} (hK : va_K D vwCl [] s) (h : xk_ar s t cA) : va_K D vwCl [(cA, xk_ty t)] s := by
  refine ⟨hK.1, fun k q hq => ?_⟩
  cases k with
  | zero => cases hq; exact h
  | succ k => simp at hq
theorem xk_cell {env : List Int} {ad : List Nat} {H : Heap} {locs : List Loc} {ls : Array Slot} {sv : List Value} (h : xk_In b nL s D A (iv, lo, st, hp, kc, ks) env ad H locs ls sv) {q a : Nat} (ha : ad[q]? = some a) {ce : xk_C} (hc : hp[q]? = some ce) : ∃ (ws : va_W) (e : va_E), ws.map Prod.fst = ad ∧ xk_r2 (xk_c s b env ad) hp ws ∧ va_P D vwCl ws H ∧ va_D A ws ∧ va_S A s.heap H locs ∧ ws[q]? = some (a, e) ∧ xk_c s b env ad ce (a, e) := by
  obtain ⟨-, -, -, ws, h1, h2, h3, h4, h5⟩ := h
  obtain ⟨w, hw, hr⟩ := xk_r2_get q h2 hc
  have h6 : w.1 = a := by
    rw [← h1, List.getElem?_map, hw] at ha
    exact Option.some.inj ha
  obtain ⟨a', e⟩ := w
  cases h6
  exact ⟨ws, e, h1, h2, h3, h4, h5.1, hw, hr⟩
/-- the world behind a write to one cell -/
theorem xk_wr {env : List Int} {ad : List Nat} {H H1 : Heap} {locs locs1 : List Loc} {ls : Array Slot} {sv : List Value} {ws : va_W} {q a : Nat} {e0 e : va_E} {ce : xk_C} (h : xk_In b nL s D A (iv, lo, st, hp, kc, ks) env ad H locs ls sv) (h1 : ws.map Prod.fst = ad) (h2 : xk_r2 (xk_c s b env ad) hp ws) (hw : ws[q]? = some (a, e0)) (hc : xk_c s b env ad ce (a, e)) (hP : va_P D vwCl (ws.set q (a, e)) H1) (hD : va_D A (ws.set q (a, e))) (hS : va_S A s.heap H1 locs1) : xk_In b nL s D A (iv, lo, st, hp.set q ce, kc, ks) env ad H1 locs1 ls sv := by
  obtain ⟨p1, p2, p3, ws0, -, -, -, -, -, hpre⟩ := h
  exact ⟨p1, p2, p3, ws.set q (a, e), (xk_mapset hw).trans h1, xk_r2_set hc q h2, hP, hD, hS, hpre⟩
theorem xk_s_get (F : xk_Fx p s m args c D A own cc nL) {q : Int} {ci k idx tc n : Nat} {fs : List xk_V} {I : xk_I} {ov : List (Nat × xk_V)} {av : xk_V} (hfl : xk_Fl own (idx, ci, k, tc)) (hd : decode cc pc = .ok (.getfield idx, 3)) (hc : hp[q.toNat]? = some (0, ci, fs, n, I, ov)) (hk : fs[k]? = some av) (kk : xk_G p l e R s m args below meth c Q b nL D A (pc + 3) (iv, lo, av :: st, hp, kc, ks)) : xk_G p l e R s m args below meth c Q b nL D A pc (iv, lo, (2, q) :: st, hp, kc, ks) := by
  intro env ad H locs ls sv h
  obtain ⟨a, rest, rfl, ha, h0⟩ := xk_popR h
  obtain ⟨ws, e, h1, h2, hP, hD, hS, hw, vs, he, hr⟩ := xk_cell h0 ha hc
  obtain ⟨hx, hb, hml, hown, hts, hK, hA⟩ := F
  obtain ⟨C, T, N, ty0, c1, c2, c3, c4, c5, c6, c7, c8, c9⟩ := hfl
  obtain ⟨v, hv, hvr⟩ := xk_r2_get k hr hk
  cases he
  rcases c9 with c9 | ⟨host, c9⟩
  · exact va_get hx hb hts c3 hown hK hP q.toNat hw c1 k c2 (hts _ c9) (fun _ z => z) hv hd (kk _ _ _ _ _ _ (xk_push h0 hvr))
  · exact va_getN hx hb hts c3 hown hK hP q.toNat hw c1 k c2 (hts _ c9) (fun _ z => z) hv hd (kk _ _ _ _ _ _ (xk_push h0 hvr))
theorem xk_s_put (F : xk_Fx p s m args c D A own cc nL) {q : Int} {ci k idx tc n : Nat} {fs : List xk_V} {I : xk_I} {ov : List (Nat × xk_V)} {av : xk_V} (hfl : xk_Fl own (idx, ci, k, tc)) (htc : tc < 4 ∨ tc < 8 ∧ meth.name = "<init>") (hd : decode cc pc = .ok (.putfield idx, 3)) (hc : hp[q.toNat]? = some (0, ci, fs, n, I, ov)) (hk : k < fs.length) (hpv : xk_pv tc iv av = true) (kk : xk_G p l e R s m args below meth c Q b nL D A (pc + 3) (iv, lo, st, hp.set q.toNat (0, ci, fs.set k av, n, I, ov), kc, ks)) : xk_G p l e R s m args below meth c Q b nL D A pc (iv, lo, av :: (2, q) :: st, hp, kc, ks) := by
  intro env ad H locs ls sv h
  obtain ⟨v, r1, rfl, hv, h0⟩ := xk_pop h
  obtain ⟨a, rest, rfl, ha, h0⟩ := xk_popR h0
  obtain ⟨ws, e, h1, h2, hP, hD, hS, hw, vs, he, hr⟩ := xk_cell h0 ha hc
  obtain ⟨hx, hb, hml, hown, hts, hK, hA⟩ := F
  obtain ⟨C, T, N, ty0, c1, c2, c3, c4, c5, c6, c7, c8, c9⟩ := hfl
  have hn := xk_nf c6 hpv h.1 hv
  have hlen : k < vs.length := by rw [← xk_r2_len hr]; exact hk
  cases he
  have kk2 : ∀ (H1 : Heap) (locs1 : List Loc), va_P D vwCl (ws.set q.toNat (a, .inr (ci, vs.set k v))) H1 → va_D A (ws.set q.toNat (a, .inr (ci, vs.set k v))) → va_S A s.heap H1 locs1 → W p l e R s m args below meth c H1 locs1 kc ks Q (F0 m (pc + 3) ls rest) := fun H1 locs1 p1 p2 p3 => kk _ _ _ _ _ _ (xk_wr h0 h1 h2 hw ⟨vs.set k v, rfl, xk_r2_set hv k hr⟩ p1 p2 p3)
  rcases htc with htc | ⟨htc, hin⟩
  · rcases c9 with c9 | ⟨host, c9⟩
    · exact va_put hx hb hts c3 ty0 c4 c5 hown hK hP hD hS q.toNat hw c1 k c2 (hts _ c9) (fun _ z => z) (c7 htc) (c4 k c2) hn.1 hn.2 hlen hd kk2
    · exact va_putN hx hb hts c3 ty0 c4 c5 hown hK hP hD hS q.toNat hw c1 k c2 (hts _ c9) (fun _ z => z) (c7 htc) (c4 k c2) hn.1 hn.2 hlen hd kk2
  · rcases Nat.lt_or_ge tc 4 with h4 | h4
    · rcases c9 with c9 | ⟨host, c9⟩
      · exact va_put hx hb hts c3 ty0 c4 c5 hown hK hP hD hS q.toNat hw c1 k c2 (hts _ c9) (fun _ z => z) (c7 h4) (c4 k c2) hn.1 hn.2 hlen hd kk2
      · exact va_putN hx hb hts c3 ty0 c4 c5 hown hK hP hD hS q.toNat hw c1 k c2 (hts _ c9) (fun _ z => z) (c7 h4) (c4 k c2) hn.1 hn.2 hlen hd kk2
    · exact va_putF hx hb hts c3 ty0 c4 c5 hown hK hP hD hS q.toNat hw c1 k c2 (hts _ (c8 h4 htc).2.2) (fun _ z => z) (c8 h4 htc).1 hin (c8 h4 htc).2.1 (c4 k c2) hn.1 hn.2 hlen hd kk2
theorem xk_ix {env : List Int} {i : xk_V} {x : Int32} {n : Nat} (hok : xk_ok env iv) (hn : xk_n env i x.toInt) (h1 : 0 ≤ (xk_iv iv i).1) (h2 : (xk_iv iv i).2 < n) : vp_in x n := by
  have hb := xk_iv_ok hok hn
  rw [vp_in_iff]
  omega
theorem xk_clamp {x : Int32} {j : Nat} (h : x.toInt = (j : Int)) : x.toNatClampNeg = j := by
  unfold Int32.toNatClampNeg
  rw [h]
  rfl
/-- what a load of ints answers: the single place's value, or a new number within the bounds -/
def xk_ldv (t : Nat) (iv : xk_N) (I : xk_I) (ov : List (Nat × xk_V)) (j : Nat) : xk_N × xk_V := match xk_ov ov j with
  | some av => (iv, av)
  | none => xk_new t iv I
theorem xk_s_aldI (F : xk_Fx p s m args c D A own cc nL) {q j : Int} {t n : Nat} {fs : List xk_V} {I : xk_I} {ov : List (Nat × xk_V)} (ht : t < 3) (hd : decode cc pc = .ok (if t = 0 then .iaload else .baload, 1)) (hc : hp[q.toNat]? = some (1, t, fs, n, I, ov)) (hj1 : 0 ≤ j) (hj2 : j < n) (kk : xk_G p l e R s m args below meth c Q b nL D A (pc + 1) ((xk_ldv 0 iv I ov j.toNat).1, lo, (xk_ldv 0 iv I ov j.toNat).2 :: st, hp, kc, ks)) : xk_G p l e R s m args below meth c Q b nL D A pc (iv, lo, (5, j) :: (2, q) :: st, hp, kc, ks) := by
  intro env ad H locs ls sv h
  obtain ⟨x, r1, rfl, hx0, h0⟩ := xk_popI h rfl
  obtain ⟨a, rest, rfl, ha, h0⟩ := xk_popR h0
  obtain ⟨ws, e, h1, h2, hP, hD, hS, hw, cA, f, he, har, hel⟩ := xk_cell h0 ha hc
  obtain ⟨hx, hb, hml, hown, hts, hK, hA⟩ := F
  have hxj : x.toInt = j := hx0
  have hin : vp_in x n := by rw [vp_in_iff]; omega
  have hcl : x.toNatClampNeg = j.toNat := xk_clamp (by omega)
  cases he
  have hE := hel j.toNat (by show j.toNat < n; omega)
  have kk2 : W p l e R s m args below meth c H locs kc ks Q (F0 m (pc + 1) ls (.int (f x.toNatClampNeg) :: rest)) := by
    rw [hcl]
    unfold xk_eI at hE
    unfold xk_ldv at kk
    cases ho : xk_ov ov j.toNat with
    | some av =>
      rw [ho] at kk
      rw [show xk_ov (1, t, fs, n, I, ov).2.2.2.2.2 j.toNat = some av from ho] at hE
      exact kk _ _ _ _ _ _ (xk_push h0 hE)
    | none =>
      rw [ho] at kk
      rw [show xk_ov (1, t, fs, n, I, ov).2.2.2.2.2 j.toNat = none from ho] at hE
      obtain ⟨e2, hq⟩ := xk_pushI h0 hE.1 hE.2
      exact kk _ _ _ _ _ _ hq
  rcases (show t = 0 ∨ t = 1 ∨ t = 2 by omega) with rfl | rfl | rfl
  · exact va_iald hx hb (xk_K1 hK har) hP q.toNat 0 hw rfl hin hd kk2
  · exact va_bald hx hb (xk_K1 hK har) hP q.toNat 0 hw rfl hin hd kk2
  · exact va_zald hx hb (xk_K1 hK har) hP q.toNat 0 hw rfl hin hd kk2
theorem xk_s_aldL (F : xk_Fx p s m args c D A own cc nL) {q j : Int} {n : Nat} {fs : List xk_V} {I : xk_I} {ov : List (Nat × xk_V)} (hd : decode cc pc = .ok (.laload, 1)) (hc : hp[q.toNat]? = some (2, 3, fs, n, I, ov)) (hj1 : 0 ≤ j) (hj2 : j < n) (kk : xk_G p l e R s m args below meth c Q b nL D A (pc + 1) ((xk_ldv 1 iv I ov j.toNat).1, lo, (xk_ldv 1 iv I ov j.toNat).2 :: st, hp, kc, ks)) : xk_G p l e R s m args below meth c Q b nL D A pc (iv, lo, (5, j) :: (2, q) :: st, hp, kc, ks) := by
  intro env ad H locs ls sv h
  obtain ⟨x, r1, rfl, hx0, h0⟩ := xk_popI h rfl
  obtain ⟨a, rest, rfl, ha, h0⟩ := xk_popR h0
  obtain ⟨ws, e, h1, h2, hP, hD, hS, hw, cA, f, he, har, hel⟩ := xk_cell h0 ha hc
  obtain ⟨hx, hb, hml, hown, hts, hK, hA⟩ := F
  have hxj : x.toInt = j := hx0
  have hin : vp_in x n := by rw [vp_in_iff]; omega
  have hcl : x.toNatClampNeg = j.toNat := xk_clamp (by omega)
  cases he
  have hE := hel j.toNat (by show j.toNat < n; omega)
  refine va_lald hx hb (xk_K1 hK har) hP q.toNat 0 hw rfl hin hd ?_
  rw [hcl]
  unfold xk_eL at hE
  unfold xk_ldv at kk
  cases ho : xk_ov ov j.toNat with
  | some av =>
    rw [ho] at kk
    rw [show xk_ov (2, 3, fs, n, I, ov).2.2.2.2.2 j.toNat = some av from ho] at hE
    exact kk _ _ _ _ _ _ (xk_push h0 hE)
  | none =>
    rw [ho] at kk
    rw [show xk_ov (2, 3, fs, n, I, ov).2.2.2.2.2 j.toNat = none from ho] at hE
    obtain ⟨e2, hq⟩ := xk_pushL h0 hE.1 hE.2
    exact kk _ _ _ _ _ _ hq
theorem xk_s_aldQ (F : xk_Fx p s m args c D A own cc nL) {q j : Int} {t n : Nat} {fs : List xk_V} {I : xk_I} {ov : List (Nat × xk_V)} (ht : t = 4 ∨ t = 5) (hd : decode cc pc = .ok (.aaload, 1)) (hc : hp[q.toNat]? = some (3, t, fs, n, I, ov)) (hj1 : 0 ≤ j) (hj2 : j < n) (kk : xk_G p l e R s m args below meth c Q b nL D A (pc + 1) (iv, lo, (xk_ov ov j.toNat).getD (3, 0) :: st, hp, kc, ks)) : xk_G p l e R s m args below meth c Q b nL D A pc (iv, lo, (5, j) :: (2, q) :: st, hp, kc, ks) := by
  intro env ad H locs ls sv h
  obtain ⟨x, r1, rfl, hx0, h0⟩ := xk_popI h rfl
  obtain ⟨a, rest, rfl, ha, h0⟩ := xk_popR h0
  obtain ⟨ws, e, h1, h2, hP, hD, hS, hw, cA, f, he, har, hel⟩ := xk_cell h0 ha hc
  obtain ⟨hx, hb, hml, hown, hts, hK, hA⟩ := F
  have hxj : x.toInt = j := hx0
  have hin : vp_in x n := by rw [vp_in_iff]; omega
  have hcl : x.toNatClampNeg = j.toNat := xk_clamp (by omega)
  cases he
  have hE := hel j.toNat (by show j.toNat < n; omega)
  have kk2 : W p l e R s m args below meth c H locs kc ks Q (F0 m (pc + 1) ls (va_rf (f x.toNatClampNeg) :: rest)) := by
    rw [hcl]
    unfold xk_eQ at hE
    cases ho : xk_ov ov j.toNat with
    | some av =>
      rw [ho] at kk
      rw [show xk_ov (3, t, fs, n, I, ov).2.2.2.2.2 j.toNat = some av from ho] at hE
      exact kk _ _ _ _ _ _ (xk_push h0 hE)
    | none =>
      rw [ho] at kk
      rw [show xk_ov (3, t, fs, n, I, ov).2.2.2.2.2 j.toNat = none from ho] at hE
      refine kk _ _ _ _ _ _ (xk_push h0 ?_)
      rw [show f j.toNat = none from hE]
      rfl
  rcases ht with rfl | rfl
  · exact va_aldq hx hb (xk_K1 hK har) hP q.toNat 0 hw rfl hin hd kk2
  · exact va_aldq hx hb (xk_K1 hK har) hP q.toNat 0 hw rfl hin hd kk2
theorem xk_s_alen (F : xk_Fx p s m args c D A own cc nL) {q : Int} {kd t n : Nat} {fs : List xk_V} {I : xk_I} {ov : List (Nat × xk_V)} (hkd : kd = 1 ∨ kd = 2) (hd : decode cc pc = .ok (.arraylength, 1)) (hc : hp[q.toNat]? = some (kd, t, fs, n, I, ov)) (kk : xk_G p l e R s m args below meth c Q b nL D A (pc + 1) (iv, lo, (5, (Int32.ofNat n).toInt) :: st, hp, kc, ks)) : xk_G p l e R s m args below meth c Q b nL D A pc (iv, lo, (2, q) :: st, hp, kc, ks) := by
  intro env ad H locs ls sv h
  obtain ⟨a, rest, rfl, ha, h0⟩ := xk_popR h
  rcases hkd with rfl | rfl
  · obtain ⟨ws, e, h1, h2, hP, hD, hS, hw, cA, f, he, har, hel⟩ := xk_cell h0 ha hc
    obtain ⟨hx, hb, hml, hown, hts, hK, hA⟩ := F
    cases he
    exact va_alen hx hb (xk_K1 hK har) hP q.toNat 0 hw rfl rfl hd (kk _ _ _ _ _ _ (xk_push h0 ⟨_, rfl, rfl⟩))
  · obtain ⟨ws, e, h1, h2, hP, hD, hS, hw, cA, f, he, har, hel⟩ := xk_cell h0 ha hc
    obtain ⟨hx, hb, hml, hown, hts, hK, hA⟩ := F
    cases he
    exact va_alen hx hb (xk_K1 hK har) hP q.toNat 0 hw rfl rfl hd (kk _ _ _ _ _ _ (xk_push h0 ⟨_, rfl, rfl⟩))
theorem xk_put_I {env : List Int} {ad : List Nat} {I : xk_I} {ov : List (Nat × xk_V)} {f : Nat → Int32} {n j : Nat} {av : xk_V} {x : Int32} (hel : ∀ i, i < n → xk_eI b env ad I ov f i) (hv : xk_v b env ad av (.int x)) : ∀ i, i < n → xk_eI b env ad I (xk_put ov I j av) (upd f j x) i := by
  intro i hi
  have h := hel i hi
  unfold xk_eI at h ⊢
  unfold xk_put
  by_cases hc : xk_isC av = true ∧ I.1 = av.2 ∧ I.2 = av.2
  · rw [if_pos hc, xk_ov_del]
    by_cases hij : i = j
    · subst hij
      rw [if_pos rfl, pk_us]
      obtain ⟨t, z⟩ := av
      rcases t with _ | _ | _ | _ | _ | _ | _ | _ | _ | _ | _ | t
      · cases hc.1
      · cases hc.1
      · cases hc.1
      · cases hc.1
      · cases hc.1
      · obtain ⟨y, e1, e2⟩ := hv
        cases e1
        have h1 : I.1 = z := hc.2.1
        have h2 : I.2 = z := hc.2.2
        have h3 : x.toInt = z := e2
        exact ⟨by omega, by omega⟩
      · obtain ⟨y, e1, e2⟩ := hv
        cases e1
      · cases hc.1
      · cases hc.1
      · cases hc.1
      · cases hc.1
      · exact hv.elim
    · rw [if_neg hij, pk_un hij]; exact h
  · rw [if_neg hc]
    by_cases hij : i = j
    · subst hij
      unfold xk_ov
      rw [if_pos rfl, pk_us]
      exact hv
    · rw [xk_ov_ne hij, xk_ov_del, if_neg hij, pk_un hij]; exact h
theorem xk_put_L {env : List Int} {ad : List Nat} {I : xk_I} {ov : List (Nat × xk_V)} {f : Nat → Int64} {n j : Nat} {av : xk_V} {x : Int64} (hel : ∀ i, i < n → xk_eL b env ad I ov f i) (hv : xk_v b env ad av (.long x)) : ∀ i, i < n → xk_eL b env ad I (xk_put ov I j av) (vp_updL f j x) i := by
  intro i hi
  have h := hel i hi
  unfold xk_eL at h ⊢
  unfold xk_put
  by_cases hc : xk_isC av = true ∧ I.1 = av.2 ∧ I.2 = av.2
  · rw [if_pos hc, xk_ov_del]
    by_cases hij : i = j
    · subst hij
      rw [if_pos rfl, pk_uLs]
      obtain ⟨t, z⟩ := av
      rcases t with _ | _ | _ | _ | _ | _ | _ | _ | _ | _ | _ | t
      · cases hc.1
      · cases hc.1
      · cases hc.1
      · cases hc.1
      · cases hc.1
      · obtain ⟨y, e1, e2⟩ := hv
        cases e1
      · obtain ⟨y, e1, e2⟩ := hv
        cases e1
        have h1 : I.1 = z := hc.2.1
        have h2 : I.2 = z := hc.2.2
        have h3 : x.toInt = z := e2
        exact ⟨by omega, by omega⟩
      · cases hc.1
      · cases hc.1
      · cases hc.1
      · cases hc.1
      · exact hv.elim
    · rw [if_neg hij, pk_uLn hij]; exact h
  · rw [if_neg hc]
    by_cases hij : i = j
    · subst hij
      unfold xk_ov
      rw [if_pos rfl, pk_uLs]
      exact hv
    · rw [xk_ov_ne hij, xk_ov_del, if_neg hij, pk_uLn hij]; exact h
end XC

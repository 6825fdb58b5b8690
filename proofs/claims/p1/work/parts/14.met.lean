def xk_bH (mp : List xk_V) (pm : List Nat) : List xk_C → List xk_C → Bool
  | [], [] => true
  | c :: cs, d :: ds => (Nat.beq c.1 7 || xk_bC (xk_sc mp pm c) d) && xk_bH mp pm cs ds
  | _, _ => false
theorem xk_bH_ok {U : State} {b b' : Nat × List Int × List Nat} {env env' : List Int} {ad ad' : List Nat} {mp : List xk_V} {pm : List Nat} (hv : ∀ (av : xk_V) (v : Value), xk_v b env ad (xk_sv mp pm av) v → xk_v b' env' ad' av v) : ∀ {cs ds : List xk_C} {ws : va_W}, xk_bH mp pm cs ds = true → xk_r2 (xk_c U b env ad) ds ws → xk_r2 (xk_c U b' env' ad') cs ws
  | [], [], [], _, _ => trivial
  | [], [], _ :: _, _, h => h.elim
  | [], _ :: _, _, h, _ => by cases h
  | _ :: _, [], _, h, _ => by cases h
  | _ :: _, _ :: _, [], _, h => h.elim
  | c :: cs, d :: ds, w :: ws, h, hr => by
    unfold xk_bH at h
    rw [Bool.and_eq_true, Bool.or_eq_true] at h
    refine ⟨?_, xk_bH_ok hv h.2 hr.2⟩
    rcases h.1 with h7 | h1
    · obtain ⟨k, c2⟩ := c
      have hk : k = 7 := Nat.eq_of_beq_eq_true h7
      subst hk
      trivial
    · have he := xk_bC_eq h1
      have h2 := hr.1
      rw [← he] at h2
      exact xk_c_in (f := xk_sv mp pm) (Vm.Alike.refl _) hv h2
def xk_okP (K : xk_K) (iv : List xk_I) (st : List xk_V) (hp : List xk_C) (P : xk_P) (mp : List xk_V) : Bool :=
  Nat.beq mp.length P.1.length && (Nat.ble K.1.1.length P.1.length && (Nat.ble K.1.2.2.length hp.length && (xk_bL xk_bV (mp.take K.1.1.length) ((List.range K.1.1.length).map (fun i : Nat => ((0 : Nat), (i : Int)))) && (mp.all (fun q => decide (q.1 = 5) || (decide (q.1 = 0) && decide (q.2.toNat < iv.length))) && ((mp.zip P.1).all (fun z => decide (z.2.1 ≤ (xk_iv iv z.1).1) && decide ((xk_iv iv z.1).2 ≤ z.2.2)) && ((match P.2.1, st with
    | none, [] => true
    | some av, [x] => xk_bV (xk_sv mp (List.range hp.length) av) x
    | _, _ => false) && xk_bH mp (List.range hp.length) P.2.2 hp))))))
/-- the kind of a return: 0 none, 1 int, 2 boolean, 3 long, 4 a reference -/
def xk_rk (rk : Nat) (i : Instr) (iv : List xk_I) (st : List xk_V) : Bool := match rk, i, st with
  | 0, .return_, [] => true
  | 1, .ireturn, [x] => xk_isI x
  | 2, .ireturn, [x] => xk_isI x && (decide (0 ≤ (xk_iv iv x).1) && decide ((xk_iv iv x).2 ≤ 1))
  | 3, .lreturn, [x] => xk_isL x
  | 4, .areturn, [x] => Nat.beq x.1 2
  | _, _, _ => false
def xk_rt (rk : Nat) (K : xk_K) (hs : List (Nat × List xk_V)) (i : Instr) (σ : xk_S) : Bool :=
  xk_rk rk i σ.1 σ.2.2.1 && (Nat.ble σ.2.2.2.2.1 K.2.2.2.2.1 && (Nat.ble σ.2.2.2.2.2 K.2.2.2.2.2 && hs.any (fun h => match K.2.1[h.1]? with
    | some P => xk_okP K σ.1 σ.2.2.1 σ.2.2.2.1 P h.2
    | none => false)))
def xk_rok (rk : Nat) (ret : Option FieldType) : Prop := match rk, ret with
  | 0, none => True
  | 1, some .int => True
  | 2, some .boolean => True
  | 3, some .long => True
  | 4, some (.object _) => True
  | _, _ => False
theorem xk_post {D : va_G} {K : xk_K} {s t : State} {env0 env : List Int} {ad0 ad : List Nat} {iv : List xk_I} {st : List xk_V} {sv : List Value} {hp : List xk_C} {P : xk_P} {mp : List xk_V} {ws : va_W} {H : Heap} {rv : Option Value} (hP : P ∈ K.2.1) (h : xk_okP K iv st hp P mp = true) (h0 : xk_ok env0 K.1.1) (hl0 : ad0.length = K.1.2.2.length) (ho : xk_ok env iv) (hpre : xk_pre (0, env0, ad0) env ad) (hst : xk_r2 (xk_v (0, env0, ad0) env ad) st sv) (hrv : rv = sv.head?) (ha : ws.map Prod.fst = ad) (hc : xk_r2 (xk_c s (0, env0, ad0) env ad) hp ws) (hPw : va_P D vwCl ws H) (hD : va_D (xk_fr ad0 s.heap.size) ws) {locs : List Loc} (hS : va_S (xk_fr ad0 s.heap.size) s.heap H locs) (ht : t.heap = H) (hW : s.WarmedH t.vm) (args : Array Value) : xk_Qc D K env0 ad0 s.heap.size args s (.returned rv) t := by
  unfold xk_okP at h
  simp only [Bool.and_eq_true] at h
  obtain ⟨c1, c2, c3, c4, c5, c6, c7, c8⟩ := h
  have c1 := Nat.eq_of_beq_eq_true c1
  have c2 := Nat.le_of_ble_eq_true c2
  have c3 := Nat.le_of_ble_eq_true c3
  have c4 := xk_bL_eq (fun _ _ q => xk_bV_eq q) c4
  have hmp : ∀ q ∈ mp, q.1 = 5 ∨ q.1 = 0 ∧ q.2.toNat < env.length := by
    intro q hq
    have h1 := List.all_eq_true.mp c5 q hq
    simp only [Bool.or_eq_true, Bool.and_eq_true, decide_eq_true_eq] at h1
    rw [ho.1]
    exact h1
  have hlen : hp.length = ad.length := by rw [← ha, List.length_map]; exact xk_r2_len hc
  have hpm : (List.range hp.length).map (fun p => ad.getD p 0) = ad := by
    apply List.ext_getElem?
    intro j
    rw [List.getElem?_map]
    rcases Nat.lt_or_ge j hp.length with hj | hj
    · rw [List.getElem?_range hj, List.getElem?_eq_getElem (by omega : j < ad.length)]
      show some (ad.getD j 0) = _
      rw [List.getD_eq_getElem?_getD, List.getElem?_eq_getElem (by omega : j < ad.length)]
      rfl
    · rw [List.getElem?_eq_none (by rw [List.length_range]; exact hj), List.getElem?_eq_none (by omega)]
      rfl
  have hE : (mp.map (xk_num env)).take K.1.1.length = env0 := by
    rw [← List.map_take, c4, List.map_map]
    apply List.ext_getElem?
    intro j
    rw [List.getElem?_map]
    rcases Nat.lt_or_ge j K.1.1.length with hj | hj
    · have hj0 : j < env0.length := by rw [h0.1]; exact hj
      rw [List.getElem?_range hj, List.getElem?_eq_getElem hj0]
      have h1 := hpre.1 j env0[j] (List.getElem?_eq_getElem hj0)
      show some (env.getD ((j : Int).toNat) 0) = _
      rw [Int.toNat_natCast, List.getD_eq_getElem?_getD, h1]
      rfl
    · rw [List.getElem?_eq_none (by rw [List.length_range]; exact hj), List.getElem?_eq_none (by rw [h0.1]; exact hj)]
      rfl
  have hE2 : mp.map (xk_num env) = env0 ++ (mp.map (xk_num env)).drop K.1.1.length := by
    conv => lhs; rw [← List.take_append_drop K.1.1.length (mp.map (xk_num env)), hE]
  have hA2 : ad = ad0 ++ ad.drop ad0.length := by
    have h1 : ad.take ad0.length = ad0 := by
      apply List.ext_getElem?
      intro j
      rcases Nat.lt_or_ge j ad0.length with hj | hj
      · rw [List.getElem?_take_of_lt hj, hpre.2 j ad0[j] (List.getElem?_eq_getElem hj), List.getElem?_eq_getElem hj]
      · rw [List.getElem?_eq_none (by rw [List.length_take]; omega), List.getElem?_eq_none hj]
    conv => lhs; rw [← List.take_append_drop ad0.length ad, h1]
  have hin : ∀ (av : xk_V) (v : Value), xk_v (0, env0, ad0) env ad (xk_sv mp (List.range hp.length) av) v → xk_v (0, [], []) (env0 ++ (mp.map (xk_num env)).drop K.1.1.length) (ad0 ++ ad.drop ad0.length) av v := by
    intro av v hv
    have h1 := xk_sv_in hv
    rw [hpm] at h1
    rw [← hE2, ← hA2]
    exact h1
  refine ⟨⟨P, hP, (mp.map (xk_num env)).drop K.1.1.length, ad.drop ad0.length, rv, rfl, ?_, ?_, ?_⟩, hS.F ht⟩
  · rw [← hE2]
    refine ⟨by rw [List.length_map]; exact c1, fun i n J hn hJ => ?_⟩
    rw [List.getElem?_map] at hn
    cases hq : mp[i]? with
    | none => rw [hq] at hn; cases hn
    | some q =>
      rw [hq] at hn
      have hn2 : xk_num env q = n := Option.some.inj hn
      have hz : (mp.zip P.1)[i]? = some (q, J) := by rw [List.getElem?_zip_eq_some]; exact ⟨hq, hJ⟩
      have h1 := List.all_eq_true.mp c6 _ (List.mem_of_getElem? hz)
      simp only [Bool.and_eq_true, decide_eq_true_eq] at h1
      have h2 := xk_iv_ok ho (xk_n_num (hmp q (List.mem_of_getElem? hq)))
      omega
  · unfold xk_res
    split at c7
    · rename_i e1
      rw [e1]
      have e2 := xk_r2_nil hst
      rw [hrv, e2]
      rfl
    · rename_i av x e1
      rw [e1]
      obtain ⟨v, r, e2, hv, hr⟩ := xk_r2_cons hst
      refine ⟨v, by rw [hrv, e2]; rfl, hin av v ?_⟩
      rw [xk_bV_eq c7]
      exact hv
    · cases c7
  · refine ⟨ws, by rw [ha]; exact hA2, ?_, by rw [ht]; exact hPw, hD⟩
    exact xk_r2_mono (fun _ _ q => xk_c_map hW.alike (fun _ _ z => z) q) (xk_bH_ok hin c8 hc)
def xk_args : Nat → List xk_V → List (Nat × xk_V)
  | _, [] => []
  | i, av :: avs => (i, av) :: xk_args (if xk_cat av = 2 then i + 2 else i + 1) avs
theorem xk_args_r2 {b : Nat × List Int × List Nat} {env : List Int} {ad : List Nat} : ∀ (i : Nat) {avs : List xk_V} {vs : List Value}, xk_r2 (xk_v b env ad) avs vs → xk_r2 (fun a q => a.1 = q.1 ∧ xk_v b env ad a.2 q.2) (xk_args i avs) (lv_args i vs)
  | _, [], [], _ => trivial
  | _, [], _ :: _, h => h.elim
  | _, _ :: _, [], h => h.elim
  | i, av :: avs, v :: vs, h => by
    unfold xk_args lv_args
    refine ⟨⟨rfl, h.1⟩, ?_⟩
    rw [xk_v_cat h.1]
    exact xk_args_r2 _ h.2
theorem xk_sl_len {b : Nat × List Int × List Nat} {env : List Int} {ad : List Nat} : ∀ {avs : List xk_V} {vs : List Value}, xk_r2 (xk_v b env ad) avs vs → (lg_sl vs).length = (avs.map xk_cat).sum
  | [], [], _ => rfl
  | [], _ :: _, h => h.elim
  | _ :: _, [], h => h.elim
  | av :: avs, v :: vs, h => by
    have ih := xk_sl_len h.2
    unfold lg_sl at ih ⊢
    rw [List.flatMap_cons, List.length_append, ih, List.map_cons, List.sum_cons, xk_v_cat h.1]
    congr 1
    by_cases hc : xk_cat av = 2
    · rw [if_pos hc, hc]; rfl
    · rw [if_neg hc]
      have h1 : xk_cat av = 1 := by
        unfold xk_cat at hc ⊢
        split
        · rename_i h2; rw [if_pos h2] at hc; exact absurd rfl hc
        · rfl
      rw [h1]; rfl
theorem xk_KM_of {l : Launch} {D : va_G} {own : String} {y : MethodName} {code : ByteArray} {maxL f rk : Nat} {ret : Option FieldType} {K : xk_K} {T : xk_T} {B : xk_B} {isI : Bool} {sp : List Nat} {hs : List (Nat × List xk_V)} (hy : plainName y.cls = true) (hyo : y.cls = own) (TK : xk_TOK own T) (GK : xk_GOK) (hI : isI = true → y.name = "<init>") (hrk : xk_rok rk ret) (hB : ∀ q ∈ B, xk_Rn l D own code maxL (xk_rm K) q.1 q.2.1) (hsl : (K.1.2.1.map xk_cat).sum ≤ maxL) (hex : xk_exec code T (maxL, isI, (K.2.2.1, K.2.2.2.2.1, K.2.2.2.2.2, K.2.2.2.1), none, sp) B (xk_rt rk K hs) f 0 (K.1.1, xk_args 0 K.1.2.1, [], K.1.2.2, 0, 0) = true) : xk_KM l D y code maxL ret K := by
  intro env0 ad0 sz h0
  refine Met.ofW (cc := code) (maxL := maxL) (ret := ret) hy rfl ?_
  intro p e s m args below meth c s₁ B0 hml hv
  obtain ⟨hr, hsz, ⟨ws, ha, hc, hP, hD0⟩, hK, hN⟩ := hv
  subst hsz
  have hb := B0.bytes
  have hts : ∀ w ∈ xk_tb, w.before args s = true := xk_hts (fun w hw => atoms_spec (ws := Cond.code y code maxL ret :: xk_tg) B0.pre w (List.mem_cons_of_mem _ hw)) hN
  have hown : s.vm.findClass own = some m.cls := hyo ▸ findClass_of_methodNamed B0.named
  have hlocks := B0.notSynchronized
  have hret := B0.returns
  have hnm : meth.name = y.name := (name_of_methodNamed B0.named B0.method).1
  have F : xk_Fx p s m args c D (xk_fr ad0 s.heap.size) own code maxL := ⟨B0.exec, hb, hml, hown, hts, hK, fun q hq => Or.inr hq⟩
  have hD : va_D (xk_fr ad0 s.heap.size) ws := hD0.weaken (fun k q hk _ => Or.inl (by rw [← ha]; exact List.mem_map.mpr ⟨q, List.mem_of_getElem? hk, rfl⟩))
  have hl0 : ad0.length = K.1.2.2.length := by rw [← ha, List.length_map]; exact Eq.symm (xk_r2_len hc)
  have RT : ∀ (pc : Nat) (i : Instr) (σ : xk_S), decode code pc = .ok (i, 1) → xk_rt rk K hs i σ = true → xk_G p l e (headSpec (Cond.code y code maxL ret :: xk_tg) (xk_rm K)).room s m args below meth c (MQ below (xk_Qc D K env0 ad0 s.heap.size) args s K.2.2.2.2.1 K.2.2.2.2.2 (xk_fr ad0 s.heap.size)) (0, env0, ad0) maxL D (xk_fr ad0 s.heap.size) pc σ := by
    intro pc i σ hd hrt env ad H locs ls sv hIn
    unfold xk_rt at hrt
    simp only [Bool.and_eq_true] at hrt
    obtain ⟨q1, q2, q3, q4⟩ := hrt
    obtain ⟨hh, hm, hh2⟩ := List.any_eq_true.mp q4
    split at hh2
    · rename_i P hPq
      obtain ⟨ho, -, hst, ws2, ha2, hc2, hP2, hD2, hS2, hpre⟩ := hIn
      refine W.widen (Nat.le_of_ble_eq_true q2) (Nat.le_of_ble_eq_true q3) ?_
      have post : ∀ (rv : Option Value) (t : State), rv = sv.head? → t.heap = H → s.WarmedH t.vm → xk_Qc D K env0 ad0 s.heap.size args s (.returned rv) t := fun rv t hrv ht hW => xk_post (List.mem_of_getElem? hPq) hh2 h0 hl0 ho hpre hst hrv ha2 hc2 hP2 hD2 hS2 ht hW args
      obtain ⟨iv, lo, st, hp, kc, ks⟩ := σ
      unfold xk_rk at q1
      unfold xk_rok at hrk
      dsimp only at q1 hst ho
      split at q1
      · have e := xk_r2_nil hst
        subst e
        split at hrk
        · exact W.vret B0.exec hb hret (fun t ht hW => post _ t rfl ht hW) hS2.2.2 hd
        all_goals first | (rename_i hz; cases hz) | cases hrk | skip
        all_goals simp_all
      · obtain ⟨v, r, rfl, hv, hr2⟩ := xk_r2_cons hst
        have e := xk_r2_nil hr2
        subst e
        obtain ⟨x, rfl, -⟩ := xk_vI q1 hv
        split at hrk
        all_goals first | exact W.iret B0.exec hb hret (fun t ht hW => post _ t rfl ht hW) hS2.2.2 hd | simp_all
      · obtain ⟨v, r, rfl, hv, hr2⟩ := xk_r2_cons hst
        have e := xk_r2_nil hr2
        subst e
        simp only [Bool.and_eq_true, decide_eq_true_eq] at q1
        obtain ⟨x, rfl, hn⟩ := xk_vI q1.1 hv
        have hbb := xk_iv_ok ho hn
        have hnar : narrow .boolean (.int x) = .int x := by rcases xk_bool (x := x) (by omega) (by omega) with rfl | rfl <;> rfl
        split at hrk
        all_goals first | exact W.zret B0.exec hb hret hnar (fun t ht hW => post _ t rfl ht hW) hS2.2.2 hd | simp_all
      · obtain ⟨v, r, rfl, hv, hr2⟩ := xk_r2_cons hst
        have e := xk_r2_nil hr2
        subst e
        obtain ⟨x, rfl, -⟩ := xk_vL q1 hv
        split at hrk
        all_goals first | exact W.lret B0.exec hb hret (fun t ht hW => post _ t rfl ht hW) hS2.2.2 hd | simp_all
      · obtain ⟨v, r, rfl, hv, hr2⟩ := xk_r2_cons hst
        have e := xk_r2_nil hr2
        subst e
        rename_i xx
        obtain ⟨xt, xi⟩ := xx
        have ht2 : xt = 2 := Nat.eq_of_beq_eq_true q1
        subst ht2
        obtain ⟨a, rfl, -⟩ := hv
        split at hrk
        all_goals first | exact W.aret B0.exec hb hret (Or.inl ⟨_, rfl⟩) (Or.inr ⟨a, rfl⟩) (fun t ht hW => post _ t rfl ht hW) hS2.2.2 hd | simp_all
      · cases q1
    · cases hh2
  have hG := xk_exec_ok F TK GK (X := (maxL, isI, (K.2.2.1, K.2.2.2.2.1, K.2.2.2.2.2, K.2.2.2.1), none, sp)) rfl (fun z => hnm.trans (hI z)) rfl (fun L hL => by cases hL) hB RT f 0 _ hex
  have hargs : args = (args.toList).toArray := (Array.toArray_toList).symm
  have hv0 : ∀ (av : xk_V) (v : Value), xk_v (0, [], []) env0 ad0 av v → xk_v (0, env0, ad0) env0 ad0 av v := by
    intro av v hv
    obtain ⟨t, i⟩ := av
    rcases t with _ | _ | _ | _ | _ | _ | _ | t
    · exact hv
    · exact hv
    · exact hv
    · exact hv
    · exact absurd hv.2.1 (by decide)
    · exact hv
    · exact hv
    · exact hv
  have hr' := xk_r2_mono hv0 hr
  have hle : (lg_sl args.toList).length ≤ maxL := by rw [xk_sl_len hr']; exact hsl
  have hl := lv_entry args.toList hle
  have hent : entryFrame m args maxL = F0 m 0 ((lg_sl args.toList ++ List.replicate (maxL - (lg_sl args.toList).length) Slot.unset).toArray) [] := by
    conv => lhs; rw [hargs]
    exact lg_entry_eq m args.toList maxL
  rw [hent]
  exact hG env0 ad0 s.heap [] _ [] ⟨h0, ⟨_, hl, xk_args_r2 0 hr'⟩, trivial, ws, ha, xk_r2_mono (fun _ _ q => xk_c_map (Vm.Alike.refl _) hv0 q) hc, hP, hD, va_S.rf, ⟨fun j n hj => hj, fun j a hj => hj⟩⟩

theorem xk_hds_app {cc : ByteArray} {T : xk_T} {X : xk_X} {B : xk_B} {rt : Instr → xk_S → Bool} {hk : xk_Hk} {n0 c0 nL f nm : Nat} {hs : List xk_H} : ∀ {l1 l2 : List xk_H}, xk_hds cc T X B rt hk n0 c0 nL f nm hs l1 = true → xk_hds cc T X B rt hk n0 c0 nL f nm hs l2 = true → xk_hds cc T X B rt hk n0 c0 nL f nm hs (l1 ++ l2) = true
  | [], _, _, h2 => h2
  | g :: r, l2, h1, h2 => by
    unfold xk_hds at h1
    simp only [Bool.and_eq_true] at h1
    rw [List.cons_append]
    unfold xk_hds
    simp only [Bool.and_eq_true]
    exact ⟨h1.1, h1.2.1, h1.2.2.1, xk_hds_app h1.2.2.2 h2⟩
def xk_okQ (K : xk_K) (iv : xk_N) (st : List xk_V) (hp : List xk_C) (P : xk_P) (mp : List xk_V) : Bool :=
  Nat.ble K.1.2.2.length hp.length && (Nat.ble K.1.1.1.length P.1.1.length && (xk_fitN iv mp P.1 && ((match P.2.1, st with
    | none, [] => true
    | some av, [x] => xk_bV (xk_sv mp (List.range hp.length) none av) x
    | _, _ => false) && xk_bP iv mp (List.range hp.length) none hp P.2.2 (List.range hp.length))))
def xk_okP (K : xk_K) (iv : xk_N) (st : List xk_V) (hp : List xk_C) (P : xk_P) (ls : List xk_Lo) : Bool := match xk_lns st hp (List.range hp.length) ls with
  | none => false
  | some mp0 => xk_okQ K iv st hp P (xk_ids K.1.1.1.length ++ mp0.map xk_nv)
/-- the kind of a return: 0 none, 1 int, 2 boolean, 3 long, 4 a reference -/
def xk_rk (rk : Nat) (i : Instr) (iv : xk_N) (st : List xk_V) : Bool := match rk, i, st with
  | 0, .return_, [] => true
  | 1, .ireturn, [x] => xk_isI x
  | 2, .ireturn, [x] => xk_isI x && (decide (0 ≤ (xk_iv iv x).1) && decide ((xk_iv iv x).2 ≤ 1))
  | 3, .lreturn, [x] => xk_isL x
  | 4, .areturn, [x] => Nat.beq x.1 2
  | 5, .ireturn, [x] => xk_isI x && (decide (0 ≤ (xk_iv iv x).1) && decide ((xk_iv iv x).2 ≤ 127))
  | 6, .ireturn, [x] => xk_isI x && (decide (0 ≤ (xk_iv iv x).1) && decide ((xk_iv iv x).2 ≤ 255))
  | _, _, _ => false
def xk_rt (rk : Nat) (K : xk_K) (hs : List (Nat × List xk_Lo)) (i : Instr) (σ : xk_S) : Bool :=
  xk_rk rk i σ.1 σ.2.2.1 && (Nat.ble σ.2.2.2.2.1 K.2.2.2.2.1 && (Nat.ble σ.2.2.2.2.2 K.2.2.2.2.2 && hs.any (fun h => match K.2.1[h.1]? with
    | some P => xk_okP K σ.1 σ.2.2.1 σ.2.2.2.1 P h.2
    | none => false)))
def xk_rok (rk : Nat) (ret : Option FieldType) : Prop := match rk, ret with
  | 0, none => True
  | 1, some .int => True
  | 2, some .boolean => True
  | 3, some .long => True
  | 4, some (.object _) => True
  | 5, some .byte => True
  | 6, some .char => True
  | _, _ => False
theorem xk_nd_of : ∀ (l : List Nat), l.Nodup → va_nd l = true
  | [], _ => rfl
  | a :: r, h => by
    have h2 := List.nodup_cons.mp h
    unfold va_nd
    rw [xk_nd_of r h2.2, Bool.and_true]
    simpa using h2.1
theorem xk_nd_range (n : Nat) : va_nd (List.range n) = true := xk_nd_of _ List.nodup_range
theorem xk_post {D : va_G} {K : xk_K} {s t : State} {env0 env : List Int} {ad0 ad : List Nat} {oq : xk_O} {iv : xk_N} {st : List xk_V} {sv : List Value} {hp : List xk_C} {P : xk_P} {los : List xk_Lo} {ws : va_W} {H : Heap} {rv : Option Value} (hP : P ∈ K.2.1) (h : xk_okP K iv st hp P los = true) (h0 : xk_ok env0 K.1.1) (hl0 : ad0.length = K.1.2.2.length) (ho : xk_ok env iv) (hpre : xk_pre (0, env0, ad0, oq) env ad) (hst : xk_r2 (xk_v (0, env0, ad0, oq) env ad) st sv) (hrv : rv = sv.head?) (ha : ws.map Prod.fst = ad) (hc : xk_r2 (xk_c s (0, env0, ad0, oq) env ad) hp ws) (hPw : va_P D vwCl ws H) (hD : va_D (xk_fr ad0 s.heap.size) ws) {locs : List Loc} (hS : va_S (xk_fr ad0 s.heap.size) s.heap H locs) (ht : t.heap = H) (hW : s.WarmedH t.vm) (args : Array Value) : xk_Qc D K env0 ad0 s.heap.size oq args s (.returned rv) t := by
  unfold xk_okP at h
  split at h
  · cases h
  · rename_i mp0 hmp0
    obtain ⟨mp, emp⟩ : ∃ mp, mp = xk_ids K.1.1.1.length ++ mp0.map xk_nv := ⟨_, rfl⟩
    rw [← emp] at h
    unfold xk_okQ at h
    simp only [Bool.and_eq_true] at h
    obtain ⟨c3, c2, cN, c7, c8⟩ := h
    have c3 := Nat.le_of_ble_eq_true c3
    obtain ⟨hmp, hml, hok⟩ := xk_fitN_ok ho cN
    have hlen : hp.length = ad.length := by rw [← ha, List.length_map]; exact xk_r2_len hc
    have hpm : (List.range hp.length).map (fun p => ad.getD p 0) = ad := by
      rw [hlen]
      exact xk_rng_ad (fun j a hj => hj)
    have hE2 : mp.map (xk_num env) = env0 ++ (mp0.map xk_nv).map (xk_num env) := by
      rw [emp, List.map_append, ← h0.1, xk_ids_num hpre.1]
    have hA2 : ad = ad0 ++ ad.drop ad0.length := by
      have h1 : ad.take ad0.length = ad0 := by
        apply List.ext_getElem?
        intro j
        rcases Nat.lt_or_ge j ad0.length with hj | hj
        · rw [List.getElem?_take_of_lt hj, hpre.2 j ad0[j] (List.getElem?_eq_getElem hj), List.getElem?_eq_getElem hj]
        · rw [List.getElem?_eq_none (by rw [List.length_take]; omega), List.getElem?_eq_none hj]
      conv => lhs; rw [← List.take_append_drop ad0.length ad, h1]
    have hin : ∀ (av : xk_V) (v : Value), xk_v (0, env0, ad0, oq) env ad (xk_sv mp (List.range hp.length) none av) v → xk_v (0, [], [], oq) (env0 ++ (mp0.map xk_nv).map (xk_num env)) (ad0 ++ ad.drop ad0.length) av v := by
      intro av v hv
      have h1 := xk_sv_in hv
      rw [hpm] at h1
      rw [← hE2, ← hA2]
      exact h1
    obtain ⟨wsc, w1, w2, w3, w4⟩ := xk_cut ho ha hc hPw hD c8 (xk_nd_range _)
    rw [hpm, hE2] at w2
    rw [hpm] at w1
    refine ⟨⟨P, hP, (mp0.map xk_nv).map (xk_num env), ad.drop ad0.length, rv, rfl, ?_, ?_, ?_⟩, hS.F ht⟩
    · rw [← hE2]
      exact hok
    · unfold xk_res
      split at c7
      · rename_i e1
        rw [e1]
        have e2 := xk_r2_nil hst
        rw [hrv, e2]
        rfl
      · rename_i av x e1
        rw [e1]
        obtain ⟨v, r, e2, hv, hr⟩ := xk_r2_cons hst
        refine ⟨v, by rw [hrv, e2]; rfl, hin av v ?_⟩
        rw [xk_bV_eq c7]
        exact hv
      · cases c7
    · refine ⟨wsc, by rw [w1]; exact hA2, ?_, by rw [ht]; exact w3, w4⟩
      rw [← hA2]
      exact xk_r2_mono (fun _ _ q => xk_c_map hW.alike (fun _ _ z => xk_v_b z) q) w2
def xk_args : Nat → List xk_V → List (Nat × xk_V)
  | _, [] => []
  | i, av :: avs => (i, av) :: xk_args (if xk_cat av = 2 then i + 2 else i + 1) avs
theorem xk_args_r2 {b : xk_b} {env : List Int} {ad : List Nat} : ∀ (i : Nat) {avs : List xk_V} {vs : List Value}, xk_r2 (xk_v b env ad) avs vs → xk_r2 (fun a q => a.1 = q.1 ∧ xk_v b env ad a.2 q.2) (xk_args i avs) (lv_args i vs)
  | _, [], [], _ => trivial
  | _, [], _ :: _, h => h.elim
  | _, _ :: _, [], h => h.elim
  | i, av :: avs, v :: vs, h => by
    unfold xk_args lv_args
    refine ⟨⟨rfl, h.1⟩, ?_⟩
    rw [xk_v_cat h.1]
    exact xk_args_r2 _ h.2
theorem xk_sl_len {b : xk_b} {env : List Int} {ad : List Nat} : ∀ {avs : List xk_V} {vs : List Value}, xk_r2 (xk_v b env ad) avs vs → (lg_sl vs).length = (avs.map xk_cat).sum
  | [], [], _ => rfl
  | [], _ :: _, h => h.elim
  | _ :: _, [], h => h.elim
  | av :: avs, v :: vs, h => by
    have ih := xk_sl_len h.2
    unfold lg_sl at ih ⊢
    rw [List.flatMap_cons, List.length_append, ih, List.map_cons, List.sum_cons, xk_v_cat h.1]
    congr 1
    by_cases hc : xk_cat av = 2
    · rw [if_pos hc, hc]; rfl
    · rw [if_neg hc]
      have h1 : xk_cat av = 1 := by
        unfold xk_cat at hc ⊢
        split
        · rename_i h2; rw [if_pos h2] at hc; exact absurd rfl hc
        · rfl
      rw [h1]; rfl
section XN
variable {p : Program} {l : Launch} {e : Env} {R : Room} {s : State} {m : MethodId} {args : Array Value} {below : List Frame} {meth : Method} {c : Code} {D : va_G} {own : String} {code : ByteArray} {maxL rk : Nat} {ret : Option FieldType} {K : xk_K} {hs : List (Nat × List xk_Lo)} {env0 : List Int} {ad0 : List Nat} {oq : xk_O}
theorem xk_RT {e1 : List Int} (hexec : p.tables.exec = Jvm.exec) (hb : c.code = code) (hret : meth.sig.returnType = ret) (hlocks : meth.locks = false) (hrk : xk_rok rk ret) (h0 : xk_ok env0 K.1.1) (hl0 : ad0.length = K.1.2.2.length) (he : ∀ (j : Nat) (n : Int), env0[j]? = some n → e1[j]? = some n) (pc : Nat) (i : Instr) (σ : xk_S) (hd : decode code pc = .ok (i, 1)) (hrt : xk_rt rk K hs i σ = true) : xk_G p l e R s m args below meth c (MQ below (xk_Qc D K env0 ad0 s.heap.size oq) args s K.2.2.2.2.1 K.2.2.2.2.2 (xk_fr ad0 s.heap.size)) (0, e1, ad0, oq) maxL D (xk_fr ad0 s.heap.size) pc σ := by
  intro env ad H locs ls sv hIn
  unfold xk_rt at hrt
  simp only [Bool.and_eq_true] at hrt
  obtain ⟨q1, q2, q3, q4⟩ := hrt
  obtain ⟨hh, hm, hh2⟩ := List.any_eq_true.mp q4
  split at hh2
  · rename_i P hPq
    obtain ⟨ho, -, hst, ws2, ha2, hc2, hP2, hD2, hS2, hpre1⟩ := hIn
    have hpre : xk_pre (0, env0, ad0, oq) env ad := ⟨fun j n hj => hpre1.1 j n (he j n hj), hpre1.2⟩
    replace hst : xk_r2 (xk_v (0, env0, ad0, oq) env ad) σ.2.2.1 sv := xk_r2_mono (fun _ _ q => xk_v_b q) hst
    replace hc2 : xk_r2 (xk_c s (0, env0, ad0, oq) env ad) σ.2.2.2.1 ws2 := xk_r2_mono (fun _ _ q => xk_c_map (Vm.Alike.refl _) (fun _ _ z => xk_v_b z) q) hc2
    refine W.widen (Nat.le_of_ble_eq_true q2) (Nat.le_of_ble_eq_true q3) ?_
    have post : ∀ (rv : Option Value) (t : State), rv = sv.head? → t.heap = H → s.WarmedH t.vm → xk_Qc D K env0 ad0 s.heap.size oq args s (.returned rv) t := fun rv t hrv ht hW => xk_post (List.mem_of_getElem? hPq) hh2 h0 hl0 ho hpre hst hrv ha2 hc2 hP2 hD2 hS2 ht hW args
    obtain ⟨iv, lo, st, hp, kc, ks⟩ := σ
    unfold xk_rk at q1
    unfold xk_rok at hrk
    dsimp only at q1 hst ho
    split at q1
    · have e := xk_r2_nil hst
      subst e
      split at hrk
      · exact W.vret hexec hb hret (fun t ht hW => post _ t rfl ht hW) hS2.2.2 hd
      all_goals first | (rename_i hz; cases hz) | cases hrk | skip
      all_goals simp_all
    · obtain ⟨v, r, rfl, hv, hr2⟩ := xk_r2_cons hst
      have e := xk_r2_nil hr2
      subst e
      obtain ⟨x, rfl, -⟩ := xk_vI q1 hv
      split at hrk
      all_goals first | exact W.iret hexec hb hret (fun t ht hW => post _ t rfl ht hW) hS2.2.2 hd | simp_all
    · obtain ⟨v, r, rfl, hv, hr2⟩ := xk_r2_cons hst
      have e := xk_r2_nil hr2
      subst e
      simp only [Bool.and_eq_true, decide_eq_true_eq] at q1
      obtain ⟨x, rfl, hn⟩ := xk_vI q1.1 hv
      have hbb := xk_iv_ok ho hn
      have hnar : narrow .boolean (.int x) = .int x := by rcases xk_bool (x := x) (by omega) (by omega) with rfl | rfl <;> rfl
      split at hrk
      all_goals first | exact W.zret hexec hb hret hnar (fun t ht hW => post _ t rfl ht hW) hS2.2.2 hd | simp_all
    · obtain ⟨v, r, rfl, hv, hr2⟩ := xk_r2_cons hst
      have e := xk_r2_nil hr2
      subst e
      obtain ⟨x, rfl, -⟩ := xk_vL q1 hv
      split at hrk
      all_goals first | exact W.lret hexec hb hret (fun t ht hW => post _ t rfl ht hW) hS2.2.2 hd | simp_all
    · obtain ⟨v, r, rfl, hv, hr2⟩ := xk_r2_cons hst
      have e := xk_r2_nil hr2
      subst e
      rename_i xx
      obtain ⟨xt, xi⟩ := xx
      have ht2 : xt = 2 := Nat.eq_of_beq_eq_true q1
      subst ht2
      obtain ⟨a, rfl, -⟩ := hv
      split at hrk
      all_goals first | exact W.aret hexec hb hret (Or.inl ⟨_, rfl⟩) (Or.inr ⟨a, rfl⟩) (fun t ht hW => post _ t rfl ht hW) hS2.2.2 hd | simp_all
    · obtain ⟨v, r, rfl, hv, hr2⟩ := xk_r2_cons hst
      have e := xk_r2_nil hr2
      subst e
      simp only [Bool.and_eq_true, decide_eq_true_eq] at q1
      obtain ⟨x, rfl, hn⟩ := xk_vI q1.1 hv
      have hbb := xk_iv_ok ho hn
      have hnar := xs_narb x.toInt.toNat (by omega)
      rw [← xs_nat (x := x) (by omega)] at hnar
      split at hrk
      all_goals first | exact W.zret hexec hb hret hnar (fun t ht hW => post _ t rfl ht hW) hS2.2.2 hd | simp_all
    · obtain ⟨v, r, rfl, hv, hr2⟩ := xk_r2_cons hst
      have e := xk_r2_nil hr2
      subst e
      simp only [Bool.and_eq_true, decide_eq_true_eq] at q1
      obtain ⟨x, rfl, hn⟩ := xk_vI q1.1 hv
      have hbb := xk_iv_ok ho hn
      have hnar := xs_nar x.toInt.toNat (by omega)
      rw [← xs_nat (x := x) (by omega)] at hnar
      split at hrk
      all_goals first | exact W.zret hexec hb hret hnar (fun t ht hW => post _ t rfl ht hW) hS2.2.2 hd | simp_all
    · cases q1
  · cases hh2
/-- a run from pc 0 with heads, hands and ends -/
theorem xk_W_of {T : xk_T} {B : xk_B} {hk : xk_Hk} {hd : List xk_H} {f nm : Nat} {Q : State → Prop} {rt : Instr → xk_S → Bool} {e1 : List Int} {A : Nat → Prop} {X : xk_X} (F : xk_Fx p s m args c D A own code maxL) (TK : xk_TOK own T) (GK : xk_GOK) (hX : X.1 = maxL) (hI : X.2.1 = true → meth.name = "<init>") (hRm : X.2.2.1 = (R.frames, R.cells, R.slots, R.locals)) (SC : X.2.2.2.1 = none) (SU : xk_SUH oq A s s.heap) (hB : ∀ q ∈ B, xk_Rn l D own code maxL R q.1 q.2.1) (RT : ∀ (pc : Nat) (i : Instr) (σ : xk_S), decode code pc = .ok (i, 1) → rt i σ = true → xk_G p l e R s m args below meth c Q (0, e1, ad0, oq) maxL D A pc σ) (HK : ∀ (e2 : List Int) (a2 : List Nat), (∀ (j : Nat) (n : Int), e1[j]? = some n → e2[j]? = some n) → (∀ (j a : Nat), ad0[j]? = some a → a2[j]? = some a) → ∀ (pc : Nat) (σ : xk_S) (l2 : List (Nat × xk_S)), hk pc σ = some l2 → (∀ q ∈ l2, xk_G p l e R s m args below meth c Q (0, e2, a2, oq) maxL D A q.1 q.2) → xk_G p l e R s m args below meth c Q (0, e2, a2, oq) maxL D A pc σ) {n0 c0 : Nat} (hn0 : e1.length = n0) (hc0 : ad0.length = c0) (hhd : xk_hds code T X B rt hk n0 c0 maxL f nm hd hd = true) {pc : Nat} {σ : xk_S} (hex : xk_exj code T X B rt hk (xk_jp false n0 c0 maxL hd []) f pc σ = true) : xk_G p l e R s m args below meth c Q (0, e1, ad0, oq) maxL D A pc σ := by
  subst hn0
  subst hc0
  have JP : ∀ (pc : Nat) (σ : xk_S), xk_jp false e1.length ad0.length maxL hd [] pc σ = some true → xk_G p l e R s m args below meth c Q (0, e1, ad0, oq) maxL D A pc σ := by
    intro pc σ hj env2 ad2 H2 locs2 ls2 st2 hI2
    unfold xk_jp at hj
    split at hj
    · have hj2 := Option.some.inj hj
      obtain ⟨g, hg, hj3⟩ := List.any_eq_true.mp hj2
      rw [Bool.and_eq_true] at hj3
      have epc : g.1 = pc := Nat.eq_of_beq_eq_true hj3.1
      obtain ⟨env3, ad3, hI3, hk1, hk2, -⟩ := xk_jmp_ok hj3.2 hI2.2.2.2.choose_spec.2.2.2.2.2 hI2
      have hw := xk_heads_ok F TK GK (X := X) hX hI hRm SC SU hB RT HK hhd _ (xk_ll_acc _ _ rfl) g hg env3 ad3 H2 locs2 ls2 st2 hI3 rfl
      rw [epc] at hw
      exact W.widen hk1 hk2 hw
    · cases hj
  exact xk_exj_ok F TK GK hX hI hRm (fun L hL => by rw [SC] at hL; cases hL) SU hB RT (HK e1 ad0 (fun _ _ h => h) (fun _ _ h => h)) JP f pc σ hex
end XN
theorem xk_KM_by {l : Launch} {D : va_G} {own : String} {y : MethodName} {code : ByteArray} {maxL : Nat} {ret : Option FieldType} {K : xk_K} (hy : plainName y.cls = true) (hyo : y.cls = own) (hsl : (K.1.2.1.map xk_cat).sum ≤ maxL) (body : ∀ (p : Program) (e : Env) (s : State) (m : MethodId) (args : Array Value) (below : List Frame) (meth : Method) (c : Code) (env0 : List Int) (ad0 : List Nat) (oq : xk_O) (ws : va_W) (ls : Array Slot), xk_ok env0 K.1.1 → ad0.length = K.1.2.2.length → xk_Fx p s m args c D (xk_fr ad0 s.heap.size) own code maxL → meth.sig.returnType = ret → meth.locks = false → meth.name = y.name → xk_SUH oq (xk_fr ad0 s.heap.size) s s.heap → ws.map Prod.fst = ad0 → xk_r2 (xk_c s (0, env0, ad0, oq) env0 ad0) K.1.2.2 ws → va_P D vwCl ws s.heap → va_D (xk_fr ad0 s.heap.size) ws → (∃ lvs, lv_has ls maxL lvs ∧ xk_r2 (fun a q => a.1 = q.1 ∧ xk_v (0, env0, ad0, oq) env0 ad0 a.2 q.2) (xk_args 0 K.1.2.1) lvs) → W p l e (headSpec (Cond.code y code maxL ret :: xk_tg) (xk_rm K)).room s m args below meth c s.heap [] 0 0 (MQ below (xk_Qc D K env0 ad0 s.heap.size oq) args s K.2.2.2.2.1 K.2.2.2.2.2 (xk_fr ad0 s.heap.size)) (F0 m 0 ls [])) : xk_KM l D y code maxL ret K := by
  intro env0 ad0 sz oq h0
  refine Met.ofW (cc := code) (maxL := maxL) (ret := ret) hy rfl ?_
  intro p e s m args below meth c s₁ B0 hml hv
  obtain ⟨hr, hsz, ⟨ws, ha, hc, hP, hD0⟩, hK, hN, hZ⟩ := hv
  subst hsz
  have hb := B0.bytes
  have hts : ∀ w ∈ xk_tb, w.before args s = true := xk_hts (fun w hw => atoms_spec (ws := Cond.code y code maxL ret :: xk_tg) B0.pre w (List.mem_cons_of_mem _ hw)) hN
  have hown : s.vm.findClass own = some m.cls := hyo ▸ findClass_of_methodNamed B0.named
  have hret := B0.returns
  have hlocks := B0.notSynchronized
  have hnm : meth.name = y.name := (name_of_methodNamed B0.named B0.method).1
  have F : xk_Fx p s m args c D (xk_fr ad0 s.heap.size) own code maxL := ⟨B0.exec, hb, hml, hown, hts, hK, fun q hq => Or.inr hq⟩
  have hD : va_D (xk_fr ad0 s.heap.size) ws := hD0.weaken (fun k q hk _ => Or.inl (by rw [← ha]; exact List.mem_map.mpr ⟨q, List.mem_of_getElem? hk, rfl⟩))
  have hl0 : ad0.length = K.1.2.2.length := by rw [← ha, List.length_map]; exact Eq.symm (xk_r2_len hc)
  have hargs : args = (args.toList).toArray := (Array.toArray_toList).symm
  have hv0 : ∀ (av : xk_V) (v : Value), xk_v (0, [], [], oq) env0 ad0 av v → xk_v (0, env0, ad0, oq) env0 ad0 av v := fun av v hv => xk_v_b hv
  have hr' := xk_r2_mono hv0 hr
  have hle : (lg_sl args.toList).length ≤ maxL := by rw [xk_sl_len hr']; exact hsl
  have hl := lv_entry args.toList hle
  have hent : entryFrame m args maxL = F0 m 0 ((lg_sl args.toList ++ List.replicate (maxL - (lg_sl args.toList).length) Slot.unset).toArray) [] := by
    conv => lhs; rw [hargs]
    exact lg_entry_eq m args.toList maxL
  rw [hent]
  exact body p e s m args below meth c env0 ad0 oq ws _ h0 hl0 F hret hlocks hnm hZ ha (xk_r2_mono (fun _ _ q => xk_c_map (Vm.Alike.refl _) hv0 q) hc) hP hD ⟨_, hl, xk_args_r2 0 hr'⟩
theorem xk_KM_of {l : Launch} {D : va_G} {own : String} {y : MethodName} {code : ByteArray} {maxL f rk : Nat} {ret : Option FieldType} {K : xk_K} {T : xk_T} {B : xk_B} {isI : Bool} {sp : List Nat} {hs : List (Nat × List xk_Lo)} {hd : List xk_H} {nm : Nat} (hy : plainName y.cls = true) (hyo : y.cls = own) (TK : xk_TOK own T) (GK : xk_GOK) (hI : isI = true → y.name = "<init>") (hrk : xk_rok rk ret) (hB : ∀ q ∈ B, xk_Rn l D own code maxL (xk_rm K) q.1 q.2.1) (hsl : (K.1.2.1.map xk_cat).sum ≤ maxL) (hhd : xk_hds code T (maxL, isI, (K.2.2.1, K.2.2.2.2.1, K.2.2.2.2.2, K.2.2.2.1), none, sp) B (xk_rt rk K hs) xk_hk0 K.1.1.1.length K.1.2.2.length maxL f nm hd hd = true) (hex : xk_exj code T (maxL, isI, (K.2.2.1, K.2.2.2.2.1, K.2.2.2.2.2, K.2.2.2.1), none, sp) B (xk_rt rk K hs) xk_hk0 (xk_jp false K.1.1.1.length K.1.2.2.length maxL hd []) f 0 (K.1.1, xk_args 0 K.1.2.1, [], K.1.2.2, 0, 0) = true) : xk_KM l D y code maxL ret K := by
  refine xk_KM_by hy hyo hsl ?_
  intro p e s m args below meth c env0 ad0 oq ws ls h0 hl0 F hret hlocks hnm hZ ha hc hP hD hlv
  refine xk_W_of F TK GK (X := (maxL, isI, (K.2.2.1, K.2.2.2.2.1, K.2.2.2.2.2, K.2.2.2.1), none, sp)) rfl (fun z => hnm.trans (hI z)) rfl rfl hZ hB (fun pc i σ hd hrt => xk_RT F.1 F.2.1 hret hlocks hrk h0 hl0 (fun _ _ h => h) pc i σ hd hrt) (fun e2 a2 _ _ pc σ l2 h _ => by cases h) h0.1 hl0 hhd hex env0 ad0 s.heap [] ls [] ⟨h0, hlv, trivial, ws, ha, hc, hP, hD, va_S.rf, ⟨fun j n hj => hj, fun j a hj => hj⟩⟩
/-- as xk_KM_of, with steps by hand -/
theorem xk_KM_ofH {l : Launch} {D : va_G} {own : String} {y : MethodName} {code : ByteArray} {maxL f rk : Nat} {ret : Option FieldType} {K : xk_K} {T : xk_T} {B : xk_B} {isI : Bool} {sp : List Nat} {hs : List (Nat × List xk_Lo)} {hd : List xk_H} {nm : Nat} {hk : xk_Hk} (hy : plainName y.cls = true) (hyo : y.cls = own) (TK : xk_TOK own T) (GK : xk_GOK) (hI : isI = true → y.name = "<init>") (hrk : xk_rok rk ret) (HK : ∀ (p : Program) (e : Env) (s : State) (m : MethodId) (args : Array Value) (below : List Frame) (meth : Method) (c : Code) (Q : State → Prop) (A : Nat → Prop) (e2 : List Int) (a2 : List Nat) (oq : xk_O), xk_Fx p s m args c D A own code maxL → xk_SUH oq A s s.heap → ∀ (pc : Nat) (σ : xk_S) (l2 : List (Nat × xk_S)), hk pc σ = some l2 → (∀ q ∈ l2, xk_G p l e (xk_rm K) s m args below meth c Q (0, e2, a2, oq) maxL D A q.1 q.2) → xk_G p l e (xk_rm K) s m args below meth c Q (0, e2, a2, oq) maxL D A pc σ) (hB : ∀ q ∈ B, xk_Rn l D own code maxL (xk_rm K) q.1 q.2.1) (hsl : (K.1.2.1.map xk_cat).sum ≤ maxL) (hhd : xk_hds code T (maxL, isI, (K.2.2.1, K.2.2.2.2.1, K.2.2.2.2.2, K.2.2.2.1), none, sp) B (xk_rt rk K hs) hk K.1.1.1.length K.1.2.2.length maxL f nm hd hd = true) (hex : xk_exj code T (maxL, isI, (K.2.2.1, K.2.2.2.2.1, K.2.2.2.2.2, K.2.2.2.1), none, sp) B (xk_rt rk K hs) hk (xk_jp false K.1.1.1.length K.1.2.2.length maxL hd []) f 0 (K.1.1, xk_args 0 K.1.2.1, [], K.1.2.2, 0, 0) = true) : xk_KM l D y code maxL ret K := by
  refine xk_KM_by hy hyo hsl ?_
  intro p e s m args below meth c env0 ad0 oq ws ls h0 hl0 F hret hlocks hnm hZ ha hc hP hD hlv
  refine xk_W_of F TK GK (X := (maxL, isI, (K.2.2.1, K.2.2.2.2.1, K.2.2.2.2.2, K.2.2.2.1), none, sp)) rfl (fun z => hnm.trans (hI z)) rfl rfl hZ hB (fun pc i σ hd hrt => xk_RT F.1 F.2.1 hret hlocks hrk h0 hl0 (fun _ _ h => h) pc i σ hd hrt) (fun e2 a2 _ _ pc σ l2 h kk => HK p e s m args below meth c _ _ e2 a2 oq F hZ pc σ l2 h kk) h0.1 hl0 hhd hex env0 ad0 s.heap [] ls [] ⟨h0, hlv, trivial, ws, ha, hc, hP, hD, va_S.rf, ⟨fun j n hj => hj, fun j a hj => hj⟩⟩

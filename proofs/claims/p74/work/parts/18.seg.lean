/-- a contract with a premise on the numbers -/
def xk_KMp (l : Launch) (D : va_G) (y : MethodName) (code : ByteArray) (maxL : Nat) (ret : Option FieldType) (K : xk_K) (Φ : List Int → Prop) : Prop := ∀ (env : List Int) (ad : List Nat) (sz : Nat) (oq : xk_O), xk_ok env K.1.1 → Φ env → Met l y (Cond.code y code maxL ret :: xk_tg) (xk_rm K) (xk_Pc D K env ad sz oq) (xk_Qc D K env ad sz oq) K.2.2.2.2.1 K.2.2.2.2.2 (xk_fr ad sz)
def xk_RnP (l : Launch) (D : va_G) (own : String) (cc : ByteArray) (nL : Nat) (R : Room) (pc : Nat) (K : xk_K) (Φ : List Int → Prop) : Prop := ∀ (p : Program) (e : Env) (s : State) (m : MethodId) (args : Array Value) (below : List Frame) (meth : Method) (c : Code) (A : Nat → Prop) (env : List Int) (ad : List Nat) (oq : xk_O) (H : Heap) (locs : List Loc) (kc ks : Nat) (ls : Array Slot) (As rest : List Value), xk_Fx p s m args c D A own cc nL → ls.size = nL → xk_ok env K.1.1 → Φ env → xk_r2 (xk_v (0, [], [], oq) env ad) K.1.2.1 As → xk_wd D s (0, [], [], oq) env ad K.1.2.2 (fun _ => True) H → xk_SUH oq (xk_fr ad H.size) s H → (rest.map fun v => v.category).sum ≤ 8 → kc + K.2.2.2.2.1 ≤ R.cells → ks + K.2.2.2.2.2 ≤ R.slots → va_Run p l e R s m args below meth c H locs kc ks K.2.2.2.2.1 K.2.2.2.2.2 (F0 m pc ls (As.reverse ++ rest)) rest (xk_Qc D K env ad H.size oq As.toArray) (xk_fr ad H.size)
theorem xk_rnSP {l : Launch} {D : va_G} {own : String} {cc : ByteArray} {nL : Nat} {R : Room} {pc idx maxL : Nat} {K : xk_K} {Φ : List Int → Prop} {y : MethodName} {code : ByteArray} {ret : Option FieldType} (hM : xk_KMp l D y code maxL ret K Φ) (hc : Cond.code y code maxL ret ∈ xk_tg) (hst : Cond.static y ∈ xk_tg) (hini : Cond.initialized y.cls ∈ xk_tg) (hl : Cond.methodLink own idx y ∈ xk_tg) (hd : y.cls ≠ "java/lang/invoke/MethodHandle" ∧ y.cls ≠ "java/lang/invoke/VarHandle" ∧ (parseMethodDescriptor y.desc).map (fun d => d.parameters.length) = some K.1.2.1.length) (hR : K.2.2.1 + 1 ≤ R.frames ∧ 8 + (maxL + 11) + K.2.2.2.1 ≤ R.locals) (hdg : decode cc pc = .ok (.invokestatic idx, 3)) : xk_RnP l D own cc nL R pc K Φ := by
  intro p e s m args below meth c A env ad oq H locs kc ks ls As rest F hls hok hΦ hr hw hZ hsum hcells hslots
  obtain ⟨hx, hb, hml, hown, hts, hK, hA⟩ := F
  exact va_runS (Ts := xk_tb) ⟨hx, hb, hml, hown, hts⟩ (hM env ad H.size oq hok hΦ) ⟨callB_of K.1.2.1.length hts (xk_goodG hc) rfl rfl rfl (hts _ (xk_tb_g hini)) (hts _ (xk_tb_g hl)) hd hR, hts _ (xk_tb_g hst)⟩ ⟨xk_blind D K env ad H.size oq, fun U hU hW => xk_preU hr hw hK (xk_NN_of hts) hZ hU hW⟩ rfl (xk_r2_len hr).symm hls rfl (lv_room hsum) hdg ⟨hcells, hslots⟩
theorem xk_rnVNP {l : Launch} {D : va_G} {own host : String} {cc : ByteArray} {nL : Nat} {R : Room} {pc idx maxL : Nat} {K : xk_K} {Φ : List Int → Prop} {y : MethodName} {code : ByteArray} {ret : Option FieldType} {q : Int} {avs : List xk_V} {ci n : Nat} {fs : List xk_V} {I : xk_I} {ov : List (Nat × xk_V)} {C : vw_C} (hM : xk_KMp l D y code maxL ret K Φ) (hav : K.1.2.1 = (2, q) :: avs) (hcell : K.1.2.2[q.toNat]? = some (0, ci, fs, n, I, ov)) (hC : vwCl[ci]? = some C) (hyc : y.cls = C.1) (hc : Cond.code y code maxL ret ∈ xk_tg) (hin : Cond.instanceMethod y ∈ xk_tg) (hsel : Cond.selects C.1 y y ∈ xk_tg) (hini : Cond.initialized y.cls ∈ xk_tg) (hl : Cond.methodLinkNest own idx y host ∈ xk_tb) (hd : y.cls ≠ "java/lang/invoke/MethodHandle" ∧ y.cls ≠ "java/lang/invoke/VarHandle" ∧ (parseMethodDescriptor y.desc).map (fun d => d.parameters.length) = some avs.length) (hR : K.2.2.1 + 1 ≤ R.frames ∧ 8 + (maxL + 11) + K.2.2.2.1 ≤ R.locals) (hdg : decode cc pc = .ok (.invokevirtual idx, 3)) : xk_RnP l D own cc nL R pc K Φ := by
  intro p e s m args below meth c A env ad oq H locs kc ks ls As rest F hls hok hΦ hr hw hZ hsum hcells hslots
  obtain ⟨hx, hb, hml, hown, hts, hK, hA⟩ := F
  have hr0 := hr
  rw [hav] at hr0
  obtain ⟨v, As', rfl, -, hr1⟩ := xk_r2_cons hr0
  obtain ⟨a, rfl, hcl⟩ := xk_recv hK hr0 hw hcell hC
  exact va_runVN (Ts := xk_tb) (C := C.1) (b := a) (As := As') ⟨hx, hb, hml, hown, hts⟩ (hM env ad H.size oq hok hΦ) ⟨va_cnB avs.length hts (xk_goodG hc) rfl rfl rfl (va_Nw.of rfl (hts _ hl)) (hts _ (xk_tb_g hini)) hd hR, hts _ (xk_tb_g hin), hts _ (xk_tb_g hsel)⟩ ⟨xk_blind D K env ad H.size oq, hcl, fun U hU hW => xk_preU hr hw hK (xk_NN_of hts) hZ hU hW⟩ rfl (xk_r2_len hr1).symm hls (by simp) (lv_room hsum) hdg ⟨hcells, hslots⟩
section XSE
variable {p : Program} {l : Launch} {e : Env} {R : Room} {s : State} {m : MethodId} {args : Array Value} {below : List Frame} {meth : Method} {c : Code} {Q : State → Prop} {b : xk_b} {D : va_G} {A : Nat → Prop} {own : String} {cc : ByteArray} {nL : Nat} {pc : Nat} {iv iv' : xk_N} {lo : List (Nat × xk_V)} {st : List xk_V} {hp : List xk_C} {kc ks : Nat}
theorem xk_s_callP (F : xk_Fx p s m args c D A own cc nL) (SU : xk_SUH b.2.2.2 A s s.heap) {K : xk_K} {Φ : List Int → Prop} {mp : List xk_V} {pm : List Nat} {om As rest : List xk_V} (hR : xk_RnP l D own cc nL R pc K Φ) (hΦ : ∀ env : List Int, xk_ok env iv → (∀ (j : Nat) (n : Int), b.2.1[j]? = some n → env[j]? = some n) → Φ (mp.map (xk_num env))) (hf : xk_fitK K mp pm om iv As hp = true) (hsum : (rest.map xk_cat).sum ≤ 8) (hcells : kc + K.2.2.2.2.1 ≤ R.cells) (hslots : ks + K.2.2.2.2.2 ≤ R.slots) (kk : ∀ P ∈ K.2.1, ∀ iv2, xk_afn K mp iv P = some iv2 → xk_G p l e R s m args below meth c Q b nL D A (pc + 3) (xk_aft K mp pm om iv.1.length lo rest hp kc ks P iv2)) : xk_G p l e R s m args below meth c Q b nL D A pc (iv, lo, As.reverse ++ rest, hp, kc, ks) := by
  intro env ad H locs ls sv h
  unfold xk_fitK at hf
  simp only [Bool.and_eq_true, decide_eq_true_eq] at hf
  obtain ⟨⟨⟨⟨⟨f1, f2⟩, f3⟩, fN⟩, f7⟩, fO⟩ := hf
  have f1 := xk_bL_eq (fun _ _ q => xk_bV_eq q) f1
  obtain ⟨h0, ⟨lvs, hl, hlr⟩, hst, ws, a1, a2, hP, hD, hS, hpre⟩ := h
  have hlen1 : env.length = iv.1.length := h0.1
  have hlen2 : hp.length = ad.length := by rw [← a1, List.length_map]; exact xk_r2_len a2
  obtain ⟨hmp, f4, hok⟩ := xk_fitN_ok h0 fN
  have hpmw : ∀ (i p : Nat), pm[i]? = some p → ∃ (ce : xk_C) (w : Nat × va_E), K.1.2.2[i]? = some ce ∧ p < hp.length ∧ ws[p]? = some w ∧ xk_c s b env ad (xk_sc mp pm (some om) ce) w := by
    intro i p hi
    obtain ⟨ce, d, e1, e2, e3⟩ := xk_bP_get f2 hi
    obtain ⟨w, e4, e5⟩ := xk_r2_get p a2 e2
    exact ⟨ce, w, e1, (List.getElem?_eq_some_iff.mp e2).1, e4, xk_cw_ok h0 e3 e5⟩
  have hpm : ∀ p ∈ pm, p < ad.length := by
    intro p hp'
    obtain ⟨i, hi⟩ := List.getElem?_of_mem hp'
    obtain ⟨ce, w, -, e2, -, -⟩ := hpmw i p hi
    rw [← hlen2]
    exact e2
  have hplen : pm.length = K.1.2.2.length := xk_bP_len f2
  have hom : xk_ook b ad (some om) := by
    intro l0 e0 q hq
    cases e0
    have h1 := List.all_eq_true.mp fO q hq
    simp only [Bool.or_eq_true, Bool.and_eq_true] at h1
    rcases h1 with ⟨z1, z2⟩ | ⟨z1, z2⟩
    · exact Or.inl ⟨Nat.eq_of_beq_eq_true z1, by rw [← hlen2]; exact Nat.le_of_ble_eq_true z2⟩
    · exact Or.inr ⟨Nat.eq_of_beq_eq_true z1, xk_oc_ok a2 z2⟩
  obtain ⟨svA, svR, esv, r1, r2⟩ := xk_r2_split hst
  have hAv : xk_r2 (xk_v b env ad) As svA.reverse := by
    have h1 := xk_r2_rev r1
    rwa [List.reverse_reverse] at h1
  have hargs : xk_r2 (xk_v (0, [], [], xk_oq b ad (some om)) (mp.map (xk_num env)) (pm.map (fun p => ad.getD p 0))) K.1.2.1 svA.reverse := by
    rw [← f1] at hAv
    exact xk_r2_mapl (f := xk_sv mp pm (some om)) (fun _ _ q => xk_sv_in q) hAv
  have hwl : ws.length = ad.length := by rw [← a1, List.length_map]
  obtain ⟨wsc, hwsc⟩ : ∃ wsc : va_W, wsc = pm.map (fun p => ws.getD p (0, .inr (0, []))) := ⟨_, rfl⟩
  have hmap : pm.map (fun i => ws[i]?) = wsc.map some := by
    rw [hwsc, List.map_map]
    refine List.map_congr_left fun p hp' => ?_
    have hl2 : p < ws.length := by rw [hwl]; exact hpm p hp'
    show ws[p]? = some (ws.getD p (0, .inr (0, [])))
    rw [List.getD_eq_getElem?_getD, List.getElem?_eq_getElem hl2]
    rfl
  have hfm : pm.filterMap (fun i => ws[i]?) = wsc := by
    have e := congrArg (fun z => z.filterMap id) hmap
    simp only [List.filterMap_map] at e
    rw [show (id ∘ fun i => ws[i]?) = (fun i => ws[i]?) from rfl] at e
    rw [e]
    rw [show (id ∘ (some : Nat × va_E → Option (Nat × va_E))) = some from rfl, List.filterMap_some]
  have hwa : wsc.map Prod.fst = pm.map (fun p => ad.getD p 0) := by
    rw [hwsc, List.map_map]
    refine List.map_congr_left fun p hp' => ?_
    have hl2 : p < ws.length := by rw [hwl]; exact hpm p hp'
    show (ws.getD p (0, .inr (0, []))).1 = ad.getD p 0
    rw [← a1, List.getD_eq_getElem?_getD, List.getD_eq_getElem?_getD, List.getElem?_map, List.getElem?_eq_getElem hl2]
    rfl
  have hwcr : xk_r2 (xk_c s (0, [], [], xk_oq b ad (some om)) (mp.map (xk_num env)) (pm.map (fun p => ad.getD p 0))) K.1.2.2 wsc := by
    refine xk_r2_of (by rw [hwsc, List.length_map]; exact Eq.symm hplen) fun i ce w hce hw' => ?_
    have hi : i < pm.length := by rw [hplen]; exact (List.getElem?_eq_some_iff.mp hce).1
    obtain ⟨ce', w2, c1, c2, c3, c4⟩ := hpmw i pm[i] (List.getElem?_eq_getElem hi)
    rw [c1] at hce
    cases hce
    rw [hwsc, List.getElem?_map, List.getElem?_eq_getElem hi] at hw'
    have hw3 : ws.getD pm[i] (0, .inr (0, [])) = w := Option.some.inj hw'
    rw [List.getD_eq_getElem?_getD, c3] at hw3
    have hw4 : w2 = w := hw3
    subst hw4
    exact xk_c_in (f := xk_sv mp pm (some om)) (Vm.Alike.refl _) (fun _ _ q => xk_sv_in q) c4
  have hsub := hP.sub pm hfm
  have hDs := (hD.sub pm f3 hmap).weaken (B := fun _ => True) (fun _ _ _ _ => trivial)
  have hs8 : (svR.map fun v => v.category).sum ≤ 8 := by rw [xk_catsum r2]; exact hsum
  have hAfr : ∀ q : Nat, xk_fr (pm.map (fun p => ad.getD p 0)) H.size q → A q := by
    intro q hq
    rcases hq with hm | hm
    · obtain ⟨p', hp', ep⟩ := List.mem_map.mp hm
      have hlp : p' < ws.length := by rw [hwl]; exact hpm p' hp'
      have e3 : ws[p']? = some ws[p'] := List.getElem?_eq_getElem hlp
      have e4 : ws[p'].1 = q := by
        rw [← ep, ← a1, List.getD_eq_getElem?_getD, List.getElem?_map, e3]
        rfl
      rw [← e4]
      exact hD.2 p' _ e3
    · exact F.2.2.2.2.2.2 q (Nat.le_trans hS.1 hm)
  have hZ : xk_SUH (xk_oq b ad (some om)) (xk_fr (pm.map (fun p => ad.getD p 0)) H.size) s H := xk_SUH_kept (oq := xk_oq b ad (some om)) SU hS hAfr
  have run := hR p e s m args below meth c A (mp.map (xk_num env)) (pm.map (fun p => ad.getD p 0)) (xk_oq b ad (some om)) H locs kc ks ls svA.reverse svR F hl.1 hok (hΦ env h0 hpre.1) hargs ⟨wsc, hwa, hwcr, hsub, hDs⟩ hZ hs8 hcells hslots
  rw [List.reverse_reverse, ← esv] at run
  intro T hT X
  obtain ⟨v, st₀, t, T', L, e0, X', hL, e1, e2, ⟨⟨P, hPm, e2', a2', rv, er, okP, hres, wsP, b1, b2, hP1, hD1⟩, hz, hk⟩, hgo⟩ := run T hT X
  cases er
  rw [e0] at hz hk
  have hal : s.vm.Alike t.vm := by rw [← e2]; exact X'.warmed.alike
  have hl1 : e2'.length = P.1.1.length - K.1.1.1.length := by
    have h1 := okP.1
    rw [List.length_append, List.length_map, f4] at h1
    omega
  have hl2 : a2'.length = P.2.2.length - K.1.2.2.length := by
    have h1 := xk_r2_len b2
    have h2 := congrArg List.length b1
    rw [List.length_map, List.length_append, List.length_map, hplen] at h2
    omega
  obtain ⟨iv1, er1, ok1⟩ := xk_refs_ok mp P.1.1 h0 hmp (fun i q J hq hJ => by
    have h1 : (mp.map (xk_num env) ++ e2')[i]? = some (xk_num env q) := xk_ga (by rw [List.getElem?_map, hq]; rfl)
    exact okP.2.1 i _ J h1 hJ)
  have oknew0 : xk_ok (env ++ e2') (iv1.1 ++ P.1.1.drop K.1.1.1.length, iv1.2) := by
    refine xk_ok_apps ok1 (by rw [List.length_drop]; exact hl1) (fun i n J hn hJ => ?_)
    rw [List.getElem?_drop] at hJ
    refine okP.2.1 (K.1.1.1.length + i) n J ?_ hJ
    rw [List.getElem?_append_right (by rw [List.length_map, f4]; omega), List.length_map, f4]
    rw [show K.1.1.1.length + i - K.1.1.1.length = i by omega]
    exact hn
  obtain ⟨iv2, er2, oknew⟩ := xk_rels_ok (mp := xk_mp2 mp iv.1.length (P.1.1.length - K.1.1.1.length)) P.1.2 oknew0 (fun r hr a c ea ec => by
    rw [← hl1, ← hlen1] at ea ec
    obtain ⟨x, hx, hnx⟩ := xk_mp2_n hmp ea
    obtain ⟨y, hy, hny⟩ := xk_mp2_n hmp ec
    exact ⟨x, y, hnx, hny, (okP.2.2 r hr).2.2.1 x y hx hy⟩)
  have er3 : xk_afn K mp iv P = some iv2 := by
    unfold xk_afn
    rw [er1]
    exact er2
  have hout : ∀ (av : xk_V) (w : Value), xk_v (0, [], [], xk_oq b ad (some om)) (mp.map (xk_num env) ++ e2') (pm.map (fun p => ad.getD p 0) ++ a2') av w → xk_v b (env ++ e2') (ad ++ a2') (xk_sv (xk_mp2 mp iv.1.length (P.1.1.length - K.1.1.1.length)) (xk_pm2 pm hp.length (P.2.2.length - K.1.2.2.length)) (some om) av) w := by
    intro av w hw
    have h1 := xk_sv_out (b := b) hmp hpm hom hw
    unfold xk_mp2 xk_pm2
    rw [← hl1, ← hl2, ← hlen1, hlen2]
    exact h1
  have hcP : xk_r2 (xk_c s b (env ++ e2') (ad ++ a2')) (P.2.2.map (xk_sc (xk_mp2 mp iv.1.length (P.1.1.length - K.1.1.1.length)) (xk_pm2 pm hp.length (P.2.2.length - K.1.2.2.length)) (some om))) wsP := xk_r2_mapr (f := xk_sc (xk_mp2 mp iv.1.length (P.1.1.length - K.1.1.1.length)) (xk_pm2 pm hp.length (P.2.2.length - K.1.2.2.length)) (some om)) (fun _ _ q => xk_c_out (f := xk_sv (xk_mp2 mp iv.1.length (P.1.1.length - K.1.1.1.length)) (xk_pm2 pm hp.length (P.2.2.length - K.1.2.2.length)) (some om)) hal.symm hout q) b2
  have hold : xk_r2 (xk_c s b (env ++ e2') (ad ++ a2')) hp ws := xk_r2_mono (fun _ _ q => xk_c_map (Vm.Alike.refl _) (fun _ _ z => xk_v_mono e2' a2' z) q) a2
  have hfst : (xk_mix ws pm wsP).map Prod.fst = ad := by
    rw [xk_mix_map, a1, b1]
    exact xk_mix_id ad pm a2' hpm
  have hplP : pm.length ≤ wsP.length := by
    have h2 := congrArg List.length b1
    rw [List.length_map, List.length_append, List.length_map] at h2
    omega
  have hfstd : (wsP.drop pm.length).map Prod.fst = a2' := by
    rw [List.map_drop, b1]
    have h3 : pm.length = (pm.map (fun p => ad.getD p 0)).length := by rw [List.length_map]
    rw [h3, List.drop_left]
  have hapart : ∀ (k : Nat) (q : Nat × va_E), ws[k]? = some q → k ∉ pm → q.1 < H.size ∧ ¬ xk_fr (pm.map (fun p => ad.getD p 0)) H.size q.1 := by
    intro k q hq hkp
    have hlt := (hP k q hq).lt
    refine ⟨hlt, fun hfr => ?_⟩
    rcases hfr with hm | hm
    · obtain ⟨p', hp', ep⟩ := List.mem_map.mp hm
      have hlp : p' < ws.length := by rw [hwl]; exact hpm p' hp'
      have e3 : ws[p']? = some ws[p'] := List.getElem?_eq_getElem hlp
      have e4 : ws[p'].1 = q.1 := by
        rw [← ep, ← a1, List.getD_eq_getElem?_getD, List.getElem?_map, e3]
        rfl
      have e5 := hD.1 p' k _ q e3 hq e4
      subst e5
      exact hkp hp'
    · omega
  have hPn : va_P D vwCl (xk_mix ws pm wsP ++ wsP.drop pm.length) t.heap := by
    refine va_P.app (fun k q hq => ?_) (fun k q hq => ?_)
    · rcases xk_mix_get pm hplP hq with hm | ⟨hm, hkp⟩
      · obtain ⟨i, hi⟩ := List.getElem?_of_mem hm
        exact hP1 i q hi
      · obtain ⟨g1, g2⟩ := hapart k q hm hkp
        exact (hP k q hm).kept (hk q.1 g1 g2)
    · rw [List.getElem?_drop] at hq
      exact hP1 _ q hq
  have hDn : va_D A (xk_mix ws pm wsP ++ wsP.drop pm.length) := by
    refine va_D.app (xk_D_ad hD (by rw [hfst, a1])) ⟨fun i j x y hx hy hxy => ?_, fun k q hq => ?_⟩ (fun i j x y hx hy hxy => ?_)
    · rw [List.getElem?_drop] at hx hy
      have h1 := hD1.1 _ _ x y hx hy hxy
      omega
    · rw [List.getElem?_drop] at hq
      exact hAfr _ (hD1.2 _ q hq)
    · rw [List.getElem?_drop] at hy
      have h1 : ((xk_mix ws pm wsP).map Prod.fst)[i]? = some x.1 := by rw [List.getElem?_map, hx]; rfl
      rw [hfst, ← a1, List.getElem?_map] at h1
      cases hw : ws[i]? with
      | none => rw [hw] at h1; cases h1
      | some w =>
        rw [hw] at h1
        have h2 : w.1 = x.1 := Option.some.inj h1
        have hlt := (hP i w hw).lt
        rcases hD1.2 _ y hy with hm | hm
        · obtain ⟨i2, hi2⟩ := List.getElem?_of_mem hm
          have hi3 : i2 < pm.length := by
            have h5 := (List.getElem?_eq_some_iff.mp hi2).1
            rwa [List.length_map] at h5
          have h6 : (wsP.map Prod.fst)[i2]? = some y.1 := by rw [b1]; exact xk_ga hi2
          rw [List.getElem?_map] at h6
          cases hw2 : wsP[i2]? with
          | none => rw [hw2] at h6; cases h6
          | some w2 =>
            rw [hw2] at h6
            have h7 := hD1.1 i2 _ w2 y hw2 hy (Option.some.inj h6)
            omega
        · omega
  have hSn : va_S A s.heap t.heap (locs ++ L) := ⟨Nat.le_trans hS.1 hz, fun q h1 h2 => by rw [hk q (Nat.lt_of_lt_of_le h1 hS.1) (fun z => h2 (hAfr q z))]; exact hS.2.1 q h1 h2, fun q hq => by
    rcases List.mem_append.mp hq with h9 | h9
    · exact hS.2.2 q h9
    · exact hAfr _ (hL q h9)⟩
  have hstk : xk_r2 (xk_v b (env ++ e2') (ad ++ a2')) (xk_aft K mp pm om iv.1.length lo rest hp kc ks P iv2).2.2.1 (v.toList ++ svR) := by
    have hrest := xk_r2_mono (fun _ _ z => xk_v_mono e2' a2' z) r2
    unfold xk_aft
    unfold xk_res at hres
    cases hpr : P.2.1 with
    | none =>
      rw [hpr] at hres
      have hv : v = none := hres
      subst hv
      exact hrest
    | some av =>
      rw [hpr] at hres
      obtain ⟨w, hv, hw⟩ := hres
      subst hv
      exact ⟨hout av w hw, hrest⟩
  have hin : xk_In b nL s D A (xk_aft K mp pm om iv.1.length lo rest hp kc ks P iv2) (env ++ e2') (ad ++ a2') t.heap (locs ++ L) ls (v.toList ++ svR) := by
    refine ⟨oknew, ⟨lvs, hl, xk_r2_mono (fun _ _ z => ⟨z.1, xk_v_mono e2' a2' z.2⟩) hlr⟩, hstk, xk_mix ws pm wsP ++ wsP.drop pm.length, by rw [List.map_append, hfst, hfstd], ?_, hPn, hDn, hSn, xk_pre_mono hpre⟩
    refine xk_r2_app ?_ (xk_r2_mix pm hold hcP)
    have hd := xk_r2_drop pm.length hcP
    rw [← List.map_drop, hplen] at hd
    rw [hplen]
    exact hd
  obtain ⟨t2, g1, g2⟩ := kk P hPm iv2 er3 _ _ _ _ _ _ hin T' e1 X'
  exact ⟨t2, hgo t2 g1, g2⟩
end XSE
theorem xk_KMp_by {l : Launch} {D : va_G} {own : String} {y : MethodName} {code : ByteArray} {maxL : Nat} {ret : Option FieldType} {K : xk_K} {Φ : List Int → Prop} (hy : plainName y.cls = true) (hyo : y.cls = own) (hsl : (K.1.2.1.map xk_cat).sum ≤ maxL) (body : ∀ (p : Program) (e : Env) (s : State) (m : MethodId) (args : Array Value) (below : List Frame) (meth : Method) (c : Code) (env0 : List Int) (ad0 : List Nat) (oq : xk_O) (ws : va_W) (ls : Array Slot), xk_ok env0 K.1.1 → Φ env0 → ad0.length = K.1.2.2.length → xk_Fx p s m args c D (xk_fr ad0 s.heap.size) own code maxL → meth.sig.returnType = ret → meth.locks = false → meth.name = y.name → xk_SUH oq (xk_fr ad0 s.heap.size) s s.heap → ws.map Prod.fst = ad0 → xk_r2 (xk_c s (0, env0, ad0, oq) env0 ad0) K.1.2.2 ws → va_P D vwCl ws s.heap → va_D (xk_fr ad0 s.heap.size) ws → (∃ lvs, lv_has ls maxL lvs ∧ xk_r2 (fun a q => a.1 = q.1 ∧ xk_v (0, env0, ad0, oq) env0 ad0 a.2 q.2) (xk_args 0 K.1.2.1) lvs) → W p l e (headSpec (Cond.code y code maxL ret :: xk_tg) (xk_rm K)).room s m args below meth c s.heap [] 0 0 (MQ below (xk_Qc D K env0 ad0 s.heap.size oq) args s K.2.2.2.2.1 K.2.2.2.2.2 (xk_fr ad0 s.heap.size)) (F0 m 0 ls [])) : xk_KMp l D y code maxL ret K Φ := by
  intro env0 ad0 sz oq h0 hΦ
  refine Met.ofW (cc := code) (maxL := maxL) (ret := ret) hy rfl ?_
  intro p e s m args below meth c s₁ B0 hml hv
  obtain ⟨hr, hsz, ⟨ws, ha, hc, hP, hD0⟩, hK, hN, hZ⟩ := hv
  subst hsz
  have hb := B0.bytes
  have hts : ∀ w ∈ xk_tb, w.before args s = true := xk_hts (fun w hw => atoms_spec (ws := Cond.code y code maxL ret :: xk_tg) B0.pre w (List.mem_cons_of_mem _ hw)) hN
  have hown : s.vm.findClass own = some m.cls := hyo ▸ findClass_of_methodNamed B0.named
  have hret := B0.returns
  have hlocks := B0.notSynchronized
  have hnm : meth.name = y.name := (name_of_methodNamed B0.named B0.method).1
  have F : xk_Fx p s m args c D (xk_fr ad0 s.heap.size) own code maxL := ⟨B0.exec, hb, hml, hown, hts, hK, fun q hq => Or.inr hq⟩
  have hD : va_D (xk_fr ad0 s.heap.size) ws := hD0.weaken (fun k q hk _ => Or.inl (by rw [← ha]; exact List.mem_map.mpr ⟨q, List.mem_of_getElem? hk, rfl⟩))
  have hl0 : ad0.length = K.1.2.2.length := by rw [← ha, List.length_map]; exact Eq.symm (xk_r2_len hc)
  have hargs : args = (args.toList).toArray := (Array.toArray_toList).symm
  have hv0 : ∀ (av : xk_V) (v : Value), xk_v (0, [], [], oq) env0 ad0 av v → xk_v (0, env0, ad0, oq) env0 ad0 av v := fun av v hv => xk_v_b hv
  have hr' := xk_r2_mono hv0 hr
  have hle : (lg_sl args.toList).length ≤ maxL := by rw [xk_sl_len hr']; exact hsl
  have hl := lv_entry args.toList hle
  have hent : entryFrame m args maxL = F0 m 0 ((lg_sl args.toList ++ List.replicate (maxL - (lg_sl args.toList).length) Slot.unset).toArray) [] := by
    conv => lhs; rw [hargs]
    exact lg_entry_eq m args.toList maxL
  rw [hent]
  exact body p e s m args below meth c env0 ad0 oq ws _ h0 hΦ hl0 F hret hlocks hnm hZ ha (xk_r2_mono (fun _ _ q => xk_c_map (Vm.Alike.refl _) hv0 q) hc) hP hD ⟨_, hl, xk_args_r2 0 hr'⟩
theorem xk_jmx_ok {fl : Bool} {e0 : List Int} {a0 : List Nat} {oq : xk_O} {e1 : List Int} {a1 : List Nat} {nL : Nat} {s : State} {D : va_G} {A : Nat → Prop} {g : xk_H} {ms : List xk_M} {σ : xk_S} {env : List Int} {ad : List Nat} {H : Heap} {locs : List Loc} {ls : Array Slot} {st : List Value} {pm : List Nat} {mp0 : List xk_V} (hpm : xk_lcs (xk_las nL σ.2.1) σ.2.2.2.1 (List.range a0.length) g.2.2.1.2 = some pm) (hj : xk_jm2 fl e0.length g ms σ pm (xk_ids e0.length ++ mp0.map xk_nv) = true) (hp0 : xk_pre (0, e0, a0, oq) env ad) (h : xk_In (0, e1, a1, oq) nL s D A σ env ad H locs ls st) : ∃ ad' : List Nat, xk_In (0, e0, a0, oq) nL s D A g.2.1 ((xk_ids e0.length ++ mp0.map xk_nv).map (xk_num env)) ad' H locs ls st ∧ σ.2.2.2.2.1 ≤ g.2.1.2.2.2.2.1 ∧ σ.2.2.2.2.2 ≤ g.2.1.2.2.2.2.2 := by
  obtain ⟨tl, etl⟩ := xk_lcs_pre _ hpm
  unfold xk_jm2 at hj
  simp only [Bool.and_eq_true] at hj
  obtain ⟨j1, j2, j3, j4, j5, j6, j7, j8⟩ := hj
  obtain ⟨h0, ⟨lvs, hl, hr⟩, hs, ws, ha, hc, hP, hD, hS, hpr⟩ := h
  obtain ⟨hmp, hml, hok⟩ := xk_fitN_ok h0 j1
  obtain ⟨wsc, w1, w2, w3, w4⟩ := xk_cut h0 ha hc hP hD j3 j2
  have hin : ∀ (av : xk_V) (v : Value), xk_v (0, e1, a1, oq) env ad (xk_sv (xk_ids e0.length ++ mp0.map xk_nv) pm none av) v → xk_v (0, e0, a0, oq) ((xk_ids e0.length ++ mp0.map xk_nv).map (xk_num env)) (pm.map (fun p => ad.getD p 0)) av v := fun av v hv => xk_v_b (xk_sv_in hv)
  refine ⟨pm.map (fun p => ad.getD p 0), ⟨hok, ?_, ?_, wsc, w1, ?_, w3, w4, hS, ?_, ?_⟩, Nat.le_of_ble_eq_true j6, Nat.le_of_ble_eq_true j7⟩
  · refine ⟨g.2.1.2.1.map (fun q => (q.1, xk_slv ls q.1)), ⟨hl.1, hl.2.1, fun q hq => ?_⟩, ?_⟩
    · obtain ⟨z, hz, ez⟩ := List.mem_map.mp hq
      have h1 := List.all_eq_true.mp j4 z hz
      split at h1
      · rename_i v hv
        obtain ⟨k, w, e3, e4⟩ := xk_lo_get hr hv
        have e5 := lv_at hl k e3
        rw [← ez]
        have e8 : xk_slv ls z.1 = w := by
          unfold xk_slv
          rw [e5]
        show ls[z.1]? = some (.val (xk_slv ls z.1))
        rw [e5, e8]
      · cases h1
    · refine xk_r2_of (by rw [List.length_map]) (fun i a c hia hic => ?_)
      rw [List.getElem?_map, hia] at hic
      have e6 := Option.some.inj hic
      have h1 := List.all_eq_true.mp j4 a (List.mem_of_getElem? hia)
      split at h1
      · rename_i v hv
        obtain ⟨k, w, e3, e4⟩ := xk_lo_get hr hv
        have e5 := lv_at hl k e3
        rw [← e6]
        refine ⟨rfl, hin _ _ ?_⟩
        rw [xk_bV_eq h1]
        have e8 : xk_slv ls a.1 = w := by
          unfold xk_slv
          rw [e5]
        show xk_v _ _ _ v (xk_slv ls a.1)
        rw [e8]
        exact e4
      · cases h1
  · have e7 := xk_bL_eq (fun _ _ q => xk_bV_eq q) j5
    rw [← e7] at hs
    exact xk_r2_mapl (f := xk_sv _ pm none) (fun _ _ q => hin _ _ q) hs
  · exact xk_r2_mono (fun _ _ q => xk_c_map (Vm.Alike.refl _) (fun _ _ z => xk_v_b z) q) w2
  · intro j n hj
    rw [List.map_append, xk_ids_num hp0.1]
    exact xk_ga hj
  · intro j a hj
    rw [etl, List.map_append, xk_rng_ad hp0.2]
    exact xk_ga hj
def xk_pt : List (Option xk_V) → List xk_V → Bool
  | [], [] => true
  | none :: r, _ :: l => xk_pt r l
  | some v :: r, w :: l => xk_bV v w && xk_pt r l
  | _, _ => false
theorem xk_pt_get : ∀ {ps : List (Option xk_V)} {l : List xk_V} {i : Nat} {v : xk_V}, xk_pt ps l = true → ps[i]? = some (some v) → l[i]? = some v
  | [], _, _, _, _, h => by simp at h
  | none :: r, [], _, _, h, _ => by unfold xk_pt at h; cases h
  | some v :: r, [], _, _, h, _ => by unfold xk_pt at h; cases h
  | none :: r, w :: l, 0, _, _, h => by simp at h
  | none :: r, w :: l, i + 1, _, h, h2 => by
    unfold xk_pt at h
    rw [List.getElem?_cons_succ] at h2 ⊢
    exact xk_pt_get h h2
  | some v :: r, w :: l, 0, _, h, h2 => by
    unfold xk_pt at h
    rw [Bool.and_eq_true] at h
    rw [List.getElem?_cons_zero] at h2 ⊢
    cases h2
    rw [xk_bV_eq h.1]
  | some v :: r, w :: l, i + 1, _, h, h2 => by
    unfold xk_pt at h
    rw [Bool.and_eq_true] at h
    rw [List.getElem?_cons_succ] at h2 ⊢
    exact xk_pt_get h.2 h2
/-- a cut: a head, and which of its own numbers stand for which -/
abbrev xk_Cu : Type := xk_H × List (Option xk_V)
def xk_jq1 (n0 c0 nL : Nat) (g : xk_Cu) (σ : xk_S) : Bool :=
  match xk_lcs (xk_las nL σ.2.1) σ.2.2.2.1 (List.range c0) g.1.2.2.1.2 with
  | none => false
  | some pm => match xk_lns (xk_las nL σ.2.1) σ.2.2.2.1 pm g.1.2.2.1.1 with
    | none => false
    | some mp0 => xk_pt g.2 (mp0.map xk_nv) && xk_jm2 false n0 g.1 [] σ pm (xk_ids n0 ++ mp0.map xk_nv)
def xk_jq (n0 c0 nL : Nat) (gs : List xk_Cu) (pc : Nat) (σ : xk_S) : Option Bool := if gs.any (fun g => Nat.beq g.1.1 pc) then some (gs.any (fun g => Nat.beq g.1.1 pc && xk_jq1 n0 c0 nL g σ)) else none
section XS
variable {p : Program} {l : Launch} {e : Env} {R : Room} {s : State} {m : MethodId} {args : Array Value} {below : List Frame} {meth : Method} {c : Code} {Q : State → Prop} {D : va_G} {A : Nat → Prop} {own : String} {code : ByteArray} {maxL : Nat} {oq : xk_O}
theorem xk_num_pre {e1 env : List Int} {av : xk_V} (h : ∀ (j : Nat) (n : Int), e1[j]? = some n → env[j]? = some n) (hv : av.1 = 5 ∨ av.2.toNat < e1.length) : xk_num env av = xk_num e1 av := by
  unfold xk_num
  split
  · rfl
  · rename_i h5
    have h6 := hv.resolve_left h5
    rw [List.getD_eq_getElem?_getD, List.getD_eq_getElem?_getD, h _ _ (List.getElem?_eq_getElem h6), List.getElem?_eq_getElem h6]
/-- more numbers, all of them kept from now on -/
theorem xk_reb {e0 : List Int} {a0 : List Nat} {iv iv' : xk_N} {lo : List (Nat × xk_V)} {st : List xk_V} {hp : List xk_C} {kc ks : Nat} {env : List Int} {ad : List Nat} {H : Heap} {locs : List Loc} {ls : Array Slot} {sv : List Value} (h : xk_In (0, e0, a0, oq) maxL s D A (iv, lo, st, hp, kc, ks) env ad H locs ls sv) (e2 : List Int) (h2 : xk_ok (env ++ e2) iv') : xk_In (0, env ++ e2, ad, oq) maxL s D A (iv', lo, st, hp, kc, ks) (env ++ e2) ad H locs ls sv := xk_In_b ⟨fun _ _ q => q, fun _ _ q => q⟩ (xk_grow e2 h h2)
theorem xk_jq1_ok {e0 : List Int} {a0 : List Nat} {e1 : List Int} {a1 : List Nat} {g : xk_Cu} {σ : xk_S} {env : List Int} {ad : List Nat} {H : Heap} {locs : List Loc} {ls : Array Slot} {st : List Value} (he : ∀ (j : Nat) (n : Int), e0[j]? = some n → e1[j]? = some n) (ha : ∀ (j a : Nat), a0[j]? = some a → a1[j]? = some a) (hg : ∀ v, some v ∈ g.2 → v.1 = 5 ∨ v.2.toNat < e1.length) (hj : xk_jq1 e0.length a0.length maxL g σ = true) (h : xk_In (0, e1, a1, oq) maxL s D A σ env ad H locs ls st) : ∃ (env' : List Int) (ad' : List Nat), xk_In (0, e0, a0, oq) maxL s D A g.1.2.1 env' ad' H locs ls st ∧ (∀ (i : Nat) (v : xk_V), g.2[i]? = some (some v) → env'[e0.length + i]? = some (xk_num e1 v)) ∧ σ.2.2.2.2.1 ≤ g.1.2.1.2.2.2.2.1 ∧ σ.2.2.2.2.2 ≤ g.1.2.1.2.2.2.2.2 := by
  have hp1 : xk_pre (0, e1, a1, oq) env ad := h.2.2.2.choose_spec.2.2.2.2.2
  have hp0 : xk_pre (0, e0, a0, oq) env ad := ⟨fun j n hj => hp1.1 j n (he j n hj), fun j a hj => hp1.2 j a (ha j a hj)⟩
  unfold xk_jq1 at hj
  split at hj
  · cases hj
  · rename_i pm hpm
    split at hj
    · cases hj
    · rename_i mp0 hmp0
      rw [Bool.and_eq_true] at hj
      obtain ⟨ad', h1, h2, h3⟩ := xk_jmx_ok hpm hj.2 hp0 h
      refine ⟨_, ad', h1, fun i v hi => ?_, h2, h3⟩
      have h4 := xk_pt_get hj.1 hi
      have hlen : ((xk_ids e0.length).map (xk_num env)).length = e0.length := by rw [xk_ids_num hp0.1]
      rw [List.map_append, List.getElem?_append_right (by rw [hlen]; omega), hlen, Nat.add_sub_cancel_left, List.getElem?_map, h4]
      show some (xk_num env v) = _
      rw [xk_num_pre hp1.1 (hg v (List.mem_of_getElem? hi))]
/-- a piece of a method's run, up to cuts, hands and ends -/
theorem xk_seg {T : xk_T} {B : xk_B} {hk : xk_Hk} {f : Nat} {rt : Instr → xk_S → Bool} {X : xk_X} {e0 e1 : List Int} {a0 a1 : List Nat} {gs : List xk_Cu} (F : xk_Fx p s m args c D A own code maxL) (TK : xk_TOK own T) (GK : xk_GOK) (hX : X.1 = maxL) (hI : X.2.1 = true → meth.name = "<init>") (hRm : X.2.2.1 = (R.frames, R.cells, R.slots, R.locals)) (SC : X.2.2.2.1 = none) (SU : xk_SUH oq A s s.heap) (hB : ∀ q ∈ B, xk_Rn l D own code maxL R q.1 q.2.1) (he : ∀ (j : Nat) (n : Int), e0[j]? = some n → e1[j]? = some n) (ha : ∀ (j a : Nat), a0[j]? = some a → a1[j]? = some a) (RT : ∀ (pc : Nat) (i : Instr) (σ : xk_S), decode code pc = .ok (i, 1) → rt i σ = true → xk_G p l e R s m args below meth c Q (0, e1, a1, oq) maxL D A pc σ) (HK : ∀ (pc : Nat) (σ : xk_S) (l2 : List (Nat × xk_S)), hk pc σ = some l2 → (∀ q ∈ l2, xk_G p l e R s m args below meth c Q (0, e1, a1, oq) maxL D A q.1 q.2) → xk_G p l e R s m args below meth c Q (0, e1, a1, oq) maxL D A pc σ) {n0 c0 n1 : Nat} (hn0 : e0.length = n0) (hc0 : a0.length = c0) (hn1 : e1.length = n1) (hgs : gs.all (fun g => g.2.all (fun v => match v with
    | none => true
    | some v => Nat.beq v.1 5 || Nat.blt v.2.toNat n1)) = true) (hcut : ∀ g ∈ gs, ∀ (env : List Int) (ad : List Nat) (H : Heap) (locs : List Loc) (ls : Array Slot) (st : List Value), xk_In (0, e0, a0, oq) maxL s D A g.1.2.1 env ad H locs ls st → (∀ (i : Nat) (v : xk_V), g.2[i]? = some (some v) → env[e0.length + i]? = some (xk_num e1 v)) → W p l e R s m args below meth c H locs g.1.2.1.2.2.2.2.1 g.1.2.1.2.2.2.2.2 Q (F0 m g.1.1 ls st)) {pc : Nat} {σ : xk_S} (hex : xk_exj code T X B rt hk (xk_jq n0 c0 maxL gs) f pc σ = true) : xk_G p l e R s m args below meth c Q (0, e1, a1, oq) maxL D A pc σ := by
  subst hn0
  subst hc0
  subst hn1
  have JP : ∀ (pc : Nat) (σ : xk_S), xk_jq e0.length a0.length maxL gs pc σ = some true → xk_G p l e R s m args below meth c Q (0, e1, a1, oq) maxL D A pc σ := by
    intro pc σ hj env2 ad2 H2 locs2 ls2 st2 hI2
    unfold xk_jq at hj
    split at hj
    · have hj2 := Option.some.inj hj
      obtain ⟨g, hg, hj3⟩ := List.any_eq_true.mp hj2
      rw [Bool.and_eq_true] at hj3
      have epc : g.1.1 = pc := Nat.eq_of_beq_eq_true hj3.1
      have hgg : ∀ v, some v ∈ g.2 → v.1 = 5 ∨ v.2.toNat < e1.length := by
        intro v hv
        have h1 := List.all_eq_true.mp (List.all_eq_true.mp hgs g hg) _ hv
        dsimp only at h1
        rw [Bool.or_eq_true] at h1
        rcases h1 with h1 | h1
        · exact Or.inl (Nat.eq_of_beq_eq_true h1)
        · exact Or.inr (Nat.le_of_ble_eq_true h1)
      obtain ⟨env3, ad3, hI3, hnum, hk1, hk2⟩ := xk_jq1_ok he ha hgg hj3.2 hI2
      have hw := hcut g hg env3 ad3 H2 locs2 ls2 st2 hI3 hnum
      rw [epc] at hw
      exact W.widen hk1 hk2 hw
    · cases hj
  exact xk_exj_ok F TK GK hX hI hRm (fun L hL => by rw [SC] at hL; cases hL) SU hB RT HK JP f pc σ hex
/-- the end of a contract, told from a later place -/
theorem xk_RTl {rk : Nat} {ret : Option FieldType} {K : xk_K} {hs : List (Nat × List xk_Lo)} {env0 : List Int} {ad0 : List Nat} {e1 : List Int} {a1 : List Nat} (hexec : p.tables.exec = Jvm.exec) (hb : c.code = code) (hret : meth.sig.returnType = ret) (hlocks : meth.locks = false) (hrk : xk_rok rk ret) (h0 : xk_ok env0 K.1.1) (hl0 : ad0.length = K.1.2.2.length) (he : ∀ (j : Nat) (n : Int), env0[j]? = some n → e1[j]? = some n) (ha : ∀ (j a : Nat), ad0[j]? = some a → a1[j]? = some a) (pc : Nat) (i : Instr) (σ : xk_S) (hd : decode code pc = .ok (i, 1)) (hrt : xk_rt rk K hs i σ = true) : xk_G p l e R s m args below meth c (MQ below (xk_Qc D K env0 ad0 s.heap.size oq) args s K.2.2.2.2.1 K.2.2.2.2.2 (xk_fr ad0 s.heap.size)) (0, e1, a1, oq) maxL D (xk_fr ad0 s.heap.size) pc σ := by
  intro env ad H locs ls sv hIn
  have hp1 : xk_pre (0, e1, a1, oq) env ad := hIn.2.2.2.choose_spec.2.2.2.2.2
  exact xk_RT hexec hb hret hlocks hrk h0 hl0 he pc i σ hd hrt env ad H locs ls sv (xk_In_b ⟨hp1.1, fun j a hj => hp1.2 j a (ha j a hj)⟩ hIn)
end XS
/-- the end of a contract that changes no cell -/
theorem xk_Qsame {D : va_G} {K : xk_K} {env0 e2 : List Int} {ad0 : List Nat} {oq : xk_O} {s t : State} {ws : va_W} {args : Array Value} {rv : Option Value} {P : xk_P} {locs : List Loc} (hP : P ∈ K.2.1) (hc2 : P.2.2 = K.1.2.2) (ho : xk_ok (env0 ++ e2) P.1) (hr : xk_res oq (env0 ++ e2) ad0 P.2.1 rv) (ha : ws.map Prod.fst = ad0) (hc : xk_r2 (xk_c s (0, env0, ad0, oq) env0 ad0) K.1.2.2 ws) (hPw : va_P D vwCl ws s.heap) (hD : va_D (xk_fr ad0 s.heap.size) ws) (hS : va_S (xk_fr ad0 s.heap.size) s.heap s.heap locs) (ht : t.heap = s.heap) (hW : s.WarmedH t.vm) : xk_Qc D K env0 ad0 s.heap.size oq args s (.returned rv) t := by
  refine ⟨⟨P, hP, e2, [], rv, rfl, ho, by rw [List.append_nil]; exact hr, ws, by rw [List.append_nil]; exact ha, ?_, by rw [ht]; exact hPw, hD⟩, hS.F ht⟩
  rw [hc2, List.append_nil]
  exact xk_r2_mono (fun _ _ q => xk_c_map hW.alike (fun _ _ z => xk_v_e e2 (xk_v_b z)) q) hc

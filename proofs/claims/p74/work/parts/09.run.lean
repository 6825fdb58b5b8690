abbrev xk_P : Type := xk_N × Option xk_V × List xk_C
/-- what a method is told by: (bounds, arguments, cells) ahead; what may come behind; (frames, words, cells, slots) -/
abbrev xk_K : Type := (xk_N × List xk_V × List xk_C) × List xk_P × (Nat × Nat × Nat × Nat)
def xk_rm (K : xk_K) : Room := { frames := K.2.2.1, cells := K.2.2.2.2.1, slots := K.2.2.2.2.2, locals := K.2.2.2.1 }
def xk_fr (ad : List Nat) (sz : Nat) : Nat → Prop := fun q => q ∈ ad ∨ sz ≤ q
def xk_wd (D : va_G) (U : State) (b : xk_b) (env : List Int) (ad : List Nat) (hp : List xk_C) (B : Nat → Prop) (H : Heap) : Prop := ∃ ws : va_W, ws.map Prod.fst = ad ∧ xk_r2 (xk_c U b env ad) hp ws ∧ va_P D vwCl ws H ∧ va_D B ws
def xk_res (oq : xk_O) (env : List Int) (ad : List Nat) (r : Option xk_V) (rv : Option Value) : Prop := match r with
  | none => rv = none
  | some av => ∃ v, rv = some v ∧ xk_v (0, [], [], oq) env ad av v
def xk_Pc (D : va_G) (K : xk_K) (env : List Int) (ad : List Nat) (sz : Nat) (oq : xk_O) : Array Value → State → Prop := fun v U => xk_r2 (xk_v (0, [], [], oq) env ad) K.1.2.1 v.toList ∧ U.heap.size = sz ∧ xk_wd D U (0, [], [], oq) env ad K.1.2.2 (fun _ => True) U.heap ∧ va_K D vwCl [] U ∧ xk_NN U ∧ xk_SUH oq (xk_fr ad sz) U U.heap
def xk_Qc (D : va_G) (K : xk_K) (env : List Int) (ad : List Nat) (sz : Nat) (oq : xk_O) : Array Value → State → Outcome → State → Prop := fun _ st oc t => (∃ P ∈ K.2.1, ∃ (e2 : List Int) (a2 : List Nat) (rv : Option Value), oc = .returned rv ∧ xk_ok (env ++ e2) P.1 ∧ xk_res oq (env ++ e2) (ad ++ a2) P.2.1 rv ∧ xk_wd D t (0, [], [], oq) (env ++ e2) (ad ++ a2) P.2.2 (xk_fr ad sz) t.heap) ∧ va_F (xk_fr ad sz) st t
def xk_KM (l : Launch) (D : va_G) (y : MethodName) (code : ByteArray) (maxL : Nat) (ret : Option FieldType) (K : xk_K) : Prop := ∀ (env : List Int) (ad : List Nat) (sz : Nat) (oq : xk_O), xk_ok env K.1.1 → Met l y (Cond.code y code maxL ret :: xk_tg) (xk_rm K) (xk_Pc D K env ad sz oq) (xk_Qc D K env ad sz oq) K.2.2.2.2.1 K.2.2.2.2.2 (xk_fr ad sz)
/-- a call at pc comes back as told -/
def xk_Rn (l : Launch) (D : va_G) (own : String) (cc : ByteArray) (nL : Nat) (R : Room) (pc : Nat) (K : xk_K) : Prop := ∀ (p : Program) (e : Env) (s : State) (m : MethodId) (args : Array Value) (below : List Frame) (meth : Method) (c : Code) (A : Nat → Prop) (env : List Int) (ad : List Nat) (oq : xk_O) (H : Heap) (locs : List Loc) (kc ks : Nat) (ls : Array Slot) (As rest : List Value), xk_Fx p s m args c D A own cc nL → ls.size = nL → xk_ok env K.1.1 → xk_r2 (xk_v (0, [], [], oq) env ad) K.1.2.1 As → xk_wd D s (0, [], [], oq) env ad K.1.2.2 (fun _ => True) H → xk_SUH oq (xk_fr ad H.size) s H → (rest.map fun v => v.category).sum ≤ 8 → kc + K.2.2.2.2.1 ≤ R.cells → ks + K.2.2.2.2.2 ≤ R.slots → va_Run p l e R s m args below meth c H locs kc ks K.2.2.2.2.1 K.2.2.2.2.2 (F0 m pc ls (As.reverse ++ rest)) rest (xk_Qc D K env ad H.size oq As.toArray) (xk_fr ad H.size)
theorem xk_NN_of {s : State} {args : Array Value} (hts : ∀ w ∈ xk_tb, w.before args s = true) : xk_NN s := by
  intro w hw hn
  have h := hts w (List.mem_filter.mpr ⟨hw, by rw [hn, Bool.or_true]⟩)
  unfold xk_nest at hn
  split at hn
  · exact va_Nw.of rfl h
  · exact va_Nw.of rfl h
  · exact va_AO.of h
  · cases hn
theorem xk_wd_moved {D : va_G} {u U : State} {b : xk_b} {env : List Int} {ad : List Nat} {hp : List xk_C} {B : Nat → Prop} {H : Heap} (hvm : u.vm.Alike U.vm) (h : xk_wd D u b env ad hp B H) : xk_wd D U b env ad hp B H := by
  obtain ⟨ws, h1, h2, h3, h4⟩ := h
  exact ⟨ws, h1, xk_r2_mono (fun _ _ q => xk_c_map hvm (fun _ _ z => z) q) h2, h3, h4⟩
theorem xk_NN_same {u U : State} (he : u.vm = U.vm) (hvm : u.vm.Alike U.vm) (h : xk_NN u) : xk_NN U := by
  intro w hw hn
  have h2 := h w hw hn
  unfold xk_nest at hn
  split at hn
  · exact va_Nw.same rfl he h2
  · exact va_Nw.same rfl he h2
  · exact va_AO.moved hvm h2
  · cases hn
theorem xk_blind (D : va_G) (K : xk_K) (env : List Int) (ad : List Nat) (sz : Nat) (oq : xk_O) : FrameBlind (xk_Pc D K env ad sz oq) := by
  intro a U g mk h
  obtain ⟨h1, h2, h3, h4, h5, h6⟩ := h
  have hvm : U.vm.Alike (U.calling g mk a).vm := Vm.Alike.refl U.vm
  exact ⟨h1, h2, xk_wd_moved hvm h3, va_K.moved hvm h4, xk_NN_same (u := U) (U := U.calling g mk a) rfl hvm h5, xk_SUH_same (u := U) (U := U.calling g mk a) rfl hvm h6⟩
theorem xk_preU {D : va_G} {K : xk_K} {env : List Int} {ad : List Nat} {oq : xk_O} {H : Heap} {s U : State} {As : List Value} (hr : xk_r2 (xk_v (0, [], [], oq) env ad) K.1.2.1 As) (hw : xk_wd D s (0, [], [], oq) env ad K.1.2.2 (fun _ => True) H) (hK : va_K D vwCl [] s) (hN : xk_NN s) (hZ : xk_SUH oq (xk_fr ad H.size) s H) (hU : U.heap = H) (hW : s.WarmedH U.vm) : xk_Pc D K env ad H.size oq As.toArray U := by
  refine ⟨by rw [List.toList_toArray]; exact hr, by rw [hU], ?_, va_K.moved hW.alike hK, xk_NN_warm hW hN, ?_⟩
  · rw [hU]
    exact xk_wd_moved hW.alike hw
  · rw [hU]
    exact xk_SUH_warm hW hZ
theorem xk_goodG {y : MethodName} {code : ByteArray} {maxL : Nat} {ret : Option FieldType} (hc : Cond.code y code maxL ret ∈ xk_tg) : GoodIn xk_tb (Cond.code y code maxL ret :: xk_tg) := by
  intro w hw
  have h1 : w ∈ xk_tg := by
    rcases List.mem_cons.mp hw with rfl | h
    · exact hc
    · exact h
  exact ⟨xk_tb_g h1, good_of_word (List.mem_filter.mp h1).2⟩
/-- static, the class's own or another's -/
theorem xk_rnS {l : Launch} {D : va_G} {own : String} {cc : ByteArray} {nL : Nat} {R : Room} {pc idx maxL : Nat} {K : xk_K} {y : MethodName} {code : ByteArray} {ret : Option FieldType} (hM : xk_KM l D y code maxL ret K) (hc : Cond.code y code maxL ret ∈ xk_tg) (hst : Cond.static y ∈ xk_tg) (hini : Cond.initialized y.cls ∈ xk_tg) (hl : Cond.methodLink own idx y ∈ xk_tg) (hd : y.cls ≠ "java/lang/invoke/MethodHandle" ∧ y.cls ≠ "java/lang/invoke/VarHandle" ∧ (parseMethodDescriptor y.desc).map (fun d => d.parameters.length) = some K.1.2.1.length) (hR : K.2.2.1 + 1 ≤ R.frames ∧ 8 + (maxL + 11) + K.2.2.2.1 ≤ R.locals) (hdg : decode cc pc = .ok (.invokestatic idx, 3)) : xk_Rn l D own cc nL R pc K := by
  intro p e s m args below meth c A env ad oq H locs kc ks ls As rest F hls hok hr hw hZ hsum hcells hslots
  obtain ⟨hx, hb, hml, hown, hts, hK, hA⟩ := F
  exact va_runS (Ts := xk_tb) ⟨hx, hb, hml, hown, hts⟩ (hM env ad H.size oq hok) ⟨callB_of K.1.2.1.length hts (xk_goodG hc) rfl rfl rfl (hts _ (xk_tb_g hini)) (hts _ (xk_tb_g hl)) hd hR, hts _ (xk_tb_g hst)⟩ ⟨xk_blind D K env ad H.size oq, fun U hU hW => xk_preU hr hw hK (xk_NN_of hts) hZ hU hW⟩ rfl (xk_r2_len hr).symm hls rfl (lv_room hsum) hdg ⟨hcells, hslots⟩
theorem xk_rnSN {l : Launch} {D : va_G} {own host : String} {cc : ByteArray} {nL : Nat} {R : Room} {pc idx maxL : Nat} {K : xk_K} {y : MethodName} {code : ByteArray} {ret : Option FieldType} (hM : xk_KM l D y code maxL ret K) (hc : Cond.code y code maxL ret ∈ xk_tg) (hst : Cond.static y ∈ xk_tg) (hini : Cond.initialized y.cls ∈ xk_tg) (hl : Cond.methodLinkNest own idx y host ∈ xk_tb) (hd : y.cls ≠ "java/lang/invoke/MethodHandle" ∧ y.cls ≠ "java/lang/invoke/VarHandle" ∧ (parseMethodDescriptor y.desc).map (fun d => d.parameters.length) = some K.1.2.1.length) (hR : K.2.2.1 + 1 ≤ R.frames ∧ 8 + (maxL + 11) + K.2.2.2.1 ≤ R.locals) (hdg : decode cc pc = .ok (.invokestatic idx, 3)) : xk_Rn l D own cc nL R pc K := by
  intro p e s m args below meth c A env ad oq H locs kc ks ls As rest F hls hok hr hw hZ hsum hcells hslots
  obtain ⟨hx, hb, hml, hown, hts, hK, hA⟩ := F
  exact va_runSN (Ts := xk_tb) ⟨hx, hb, hml, hown, hts⟩ (hM env ad H.size oq hok) ⟨va_cnB K.1.2.1.length hts (xk_goodG hc) rfl rfl rfl (va_Nw.of rfl (hts _ hl)) (hts _ (xk_tb_g hini)) hd hR, hts _ (xk_tb_g hst), trivial⟩ ⟨xk_blind D K env ad H.size oq, fun U hU hW => xk_preU hr hw hK (xk_NN_of hts) hZ hU hW⟩ rfl (xk_r2_len hr).symm hls rfl (lv_room hsum) hdg ⟨hcells, hslots⟩
/-- the receiver: the first argument, a cell of the class -/
theorem xk_recv {D : va_G} {s : State} {H : Heap} {env : List Int} {ad : List Nat} {oq : xk_O} {hp : List xk_C} {avs : List xk_V} {q : Int} {v : Value} {vs : List Value} {ci n : Nat} {fs : List xk_V} {I : xk_I} {ov : List (Nat × xk_V)} {C : vw_C} (hK : va_K D vwCl [] s) (hr : xk_r2 (xk_v (0, [], [], oq) env ad) ((2, q) :: avs) (v :: vs)) (hw : xk_wd D s (0, [], [], oq) env ad hp (fun _ => True) H) (hc : hp[q.toNat]? = some (0, ci, fs, n, I, ov)) (hC : vwCl[ci]? = some C) : ∃ a : Nat, v = .ref a ∧ ∃ cell : Cell, H[a]? = some cell ∧ cell.vm.isStatics = false ∧ s.vm.findClass C.1 = some cell.cls := by
  obtain ⟨⟨a, rfl, ha⟩, -⟩ := hr
  obtain ⟨ws, h1, h2, h3, h4⟩ := hw
  obtain ⟨w, hw2, vs2, he, hf⟩ := xk_r2_get q.toNat h2 hc
  have h6 : w.1 = a := by
    rw [← h1, List.getElem?_map, hw2] at ha
    exact Option.some.inj ha
  obtain ⟨a', e⟩ := w
  have h7 : a' = a := h6
  subst h7
  cases he
  exact ⟨a', rfl, va_recv hK h3 hC hw2⟩
theorem xk_rnV {l : Launch} {D : va_G} {own : String} {cc : ByteArray} {nL : Nat} {R : Room} {pc idx maxL : Nat} {K : xk_K} {y : MethodName} {code : ByteArray} {ret : Option FieldType} {q : Int} {avs : List xk_V} {ci n : Nat} {fs : List xk_V} {I : xk_I} {ov : List (Nat × xk_V)} {C : vw_C} (hM : xk_KM l D y code maxL ret K) (hav : K.1.2.1 = (2, q) :: avs) (hcell : K.1.2.2[q.toNat]? = some (0, ci, fs, n, I, ov)) (hC : vwCl[ci]? = some C) (hyc : y.cls = C.1) (hc : Cond.code y code maxL ret ∈ xk_tg) (hin : Cond.instanceMethod y ∈ xk_tg) (hsel : Cond.selects C.1 y y ∈ xk_tg) (hini : Cond.initialized y.cls ∈ xk_tg) (hl : Cond.methodLink own idx y ∈ xk_tg) (hd : y.cls ≠ "java/lang/invoke/MethodHandle" ∧ y.cls ≠ "java/lang/invoke/VarHandle" ∧ (parseMethodDescriptor y.desc).map (fun d => d.parameters.length) = some avs.length) (hR : K.2.2.1 + 1 ≤ R.frames ∧ 8 + (maxL + 11) + K.2.2.2.1 ≤ R.locals) (hdg : decode cc pc = .ok (.invokevirtual idx, 3)) : xk_Rn l D own cc nL R pc K := by
  intro p e s m args below meth c A env ad oq H locs kc ks ls As rest F hls hok hr hw hZ hsum hcells hslots
  obtain ⟨hx, hb, hml, hown, hts, hK, hA⟩ := F
  have hr0 := hr
  rw [hav] at hr0
  obtain ⟨v, As', rfl, -, hr1⟩ := xk_r2_cons hr0
  obtain ⟨a, rfl, hcl⟩ := xk_recv hK hr0 hw hcell hC
  exact va_runV (Ts := xk_tb) (C := C.1) (b := a) (As := As') ⟨hx, hb, hml, hown, hts⟩ (hM env ad H.size oq hok) ⟨callB_of avs.length hts (xk_goodG hc) rfl rfl rfl (hts _ (xk_tb_g hini)) (hts _ (xk_tb_g hl)) hd hR, hts _ (xk_tb_g hin), hts _ (xk_tb_g hsel)⟩ ⟨xk_blind D K env ad H.size oq, hcl, fun U hU hW => xk_preU hr hw hK (xk_NN_of hts) hZ hU hW⟩ rfl (xk_r2_len hr1).symm hls (by simp) (lv_room hsum) hdg ⟨hcells, hslots⟩
theorem xk_rnVT {l : Launch} {D : va_G} {own : String} {cc : ByteArray} {nL : Nat} {R : Room} {pc idx maxL : Nat} {K : xk_K} {y : MethodName} {code : ByteArray} {ret : Option FieldType} {q : Int} {avs : List xk_V} (hM : xk_KM l D y code maxL ret K) (hav : K.1.2.1 = (8, q) :: avs) (hq : q.toNat < 16) (hyc : y.cls = "java/lang/String") (hc : Cond.code y code maxL ret ∈ xk_tg) (hin : Cond.instanceMethod y ∈ xk_tg) (hsel : Cond.selects "java/lang/String" y y ∈ xk_tg) (hini : Cond.initialized y.cls ∈ xk_tg) (hl : Cond.methodLink own idx y ∈ xk_tg) (hd : y.cls ≠ "java/lang/invoke/MethodHandle" ∧ y.cls ≠ "java/lang/invoke/VarHandle" ∧ (parseMethodDescriptor y.desc).map (fun d => d.parameters.length) = some avs.length) (hR : K.2.2.1 + 1 ≤ R.frames ∧ 8 + (maxL + 11) + K.2.2.2.1 ≤ R.locals) (hdg : decode cc pc = .ok (.invokevirtual idx, 3)) : xk_Rn l D own cc nL R pc K := by
  intro p e s m args below meth c A env ad oq H locs kc ks ls As rest F hls hok hr hw hZ hsum hcells hslots
  obtain ⟨hx, hb, hml, hown, hts, hK, hA⟩ := F
  have hr0 := hr
  rw [hav] at hr0
  obtain ⟨v, As', rfl, hv, hr1⟩ := xk_r2_cons hr0
  have hv : v = .ref (xk_tx oq.2 q.toNat) := (show v = xk_tv oq.2 q.toNat from hv).trans (xk_tv_of (by omega))
  subst hv
  have hcl : ∃ cell : Cell, H[xk_tx oq.2 q.toNat]? = some cell ∧ cell.vm.isStatics = false ∧ s.vm.findClass "java/lang/String" = some cell.cls := by
    unfold xk_tx
    rw [if_pos hq]
    obtain ⟨cell, g1, g2, g3, -⟩ := (hZ.1.1 q.toNat hq).1
    exact ⟨cell, g1, g2, g3⟩
  exact va_runV (Ts := xk_tb) (C := "java/lang/String") (b := xk_tx oq.2 q.toNat) (As := As') ⟨hx, hb, hml, hown, hts⟩ (hM env ad H.size oq hok) ⟨callB_of avs.length hts (xk_goodG hc) rfl rfl rfl (hts _ (xk_tb_g hini)) (hts _ (xk_tb_g hl)) hd hR, hts _ (xk_tb_g hin), hts _ (xk_tb_g hsel)⟩ ⟨xk_blind D K env ad H.size oq, hcl, fun U hU hW => xk_preU hr hw hK (xk_NN_of hts) hZ hU hW⟩ rfl (xk_r2_len hr1).symm hls (by simp) (lv_room hsum) hdg ⟨hcells, hslots⟩
theorem xk_rnVN {l : Launch} {D : va_G} {own host : String} {cc : ByteArray} {nL : Nat} {R : Room} {pc idx maxL : Nat} {K : xk_K} {y : MethodName} {code : ByteArray} {ret : Option FieldType} {q : Int} {avs : List xk_V} {ci n : Nat} {fs : List xk_V} {I : xk_I} {ov : List (Nat × xk_V)} {C : vw_C} (hM : xk_KM l D y code maxL ret K) (hav : K.1.2.1 = (2, q) :: avs) (hcell : K.1.2.2[q.toNat]? = some (0, ci, fs, n, I, ov)) (hC : vwCl[ci]? = some C) (hyc : y.cls = C.1) (hc : Cond.code y code maxL ret ∈ xk_tg) (hin : Cond.instanceMethod y ∈ xk_tg) (hsel : Cond.selects C.1 y y ∈ xk_tg) (hini : Cond.initialized y.cls ∈ xk_tg) (hl : Cond.methodLinkNest own idx y host ∈ xk_tb) (hd : y.cls ≠ "java/lang/invoke/MethodHandle" ∧ y.cls ≠ "java/lang/invoke/VarHandle" ∧ (parseMethodDescriptor y.desc).map (fun d => d.parameters.length) = some avs.length) (hR : K.2.2.1 + 1 ≤ R.frames ∧ 8 + (maxL + 11) + K.2.2.2.1 ≤ R.locals) (hdg : decode cc pc = .ok (.invokevirtual idx, 3)) : xk_Rn l D own cc nL R pc K := by
  intro p e s m args below meth c A env ad oq H locs kc ks ls As rest F hls hok hr hw hZ hsum hcells hslots
  obtain ⟨hx, hb, hml, hown, hts, hK, hA⟩ := F
  have hr0 := hr
  rw [hav] at hr0
  obtain ⟨v, As', rfl, -, hr1⟩ := xk_r2_cons hr0
  obtain ⟨a, rfl, hcl⟩ := xk_recv hK hr0 hw hcell hC
  exact va_runVN (Ts := xk_tb) (C := C.1) (b := a) (As := As') ⟨hx, hb, hml, hown, hts⟩ (hM env ad H.size oq hok) ⟨va_cnB avs.length hts (xk_goodG hc) rfl rfl rfl (va_Nw.of rfl (hts _ hl)) (hts _ (xk_tb_g hini)) hd hR, hts _ (xk_tb_g hin), hts _ (xk_tb_g hsel)⟩ ⟨xk_blind D K env ad H.size oq, hcl, fun U hU hW => xk_preU hr hw hK (xk_NN_of hts) hZ hU hW⟩ rfl (xk_r2_len hr1).symm hls (by simp) (lv_room hsum) hdg ⟨hcells, hslots⟩
theorem xk_rnI {l : Launch} {D : va_G} {own : String} {cc : ByteArray} {nL : Nat} {R : Room} {pc idx maxL : Nat} {K : xk_K} {y : MethodName} {code : ByteArray} {q : Int} {avs : List xk_V} (hM : xk_KM l D y code maxL none K) (hav : K.1.2.1 = (2, q) :: avs) (hc : Cond.code y code maxL none ∈ xk_tg) (hin : Cond.instanceMethod y ∈ xk_tg) (hini : Cond.initialized y.cls ∈ xk_tg) (hl : Cond.methodLink own idx y ∈ xk_tg) (hy1 : y.name = "<init>") (hd : y.cls ≠ "java/lang/invoke/MethodHandle" ∧ y.cls ≠ "java/lang/invoke/VarHandle" ∧ (parseMethodDescriptor y.desc).map (fun d => d.parameters.length) = some avs.length) (hR : K.2.2.1 + 1 ≤ R.frames ∧ 8 + (maxL + 11) + K.2.2.2.1 ≤ R.locals) (hdg : decode cc pc = .ok (.invokespecial idx, 3)) : xk_Rn l D own cc nL R pc K := by
  intro p e s m args below meth c A env ad oq H locs kc ks ls As rest F hls hok hr hw hZ hsum hcells hslots
  obtain ⟨hx, hb, hml, hown, hts, hK, hA⟩ := F
  have hr0 := hr
  rw [hav] at hr0
  obtain ⟨v, As', rfl, ⟨a, rfl, -⟩, hr1⟩ := xk_r2_cons hr0
  exact va_runI (Ts := xk_tb) (b := a) (As := As') ⟨hx, hb, hml, hown, hts⟩ (hM env ad H.size oq hok) (cwI avs.length hts (xk_goodG hc) rfl rfl rfl (hts _ (xk_tb_g hini)) (hts _ (xk_tb_g hl)) (hts _ (xk_tb_g hin)) hy1 hd hR) ⟨xk_blind D K env ad H.size oq, fun U hU hW => xk_preU hr hw hK (xk_NN_of hts) hZ hU hW⟩ rfl (xk_r2_len hr1).symm hls (by simp) (lv_room hsum) hdg ⟨hcells, hslots⟩
theorem xk_rnIN {l : Launch} {D : va_G} {own host : String} {cc : ByteArray} {nL : Nat} {R : Room} {pc idx maxL : Nat} {K : xk_K} {y : MethodName} {code : ByteArray} {q : Int} {avs : List xk_V} (hM : xk_KM l D y code maxL none K) (hav : K.1.2.1 = (2, q) :: avs) (hc : Cond.code y code maxL none ∈ xk_tg) (hin : Cond.instanceMethod y ∈ xk_tg) (hini : Cond.initialized y.cls ∈ xk_tg) (hl : Cond.methodLinkNest own idx y host ∈ xk_tb) (hy1 : y.name = "<init>") (hd : y.cls ≠ "java/lang/invoke/MethodHandle" ∧ y.cls ≠ "java/lang/invoke/VarHandle" ∧ (parseMethodDescriptor y.desc).map (fun d => d.parameters.length) = some avs.length) (hR : K.2.2.1 + 1 ≤ R.frames ∧ 8 + (maxL + 11) + K.2.2.2.1 ≤ R.locals) (hdg : decode cc pc = .ok (.invokespecial idx, 3)) : xk_Rn l D own cc nL R pc K := by
  intro p e s m args below meth c A env ad oq H locs kc ks ls As rest F hls hok hr hw hZ hsum hcells hslots
  obtain ⟨hx, hb, hml, hown, hts, hK, hA⟩ := F
  have hr0 := hr
  rw [hav] at hr0
  obtain ⟨v, As', rfl, ⟨a, rfl, -⟩, hr1⟩ := xk_r2_cons hr0
  exact va_runIN (Ts := xk_tb) (b := a) (As := As') ⟨hx, hb, hml, hown, hts⟩ (hM env ad H.size oq hok) ⟨va_cnB avs.length hts (xk_goodG hc) rfl rfl rfl (va_Nw.of rfl (hts _ hl)) (hts _ (xk_tb_g hini)) hd hR, hy1, hts _ (xk_tb_g hin)⟩ ⟨xk_blind D K env ad H.size oq, fun U hU hW => xk_preU hr hw hK (xk_NN_of hts) hZ hU hW⟩ rfl (xk_r2_len hr1).symm hls (by simp) (lv_room hsum) hdg ⟨hcells, hslots⟩

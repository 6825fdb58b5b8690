theorem xk_v_b {e1 e2 : List Int} {a1 a2 : List Nat} {oq : xk_O} {env : List Int} {ad : List Nat} {av : xk_V} {v : Value} (h : xk_v (0, e1, a1, oq) env ad av v) : xk_v (0, e2, a2, oq) env ad av v := by
  obtain ⟨t, i⟩ := av
  rcases t with _ | _ | _ | _ | _ | _ | _ | _ | _ | _ | _ | t
  · exact h
  · exact h
  · exact h
  · exact h
  · exact absurd h.2.1 (Nat.lt_irrefl 0)
  · exact h
  · exact h
  · exact h
  · exact h
  · exact h
  · exact h
  · exact h.elim
theorem xk_In_b {e1 e2 : List Int} {a1 a2 : List Nat} {oq : xk_O} {nL : Nat} {s : State} {D : va_G} {A : Nat → Prop} {σ : xk_S} {env : List Int} {ad : List Nat} {H : Heap} {locs : List Loc} {ls : Array Slot} {st : List Value} (hp : xk_pre (0, e2, a2, oq) env ad) (h : xk_In (0, e1, a1, oq) nL s D A σ env ad H locs ls st) : xk_In (0, e2, a2, oq) nL s D A σ env ad H locs ls st := by
  obtain ⟨h0, ⟨lvs, hl, hr⟩, hs, ws, ha, hc, hP, hD, hS, -⟩ := h
  exact ⟨h0, ⟨lvs, hl, xk_r2_mono (fun _ _ q => ⟨q.1, xk_v_b q.2⟩) hr⟩, xk_r2_mono (fun _ _ q => xk_v_b q) hs, ws, ha, xk_r2_mono (fun _ _ q => xk_c_map (Vm.Alike.refl _) (fun _ _ z => xk_v_b z) q) hc, hP, hD, hS, hp⟩
def xk_slv (ls : Array Slot) (i : Nat) : Value := match ls[i]? with
  | some (Slot.val v) => v
  | _ => Value.null
/-- a head: place, state, where its own numbers and cells stand, what falls -/
abbrev xk_H : Type := Nat × xk_S × (List xk_Lo × List xk_Lo) × List xk_M
def xk_ids (n : Nat) : List xk_V := (List.range n).map (fun i : Nat => ((0 : Nat), (i : Int)))
def xk_las (nL : Nat) (lo : List (Nat × xk_V)) : List xk_V := (List.range nL).map (fun i => (xk_ov lo i).getD (20, 0))
def xk_blo (mp : List xk_V) (pm : List Nat) (lo : List (Nat × xk_V)) (hlo : List (Nat × xk_V)) : Bool := hlo.all (fun q => match xk_ov lo q.1 with
  | some v => xk_bV (xk_sv mp pm none q.2) v
  | none => false)
def xk_jm2 (fl : Bool) (n0 : Nat) (g : xk_H) (ms : List xk_M) (σ : xk_S) (pm : List Nat) (mp : List xk_V) : Bool :=
  xk_fitN σ.1 mp g.2.1.1 && (va_nd pm && (xk_bP σ.1 mp pm none σ.2.2.2.1 g.2.1.2.2.2.1 pm && (xk_blo mp pm σ.2.1 g.2.1.2.1 && (xk_bL xk_bV (g.2.1.2.2.1.map (xk_sv mp pm none)) σ.2.2.1 && (Nat.ble σ.2.2.2.2.1 g.2.1.2.2.2.2.1 && (Nat.ble σ.2.2.2.2.2 g.2.1.2.2.2.2.2 && (!fl || xk_fall σ.1 mp g.2.2.2 ms)))))))
def xk_jmp (fl : Bool) (n0 c0 nL : Nat) (g : xk_H) (ms : List xk_M) (σ : xk_S) : Bool :=
  match xk_lcs (xk_las nL σ.2.1) σ.2.2.2.1 (List.range c0) g.2.2.1.2 with
  | none => false
  | some pm => match xk_lns (xk_las nL σ.2.1) σ.2.2.2.1 pm g.2.2.1.1 with
    | none => false
    | some mp0 => xk_jm2 fl n0 g ms σ pm (xk_ids n0 ++ mp0.map xk_nv)
theorem xk_lcs_pre {As : List xk_V} {hp : List xk_C} : ∀ (r : List xk_Lo) {pm pm' : List Nat}, xk_lcs As hp pm r = some pm' → ∃ t, pm' = pm ++ t
  | [], pm, pm', h => by
    unfold xk_lcs at h
    cases h
    exact ⟨[], by rw [List.append_nil]⟩
  | q :: r, pm, pm', h => by
    unfold xk_lcs at h
    split at h
    · rename_i v hv
      split at h
      · obtain ⟨t, e⟩ := xk_lcs_pre r h
        exact ⟨v.2.toNat :: t, by rw [e, List.append_assoc]; rfl⟩
      · cases h
    · cases h
theorem xk_ids_num {env e0 : List Int} (hp : ∀ (j : Nat) (n : Int), e0[j]? = some n → env[j]? = some n) : (xk_ids e0.length).map (xk_num env) = e0 := by
  unfold xk_ids
  rw [List.map_map]
  apply List.ext_getElem?
  intro j
  rw [List.getElem?_map]
  rcases Nat.lt_or_ge j e0.length with hj | hj
  · rw [List.getElem?_range hj, List.getElem?_eq_getElem hj]
    have h1 := hp j e0[j] (List.getElem?_eq_getElem hj)
    show some (env.getD ((j : Int).toNat) 0) = _
    rw [Int.toNat_natCast, List.getD_eq_getElem?_getD, h1]
    rfl
  · rw [List.getElem?_eq_none (by rw [List.length_range]; exact hj), List.getElem?_eq_none hj]
    rfl
theorem xk_rng_ad {ad a0 : List Nat} (hp : ∀ (j a : Nat), a0[j]? = some a → ad[j]? = some a) : (List.range a0.length).map (fun p => ad.getD p 0) = a0 := by
  apply List.ext_getElem?
  intro j
  rw [List.getElem?_map]
  rcases Nat.lt_or_ge j a0.length with hj | hj
  · rw [List.getElem?_range hj, List.getElem?_eq_getElem hj]
    have h1 := hp j a0[j] (List.getElem?_eq_getElem hj)
    show some (ad.getD j 0) = _
    rw [List.getD_eq_getElem?_getD, h1]
    rfl
  · rw [List.getElem?_eq_none (by rw [List.length_range]; exact hj), List.getElem?_eq_none hj]
    rfl
/-- the cells by other names -/
theorem xk_cut {s : State} {D : va_G} {A : Nat → Prop} {b : xk_b} {env : List Int} {ad : List Nat} {iv : xk_N} {hp hc : List xk_C} {mp : List xk_V} {pm : List Nat} {ws : va_W} {H : Heap} (h0 : xk_ok env iv) (a1 : ws.map Prod.fst = ad) (a2 : xk_r2 (xk_c s b env ad) hp ws) (hP : va_P D vwCl ws H) (hD : va_D A ws) (f2 : xk_bP iv mp pm none hp hc pm = true) (f3 : va_nd pm = true) : ∃ wsc : va_W, wsc.map Prod.fst = pm.map (fun p => ad.getD p 0) ∧ xk_r2 (xk_c s (0, [], [], xk_oq b ad none) (mp.map (xk_num env)) (pm.map (fun p => ad.getD p 0))) hc wsc ∧ va_P D vwCl wsc H ∧ va_D A wsc := by
  have hlen2 : hp.length = ad.length := by rw [← a1, List.length_map]; exact xk_r2_len a2
  have hpmw : ∀ (i p : Nat), pm[i]? = some p → ∃ (ce : xk_C) (w : Nat × va_E), hc[i]? = some ce ∧ p < hp.length ∧ ws[p]? = some w ∧ xk_c s b env ad (xk_sc mp pm none ce) w := by
    intro i p hi
    obtain ⟨ce, d, e1, e2, e3⟩ := xk_bP_get f2 hi
    obtain ⟨w, e4, e5⟩ := xk_r2_get p a2 e2
    exact ⟨ce, w, e1, (List.getElem?_eq_some_iff.mp e2).1, e4, xk_cw_ok h0 e3 e5⟩
  have hpm : ∀ p ∈ pm, p < ad.length := by
    intro p hp'
    obtain ⟨i, hi⟩ := List.getElem?_of_mem hp'
    obtain ⟨ce, w, -, e2, -, -⟩ := hpmw i p hi
    rw [← hlen2]
    exact e2
  have hplen : pm.length = hc.length := xk_bP_len f2
  have hwl : ws.length = ad.length := by rw [← a1, List.length_map]
  obtain ⟨wsc, hwsc⟩ : ∃ wsc : va_W, wsc = pm.map (fun p => ws.getD p (0, .inr (0, []))) := ⟨_, rfl⟩
  have hmap : pm.map (fun i => ws[i]?) = wsc.map some := by
    rw [hwsc, List.map_map]
    refine List.map_congr_left fun p hp' => ?_
    have hl2 : p < ws.length := by rw [hwl]; exact hpm p hp'
    show ws[p]? = some (ws.getD p (0, .inr (0, [])))
    rw [List.getD_eq_getElem?_getD, List.getElem?_eq_getElem hl2]
    rfl
  have hfm : pm.filterMap (fun i => ws[i]?) = wsc := by
    have e := congrArg (fun z => z.filterMap id) hmap
    simp only [List.filterMap_map] at e
    rw [show (id ∘ fun i => ws[i]?) = (fun i => ws[i]?) from rfl] at e
    rw [e]
    rw [show (id ∘ (some : Nat × va_E → Option (Nat × va_E))) = some from rfl, List.filterMap_some]
  have hwa : wsc.map Prod.fst = pm.map (fun p => ad.getD p 0) := by
    rw [hwsc, List.map_map]
    refine List.map_congr_left fun p hp' => ?_
    have hl2 : p < ws.length := by rw [hwl]; exact hpm p hp'
    show (ws.getD p (0, .inr (0, []))).1 = ad.getD p 0
    rw [← a1, List.getD_eq_getElem?_getD, List.getD_eq_getElem?_getD, List.getElem?_map, List.getElem?_eq_getElem hl2]
    rfl
  refine ⟨wsc, hwa, ?_, hP.sub pm hfm, hD.sub pm f3 hmap⟩
  refine xk_r2_of (by rw [hwsc, List.length_map]; exact Eq.symm hplen) fun i ce w hce hw' => ?_
  have hi : i < pm.length := by rw [hplen]; exact (List.getElem?_eq_some_iff.mp hce).1
  obtain ⟨ce', w2, c1, c2, c3, c4⟩ := hpmw i pm[i] (List.getElem?_eq_getElem hi)
  rw [c1] at hce
  cases hce
  rw [hwsc, List.getElem?_map, List.getElem?_eq_getElem hi] at hw'
  have hw3 : ws.getD pm[i] (0, .inr (0, [])) = w := Option.some.inj hw'
  rw [List.getD_eq_getElem?_getD, c3] at hw3
  have hw4 : w2 = w := hw3
  subst hw4
  exact xk_c_in (f := xk_sv mp pm none) (Vm.Alike.refl _) (fun _ _ q => xk_sv_in q) c4
theorem xk_jmp_ok {fl : Bool} {e0 : List Int} {a0 : List Nat} {oq : xk_O} {e1 : List Int} {a1 : List Nat} {nL : Nat} {s : State} {D : va_G} {A : Nat → Prop} {g : xk_H} {ms : List xk_M} {σ : xk_S} {env : List Int} {ad : List Nat} {H : Heap} {locs : List Loc} {ls : Array Slot} {st : List Value} (hj : xk_jmp fl e0.length a0.length nL g ms σ = true) (hp0 : xk_pre (0, e0, a0, oq) env ad) (h : xk_In (0, e1, a1, oq) nL s D A σ env ad H locs ls st) : ∃ (env' : List Int) (ad' : List Nat), xk_In (0, e0, a0, oq) nL s D A g.2.1 env' ad' H locs ls st ∧ σ.2.2.2.2.1 ≤ g.2.1.2.2.2.2.1 ∧ σ.2.2.2.2.2 ≤ g.2.1.2.2.2.2.2 ∧ (fl = true → xk_lx (g.2.2.2.map (fun m => (xk_mv env' m).toNat)) (ms.map (fun m => (xk_mv env m).toNat))) := by
  unfold xk_jmp at hj
  split at hj
  · cases hj
  · rename_i pm hpm
    split at hj
    · cases hj
    · rename_i mp0 hmp0
      obtain ⟨tl, etl⟩ := xk_lcs_pre _ hpm
      unfold xk_jm2 at hj
      simp only [Bool.and_eq_true] at hj
      obtain ⟨j1, j2, j3, j4, j5, j6, j7, j8⟩ := hj
      obtain ⟨h0, ⟨lvs, hl, hr⟩, hs, ws, ha, hc, hP, hD, hS, hpr⟩ := h
      obtain ⟨hmp, hml, hok⟩ := xk_fitN_ok h0 j1
      obtain ⟨wsc, w1, w2, w3, w4⟩ := xk_cut h0 ha hc hP hD j3 j2
      have hin : ∀ (av : xk_V) (v : Value), xk_v (0, e1, a1, oq) env ad (xk_sv (xk_ids e0.length ++ mp0.map xk_nv) pm none av) v → xk_v (0, e0, a0, oq) ((xk_ids e0.length ++ mp0.map xk_nv).map (xk_num env)) (pm.map (fun p => ad.getD p 0)) av v := fun av v hv => xk_v_b (xk_sv_in hv)
      refine ⟨(xk_ids e0.length ++ mp0.map xk_nv).map (xk_num env), pm.map (fun p => ad.getD p 0), ⟨hok, ?_, ?_, wsc, w1, ?_, w3, w4, hS, ?_, ?_⟩, Nat.le_of_ble_eq_true j6, Nat.le_of_ble_eq_true j7, fun hf => ?_⟩
      · refine ⟨g.2.1.2.1.map (fun q => (q.1, xk_slv ls q.1)), ⟨hl.1, hl.2.1, fun q hq => ?_⟩, ?_⟩
        · obtain ⟨z, hz, ez⟩ := List.mem_map.mp hq
          have h1 := List.all_eq_true.mp j4 z hz
          split at h1
          · rename_i v hv
            obtain ⟨k, w, e3, e4⟩ := xk_lo_get hr hv
            have e5 := lv_at hl k e3
            rw [← ez]
            have e8 : xk_slv ls z.1 = w := by
              unfold xk_slv
              rw [e5]
            show ls[z.1]? = some (.val (xk_slv ls z.1))
            rw [e5, e8]
          · cases h1
        · refine xk_r2_of (by rw [List.length_map]) (fun i a c hia hic => ?_)
          rw [List.getElem?_map, hia] at hic
          have e6 := Option.some.inj hic
          have h1 := List.all_eq_true.mp j4 a (List.mem_of_getElem? hia)
          split at h1
          · rename_i v hv
            obtain ⟨k, w, e3, e4⟩ := xk_lo_get hr hv
            have e5 := lv_at hl k e3
            rw [← e6]
            refine ⟨rfl, hin _ _ ?_⟩
            rw [xk_bV_eq h1]
            have e8 : xk_slv ls a.1 = w := by
              unfold xk_slv
              rw [e5]
            show xk_v _ _ _ v (xk_slv ls a.1)
            rw [e8]
            exact e4
          · cases h1
      · have e7 := xk_bL_eq (fun _ _ q => xk_bV_eq q) j5
        rw [← e7] at hs
        exact xk_r2_mapl (f := xk_sv _ pm none) (fun _ _ q => hin _ _ q) hs
      · exact xk_r2_mono (fun _ _ q => xk_c_map (Vm.Alike.refl _) (fun _ _ z => xk_v_b z) q) w2
      · intro j n hj
        rw [List.map_append, xk_ids_num hp0.1]
        exact xk_ga hj
      · intro j a hj
        rw [etl, List.map_append, xk_rng_ad hp0.2]
        exact xk_ga hj
      · subst hf
        exact xk_fall_ok h0 hmp (by simpa using j8)
def xk_hpc (hs : List xk_H) (pc : Nat) : Bool := hs.any (fun g => Nat.beq g.1 pc)
def xk_jp (fl : Bool) (n0 c0 nL : Nat) (hs : List xk_H) (ms : List xk_M) (pc : Nat) (σ : xk_S) : Option Bool := if xk_hpc hs pc then some (hs.any (fun g => Nat.beq g.1 pc && xk_jmp fl n0 c0 nL g ms σ)) else none
/-- every head runs to heads that are less, or to an end -/
def xk_hds (cc : ByteArray) (T : xk_T) (X : xk_X) (B : xk_B) (rt : Instr → xk_S → Bool) (hk : xk_Hk) (n0 c0 nL f nm : Nat) (hs : List xk_H) : List xk_H → Bool
  | [] => true
  | h :: r => Nat.beq h.2.2.2.length nm && (h.2.2.2.all (fun m => Nat.blt m.2.1 h.2.1.1.1.length) && (xk_bod cc T X B rt hk (xk_jp true n0 c0 nL hs h.2.2.2) f h.1 h.2.1 && xk_hds cc T X B rt hk n0 c0 nL f nm hs r))
theorem xk_hds_get {cc : ByteArray} {T : xk_T} {X : xk_X} {B : xk_B} {rt : Instr → xk_S → Bool} {hk : xk_Hk} {n0 c0 nL f nm : Nat} {hs : List xk_H} {h : xk_H} : ∀ {l : List xk_H}, xk_hds cc T X B rt hk n0 c0 nL f nm hs l = true → h ∈ l → h.2.2.2.length = nm ∧ (∀ m ∈ h.2.2.2, m.2.1 < h.2.1.1.1.length) ∧ xk_bod cc T X B rt hk (xk_jp true n0 c0 nL hs h.2.2.2) f h.1 h.2.1 = true
  | [], _, hm => by cases hm
  | g :: r, hh, hm => by
    unfold xk_hds at hh
    simp only [Bool.and_eq_true] at hh
    rcases List.mem_cons.mp hm with rfl | hm
    · exact ⟨Nat.eq_of_beq_eq_true hh.1, fun m hm => Nat.le_of_ble_eq_true (List.all_eq_true.mp hh.2.1 m hm), hh.2.2.1⟩
    · exact xk_hds_get hh.2.2.2 hm
section XM
variable {p : Program} {l : Launch} {e : Env} {R : Room} {s : State} {m : MethodId} {args : Array Value} {below : List Frame} {meth : Method} {c : Code} {Q : State → Prop} {D : va_G} {A : Nat → Prop} {own : String} {cc : ByteArray} {nL : Nat}
theorem xk_heads_ok {T : xk_T} {X : xk_X} {B : xk_B} {rt : Instr → xk_S → Bool} {hk : xk_Hk} {e0 : List Int} {a0 : List Nat} {oq : xk_O} {f nm : Nat} {hs : List xk_H} (F : xk_Fx p s m args c D A own cc nL) (TK : xk_TOK own T) (GK : xk_GOK) (hX : X.1 = nL) (hI : X.2.1 = true → meth.name = "<init>") (hRm : X.2.2.1 = (R.frames, R.cells, R.slots, R.locals)) (SC : X.2.2.2.1 = none) (SU : xk_SUH oq A s s.heap) (hB : ∀ q ∈ B, xk_Rn l D own cc nL R q.1 q.2.1) (RT : ∀ (pc : Nat) (i : Instr) (σ : xk_S), decode cc pc = .ok (i, 1) → rt i σ = true → xk_G p l e R s m args below meth c Q (0, e0, a0, oq) nL D A pc σ) (HK : ∀ (e1 : List Int) (a1 : List Nat), (∀ (j : Nat) (n : Int), e0[j]? = some n → e1[j]? = some n) → (∀ (j a : Nat), a0[j]? = some a → a1[j]? = some a) → ∀ (pc : Nat) (σ : xk_S) (l2 : List (Nat × xk_S)), hk pc σ = some l2 → (∀ q ∈ l2, xk_G p l e R s m args below meth c Q (0, e1, a1, oq) nL D A q.1 q.2) → xk_G p l e R s m args below meth c Q (0, e1, a1, oq) nL D A pc σ) (hh : xk_hds cc T X B rt hk e0.length a0.length nL f nm hs hs = true) : ∀ (L : List Nat), Acc xk_ll L → ∀ h ∈ hs, ∀ (env : List Int) (ad : List Nat) (H : Heap) (locs : List Loc) (ls : Array Slot) (st : List Value), xk_In (0, e0, a0, oq) nL s D A h.2.1 env ad H locs ls st → h.2.2.2.map (fun m => (xk_mv env m).toNat) = L → W p l e R s m args below meth c H locs h.2.1.2.2.2.2.1 h.2.1.2.2.2.2.2 Q (F0 m h.1 ls st) := by
  intro L hacc
  induction hacc with
  | intro L _ ih =>
    intro h hm env ad H locs ls st hIn hL
    obtain ⟨g1, g2, g3⟩ := xk_hds_get hh hm
    have hpre0 : xk_pre (0, e0, a0, oq) env ad := hIn.2.2.2.choose_spec.2.2.2.2.2
    have hlen : env.length = h.2.1.1.1.length := hIn.1.1
    have conv : ∀ (env2 : List Int) (ad2 : List Nat), xk_pre (0, env, ad, oq) env2 ad2 → xk_pre (0, e0, a0, oq) env2 ad2 := fun env2 ad2 hq => ⟨fun j n hj => hq.1 j n (hpre0.1 j n hj), fun j a hj => hq.2 j a (hpre0.2 j a hj)⟩
    have RT1 : ∀ (pc : Nat) (i : Instr) (σ : xk_S), decode cc pc = .ok (i, 1) → rt i σ = true → xk_G p l e R s m args below meth c Q (0, env, ad, oq) nL D A pc σ := fun pc i σ hd hrt env2 ad2 H2 locs2 ls2 st2 hI2 => RT pc i σ hd hrt env2 ad2 H2 locs2 ls2 st2 (xk_In_b (conv _ _ hI2.2.2.2.choose_spec.2.2.2.2.2) hI2)
    have JP : ∀ (pc : Nat) (σ : xk_S), xk_jp true e0.length a0.length nL hs h.2.2.2 pc σ = some true → xk_G p l e R s m args below meth c Q (0, env, ad, oq) nL D A pc σ := by
      intro pc σ hj env2 ad2 H2 locs2 ls2 st2 hI2
      unfold xk_jp at hj
      split at hj
      · have hj2 := Option.some.inj hj
        obtain ⟨g, hg, hj3⟩ := List.any_eq_true.mp hj2
        rw [Bool.and_eq_true] at hj3
        have epc : g.1 = pc := Nat.eq_of_beq_eq_true hj3.1
        have hp2 : xk_pre (0, env, ad, oq) env2 ad2 := hI2.2.2.2.choose_spec.2.2.2.2.2
        obtain ⟨env3, ad3, hI3, hk1, hk2, hfall⟩ := xk_jmp_ok hj3.2 (conv _ _ hp2) hI2
        have hf := hfall rfl
        have hsame : h.2.2.2.map (fun m => (xk_mv env2 m).toNat) = L := by
          rw [← hL]
          refine List.map_congr_left (fun mm hmm => ?_)
          have hlt : mm.2.1 < env.length := by rw [hlen]; exact g2 mm hmm
          have e9 := hp2.1 mm.2.1 env[mm.2.1] (List.getElem?_eq_getElem hlt)
          unfold xk_mv
          rw [List.getD_eq_getElem?_getD, List.getD_eq_getElem?_getD, e9, List.getElem?_eq_getElem hlt]
        rw [hsame] at hf
        have hw := ih (g.2.2.2.map (fun m => (xk_mv env3 m).toNat)) ⟨by rw [List.length_map, (xk_hds_get hh hg).1, ← hL, List.length_map, g1], hf⟩ g hg env3 ad3 H2 locs2 ls2 st2 hI3 rfl
        rw [epc] at hw
        exact W.widen hk1 hk2 hw
      · cases hj
    exact xk_bod_ok F TK GK hX hI hRm (fun L2 hL2 => by rw [SC] at hL2; cases hL2) SU hB RT1 (HK env ad hpre0.1 hpre0.2) JP g3 env ad H locs ls st (xk_In_b ⟨fun j n hj => hj, fun j a hj => hj⟩ hIn)
end XM

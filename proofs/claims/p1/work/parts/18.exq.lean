def xk_bS (a b : xk_S) : Bool := xk_bL (fun p q => xk_bI p.1 q.1 && xk_bI p.2 q.2) a.1 b.1 && (xk_bL xk_bO a.2.1 b.2.1 && (xk_bL xk_bV a.2.2.1 b.2.2.1 && (xk_bL xk_bC a.2.2.2.1 b.2.2.2.1 && (Nat.beq a.2.2.2.2.1 b.2.2.2.2.1 && Nat.beq a.2.2.2.2.2 b.2.2.2.2.2))))
theorem xk_bS_eq {a b : xk_S} (h : xk_bS a b = true) : a = b := by
  unfold xk_bS at h
  simp only [Bool.and_eq_true] at h
  obtain ⟨h1, h2, h3, h4, h5, h6⟩ := h
  refine Prod.ext (xk_bL_eq (fun p q z => ?_) h1) (Prod.ext (xk_bL_eq (fun _ _ q => xk_bO_eq q) h2) (Prod.ext (xk_bL_eq (fun _ _ q => xk_bV_eq q) h3) (Prod.ext (xk_bL_eq (fun _ _ q => xk_bC_eq q) h4) (Prod.ext (Nat.eq_of_beq_eq_true h5) (Nat.eq_of_beq_eq_true h6)))))
  rw [Bool.and_eq_true] at z
  exact Prod.ext (xk_bI_eq z.1) (xk_bI_eq z.2)
def xk_pick (ck : Nat × List xk_S) (pc : Nat) (σ : xk_S) : Option xk_S := if Nat.beq ck.1 pc = true then ck.2.find? (fun q => xk_bS q σ) else none
theorem xk_pick_ok {ck : Nat × List xk_S} {pc : Nat} {σ q : xk_S} (h : xk_pick ck pc σ = some q) : q = σ := by
  unfold xk_pick at h
  split at h
  · exact xk_bS_eq (List.find?_some (p := fun q => xk_bS q σ) h)
  · cases h
/-- a run that takes up a state as it is written, where it comes to one -/
def xk_exq (cc : ByteArray) (T : xk_T) (X : xk_X) (B : xk_B) (rt : Instr → xk_S → Bool) (ck : Nat × List xk_S) : Nat → Nat → xk_S → Bool
  | 0, _, _ => false
  | f + 1, pc, σ => match xk_pick ck pc σ with
    | some q => (match decode cc pc with
      | .ok (i, len) => (match xk_step T X B pc i len q with
        | some l => l.all (fun z => xk_exq cc T X B rt ck f z.1 z.2)
        | none => Nat.beq len 1 && rt i q)
      | .error _ => false)
    | none => (match decode cc pc with
      | .ok (i, len) => (match xk_step T X B pc i len σ with
        | some l => l.all (fun z => xk_exq cc T X B rt ck f z.1 z.2)
        | none => Nat.beq len 1 && rt i σ)
      | .error _ => false)
section XK
variable {p : Program} {l : Launch} {e : Env} {R : Room} {s : State} {m : MethodId} {args : Array Value} {below : List Frame} {meth : Method} {c : Code} {Q : State → Prop} {b : Nat × List Int × List Nat} {D : va_G} {A : Nat → Prop} {own : String} {cc : ByteArray} {nL : Nat}
theorem xk_exq_ok {T : xk_T} {X : xk_X} {B : xk_B} {rt : Instr → xk_S → Bool} {ck : Nat × List xk_S} (F : xk_Fx p s m args c D A own cc nL) (TK : xk_TOK own T) (GK : xk_GOK) (hX : X.1 = nL) (hI : X.2.1 = true → meth.name = "<init>") (hRm : X.2.2.1 = (R.frames, R.cells, R.slots, R.locals)) (SC : ∀ L, X.2.2.2.1 = some L → ∃ xs : Nat → Int32, va_X (b.1 - 1) L xs s s.heap ∧ b.1 - 1 < s.heap.size ∧ ¬ A (b.1 - 1) ∧ b.2.1 = (List.range L).map (fun j => (xs j).toInt)) (hB : ∀ q ∈ B, xk_Rn l D own cc nL R q.1 q.2.1) (RT : ∀ (pc : Nat) (i : Instr) (σ : xk_S), decode cc pc = .ok (i, 1) → rt i σ = true → xk_G p l e R s m args below meth c Q b nL D A pc σ) : ∀ (f pc : Nat) (σ : xk_S), xk_exq cc T X B rt ck f pc σ = true → xk_G p l e R s m args below meth c Q b nL D A pc σ
  | 0, _, _, h => by cases h
  | f + 1, pc, σ, h => by
    have key : ∀ σ' : xk_S, (match decode cc pc with
      | .ok (i, len) => (match xk_step T X B pc i len σ' with
        | some l => l.all (fun q => xk_exq cc T X B rt ck f q.1 q.2)
        | none => Nat.beq len 1 && rt i σ')
      | .error _ => false) = true → xk_G p l e R s m args below meth c Q b nL D A pc σ' := by
      intro σ' h
      split at h
      · rename_i i len hd
        split at h
        · rename_i l2 hl
          exact xk_step_ok F TK GK hX hI hRm SC hB hd hl (fun q hq => xk_exq_ok F TK GK hX hI hRm SC hB RT f q.1 q.2 (List.all_eq_true.mp h q hq))
        · rw [Bool.and_eq_true] at h
          have hl := Nat.eq_of_beq_eq_true h.1
          subst hl
          exact RT pc i σ' hd h.2
      · cases h
    unfold xk_exq at h
    split at h
    · rename_i q hq
      have e := xk_pick_ok hq
      subst e
      exact key _ h
    · exact key _ h

end XK
theorem xk_KM_of2 {l : Launch} {D : va_G} {own : String} {y : MethodName} {code : ByteArray} {maxL f rk : Nat} {ret : Option FieldType} {K : xk_K} {T : xk_T} {B : xk_B} {isI : Bool} {sp : List Nat} {hs : List (Nat × List xk_V)} {ck : Nat × List xk_S} (hy : plainName y.cls = true) (hyo : y.cls = own) (TK : xk_TOK own T) (GK : xk_GOK) (hI : isI = true → y.name = "<init>") (hrk : xk_rok rk ret) (hB : ∀ q ∈ B, xk_Rn l D own code maxL (xk_rm K) q.1 q.2.1) (hsl : (K.1.2.1.map xk_cat).sum ≤ maxL) (hex : xk_exq code T (maxL, isI, (K.2.2.1, K.2.2.2.2.1, K.2.2.2.2.2, K.2.2.2.1), none, sp) B (xk_rt rk K hs) ck f 0 (K.1.1, xk_args 0 K.1.2.1, [], K.1.2.2, 0, 0) = true) : xk_KM l D y code maxL ret K := by
  intro env0 ad0 sz h0
  refine Met.ofW (cc := code) (maxL := maxL) (ret := ret) hy rfl ?_
  intro p e s m args below meth c s₁ B0 hml hv
  obtain ⟨hr, hsz, ⟨ws, ha, hc, hP, hD0⟩, hK, hN⟩ := hv
  subst hsz
  have hb := B0.bytes
  have hts : ∀ w ∈ xk_tb, w.before args s = true := xk_hts (fun w hw => atoms_spec (ws := Cond.code y code maxL ret :: xk_tg) B0.pre w (List.mem_cons_of_mem _ hw)) hN
  have hown : s.vm.findClass own = some m.cls := hyo ▸ findClass_of_methodNamed B0.named
  have hlocks := B0.notSynchronized
  have hret := B0.returns
  have hnm : meth.name = y.name := (name_of_methodNamed B0.named B0.method).1
  have F : xk_Fx p s m args c D (xk_fr ad0 s.heap.size) own code maxL := ⟨B0.exec, hb, hml, hown, hts, hK, fun q hq => Or.inr hq⟩
  have hD : va_D (xk_fr ad0 s.heap.size) ws := hD0.weaken (fun k q hk _ => Or.inl (by rw [← ha]; exact List.mem_map.mpr ⟨q, List.mem_of_getElem? hk, rfl⟩))
  have hl0 : ad0.length = K.1.2.2.length := by rw [← ha, List.length_map]; exact Eq.symm (xk_r2_len hc)
  have RT : ∀ (pc : Nat) (i : Instr) (σ : xk_S), decode code pc = .ok (i, 1) → xk_rt rk K hs i σ = true → xk_G p l e (headSpec (Cond.code y code maxL ret :: xk_tg) (xk_rm K)).room s m args below meth c (MQ below (xk_Qc D K env0 ad0 s.heap.size) args s K.2.2.2.2.1 K.2.2.2.2.2 (xk_fr ad0 s.heap.size)) (0, env0, ad0) maxL D (xk_fr ad0 s.heap.size) pc σ := by
    intro pc i σ hd hrt env ad H locs ls sv hIn
    unfold xk_rt at hrt
    simp only [Bool.and_eq_true] at hrt
    obtain ⟨q1, q2, q3, q4⟩ := hrt
    obtain ⟨hh, hm, hh2⟩ := List.any_eq_true.mp q4
    split at hh2
    · rename_i P hPq
      obtain ⟨ho, -, hst, ws2, ha2, hc2, hP2, hD2, hS2, hpre⟩ := hIn
      refine W.widen (Nat.le_of_ble_eq_true q2) (Nat.le_of_ble_eq_true q3) ?_
      have post : ∀ (rv : Option Value) (t : State), rv = sv.head? → t.heap = H → s.WarmedH t.vm → xk_Qc D K env0 ad0 s.heap.size args s (.returned rv) t := fun rv t hrv ht hW => xk_post (List.mem_of_getElem? hPq) hh2 h0 hl0 ho hpre hst hrv ha2 hc2 hP2 hD2 hS2 ht hW args
      obtain ⟨iv, lo, st, hp, kc, ks⟩ := σ
      unfold xk_rk at q1
      unfold xk_rok at hrk
      dsimp only at q1 hst ho
      split at q1
      · have e := xk_r2_nil hst
        subst e
        split at hrk
        · exact W.vret B0.exec hb hret (fun t ht hW => post _ t rfl ht hW) hS2.2.2 hd
        all_goals first | (rename_i hz; cases hz) | cases hrk | skip
        all_goals simp_all
      · obtain ⟨v, r, rfl, hv, hr2⟩ := xk_r2_cons hst
        have e := xk_r2_nil hr2
        subst e
        obtain ⟨x, rfl, -⟩ := xk_vI q1 hv
        split at hrk
        all_goals first | exact W.iret B0.exec hb hret (fun t ht hW => post _ t rfl ht hW) hS2.2.2 hd | simp_all
      · obtain ⟨v, r, rfl, hv, hr2⟩ := xk_r2_cons hst
        have e := xk_r2_nil hr2
        subst e
        simp only [Bool.and_eq_true, decide_eq_true_eq] at q1
        obtain ⟨x, rfl, hn⟩ := xk_vI q1.1 hv
        have hbb := xk_iv_ok ho hn
        have hnar : narrow .boolean (.int x) = .int x := by rcases xk_bool (x := x) (by omega) (by omega) with rfl | rfl <;> rfl
        split at hrk
        all_goals first | exact W.zret B0.exec hb hret hnar (fun t ht hW => post _ t rfl ht hW) hS2.2.2 hd | simp_all
      · obtain ⟨v, r, rfl, hv, hr2⟩ := xk_r2_cons hst
        have e := xk_r2_nil hr2
        subst e
        obtain ⟨x, rfl, -⟩ := xk_vL q1 hv
        split at hrk
        all_goals first | exact W.lret B0.exec hb hret (fun t ht hW => post _ t rfl ht hW) hS2.2.2 hd | simp_all
      · obtain ⟨v, r, rfl, hv, hr2⟩ := xk_r2_cons hst
        have e := xk_r2_nil hr2
        subst e
        rename_i xx
        obtain ⟨xt, xi⟩ := xx
        have ht2 : xt = 2 := Nat.eq_of_beq_eq_true q1
        subst ht2
        obtain ⟨a, rfl, -⟩ := hv
        split at hrk
        all_goals first | exact W.aret B0.exec hb hret (Or.inl ⟨_, rfl⟩) (Or.inr ⟨a, rfl⟩) (fun t ht hW => post _ t rfl ht hW) hS2.2.2 hd | simp_all
      · cases q1
    · cases hh2
  have hG := xk_exq_ok F TK GK (X := (maxL, isI, (K.2.2.1, K.2.2.2.2.1, K.2.2.2.2.2, K.2.2.2.1), none, sp)) rfl (fun z => hnm.trans (hI z)) rfl (fun L hL => by cases hL) hB RT f 0 _ hex
  have hargs : args = (args.toList).toArray := (Array.toArray_toList).symm
  have hv0 : ∀ (av : xk_V) (v : Value), xk_v (0, [], []) env0 ad0 av v → xk_v (0, env0, ad0) env0 ad0 av v := by
    intro av v hv
    obtain ⟨t, i⟩ := av
    rcases t with _ | _ | _ | _ | _ | _ | _ | t
    · exact hv
    · exact hv
    · exact hv
    · exact hv
    · exact absurd hv.2.1 (by decide)
    · exact hv
    · exact hv
    · exact hv
  have hr' := xk_r2_mono hv0 hr
  have hle : (lg_sl args.toList).length ≤ maxL := by rw [xk_sl_len hr']; exact hsl
  have hl := lv_entry args.toList hle
  have hent : entryFrame m args maxL = F0 m 0 ((lg_sl args.toList ++ List.replicate (maxL - (lg_sl args.toList).length) Slot.unset).toArray) [] := by
    conv => lhs; rw [hargs]
    exact lg_entry_eq m args.toList maxL
  rw [hent]
  exact hG env0 ad0 s.heap [] _ [] ⟨h0, ⟨_, hl, xk_args_r2 0 hr'⟩, trivial, ws, ha, xk_r2_mono (fun _ _ q => xk_c_map (Vm.Alike.refl _) hv0 q) hc, hP, hD, va_S.rf, ⟨fun j n hj => hj, fun j a hj => hj⟩⟩

/-- bounds told by a callee, met with the caller's own -/
def xk_meet (I J : xk_I) : xk_I := (max I.1 J.1, min I.2 J.2)
theorem xk_n_num {env : List Int} {q : xk_V} (h : q.1 = 5 ∨ q.1 = 0 ∧ q.2.toNat < env.length) : xk_n env q (xk_num env q) := by
  obtain ⟨t, i⟩ := q
  rcases h with h5 | ⟨h0, hl⟩
  · have h5' : t = 5 := h5
    subst h5'
    rfl
  · have h0' : t = 0 := h0
    subst h0'
    show env[i.toNat]? = some (env.getD i.toNat 0)
    rw [List.getD_eq_getElem?_getD, List.getElem?_eq_getElem hl]
    rfl
theorem xk_r2_split {α β : Type} {R : α → β → Prop} : ∀ {a c : List α} {l : List β}, xk_r2 R (a ++ c) l → ∃ l1 l2, l = l1 ++ l2 ∧ xk_r2 R a l1 ∧ xk_r2 R c l2
  | [], c, l, h => ⟨[], l, rfl, trivial, h⟩
  | _ :: _, _, [], h => h.elim
  | x :: a, c, y :: l, h => by
    obtain ⟨l1, l2, e, h1, h2⟩ := xk_r2_split h.2
    exact ⟨y :: l1, l2, by rw [e]; rfl, ⟨h.1, h1⟩, h2⟩
theorem xk_r2_rev {α β : Type} {R : α → β → Prop} : ∀ {as : List α} {bs : List β}, xk_r2 R as bs → xk_r2 R as.reverse bs.reverse
  | [], [], _ => trivial
  | [], _ :: _, h => h.elim
  | _ :: _, [], h => h.elim
  | a :: as, b :: bs, h => by
    rw [List.reverse_cons, List.reverse_cons]
    exact xk_r2_app (as' := [a]) (bs' := [b]) ⟨h.1, trivial⟩ (xk_r2_rev h.2)
theorem xk_r2_drop {α β : Type} {R : α → β → Prop} : ∀ (n : Nat) {as : List α} {bs : List β}, xk_r2 R as bs → xk_r2 R (as.drop n) (bs.drop n)
  | 0, _, _, h => h
  | _ + 1, [], [], _ => trivial
  | _ + 1, [], _ :: _, h => h.elim
  | _ + 1, _ :: _, [], h => h.elim
  | n + 1, _ :: _, _ :: _, h => xk_r2_drop n h.2
theorem xk_r2_of {α β : Type} {R : α → β → Prop} : ∀ {as : List α} {bs : List β}, as.length = bs.length → (∀ (i : Nat) (a : α) (b : β), as[i]? = some a → bs[i]? = some b → R a b) → xk_r2 R as bs
  | [], [], _, _ => trivial
  | [], _ :: _, h, _ => by simp at h
  | _ :: _, [], h, _ => by simp at h
  | a :: as, b :: bs, h, hk => ⟨hk 0 a b rfl rfl, xk_r2_of (by simpa using h) (fun i x y hx hy => hk (i + 1) x y (by rw [List.getElem?_cons_succ]; exact hx) (by rw [List.getElem?_cons_succ]; exact hy))⟩
def xk_refs : List xk_I → List xk_V → List xk_I → Option (List xk_I)
  | iv, q :: mp, J :: js => match xk_set iv q (xk_meet (xk_iv iv q) J) with
    | none => none
    | some iv1 => xk_refs iv1 mp js
  | iv, _, _ => some iv
theorem xk_refs_ok {env : List Int} : ∀ {iv : List xk_I} (mp : List xk_V) (js : List xk_I), xk_ok env iv → (∀ q ∈ mp, q.1 = 5 ∨ q.1 = 0 ∧ q.2.toNat < env.length) → (∀ (i : Nat) (q : xk_V) (J : xk_I), mp[i]? = some q → js[i]? = some J → J.1 ≤ xk_num env q ∧ xk_num env q ≤ J.2) → ∃ iv', xk_refs iv mp js = some iv' ∧ xk_ok env iv'
  | iv, [], js, h, _, _ => ⟨iv, by unfold xk_refs; rfl, h⟩
  | iv, q :: mp, [], h, _, _ => ⟨iv, by unfold xk_refs; rfl, h⟩
  | iv, q :: mp, J :: js, h, hm, hb => by
    have hq : xk_n env q (xk_num env q) := xk_n_num (hm _ List.mem_cons_self)
    have h1 := xk_iv_ok h hq
    have h2 := hb 0 q J rfl rfl
    obtain ⟨iv1, e1, o1⟩ := xk_set_ok (I := xk_meet (xk_iv iv q) J) h hq (by unfold xk_meet; show max _ _ ≤ _; omega) (by unfold xk_meet; show _ ≤ min _ _; omega)
    obtain ⟨iv2, e2, o2⟩ := xk_refs_ok mp js o1 (fun z hz => hm z (List.mem_cons_of_mem _ hz)) (fun i z J' hz hJ => hb (i + 1) z J' (by rw [List.getElem?_cons_succ]; exact hz) (by rw [List.getElem?_cons_succ]; exact hJ))
    exact ⟨iv2, by unfold xk_refs; rw [e1]; exact e2, o2⟩
theorem xk_ok_apps {env e2 : List Int} {iv js : List xk_I} (h : xk_ok env iv) (hl : e2.length = js.length) (hb : ∀ (i : Nat) (n : Int) (J : xk_I), e2[i]? = some n → js[i]? = some J → J.1 ≤ n ∧ n ≤ J.2) : xk_ok (env ++ e2) (iv ++ js) := by
  refine ⟨by rw [List.length_append, List.length_append, h.1, hl], fun i m p hm hp => ?_⟩
  rcases Nat.lt_or_ge i env.length with hi | hi
  · rw [List.getElem?_append_left hi] at hm
    rw [List.getElem?_append_left (by rw [← h.1]; exact hi)] at hp
    exact h.2 i m p hm hp
  · rw [List.getElem?_append_right hi] at hm
    rw [List.getElem?_append_right (by rw [← h.1]; exact hi)] at hp
    rw [h.1] at hm
    exact hb _ m p hm hp
def xk_mp2 (mp : List xk_V) (nv k : Nat) : List xk_V := mp ++ (List.range k).map (fun i => (0, ((nv + i : Nat) : Int)))
def xk_pm2 (pm : List Nat) (np k : Nat) : List Nat := pm ++ (List.range k).map (fun i => np + i)
/-- the caller's state behind a call that came back by P -/
def xk_aft (K : xk_K) (mp : List xk_V) (pm : List Nat) (iv : List xk_I) (lo : List (Nat × xk_V)) (rest : List xk_V) (hp : List xk_C) (kc ks : Nat) (P : xk_P) (iv1 : List xk_I) : xk_S :=
  (iv1 ++ P.1.drop K.1.1.length, lo,
   match P.2.1 with
    | none => rest
    | some av => xk_sv (xk_mp2 mp iv.length (P.1.length - K.1.1.length)) (xk_pm2 pm hp.length (P.2.2.length - K.1.2.2.length)) av :: rest,
   xk_mix hp pm (P.2.2.map (xk_sc (xk_mp2 mp iv.length (P.1.length - K.1.1.length)) (xk_pm2 pm hp.length (P.2.2.length - K.1.2.2.length)))) ++ (P.2.2.drop K.1.2.2.length).map (xk_sc (xk_mp2 mp iv.length (P.1.length - K.1.1.length)) (xk_pm2 pm hp.length (P.2.2.length - K.1.2.2.length))),
   kc + K.2.2.2.2.1, ks + K.2.2.2.2.2)
def xk_bI (a b : Int) : Bool := match a, b with
  | .ofNat x, .ofNat y => Nat.beq x y
  | .negSucc x, .negSucc y => Nat.beq x y
  | _, _ => false
theorem xk_bI_eq {a b : Int} (h : xk_bI a b = true) : a = b := by
  unfold xk_bI at h
  split at h
  · rw [Nat.eq_of_beq_eq_true h]
  · rw [Nat.eq_of_beq_eq_true h]
  · cases h
def xk_bV (a b : xk_V) : Bool := Nat.beq a.1 b.1 && xk_bI a.2 b.2
theorem xk_bV_eq {a b : xk_V} (h : xk_bV a b = true) : a = b := by
  unfold xk_bV at h
  rw [Bool.and_eq_true] at h
  exact Prod.ext (Nat.eq_of_beq_eq_true h.1) (xk_bI_eq h.2)
def xk_bL {α : Type} (f : α → α → Bool) : List α → List α → Bool
  | [], [] => true
  | a :: as, b :: bs => f a b && xk_bL f as bs
  | _, _ => false
theorem xk_bL_eq {α : Type} {f : α → α → Bool} (hf : ∀ a b, f a b = true → a = b) : ∀ {as bs : List α}, xk_bL f as bs = true → as = bs
  | [], [], _ => rfl
  | [], _ :: _, h => by cases h
  | _ :: _, [], h => by cases h
  | a :: as, b :: bs, h => by
    unfold xk_bL at h
    rw [Bool.and_eq_true] at h
    rw [hf a b h.1, xk_bL_eq hf h.2]
def xk_bO (p q : Nat × xk_V) : Bool := Nat.beq p.1 q.1 && xk_bV p.2 q.2
theorem xk_bO_eq {p q : Nat × xk_V} (h : xk_bO p q = true) : p = q := by
  unfold xk_bO at h
  rw [Bool.and_eq_true] at h
  exact Prod.ext (Nat.eq_of_beq_eq_true h.1) (xk_bV_eq h.2)
def xk_bC (a b : xk_C) : Bool := Nat.beq a.1 b.1 && (Nat.beq a.2.1 b.2.1 && (xk_bL xk_bV a.2.2.1 b.2.2.1 && (Nat.beq a.2.2.2.1 b.2.2.2.1 && (xk_bI a.2.2.2.2.1.1 b.2.2.2.2.1.1 && (xk_bI a.2.2.2.2.1.2 b.2.2.2.2.1.2 && xk_bL xk_bO a.2.2.2.2.2 b.2.2.2.2.2)))))
theorem xk_bC_eq {a b : xk_C} (h : xk_bC a b = true) : a = b := by
  unfold xk_bC at h
  simp only [Bool.and_eq_true] at h
  obtain ⟨h1, h2, h3, h4, h5, h6, h7⟩ := h
  exact Prod.ext (Nat.eq_of_beq_eq_true h1) (Prod.ext (Nat.eq_of_beq_eq_true h2) (Prod.ext (xk_bL_eq (fun _ _ q => xk_bV_eq q) h3) (Prod.ext (Nat.eq_of_beq_eq_true h4) (Prod.ext (Prod.ext (xk_bI_eq h5) (xk_bI_eq h6)) (xk_bL_eq (fun _ _ q => xk_bO_eq q) h7)))))
def xk_bP (mp : List xk_V) (pm : List Nat) (hp : List xk_C) : List xk_C → List Nat → Bool
  | [], [] => true
  | c :: cs, p :: ps => (match hp[p]? with
    | some d => xk_bC (xk_sc mp pm c) d
    | none => false) && xk_bP mp pm hp cs ps
  | _, _ => false
theorem xk_bP_eq {mp : List xk_V} {pm : List Nat} {hp : List xk_C} : ∀ {cs : List xk_C} {ps : List Nat}, xk_bP mp pm hp cs ps = true → (cs.map (xk_sc mp pm)).map some = ps.map (fun p => hp[p]?)
  | [], [], _ => rfl
  | [], _ :: _, h => by cases h
  | _ :: _, [], h => by cases h
  | c :: cs, p :: ps, h => by
    unfold xk_bP at h
    rw [Bool.and_eq_true] at h
    rw [List.map_cons, List.map_cons, List.map_cons, xk_bP_eq h.2]
    congr 1
    have h1 := h.1
    split at h1
    · rename_i d hd
      rw [hd, xk_bC_eq h1]
    · cases h1
/-- the call fits: arguments, cells, bounds -/
def xk_fitK (K : xk_K) (mp : List xk_V) (pm : List Nat) (iv : List xk_I) (As : List xk_V) (hp : List xk_C) : Bool :=
  xk_bL xk_bV (K.1.2.1.map (xk_sv mp pm)) As && xk_bP mp pm hp K.1.2.2 pm && va_nd pm && decide (mp.length = K.1.1.length) && mp.all (fun q => decide (q.1 = 5) || (decide (q.1 = 0) && decide (q.2.toNat < iv.length))) && (mp.zip K.1.1).all (fun z => decide (z.2.1 ≤ (xk_iv iv z.1).1) && decide ((xk_iv iv z.1).2 ≤ z.2.2)) && K.2.1.all (fun P => decide (K.1.1.length ≤ P.1.length) && decide (K.1.2.2.length ≤ P.2.2.length))
section XE
variable {p : Program} {l : Launch} {e : Env} {R : Room} {s : State} {m : MethodId} {args : Array Value} {below : List Frame} {meth : Method} {c : Code} {Q : State → Prop} {b : Nat × List Int × List Nat} {D : va_G} {A : Nat → Prop} {own : String} {cc : ByteArray} {nL : Nat} {pc : Nat} {iv iv' : List xk_I} {lo : List (Nat × xk_V)} {st : List xk_V} {hp : List xk_C} {kc ks : Nat}
theorem xk_s_call (F : xk_Fx p s m args c D A own cc nL) {K : xk_K} {mp : List xk_V} {pm : List Nat} {As rest : List xk_V} (hR : xk_Rn l D own cc nL R pc K) (hf : xk_fitK K mp pm iv As hp = true) (hsum : (rest.map xk_cat).sum ≤ 8) (hcells : kc + K.2.2.2.2.1 ≤ R.cells) (hslots : ks + K.2.2.2.2.2 ≤ R.slots) (kk : ∀ P ∈ K.2.1, ∀ iv1, xk_refs iv mp P.1 = some iv1 → xk_G p l e R s m args below meth c Q b nL D A (pc + 3) (xk_aft K mp pm iv lo rest hp kc ks P iv1)) : xk_G p l e R s m args below meth c Q b nL D A pc (iv, lo, As.reverse ++ rest, hp, kc, ks) := by
  intro env ad H locs ls sv h
  unfold xk_fitK at hf
  simp only [Bool.and_eq_true, decide_eq_true_eq] at hf
  obtain ⟨⟨⟨⟨⟨⟨f1, f2⟩, f3⟩, f4⟩, f5⟩, f6⟩, f7⟩ := hf
  have f1 := xk_bL_eq (fun _ _ q => xk_bV_eq q) f1
  have f2 := xk_bP_eq f2
  obtain ⟨h0, ⟨lvs, hl, hlr⟩, hst, ws, a1, a2, hP, hD, hS, hpre⟩ := h
  have hlen1 : env.length = iv.length := h0.1
  have hlen2 : hp.length = ad.length := by rw [← a1, List.length_map]; exact xk_r2_len a2
  have hmp : ∀ q ∈ mp, q.1 = 5 ∨ q.1 = 0 ∧ q.2.toNat < env.length := by
    intro q hq
    have h1 := List.all_eq_true.mp f5 q hq
    simp only [Bool.or_eq_true, Bool.and_eq_true, decide_eq_true_eq] at h1
    rw [hlen1]
    exact h1
  have hpmw : ∀ (i p : Nat), pm[i]? = some p → ∃ (ce : xk_C) (w : Nat × va_E), K.1.2.2[i]? = some ce ∧ hp[p]? = some (xk_sc mp pm ce) ∧ ws[p]? = some w ∧ xk_c s b env ad (xk_sc mp pm ce) w := by
    intro i p hi
    have e1 : (pm.map (fun p => hp[p]?))[i]? = some hp[p]? := by rw [List.getElem?_map, hi]; rfl
    rw [← f2, List.getElem?_map, List.getElem?_map] at e1
    cases hc : K.1.2.2[i]? with
    | none => rw [hc] at e1; cases e1
    | some ce =>
      rw [hc] at e1
      have e2 : hp[p]? = some (xk_sc mp pm ce) := Eq.symm (Option.some.inj e1)
      obtain ⟨w, e3, e4⟩ := xk_r2_get p a2 e2
      exact ⟨ce, w, rfl, e2, e3, e4⟩
  have hpm : ∀ p ∈ pm, p < ad.length := by
    intro p hp'
    obtain ⟨i, hi⟩ := List.getElem?_of_mem hp'
    obtain ⟨ce, w, -, e2, -, -⟩ := hpmw i p hi
    rw [← hlen2]
    exact (List.getElem?_eq_some_iff.mp e2).1
  have hplen : pm.length = K.1.2.2.length := by
    have e := congrArg List.length f2
    rw [List.length_map, List.length_map, List.length_map] at e
    exact Eq.symm e
  have hval : ∀ (i : Nat) (q : xk_V), mp[i]? = some q → xk_n env q (xk_num env q) := fun i q hq => xk_n_num (hmp q (List.mem_of_getElem? hq))
  have hok : xk_ok (mp.map (xk_num env)) K.1.1 := by
    refine ⟨by rw [List.length_map]; exact f4, fun i n J hn hJ => ?_⟩
    rw [List.getElem?_map] at hn
    cases hq : mp[i]? with
    | none => rw [hq] at hn; cases hn
    | some q =>
      rw [hq] at hn
      have hn2 : xk_num env q = n := Option.some.inj hn
      have hz : (mp.zip K.1.1)[i]? = some (q, J) := by rw [List.getElem?_zip_eq_some]; exact ⟨hq, hJ⟩
      have h1 := List.all_eq_true.mp f6 _ (List.mem_of_getElem? hz)
      simp only [Bool.and_eq_true, decide_eq_true_eq] at h1
      have h2 := xk_iv_ok h0 (hval i q hq)
      have h3 : (xk_iv iv q).1 ≤ xk_num env q := h2.1
      have h4 : xk_num env q ≤ (xk_iv iv q).2 := h2.2
      omega
  obtain ⟨svA, svR, esv, r1, r2⟩ := xk_r2_split hst
  have hAv : xk_r2 (xk_v b env ad) As svA.reverse := by
    have h1 := xk_r2_rev r1
    rwa [List.reverse_reverse] at h1
  have hargs : xk_r2 (xk_v (0, [], []) (mp.map (xk_num env)) (pm.map (fun p => ad.getD p 0))) K.1.2.1 svA.reverse := by
    rw [← f1] at hAv
    exact xk_r2_mapl (f := xk_sv mp pm) (fun _ _ q => xk_sv_in q) hAv
  have hwl : ws.length = ad.length := by rw [← a1, List.length_map]
  obtain ⟨wsc, hwsc⟩ : ∃ wsc : va_W, wsc = pm.map (fun p => ws.getD p (0, .inr (0, []))) := ⟨_, rfl⟩
  have hmap : pm.map (fun i => ws[i]?) = wsc.map some := by
    rw [hwsc, List.map_map]
    refine List.map_congr_left fun p hp' => ?_
    have hl2 : p < ws.length := by rw [hwl]; exact hpm p hp'
    show ws[p]? = some (ws.getD p (0, .inr (0, [])))
    rw [List.getD_eq_getElem?_getD, List.getElem?_eq_getElem hl2]
    rfl
  have hfm : pm.filterMap (fun i => ws[i]?) = wsc := by
    have e := congrArg (fun z => z.filterMap id) hmap
    simp only [List.filterMap_map] at e
    rw [show (id ∘ fun i => ws[i]?) = (fun i => ws[i]?) from rfl] at e
    rw [e]
    rw [show (id ∘ (some : Nat × va_E → Option (Nat × va_E))) = some from rfl, List.filterMap_some]
  have hwa : wsc.map Prod.fst = pm.map (fun p => ad.getD p 0) := by
    rw [hwsc, List.map_map]
    refine List.map_congr_left fun p hp' => ?_
    have hl2 : p < ws.length := by rw [hwl]; exact hpm p hp'
    show (ws.getD p (0, .inr (0, []))).1 = ad.getD p 0
    rw [← a1, List.getD_eq_getElem?_getD, List.getD_eq_getElem?_getD, List.getElem?_map, List.getElem?_eq_getElem hl2]
    rfl
  have hwcr : xk_r2 (xk_c s (0, [], []) (mp.map (xk_num env)) (pm.map (fun p => ad.getD p 0))) K.1.2.2 wsc := by
    refine xk_r2_of (by rw [hwsc, List.length_map]; exact Eq.symm hplen) fun i ce w hce hw' => ?_
    have hi : i < pm.length := by rw [hplen]; exact (List.getElem?_eq_some_iff.mp hce).1
    obtain ⟨ce', w2, c1, c2, c3, c4⟩ := hpmw i pm[i] (List.getElem?_eq_getElem hi)
    rw [c1] at hce
    cases hce
    rw [hwsc, List.getElem?_map, List.getElem?_eq_getElem hi] at hw'
    have hw3 : ws.getD pm[i] (0, .inr (0, [])) = w := Option.some.inj hw'
    rw [List.getD_eq_getElem?_getD, c3] at hw3
    have hw4 : w2 = w := hw3
    subst hw4
    exact xk_c_in (f := xk_sv mp pm) (Vm.Alike.refl _) (fun _ _ q => xk_sv_in q) c4
  have hsub := hP.sub pm hfm
  have hDs := (hD.sub pm f3 hmap).weaken (B := fun _ => True) (fun _ _ _ _ => trivial)
  have hs8 : (svR.map fun v => v.category).sum ≤ 8 := by rw [xk_catsum r2]; exact hsum
  have run := hR p e s m args below meth c A (mp.map (xk_num env)) (pm.map (fun p => ad.getD p 0)) H locs kc ks ls svA.reverse svR F hl.1 hok hargs ⟨wsc, hwa, hwcr, hsub, hDs⟩ hs8 hcells hslots
  rw [List.reverse_reverse, ← esv] at run
  intro T hT X
  obtain ⟨v, st₀, t, T', L, e0, X', hL, e1, e2, ⟨⟨P, hPm, e2', a2', rv, er, okP, hres, wsP, b1, b2, hP1, hD1⟩, hz, hk⟩, hgo⟩ := run T hT X
  cases er
  rw [e0] at hz hk
  have hal : s.vm.Alike t.vm := by rw [← e2]; exact X'.warmed.alike
  have hl1 : e2'.length = P.1.length - K.1.1.length := by
    have h1 := okP.1
    rw [List.length_append, List.length_map, f4] at h1
    omega
  have hl2 : a2'.length = P.2.2.length - K.1.2.2.length := by
    have h1 := xk_r2_len b2
    have h2 := congrArg List.length b1
    rw [List.length_map, List.length_append, List.length_map, hplen] at h2
    omega
  obtain ⟨iv1, er1, ok1⟩ := xk_refs_ok mp P.1 h0 hmp (fun i q J hq hJ => by
    have h1 : (mp.map (xk_num env) ++ e2')[i]? = some (xk_num env q) := xk_ga (by rw [List.getElem?_map, hq]; rfl)
    exact okP.2 i _ J h1 hJ)
  have oknew : xk_ok (env ++ e2') (iv1 ++ P.1.drop K.1.1.length) := by
    refine xk_ok_apps ok1 (by rw [List.length_drop]; exact hl1) (fun i n J hn hJ => ?_)
    rw [List.getElem?_drop] at hJ
    refine okP.2 (K.1.1.length + i) n J ?_ hJ
    rw [List.getElem?_append_right (by rw [List.length_map, f4]; omega), List.length_map, f4]
    rw [show K.1.1.length + i - K.1.1.length = i by omega]
    exact hn
  have hout : ∀ (av : xk_V) (w : Value), xk_v (0, [], []) (mp.map (xk_num env) ++ e2') (pm.map (fun p => ad.getD p 0) ++ a2') av w → xk_v b (env ++ e2') (ad ++ a2') (xk_sv (xk_mp2 mp iv.length (P.1.length - K.1.1.length)) (xk_pm2 pm hp.length (P.2.2.length - K.1.2.2.length)) av) w := by
    intro av w hw
    have h1 := xk_sv_out (b := b) hmp hpm hw
    unfold xk_mp2 xk_pm2
    rw [← hl1, ← hl2, ← hlen1, hlen2]
    exact h1
  have hcP : xk_r2 (xk_c s b (env ++ e2') (ad ++ a2')) (P.2.2.map (xk_sc (xk_mp2 mp iv.length (P.1.length - K.1.1.length)) (xk_pm2 pm hp.length (P.2.2.length - K.1.2.2.length)))) wsP := xk_r2_mapr (f := xk_sc (xk_mp2 mp iv.length (P.1.length - K.1.1.length)) (xk_pm2 pm hp.length (P.2.2.length - K.1.2.2.length))) (fun _ _ q => xk_c_out (f := xk_sv (xk_mp2 mp iv.length (P.1.length - K.1.1.length)) (xk_pm2 pm hp.length (P.2.2.length - K.1.2.2.length))) hal.symm hout q) b2
  have hold : xk_r2 (xk_c s b (env ++ e2') (ad ++ a2')) hp ws := xk_r2_mono (fun _ _ q => xk_c_map (Vm.Alike.refl _) (fun _ _ z => xk_v_mono e2' a2' z) q) a2
  have hfst : (xk_mix ws pm wsP).map Prod.fst = ad := by
    rw [xk_mix_map, a1, b1]
    exact xk_mix_id ad pm a2' hpm
  have hplP : pm.length ≤ wsP.length := by
    have h2 := congrArg List.length b1
    rw [List.length_map, List.length_append, List.length_map] at h2
    omega
  have hfstd : (wsP.drop pm.length).map Prod.fst = a2' := by
    rw [List.map_drop, b1]
    have h3 : pm.length = (pm.map (fun p => ad.getD p 0)).length := by rw [List.length_map]
    rw [h3, List.drop_left]
  have hapart : ∀ (k : Nat) (q : Nat × va_E), ws[k]? = some q → k ∉ pm → q.1 < H.size ∧ ¬ xk_fr (pm.map (fun p => ad.getD p 0)) H.size q.1 := by
    intro k q hq hkp
    have hlt := (hP k q hq).lt
    refine ⟨hlt, fun hfr => ?_⟩
    rcases hfr with hm | hm
    · obtain ⟨p', hp', ep⟩ := List.mem_map.mp hm
      have hlp : p' < ws.length := by rw [hwl]; exact hpm p' hp'
      have e3 : ws[p']? = some ws[p'] := List.getElem?_eq_getElem hlp
      have e4 : ws[p'].1 = q.1 := by
        rw [← ep, ← a1, List.getD_eq_getElem?_getD, List.getElem?_map, e3]
        rfl
      have e5 := hD.1 p' k _ q e3 hq e4
      subst e5
      exact hkp hp'
    · omega
  have hPn : va_P D vwCl (xk_mix ws pm wsP ++ wsP.drop pm.length) t.heap := by
    refine va_P.app (fun k q hq => ?_) (fun k q hq => ?_)
    · rcases xk_mix_get pm hplP hq with hm | ⟨hm, hkp⟩
      · obtain ⟨i, hi⟩ := List.getElem?_of_mem hm
        exact hP1 i q hi
      · obtain ⟨g1, g2⟩ := hapart k q hm hkp
        exact (hP k q hm).kept (hk q.1 g1 g2)
    · rw [List.getElem?_drop] at hq
      exact hP1 _ q hq
  have hAfr : ∀ q : Nat, xk_fr (pm.map (fun p => ad.getD p 0)) H.size q → A q := by
    intro q hq
    rcases hq with hm | hm
    · obtain ⟨p', hp', ep⟩ := List.mem_map.mp hm
      have hlp : p' < ws.length := by rw [hwl]; exact hpm p' hp'
      have e3 : ws[p']? = some ws[p'] := List.getElem?_eq_getElem hlp
      have e4 : ws[p'].1 = q := by
        rw [← ep, ← a1, List.getD_eq_getElem?_getD, List.getElem?_map, e3]
        rfl
      rw [← e4]
      exact hD.2 p' _ e3
    · exact F.2.2.2.2.2.2 q (Nat.le_trans hS.1 hm)
  have hDn : va_D A (xk_mix ws pm wsP ++ wsP.drop pm.length) := by
    refine va_D.app (xk_D_ad hD (by rw [hfst, a1])) ⟨fun i j x y hx hy hxy => ?_, fun k q hq => ?_⟩ (fun i j x y hx hy hxy => ?_)
    · rw [List.getElem?_drop] at hx hy
      have h1 := hD1.1 _ _ x y hx hy hxy
      omega
    · rw [List.getElem?_drop] at hq
      exact hAfr _ (hD1.2 _ q hq)
    · rw [List.getElem?_drop] at hy
      have h1 : ((xk_mix ws pm wsP).map Prod.fst)[i]? = some x.1 := by rw [List.getElem?_map, hx]; rfl
      rw [hfst, ← a1, List.getElem?_map] at h1
      cases hw : ws[i]? with
      | none => rw [hw] at h1; cases h1
      | some w =>
        rw [hw] at h1
        have h2 : w.1 = x.1 := Option.some.inj h1
        have hlt := (hP i w hw).lt
        rcases hD1.2 _ y hy with hm | hm
        · obtain ⟨i2, hi2⟩ := List.getElem?_of_mem hm
          have hi3 : i2 < pm.length := by
            have h5 := (List.getElem?_eq_some_iff.mp hi2).1
            rwa [List.length_map] at h5
          have h6 : (wsP.map Prod.fst)[i2]? = some y.1 := by rw [b1]; exact xk_ga hi2
          rw [List.getElem?_map] at h6
          cases hw2 : wsP[i2]? with
          | none => rw [hw2] at h6; cases h6
          | some w2 =>
            rw [hw2] at h6
            have h7 := hD1.1 i2 _ w2 y hw2 hy (Option.some.inj h6)
            omega
        · omega
  have hSn : va_S A s.heap t.heap (locs ++ L) := ⟨Nat.le_trans hS.1 hz, fun q h1 h2 => by rw [hk q (Nat.lt_of_lt_of_le h1 hS.1) (fun z => h2 (hAfr q z))]; exact hS.2.1 q h1 h2, fun q hq => by
    rcases List.mem_append.mp hq with h9 | h9
    · exact hS.2.2 q h9
    · exact hAfr _ (hL q h9)⟩
  have hstk : xk_r2 (xk_v b (env ++ e2') (ad ++ a2')) (xk_aft K mp pm iv lo rest hp kc ks P iv1).2.2.1 (v.toList ++ svR) := by
    have hrest := xk_r2_mono (fun _ _ z => xk_v_mono e2' a2' z) r2
    unfold xk_aft
    unfold xk_res at hres
    cases hpr : P.2.1 with
    | none =>
      rw [hpr] at hres
      have hv : v = none := hres
      subst hv
      exact hrest
    | some av =>
      rw [hpr] at hres
      obtain ⟨w, hv, hw⟩ := hres
      subst hv
      exact ⟨hout av w hw, hrest⟩
  have hin : xk_In b nL s D A (xk_aft K mp pm iv lo rest hp kc ks P iv1) (env ++ e2') (ad ++ a2') t.heap (locs ++ L) ls (v.toList ++ svR) := by
    refine ⟨oknew, ⟨lvs, hl, xk_r2_mono (fun _ _ z => ⟨z.1, xk_v_mono e2' a2' z.2⟩) hlr⟩, hstk, xk_mix ws pm wsP ++ wsP.drop pm.length, by rw [List.map_append, hfst, hfstd], ?_, hPn, hDn, hSn, xk_pre_mono hpre⟩
    refine xk_r2_app ?_ (xk_r2_mix pm hold hcP)
    have hd := xk_r2_drop pm.length hcP
    rw [← List.map_drop, hplen] at hd
    rw [hplen]
    exact hd
  obtain ⟨t2, g1, g2⟩ := kk P hPm iv1 er1 _ _ _ _ _ _ hin T' e1 X'
  exact ⟨t2, hgo t2 g1, g2⟩
end XE

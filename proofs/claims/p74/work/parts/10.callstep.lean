/-- bounds told by a callee, met with the caller's own -/
def xk_meet (I J : xk_I) : xk_I := (max I.1 J.1, min I.2 J.2)
theorem xk_n_num {env : List Int} {q : xk_V} (h : q.1 = 5 ∨ q.1 = 0 ∧ q.2.toNat < env.length) : xk_n env q (xk_num env q) := by
  obtain ⟨t, i⟩ := q
  rcases h with h5 | ⟨h0, hl⟩
  · have h5' : t = 5 := h5
    subst h5'
    rfl
  · have h0' : t = 0 := h0
    subst h0'
    show env[i.toNat]? = some (env.getD i.toNat 0)
    rw [List.getD_eq_getElem?_getD, List.getElem?_eq_getElem hl]
    rfl
theorem xk_r2_split {α β : Type} {R : α → β → Prop} : ∀ {a c : List α} {l : List β}, xk_r2 R (a ++ c) l → ∃ l1 l2, l = l1 ++ l2 ∧ xk_r2 R a l1 ∧ xk_r2 R c l2
  | [], c, l, h => ⟨[], l, rfl, trivial, h⟩
  | _ :: _, _, [], h => h.elim
  | x :: a, c, y :: l, h => by
    obtain ⟨l1, l2, e, h1, h2⟩ := xk_r2_split h.2
    exact ⟨y :: l1, l2, by rw [e]; rfl, ⟨h.1, h1⟩, h2⟩
theorem xk_r2_rev {α β : Type} {R : α → β → Prop} : ∀ {as : List α} {bs : List β}, xk_r2 R as bs → xk_r2 R as.reverse bs.reverse
  | [], [], _ => trivial
  | [], _ :: _, h => h.elim
  | _ :: _, [], h => h.elim
  | a :: as, b :: bs, h => by
    rw [List.reverse_cons, List.reverse_cons]
    exact xk_r2_app (as' := [a]) (bs' := [b]) ⟨h.1, trivial⟩ (xk_r2_rev h.2)
theorem xk_r2_drop {α β : Type} {R : α → β → Prop} : ∀ (n : Nat) {as : List α} {bs : List β}, xk_r2 R as bs → xk_r2 R (as.drop n) (bs.drop n)
  | 0, _, _, h => h
  | _ + 1, [], [], _ => trivial
  | _ + 1, [], _ :: _, h => h.elim
  | _ + 1, _ :: _, [], h => h.elim
  | n + 1, _ :: _, _ :: _, h => xk_r2_drop n h.2
theorem xk_r2_of {α β : Type} {R : α → β → Prop} : ∀ {as : List α} {bs : List β}, as.length = bs.length → (∀ (i : Nat) (a : α) (b : β), as[i]? = some a → bs[i]? = some b → R a b) → xk_r2 R as bs
  | [], [], _, _ => trivial
  | [], _ :: _, h, _ => by simp at h
  | _ :: _, [], h, _ => by simp at h
  | a :: as, b :: bs, h, hk => ⟨hk 0 a b rfl rfl, xk_r2_of (by simpa using h) (fun i x y hx hy => hk (i + 1) x y (by rw [List.getElem?_cons_succ]; exact hx) (by rw [List.getElem?_cons_succ]; exact hy))⟩
def xk_refs : xk_N → List xk_V → List xk_I → Option (xk_N)
  | iv, q :: mp, J :: js => if (decide (J.1 ≤ (xk_iv iv q).1) && decide ((xk_iv iv q).2 ≤ J.2)) = true then xk_refs iv mp js else match xk_set iv q (xk_meet (xk_iv iv q) J) with
    | none => none
    | some iv1 => xk_refs iv1 mp js
  | iv, _, _ => some iv
theorem xk_refs_ok {env : List Int} : ∀ {iv : xk_N} (mp : List xk_V) (js : List xk_I), xk_ok env iv → (∀ q ∈ mp, q.1 = 5 ∨ q.1 = 0 ∧ q.2.toNat < env.length) → (∀ (i : Nat) (q : xk_V) (J : xk_I), mp[i]? = some q → js[i]? = some J → J.1 ≤ xk_num env q ∧ xk_num env q ≤ J.2) → ∃ iv', xk_refs iv mp js = some iv' ∧ xk_ok env iv'
  | iv, [], js, h, _, _ => ⟨iv, by unfold xk_refs; rfl, h⟩
  | iv, q :: mp, [], h, _, _ => ⟨iv, by unfold xk_refs; rfl, h⟩
  | iv, q :: mp, J :: js, h, hm, hb => by
    have hq : xk_n env q (xk_num env q) := xk_n_num (hm _ List.mem_cons_self)
    have h1 := xk_iv_ok h hq
    have h2 := hb 0 q J rfl rfl
    have hm' : ∀ z ∈ mp, z.1 = 5 ∨ z.1 = 0 ∧ z.2.toNat < env.length := fun z hz => hm z (List.mem_cons_of_mem _ hz)
    have hb' : ∀ (i : Nat) (z : xk_V) (J' : xk_I), mp[i]? = some z → js[i]? = some J' → J'.1 ≤ xk_num env z ∧ xk_num env z ≤ J'.2 := fun i z J' hz hJ => hb (i + 1) z J' (by rw [List.getElem?_cons_succ]; exact hz) (by rw [List.getElem?_cons_succ]; exact hJ)
    by_cases hs : (decide (J.1 ≤ (xk_iv iv q).1) && decide ((xk_iv iv q).2 ≤ J.2)) = true
    · obtain ⟨iv2, e2, o2⟩ := xk_refs_ok mp js h hm' hb'
      exact ⟨iv2, by unfold xk_refs; rw [if_pos hs]; exact e2, o2⟩
    · obtain ⟨iv1, e1, o1⟩ := xk_set_ok (I := xk_meet (xk_iv iv q) J) h hq (by unfold xk_meet; show max _ _ ≤ _; omega) (by unfold xk_meet; show _ ≤ min _ _; omega)
      obtain ⟨iv2, e2, o2⟩ := xk_refs_ok mp js o1 hm' hb'
      exact ⟨iv2, by unfold xk_refs; rw [if_neg hs, e1]; exact e2, o2⟩
theorem xk_ok_apps {env e2 : List Int} {iv : xk_N} {js : List xk_I} (h : xk_ok env iv) (hl : e2.length = js.length) (hb : ∀ (i : Nat) (n : Int) (J : xk_I), e2[i]? = some n → js[i]? = some J → J.1 ≤ n ∧ n ≤ J.2) : xk_ok (env ++ e2) (iv.1 ++ js, iv.2) := by
  refine ⟨by rw [List.length_append, List.length_append, h.1, hl], fun i m p hm hp => ?_, fun r hr => ?_⟩
  · rcases Nat.lt_or_ge i env.length with hi | hi
    · rw [List.getElem?_append_left hi] at hm
      rw [List.getElem?_append_left (by rw [← h.1]; exact hi)] at hp
      exact h.2.1 i m p hm hp
    · rw [List.getElem?_append_right hi] at hm
      rw [List.getElem?_append_right (by rw [← h.1]; exact hi)] at hp
      rw [h.1] at hm
      exact hb _ m p hm hp
  · obtain ⟨a, c, d⟩ := h.2.2 r hr
    exact ⟨by rw [List.length_append]; omega, by rw [List.length_append]; omega, xk_rel_app a c d⟩
theorem xk_ok_rels {env : List Int} {iv : xk_N} {rs : List xk_R} (h : xk_ok env iv) (hr : ∀ r ∈ rs, r.1 < env.length ∧ r.2.1 < env.length ∧ xk_rel env r) : xk_ok env (iv.1, rs ++ iv.2) := by
  refine ⟨h.1, h.2.1, fun r hm => ?_⟩
  rcases List.mem_append.mp hm with hm | hm
  · exact hr r hm
  · exact h.2.2 r hm
def xk_mp2 (mp : List xk_V) (nv k : Nat) : List xk_V := mp ++ (List.range k).map (fun i => (0, ((nv + i : Nat) : Int)))
def xk_pm2 (pm : List Nat) (np k : Nat) : List Nat := pm ++ (List.range k).map (fun i => np + i)
theorem xk_mp2_get {env e2 : List Int} {mp : List xk_V} (hmp : ∀ q ∈ mp, q.1 = 5 ∨ q.1 = 0 ∧ q.2.toNat < env.length) {i : Nat} {q : xk_V} (h : (xk_mp2 mp env.length e2.length)[i]? = some q) (h0 : q.1 = 0) : (env ++ e2)[q.2.toNat]? = (mp.map (xk_num env) ++ e2)[i]? := by
  unfold xk_mp2 at h
  rcases Nat.lt_or_ge i mp.length with hi | hi
  · rw [List.getElem?_append_left hi, List.getElem?_eq_getElem hi] at h
    have hq : mp[i] = q := Option.some.inj h
    subst hq
    rcases hmp mp[i] (List.getElem_mem hi) with h5 | ⟨-, hl⟩
    · omega
    · rw [List.getElem?_append_left hl, List.getElem?_append_left (by rw [List.length_map]; exact hi), List.getElem?_map, List.getElem?_eq_getElem hi, List.getElem?_eq_getElem hl]
      show _ = some (xk_num env mp[i])
      unfold xk_num
      rw [if_neg (by omega), List.getD_eq_getElem?_getD, List.getElem?_eq_getElem hl]
      rfl
  · rw [List.getElem?_append_right hi] at h
    have hj : i - mp.length < e2.length := by
      have h2 := (List.getElem?_eq_some_iff.mp h).1
      rwa [List.length_map, List.length_range] at h2
    rw [List.getElem?_map, List.getElem?_range hj] at h
    have hq : ((0 : Nat), ((env.length + (i - mp.length) : Nat) : Int)) = q := Option.some.inj h
    subst hq
    show (env ++ e2)[(((env.length + (i - mp.length) : Nat) : Int)).toNat]? = _
    rw [Int.toNat_natCast, List.getElem?_append_right (by omega), List.getElem?_append_right (by rw [List.length_map]; exact hi), List.length_map]
    rw [show env.length + (i - mp.length) - env.length = i - mp.length by omega]
theorem xk_mp2_n {env e2 : List Int} {mp : List xk_V} (hmp : ∀ q ∈ mp, q.1 = 5 ∨ q.1 = 0 ∧ q.2.toNat < env.length) {i : Nat} {q : xk_V} (h : (xk_mp2 mp env.length e2.length)[i]? = some q) : ∃ n : Int, (mp.map (xk_num env) ++ e2)[i]? = some n ∧ xk_n (env ++ e2) q n := by
  rcases Nat.lt_or_ge i mp.length with hi | hi
  · have h2 := h
    unfold xk_mp2 at h2
    rw [List.getElem?_append_left hi, List.getElem?_eq_getElem hi] at h2
    have hq : mp[i] = q := Option.some.inj h2
    subst hq
    have hm := hmp mp[i] (List.getElem_mem hi)
    have hn := xk_n_num hm
    refine ⟨xk_num env mp[i], xk_ga (by rw [List.getElem?_map, List.getElem?_eq_getElem hi]; rfl), ?_⟩
    unfold xk_n at hn ⊢
    by_cases hc : xk_isC mp[i] = true
    · rw [if_pos hc] at hn ⊢; exact hn
    · rw [if_neg hc] at hn ⊢; exact xk_ga hn
  · have h2 := h
    unfold xk_mp2 at h2
    rw [List.getElem?_append_right hi] at h2
    have hj : i - mp.length < e2.length := by
      have h3 := (List.getElem?_eq_some_iff.mp h2).1
      rwa [List.length_map, List.length_range] at h3
    rw [List.getElem?_map, List.getElem?_range hj] at h2
    have hq : ((0 : Nat), ((env.length + (i - mp.length) : Nat) : Int)) = q := Option.some.inj h2
    have h0 : q.1 = 0 := by rw [← hq]
    have h4 := xk_mp2_get hmp h h0
    have h5 : (mp.map (xk_num env) ++ e2)[i]? = some e2[i - mp.length] := by
      rw [List.getElem?_append_right (by rw [List.length_map]; exact hi), List.length_map, List.getElem?_eq_getElem hj]
    refine ⟨_, h5, ?_⟩
    subst hq
    show (env ++ e2)[_]? = _
    exact h4.trans h5
/-- relations told in other numbers, beside the known ones -/
def xk_rels (iv : xk_N) (mp : List xk_V) : List xk_R → Option xk_N
  | [] => some iv
  | r :: rs => match mp[r.1]?, mp[r.2.1]? with
    | some a, some c => (match xk_le iv a c r.2.2 with
      | some iv1 => xk_rels iv1 mp rs
      | none => none)
    | _, _ => xk_rels iv mp rs
theorem xk_rels_ok {env : List Int} {mp : List xk_V} : ∀ {iv : xk_N} (rs : List xk_R), xk_ok env iv → (∀ r ∈ rs, ∀ a c : xk_V, mp[r.1]? = some a → mp[r.2.1]? = some c → ∃ x y : Int, xk_n env a x ∧ xk_n env c y ∧ x ≤ y + r.2.2) → ∃ iv', xk_rels iv mp rs = some iv' ∧ xk_ok env iv'
  | iv, [], h, _ => ⟨iv, rfl, h⟩
  | iv, r :: rs, h, hr => by
    unfold xk_rels
    split
    · rename_i a c ea ec
      obtain ⟨x, y, hx, hy, hk⟩ := hr r List.mem_cons_self a c ea ec
      obtain ⟨iv1, e1, o1⟩ := xk_le_ok h hx hy hk
      rw [e1]
      exact xk_rels_ok rs o1 (fun r' hm => hr r' (List.mem_cons_of_mem _ hm))
    · exact xk_rels_ok rs h (fun r' hm => hr r' (List.mem_cons_of_mem _ hm))
/-- the caller's state behind a call that came back by P -/
def xk_aft (K : xk_K) (mp : List xk_V) (pm : List Nat) (om : List xk_V) (nv : Nat) (lo : List (Nat × xk_V)) (rest : List xk_V) (hp : List xk_C) (kc ks : Nat) (P : xk_P) (iv2 : xk_N) : xk_S :=
  (iv2, lo,
   match P.2.1 with
    | none => rest
    | some av => xk_sv (xk_mp2 mp nv (P.1.1.length - K.1.1.1.length)) (xk_pm2 pm hp.length (P.2.2.length - K.1.2.2.length)) (some om) av :: rest,
   xk_mix hp pm (P.2.2.map (xk_sc (xk_mp2 mp nv (P.1.1.length - K.1.1.1.length)) (xk_pm2 pm hp.length (P.2.2.length - K.1.2.2.length)) (some om))) ++ (P.2.2.drop K.1.2.2.length).map (xk_sc (xk_mp2 mp nv (P.1.1.length - K.1.1.1.length)) (xk_pm2 pm hp.length (P.2.2.length - K.1.2.2.length)) (some om)),
   kc + K.2.2.2.2.1, ks + K.2.2.2.2.2)
/-- the numbers behind a call that came back by P -/
def xk_afn (K : xk_K) (mp : List xk_V) (iv : xk_N) (P : xk_P) : Option xk_N := match xk_refs iv mp P.1.1 with
  | none => none
  | some iv1 => xk_rels (iv1.1 ++ P.1.1.drop K.1.1.1.length, iv1.2) (xk_mp2 mp iv.1.length (P.1.1.length - K.1.1.1.length)) P.1.2
def xk_bI (a b : Int) : Bool := match a, b with
  | .ofNat x, .ofNat y => Nat.beq x y
  | .negSucc x, .negSucc y => Nat.beq x y
  | _, _ => false
theorem xk_bI_eq {a b : Int} (h : xk_bI a b = true) : a = b := by
  unfold xk_bI at h
  split at h
  · rw [Nat.eq_of_beq_eq_true h]
  · rw [Nat.eq_of_beq_eq_true h]
  · cases h
def xk_bV (a b : xk_V) : Bool := Nat.beq a.1 b.1 && xk_bI a.2 b.2
theorem xk_bV_eq {a b : xk_V} (h : xk_bV a b = true) : a = b := by
  unfold xk_bV at h
  rw [Bool.and_eq_true] at h
  exact Prod.ext (Nat.eq_of_beq_eq_true h.1) (xk_bI_eq h.2)
def xk_bL {α : Type} (f : α → α → Bool) : List α → List α → Bool
  | [], [] => true
  | a :: as, b :: bs => f a b && xk_bL f as bs
  | _, _ => false
theorem xk_bL_eq {α : Type} {f : α → α → Bool} (hf : ∀ a b, f a b = true → a = b) : ∀ {as bs : List α}, xk_bL f as bs = true → as = bs
  | [], [], _ => rfl
  | [], _ :: _, h => by cases h
  | _ :: _, [], h => by cases h
  | a :: as, b :: bs, h => by
    unfold xk_bL at h
    rw [Bool.and_eq_true] at h
    rw [hf a b h.1, xk_bL_eq hf h.2]
def xk_bO (p q : Nat × xk_V) : Bool := Nat.beq p.1 q.1 && xk_bV p.2 q.2
theorem xk_bO_eq {p q : Nat × xk_V} (h : xk_bO p q = true) : p = q := by
  unfold xk_bO at h
  rw [Bool.and_eq_true] at h
  exact Prod.ext (Nat.eq_of_beq_eq_true h.1) (xk_bV_eq h.2)
def xk_bC (a b : xk_C) : Bool := Nat.beq a.1 b.1 && (Nat.beq a.2.1 b.2.1 && (xk_bL xk_bV a.2.2.1 b.2.2.1 && (Nat.beq a.2.2.2.1 b.2.2.2.1 && (xk_bI a.2.2.2.2.1.1 b.2.2.2.2.1.1 && (xk_bI a.2.2.2.2.1.2 b.2.2.2.2.1.2 && xk_bL xk_bO a.2.2.2.2.2 b.2.2.2.2.2)))))
theorem xk_bC_eq {a b : xk_C} (h : xk_bC a b = true) : a = b := by
  unfold xk_bC at h
  simp only [Bool.and_eq_true] at h
  obtain ⟨h1, h2, h3, h4, h5, h6, h7⟩ := h
  exact Prod.ext (Nat.eq_of_beq_eq_true h1) (Prod.ext (Nat.eq_of_beq_eq_true h2) (Prod.ext (xk_bL_eq (fun _ _ q => xk_bV_eq q) h3) (Prod.ext (Nat.eq_of_beq_eq_true h4) (Prod.ext (Prod.ext (xk_bI_eq h5) (xk_bI_eq h6)) (xk_bL_eq (fun _ _ q => xk_bO_eq q) h7)))))
theorem xk_ov_mem {ov : List (Nat × xk_V)} {j : Nat} {av : xk_V} : xk_ov ov j = some av → (j, av) ∈ ov := by
  induction ov with
  | nil => intro h; cases h
  | cons q r ih =>
    intro h
    unfold xk_ov at h
    split at h
    · rename_i hq
      cases h
      rw [← hq]
      exact List.mem_cons_self
    · exact List.mem_cons_of_mem _ (ih h)
def xk_sub (I J : xk_I) : Bool := decide (J.1 ≤ I.1) && decide (I.2 ≤ J.2)
def xk_cst (I : xk_I) (av : xk_V) : Bool := xk_isC av && (xk_bI I.1 av.2 && xk_bI I.2 av.2)
/-- places: what c says of a row follows of what d says -/
def xk_cwA (lg : Bool) (iv : xk_N) (cI dI : xk_I) (co do_ : List (Nat × xk_V)) : Bool :=
  xk_sub dI cI && (co.all (fun q => match xk_ov co q.1 with
    | none => false
    | some x => match xk_ov do_ q.1 with
      | some y => xk_bV x y
      | none => (if lg then Nat.beq x.1 6 else Nat.beq x.1 5) && xk_cst dI x) && do_.all (fun q => match xk_ov co q.1 with
    | some _ => true
    | none => match xk_ov do_ q.1 with
      | none => false
      | some y => (if lg then xk_isL y else xk_isI y) && xk_sub (xk_iv iv y) cI))
/-- numbers from 0 to 9, each at most its fellow -/
def xk_w8 (iv : xk_N) : List xk_V → List xk_V → Bool
  | [], _ => true
  | x :: xs, y :: ys => (Nat.beq x.1 5 || (Nat.beq x.1 0 && Nat.blt x.2.toNat iv.1.length)) && (xk_isI y && (decide (0 ≤ (xk_iv iv x).1) && (decide ((xk_iv iv x).2 ≤ 9) && ((xk_bV x y || xk_ent 5 iv x y 0) && xk_w8 iv xs ys))))
  | _ :: _, [] => false
/-- a field's picture: as it is, or any number -/
def xk_bF (x y : xk_V) : Bool := xk_bV x y || ((Nat.beq x.1 9 && xk_isI y) || (Nat.beq x.1 10 && xk_isL y))
theorem xk_bF_ok {b : xk_b} {env : List Int} {ad : List Nat} : ∀ {xs ys : List xk_V} {vs : List Value}, xk_bL xk_bF xs ys = true → xk_r2 (xk_v b env ad) ys vs → xk_r2 (xk_v b env ad) xs vs
  | [], [], [], _, _ => trivial
  | [], [], _ :: _, _, h => h.elim
  | [], _ :: _, _, h, _ => by unfold xk_bL at h; cases h
  | _ :: _, [], _, h, _ => by unfold xk_bL at h; cases h
  | _ :: _, _ :: _, [], _, h => h.elim
  | x :: xs, y :: ys, v :: vs, h, hr => by
    unfold xk_bL at h
    rw [Bool.and_eq_true] at h
    refine ⟨?_, xk_bF_ok h.2 hr.2⟩
    have h1 := h.1
    unfold xk_bF at h1
    simp only [Bool.or_eq_true, Bool.and_eq_true] at h1
    rcases h1 with h1 | ⟨h1, h2⟩ | ⟨h1, h2⟩
    · rw [xk_bV_eq h1]
      exact hr.1
    · obtain ⟨z, ez, -⟩ := xk_vI h2 hr.1
      obtain ⟨t, i⟩ := x
      have h1 : t = 9 := Nat.eq_of_beq_eq_true h1
      subst h1
      exact ⟨z, ez⟩
    · obtain ⟨z, ez, -⟩ := xk_vL h2 hr.1
      obtain ⟨t, i⟩ := x
      have h1 : t = 10 := Nat.eq_of_beq_eq_true h1
      subst h1
      exact ⟨z, ez⟩
/-- the row of five blocks -/
def xk_cwH (iv : xk_N) (co do_ : List (Nat × xk_V)) : Bool := co.all (fun q => match xk_ov co q.1, xk_ov do_ q.1 with
    | some x, some y => xk_bV x y
    | _, _ => false) && do_.all (fun q => match xk_ov co q.1 with
    | some _ => true
    | none => match xk_ov do_ q.1 with
      | none => false
      | some y => xk_isI y && xk_sub (xk_iv iv y) (xk_h8 (q.1 % 8)))
theorem xk_cwH_ok {b : xk_b} {env : List Int} {ad : List Nat} {iv : xk_N} {co do_ : List (Nat × xk_V)} {f : Nat → Int32} {j : Nat} (h0 : xk_ok env iv) (h : xk_cwH iv co do_ = true) (hd : xk_eI b env ad (xk_h8 (j % 8)) do_ f j) : xk_eI b env ad (xk_h8 (j % 8)) co f j := by
  unfold xk_cwH at h
  rw [Bool.and_eq_true] at h
  obtain ⟨h2, h3⟩ := h
  unfold xk_eI at hd ⊢
  cases hc : xk_ov co j with
  | some x =>
    have h4 := List.all_eq_true.mp h2 _ (xk_ov_mem hc)
    dsimp only at h4 ⊢
    rw [hc] at h4
    cases hdo : xk_ov do_ j with
    | some y =>
      rw [hdo] at h4 hd
      have e := xk_bV_eq h4
      subst e
      exact hd
    | none =>
      rw [hdo] at h4
      cases h4
  | none =>
    dsimp only
    cases hdo : xk_ov do_ j with
    | some y =>
      have h4 := List.all_eq_true.mp h3 _ (xk_ov_mem hdo)
      dsimp only at h4
      rw [hc] at h4
      dsimp only at h4
      rw [hdo] at h4 hd
      dsimp only at h4 hd
      unfold xk_sub at h4
      simp only [Bool.and_eq_true, decide_eq_true_eq] at h4
      obtain ⟨q1, q2, q3⟩ := h4
      obtain ⟨x, e, hn⟩ := xk_vI q1 hd
      cases e
      have hb := xk_iv_ok h0 hn
      omega
    | none =>
      rw [hdo] at hd
      exact hd
/-- what the cell c says follows of what d says -/
def xk_cw (iv : xk_N) (c d : xk_C) : Bool := Nat.beq c.1 7 || ((Nat.beq c.1 0 && (Nat.beq d.1 0 && (Nat.beq c.2.1 d.2.1 && xk_bL xk_bF c.2.2.1 d.2.2.1))) || ((Nat.beq c.1 12 && (Nat.beq d.1 12 && (Nat.beq c.2.1 d.2.1 && (Nat.beq c.2.2.2.1 d.2.2.2.1 && xk_cwH iv c.2.2.2.2.2 d.2.2.2.2.2)))) || (Nat.beq c.1 d.1 && (Nat.beq c.2.1 d.2.1 && (xk_bL xk_bV c.2.2.1 d.2.2.1 && (Nat.beq c.2.2.2.1 d.2.2.2.1 && (match c.1 with
    | 1 => xk_cwA false iv c.2.2.2.2.1 d.2.2.2.2.1 c.2.2.2.2.2 d.2.2.2.2.2
    | 2 => xk_cwA true iv c.2.2.2.2.1 d.2.2.2.2.1 c.2.2.2.2.2 d.2.2.2.2.2
    | _ => xk_bL xk_bO c.2.2.2.2.2 d.2.2.2.2.2 && (xk_bI c.2.2.2.2.1.1 d.2.2.2.2.1.1 && xk_bI c.2.2.2.2.1.2 d.2.2.2.2.1.2)))))) || (Nat.beq c.1 1 && (Nat.beq d.1 9 && (Nat.beq c.2.1 d.2.1 && (Nat.beq c.2.2.2.1 d.2.2.2.1 && xk_cwA false iv c.2.2.2.2.1 d.2.2.2.2.1 c.2.2.2.2.2 d.2.2.2.2.2)))) || (Nat.beq c.1 8 && ((Nat.beq d.1 8 || (Nat.beq d.1 10 || Nat.beq d.1 11)) && (Nat.beq c.2.1 d.2.1 && (Nat.beq c.2.2.2.1 d.2.2.2.1 && (xk_cwA false iv c.2.2.2.2.1 d.2.2.2.2.1 c.2.2.2.2.2 d.2.2.2.2.2 && (Nat.beq c.2.2.1.length 5 && xk_w8 iv c.2.2.1 d.2.2.1))))))))
theorem xk_cwA_I {b : xk_b} {env : List Int} {ad : List Nat} {iv : xk_N} {cI dI : xk_I} {co do_ : List (Nat × xk_V)} {f : Nat → Int32} {j : Nat} (h0 : xk_ok env iv) (h : xk_cwA false iv cI dI co do_ = true) (hd : xk_eI b env ad dI do_ f j) : xk_eI b env ad cI co f j := by
  unfold xk_cwA at h
  simp only [Bool.and_eq_true] at h
  obtain ⟨h1, h2, h3⟩ := h
  unfold xk_sub at h1
  simp only [Bool.and_eq_true, decide_eq_true_eq] at h1
  unfold xk_eI at hd ⊢
  cases hc : xk_ov co j with
  | some x =>
    have h4 := List.all_eq_true.mp h2 _ (xk_ov_mem hc)
    dsimp only at h4 ⊢
    rw [hc] at h4
    dsimp only at h4
    cases hdo : xk_ov do_ j with
    | some y =>
      rw [hdo] at h4 hd
      have e := xk_bV_eq h4
      subst e
      exact hd
    | none =>
      rw [hdo] at h4 hd
      dsimp only at h4 hd
      unfold xk_cst at h4
      simp only [Bool.and_eq_true] at h4
      obtain ⟨q1, q2, q3, q4⟩ := h4
      have q1 := Nat.eq_of_beq_eq_true q1
      have q3 := xk_bI_eq q3
      have q4 := xk_bI_eq q4
      obtain ⟨xt, xi⟩ := x
      dsimp only at q1
      subst q1
      exact ⟨f j, rfl, by dsimp only at q3 q4 ⊢; omega⟩
  | none =>
    dsimp only
    cases hdo : xk_ov do_ j with
    | some y =>
      have h4 := List.all_eq_true.mp h3 _ (xk_ov_mem hdo)
      dsimp only at h4
      rw [hc] at h4
      dsimp only at h4
      rw [hdo] at h4 hd
      dsimp only at h4 hd
      unfold xk_sub at h4
      simp only [Bool.and_eq_true, decide_eq_true_eq] at h4
      obtain ⟨q1, q2, q3⟩ := h4
      obtain ⟨x, e, hn⟩ := xk_vI (by simpa using q1) hd
      cases e
      have hb := xk_iv_ok h0 hn
      omega
    | none =>
      rw [hdo] at hd
      dsimp only at hd
      omega
theorem xk_cwA_L {b : xk_b} {env : List Int} {ad : List Nat} {iv : xk_N} {cI dI : xk_I} {co do_ : List (Nat × xk_V)} {f : Nat → Int64} {j : Nat} (h0 : xk_ok env iv) (h : xk_cwA true iv cI dI co do_ = true) (hd : xk_eL b env ad dI do_ f j) : xk_eL b env ad cI co f j := by
  unfold xk_cwA at h
  simp only [Bool.and_eq_true] at h
  obtain ⟨h1, h2, h3⟩ := h
  unfold xk_sub at h1
  simp only [Bool.and_eq_true, decide_eq_true_eq] at h1
  unfold xk_eL at hd ⊢
  cases hc : xk_ov co j with
  | some x =>
    have h4 := List.all_eq_true.mp h2 _ (xk_ov_mem hc)
    dsimp only at h4 ⊢
    rw [hc] at h4
    dsimp only at h4
    cases hdo : xk_ov do_ j with
    | some y =>
      rw [hdo] at h4 hd
      have e := xk_bV_eq h4
      subst e
      exact hd
    | none =>
      rw [hdo] at h4 hd
      dsimp only at h4 hd
      unfold xk_cst at h4
      simp only [Bool.and_eq_true] at h4
      obtain ⟨q1, q2, q3, q4⟩ := h4
      have q1 := Nat.eq_of_beq_eq_true q1
      have q3 := xk_bI_eq q3
      have q4 := xk_bI_eq q4
      obtain ⟨xt, xi⟩ := x
      dsimp only at q1
      subst q1
      exact ⟨f j, rfl, by dsimp only at q3 q4 ⊢; omega⟩
  | none =>
    dsimp only
    cases hdo : xk_ov do_ j with
    | some y =>
      have h4 := List.all_eq_true.mp h3 _ (xk_ov_mem hdo)
      dsimp only at h4
      rw [hc] at h4
      dsimp only at h4
      rw [hdo] at h4 hd
      dsimp only at h4 hd
      unfold xk_sub at h4
      simp only [Bool.and_eq_true, decide_eq_true_eq] at h4
      obtain ⟨q1, q2, q3⟩ := h4
      obtain ⟨x, e, hn⟩ := xk_vL (by simpa using q1) hd
      cases e
      have hb := xk_iv_ok h0 hn
      omega
    | none =>
      rw [hdo] at hd
      dsimp only at hd
      omega
theorem xk_w8_ok {b : xk_b} {env : List Int} {ad : List Nat} {iv : xk_N} (h0 : xk_ok env iv) : ∀ {xs ys : List xk_V} {vs : List Int32}, xk_w8 iv xs ys = true → xk_r2 (fun av x => xk_v b env ad av (.int x)) ys vs → ∃ us : List Int32, xk_r2 (fun av x => xk_v b env ad av (.int x)) xs us ∧ ∀ k : Nat, k < us.length → (us.map Int32.toInt).getD k 0 ≤ (vs.map Int32.toInt).getD k 0
  | [], _, _, _, _ => ⟨[], trivial, fun k hk => by simp at hk⟩
  | _ :: _, [], _, h, _ => by unfold xk_w8 at h; cases h
  | _ :: _, _ :: _, [], _, hr => hr.elim
  | x :: xs, y :: ys, v :: vs, h, hr => by
    unfold xk_w8 at h
    simp only [Bool.and_eq_true, Bool.or_eq_true, decide_eq_true_eq] at h
    obtain ⟨h1, h2, h3, h4, h5, h6⟩ := h
    obtain ⟨us, u1, u2⟩ := xk_w8_ok h0 h6 hr.2
    have hx : x.1 = 5 ∨ x.1 = 0 ∧ x.2.toNat < env.length := by
      rcases h1 with h1 | ⟨h1, h1'⟩
      · exact Or.inl (Nat.eq_of_beq_eq_true h1)
      · exact Or.inr ⟨Nat.eq_of_beq_eq_true h1, by rw [h0.1]; exact Nat.le_of_ble_eq_true h1'⟩
    have hn := xk_n_num hx
    have hb := xk_iv_ok h0 hn
    obtain ⟨z, ez, hy⟩ := xk_vI h2 hr.1
    cases ez
    have hle : xk_num env x ≤ v.toInt := by
      rcases h5 with h5 | h5
      · have e := xk_bV_eq h5
        subst e
        unfold xk_n at hn hy
        by_cases hc : xk_isC x = true
        · rw [if_pos hc] at hn hy; omega
        · rw [if_neg hc] at hn hy
          rw [hn] at hy
          have := Option.some.inj hy
          omega
      · have := xk_ent_ok h0 5 hn hy h5
        omega
    have hzi : (Int32.ofInt (xk_num env x)).toInt = xk_num env x := Int32.toInt_ofInt_of_le (by omega) (by omega)
    refine ⟨Int32.ofInt (xk_num env x) :: us, ⟨?_, u1⟩, fun k hk => ?_⟩
    · rcases hx with hx | hx
      · obtain ⟨t, i⟩ := x
        have hx : t = 5 := hx
        subst hx
        exact ⟨_, rfl, hzi⟩
      · obtain ⟨t, i⟩ := x
        have hx1 : t = 0 := hx.1
        subst hx1
        refine ⟨_, rfl, ?_⟩
        rw [hzi]
        exact hn
    · cases k with
      | zero =>
        simp only [List.map_cons, List.getD_cons_zero]
        omega
      | succ k =>
        simp only [List.map_cons, List.getD_cons_succ]
        exact u2 k (by simpa using hk)
theorem xk_cw_ok {U : State} {b : xk_b} {env : List Int} {ad : List Nat} {iv : xk_N} {c d : xk_C} {w : Nat × va_E} (h0 : xk_ok env iv) (h : xk_cw iv c d = true) (hd : xk_c U b env ad d w) : xk_c U b env ad c w := by
  obtain ⟨k, ci, fs, n, I, ov⟩ := c
  obtain ⟨k', ci', fs', n', I', ov'⟩ := d
  unfold xk_cw at h
  rw [Bool.or_eq_true, Bool.or_eq_true, Bool.or_eq_true, Bool.or_eq_true, Bool.or_eq_true] at h
  rcases h with h7 | hz | (((hz | h) | h9) | h8)
  · have e : k = 7 := Nat.eq_of_beq_eq_true h7
    subst e
    trivial
  · simp only [Bool.and_eq_true] at hz
    obtain ⟨e1, e2, e3, h5⟩ := hz
    have e1 : k = 0 := Nat.eq_of_beq_eq_true e1
    have e2 : k' = 0 := Nat.eq_of_beq_eq_true e2
    have e3 : ci = ci' := Nat.eq_of_beq_eq_true e3
    subst e1; subst e2; subst e3
    obtain ⟨vs, q1, q2⟩ := hd
    exact ⟨vs, q1, xk_bF_ok h5 q2⟩
  · simp only [Bool.and_eq_true] at hz
    obtain ⟨e1, e2, e3, e4, h5⟩ := hz
    have e1 : k = 12 := Nat.eq_of_beq_eq_true e1
    have e2 : k' = 12 := Nat.eq_of_beq_eq_true e2
    have e3 : ci = ci' := Nat.eq_of_beq_eq_true e3
    have e4 : n = n' := Nat.eq_of_beq_eq_true e4
    subst e1; subst e2; subst e3; subst e4
    obtain ⟨cA, f, q1, q2, q3⟩ := hd
    exact ⟨cA, f, q1, q2, fun j hj => xk_cwH_ok h0 h5 (q3 j hj)⟩
  · simp only [Bool.and_eq_true] at h
    obtain ⟨e1, e2, e3, e4, h5⟩ := h
    have e1 : k = k' := Nat.eq_of_beq_eq_true e1
    have e2 : ci = ci' := Nat.eq_of_beq_eq_true e2
    have e3 : fs = fs' := xk_bL_eq (fun _ _ q => xk_bV_eq q) e3
    have e4 : n = n' := Nat.eq_of_beq_eq_true e4
    subst e1; subst e2; subst e3; subst e4
    have oth : (xk_bL xk_bO ov ov' && (xk_bI I.1 I'.1 && xk_bI I.2 I'.2)) = true → xk_c U b env ad (k, ci, fs, n, I, ov) w := by
      intro hz
      simp only [Bool.and_eq_true] at hz
      have z1 : ov = ov' := xk_bL_eq (fun _ _ q => xk_bO_eq q) hz.1
      have z2 : I = I' := Prod.ext (xk_bI_eq hz.2.1) (xk_bI_eq hz.2.2)
      subst z1; subst z2
      exact hd
    rcases k with _ | _ | _ | k
    · exact oth h5
    · obtain ⟨cA, f, q1, q2, q3⟩ := hd
      exact ⟨cA, f, q1, q2, fun j hj => xk_cwA_I h0 h5 (q3 j hj)⟩
    · obtain ⟨cA, f, q1, q2, q3⟩ := hd
      exact ⟨cA, f, q1, q2, fun j hj => xk_cwA_L h0 h5 (q3 j hj)⟩
    · exact oth h5
  · simp only [Bool.and_eq_true] at h9
    obtain ⟨e1, e2, e3, e4, h5⟩ := h9
    have e1 : k = 1 := Nat.eq_of_beq_eq_true e1
    have e2 : k' = 9 := Nat.eq_of_beq_eq_true e2
    have e3 : ci = ci' := Nat.eq_of_beq_eq_true e3
    have e4 : n = n' := Nat.eq_of_beq_eq_true e4
    subst e1; subst e2; subst e3; subst e4
    obtain ⟨cA, f, q1, q2, q3, -⟩ := hd
    exact ⟨cA, f, q1, q2, fun j hj => xk_cwA_I h0 h5 (q3 j hj)⟩
  · simp only [Bool.and_eq_true, Bool.or_eq_true] at h8
    obtain ⟨e1, e2, e3, e4, h5, h6, h7⟩ := h8
    have e1 : k = 8 := Nat.eq_of_beq_eq_true e1
    have e3 : ci = ci' := Nat.eq_of_beq_eq_true e3
    have e4 : n = n' := Nat.eq_of_beq_eq_true e4
    have h6 : fs.length = 5 := Nat.eq_of_beq_eq_true h6
    subst e1; subst e3; subst e4
    have key : ∀ md : Nat, xk_c8 md U b env ad (k', ci, fs', n, I', ov') w → xk_c8 0 U b env ad (8, ci, fs, n, I, ov) w := by
      intro md hz
      obtain ⟨cA, f, q1, q2, q3, vs, q4, q5⟩ := hz
      obtain ⟨us, u1, u2⟩ := xk_w8_ok (b := b) (ad := ad) h0 h7 q4
      refine ⟨cA, f, q1, q2, fun j hj => xk_cwA_I h0 h5 (q3 j hj), us, u1, fun j hj => ?_, trivial⟩
      have hlen : us.length = 5 := by rw [← xk_r2_len u1]; exact h6
      intro i i' h1 h2 hne
      have hj2 := u2 j (by omega)
      exact q5.1 j hj i i' (by omega) (by omega) hne
    rcases e2 with e2 | e2 | e2
    · have e2 : k' = 8 := Nat.eq_of_beq_eq_true e2
      subst e2
      exact key 0 hd
    · have e2 : k' = 10 := Nat.eq_of_beq_eq_true e2
      subst e2
      exact key 1 hd
    · have e2 : k' = 11 := Nat.eq_of_beq_eq_true e2
      subst e2
      exact key 2 hd
def xk_bP (iv : xk_N) (mp : List xk_V) (pm : List Nat) (om : Option (List xk_V)) (hp : List xk_C) : List xk_C → List Nat → Bool
  | [], [] => true
  | c :: cs, p :: ps => (match hp[p]? with
    | some d => xk_cw iv (xk_sc mp pm om c) d
    | none => false) && xk_bP iv mp pm om hp cs ps
  | _, _ => false
theorem xk_bP_len {iv : xk_N} {mp : List xk_V} {pm : List Nat} {om : Option (List xk_V)} {hp : List xk_C} : ∀ {cs : List xk_C} {ps : List Nat}, xk_bP iv mp pm om hp cs ps = true → ps.length = cs.length
  | [], [], _ => rfl
  | [], _ :: _, h => by cases h
  | _ :: _, [], h => by cases h
  | c :: cs, p :: ps, h => by
    unfold xk_bP at h
    rw [Bool.and_eq_true] at h
    rw [List.length_cons, List.length_cons, xk_bP_len h.2]
theorem xk_bP_get {iv : xk_N} {mp : List xk_V} {pm : List Nat} {om : Option (List xk_V)} {hp : List xk_C} : ∀ {cs : List xk_C} {ps : List Nat} {i p : Nat}, xk_bP iv mp pm om hp cs ps = true → ps[i]? = some p → ∃ c d, cs[i]? = some c ∧ hp[p]? = some d ∧ xk_cw iv (xk_sc mp pm om c) d = true
  | [], [], _, _, _, hi => by simp at hi
  | [], _ :: _, _, _, h, _ => by cases h
  | _ :: _, [], _, _, h, _ => by cases h
  | c :: cs, q :: ps, i, p, h, hi => by
    unfold xk_bP at h
    rw [Bool.and_eq_true] at h
    cases i with
    | zero =>
      have e : q = p := Option.some.inj hi
      subst e
      have h1 := h.1
      split at h1
      · rename_i d hd
        exact ⟨c, d, rfl, hd, h1⟩
      · cases h1
    | succ i =>
      rw [List.getElem?_cons_succ] at hi
      obtain ⟨c', d, e1, e2, e3⟩ := xk_bP_get h.2 hi
      exact ⟨c', d, by rw [List.getElem?_cons_succ]; exact e1, e2, e3⟩
/-- a reference of which nothing is told, among the fields -/
def xk_oc (hp : List xk_C) (j : Nat) : Bool := hp.any (fun c => Nat.beq c.1 0 && c.2.2.1.any (fun v => Nat.beq v.1 7 && Nat.beq v.2.toNat j))
theorem xk_oc_ok {U : State} {b : xk_b} {env : List Int} {ad : List Nat} {hp : List xk_C} {ws : va_W} {j : Nat} (hr : xk_r2 (xk_c U b env ad) hp ws) (h : xk_oc hp j = true) : j < b.2.2.2.1.length := by
  unfold xk_oc at h
  obtain ⟨c, hc, h⟩ := List.any_eq_true.mp h
  rw [Bool.and_eq_true] at h
  obtain ⟨h0, h⟩ := h
  obtain ⟨v, hv, h⟩ := List.any_eq_true.mp h
  rw [Bool.and_eq_true] at h
  obtain ⟨k, hk⟩ := List.getElem?_of_mem hc
  obtain ⟨w, hw, hcw⟩ := xk_r2_get k hr hk
  obtain ⟨ck, ci, fs, n, I, ov⟩ := c
  have e0 : ck = 0 := Nat.eq_of_beq_eq_true h0
  subst e0
  obtain ⟨vs, e1, hvs⟩ := hcw
  obtain ⟨i, hi⟩ := List.getElem?_of_mem hv
  obtain ⟨x, hx, hvx⟩ := xk_r2_get i hvs hi
  obtain ⟨vt, vi⟩ := v
  have e7 : vt = 7 := Nat.eq_of_beq_eq_true h.1
  have ej : vi.toNat = j := Nat.eq_of_beq_eq_true h.2
  subst e7
  obtain ⟨a, -, ha⟩ := hvx
  rw [← ej]
  exact (List.getElem?_eq_some_iff.mp ha).1
def xk_oks (hp : List xk_C) (om : List xk_V) : Bool := om.all (fun q => (Nat.beq q.1 2 && Nat.blt q.2.toNat hp.length) || (Nat.beq q.1 7 && xk_oc hp q.2.toNat))
/-- a fact, told in other numbers: it stands among the known ones -/
def xk_ffe (mp : List xk_V) : List Nat → List Nat → Bool
  | [], [] => true
  | i :: is, j :: js => (match mp[i]? with
    | some q => Nat.beq q.1 0 && Nat.beq q.2.toNat j
    | none => false) && xk_ffe mp is js
  | _, _ => false
/-- facts that have further numbers -/
def xk_fes (id : Nat) : Bool := Nat.beq id 6 || (Nat.beq id 12 || (Nat.beq id 14 || (Nat.beq id 16 || Nat.beq id 17)))
theorem xk_fes_ok {id : Nat} {x y : Int} {es es' : List Int} {cst : Nat} (h : xk_fes id = false) (hf : xk_fa id x y es cst) : xk_fa id x y es' cst := by
  unfold xk_fa at hf ⊢
  split at hf <;> first | exact hf | (exfalso; revert h; decide) | exact hf.elim
def xk_ffit (iv : xk_N) (mp : List xk_V) (a c : xk_V) (k : Int) : Bool := Nat.beq a.1 0 && (Nat.beq c.1 0 && (decide ((xk_iv iv a).2 ≤ (xk_iv iv c).1 + xk_big) && iv.2.any (fun r => Nat.beq r.1 a.2.toNat && (Nat.beq r.2.1 c.2.toNat && (decide (xk_big ≤ r.2.2) && (Nat.beq (xk_dec r.2.2).1 (xk_dec k).1 && (Nat.beq (xk_dec r.2.2).2.2 (xk_dec k).2.2 && (if xk_fes (xk_dec k).1 then xk_ffe mp (xk_dec k).2.1 (xk_dec r.2.2).2.1 else (xk_dec k).2.1.all (fun i => Nat.blt i mp.length)))))))))
theorem xk_ffe_ok {env : List Int} {mp : List xk_V} : ∀ {is js : List Nat}, xk_ffe mp is js = true → (∀ i ∈ is, i < mp.length) ∧ is.map (fun i => (mp.map (xk_num env)).getD i 0) = js.map (fun j => env.getD j 0)
  | [], [], _ => ⟨fun _ h => absurd h List.not_mem_nil, rfl⟩
  | [], _ :: _, h => by unfold xk_ffe at h; cases h
  | _ :: _, [], h => by unfold xk_ffe at h; cases h
  | i :: is, j :: js, h => by
    unfold xk_ffe at h
    rw [Bool.and_eq_true] at h
    obtain ⟨g1, g2⟩ := xk_ffe_ok (env := env) h.2
    have h1 := h.1
    split at h1
    · rename_i q hq
      rw [Bool.and_eq_true] at h1
      have e1 : q.1 = 0 := Nat.eq_of_beq_eq_true h1.1
      have e2 : q.2.toNat = j := Nat.eq_of_beq_eq_true h1.2
      have e3 : (mp.map (xk_num env)).getD i 0 = env.getD j 0 := by
        rw [List.getD_eq_getElem?_getD, List.getElem?_map, hq]
        show xk_num env q = _
        unfold xk_num
        rw [if_neg (by omega), e2]
      refine ⟨fun z hz => ?_, by rw [List.map_cons, List.map_cons, e3, g2]⟩
      rcases List.mem_cons.mp hz with rfl | hz
      · exact (List.getElem?_eq_some_iff.mp hq).1
      · exact g1 z hz
    · cases h1
def xk_fitN (iv : xk_N) (mp : List xk_V) (N : xk_N) : Bool := decide (mp.length = N.1.length) && mp.all (fun q => decide (q.1 = 5) || (decide (q.1 = 0) && decide (q.2.toNat < iv.1.length))) && (mp.zip N.1).all (fun z => decide (z.2.1 ≤ (xk_iv iv z.1).1) && (decide ((xk_iv iv z.1).2 ≤ z.2.2) || xk_ent 6 iv z.1 (5, z.2.2) 0)) && N.2.all (fun r => match mp[r.1]?, mp[r.2.1]? with
    | some a, some c => if xk_big ≤ r.2.2 then xk_ffit iv mp a c r.2.2 else xk_ent 5 iv a c r.2.2
    | _, _ => false)
theorem xk_fitN_ok {env : List Int} {iv N : xk_N} {mp : List xk_V} (h0 : xk_ok env iv) (h : xk_fitN iv mp N = true) : (∀ q ∈ mp, q.1 = 5 ∨ q.1 = 0 ∧ q.2.toNat < env.length) ∧ mp.length = N.1.length ∧ xk_ok (mp.map (xk_num env)) N := by
  unfold xk_fitN at h
  simp only [Bool.and_eq_true, decide_eq_true_eq] at h
  obtain ⟨⟨⟨f4, f5⟩, f6⟩, f8⟩ := h
  have hlen1 : env.length = iv.1.length := h0.1
  have hmp : ∀ q ∈ mp, q.1 = 5 ∨ q.1 = 0 ∧ q.2.toNat < env.length := by
    intro q hq
    have h1 := List.all_eq_true.mp f5 q hq
    simp only [Bool.or_eq_true, Bool.and_eq_true, decide_eq_true_eq] at h1
    rw [hlen1]
    exact h1
  have hval : ∀ (i : Nat) (q : xk_V), mp[i]? = some q → xk_n env q (xk_num env q) := fun i q hq => xk_n_num (hmp q (List.mem_of_getElem? hq))
  refine ⟨hmp, f4, by rw [List.length_map]; exact f4, fun i n J hn hJ => ?_, fun r hr => ?_⟩
  · rw [List.getElem?_map] at hn
    cases hq : mp[i]? with
    | none => rw [hq] at hn; cases hn
    | some q =>
      rw [hq] at hn
      have hn2 : xk_num env q = n := Option.some.inj hn
      have hz : (mp.zip N.1)[i]? = some (q, J) := by rw [List.getElem?_zip_eq_some]; exact ⟨hq, hJ⟩
      have h1 := List.all_eq_true.mp f6 _ (List.mem_of_getElem? hz)
      simp only [Bool.and_eq_true, Bool.or_eq_true, decide_eq_true_eq] at h1
      have h2 := xk_iv_ok h0 (hval i q hq)
      have h3 : (xk_iv iv q).1 ≤ xk_num env q := h2.1
      have h4 : xk_num env q ≤ (xk_iv iv q).2 := h2.2
      rcases h1.2 with h5 | h5
      · omega
      · have h6 := xk_ent_ok (c := (5, J.2)) (y := J.2) h0 6 (hval i q hq) rfl h5
        omega
  · have h1 := List.all_eq_true.mp f8 r hr
    split at h1
    · rename_i a c ea ec
      refine ⟨by rw [List.length_map]; exact (List.getElem?_eq_some_iff.mp ea).1, by rw [List.length_map]; exact (List.getElem?_eq_some_iff.mp ec).1, ?_⟩
      split at h1
      · rename_i hbk
        unfold xk_ffit at h1
        rw [Bool.and_eq_true, Bool.and_eq_true, Bool.and_eq_true, decide_eq_true_eq] at h1
        obtain ⟨a0, c0, hbb, h2⟩ := h1
        obtain ⟨r2, hr2, h3⟩ := List.any_eq_true.mp h2
        simp only [Bool.and_eq_true, decide_eq_true_eq] at h3
        obtain ⟨k1, k2, k3, k4, k5, k6⟩ := h3
        have a0 := Nat.eq_of_beq_eq_true a0
        have c0 := Nat.eq_of_beq_eq_true c0
        have k1 := Nat.eq_of_beq_eq_true k1
        have k2 := Nat.eq_of_beq_eq_true k2
        have k4 := Nat.eq_of_beq_eq_true k4
        have k5 := Nat.eq_of_beq_eq_true k5
        obtain ⟨m1, m2, m3⟩ := h0.2.2 r2 hr2
        obtain ⟨f1, f2⟩ := m3.2 k3
        have ga : (mp.map (xk_num env)).getD r.1 0 = env.getD r2.1 0 := by
          rw [List.getD_eq_getElem?_getD, List.getElem?_map, ea]
          show xk_num env a = _
          unfold xk_num
          rw [if_neg (by omega), k1]
        have gc : (mp.map (xk_num env)).getD r.2.1 0 = env.getD r2.2.1 0 := by
          rw [List.getD_eq_getElem?_getD, List.getElem?_map, ec]
          show xk_num env c = _
          unfold xk_num
          rw [if_neg (by omega), k2]
        refine ⟨fun x y hx hy => ?_, fun _ => ?_⟩
        · rw [List.getElem?_map, ea] at hx
          rw [List.getElem?_map, ec] at hy
          have hx2 : xk_num env a = x := Option.some.inj hx
          have hy2 : xk_num env c = y := Option.some.inj hy
          have n1 := xk_iv_ok h0 (hval _ a ea)
          have n2 := xk_iv_ok h0 (hval _ c ec)
          rw [← hx2, ← hy2]
          omega
        · split at k6
          · obtain ⟨g1, g2⟩ := xk_ffe_ok (env := env) k6
            refine ⟨fun i hi => by rw [List.length_map]; exact g1 i hi, ?_⟩
            rw [ga, gc, g2, ← k4, ← k5]
            exact f2
          · rename_i hfe
            refine ⟨fun i hi => by rw [List.length_map]; exact Nat.le_of_ble_eq_true (List.all_eq_true.mp k6 i hi), ?_⟩
            rw [ga, gc, ← k4, ← k5]
            exact xk_fes_ok (by rw [k4]; simpa using hfe) f2
      · rename_i hbk
        refine ⟨fun x y hx hy => ?_, fun z => absurd z hbk⟩
        rw [List.getElem?_map, ea] at hx
        rw [List.getElem?_map, ec] at hy
        have hx2 : xk_num env a = x := Option.some.inj hx
        have hy2 : xk_num env c = y := Option.some.inj hy
        rw [← hx2, ← hy2]
        exact xk_ent_ok h0 5 (hval _ a ea) (hval _ c ec) h1
    · cases h1
/-- the call fits: arguments, cells, bounds -/
def xk_fitK (K : xk_K) (mp : List xk_V) (pm : List Nat) (om : List xk_V) (iv : xk_N) (As : List xk_V) (hp : List xk_C) : Bool :=
  xk_bL xk_bV (K.1.2.1.map (xk_sv mp pm (some om))) As && xk_bP iv mp pm (some om) hp K.1.2.2 pm && va_nd pm && xk_fitN iv mp K.1.1 && K.2.1.all (fun P => decide (K.1.1.1.length ≤ P.1.1.length) && decide (K.1.2.2.length ≤ P.2.2.length)) && xk_oks hp om
section XE
variable {p : Program} {l : Launch} {e : Env} {R : Room} {s : State} {m : MethodId} {args : Array Value} {below : List Frame} {meth : Method} {c : Code} {Q : State → Prop} {b : xk_b} {D : va_G} {A : Nat → Prop} {own : String} {cc : ByteArray} {nL : Nat} {pc : Nat} {iv iv' : xk_N} {lo : List (Nat × xk_V)} {st : List xk_V} {hp : List xk_C} {kc ks : Nat}
theorem xk_s_call (F : xk_Fx p s m args c D A own cc nL) (SU : xk_SUH b.2.2.2 A s s.heap) {K : xk_K} {mp : List xk_V} {pm : List Nat} {om As rest : List xk_V} (hR : xk_Rn l D own cc nL R pc K) (hf : xk_fitK K mp pm om iv As hp = true) (hsum : (rest.map xk_cat).sum ≤ 8) (hcells : kc + K.2.2.2.2.1 ≤ R.cells) (hslots : ks + K.2.2.2.2.2 ≤ R.slots) (kk : ∀ P ∈ K.2.1, ∀ iv2, xk_afn K mp iv P = some iv2 → xk_G p l e R s m args below meth c Q b nL D A (pc + 3) (xk_aft K mp pm om iv.1.length lo rest hp kc ks P iv2)) : xk_G p l e R s m args below meth c Q b nL D A pc (iv, lo, As.reverse ++ rest, hp, kc, ks) := by
  intro env ad H locs ls sv h
  unfold xk_fitK at hf
  simp only [Bool.and_eq_true, decide_eq_true_eq] at hf
  obtain ⟨⟨⟨⟨⟨f1, f2⟩, f3⟩, fN⟩, f7⟩, fO⟩ := hf
  have f1 := xk_bL_eq (fun _ _ q => xk_bV_eq q) f1
  obtain ⟨h0, ⟨lvs, hl, hlr⟩, hst, ws, a1, a2, hP, hD, hS, hpre⟩ := h
  have hlen1 : env.length = iv.1.length := h0.1
  have hlen2 : hp.length = ad.length := by rw [← a1, List.length_map]; exact xk_r2_len a2
  obtain ⟨hmp, f4, hok⟩ := xk_fitN_ok h0 fN
  have hpmw : ∀ (i p : Nat), pm[i]? = some p → ∃ (ce : xk_C) (w : Nat × va_E), K.1.2.2[i]? = some ce ∧ p < hp.length ∧ ws[p]? = some w ∧ xk_c s b env ad (xk_sc mp pm (some om) ce) w := by
    intro i p hi
    obtain ⟨ce, d, e1, e2, e3⟩ := xk_bP_get f2 hi
    obtain ⟨w, e4, e5⟩ := xk_r2_get p a2 e2
    exact ⟨ce, w, e1, (List.getElem?_eq_some_iff.mp e2).1, e4, xk_cw_ok h0 e3 e5⟩
  have hpm : ∀ p ∈ pm, p < ad.length := by
    intro p hp'
    obtain ⟨i, hi⟩ := List.getElem?_of_mem hp'
    obtain ⟨ce, w, -, e2, -, -⟩ := hpmw i p hi
    rw [← hlen2]
    exact e2
  have hplen : pm.length = K.1.2.2.length := xk_bP_len f2
  have hom : xk_ook b ad (some om) := by
    intro l0 e0 q hq
    cases e0
    have h1 := List.all_eq_true.mp fO q hq
    simp only [Bool.or_eq_true, Bool.and_eq_true] at h1
    rcases h1 with ⟨z1, z2⟩ | ⟨z1, z2⟩
    · exact Or.inl ⟨Nat.eq_of_beq_eq_true z1, by rw [← hlen2]; exact Nat.le_of_ble_eq_true z2⟩
    · exact Or.inr ⟨Nat.eq_of_beq_eq_true z1, xk_oc_ok a2 z2⟩
  obtain ⟨svA, svR, esv, r1, r2⟩ := xk_r2_split hst
  have hAv : xk_r2 (xk_v b env ad) As svA.reverse := by
    have h1 := xk_r2_rev r1
    rwa [List.reverse_reverse] at h1
  have hargs : xk_r2 (xk_v (0, [], [], xk_oq b ad (some om)) (mp.map (xk_num env)) (pm.map (fun p => ad.getD p 0))) K.1.2.1 svA.reverse := by
    rw [← f1] at hAv
    exact xk_r2_mapl (f := xk_sv mp pm (some om)) (fun _ _ q => xk_sv_in q) hAv
  have hwl : ws.length = ad.length := by rw [← a1, List.length_map]
  obtain ⟨wsc, hwsc⟩ : ∃ wsc : va_W, wsc = pm.map (fun p => ws.getD p (0, .inr (0, []))) := ⟨_, rfl⟩
  have hmap : pm.map (fun i => ws[i]?) = wsc.map some := by
    rw [hwsc, List.map_map]
    refine List.map_congr_left fun p hp' => ?_
    have hl2 : p < ws.length := by rw [hwl]; exact hpm p hp'
    show ws[p]? = some (ws.getD p (0, .inr (0, [])))
    rw [List.getD_eq_getElem?_getD, List.getElem?_eq_getElem hl2]
    rfl
  have hfm : pm.filterMap (fun i => ws[i]?) = wsc := by
    have e := congrArg (fun z => z.filterMap id) hmap
    simp only [List.filterMap_map] at e
    rw [show (id ∘ fun i => ws[i]?) = (fun i => ws[i]?) from rfl] at e
    rw [e]
    rw [show (id ∘ (some : Nat × va_E → Option (Nat × va_E))) = some from rfl, List.filterMap_some]
  have hwa : wsc.map Prod.fst = pm.map (fun p => ad.getD p 0) := by
    rw [hwsc, List.map_map]
    refine List.map_congr_left fun p hp' => ?_
    have hl2 : p < ws.length := by rw [hwl]; exact hpm p hp'
    show (ws.getD p (0, .inr (0, []))).1 = ad.getD p 0
    rw [← a1, List.getD_eq_getElem?_getD, List.getD_eq_getElem?_getD, List.getElem?_map, List.getElem?_eq_getElem hl2]
    rfl
  have hwcr : xk_r2 (xk_c s (0, [], [], xk_oq b ad (some om)) (mp.map (xk_num env)) (pm.map (fun p => ad.getD p 0))) K.1.2.2 wsc := by
    refine xk_r2_of (by rw [hwsc, List.length_map]; exact Eq.symm hplen) fun i ce w hce hw' => ?_
    have hi : i < pm.length := by rw [hplen]; exact (List.getElem?_eq_some_iff.mp hce).1
    obtain ⟨ce', w2, c1, c2, c3, c4⟩ := hpmw i pm[i] (List.getElem?_eq_getElem hi)
    rw [c1] at hce
    cases hce
    rw [hwsc, List.getElem?_map, List.getElem?_eq_getElem hi] at hw'
    have hw3 : ws.getD pm[i] (0, .inr (0, [])) = w := Option.some.inj hw'
    rw [List.getD_eq_getElem?_getD, c3] at hw3
    have hw4 : w2 = w := hw3
    subst hw4
    exact xk_c_in (f := xk_sv mp pm (some om)) (Vm.Alike.refl _) (fun _ _ q => xk_sv_in q) c4
  have hsub := hP.sub pm hfm
  have hDs := (hD.sub pm f3 hmap).weaken (B := fun _ => True) (fun _ _ _ _ => trivial)
  have hs8 : (svR.map fun v => v.category).sum ≤ 8 := by rw [xk_catsum r2]; exact hsum
  have hAfr : ∀ q : Nat, xk_fr (pm.map (fun p => ad.getD p 0)) H.size q → A q := by
    intro q hq
    rcases hq with hm | hm
    · obtain ⟨p', hp', ep⟩ := List.mem_map.mp hm
      have hlp : p' < ws.length := by rw [hwl]; exact hpm p' hp'
      have e3 : ws[p']? = some ws[p'] := List.getElem?_eq_getElem hlp
      have e4 : ws[p'].1 = q := by
        rw [← ep, ← a1, List.getD_eq_getElem?_getD, List.getElem?_map, e3]
        rfl
      rw [← e4]
      exact hD.2 p' _ e3
    · exact F.2.2.2.2.2.2 q (Nat.le_trans hS.1 hm)
  have hZ : xk_SUH (xk_oq b ad (some om)) (xk_fr (pm.map (fun p => ad.getD p 0)) H.size) s H := xk_SUH_kept (oq := xk_oq b ad (some om)) SU hS hAfr
  have run := hR p e s m args below meth c A (mp.map (xk_num env)) (pm.map (fun p => ad.getD p 0)) (xk_oq b ad (some om)) H locs kc ks ls svA.reverse svR F hl.1 hok hargs ⟨wsc, hwa, hwcr, hsub, hDs⟩ hZ hs8 hcells hslots
  rw [List.reverse_reverse, ← esv] at run
  intro T hT X
  obtain ⟨v, st₀, t, T', L, e0, X', hL, e1, e2, ⟨⟨P, hPm, e2', a2', rv, er, okP, hres, wsP, b1, b2, hP1, hD1⟩, hz, hk⟩, hgo⟩ := run T hT X
  cases er
  rw [e0] at hz hk
  have hal : s.vm.Alike t.vm := by rw [← e2]; exact X'.warmed.alike
  have hl1 : e2'.length = P.1.1.length - K.1.1.1.length := by
    have h1 := okP.1
    rw [List.length_append, List.length_map, f4] at h1
    omega
  have hl2 : a2'.length = P.2.2.length - K.1.2.2.length := by
    have h1 := xk_r2_len b2
    have h2 := congrArg List.length b1
    rw [List.length_map, List.length_append, List.length_map, hplen] at h2
    omega
  obtain ⟨iv1, er1, ok1⟩ := xk_refs_ok mp P.1.1 h0 hmp (fun i q J hq hJ => by
    have h1 : (mp.map (xk_num env) ++ e2')[i]? = some (xk_num env q) := xk_ga (by rw [List.getElem?_map, hq]; rfl)
    exact okP.2.1 i _ J h1 hJ)
  have oknew0 : xk_ok (env ++ e2') (iv1.1 ++ P.1.1.drop K.1.1.1.length, iv1.2) := by
    refine xk_ok_apps ok1 (by rw [List.length_drop]; exact hl1) (fun i n J hn hJ => ?_)
    rw [List.getElem?_drop] at hJ
    refine okP.2.1 (K.1.1.1.length + i) n J ?_ hJ
    rw [List.getElem?_append_right (by rw [List.length_map, f4]; omega), List.length_map, f4]
    rw [show K.1.1.1.length + i - K.1.1.1.length = i by omega]
    exact hn
  obtain ⟨iv2, er2, oknew⟩ := xk_rels_ok (mp := xk_mp2 mp iv.1.length (P.1.1.length - K.1.1.1.length)) P.1.2 oknew0 (fun r hr a c ea ec => by
    rw [← hl1, ← hlen1] at ea ec
    obtain ⟨x, hx, hnx⟩ := xk_mp2_n hmp ea
    obtain ⟨y, hy, hny⟩ := xk_mp2_n hmp ec
    exact ⟨x, y, hnx, hny, (okP.2.2 r hr).2.2.1 x y hx hy⟩)
  have er3 : xk_afn K mp iv P = some iv2 := by
    unfold xk_afn
    rw [er1]
    exact er2
  have hout : ∀ (av : xk_V) (w : Value), xk_v (0, [], [], xk_oq b ad (some om)) (mp.map (xk_num env) ++ e2') (pm.map (fun p => ad.getD p 0) ++ a2') av w → xk_v b (env ++ e2') (ad ++ a2') (xk_sv (xk_mp2 mp iv.1.length (P.1.1.length - K.1.1.1.length)) (xk_pm2 pm hp.length (P.2.2.length - K.1.2.2.length)) (some om) av) w := by
    intro av w hw
    have h1 := xk_sv_out (b := b) hmp hpm hom hw
    unfold xk_mp2 xk_pm2
    rw [← hl1, ← hl2, ← hlen1, hlen2]
    exact h1
  have hcP : xk_r2 (xk_c s b (env ++ e2') (ad ++ a2')) (P.2.2.map (xk_sc (xk_mp2 mp iv.1.length (P.1.1.length - K.1.1.1.length)) (xk_pm2 pm hp.length (P.2.2.length - K.1.2.2.length)) (some om))) wsP := xk_r2_mapr (f := xk_sc (xk_mp2 mp iv.1.length (P.1.1.length - K.1.1.1.length)) (xk_pm2 pm hp.length (P.2.2.length - K.1.2.2.length)) (some om)) (fun _ _ q => xk_c_out (f := xk_sv (xk_mp2 mp iv.1.length (P.1.1.length - K.1.1.1.length)) (xk_pm2 pm hp.length (P.2.2.length - K.1.2.2.length)) (some om)) hal.symm hout q) b2
  have hold : xk_r2 (xk_c s b (env ++ e2') (ad ++ a2')) hp ws := xk_r2_mono (fun _ _ q => xk_c_map (Vm.Alike.refl _) (fun _ _ z => xk_v_mono e2' a2' z) q) a2
  have hfst : (xk_mix ws pm wsP).map Prod.fst = ad := by
    rw [xk_mix_map, a1, b1]
    exact xk_mix_id ad pm a2' hpm
  have hplP : pm.length ≤ wsP.length := by
    have h2 := congrArg List.length b1
    rw [List.length_map, List.length_append, List.length_map] at h2
    omega
  have hfstd : (wsP.drop pm.length).map Prod.fst = a2' := by
    rw [List.map_drop, b1]
    have h3 : pm.length = (pm.map (fun p => ad.getD p 0)).length := by rw [List.length_map]
    rw [h3, List.drop_left]
  have hapart : ∀ (k : Nat) (q : Nat × va_E), ws[k]? = some q → k ∉ pm → q.1 < H.size ∧ ¬ xk_fr (pm.map (fun p => ad.getD p 0)) H.size q.1 := by
    intro k q hq hkp
    have hlt := (hP k q hq).lt
    refine ⟨hlt, fun hfr => ?_⟩
    rcases hfr with hm | hm
    · obtain ⟨p', hp', ep⟩ := List.mem_map.mp hm
      have hlp : p' < ws.length := by rw [hwl]; exact hpm p' hp'
      have e3 : ws[p']? = some ws[p'] := List.getElem?_eq_getElem hlp
      have e4 : ws[p'].1 = q.1 := by
        rw [← ep, ← a1, List.getD_eq_getElem?_getD, List.getElem?_map, e3]
        rfl
      have e5 := hD.1 p' k _ q e3 hq e4
      subst e5
      exact hkp hp'
    · omega
  have hPn : va_P D vwCl (xk_mix ws pm wsP ++ wsP.drop pm.length) t.heap := by
    refine va_P.app (fun k q hq => ?_) (fun k q hq => ?_)
    · rcases xk_mix_get pm hplP hq with hm | ⟨hm, hkp⟩
      · obtain ⟨i, hi⟩ := List.getElem?_of_mem hm
        exact hP1 i q hi
      · obtain ⟨g1, g2⟩ := hapart k q hm hkp
        exact (hP k q hm).kept (hk q.1 g1 g2)
    · rw [List.getElem?_drop] at hq
      exact hP1 _ q hq
  have hDn : va_D A (xk_mix ws pm wsP ++ wsP.drop pm.length) := by
    refine va_D.app (xk_D_ad hD (by rw [hfst, a1])) ⟨fun i j x y hx hy hxy => ?_, fun k q hq => ?_⟩ (fun i j x y hx hy hxy => ?_)
    · rw [List.getElem?_drop] at hx hy
      have h1 := hD1.1 _ _ x y hx hy hxy
      omega
    · rw [List.getElem?_drop] at hq
      exact hAfr _ (hD1.2 _ q hq)
    · rw [List.getElem?_drop] at hy
      have h1 : ((xk_mix ws pm wsP).map Prod.fst)[i]? = some x.1 := by rw [List.getElem?_map, hx]; rfl
      rw [hfst, ← a1, List.getElem?_map] at h1
      cases hw : ws[i]? with
      | none => rw [hw] at h1; cases h1
      | some w =>
        rw [hw] at h1
        have h2 : w.1 = x.1 := Option.some.inj h1
        have hlt := (hP i w hw).lt
        rcases hD1.2 _ y hy with hm | hm
        · obtain ⟨i2, hi2⟩ := List.getElem?_of_mem hm
          have hi3 : i2 < pm.length := by
            have h5 := (List.getElem?_eq_some_iff.mp hi2).1
            rwa [List.length_map] at h5
          have h6 : (wsP.map Prod.fst)[i2]? = some y.1 := by rw [b1]; exact xk_ga hi2
          rw [List.getElem?_map] at h6
          cases hw2 : wsP[i2]? with
          | none => rw [hw2] at h6; cases h6
          | some w2 =>
            rw [hw2] at h6
            have h7 := hD1.1 i2 _ w2 y hw2 hy (Option.some.inj h6)
            omega
        · omega
  have hSn : va_S A s.heap t.heap (locs ++ L) := ⟨Nat.le_trans hS.1 hz, fun q h1 h2 => by rw [hk q (Nat.lt_of_lt_of_le h1 hS.1) (fun z => h2 (hAfr q z))]; exact hS.2.1 q h1 h2, fun q hq => by
    rcases List.mem_append.mp hq with h9 | h9
    · exact hS.2.2 q h9
    · exact hAfr _ (hL q h9)⟩
  have hstk : xk_r2 (xk_v b (env ++ e2') (ad ++ a2')) (xk_aft K mp pm om iv.1.length lo rest hp kc ks P iv2).2.2.1 (v.toList ++ svR) := by
    have hrest := xk_r2_mono (fun _ _ z => xk_v_mono e2' a2' z) r2
    unfold xk_aft
    unfold xk_res at hres
    cases hpr : P.2.1 with
    | none =>
      rw [hpr] at hres
      have hv : v = none := hres
      subst hv
      exact hrest
    | some av =>
      rw [hpr] at hres
      obtain ⟨w, hv, hw⟩ := hres
      subst hv
      exact ⟨hout av w hw, hrest⟩
  have hin : xk_In b nL s D A (xk_aft K mp pm om iv.1.length lo rest hp kc ks P iv2) (env ++ e2') (ad ++ a2') t.heap (locs ++ L) ls (v.toList ++ svR) := by
    refine ⟨oknew, ⟨lvs, hl, xk_r2_mono (fun _ _ z => ⟨z.1, xk_v_mono e2' a2' z.2⟩) hlr⟩, hstk, xk_mix ws pm wsP ++ wsP.drop pm.length, by rw [List.map_append, hfst, hfstd], ?_, hPn, hDn, hSn, xk_pre_mono hpre⟩
    refine xk_r2_app ?_ (xk_r2_mix pm hold hcP)
    have hd := xk_r2_drop pm.length hcP
    rw [← List.map_drop, hplen] at hd
    rw [hplen]
    exact hd
  obtain ⟨t2, g1, g2⟩ := kk P hPm iv2 er3 _ _ _ _ _ _ hin T' e1 X'
  exact ⟨t2, hgo t2 g1, g2⟩
end XE

/-- where a number, a cell or a reference stands: 0 a value of the list, 1 a field of a cell, 2 a place of a row, 3 a constant -/
abbrev xk_Lo : Type := Nat × Nat × Nat
abbrev xk_L : Type := List xk_Lo × List xk_Lo × List xk_Lo
def xk_lv (As : List xk_V) (hp : List xk_C) (pm : List Nat) (q : xk_Lo) : Option xk_V := match q.1 with
  | 0 => As[q.2.1]?
  | 1 => (match pm[q.2.1]? with
    | some p => (match hp[p]? with
      | some c => c.2.2.1[q.2.2]?
      | none => none)
    | none => none)
  | 2 => (match pm[q.2.1]? with
    | some p => (match hp[p]? with
      | some c => (match xk_ov c.2.2.2.2.2 q.2.2 with
        | some v => some v
        | none => if xk_bI c.2.2.2.2.1.1 c.2.2.2.2.1.2 then some (5, c.2.2.2.2.1.1) else none)
      | none => none)
    | none => none)
  | 3 => some (5, (q.2.1 : Int))
  | _ => none
def xk_lcs (As : List xk_V) (hp : List xk_C) : List Nat → List xk_Lo → Option (List Nat)
  | pm, [] => some pm
  | pm, q :: r => match xk_lv As hp pm q with
    | some v => if Nat.beq v.1 2 then xk_lcs As hp (pm ++ [v.2.toNat]) r else none
    | none => none
def xk_nv (v : xk_V) : xk_V := match v.1 with
  | 1 => (0, v.2)
  | 6 => (5, v.2)
  | _ => v
def xk_lns (As : List xk_V) (hp : List xk_C) (pm : List Nat) : List xk_Lo → Option (List xk_V)
  | [] => some []
  | q :: r => match xk_lv As hp pm q with
    | some v => (match xk_lns As hp pm r with
      | some l => some (v :: l)
      | none => none)
    | none => none
abbrev xk_B : Type := List (Nat × xk_K × xk_L)
def xk_call1 (X : xk_X) (pc : Nat) (K : xk_K) (L : xk_L) (iv : xk_N) (lo : List (Nat × xk_V)) (st : List xk_V) (hp : List xk_C) (kc ks : Nat) : Option (List (Nat × xk_S)) :=
  match xk_lcs (st.take K.1.2.1.length).reverse hp [] L.2.1 with
  | none => none
  | some pm => match xk_lns (st.take K.1.2.1.length).reverse hp pm L.1, xk_lns (st.take K.1.2.1.length).reverse hp pm L.2.2 with
    | some mp0, some om => if xk_fitK K (mp0.map xk_nv) pm om iv (st.take K.1.2.1.length).reverse hp = true ∧ ((st.drop K.1.2.1.length).map xk_cat).sum ≤ 8 ∧ kc + K.2.2.2.2.1 ≤ X.2.2.1.2.1 ∧ ks + K.2.2.2.2.2 ≤ X.2.2.1.2.2.1 then some (K.2.1.flatMap (fun P => xk_opt (fun iv2 => (pc + 3, xk_aft K (mp0.map xk_nv) pm om iv.1.length lo (st.drop K.1.2.1.length) hp kc ks P iv2)) (xk_afn K (mp0.map xk_nv) iv P))) else none
    | _, _ => none
/-- no argument whose bounds lie outside what the contract asks: else the contract need not be tried -/
def xk_prk (K : xk_K) (iv : xk_N) (st : List xk_V) : Bool := (K.1.2.1.zip (st.take K.1.2.1.length).reverse).all (fun z => if Nat.ble z.1.1 1 then (match K.1.1.1[z.1.2.toNat]? with
  | some J => decide (J.1 ≤ (xk_iv iv z.2).2) && decide ((xk_iv iv z.2).1 ≤ J.2)
  | none => true) else true)
def xk_call (X : xk_X) (pc : Nat) (iv : xk_N) (lo : List (Nat × xk_V)) (st : List xk_V) (hp : List xk_C) (kc ks : Nat) : xk_B → Option (List (Nat × xk_S))
  | [] => none
  | q :: r => if (Nat.beq q.1 pc && xk_prk q.2.1 iv st) = true then (match xk_call1 X pc q.2.1 q.2.2 iv lo st hp kc ks with
    | some l => some l
    | none => xk_call X pc iv lo st hp kc ks r) else xk_call X pc iv lo st hp kc ks r
section XI
variable {p : Program} {l : Launch} {e : Env} {R : Room} {s : State} {m : MethodId} {args : Array Value} {below : List Frame} {meth : Method} {c : Code} {Q : State → Prop} {b : xk_b} {D : va_G} {A : Nat → Prop} {own : String} {cc : ByteArray} {nL : Nat}
theorem xk_t_call1 {X : xk_X} {pc : Nat} {K : xk_K} {L : xk_L} {iv : xk_N} {lo : List (Nat × xk_V)} {st : List xk_V} {hp : List xk_C} {kc ks : Nat} {succs : List (Nat × xk_S)} (F : xk_Fx p s m args c D A own cc nL) (SU : xk_SUH b.2.2.2 A s s.heap) (hRm : X.2.2.1 = (R.frames, R.cells, R.slots, R.locals)) (hK : xk_Rn l D own cc nL R pc K) (h : xk_call1 X pc K L iv lo st hp kc ks = some succs) (kk : ∀ q ∈ succs, xk_G p l e R s m args below meth c Q b nL D A q.1 q.2) : xk_G p l e R s m args below meth c Q b nL D A pc (iv, lo, st, hp, kc, ks) := by
  unfold xk_call1 at h
  split at h
  · cases h
  · rename_i pm hpm
    split at h
    · rename_i mp0 om e1 e2
      split at h
      · rename_i hc
        obtain ⟨h1, h2, h3, h4⟩ := hc
        cases h
        rw [hRm] at h3 h4
        have hs := xk_s_call (lo := lo) (Q := Q) (As := (st.take K.1.2.1.length).reverse) (rest := st.drop K.1.2.1.length) F SU hK h1 h2 h3 h4 (fun P hP iv2 e => kk _ (List.mem_flatMap.mpr ⟨P, hP, xk_opt_mem e⟩))
        rw [List.reverse_reverse, List.take_append_drop] at hs
        exact hs
      · cases h
    · cases h
theorem xk_t_call {X : xk_X} {pc : Nat} {iv : xk_N} {lo : List (Nat × xk_V)} {st : List xk_V} {hp : List xk_C} {kc ks : Nat} {succs : List (Nat × xk_S)} (F : xk_Fx p s m args c D A own cc nL) (SU : xk_SUH b.2.2.2 A s s.heap) (hRm : X.2.2.1 = (R.frames, R.cells, R.slots, R.locals)) : ∀ (B : xk_B), (∀ q ∈ B, xk_Rn l D own cc nL R q.1 q.2.1) → xk_call X pc iv lo st hp kc ks B = some succs → (∀ q ∈ succs, xk_G p l e R s m args below meth c Q b nL D A q.1 q.2) → xk_G p l e R s m args below meth c Q b nL D A pc (iv, lo, st, hp, kc, ks)
  | [], _, h, _ => by cases h
  | q :: r, hB, h, kk => by
    unfold xk_call at h
    split at h
    · rename_i hq
      split at h
      · rename_i l2 hl
        cases h
        have hq2 := Nat.eq_of_beq_eq_true ((Bool.and_eq_true _ _).mp hq).1
        have hR := hB q List.mem_cons_self
        rw [hq2] at hR
        exact xk_t_call1 F SU hRm hR hl kk
      · exact xk_t_call F SU hRm r (fun z hz => hB z (List.mem_cons_of_mem _ hz)) h kk
    · exact xk_t_call F SU hRm r (fun z hz => hB z (List.mem_cons_of_mem _ hz)) h kk
end XI
def xk_i_ldcs (T : xk_T) (pc len ix : Nat) (iv : xk_N) (lo : List (Nat × xk_V)) (st : List xk_V) (hp : List xk_C) (kc ks : Nat) : Option (List (Nat × xk_S)) := if len = 2 then (match T.2.2.2.2.2.2.2.find? (fun q => Nat.beq q.1 ix) with
  | some q => if q.2 < 16 then some [(pc + 2, (iv, lo, (8, (q.2 : Int)) :: st, hp, kc, ks))] else none
  | none => none) else none
section XIb
variable {p : Program} {l : Launch} {e : Env} {R : Room} {s : State} {m : MethodId} {args : Array Value} {below : List Frame} {meth : Method} {c : Code} {Q : State → Prop} {b : xk_b} {D : va_G} {A : Nat → Prop} {own : String} {cc : ByteArray} {nL : Nat}
theorem xk_t_ldcs {T : xk_T} {pc len ix : Nat} {iv : xk_N} {lo : List (Nat × xk_V)} {st : List xk_V} {hp : List xk_C} {kc ks : Nat} {succs : List (Nat × xk_S)} (F : xk_Fx p s m args c D A own cc nL) (TK : xk_TOK own T) (SU : xk_SUH b.2.2.2 A s s.heap) (hd : decode cc pc = .ok (.ldc ix, len)) (h : xk_i_ldcs T pc len ix iv lo st hp kc ks = some succs) (kk : ∀ q ∈ succs, xk_G p l e R s m args below meth c Q b nL D A q.1 q.2) : xk_G p l e R s m args below meth c Q b nL D A pc (iv, lo, st, hp, kc, ks) := by
  obtain ⟨hx, hb, hml, hown, hts, hK, hA⟩ := id F
  unfold xk_i_ldcs at h
  split at h
  · rename_i hl
    subst hl
    split at h
    · rename_i q hq
      split at h
      · rename_i t2
        cases h
        have hm := List.mem_of_find?_eq_some hq
        have he : q.1 = ix := Nat.eq_of_beq_eq_true (List.find?_some (p := fun q : Nat × Nat => Nat.beq q.1 ix) hq)
        obtain ⟨t1, t3⟩ := (TK.2.2.2.2.2.2.2 q hm).1 t2
        subst t1
        have hz := SU.2.1 q.2 t2
        rw [t3, he] at hz
        intro env ad H locs ls sv hI
        exact va_ldcS hx hb hown hz hd (kk _ List.mem_cons_self _ _ _ _ _ _ (xk_push hI (by show Value.ref _ = xk_tv _ ((q.2 : Nat) : Int).toNat; rw [Int.toNat_natCast, xk_tv_of (by omega)]; unfold xk_tx; rw [if_pos t2])))
      · cases h
    · cases h
  · cases h
end XIb
def xk_mx (I J : xk_I) : xk_I := (max I.1 J.1, max I.2 J.2)
def xk_mn (I J : xk_I) : xk_I := (min I.1 J.1, min I.2 J.2)
def xk_i_math (T : xk_T) (X : xk_X) (pc len ix : Nat) (iv : xk_N) (lo : List (Nat × xk_V)) (st : List xk_V) (hp : List xk_C) (kc ks : Nat) : Option (List (Nat × xk_S)) := match st with
  | cv :: a :: st => if len = 3 ∧ (st.map xk_cat).sum ≤ 8 ∧ 1 ≤ X.2.2.1.1 ∧ 23 ≤ X.2.2.1.2.2.2 ∧ kc ≤ X.2.2.1.2.1 ∧ ks ≤ X.2.2.1.2.2.1 then (match T.2.2.2.2.2.2.2.find? (fun q => Nat.beq q.1 ix) with
    | some q => if q.2 = 100 ∧ xk_isI a = true ∧ xk_isI cv = true then some [(pc + 3, ((xk_new 0 iv (xk_mx (xk_iv iv a) (xk_iv iv cv))).1, lo, (xk_new 0 iv (xk_mx (xk_iv iv a) (xk_iv iv cv))).2 :: st, hp, kc, ks))] else if q.2 = 101 ∧ xk_isI a = true ∧ xk_isI cv = true then some [(pc + 3, ((xk_new 0 iv (xk_mn (xk_iv iv a) (xk_iv iv cv))).1, lo, (xk_new 0 iv (xk_mn (xk_iv iv a) (xk_iv iv cv))).2 :: st, hp, kc, ks))] else if q.2 = 102 ∧ xk_isL a = true ∧ xk_isL cv = true then some [(pc + 3, ((xk_new 1 iv (xk_mx (xk_iv iv a) (xk_iv iv cv))).1, lo, (xk_new 1 iv (xk_mx (xk_iv iv a) (xk_iv iv cv))).2 :: st, hp, kc, ks))] else none
    | none => none) else none
  | _ => none
section XIc
variable {p : Program} {l : Launch} {e : Env} {R : Room} {s : State} {m : MethodId} {args : Array Value} {below : List Frame} {meth : Method} {c : Code} {Q : State → Prop} {b : xk_b} {D : va_G} {A : Nat → Prop} {own : String} {cc : ByteArray} {nL : Nat}
theorem xk_t_math {T : xk_T} {X : xk_X} {pc len ix : Nat} {iv : xk_N} {lo : List (Nat × xk_V)} {st : List xk_V} {hp : List xk_C} {kc ks : Nat} {succs : List (Nat × xk_S)} (F : xk_Fx p s m args c D A own cc nL) (TK : xk_TOK own T) (hRm : X.2.2.1 = (R.frames, R.cells, R.slots, R.locals)) (hd : decode cc pc = .ok (.invokestatic ix, len)) (h : xk_i_math T X pc len ix iv lo st hp kc ks = some succs) (kk : ∀ q ∈ succs, xk_G p l e R s m args below meth c Q b nL D A q.1 q.2) : xk_G p l e R s m args below meth c Q b nL D A pc (iv, lo, st, hp, kc, ks) := by
  obtain ⟨hx, hb, hml, hown, hts, hK, hA⟩ := id F
  unfold xk_i_math at h
  split at h
  · rename_i cv a st0
    split at h
    · rename_i hc
      obtain ⟨hl, c1, c2, c3, c4, c5⟩ := hc
      rw [hRm] at c2 c3 c4 c5
      have c2 : 1 ≤ R.frames := c2
      have c3 : 23 ≤ R.locals := c3
      have c4 : kc ≤ R.cells := c4
      have c5 : ks ≤ R.slots := c5
      subst hl
      split at h
      · rename_i q hq
        have hm := List.mem_of_find?_eq_some hq
        have he : q.1 = ix := Nat.eq_of_beq_eq_true (List.find?_some (p := fun q : Nat × Nat => Nat.beq q.1 ix) hq)
        have hw := (TK.2.2.2.2.2.2.2 q hm).2.1
        rw [he] at hw
        split at h
        · rename_i hk
          obtain ⟨k1, k2, k3⟩ := hk
          cases h
          obtain ⟨w0, w1, w2, w3⟩ : _ ∧ _ ∧ _ ∧ _ := by
            have h9 := hw (by omega)
            rw [k1] at h9
            exact h9
          intro env ad H locs ls sv hI
          obtain ⟨y, r1, rfl, hy, h1⟩ := xk_popI hI k3
          obtain ⟨x, r2, rfl, hx2, h2⟩ := xk_popI h1 k2
          have b1 : (xk_iv iv a).1 ≤ x.toInt ∧ x.toInt ≤ (xk_iv iv a).2 := xk_iv_ok hI.1 hx2
          have b2 : (xk_iv iv cv).1 ≤ y.toInt ∧ y.toInt ≤ (xk_iv iv cv).2 := xk_iv_ok hI.1 hy
          have hz : (xk_mx (xk_iv iv a) (xk_iv iv cv)).1 ≤ (if x < y then y else x).toInt ∧ (if x < y then y else x).toInt ≤ (xk_mx (xk_iv iv a) (xk_iv iv cv)).2 := by
            unfold xk_mx
            show max _ _ ≤ _ ∧ _ ≤ max _ _
            split
            · rename_i hlt
              have := Int32.lt_iff_toInt_lt.mp hlt
              omega
            · rename_i hlt
              have := mt Int32.lt_iff_toInt_lt.mpr hlt
              omega
          obtain ⟨e2, hq2⟩ := xk_pushI h2 hz.1 hz.2
          have hsum : (r2.map fun v => v.category).sum ≤ 8 := by rw [xk_catsum h2.2.2.1]; exact c1
          exact va_mmax hx hb (by rw [hml]; exact (hI.2.1.choose_spec.1.1).symm) hown (hts _ w1) (hts _ w2) (hts _ w0) (hts _ w3) c2 (by omega) c4 c5 hd (kk _ List.mem_cons_self _ _ _ _ _ _ hq2)
        · split at h
          · rename_i hk
            obtain ⟨k1, k2, k3⟩ := hk
            cases h
            obtain ⟨w0, w1, w2, w3⟩ : _ ∧ _ ∧ _ ∧ _ := by
              have h9 := hw (by omega)
              rw [k1] at h9
              exact h9
            intro env ad H locs ls sv hI
            obtain ⟨y, r1, rfl, hy, h1⟩ := xk_popI hI k3
            obtain ⟨x, r2, rfl, hx2, h2⟩ := xk_popI h1 k2
            have b1 : (xk_iv iv a).1 ≤ x.toInt ∧ x.toInt ≤ (xk_iv iv a).2 := xk_iv_ok hI.1 hx2
            have b2 : (xk_iv iv cv).1 ≤ y.toInt ∧ y.toInt ≤ (xk_iv iv cv).2 := xk_iv_ok hI.1 hy
            have hsum : (r2.map fun v => v.category).sum ≤ 8 := by rw [xk_catsum h2.2.2.1]; exact c1
            refine va_mmin hx hb (by rw [hml]; exact (hI.2.1.choose_spec.1.1).symm) hown (hts _ w1) (hts _ w2) (hts _ w0) (hts _ w3) c2 (by omega) c4 c5 hd ?_
            refine (xk_pushI (I := xk_mn (xk_iv iv a) (xk_iv iv cv)) h2 ?_ ?_).elim (fun e2 hq2 => kk _ List.mem_cons_self _ _ _ _ _ _ hq2)
            · unfold xk_mn
              show min _ _ ≤ _
              split
              · omega
              · omega
            · unfold xk_mn
              show _ ≤ min _ _
              split
              · rename_i hlt
                have := Int32.lt_iff_toInt_lt.mp hlt
                omega
              · rename_i hlt
                have := mt Int32.lt_iff_toInt_lt.mpr hlt
                omega
          · split at h
            · rename_i hk
              obtain ⟨k1, k2, k3⟩ := hk
              cases h
              obtain ⟨w0, w1, w2, w3⟩ : _ ∧ _ ∧ _ ∧ _ := by
                have h9 := hw (by omega)
                rw [k1] at h9
                exact h9
              intro env ad H locs ls sv hI
              obtain ⟨y, r1, rfl, hy, h1⟩ := xk_popL hI k3
              obtain ⟨x, r2, rfl, hx2, h2⟩ := xk_popL h1 k2
              have b1 : (xk_iv iv a).1 ≤ x.toInt ∧ x.toInt ≤ (xk_iv iv a).2 := xk_iv_ok hI.1 hx2
              have b2 : (xk_iv iv cv).1 ≤ y.toInt ∧ y.toInt ≤ (xk_iv iv cv).2 := xk_iv_ok hI.1 hy
              have hsum : (r2.map fun v => v.category).sum ≤ 8 := by rw [xk_catsum h2.2.2.1]; exact c1
              refine va_mmax_long hx hb (by rw [hml]; exact (hI.2.1.choose_spec.1.1).symm) hown (hts _ w1) (hts _ w2) (hts _ w0) (hts _ w3) c2 (by omega) c4 c5 hd ?_
              refine (xk_pushL (I := xk_mx (xk_iv iv a) (xk_iv iv cv)) h2 ?_ ?_).elim (fun e2 hq2 => kk _ List.mem_cons_self _ _ _ _ _ _ hq2)
              · unfold xk_mx
                show max _ _ ≤ _
                split
                · rename_i hlt
                  have := Int64.lt_iff_toInt_lt.mp hlt
                  omega
                · rename_i hlt
                  have := mt Int64.lt_iff_toInt_lt.mpr hlt
                  omega
              · unfold xk_mx
                show _ ≤ max _ _
                split
                · omega
                · omega
            · cases h
      · cases h
    · cases h
  · cases h
end XIc
/-- a text's own: its bytes, its coder, how many, one of them; a number that is a char as it is -/
def xk_i_txt (T : xk_T) (pc len : Nat) (i : Instr) (iv : xk_N) (lo : List (Nat × xk_V)) (st : List xk_V) (hp : List xk_C) (kc ks : Nat) : Option (List (Nat × xk_S)) := match i, st with
  | .getfield ix, (8, q) :: st => if len = 3 ∧ q.toNat < 16 then (match T.2.2.2.2.2.2.2.find? (fun z => Nat.beq z.1 ix) with
    | some z => if z.2 = 200 then some [(pc + 3, (iv, lo, (8, ((q.toNat + 16 : Nat) : Int)) :: st, hp, kc, ks))] else if z.2 = 201 then some [(pc + 3, (iv, lo, (5, 0) :: st, hp, kc, ks))] else none
    | none => none) else none
  | .getstatic ix, st => if len = 3 then (match T.2.2.2.2.2.2.2.find? (fun z => Nat.beq z.1 ix) with
    | some z => if z.2 = 202 then some [(pc + 3, (iv, lo, (5, 1) :: st, hp, kc, ks))] else if z.2 = 203 then some [(pc + 3, (iv, lo, (8, 32) :: st, hp, kc, ks))] else none
    | none => none) else none
  | .arraylength, (8, q) :: st => if len = 1 ∧ 16 ≤ q.toNat ∧ q.toNat < 32 then some [(pc + 1, (iv, lo, (5, ((xs_len.getD (q.toNat - 16) 0 : Nat) : Int)) :: st, hp, kc, ks))] else none
  | .baload, i :: (8, q) :: st => if len = 1 ∧ 16 ≤ q.toNat ∧ q.toNat < 32 ∧ xk_isI i = true ∧ 0 ≤ (xk_iv iv i).1 ∧ (xk_iv iv i).2 < ((xs_len.getD (q.toNat - 16) 0 : Nat) : Int) then some [(pc + 1, ((xk_new 0 iv (97, 122)).1, lo, (xk_new 0 iv (97, 122)).2 :: st, hp, kc, ks))] else none
  | .i2c, i :: st => if len = 1 ∧ xk_isI i = true ∧ 0 ≤ (xk_iv iv i).1 ∧ (xk_iv iv i).2 < 256 then some [(pc + 1, (iv, lo, i :: st, hp, kc, ks))] else none
  | _, _ => none
theorem xs_lens : ∀ k : Nat, k < 16 → (Int32.ofNat (xs_len.getD k 0)).toInt = ((xs_len.getD k 0 : Nat) : Int) := by decide +kernel
theorem xs_byts : ∀ k : Nat, k < 16 → ∀ j : Nat, j < xs_len.getD k 0 → 97 ≤ ((xs_byt.getD k []).getD j 0).toInt ∧ ((xs_byt.getD k []).getD j 0).toInt ≤ 122 := by decide +kernel
theorem xs_i2c : ∀ k : Nat, k < 256 → ((Int32.ofNat k).toUInt32 % 65536).toInt32 = Int32.ofNat k := by decide +kernel
theorem xs_nar : ∀ k : Nat, k < 256 → narrow .char (.int (Int32.ofNat k)) = .int (Int32.ofNat k) := by decide +kernel
theorem xs_narb : ∀ k : Nat, k < 128 → narrow .byte (.int (Int32.ofNat k)) = .int (Int32.ofNat k) := by decide +kernel
theorem xs_nat {x : Int32} (h1 : 0 ≤ x.toInt) : x = Int32.ofNat x.toInt.toNat := by
  apply Int32.toInt_inj.mp
  have h2 := Int32.toInt_lt x
  rw [← Int32.ofInt_eq_ofNat, Int.toNat_of_nonneg h1, Int32.toInt_ofInt_of_le (by omega) (by omega)]
section XId
variable {p : Program} {l : Launch} {e : Env} {R : Room} {s : State} {m : MethodId} {args : Array Value} {below : List Frame} {meth : Method} {c : Code} {Q : State → Prop} {b : xk_b} {D : va_G} {A : Nat → Prop} {own : String} {cc : ByteArray} {nL : Nat}
theorem xk_t_txt {T : xk_T} {pc len : Nat} {i : Instr} {iv : xk_N} {lo : List (Nat × xk_V)} {st : List xk_V} {hp : List xk_C} {kc ks : Nat} {succs : List (Nat × xk_S)} (F : xk_Fx p s m args c D A own cc nL) (TK : xk_TOK own T) (SU : xk_SUH b.2.2.2 A s s.heap) (hd : decode cc pc = .ok (i, len)) (h : xk_i_txt T pc len i iv lo st hp kc ks = some succs) (kk : ∀ q ∈ succs, xk_G p l e R s m args below meth c Q b nL D A q.1 q.2) : xk_G p l e R s m args below meth c Q b nL D A pc (iv, lo, st, hp, kc, ks) := by
  obtain ⟨hx, hb, hml, hown, hts, hK, hA⟩ := id F
  unfold xk_i_txt at h
  split at h
  · rename_i ix q st0
    split at h
    · rename_i hl
      obtain ⟨hl, hq⟩ := hl
      subst hl
      split at h
      · rename_i z hz
        have hm := List.mem_of_find?_eq_some hz
        have he : z.1 = ix := Nat.eq_of_beq_eq_true (List.find?_some (p := fun q : Nat × Nat => Nat.beq q.1 ix) hz)
        have hw := (TK.2.2.2.2.2.2.2 z hm).2.2
        rw [he] at hw
        split at h
        · rename_i h200
          cases h
          have hw := hw (by omega)
          rw [h200] at hw
          intro env ad H locs ls sv hI
          obtain ⟨v, rest, rfl, hv, hr⟩ := xk_pop hI
          have hv : v = .ref (xk_tx b.2.2.2.2 q.toNat) := (show v = xk_tv b.2.2.2.2 q.toNat from hv).trans (xk_tv_of (by omega))
          subst hv
          have hS := hI.2.2.2.choose_spec.2.2.2.2.1
          unfold xk_tx
          rw [if_pos hq]
          exact vk_getf hx hb (SU.1.1 q.toNat hq).2.2.1 hS hown (hts _ hw) (fun _ h => h) hd (kk _ List.mem_cons_self _ _ _ _ _ _ (xk_push hr (by show Value.ref _ = xk_tv _ ((q.toNat + 16 : Nat) : Int).toNat; rw [Int.toNat_natCast, xk_tv_of (by omega)]; unfold xk_tx; rw [if_neg (by omega), Nat.add_sub_cancel])))
        · split at h
          · rename_i h201
            cases h
            have hw := hw (by omega)
            rw [h201] at hw
            intro env ad H locs ls sv hI
            obtain ⟨v, rest, rfl, hv, hr⟩ := xk_pop hI
            have hv : v = .ref (xk_tx b.2.2.2.2 q.toNat) := (show v = xk_tv b.2.2.2.2 q.toNat from hv).trans (xk_tv_of (by omega))
            subst hv
            have hS := hI.2.2.2.choose_spec.2.2.2.2.1
            unfold xk_tx
            rw [if_pos hq]
            exact vk_getf hx hb (SU.1.1 q.toNat hq).2.1 hS hown (hts _ hw) (fun _ h => h) hd (kk _ List.mem_cons_self _ _ _ _ _ _ (xk_push hr ⟨0, rfl, by decide⟩))
          · cases h
      · cases h
    · cases h
  · rename_i st0 ix
    split at h
    · rename_i hl
      subst hl
      split at h
      · rename_i z hz
        have hm := List.mem_of_find?_eq_some hz
        have he : z.1 = ix := Nat.eq_of_beq_eq_true (List.find?_some (p := fun q : Nat × Nat => Nat.beq q.1 ix) hz)
        have hw := (TK.2.2.2.2.2.2.2 z hm).2.2
        rw [he] at hw
        split at h
        · rename_i h202
          cases h
          have hw := hw (by omega)
          rw [h202] at hw
          intro env ad H locs ls sv hI
          have hS := hI.2.2.2.choose_spec.2.2.2.2.1
          exact va_gets hx hb SU.2.2.1 hS hown (hts _ hw) (fun _ h => h) hd (kk _ List.mem_cons_self _ _ _ _ _ _ (xk_push hI ⟨1, rfl, by decide⟩))
        · split at h
          · rename_i h203
            cases h
            have hw := hw (by omega)
            rw [h203] at hw
            intro env ad H locs ls sv hI
            have hS := hI.2.2.2.choose_spec.2.2.2.2.1
            exact va_gets hx hb SU.2.2.2 hS hown (hts _ hw) (fun _ h => h) hd (kk _ List.mem_cons_self _ _ _ _ _ _ (xk_push hI rfl))
          · cases h
      · cases h
    · cases h
  · rename_i q st0
    split at h
    · rename_i hl
      obtain ⟨hl, hq1, hq2⟩ := hl
      subst hl
      cases h
      intro env ad H locs ls sv hI
      obtain ⟨v, rest, rfl, hv, hr⟩ := xk_pop hI
      have hv : v = .ref (xk_tx b.2.2.2.2 q.toNat) := (show v = xk_tv b.2.2.2.2 q.toNat from hv).trans (xk_tv_of (by omega))
      subst hv
      have hS := hI.2.2.2.choose_spec.2.2.2.2.1
      unfold xk_tx
      rw [if_neg (by omega)]
      exact va_tlen hx hb (SU.1.1 (q.toNat - 16) (by omega)).2.2.2 hS rfl hd (kk _ List.mem_cons_self _ _ _ _ _ _ (xk_push hr ⟨_, rfl, xs_lens _ (by omega)⟩))
    · cases h
  · rename_i iq q st0
    split at h
    · rename_i hl
      obtain ⟨hl, hq1, hq2, hi, hj1, hj2⟩ := hl
      subst hl
      cases h
      intro env ad H locs ls sv hI
      obtain ⟨x, r1, rfl, hx0, hI1⟩ := xk_popI hI hi
      obtain ⟨v, rest, rfl, hv, hr⟩ := xk_pop hI1
      have hv : v = .ref (xk_tx b.2.2.2.2 q.toNat) := (show v = xk_tv b.2.2.2.2 q.toNat from hv).trans (xk_tv_of (by omega))
      subst hv
      have hS := hI.2.2.2.choose_spec.2.2.2.2.1
      have hbb : (xk_iv iv iq).1 ≤ x.toInt ∧ x.toInt ≤ (xk_iv iv iq).2 := xk_iv_ok hI.1 hx0
      have hin : vp_in x (xs_len.getD (q.toNat - 16) 0) := by rw [vp_in_iff]; omega
      have hE := xs_byts (q.toNat - 16) (by omega) x.toNatClampNeg (xk_clN (by omega) (by omega))
      obtain ⟨e2, hq⟩ := xk_pushI (I := (97, 122)) hr hE.1 hE.2
      unfold xk_tx
      rw [if_neg (by omega)]
      exact va_tb hx hb (SU.1.1 (q.toNat - 16) (by omega)).2.2.2 hS hin rfl hd (kk _ List.mem_cons_self _ _ _ _ _ _ hq)
    · cases h
  · rename_i iq st0
    split at h
    · rename_i hl
      obtain ⟨hl, hi, hj1, hj2⟩ := hl
      subst hl
      cases h
      intro env ad H locs ls sv hI
      obtain ⟨v, r1, rfl, hv, hr⟩ := xk_pop hI
      obtain ⟨x, rfl, hx0⟩ := xk_vI hi hv
      have hbb : (xk_iv iv iq).1 ≤ x.toInt ∧ x.toInt ≤ (xk_iv iv iq).2 := xk_iv_ok hI.1 hx0
      have e := xs_nat (x := x) (by omega)
      exact lv_i2c hx hb hd (by rw [e]; exact xs_i2c _ (by omega)) (kk _ List.mem_cons_self _ _ _ _ _ _ hI)
    · cases h
  · cases h
end XId
def xk_or (a b : Option (List (Nat × xk_S))) : Option (List (Nat × xk_S)) := match a with
  | some l => some l
  | none => b
def xk_step (T : xk_T) (X : xk_X) (B : xk_B) (pc : Nat) (i : Instr) (len : Nat) (σ : xk_S) : Option (List (Nat × xk_S)) := match i with
  | .iconst n => xk_i_iconst T X pc len n σ.1 σ.2.1 σ.2.2.1 σ.2.2.2.1 σ.2.2.2.2.1 σ.2.2.2.2.2
  | .bipush n => xk_i_bipush T X pc len n σ.1 σ.2.1 σ.2.2.1 σ.2.2.2.1 σ.2.2.2.2.1 σ.2.2.2.2.2
  | .sipush n => xk_i_sipush T X pc len n σ.1 σ.2.1 σ.2.2.1 σ.2.2.2.1 σ.2.2.2.2.1 σ.2.2.2.2.2
  | .lconst n => xk_i_lconst T X pc len n σ.1 σ.2.1 σ.2.2.1 σ.2.2.2.1 σ.2.2.2.2.1 σ.2.2.2.2.2
  | .ldc ix => xk_or (xk_i_ldc T X pc len ix σ.1 σ.2.1 σ.2.2.1 σ.2.2.2.1 σ.2.2.2.2.1 σ.2.2.2.2.2) (xk_i_ldcs T pc len ix σ.1 σ.2.1 σ.2.2.1 σ.2.2.2.1 σ.2.2.2.2.1 σ.2.2.2.2.2)
  | .ldc_w ix => xk_i_ldc_w T X pc len ix σ.1 σ.2.1 σ.2.2.1 σ.2.2.2.1 σ.2.2.2.2.1 σ.2.2.2.2.2
  | .ldc2_w ix => xk_i_ldc2_w T X pc len ix σ.1 σ.2.1 σ.2.2.1 σ.2.2.2.1 σ.2.2.2.2.1 σ.2.2.2.2.2
  | .iload_n n => xk_i_iload_n T X pc len n σ.1 σ.2.1 σ.2.2.1 σ.2.2.2.1 σ.2.2.2.2.1 σ.2.2.2.2.2
  | .iload n => xk_i_iload T X pc len n σ.1 σ.2.1 σ.2.2.1 σ.2.2.2.1 σ.2.2.2.2.1 σ.2.2.2.2.2
  | .lload_n n => xk_i_lload_n T X pc len n σ.1 σ.2.1 σ.2.2.1 σ.2.2.2.1 σ.2.2.2.2.1 σ.2.2.2.2.2
  | .lload n => xk_i_lload T X pc len n σ.1 σ.2.1 σ.2.2.1 σ.2.2.2.1 σ.2.2.2.2.1 σ.2.2.2.2.2
  | .aload_n n => xk_i_aload_n T X pc len n σ.1 σ.2.1 σ.2.2.1 σ.2.2.2.1 σ.2.2.2.2.1 σ.2.2.2.2.2
  | .aload n => xk_i_aload T X pc len n σ.1 σ.2.1 σ.2.2.1 σ.2.2.2.1 σ.2.2.2.2.1 σ.2.2.2.2.2
  | .istore_n n => xk_i_istore_n T X pc len n σ.1 σ.2.1 σ.2.2.1 σ.2.2.2.1 σ.2.2.2.2.1 σ.2.2.2.2.2
  | .istore n => xk_i_istore T X pc len n σ.1 σ.2.1 σ.2.2.1 σ.2.2.2.1 σ.2.2.2.2.1 σ.2.2.2.2.2
  | .lstore_n n => xk_i_lstore_n T X pc len n σ.1 σ.2.1 σ.2.2.1 σ.2.2.2.1 σ.2.2.2.2.1 σ.2.2.2.2.2
  | .lstore n => xk_i_lstore T X pc len n σ.1 σ.2.1 σ.2.2.1 σ.2.2.2.1 σ.2.2.2.2.1 σ.2.2.2.2.2
  | .astore_n n => xk_i_astore_n T X pc len n σ.1 σ.2.1 σ.2.2.1 σ.2.2.2.1 σ.2.2.2.2.1 σ.2.2.2.2.2
  | .astore n => xk_i_astore T X pc len n σ.1 σ.2.1 σ.2.2.1 σ.2.2.2.1 σ.2.2.2.2.1 σ.2.2.2.2.2
  | .iinc n c0 => xk_i_iinc T X pc len n c0 σ.1 σ.2.1 σ.2.2.1 σ.2.2.2.1 σ.2.2.2.2.1 σ.2.2.2.2.2
  | .iadd => xk_i_iadd T X pc len  σ.1 σ.2.1 σ.2.2.1 σ.2.2.2.1 σ.2.2.2.2.1 σ.2.2.2.2.2
  | .isub => xk_i_isub T X pc len  σ.1 σ.2.1 σ.2.2.1 σ.2.2.2.1 σ.2.2.2.2.1 σ.2.2.2.2.2
  | .imul => xk_i_imul T X pc len  σ.1 σ.2.1 σ.2.2.1 σ.2.2.2.1 σ.2.2.2.2.1 σ.2.2.2.2.2
  | .iand => xk_i_iand T X pc len  σ.1 σ.2.1 σ.2.2.1 σ.2.2.2.1 σ.2.2.2.2.1 σ.2.2.2.2.2
  | .ior => xk_i_ior T X pc len  σ.1 σ.2.1 σ.2.2.1 σ.2.2.2.1 σ.2.2.2.2.1 σ.2.2.2.2.2
  | .ixor => xk_i_ixor T X pc len  σ.1 σ.2.1 σ.2.2.1 σ.2.2.2.1 σ.2.2.2.2.1 σ.2.2.2.2.2
  | .ishl => xk_i_ishl T X pc len  σ.1 σ.2.1 σ.2.2.1 σ.2.2.2.1 σ.2.2.2.2.1 σ.2.2.2.2.2
  | .ishr => xk_i_ishr T X pc len  σ.1 σ.2.1 σ.2.2.1 σ.2.2.2.1 σ.2.2.2.2.1 σ.2.2.2.2.2
  | .iushr => xk_i_iushr T X pc len  σ.1 σ.2.1 σ.2.2.1 σ.2.2.2.1 σ.2.2.2.2.1 σ.2.2.2.2.2
  | .idiv => xk_i_idiv T X pc len  σ.1 σ.2.1 σ.2.2.1 σ.2.2.2.1 σ.2.2.2.2.1 σ.2.2.2.2.2
  | .irem => xk_i_irem T X pc len  σ.1 σ.2.1 σ.2.2.1 σ.2.2.2.1 σ.2.2.2.2.1 σ.2.2.2.2.2
  | .ladd => xk_i_ladd T X pc len  σ.1 σ.2.1 σ.2.2.1 σ.2.2.2.1 σ.2.2.2.2.1 σ.2.2.2.2.2
  | .lsub => xk_i_lsub T X pc len  σ.1 σ.2.1 σ.2.2.1 σ.2.2.2.1 σ.2.2.2.2.1 σ.2.2.2.2.2
  | .lmul => xk_i_lmul T X pc len  σ.1 σ.2.1 σ.2.2.1 σ.2.2.2.1 σ.2.2.2.2.1 σ.2.2.2.2.2
  | .land => xk_i_land T X pc len  σ.1 σ.2.1 σ.2.2.1 σ.2.2.2.1 σ.2.2.2.2.1 σ.2.2.2.2.2
  | .lor => xk_i_lor T X pc len  σ.1 σ.2.1 σ.2.2.1 σ.2.2.2.1 σ.2.2.2.2.1 σ.2.2.2.2.2
  | .ldiv => xk_i_ldiv T X pc len  σ.1 σ.2.1 σ.2.2.1 σ.2.2.2.1 σ.2.2.2.2.1 σ.2.2.2.2.2
  | .lrem => xk_i_lrem T X pc len  σ.1 σ.2.1 σ.2.2.1 σ.2.2.2.1 σ.2.2.2.2.1 σ.2.2.2.2.2
  | .lshl => xk_i_lshl T X pc len  σ.1 σ.2.1 σ.2.2.1 σ.2.2.2.1 σ.2.2.2.2.1 σ.2.2.2.2.2
  | .lushr => xk_i_lushr T X pc len  σ.1 σ.2.1 σ.2.2.1 σ.2.2.2.1 σ.2.2.2.2.1 σ.2.2.2.2.2
  | .i2b => xk_i_i2b T X pc len  σ.1 σ.2.1 σ.2.2.1 σ.2.2.2.1 σ.2.2.2.2.1 σ.2.2.2.2.2
  | .i2s => xk_i_i2s T X pc len  σ.1 σ.2.1 σ.2.2.1 σ.2.2.2.1 σ.2.2.2.2.1 σ.2.2.2.2.2
  | .i2l => xk_i_i2l T X pc len  σ.1 σ.2.1 σ.2.2.1 σ.2.2.2.1 σ.2.2.2.2.1 σ.2.2.2.2.2
  | .l2i => xk_i_l2i T X pc len  σ.1 σ.2.1 σ.2.2.1 σ.2.2.2.1 σ.2.2.2.2.1 σ.2.2.2.2.2
  | .lcmp => xk_i_lcmp T X pc len  σ.1 σ.2.1 σ.2.2.1 σ.2.2.2.1 σ.2.2.2.2.1 σ.2.2.2.2.2
  | .dup => xk_i_dup T X pc len  σ.1 σ.2.1 σ.2.2.1 σ.2.2.2.1 σ.2.2.2.2.1 σ.2.2.2.2.2
  | .pop => xk_i_pop T X pc len  σ.1 σ.2.1 σ.2.2.1 σ.2.2.2.1 σ.2.2.2.2.1 σ.2.2.2.2.2
  | .dup2 => xk_i_dup2 T X pc len  σ.1 σ.2.1 σ.2.2.1 σ.2.2.2.1 σ.2.2.2.2.1 σ.2.2.2.2.2
  | .goto off => xk_i_goto T X pc len off σ.1 σ.2.1 σ.2.2.1 σ.2.2.2.1 σ.2.2.2.2.1 σ.2.2.2.2.2
  | .if_icmp .lt off => xk_i_icmp_lt T X pc len off σ.1 σ.2.1 σ.2.2.1 σ.2.2.2.1 σ.2.2.2.2.1 σ.2.2.2.2.2
  | .ifCond .lt off => xk_i_if_lt T X pc len off σ.1 σ.2.1 σ.2.2.1 σ.2.2.2.1 σ.2.2.2.2.1 σ.2.2.2.2.2
  | .if_icmp .ge off => xk_i_icmp_ge T X pc len off σ.1 σ.2.1 σ.2.2.1 σ.2.2.2.1 σ.2.2.2.2.1 σ.2.2.2.2.2
  | .ifCond .ge off => xk_i_if_ge T X pc len off σ.1 σ.2.1 σ.2.2.1 σ.2.2.2.1 σ.2.2.2.2.1 σ.2.2.2.2.2
  | .if_icmp .gt off => xk_i_icmp_gt T X pc len off σ.1 σ.2.1 σ.2.2.1 σ.2.2.2.1 σ.2.2.2.2.1 σ.2.2.2.2.2
  | .ifCond .gt off => xk_i_if_gt T X pc len off σ.1 σ.2.1 σ.2.2.1 σ.2.2.2.1 σ.2.2.2.2.1 σ.2.2.2.2.2
  | .if_icmp .le off => xk_i_icmp_le T X pc len off σ.1 σ.2.1 σ.2.2.1 σ.2.2.2.1 σ.2.2.2.2.1 σ.2.2.2.2.2
  | .ifCond .le off => xk_i_if_le T X pc len off σ.1 σ.2.1 σ.2.2.1 σ.2.2.2.1 σ.2.2.2.2.1 σ.2.2.2.2.2
  | .if_icmp .eq off => xk_i_icmp_eq T X pc len off σ.1 σ.2.1 σ.2.2.1 σ.2.2.2.1 σ.2.2.2.2.1 σ.2.2.2.2.2
  | .ifCond .eq off => xk_i_if_eq T X pc len off σ.1 σ.2.1 σ.2.2.1 σ.2.2.2.1 σ.2.2.2.2.1 σ.2.2.2.2.2
  | .if_icmp .ne off => xk_i_icmp_ne T X pc len off σ.1 σ.2.1 σ.2.2.1 σ.2.2.2.1 σ.2.2.2.2.1 σ.2.2.2.2.2
  | .ifCond .ne off => xk_i_if_ne T X pc len off σ.1 σ.2.1 σ.2.2.1 σ.2.2.2.1 σ.2.2.2.2.1 σ.2.2.2.2.2
  | .tableswitch dflt tlo thi offs => xk_i_tableswitch T X pc len dflt tlo thi offs σ.1 σ.2.1 σ.2.2.1 σ.2.2.2.1 σ.2.2.2.2.1 σ.2.2.2.2.2
  | .ifnull off => xk_i_ifnull T X pc len off σ.1 σ.2.1 σ.2.2.1 σ.2.2.2.1 σ.2.2.2.2.1 σ.2.2.2.2.2
  | .ifnonnull off => xk_i_ifnonnull T X pc len off σ.1 σ.2.1 σ.2.2.1 σ.2.2.2.1 σ.2.2.2.2.1 σ.2.2.2.2.2
  | .getfield ix => xk_or (xk_i_getfield T X pc len ix σ.1 σ.2.1 σ.2.2.1 σ.2.2.2.1 σ.2.2.2.2.1 σ.2.2.2.2.2) (xk_i_txt T pc len (.getfield ix) σ.1 σ.2.1 σ.2.2.1 σ.2.2.2.1 σ.2.2.2.2.1 σ.2.2.2.2.2)
  | .getstatic ix => xk_i_txt T pc len (.getstatic ix) σ.1 σ.2.1 σ.2.2.1 σ.2.2.2.1 σ.2.2.2.2.1 σ.2.2.2.2.2
  | .i2c => xk_i_txt T pc len .i2c σ.1 σ.2.1 σ.2.2.1 σ.2.2.2.1 σ.2.2.2.2.1 σ.2.2.2.2.2
  | .putfield ix => xk_i_putfield T X pc len ix σ.1 σ.2.1 σ.2.2.1 σ.2.2.2.1 σ.2.2.2.2.1 σ.2.2.2.2.2
  | .iaload => xk_i_iaload T X pc len  σ.1 σ.2.1 σ.2.2.1 σ.2.2.2.1 σ.2.2.2.2.1 σ.2.2.2.2.2
  | .baload => xk_or (xk_i_baload T X pc len  σ.1 σ.2.1 σ.2.2.1 σ.2.2.2.1 σ.2.2.2.2.1 σ.2.2.2.2.2) (xk_i_txt T pc len .baload σ.1 σ.2.1 σ.2.2.1 σ.2.2.2.1 σ.2.2.2.2.1 σ.2.2.2.2.2)
  | .laload => xk_i_laload T X pc len  σ.1 σ.2.1 σ.2.2.1 σ.2.2.2.1 σ.2.2.2.2.1 σ.2.2.2.2.2
  | .aaload => xk_i_aaload T X pc len  σ.1 σ.2.1 σ.2.2.1 σ.2.2.2.1 σ.2.2.2.2.1 σ.2.2.2.2.2
  | .arraylength => xk_or (xk_i_arraylength T X pc len  σ.1 σ.2.1 σ.2.2.1 σ.2.2.2.1 σ.2.2.2.2.1 σ.2.2.2.2.2) (xk_i_txt T pc len .arraylength σ.1 σ.2.1 σ.2.2.1 σ.2.2.2.1 σ.2.2.2.2.1 σ.2.2.2.2.2)
  | .iastore => xk_i_iastore T X pc len  σ.1 σ.2.1 σ.2.2.1 σ.2.2.2.1 σ.2.2.2.2.1 σ.2.2.2.2.2
  | .bastore => xk_i_bastore T X pc len  σ.1 σ.2.1 σ.2.2.1 σ.2.2.2.1 σ.2.2.2.2.1 σ.2.2.2.2.2
  | .lastore => xk_i_lastore T X pc len  σ.1 σ.2.1 σ.2.2.1 σ.2.2.2.1 σ.2.2.2.2.1 σ.2.2.2.2.2
  | .aastore => xk_i_aastore T X pc len  σ.1 σ.2.1 σ.2.2.1 σ.2.2.2.1 σ.2.2.2.2.1 σ.2.2.2.2.2
  | .new ix => xk_i_new T X pc len ix σ.1 σ.2.1 σ.2.2.1 σ.2.2.2.1 σ.2.2.2.2.1 σ.2.2.2.2.2
  | .newarray aty => xk_i_newarray T X pc len aty σ.1 σ.2.1 σ.2.2.1 σ.2.2.2.1 σ.2.2.2.2.1 σ.2.2.2.2.2
  | .anewarray ix => xk_i_anewarray T X pc len ix σ.1 σ.2.1 σ.2.2.1 σ.2.2.2.1 σ.2.2.2.2.1 σ.2.2.2.2.2
  | .invokespecial ix => xk_or (xk_i_obj T X pc len ix σ.1 σ.2.1 σ.2.2.1 σ.2.2.2.1 σ.2.2.2.2.1 σ.2.2.2.2.2) (xk_call X pc σ.1 σ.2.1 σ.2.2.1 σ.2.2.2.1 σ.2.2.2.2.1 σ.2.2.2.2.2 B)
  | .invokestatic ix => xk_or (xk_i_acopy T X pc len ix σ.1 σ.2.1 σ.2.2.1 σ.2.2.2.1 σ.2.2.2.2.1 σ.2.2.2.2.2) (xk_or (xk_i_math T X pc len ix σ.1 σ.2.1 σ.2.2.1 σ.2.2.2.1 σ.2.2.2.2.1 σ.2.2.2.2.2) (xk_call X pc σ.1 σ.2.1 σ.2.2.1 σ.2.2.2.1 σ.2.2.2.2.1 σ.2.2.2.2.2 B))
  | .invokevirtual _ => xk_call X pc σ.1 σ.2.1 σ.2.2.1 σ.2.2.2.1 σ.2.2.2.2.1 σ.2.2.2.2.2 B
  | _ => none
section XJ
variable {p : Program} {l : Launch} {e : Env} {R : Room} {s : State} {m : MethodId} {args : Array Value} {below : List Frame} {meth : Method} {c : Code} {Q : State → Prop} {b : xk_b} {D : va_G} {A : Nat → Prop} {own : String} {cc : ByteArray} {nL : Nat}
set_option maxHeartbeats 4000000 in
theorem xk_step_ok {T : xk_T} {X : xk_X} {B : xk_B} {pc len : Nat} {σ : xk_S} {i : Instr} {succs : List (Nat × xk_S)} (F : xk_Fx p s m args c D A own cc nL) (TK : xk_TOK own T) (GK : xk_GOK) (hX : X.1 = nL) (hI : X.2.1 = true → meth.name = "<init>") (hRm : X.2.2.1 = (R.frames, R.cells, R.slots, R.locals)) (SC : ∀ L, X.2.2.2.1 = some L → ∃ xs : Nat → Int32, va_X (b.1 - 1) L xs s s.heap ∧ b.1 - 1 < s.heap.size ∧ ¬ A (b.1 - 1) ∧ b.2.1 = (List.range L).map (fun j => (xs j).toInt)) (SU : xk_SUH b.2.2.2 A s s.heap) (hB : ∀ q ∈ B, xk_Rn l D own cc nL R q.1 q.2.1) (hd : decode cc pc = .ok (i, len)) (h : xk_step T X B pc i len σ = some succs) (kk : ∀ q ∈ succs, xk_G p l e R s m args below meth c Q b nL D A q.1 q.2) : xk_G p l e R s m args below meth c Q b nL D A pc σ := by
  obtain ⟨iv, lo, st, hp, kc, ks⟩ := σ
  cases i with
  | iconst n => exact xk_t_iconst F TK GK hX hI hRm hd h kk
  | bipush n => exact xk_t_bipush F TK GK hX hI hRm hd h kk
  | sipush n => exact xk_t_sipush F TK GK hX hI hRm hd h kk
  | lconst n => exact xk_t_lconst F TK GK hX hI hRm hd h kk
  | ldc ix =>
    cases ho : xk_i_ldc T X pc len ix iv lo st hp kc ks with
    | some l2 =>
      have h2 : xk_or (xk_i_ldc T X pc len ix iv lo st hp kc ks) (xk_i_ldcs T pc len ix iv lo st hp kc ks) = some succs := h
      rw [ho] at h2
      cases h2
      exact xk_t_ldc F TK GK hX hI hRm hd ho kk
    | none =>
      have h2 : xk_or (xk_i_ldc T X pc len ix iv lo st hp kc ks) (xk_i_ldcs T pc len ix iv lo st hp kc ks) = some succs := h
      rw [ho] at h2
      exact xk_t_ldcs F TK SU hd h2 kk
  | ldc_w ix => exact xk_t_ldc_w F TK GK hX hI hRm hd h kk
  | ldc2_w ix => exact xk_t_ldc2_w F TK GK hX hI hRm hd h kk
  | iload_n n => exact xk_t_iload_n F TK GK hX hI hRm hd h kk
  | iload n => exact xk_t_iload F TK GK hX hI hRm hd h kk
  | lload_n n => exact xk_t_lload_n F TK GK hX hI hRm hd h kk
  | lload n => exact xk_t_lload F TK GK hX hI hRm hd h kk
  | aload_n n => exact xk_t_aload_n F TK GK hX hI hRm hd h kk
  | aload n => exact xk_t_aload F TK GK hX hI hRm hd h kk
  | istore_n n => exact xk_t_istore_n F TK GK hX hI hRm hd h kk
  | istore n => exact xk_t_istore F TK GK hX hI hRm hd h kk
  | lstore_n n => exact xk_t_lstore_n F TK GK hX hI hRm hd h kk
  | lstore n => exact xk_t_lstore F TK GK hX hI hRm hd h kk
  | astore_n n => exact xk_t_astore_n F TK GK hX hI hRm hd h kk
  | astore n => exact xk_t_astore F TK GK hX hI hRm hd h kk
  | iinc n c0 => exact xk_t_iinc F TK GK hX hI hRm hd h kk
  | iadd  => exact xk_t_iadd F TK GK hX hI hRm hd h kk
  | isub  => exact xk_t_isub F TK GK hX hI hRm hd h kk
  | imul  => exact xk_t_imul F TK GK hX hI hRm hd h kk
  | iand  => exact xk_t_iand F TK GK hX hI hRm hd h kk
  | ior  => exact xk_t_ior F TK GK hX hI hRm hd h kk
  | ixor  => exact xk_t_ixor F TK GK hX hI hRm hd h kk
  | ishl  => exact xk_t_ishl F TK GK hX hI hRm hd h kk
  | ishr  => exact xk_t_ishr F TK GK hX hI hRm hd h kk
  | iushr  => exact xk_t_iushr F TK GK hX hI hRm hd h kk
  | idiv  => exact xk_t_idiv F TK GK hX hI hRm hd h kk
  | irem  => exact xk_t_irem F TK GK hX hI hRm hd h kk
  | ladd  => exact xk_t_ladd F TK GK hX hI hRm hd h kk
  | lsub  => exact xk_t_lsub F TK GK hX hI hRm hd h kk
  | lmul  => exact xk_t_lmul F TK GK hX hI hRm hd h kk
  | land  => exact xk_t_land F TK GK hX hI hRm hd h kk
  | lor  => exact xk_t_lor F TK GK hX hI hRm hd h kk
  | ldiv  => exact xk_t_ldiv F TK GK hX hI hRm hd h kk
  | lrem  => exact xk_t_lrem F TK GK hX hI hRm hd h kk
  | lshl  => exact xk_t_lshl F TK GK hX hI hRm hd h kk
  | lushr  => exact xk_t_lushr F TK GK hX hI hRm hd h kk
  | i2b  => exact xk_t_i2b F TK GK hX hI hRm hd h kk
  | i2s  => exact xk_t_i2s F TK GK hX hI hRm hd h kk
  | i2l  => exact xk_t_i2l F TK GK hX hI hRm hd h kk
  | l2i  => exact xk_t_l2i F TK GK hX hI hRm hd h kk
  | lcmp  => exact xk_t_lcmp F TK GK hX hI hRm hd h kk
  | dup  => exact xk_t_dup F TK GK hX hI hRm hd h kk
  | pop  => exact xk_t_pop F TK GK hX hI hRm hd h kk
  | dup2  => exact xk_t_dup2 F TK GK hX hI hRm hd h kk
  | goto off => exact xk_t_goto F TK GK hX hI hRm hd h kk
  | tableswitch dflt tlo thi offs => exact xk_t_tableswitch F TK GK hX hI hRm hd h kk
  | ifnull off => exact xk_t_ifnull F TK GK hX hI hRm hd h kk
  | ifnonnull off => exact xk_t_ifnonnull F TK GK hX hI hRm hd h kk
  | getfield ix =>
    cases ho : xk_i_getfield T X pc len ix iv lo st hp kc ks with
    | some l2 =>
      have h2 : xk_or (xk_i_getfield T X pc len ix iv lo st hp kc ks) (xk_i_txt T pc len (.getfield ix) iv lo st hp kc ks) = some succs := h
      rw [ho] at h2
      cases h2
      exact xk_t_getfield F TK GK hX hI hRm hd ho kk
    | none =>
      have h2 : xk_or (xk_i_getfield T X pc len ix iv lo st hp kc ks) (xk_i_txt T pc len (.getfield ix) iv lo st hp kc ks) = some succs := h
      rw [ho] at h2
      exact xk_t_txt F TK SU hd h2 kk
  | getstatic ix => exact xk_t_txt F TK SU hd h kk
  | i2c => exact xk_t_txt F TK SU hd h kk
  | putfield ix => exact xk_t_putfield F TK GK hX hI hRm hd h kk
  | iaload  => exact xk_t_iaload F TK GK hX hI hRm SC hd h kk
  | baload =>
    cases ho : xk_i_baload T X pc len  iv lo st hp kc ks with
    | some l2 =>
      have h2 : xk_or (xk_i_baload T X pc len  iv lo st hp kc ks) (xk_i_txt T pc len .baload iv lo st hp kc ks) = some succs := h
      rw [ho] at h2
      cases h2
      exact xk_t_baload F TK GK hX hI hRm SC hd ho kk
    | none =>
      have h2 : xk_or (xk_i_baload T X pc len  iv lo st hp kc ks) (xk_i_txt T pc len .baload iv lo st hp kc ks) = some succs := h
      rw [ho] at h2
      exact xk_t_txt F TK SU hd h2 kk
  | laload  => exact xk_t_laload F TK GK hX hI hRm SC hd h kk
  | aaload  => exact xk_t_aaload F TK GK hX hI hRm SC hd h kk
  | arraylength =>
    cases ho : xk_i_arraylength T X pc len  iv lo st hp kc ks with
    | some l2 =>
      have h2 : xk_or (xk_i_arraylength T X pc len  iv lo st hp kc ks) (xk_i_txt T pc len .arraylength iv lo st hp kc ks) = some succs := h
      rw [ho] at h2
      cases h2
      exact xk_t_arraylength F TK GK hX hI hRm SC hd ho kk
    | none =>
      have h2 : xk_or (xk_i_arraylength T X pc len  iv lo st hp kc ks) (xk_i_txt T pc len .arraylength iv lo st hp kc ks) = some succs := h
      rw [ho] at h2
      exact xk_t_txt F TK SU hd h2 kk
  | iastore  => exact xk_t_iastore F TK GK hX hI hRm SC hd h kk
  | bastore  => exact xk_t_bastore F TK GK hX hI hRm SC hd h kk
  | lastore  => exact xk_t_lastore F TK GK hX hI hRm SC hd h kk
  | aastore  => exact xk_t_aastore F TK GK hX hI hRm SC hd h kk
  | new ix => exact xk_t_new F TK GK hX hI hRm SC hd h kk
  | newarray aty => exact xk_t_newarray F TK GK hX hI hRm SC hd h kk
  | anewarray ix => exact xk_t_anewarray F TK GK hX hI hRm SC hd h kk
  | if_icmp cnd off =>
    cases cnd with
    | lt => exact xk_t_icmp_lt F TK GK hX hI hRm hd h kk
    | ge => exact xk_t_icmp_ge F TK GK hX hI hRm hd h kk
    | gt => exact xk_t_icmp_gt F TK GK hX hI hRm hd h kk
    | le => exact xk_t_icmp_le F TK GK hX hI hRm hd h kk
    | eq => exact xk_t_icmp_eq F TK GK hX hI hRm hd h kk
    | ne => exact xk_t_icmp_ne F TK GK hX hI hRm hd h kk
  | ifCond cnd off =>
    cases cnd with
    | lt => exact xk_t_if_lt F TK GK hX hI hRm hd h kk
    | ge => exact xk_t_if_ge F TK GK hX hI hRm hd h kk
    | gt => exact xk_t_if_gt F TK GK hX hI hRm hd h kk
    | le => exact xk_t_if_le F TK GK hX hI hRm hd h kk
    | eq => exact xk_t_if_eq F TK GK hX hI hRm hd h kk
    | ne => exact xk_t_if_ne F TK GK hX hI hRm hd h kk
  | invokespecial ix =>
    cases ho : xk_i_obj T X pc len ix iv lo st hp kc ks with
    | some l2 =>
      have h2 : xk_or (xk_i_obj T X pc len ix iv lo st hp kc ks) (xk_call X pc iv lo st hp kc ks B) = some succs := h
      rw [ho] at h2
      cases h2
      exact xk_t_obj F TK GK hX hI hRm SC hd ho kk
    | none =>
      have h2 : xk_or (xk_i_obj T X pc len ix iv lo st hp kc ks) (xk_call X pc iv lo st hp kc ks B) = some succs := h
      rw [ho] at h2
      exact xk_t_call F SU hRm B hB h2 kk
  | invokestatic ix =>
    have h2 : xk_or (xk_i_acopy T X pc len ix iv lo st hp kc ks) (xk_or (xk_i_math T X pc len ix iv lo st hp kc ks) (xk_call X pc iv lo st hp kc ks B)) = some succs := h
    cases ho : xk_i_acopy T X pc len ix iv lo st hp kc ks with
    | some l2 =>
      rw [ho] at h2
      cases h2
      exact xk_t_acopy F TK GK hX hI hRm SC hd ho kk
    | none =>
      rw [ho] at h2
      have h3 : xk_or (xk_i_math T X pc len ix iv lo st hp kc ks) (xk_call X pc iv lo st hp kc ks B) = some succs := h2
      cases ho2 : xk_i_math T X pc len ix iv lo st hp kc ks with
      | some l2 =>
        rw [ho2] at h3
        cases h3
        exact xk_t_math F TK hRm hd ho2 kk
      | none =>
        rw [ho2] at h3
        exact xk_t_call F SU hRm B hB h3 kk
  | invokevirtual ix => exact xk_t_call F SU hRm B hB h kk
  | _ => cases h
def xk_exec (cc : ByteArray) (T : xk_T) (X : xk_X) (B : xk_B) (rt : Instr → xk_S → Bool) : Nat → Nat → xk_S → Bool
  | 0, _, _ => false
  | f + 1, pc, σ => match decode cc pc with
    | .ok (i, len) => (match xk_step T X B pc i len σ with
      | some l => l.all (fun q => xk_exec cc T X B rt f q.1 q.2)
      | none => Nat.beq len 1 && rt i σ)
    | .error _ => false
theorem xk_exec_ok {T : xk_T} {X : xk_X} {B : xk_B} {rt : Instr → xk_S → Bool} (F : xk_Fx p s m args c D A own cc nL) (TK : xk_TOK own T) (GK : xk_GOK) (hX : X.1 = nL) (hI : X.2.1 = true → meth.name = "<init>") (hRm : X.2.2.1 = (R.frames, R.cells, R.slots, R.locals)) (SC : ∀ L, X.2.2.2.1 = some L → ∃ xs : Nat → Int32, va_X (b.1 - 1) L xs s s.heap ∧ b.1 - 1 < s.heap.size ∧ ¬ A (b.1 - 1) ∧ b.2.1 = (List.range L).map (fun j => (xs j).toInt)) (SU : xk_SUH b.2.2.2 A s s.heap) (hB : ∀ q ∈ B, xk_Rn l D own cc nL R q.1 q.2.1) (RT : ∀ (pc : Nat) (i : Instr) (σ : xk_S), decode cc pc = .ok (i, 1) → rt i σ = true → xk_G p l e R s m args below meth c Q b nL D A pc σ) : ∀ (f pc : Nat) (σ : xk_S), xk_exec cc T X B rt f pc σ = true → xk_G p l e R s m args below meth c Q b nL D A pc σ
  | 0, _, _, h => by cases h
  | f + 1, pc, σ, h => by
    unfold xk_exec at h
    split at h
    · rename_i i len hd
      split at h
      · rename_i l2 hl
        exact xk_step_ok F TK GK hX hI hRm SC SU hB hd hl (fun q hq => xk_exec_ok F TK GK hX hI hRm SC SU hB RT f q.1 q.2 (List.all_eq_true.mp h q hq))
      · rw [Bool.and_eq_true] at h
        have hl := Nat.eq_of_beq_eq_true h.1
        subst hl
        exact RT pc i σ hd h.2
    · cases h
end XJ

/-! paste: the ghost q of a row's length less n; lacks and the model's paste by it -/
def xg_f (iv : xk_N) (q n L : Nat) : Bool := iv.2.any (fun r => Nat.beq r.1 q && (Nat.beq r.2.1 L && decide (r.2.2 = xe_e 16 n n n)))
theorem xg_get {env : List Int} {iv : xk_N} {q n L : Nat} {x y z : Int} (h : xk_ok env iv) (hn9 : n < 1000) (hq : env[q]? = some x) (hn : env[n]? = some y) (hL : env[L]? = some z) (hf : xg_f iv q n L = true) : x + y = z := by
  obtain ⟨r, hr, hrr⟩ := List.any_eq_true.mp hf
  simp only [Bool.and_eq_true, decide_eq_true_eq] at hrr
  have k1 := Nat.eq_of_beq_eq_true hrr.1
  have k2 := Nat.eq_of_beq_eq_true hrr.2.1
  have g := ((h.2.2 r hr).2.2.2 (by rw [hrr.2.2]; exact xe_bige)).2
  rw [hrr.2.2, xe_dec (by decide) hn9 hn9 hn9, k1, k2] at g
  have g : env.getD q 0 + env.getD n 0 = env.getD L 0 := g
  rw [xe_gd hq, xe_gd hn, xe_gd hL] at g
  exact g
def xg_22 (σ : xk_S) (q n L i : Int) : Option (List (Nat × xk_S)) := match σ.2.2.1 with
  | [(0, n2), (0, L2), (0, i2)] => if n2 = n ∧ L2 = L ∧ i2 = i ∧ 0 ≤ (xk_iv σ.1 (0, n)).1 ∧ xk_ent 5 σ.1 (0, n) (0, L) 0 = true ∧ 0 ≤ (xk_iv σ.1 (0, L)).1 ∧ (xk_iv σ.1 (0, L)).2 ≤ 60 then some (match xk_set σ.1 (0, q) (max (xk_iv σ.1 (0, q)).1 0, min (xk_iv σ.1 (0, q)).2 60) with
    | some N1 => [(23, ((if xr_has σ.1 i n (xk_big + 8 + 6100000000000) then (N1.1, (q.toNat, i.toNat, -1) :: N1.2) else N1), σ.2.1, [(0, q), (0, i)], σ.2.2.2))]
    | none => []) else none
  | _ => none
def xg_26 (σ : xk_S) (q n L : Int) : Option (List (Nat × xk_S)) := match σ.2.2.1 with
  | [] => if xk_ent 5 σ.1 (0, L) (0, n) (-1) = true ∧ -1 < (xk_iv σ.1 (0, q)).2 then some (match xk_set σ.1 (0, q) ((xk_iv σ.1 (0, q)).1, min (xk_iv σ.1 (0, q)).2 (-1)) with
    | some N1 => [(26, (N1, σ.2.1, [], σ.2.2.2))]
    | none => []) else none
  | _ => none
def xg_hkL : xk_Hk := fun pc σ => match σ.2.2.2.1[0]?, xk_ov σ.2.1 2, xk_ov σ.2.1 1 with
  | some (0, ci, [f0, f1, (0, L)], cn, I, ov), some (0, n), some (0, i) => (match xk_ov ov 0 with
    | some (0, q) => if xg_f σ.1 q.toNat n.toNat L.toNat = true ∧ n.toNat < 1000 ∧ n.toNat < σ.1.1.length ∧ q.toNat < σ.1.1.length ∧ L.toNat < σ.1.1.length ∧ i.toNat < σ.1.1.length then (if Nat.beq pc 22 = true then xg_22 σ q n L i else if Nat.beq pc 26 = true then xg_26 σ q n L else none) else none
    | _ => none)
  | _, _, _ => none
theorem xg_d8 : xk_dec (xk_big + 8 + 6100000000000) = (8, [0, 0, 0], 61) := by decide +kernel
section XG
variable {p : Program} {l : Launch} {e : Env} {R : Room} {s : State} {m : MethodId} {args : Array Value} {below : List Frame} {meth : Method} {c : Code} {Q : State → Prop} {D : va_G} {A : Nat → Prop} {b : xk_b}
theorem xg_HKL (F : xk_Fx p s m args c D A RX6 cX6_lacks 3) (pc : Nat) (σ : xk_S) (l2 : List (Nat × xk_S)) (hk : xg_hkL pc σ = some l2) (kk : ∀ q ∈ l2, xk_G p l e R s m args below meth c Q b 3 D A q.1 q.2) : xk_G p l e R s m args below meth c Q b 3 D A pc σ := by
  obtain ⟨hx, hb, -⟩ := F
  obtain ⟨iv, lo, st, hp, kc, ks⟩ := σ
  unfold xg_hkL at hk
  split at hk
  · rename_i ci f0 f1 L cn I ov n i e1 e2 e3
    split at hk
    · rename_i q hq
      split at hk
      · rename_i hcond
        obtain ⟨d1, d2, d3, d4, d5, d6⟩ := hcond
        have d1 : xg_f iv q.toNat n.toNat L.toNat = true := d1
        have d3 : n.toNat < iv.1.length := d3
        have d4 : q.toNat < iv.1.length := d4
        have d5 : L.toNat < iv.1.length := d5
        have d6 : i.toNat < iv.1.length := d6
        split at hk
        · rename_i h22
          have h22 := Nat.eq_of_beq_eq_true h22
          subst h22
          unfold xg_22 at hk
          split at hk
          · rename_i n2 L2 i2 est
            have est : st = [(0, n2), (0, L2), (0, i2)] := est
            subst est
            split at hk
            · rename_i hc2
              obtain ⟨c1, c2, c3, c4, c5, c6, c7⟩ := hc2
              subst c1
              subst c2
              subst c3
              cases hk
              have c4 : 0 ≤ (xk_iv iv (0, n2)).1 := c4
              have c6 : 0 ≤ (xk_iv iv (0, L2)).1 := c6
              have c7 : (xk_iv iv (0, L2)).2 ≤ 60 := c7
              intro env ad H locs ls sv h
              have hlen : env.length = iv.1.length := h.1.1
              obtain ⟨y, r1, rfl, ny, h1⟩ := xk_popI h rfl
              obtain ⟨x, r2, rfl, nx, h2⟩ := xk_popI h1 rfl
              have ny : env[n2.toNat]? = some y.toInt := ny
              have nx : env[L2.toNat]? = some x.toInt := nx
              obtain ⟨z, gq⟩ : ∃ z : Int, env[q.toNat]? = some z := ⟨_, List.getElem?_eq_getElem (by omega)⟩
              obtain ⟨w, gi⟩ : ∃ w : Int, env[i2.toNat]? = some w := ⟨_, List.getElem?_eq_getElem (by omega)⟩
              have hsum := xg_get h.1 d2 gq ny nx d1
              have by_ : (xk_iv iv (0, n2)).1 ≤ y.toInt ∧ y.toInt ≤ (xk_iv iv (0, n2)).2 := xk_iv_ok h.1 (show xk_n env (0, n2) _ from ny)
              have bx : (xk_iv iv (0, L2)).1 ≤ x.toInt ∧ x.toInt ≤ (xk_iv iv (0, L2)).2 := xk_iv_ok h.1 (show xk_n env (0, L2) _ from nx)
              have bz : (xk_iv iv (0, q)).1 ≤ z ∧ z ≤ (xk_iv iv (0, q)).2 := xk_iv_ok h.1 (show xk_n env (0, q) _ from gq)
              have hle := xk_ent_ok (a := (0, n2)) (c := (0, L2)) h.1 5 (show xk_n env (0, n2) _ from ny) (show xk_n env (0, L2) _ from nx) c5
              have hval : (x - y).toInt = z := by
                rw [Int32.toInt_sub]
                rw [xk_bm (by omega) (by omega)]
                omega
              refine lv_isub hx hb (by decide +kernel) ?_
              obtain ⟨N1, s1, s2⟩ := xk_set_ok (I := (max (xk_iv iv (0, q)).1 0, min (xk_iv iv (0, q)).2 60)) (av := (0, q)) h.1 gq (by show max (xk_iv iv (0, q)).1 0 ≤ z; omega) (by show z ≤ min (xk_iv iv (0, q)).2 60; omega)
              have hok : xk_ok env (if xr_has iv i2 n2 (xk_big + 8 + 6100000000000) = true then (N1.1, (q.toNat, i2.toNat, -1) :: N1.2) else N1) := by
                split
                · rename_i h8
                  have f8 := xn_get (k := xk_big + 8 + 6100000000000) h.1 gi ny (by omega) h8
                  rw [xg_d8] at f8
                  have f8 : ((61 : Nat) : Int) ≤ w + y.toInt := f8
                  exact xe_rel (k := -1) s2 gq gi (by omega) (by decide)
                · exact s2
              refine kk (23, ((if xr_has iv i2 n2 (xk_big + 8 + 6100000000000) = true then (N1.1, (q.toNat, i2.toNat, -1) :: N1.2) else N1), lo, [(0, q), (0, i2)], hp, kc, ks)) ?_ _ _ _ _ _ _ (xk_push (xk_bnd h2 hok) ⟨_, rfl, ?_⟩)
              · rw [show xk_set (iv, lo, [((0 : Nat), n2), (0, L2), (0, i2)], hp, kc, ks).1 (0, q) (max (xk_iv (iv, lo, [((0 : Nat), n2), (0, L2), (0, i2)], hp, kc, ks).1 (0, q)).1 0, min (xk_iv (iv, lo, [((0 : Nat), n2), (0, L2), (0, i2)], hp, kc, ks).1 (0, q)).2 60) = some N1 from s1]
                exact List.mem_cons_self
              · show env[q.toNat]? = _
                rw [hval]
                exact gq
            · cases hk
          · cases hk
        · split at hk
          · rename_i h26
            have h26 := Nat.eq_of_beq_eq_true h26
            subst h26
            unfold xg_26 at hk
            split at hk
            · rename_i est
              have est : st = [] := est
              subst est
              split at hk
              · rename_i hc2
                obtain ⟨c1, c2⟩ := hc2
                cases hk
                intro env ad H locs ls sv h
                have hlen : env.length = iv.1.length := h.1.1
                obtain ⟨y, ny⟩ : ∃ z : Int, env[n.toNat]? = some z := ⟨_, List.getElem?_eq_getElem (by omega)⟩
                obtain ⟨x, nx⟩ : ∃ z : Int, env[L.toNat]? = some z := ⟨_, List.getElem?_eq_getElem (by omega)⟩
                obtain ⟨z, gq⟩ : ∃ z : Int, env[q.toNat]? = some z := ⟨_, List.getElem?_eq_getElem (by omega)⟩
                have hsum := xg_get h.1 d2 gq ny nx d1
                have bz : (xk_iv iv (0, q)).1 ≤ z ∧ z ≤ (xk_iv iv (0, q)).2 := xk_iv_ok h.1 (show xk_n env (0, q) _ from gq)
                have hle := xk_ent_ok (a := (0, L)) (c := (0, n)) h.1 5 (show xk_n env (0, L) _ from nx) (show xk_n env (0, n) _ from ny) c1
                obtain ⟨N1, s1, s2⟩ := xk_set_ok (I := ((xk_iv iv (0, q)).1, min (xk_iv iv (0, q)).2 (-1))) (av := (0, q)) h.1 gq bz.1 (by show z ≤ min (xk_iv iv (0, q)).2 (-1); omega)
                refine kk (26, (N1, lo, [], hp, kc, ks)) ?_ _ _ _ _ _ _ (xk_bnd h s2)
                rw [show xk_set (iv, lo, ([] : List xk_V), hp, kc, ks).1 (0, q) ((xk_iv (iv, lo, ([] : List xk_V), hp, kc, ks).1 (0, q)).1, min (xk_iv (iv, lo, ([] : List xk_V), hp, kc, ks).1 (0, q)).2 (-1)) = some N1 from s1]
                exact List.mem_cons_self
              · cases hk
            · cases hk
          · cases hk
      · cases hk
    · cases hk
  · cases hk
end XG

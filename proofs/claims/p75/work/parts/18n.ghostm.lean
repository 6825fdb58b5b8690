/-! the model's paste by the ghost -/
def xg_sum (pc : Nat) (σ : xk_S) : Option (List (Nat × xk_S)) := match σ.2.2.1 with
  | (1, n) :: (1, i) :: st => if i.toNat < σ.1.1.length ∧ n.toNat < σ.1.1.length ∧ n.toNat < 1000 ∧ 0 ≤ (xk_iv σ.1 (1, i)).1 ∧ (xk_iv σ.1 (1, i)).2 ≤ 2147483647 ∧ 0 ≤ (xk_iv σ.1 (1, n)).1 ∧ (xk_iv σ.1 (1, n)).2 ≤ 2147483647 then some [(pc + 1, ((σ.1.1 ++ [(0, 60)], (σ.1.1.length, i.toNat, xe_e 17 n.toNat n.toNat n.toNat) :: (i.toNat, n.toNat, xq_fact) :: σ.1.2), σ.2.1, (1, (σ.1.1.length : Int)) :: st, σ.2.2.2)), (pc + 1, ((σ.1.1 ++ [(61, 4294967294)], (σ.1.1.length, i.toNat, xe_e 17 n.toNat n.toNat n.toNat) :: σ.1.2), σ.2.1, (1, (σ.1.1.length : Int)) :: st, σ.2.2.2))] else none
  | _ => none
def xg_es (k : Int) : Nat := (xk_dec k).2.1.getD 0 0
def xg_cA (pc : Nat) (σ : xk_S) (q i : Nat) (s m : Int) (st : List xk_V) : List (Nat × xk_S) := match xk_le σ.1 (0, (i : Int)) (0, (q : Int)) 0 with
  | none => []
  | some N1 => (match xk_le N1 (1, s) (1, m) 0 with
    | none => []
    | some N2 => [(pc + 1, (N2, σ.2.1, (5, -1) :: st, σ.2.2.2)), (pc + 1, (N2, σ.2.1, (5, 0) :: st, σ.2.2.2))])
def xg_cB (pc : Nat) (σ : xk_S) (q i : Nat) (s m : Int) (st : List xk_V) : List (Nat × xk_S) := match xk_le σ.1 (0, (q : Int)) (0, (i : Int)) (-1) with
  | none => []
  | some N1 => (match xk_le N1 (1, m) (1, s) (-1) with
    | none => []
    | some N2 => [(pc + 1, (N2, σ.2.1, (5, 1) :: st, σ.2.2.2))])
def xg_cmp (pc : Nat) (σ : xk_S) : Option (List (Nat × xk_S)) := match σ.2.2.1 with
  | (1, m) :: (1, s) :: st => (match σ.1.2.find? (fun r => Nat.beq r.1 s.toNat && (decide (xk_big ≤ r.2.2) && Nat.beq (xk_dec r.2.2).1 17)) with
    | some r => (match σ.1.2.find? (fun z => Nat.beq z.2.1 m.toNat && decide (z.2.2 = xe_e 16 (xg_es r.2.2) (xg_es r.2.2) (xg_es r.2.2))) with
      | some z => if r.2.2 = xe_e 17 (xg_es r.2.2) (xg_es r.2.2) (xg_es r.2.2) ∧ xg_es r.2.2 < 1000 ∧ xg_es r.2.2 < σ.1.1.length ∧ m.toNat < σ.1.1.length ∧ s.toNat < σ.1.1.length then some (xg_cA pc σ z.1 r.2.1 s m st ++ xg_cB pc σ z.1 r.2.1 s m st) else none
      | none => none)
    | none => none)
  | _ => none
def xg_hkM : xk_Hk := fun pc σ => if Nat.beq pc 82 || Nat.beq pc 100 then xg_sum pc σ else if Nat.beq pc 90 || Nat.beq pc 108 then xg_cmp pc σ else if Nat.beq pc 135 then xq_ix 1 2 144 σ else if Nat.beq pc 166 then xq_ix 3 4 176 σ else none
theorem xg_f1 {env : List Int} {iv : xk_N} {id n : Nat} {r : xk_R} {x y z : Int} (h : xk_ok env iv) (hid : id < 100) (hn9 : n < 1000) (hr : r ∈ iv.2) (hk : r.2.2 = xe_e id n n n) (hx : env[r.1]? = some x) (hy : env[r.2.1]? = some y) (hz : env[n]? = some z) : xk_fa id x y [z, z, z] 0 := by
  have g := ((h.2.2 r hr).2.2.2 (by rw [hk]; exact xe_bige)).2
  rw [hk, xe_dec hid hn9 hn9 hn9] at g
  have g : xk_fa id (env.getD r.1 0) (env.getD r.2.1 0) [env.getD n 0, env.getD n 0, env.getD n 0] 0 := g
  rw [xe_gd hx, xe_gd hy, xe_gd hz] at g
  exact g
section XG2
variable {p : Program} {l : Launch} {e : Env} {R : Room} {s : State} {m : MethodId} {args : Array Value} {below : List Frame} {meth : Method} {c : Code} {Q : State → Prop} {D : va_G} {A : Nat → Prop} {b : xk_b}
theorem xg_sum_ok {pc : Nat} {σ : xk_S} {l2 : List (Nat × xk_S)} (row : ∀ (H : Heap) (locs : List Loc) (kc ks : Nat) (ls : Array Slot) (rest : List Value) (x y : Int64), W p l e R s m args below meth c H locs kc ks Q (F0 m (pc + 1) ls (.long (x + y) :: rest)) → W p l e R s m args below meth c H locs kc ks Q (F0 m pc ls (.long y :: .long x :: rest))) (hk : xg_sum pc σ = some l2) (kk : ∀ q ∈ l2, xk_G p l e R s m args below meth c Q b 7 D A q.1 q.2) : xk_G p l e R s m args below meth c Q b 7 D A pc σ := by
  obtain ⟨iv, lo, st, hp, kc, ks⟩ := σ
  unfold xg_sum at hk
  split at hk
  · rename_i n i st0 est
    have est : st = (1, n) :: (1, i) :: st0 := est
    subst est
    split at hk
    · rename_i hcond
      obtain ⟨d1, d2, d0, d3, d4, d5, d6⟩ := hcond
      cases hk
      have d3 : 0 ≤ (xk_iv iv (1, i)).1 := d3
      have d4 : (xk_iv iv (1, i)).2 ≤ 2147483647 := d4
      have d5 : 0 ≤ (xk_iv iv (1, n)).1 := d5
      have d6 : (xk_iv iv (1, n)).2 ≤ 2147483647 := d6
      intro env ad H locs ls sv h
      obtain ⟨y, r1, rfl, ny, h1⟩ := xk_popL h rfl
      obtain ⟨x, rest, rfl, nx, h0⟩ := xk_popL h1 rfl
      have by_ : (xk_iv iv (1, n)).1 ≤ y.toInt ∧ y.toInt ≤ (xk_iv iv (1, n)).2 := xk_iv_ok h.1 ny
      have bx_ : (xk_iv iv (1, i)).1 ≤ x.toInt ∧ x.toInt ≤ (xk_iv iv (1, i)).2 := xk_iv_ok h.1 nx
      have ny : env[n.toNat]? = some y.toInt := ny
      have nx : env[i.toNat]? = some x.toInt := nx
      have hval := xq_addL (x := x) (y := y) (by omega) (by omega) (by omega) (by omega)
      have hlen : env.length = iv.1.length := h.1.1
      refine row H locs kc ks ls rest x y ?_
      by_cases h60 : x.toInt + y.toInt ≤ 60
      · have hok1 := xk_ok_app (n := (x + y).toInt) (q := (0, 60)) h0.1 (by show 0 ≤ _; omega) (by show _ ≤ 60; omega)
        have hok2 := xr_add (i := i.toNat) (n := n.toNat) (k := xq_fact) hok1 (xk_ga nx) (xk_ga ny) xq_bigl (by unfold xk_big; omega) (by rw [xq_dec]; intro j hj; simp only [List.mem_cons, List.not_mem_nil, or_false] at hj; rcases hj with rfl | rfl | rfl <;> simp) (by rw [xq_dec]; show x.toInt + y.toInt ≤ ((60 : Nat) : Int); exact h60)
        have hok := xe_add (i := iv.1.length) (n := i.toNat) (id := 17) (e0 := n.toNat) (e1 := n.toNat) (e2 := n.toNat) hok2 (xe_last hlen) (xk_ga nx) (xk_ga ny) (xk_ga ny) (xk_ga ny) (by decide) d0 d0 d0 (by unfold xk_big; omega) (show (x + y).toInt = x.toInt + y.toInt from hval)
        refine kk _ List.mem_cons_self _ _ _ _ _ _ (xk_push (xk_grow [(x + y).toInt] h0 hok) ⟨_, rfl, ?_⟩)
        show (env ++ [_])[((iv.1.length : Nat) : Int).toNat]? = _
        rw [Int.toNat_natCast, xe_last hlen]
      · have hok1 := xk_ok_app (n := (x + y).toInt) (q := (61, 4294967294)) h0.1 (by show 61 ≤ _; omega) (by show _ ≤ 4294967294; omega)
        have hok := xe_add (i := iv.1.length) (n := i.toNat) (id := 17) (e0 := n.toNat) (e1 := n.toNat) (e2 := n.toNat) hok1 (xe_last hlen) (xk_ga nx) (xk_ga ny) (xk_ga ny) (xk_ga ny) (by decide) d0 d0 d0 (by unfold xk_big; omega) (show (x + y).toInt = x.toInt + y.toInt from hval)
        refine kk _ (List.mem_cons_of_mem _ List.mem_cons_self) _ _ _ _ _ _ (xk_push (xk_grow [(x + y).toInt] h0 hok) ⟨_, rfl, ?_⟩)
        show (env ++ [_])[((iv.1.length : Nat) : Int).toNat]? = _
        rw [Int.toNat_natCast, xe_last hlen]
    · cases hk
  · cases hk
theorem xg_cmp_ok {pc : Nat} {σ : xk_S} {l2 : List (Nat × xk_S)} (row : ∀ (H : Heap) (locs : List Loc) (kc ks : Nat) (ls : Array Slot) (rest : List Value) (x y : Int64), W p l e R s m args below meth c H locs kc ks Q (F0 m (pc + 1) ls (.int (lg_cmp x y) :: rest)) → W p l e R s m args below meth c H locs kc ks Q (F0 m pc ls (.long y :: .long x :: rest))) (hk : xg_cmp pc σ = some l2) (kk : ∀ q ∈ l2, xk_G p l e R s m args below meth c Q b 7 D A q.1 q.2) : xk_G p l e R s m args below meth c Q b 7 D A pc σ := by
  obtain ⟨iv, lo, st, hp, kc, ks⟩ := σ
  unfold xg_cmp at hk
  split at hk
  · rename_i m_ s_ st0 est
    have est : st = (1, m_) :: (1, s_) :: st0 := est
    subst est
    split at hk
    · rename_i r hr
      split at hk
      · rename_i z hz
        split at hk
        · rename_i hcond
          obtain ⟨d1, d2, d3, d4, d5⟩ := hcond
          cases hk
          have hrm := List.mem_of_find?_eq_some hr
          have hrp := List.find?_some hr
          have hzm := List.mem_of_find?_eq_some hz
          have hzp := List.find?_some hz
          have hrm : r ∈ iv.2 := hrm
          have hzm : z ∈ iv.2 := hzm
          rw [Bool.and_eq_true] at hrp hzp
          have k1 := Nat.eq_of_beq_eq_true hrp.1
          have k2 := Nat.eq_of_beq_eq_true hzp.1
          have k3 := of_decide_eq_true hzp.2
          have d3 : xg_es r.2.2 < iv.1.length := d3
          intro env ad H locs ls sv h
          have hlen : env.length = iv.1.length := h.1.1
          obtain ⟨y, r1, rfl, ny, h1⟩ := xk_popL h rfl
          obtain ⟨x, rest, rfl, nx, h0⟩ := xk_popL h1 rfl
          have ny2 : env[m_.toNat]? = some y.toInt := ny
          have nx2 : env[s_.toNat]? = some x.toInt := nx
          have wr := h.1.2.2 r hrm
          have wz := h.1.2.2 z hzm
          obtain ⟨i, gi⟩ : ∃ i : Int, env[r.2.1]? = some i := ⟨_, List.getElem?_eq_getElem wr.2.1⟩
          obtain ⟨q, gq⟩ : ∃ q : Int, env[z.1]? = some q := ⟨_, List.getElem?_eq_getElem wz.1⟩
          obtain ⟨n, gn⟩ : ∃ n : Int, env[xg_es r.2.2]? = some n := ⟨_, List.getElem?_eq_getElem (by omega)⟩
          have f17 : x.toInt = i + n := xg_f1 (id := 17) h.1 (by decide) d2 hrm d1 (by rw [k1]; exact nx2) gi gn
          have f16 : q + n = y.toInt := xg_f1 (id := 16) h.1 (by decide) d2 hzm k3 gq (by rw [k2]; exact ny2) gn
          have gi' : xk_n env (0, (r.2.1 : Int)) i := by
            show env[((r.2.1 : Nat) : Int).toNat]? = some i
            rw [Int.toNat_natCast]
            exact gi
          have gq' : xk_n env (0, (z.1 : Int)) q := by
            show env[((z.1 : Nat) : Int).toNat]? = some q
            rw [Int.toNat_natCast]
            exact gq
          refine row _ _ _ _ _ _ x y ?_
          unfold lg_cmp
          by_cases c1 : x > y
          · rw [if_pos c1]
            have c1' : y.toInt < x.toInt := Int64.lt_iff_toInt_lt.mp c1
            obtain ⟨N1, e1, o1⟩ := xk_le_ok (k := -1) h.1 gq' gi' (by omega)
            obtain ⟨N2, e2, o2⟩ := xk_le_ok (k := -1) o1 ny nx (by omega)
            refine kk (pc + 1, (N2, lo, (5, 1) :: st0, hp, kc, ks)) (List.mem_append_right _ ?_) _ _ _ _ _ _ (xk_push (xk_bnd h0 o2) ⟨1, rfl, rfl⟩)
            unfold xg_cB
            rw [show xk_le (iv, lo, (1, m_) :: (1, s_) :: st0, hp, kc, ks).1 (0, (z.1 : Int)) (0, (r.2.1 : Int)) (-1) = some N1 from e1]
            dsimp only
            rw [e2]
            exact List.mem_cons_self
          · rw [if_neg c1]
            have c2 : x.toInt ≤ y.toInt := Int.not_lt.mp (fun z => c1 (Int64.lt_iff_toInt_lt.mpr z))
            obtain ⟨N1, e1, o1⟩ := xk_le_ok (k := 0) h.1 gi' gq' (by omega)
            obtain ⟨N2, e2, o2⟩ := xk_le_ok (k := 0) o1 nx ny (by omega)
            by_cases c3 : x = y
            · rw [if_pos c3]
              refine kk (pc + 1, (N2, lo, (5, 0) :: st0, hp, kc, ks)) (List.mem_append_left _ ?_) _ _ _ _ _ _ (xk_push (xk_bnd h0 o2) ⟨0, rfl, rfl⟩)
              unfold xg_cA
              rw [show xk_le (iv, lo, (1, m_) :: (1, s_) :: st0, hp, kc, ks).1 (0, (r.2.1 : Int)) (0, (z.1 : Int)) 0 = some N1 from e1]
              dsimp only
              rw [e2]
              exact List.mem_cons_of_mem _ List.mem_cons_self
            · rw [if_neg c3]
              refine kk (pc + 1, (N2, lo, ((5 : Nat), (-1 : Int)) :: st0, hp, kc, ks)) (List.mem_append_left _ ?_) env ad _ _ _ _ ?_
              · unfold xg_cA
                rw [show xk_le (iv, lo, (1, m_) :: (1, s_) :: st0, hp, kc, ks).1 (0, (r.2.1 : Int)) (0, (z.1 : Int)) 0 = some N1 from e1]
                dsimp only
                rw [e2]
                exact List.mem_cons_self
              · exact xk_push (xk_bnd h0 o2) ⟨-1, rfl, rfl⟩
        · cases hk
      · cases hk
    · cases hk
  · cases hk
theorem xg_HKM (F : xk_Fx p s m args c D A RX10 cX10_paste 7) (pc : Nat) (σ : xk_S) (l2 : List (Nat × xk_S)) (hk : xg_hkM pc σ = some l2) (kk : ∀ q ∈ l2, xk_G p l e R s m args below meth c Q b 7 D A q.1 q.2) : xk_G p l e R s m args below meth c Q b 7 D A pc σ := by
  have F0 := F
  obtain ⟨hx, hb, -⟩ := F
  unfold xg_hkM at hk
  split at hk
  · rename_i hpc
    rw [Bool.or_eq_true] at hpc
    refine xg_sum_ok (fun H locs kc ks ls rest x y k => ?_) hk kk
    rcases hpc with hpc | hpc
    · have hpc := Nat.eq_of_beq_eq_true hpc
      subst hpc
      exact lv_ladd hx hb (by decide +kernel) k
    · have hpc := Nat.eq_of_beq_eq_true hpc
      subst hpc
      exact lv_ladd hx hb (by decide +kernel) k
  split at hk
  · rename_i hpc
    rw [Bool.or_eq_true] at hpc
    refine xg_cmp_ok (fun H locs kc ks ls rest x y k => ?_) hk kk
    rcases hpc with hpc | hpc
    · have hpc := Nat.eq_of_beq_eq_true hpc
      subst hpc
      exact W.lcmp hx hb (by decide +kernel) k
    · have hpc := Nat.eq_of_beq_eq_true hpc
      subst hpc
      exact W.lcmp hx hb (by decide +kernel) k
  split at hk
  · rename_i h135 h90 hpc
    have hpc := Nat.eq_of_beq_eq_true hpc
    subst hpc
    exact xq_HK F0 135 σ l2 (by unfold xq_hk; rw [if_neg (by decide), if_pos (by decide)]; exact hk) kk
  split at hk
  · rename_i h135 h90 h166 hpc
    have hpc := Nat.eq_of_beq_eq_true hpc
    subst hpc
    exact xq_HK F0 166 σ l2 (by unfold xq_hk; rw [if_neg (by decide), if_neg (by decide), if_pos (by decide)]; exact hk) kk
  cases hk
end XG2

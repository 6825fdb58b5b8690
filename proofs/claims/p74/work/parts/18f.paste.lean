def xq_fact : Int := xk_big + 1 + 6000000000000
theorem xq_dec : xk_dec xq_fact = (1, [0, 0, 0], 60) := by decide +kernel
theorem xq_bigl : xk_big ≤ xq_fact := by unfold xq_fact; omega
/-- an index of a slot's row: by the fact that i and n together are 60 at most -/
def xq_ix (la li tgt : Nat) (σ : xk_S) : Option (List (Nat × xk_S)) := match xk_ov σ.2.1 la, xk_ov σ.2.1 li, xk_ov σ.2.1 6, xk_ov σ.2.1 5 with
  | some sv, some (0, i), some x, some (0, n) => if xk_isI sv = true ∧ 0 ≤ (xk_iv σ.1 sv).1 ∧ (xk_iv σ.1 sv).2 ≤ 3 ∧ xk_isI x = true ∧ 0 ≤ (xk_iv σ.1 x).1 ∧ 0 ≤ (xk_iv σ.1 (0, i)).1 ∧ xk_ent 5 σ.1 x (0, n) (-1) = true ∧ σ.1.2.any (fun r => Nat.beq r.1 i.toNat && (Nat.beq r.2.1 n.toNat && decide (r.2.2 = xq_fact))) = true then some (match xk_set σ.1 x ((xk_iv σ.1 x).1, min (xk_iv σ.1 x).2 59) with
    | some N1 => [(tgt, ((N1.1 ++ [(0, 239)], N1.2), σ.2.1, (0, (N1.1.length : Int)) :: σ.2.2.1, σ.2.2.2.1, σ.2.2.2.2.1, σ.2.2.2.2.2))]
    | none => []) else none
  | _, _, _, _ => none
def xq_sum (pc : Nat) (σ : xk_S) : Option (List (Nat × xk_S)) := match σ.2.2.1 with
  | (1, n) :: (1, i) :: st => if i.toNat < σ.1.1.length ∧ n.toNat < σ.1.1.length ∧ 0 ≤ (xk_iv σ.1 (1, i)).1 ∧ (xk_iv σ.1 (1, i)).2 ≤ 2147483647 ∧ 0 ≤ (xk_iv σ.1 (1, n)).1 ∧ (xk_iv σ.1 (1, n)).2 ≤ 2147483647 then some [(pc + 1, ((σ.1.1 ++ [(0, 60)], (i.toNat, n.toNat, xq_fact) :: σ.1.2), σ.2.1, (1, (σ.1.1.length : Int)) :: st, σ.2.2.2.1, σ.2.2.2.2.1, σ.2.2.2.2.2)), (pc + 1, ((σ.1.1 ++ [(61, 4294967294)], σ.1.2), σ.2.1, (1, (σ.1.1.length : Int)) :: st, σ.2.2.2.1, σ.2.2.2.2.1, σ.2.2.2.2.2))] else none
  | _ => none
def xq_hk : xk_Hk := fun pc σ => if Nat.beq pc 82 || Nat.beq pc 100 then xq_sum pc σ else if Nat.beq pc 135 then xq_ix 1 2 144 σ else if Nat.beq pc 166 then xq_ix 3 4 176 σ else none
theorem xq_addL {x y : Int64} (h1 : 0 ≤ x.toInt) (h2 : x.toInt ≤ 2147483647) (h3 : 0 ≤ y.toInt) (h4 : y.toInt ≤ 2147483647) : (x + y).toInt = x.toInt + y.toInt := by
  rw [Int64.toInt_add]
  exact xk_bmL (by omega) (by omega)
theorem xq_num {a i x : Int32} (h1 : 0 ≤ a.toInt) (h2 : a.toInt ≤ 3) (h3 : 0 ≤ i.toInt) (h4 : i.toInt ≤ 60) (h5 : 0 ≤ x.toInt) (h6 : x.toInt ≤ 60) : ((60 : Int32) * a + i + x).toInt = 60 * a.toInt + i.toInt + x.toInt := by
  have e0 : (60 : Int32).toInt = 60 := rfl
  have e1 : ((60 : Int32) * a).toInt = 60 * a.toInt := by
    rw [Int32.toInt_mul, e0]
    exact xk_bm (by omega) (by omega)
  have e2 : ((60 : Int32) * a + i).toInt = 60 * a.toInt + i.toInt := by
    rw [Int32.toInt_add, e1]
    exact xk_bm (by omega) (by omega)
  rw [Int32.toInt_add, e2]
  exact xk_bm (by omega) (by omega)
section XQ
variable {p : Program} {l : Launch} {e : Env} {R : Room} {s : State} {m : MethodId} {args : Array Value} {below : List Frame} {meth : Method} {c : Code} {Q : State → Prop} {D : va_G} {A : Nat → Prop} {b : xk_b}
theorem xq_ix_ok {la li tgt pc : Nat} {σ : xk_S} {l2 : List (Nat × xk_S)} (row : ∀ (H : Heap) (locs : List Loc) (kc ks : Nat) (ls : Array Slot) (rest : List Value) (a i x : Int32), ls[la]? = some (.val (.int a)) → ls[li]? = some (.val (.int i)) → ls[6]? = some (.val (.int x)) → W p l e R s m args below meth c H locs kc ks Q (F0 m tgt ls (.int ((60 : Int32) * a + i + x) :: rest)) → W p l e R s m args below meth c H locs kc ks Q (F0 m pc ls rest)) (hk : xq_ix la li tgt σ = some l2) (kk : ∀ q ∈ l2, xk_G p l e R s m args below meth c Q b 7 D A q.1 q.2) : xk_G p l e R s m args below meth c Q b 7 D A pc σ := by
  obtain ⟨iv, lo, st, hp, kc, ks⟩ := σ
  unfold xq_ix at hk
  split at hk
  · rename_i sv i x n e1 e2 e3 e4
    have e1 : xk_ov lo la = some sv := e1
    have e2 : xk_ov lo li = some (0, i) := e2
    have e3 : xk_ov lo 6 = some x := e3
    have e4 : xk_ov lo 5 = some (0, n) := e4
    split at hk
    · rename_i hcond
      obtain ⟨d1, d2, d3, d4, d5, d6, d7, d8⟩ := hcond
      cases hk
      have d2 : 0 ≤ (xk_iv iv sv).1 := d2
      have d3 : (xk_iv iv sv).2 ≤ 3 := d3
      have d5 : 0 ≤ (xk_iv iv x).1 := d5
      have d6 : 0 ≤ (xk_iv iv (0, i)).1 := d6
      intro env ad H locs ls rest h
      obtain ⟨v1, l1, m1⟩ := xk_ldI h e1
      obtain ⟨a, q1, n1⟩ := xk_vI d1 m1
      subst q1
      obtain ⟨v2, l2, m2⟩ := xk_ldI h e2
      obtain ⟨ii, q2, n2⟩ := m2
      subst q2
      obtain ⟨v3, l3, m3⟩ := xk_ldI h e3
      obtain ⟨xx, q3, n3⟩ := xk_vI d4 m3
      subst q3
      obtain ⟨v4, l4, m4⟩ := xk_ldI h e4
      obtain ⟨nn, q4, n4⟩ := m4
      have n2 : env[i.toNat]? = some ii.toInt := n2
      have n4 : env[n.toNat]? = some nn.toInt := n4
      obtain ⟨r, hr, hrr⟩ := List.any_eq_true.mp d8
      simp only [Bool.and_eq_true, decide_eq_true_eq] at hrr
      have k1 := Nat.eq_of_beq_eq_true hrr.1
      have k2 := Nat.eq_of_beq_eq_true hrr.2.1
      have k3 := hrr.2.2
      have hf := ((h.1.2.2 r hr).2.2.2 (by rw [k3]; exact xq_bigl)).2
      rw [k3, xq_dec, k1, k2] at hf
      have g2 : env.getD i.toNat 0 = ii.toInt := by rw [List.getD_eq_getElem?_getD, n2]; rfl
      have g4 : env.getD n.toNat 0 = nn.toInt := by rw [List.getD_eq_getElem?_getD, n4]; rfl
      have hf : env.getD i.toNat 0 + env.getD n.toNat 0 ≤ ((60 : Nat) : Int) := hf
      rw [g2, g4] at hf
      have ba : (xk_iv iv sv).1 ≤ a.toInt ∧ a.toInt ≤ (xk_iv iv sv).2 := xk_iv_ok h.1 n1
      have bi : (xk_iv iv (0, i)).1 ≤ ii.toInt ∧ ii.toInt ≤ (xk_iv iv (0, i)).2 := xk_iv_ok h.1 (show xk_n env (0, i) ii.toInt from n2)
      have bx : (xk_iv iv x).1 ≤ xx.toInt ∧ xx.toInt ≤ (xk_iv iv x).2 := xk_iv_ok h.1 n3
      have hlt := xk_ent_ok h.1 5 n3 (show xk_n env (0, n) nn.toInt from n4) d7
      have hval := xq_num (a := a) (i := ii) (x := xx) (by omega) (by omega) (by omega) (by omega) (by omega) (by omega)
      refine row H locs kc ks ls rest a ii xx l1 l2 l3 ?_
      obtain ⟨N1, eN1, h01⟩ := xk_set_ok (I := ((xk_iv iv x).1, min (xk_iv iv x).2 59)) h.1 n3 bx.1 (by show xx.toInt ≤ min _ _; omega)
      have hok := xk_ok_app (n := ((60 : Int32) * a + ii + xx).toInt) (q := (0, 239)) h01 (by show 0 ≤ _; omega) (by show _ ≤ 239; omega)
      refine kk (tgt, ((N1.1 ++ [(0, 239)], N1.2), lo, (0, (N1.1.length : Int)) :: st, hp, kc, ks)) (by rw [show xk_set (iv, lo, st, hp, kc, ks).1 x ((xk_iv (iv, lo, st, hp, kc, ks).1 x).1, min (xk_iv (iv, lo, st, hp, kc, ks).1 x).2 59) = some N1 from eN1]; exact List.mem_cons_self) _ _ _ _ _ _ (xk_push (xk_grow [((60 : Int32) * a + ii + xx).toInt] h hok) ⟨_, rfl, ?_⟩)
      show (env ++ [_])[((N1.1.length : Nat) : Int).toNat]? = _
      have hlen : env.length = N1.1.length := h01.1
      rw [Int.toNat_natCast, ← hlen]
      simp
    · cases hk
  · cases hk
theorem xq_sum_ok {pc : Nat} {σ : xk_S} {l2 : List (Nat × xk_S)} (row : ∀ (H : Heap) (locs : List Loc) (kc ks : Nat) (ls : Array Slot) (rest : List Value) (x y : Int64), W p l e R s m args below meth c H locs kc ks Q (F0 m (pc + 1) ls (.long (x + y) :: rest)) → W p l e R s m args below meth c H locs kc ks Q (F0 m pc ls (.long y :: .long x :: rest))) (hk : xq_sum pc σ = some l2) (kk : ∀ q ∈ l2, xk_G p l e R s m args below meth c Q b 7 D A q.1 q.2) : xk_G p l e R s m args below meth c Q b 7 D A pc σ := by
  obtain ⟨iv, lo, st, hp, kc, ks⟩ := σ
  unfold xq_sum at hk
  split at hk
  · rename_i n i st0 est
    have est : st = (1, n) :: (1, i) :: st0 := est
    subst est
    split at hk
    · rename_i hcond
      obtain ⟨d1, d2, d3, d4, d5, d6⟩ := hcond
      cases hk
      have d3 : 0 ≤ (xk_iv iv (1, i)).1 := d3
      have d4 : (xk_iv iv (1, i)).2 ≤ 2147483647 := d4
      have d5 : 0 ≤ (xk_iv iv (1, n)).1 := d5
      have d6 : (xk_iv iv (1, n)).2 ≤ 2147483647 := d6
      intro env ad H locs ls sv h
      obtain ⟨y, r1, rfl, ny, h1⟩ := xk_popL h rfl
      obtain ⟨x, rest, rfl, nx, h0⟩ := xk_popL h1 rfl
      have by_ : (xk_iv iv (1, n)).1 ≤ y.toInt ∧ y.toInt ≤ (xk_iv iv (1, n)).2 := xk_iv_ok h.1 ny
      have bx_ : (xk_iv iv (1, i)).1 ≤ x.toInt ∧ x.toInt ≤ (xk_iv iv (1, i)).2 := xk_iv_ok h.1 nx
      have ny : env[n.toNat]? = some y.toInt := ny
      have nx : env[i.toNat]? = some x.toInt := nx
      have hval := xq_addL (x := x) (y := y) (by omega) (by omega) (by omega) (by omega)
      have hlen : env.length = iv.1.length := h.1.1
      refine row H locs kc ks ls rest x y ?_
      by_cases h60 : x.toInt + y.toInt ≤ 60
      · have hok1 := xk_ok_app (n := (x + y).toInt) (q := (0, 60)) h0.1 (by show 0 ≤ _; omega) (by show _ ≤ 60; omega)
        have hok : xk_ok (env ++ [(x + y).toInt]) (iv.1 ++ [(0, 60)], (i.toNat, n.toNat, xq_fact) :: iv.2) := by
          refine ⟨hok1.1, hok1.2.1, fun r hr => ?_⟩
          rcases List.mem_cons.mp hr with rfl | hr
          · have w1 := xk_ga (m := [(x + y).toInt]) nx
            have w2 := xk_ga (m := [(x + y).toInt]) ny
            refine ⟨(List.getElem?_eq_some_iff.mp w1).1, (List.getElem?_eq_some_iff.mp w2).1, fun u v hu hv => ?_, fun _ => ?_⟩
            · have hu : (env ++ [(x + y).toInt])[i.toNat]? = some u := hu
              have hv : (env ++ [(x + y).toInt])[n.toNat]? = some v := hv
              rw [w1] at hu
              rw [w2] at hv
              have q1 := Option.some.inj hu
              have q2 := Option.some.inj hv
              have q3 := xq_bigl
              unfold xk_big at q3
              show u ≤ v + xq_fact
              omega
            · show (∀ j ∈ (xk_dec xq_fact).2.1, j < _) ∧ xk_fa (xk_dec xq_fact).1 ((env ++ [(x + y).toInt]).getD i.toNat 0) ((env ++ [(x + y).toInt]).getD n.toNat 0) _ (xk_dec xq_fact).2.2
              rw [xq_dec]
              refine ⟨fun j hj => ?_, ?_⟩
              · have hj0 : j = 0 := by
                  simp only [List.mem_cons, List.not_mem_nil, or_false] at hj
                  rcases hj with rfl | rfl | rfl <;> rfl
                subst hj0
                rw [List.length_append, List.length_singleton]
                omega
              · show (env ++ [(x + y).toInt]).getD i.toNat 0 + (env ++ [(x + y).toInt]).getD n.toNat 0 ≤ ((60 : Nat) : Int)
                rw [List.getD_eq_getElem?_getD, List.getD_eq_getElem?_getD, w1, w2]
                show x.toInt + y.toInt ≤ 60
                exact h60
          · exact hok1.2.2 r hr
        refine kk _ List.mem_cons_self _ _ _ _ _ _ (xk_push (xk_grow [(x + y).toInt] h0 hok) ⟨_, rfl, ?_⟩)
        show (env ++ [_])[((iv.1.length : Nat) : Int).toNat]? = _
        rw [Int.toNat_natCast, ← hlen]
        simp
      · have hok1 := xk_ok_app (n := (x + y).toInt) (q := (61, 4294967294)) h0.1 (by show 61 ≤ _; omega) (by show _ ≤ 4294967294; omega)
        refine kk _ (List.mem_cons_of_mem _ List.mem_cons_self) _ _ _ _ _ _ (xk_push (xk_grow [(x + y).toInt] h0 hok1) ⟨_, rfl, ?_⟩)
        show (env ++ [_])[((iv.1.length : Nat) : Int).toNat]? = _
        rw [Int.toNat_natCast, ← hlen]
        simp
    · cases hk
  · cases hk
theorem xq_HK (F : xk_Fx p s m args c D A RX10 cX10_paste 7) (pc : Nat) (σ : xk_S) (l2 : List (Nat × xk_S)) (hk : xq_hk pc σ = some l2) (kk : ∀ q ∈ l2, xk_G p l e R s m args below meth c Q b 7 D A q.1 q.2) : xk_G p l e R s m args below meth c Q b 7 D A pc σ := by
  obtain ⟨hx, hb, -⟩ := F
  unfold xq_hk at hk
  split at hk
  · rename_i hpc
    rw [Bool.or_eq_true] at hpc
    refine xq_sum_ok (fun H locs kc ks ls rest x y k => ?_) hk kk
    rcases hpc with hpc | hpc
    · have hpc := Nat.eq_of_beq_eq_true hpc
      subst hpc
      exact lv_ladd hx hb (by decide +kernel) k
    · have hpc := Nat.eq_of_beq_eq_true hpc
      subst hpc
      exact lv_ladd hx hb (by decide +kernel) k
  · split at hk
    · rename_i hpc
      have hpc := Nat.eq_of_beq_eq_true hpc
      subst hpc
      refine xq_ix_ok (fun H locs kc ks ls rest a i x h1 h2 h3 k => ?_) hk kk
      refine lv_bipush hx hb (n := 60) (v := 60) (by decide +kernel) rfl ?_
      refine lv_iload_n hx hb (k := 1) (i := 1) (by decide +kernel) rfl h1 ?_
      refine lv_imul hx hb (by decide +kernel) ?_
      refine lv_iload_n hx hb (k := 2) (i := 2) (by decide +kernel) rfl h2 ?_
      refine lv_iadd hx hb (by decide +kernel) ?_
      refine lv_iload hx hb (i := 6) (by decide +kernel) h3 ?_
      exact lv_iadd hx hb (by decide +kernel) k
    · split at hk
      · rename_i hpc
        have hpc := Nat.eq_of_beq_eq_true hpc
        subst hpc
        refine xq_ix_ok (fun H locs kc ks ls rest a i x h1 h2 h3 k => ?_) hk kk
        refine lv_bipush hx hb (n := 60) (v := 60) (by decide +kernel) rfl ?_
        refine lv_iload_n hx hb (k := 3) (i := 3) (by decide +kernel) rfl h1 ?_
        refine lv_imul hx hb (by decide +kernel) ?_
        refine lv_iload hx hb (i := 4) (by decide +kernel) h2 ?_
        refine lv_iadd hx hb (by decide +kernel) ?_
        refine lv_iload hx hb (i := 6) (by decide +kernel) h3 ?_
        exact lv_iadd hx hb (by decide +kernel) k
      · cases hk
end XQ

def xl_ok (p : Program) (s : State) (m : MethodId) (meth : Method) (c : Code) (D : va_G) (b L : Nat) (xs : Nat → Int32) (oq : xk_O) : Prop := xk_Fx p s m #[Value.ref b] c D (fun q => s.heap.size ≤ q) RL code 4 ∧ va_X b L xs s s.heap ∧ b < s.heap.size ∧ meth.sig.returnType = ret ∧ meth.locks = false ∧ xk_SUH oq (fun q => s.heap.size ≤ q) s s.heap ∧ oq.1[0]? = some b ∧ L ≤ 3072
def xl_rt (i : Instr) (σ : xk_S) : Bool := match i, σ.2.2.1 with
  | .ireturn, [(5, 1)] => Nat.ble σ.2.2.2.2.1 600000 && Nat.ble σ.2.2.2.2.2 7302250
  | _, _ => false
section XLR
variable {p : Program} {l : Launch} {e : Env} {s : State} {m : MethodId} {below : List Frame} {meth : Method} {c : Code} {D : va_G} {b L : Nat} {xs : Nat → Int32} {oq : xk_O} {e1 : List Int} {a1 : List Nat}
theorem xl_rt_ok (C : xl_ok p s m meth c D b L xs oq) (pc : Nat) (i : Instr) (σ : xk_S) (hd : decode code pc = .ok (i, 1)) (h : xl_rt i σ = true) : xk_G p l e room_1 s m #[Value.ref b] below meth c (lw_Z below #[Value.ref b] s) (0, e1, a1, oq) 4 D (fun q => s.heap.size ≤ q) pc σ := by
  obtain ⟨F, hX, hbl, hr, hlocks, -⟩ := C
  obtain ⟨hx, hb, hml, hown, hts, hK, hA⟩ := F
  unfold xl_rt at h
  split at h
  · rename_i hst0
    rw [Bool.and_eq_true] at h
    intro env ad H locs ls sv hI
    obtain ⟨iv, lo, st, hp, kc, ks⟩ := σ
    dsimp only at hst0 h
    subst hst0
    obtain ⟨-, -, hst, ws, -, -, -, -, hS, -⟩ := hI
    obtain ⟨v, r, rfl, ⟨x, rfl, hx1⟩, hr2⟩ := xk_r2_cons hst
    have e := xk_r2_nil hr2
    subst e
    have hx2 : x = 1 := Int32.toInt_inj.mp hx1
    subst hx2
    refine va_forget (fun q hq => hS.2.2 q hq) ?_
    refine W.widen (k := 600000) (n := 7302250) (Nat.le_of_ble_eq_true h.1) (Nat.le_of_ble_eq_true h.2) ?_
    exact lw_ret hx hb hr hlocks hd
  · cases h
end XLR
def xl_k (iv : xk_N) (q : xk_V) : Option Nat := ([0, 1, 2, 3, 4, 5] : List Nat).find? (fun k => xk_ent 1 iv q (0, 1) (k : Int) && xk_ent 1 iv (0, 1) q (-(k : Int)))
def xl_sps : List xk_I := [(-2147483648, -1), (0, 0), (1, 1), (2, 2), (3, 3), (4, 2147483647)]
def xl_spl (I : xk_I) : Bool := ([-1, 0, 1, 2, 3] : List Int).any (fun z => decide (I.1 ≤ z) && decide (z < I.2))
/-- instructions told ahead: place, instruction, length -/
abbrev xl_D : Type := List (Nat × Instr × Nat)
def xl_dok (dt : xl_D) : Prop := ∀ q ∈ dt, decode code q.1 = .ok (q.2.1, q.2.2)
theorem xl_dget {dt : xl_D} (hd : xl_dok dt) {pc : Nat} {q : Nat × Instr × Nat} (h : dt.find? (fun q => Nat.beq q.1 pc) = some q) : decode code pc = .ok (q.2.1, q.2.2) := by
  have h1 := Nat.eq_of_beq_eq_true (List.find?_some (p := fun q : Nat × Instr × Nat => Nat.beq q.1 pc) h)
  rw [← h1]
  exact hd q (List.mem_of_find?_eq_some h)
def xl_hk (dt : xl_D) (n pi : Nat) (pk : List Nat) : xk_Hk := fun pc σ => if Nat.beq pc pi = true then (match σ.2.2.1, xk_ov σ.2.1 3 with
    | [], some (0, 1) => if xk_ent 2 σ.1 (0, 1) (0, 0) (-6) = true then some [(pi + 3, ((xl_fl σ.1 σ.2.2.2.1).1, (3, (0, (n : Int))) :: σ.2.1.filter (xk_f1 3), [], (xl_fl σ.1 σ.2.2.2.1).2.map xl_nz, σ.2.2.2.2))] else none
    | _, _ => none)
  else match σ.2.2.1 with
    | (7, 0) :: st => if Nat.beq pc 20 = true then some [(21, (σ.1, σ.2.1, (0, 0) :: st, σ.2.2.2))] else none
    | q :: (7, 0) :: st => (match dt.find? (fun q => Nat.beq q.1 pc) with
      | some (_, .iaload, 1) => if xk_isI q = true ∧ xk_ent 2 σ.1 (0, 1) (0, 0) (-6) = true then (match xl_k σ.1 q with
        | some k => some [(pc + 1, (σ.1, σ.2.1, (0, ((n + 1 + k : Nat) : Int)) :: st, σ.2.2.2))]
        | none => none) else none
      | _ => none)
    | (0, a) :: st => if pk.any (fun z => Nat.beq pc z) = true ∧ xl_spl (xk_iv σ.1 (0, a)) = true then some (xl_sps.filterMap (fun J => (xk_set σ.1 (0, a) (max J.1 (xk_iv σ.1 (0, a)).1, min J.2 (xk_iv σ.1 (0, a)).2)).map (fun N => (pc, (N, σ.2.1, (0, a) :: st, σ.2.2.2))))) else none
    | av :: st => if xk_isL av = true then (match dt.find? (fun q => Nat.beq q.1 pc) with
      | some (_, .pop2, 1) => some [(pc + 1, (σ.1, σ.2.1, st, σ.2.2.2))]
      | _ => none) else none
    | _ => none
/-- what the first numbers of a piece are: the script's length, i, i and 6, the six ints at i -/
def xl_E (e1 : List Int) (n L i : Nat) (xs : Nat → Int32) : Prop := e1[0]? = some (L : Int) ∧ e1[1]? = some (i : Int) ∧ e1[n]? = some ((i : Int) + 6) ∧ (i + 6 ≤ L → ∀ k, k < 6 → e1[n + 1 + k]? = some (xs (i + k)).toInt)
theorem xl_sps_ok (x : Int32) : ∃ J ∈ xl_sps, J.1 ≤ x.toInt ∧ x.toInt ≤ J.2 := by
  have h := xk_full_ok x
  have h1 : (-2147483648 : Int) ≤ x.toInt := h.1
  have h2 : x.toInt ≤ (2147483647 : Int) := h.2
  by_cases c1 : x.toInt ≤ -1
  · exact ⟨(-2147483648, -1), by unfold xl_sps; simp, h1, c1⟩
  by_cases c2 : x.toInt = 0
  · exact ⟨(0, 0), by unfold xl_sps; simp, by show 0 ≤ x.toInt; omega, by show x.toInt ≤ 0; omega⟩
  by_cases c3 : x.toInt = 1
  · exact ⟨(1, 1), by unfold xl_sps; simp, by show 1 ≤ x.toInt; omega, by show x.toInt ≤ 1; omega⟩
  by_cases c4 : x.toInt = 2
  · exact ⟨(2, 2), by unfold xl_sps; simp, by show 2 ≤ x.toInt; omega, by show x.toInt ≤ 2; omega⟩
  by_cases c5 : x.toInt = 3
  · exact ⟨(3, 3), by unfold xl_sps; simp, by show 3 ≤ x.toInt; omega, by show x.toInt ≤ 3; omega⟩
  · exact ⟨(4, 2147483647), by unfold xl_sps; simp, by show 4 ≤ x.toInt; omega, h2⟩
theorem xl_d20 : decode code 20 = .ok (.arraylength, 1) := by decide +kernel
section XLH
variable {p : Program} {l : Launch} {e : Env} {s : State} {m : MethodId} {below : List Frame} {meth : Method} {c : Code} {D : va_G} {b L : Nat} {xs : Nat → Int32} {oq : xk_O} {e1 : List Int} {a1 : List Nat}
theorem xl_HK {dt : xl_D} {n pi i : Nat} {pk : List Nat} (hdt : xl_dok dt) (hpi : decode code pi = .ok (.iinc 3 6, 3)) (C : xl_ok p s m meth c D b L xs oq) (E : xl_E e1 n L i xs) (pc : Nat) (σ : xk_S) (l2 : List (Nat × xk_S)) (hk : xl_hk dt n pi pk pc σ = some l2) (kk : ∀ q ∈ l2, xk_G p l e room_1 s m #[Value.ref b] below meth c (lw_Z below #[Value.ref b] s) (0, e1, a1, oq) 4 D (fun q => s.heap.size ≤ q) q.1 q.2) : xk_G p l e room_1 s m #[Value.ref b] below meth c (lw_Z below #[Value.ref b] s) (0, e1, a1, oq) 4 D (fun q => s.heap.size ≤ q) pc σ := by
  obtain ⟨F, hX, hbl, hr, hlocks, hZ, hoq, hL⟩ := C
  obtain ⟨hx, hb, hml, hown, hts, hK, hA⟩ := F
  obtain ⟨E0, E1, En, Ex⟩ := E
  obtain ⟨iv, lo, st, hp, kc, ks⟩ := σ
  have hbA : ¬ (s.heap.size ≤ b) := Nat.not_le.mpr hbl
  unfold xl_hk at hk
  split at hk
  · rename_i h1
    have h1 := Nat.eq_of_beq_eq_true h1
    subst h1
    split at hk
    · rename_i est hlo
      have est : st = [] := est
      have hlo : xk_ov lo 3 = some (0, 1) := hlo
      subst est
      split at hk
      · rename_i hent
        cases hk
        intro env ad H locs ls sv h
        obtain ⟨h0, ⟨lvs, hl, hr2⟩, hs, ws, ha, hc, hP, hD, hS, hpr⟩ := id h
        have g0 := hpr.1 0 _ E0
        have g1 := hpr.1 1 _ E1
        have gn := hpr.1 n _ En
        obtain ⟨kq, v, w1, ⟨x, w2, w3⟩⟩ := xk_lo_get hr2 hlo
        subst w2
        have w3 : env[1]? = some x.toInt := w3
        rw [g1] at w3
        have w4 : (i : Int) = x.toInt := Option.some.inj w3
        have hle := xk_ent_ok (a := (0, 1)) (c := (0, 0)) h0 2 (show xk_n env (0, 1) _ from g1) (show xk_n env (0, 0) _ from g0) hent
        obtain ⟨e2, k0, k1⟩ := xl_fl_ok h0 hc
        have k2 := xl_nzs_ok k1
        refine lv_iinc hx hb (i := 3) (n := 6) (k := kq) hpi hl w1 rfl (by decide) rfl (fun ls' g => ?_)
        refine kk _ List.mem_cons_self (env ++ e2) ad H locs ls' sv ⟨k0, ⟨_, g, ⟨rfl, _, rfl, ?_⟩, xk_r2_filter (fun a q hq => by unfold xk_f1; rw [hq.1, xk_v_cat hq.2]) (xk_r2_mono (fun _ _ q => ⟨q.1, xk_v_e e2 q.2⟩) hr2)⟩, xk_r2_mono (fun _ _ q => xk_v_e e2 q) hs, ws, ha, k2, hP, hD, hS, xk_pre_e hpr⟩
        show (env ++ e2)[((n : Nat) : Int).toNat]? = _
        rw [Int.toNat_natCast, xk_ga gn]
        have e6 : (Int32.ofInt 6).toInt = 6 := by decide
        have e7 : (x + Int32.ofInt 6).toInt = x.toInt + 6 := by
          rw [Int32.toInt_add, e6]
          exact xk_bm (by omega) (by omega)
        rw [e7, w4]
      · cases hk
    · cases hk
  · split at hk
    · rename_i st' est
      have est : st = (7, 0) :: st' := est
      subst est
      split at hk
      · rename_i h2
        have h2 := Nat.eq_of_beq_eq_true h2
        subst h2
        cases hk
        intro env ad H locs ls sv h
        obtain ⟨v, rest, rfl, ⟨a, ev, hq⟩, h0⟩ := xk_pop h
        have hq : oq.1[0]? = some a := hq
        rw [hoq] at hq
        have hab : b = a := Option.some.inj hq
        subst hab
        subst ev
        obtain ⟨-, -, -, ws, -, -, -, -, hS, hpr⟩ := id h0
        refine va_slen hx hb hX hbl hbA hS xl_d20 (kk _ List.mem_cons_self _ _ _ _ _ _ (xk_push h0 ⟨_, rfl, ?_⟩))
        show env[0]? = _
        rw [hpr.1 0 _ E0, Int32.toInt_ofNat_of_lt (by omega)]
      · cases hk
    · rename_i q st' hn7 est
      have est : st = q :: (7, 0) :: st' := est
      subst est
      split at hk
      · rename_i z0 hd0
        have hd : decode code pc = .ok (.iaload, 1) := xl_dget hdt hd0
        split at hk
        · rename_i hcond
          obtain ⟨hq, hent⟩ := hcond
          split at hk
          · rename_i k hkk
            cases hk
            intro env ad H locs ls sv h
            obtain ⟨x, r1, rfl, hx0, h1⟩ := xk_popI h hq
            obtain ⟨v, rest, rfl, ⟨a, ev, hq2⟩, h0⟩ := xk_pop h1
            have hq2 : oq.1[0]? = some a := hq2
            rw [hoq] at hq2
            have hab : b = a := Option.some.inj hq2
            subst hab
            subst ev
            obtain ⟨-, -, -, ws, -, -, -, -, hS, hpr⟩ := id h0
            have g0 := hpr.1 0 _ E0
            have g1 := hpr.1 1 _ E1
            have hle := xk_ent_ok (a := (0, 1)) (c := (0, 0)) h.1 2 (show xk_n env (0, 1) _ from g1) (show xk_n env (0, 0) _ from g0) hent
            unfold xl_k at hkk
            have hm := List.mem_of_find?_eq_some hkk
            have hp2 := List.find?_some hkk
            rw [Bool.and_eq_true] at hp2
            have u1 := xk_ent_ok (c := (0, 1)) h.1 1 hx0 (show xk_n env (0, 1) _ from g1) hp2.1
            have u2 := xk_ent_ok (a := (0, 1)) h.1 1 (show xk_n env (0, 1) _ from g1) hx0 hp2.2
            have hk6 : k < 6 := by
              simp only [List.mem_cons, List.not_mem_nil, or_false] at hm
              omega
            have hxk : x.toInt = ((i + k : Nat) : Int) := by omega
            have hcl : x.toNatClampNeg = i + k := xk_clamp hxk
            refine va_sld hx hb hX hbl hbA hS (by rw [vp_in_iff]; omega) hd ?_
            refine kk _ List.mem_cons_self _ _ _ _ _ _ (xk_push h0 ⟨_, rfl, ?_⟩)
            show env[((n + 1 + k : Nat) : Int).toNat]? = _
            rw [Int.toNat_natCast, hcl]
            exact hpr.1 _ _ (Ex (by omega) k hk6)
          · cases hk
        · cases hk
      · cases hk
    · rename_i a st' hn7 est
      have est : st = (0, a) :: st' := est
      subst est
      split at hk
      · rename_i hcond
        cases hk
        intro env ad H locs ls sv h
        obtain ⟨x, r1, e1', hx0, h1⟩ := xk_popI h rfl
        have bx : (xk_iv iv (0, a)).1 ≤ x.toInt ∧ x.toInt ≤ (xk_iv iv (0, a)).2 := xk_iv_ok h.1 hx0
        obtain ⟨J, hJ, j1, j2⟩ := xl_sps_ok x
        obtain ⟨N, s1, s2⟩ := xk_set_ok (I := (max J.1 (xk_iv iv (0, a)).1, min J.2 (xk_iv iv (0, a)).2)) h.1 hx0 (by show max _ _ ≤ _; omega) (by show _ ≤ min _ _; omega)
        refine kk (pc, (N, lo, (0, a) :: st', hp, kc, ks)) (List.mem_filterMap.mpr ⟨J, hJ, ?_⟩) env ad H locs ls sv (xk_bnd h s2)
        show (xk_set iv (0, a) (max J.1 (xk_iv iv (0, a)).1, min J.2 (xk_iv iv (0, a)).2)).map _ = _
        rw [s1]
        rfl
      · cases hk
    · rename_i av st' hn7 hn8 hn9 est
      have est : st = av :: st' := est
      subst est
      split at hk
      · rename_i hL2
        split at hk
        · rename_i z0 hd0
          have hd : decode code pc = .ok (.pop2, 1) := xl_dget hdt hd0
          cases hk
          intro env ad H locs ls sv h
          obtain ⟨v, rest, rfl, hv, h0⟩ := xk_pop h
          refine lv_pop2_2 hx hb hd ?_ (kk _ List.mem_cons_self _ _ _ _ _ _ h0)
          rw [xk_v_cat hv]
          unfold xk_cat
          rw [hL2]
          rfl
        · cases hk
      · cases hk
    · cases hk
/-- the entry's step by hand: i is 0, the model's rows -/
def xl_hk0 : xk_Hk := fun pc σ => if Nat.beq pc 16 = true then some [(17, (σ.1, σ.2.1, (5, 0) :: σ.2.2.1, (σ.2.2.2.1.map xl_f0).map xl_nz, σ.2.2.2.2))] else none
theorem xl_HK0 (C : xl_ok p s m meth c D b L xs oq) (pc : Nat) (σ : xk_S) (l2 : List (Nat × xk_S)) (hk : xl_hk0 pc σ = some l2) (kk : ∀ q ∈ l2, xk_G p l e room_1 s m #[Value.ref b] below meth c (lw_Z below #[Value.ref b] s) (0, e1, a1, oq) 4 D (fun q => s.heap.size ≤ q) q.1 q.2) : xk_G p l e room_1 s m #[Value.ref b] below meth c (lw_Z below #[Value.ref b] s) (0, e1, a1, oq) 4 D (fun q => s.heap.size ≤ q) pc σ := by
  obtain ⟨F, -⟩ := C
  obtain ⟨hx, hb, -⟩ := F
  obtain ⟨iv, lo, st, hp, kc, ks⟩ := σ
  unfold xl_hk0 at hk
  split at hk
  · rename_i h1
    have h1 := Nat.eq_of_beq_eq_true h1
    subst h1
    cases hk
    intro env ad H locs ls sv h
    obtain ⟨h0, hlv, hs, ws, ha, hc, hP, hD, hS, hpr⟩ := h
    refine lv_iconst hx hb (n := 0) (v := 0) (by decide +kernel) rfl ?_
    exact kk _ List.mem_cons_self _ _ _ _ _ _ ⟨h0, hlv, ⟨⟨_, rfl, rfl⟩, hs⟩, ws, ha, xl_nzs_ok (xl_f0s_ok hc), hP, hD, hS, hpr⟩
  · cases hk
end XLH
/-- a run by instructions told ahead -/
def xl_exj (dt : xl_D) (T : xk_T) (X : xk_X) (B : xk_B) (rt : Instr → xk_S → Bool) (hk : xk_Hk) (jp : Nat → xk_S → Option Bool) : Nat → Nat → xk_S → Bool
  | 0, _, _ => false
  | f + 1, pc, σ => match jp pc σ with
    | some r => r
    | none => match hk pc σ with
      | some l => l.all (fun q => xl_exj dt T X B rt hk jp f q.1 q.2)
      | none => match dt.find? (fun q => Nat.beq q.1 pc) with
        | some q => (match xk_step T X B pc q.2.1 q.2.2 σ with
          | some l => l.all (fun q => xl_exj dt T X B rt hk jp f q.1 q.2)
          | none => Nat.beq q.2.2 1 && rt q.2.1 σ)
        | none => false
section XLX
variable {p : Program} {l : Launch} {e : Env} {s : State} {m : MethodId} {below : List Frame} {meth : Method} {c : Code} {D : va_G} {b L : Nat} {xs : Nat → Int32} {oq : xk_O} {e1 : List Int} {a1 : List Nat}
theorem xl_exj_ok {dt : xl_D} (hdt : xl_dok dt) {T : xk_T} {X : xk_X} {B : xk_B} {rt : Instr → xk_S → Bool} {hk : xk_Hk} {jp : Nat → xk_S → Option Bool} (C : xl_ok p s m meth c D b L xs oq) (TK : xk_TOK RL T) (hX : X.1 = 4) (hI : X.2.1 = true → meth.name = "<init>") (hRm : X.2.2.1 = (room_1.frames, room_1.cells, room_1.slots, room_1.locals)) (SC : X.2.2.2.1 = none) (hB : ∀ q ∈ B, xk_Rn l D RL code 4 room_1 q.1 q.2.1) (RT : ∀ (pc : Nat) (i : Instr) (σ : xk_S), decode code pc = .ok (i, 1) → rt i σ = true → xk_G p l e room_1 s m #[Value.ref b] below meth c (lw_Z below #[Value.ref b] s) (0, e1, a1, oq) 4 D (fun q => s.heap.size ≤ q) pc σ) (HK : ∀ (pc : Nat) (σ : xk_S) (l2 : List (Nat × xk_S)), hk pc σ = some l2 → (∀ q ∈ l2, xk_G p l e room_1 s m #[Value.ref b] below meth c (lw_Z below #[Value.ref b] s) (0, e1, a1, oq) 4 D (fun q => s.heap.size ≤ q) q.1 q.2) → xk_G p l e room_1 s m #[Value.ref b] below meth c (lw_Z below #[Value.ref b] s) (0, e1, a1, oq) 4 D (fun q => s.heap.size ≤ q) pc σ) (JP : ∀ (pc : Nat) (σ : xk_S), jp pc σ = some true → xk_G p l e room_1 s m #[Value.ref b] below meth c (lw_Z below #[Value.ref b] s) (0, e1, a1, oq) 4 D (fun q => s.heap.size ≤ q) pc σ) : ∀ (f pc : Nat) (σ : xk_S), xl_exj dt T X B rt hk jp f pc σ = true → xk_G p l e room_1 s m #[Value.ref b] below meth c (lw_Z below #[Value.ref b] s) (0, e1, a1, oq) 4 D (fun q => s.heap.size ≤ q) pc σ
  | 0, _, _, h => by cases h
  | f + 1, pc, σ, h => by
    unfold xl_exj at h
    split at h
    · rename_i r hr
      subst h
      exact JP pc σ hr
    · split at h
      · rename_i l2 hl
        exact HK pc σ l2 hl (fun q hq => xl_exj_ok hdt C TK hX hI hRm SC hB RT HK JP f q.1 q.2 (List.all_eq_true.mp h q hq))
      · split at h
        · rename_i z hz
          have hd := xl_dget hdt hz
          split at h
          · rename_i l2 hl
            exact xk_step_ok C.1 TK xgok hX hI hRm (fun L' hL' => by rw [SC] at hL'; cases hL') C.2.2.2.2.2.1 hB hd hl (fun q hq => xl_exj_ok hdt C TK hX hI hRm SC hB RT HK JP f q.1 q.2 (List.all_eq_true.mp h q hq))
          · rw [Bool.and_eq_true] at h
            have hl := Nat.eq_of_beq_eq_true h.1
            rw [hl] at hd
            exact RT pc z.2.1 σ hd h.2
        · cases h
end XLX
/-- a piece may end at a head, or at a state that is told elsewhere -/
def xl_jp (gs : List xk_Cu) (ct : List (Nat × xk_S)) (pc : Nat) (σ : xk_S) : Option Bool := if ct.any (fun q => Nat.beq q.1 pc && xl_bS q.2 σ) = true then some true else xk_jq 1 0 4 gs pc σ
def xl_cut (p : Program) (l : Launch) (e : Env) (s : State) (m : MethodId) (below : List Frame) (meth : Method) (c : Code) (D : va_G) (b L : Nat) (oq : xk_O) (e1 : List Int) (gs : List xk_Cu) : Prop := ∀ g ∈ gs, ∀ (env : List Int) (ad : List Nat) (H : Heap) (locs : List Loc) (ls : Array Slot) (st : List Value), xk_In (0, [(L : Int)], [], oq) 4 s D (fun q => s.heap.size ≤ q) g.1.2.1 env ad H locs ls st → (∀ (i : Nat) (v : xk_V), g.2[i]? = some (some v) → env[1 + i]? = some (xk_num e1 v)) → W p l e room_1 s m #[Value.ref b] below meth c H locs g.1.2.1.2.2.2.2.1 g.1.2.1.2.2.2.2.2 (lw_Z below #[Value.ref b] s) (F0 m g.1.1 ls st)
def xl_gok (n1 : Nat) (gs : List xk_Cu) : Bool := gs.all (fun g => g.2.all (fun v => match v with
  | none => true
  | some v => Nat.beq v.1 5 || Nat.blt v.2.toNat n1))
section XLP
variable {p : Program} {l : Launch} {e : Env} {s : State} {m : MethodId} {below : List Frame} {meth : Method} {c : Code} {D : va_G} {b L : Nat} {xs : Nat → Int32} {oq : xk_O} {e1 : List Int} {a1 : List Nat}
theorem xl_run (C : xl_ok p s m meth c D b L xs oq) {dt : xl_D} (hdt : xl_dok dt) {hk : xk_Hk} (HK : ∀ (pc : Nat) (σ : xk_S) (l2 : List (Nat × xk_S)), hk pc σ = some l2 → (∀ q ∈ l2, xk_G p l e room_1 s m #[Value.ref b] below meth c (lw_Z below #[Value.ref b] s) (0, e1, a1, oq) 4 D (fun q => s.heap.size ≤ q) q.1 q.2) → xk_G p l e room_1 s m #[Value.ref b] below meth c (lw_Z below #[Value.ref b] s) (0, e1, a1, oq) 4 D (fun q => s.heap.size ≤ q) pc σ) {B : xk_B} (hB : ∀ q ∈ B, xk_Rn l D RL code 4 room_1 q.1 q.2.1) {gs : List xk_Cu} {n1 : Nat} (hgs : xl_gok n1 gs = true) (CU : xl_cut p l e s m below meth c D b L oq e1 gs) {ct : List (Nat × xk_S)} (hct : ∀ q ∈ ct, xk_G p l e room_1 s m #[Value.ref b] below meth c (lw_Z below #[Value.ref b] s) (0, e1, a1, oq) 4 D (fun q => s.heap.size ≤ q) q.1 q.2) (hn1 : e1.length = n1) (he1 : e1[0]? = some (L : Int)) {f pc : Nat} {σ : xk_S} (hex : xl_exj dt xt_L (4, false, (2048, 600000, 7302250, 84000), none, []) B xl_rt hk (xl_jp gs ct) f pc σ = true) : xk_G p l e room_1 s m #[Value.ref b] below meth c (lw_Z below #[Value.ref b] s) (0, e1, a1, oq) 4 D (fun q => s.heap.size ≤ q) pc σ := by
  subst hn1
  have he : ∀ (j : Nat) (n : Int), ([(L : Int)] : List Int)[j]? = some n → e1[j]? = some n := by
    intro j n hj
    cases j with
    | zero =>
      have hj : some (L : Int) = some n := hj
      rw [← hj]
      exact he1
    | succ j => simp at hj
  have ha : ∀ (j a : Nat), ([] : List Nat)[j]? = some a → a1[j]? = some a := by
    intro j a hj
    simp at hj
  have JP : ∀ (pc : Nat) (σ : xk_S), xl_jp gs ct pc σ = some true → xk_G p l e room_1 s m #[Value.ref b] below meth c (lw_Z below #[Value.ref b] s) (0, e1, a1, oq) 4 D (fun q => s.heap.size ≤ q) pc σ := by
    intro pc σ hj
    unfold xl_jp at hj
    split at hj
    · rename_i hany
      obtain ⟨q, hq, h1⟩ := List.any_eq_true.mp hany
      rw [Bool.and_eq_true] at h1
      have e1' := Nat.eq_of_beq_eq_true h1.1
      have e2' := xl_bS_eq h1.2
      have h2 := hct q hq
      rw [e1', e2'] at h2
      exact h2
    · intro env2 ad2 H2 locs2 ls2 st2 hI2
      unfold xk_jq at hj
      split at hj
      · have hj2 := Option.some.inj hj
        obtain ⟨g, hg, hj3⟩ := List.any_eq_true.mp hj2
        rw [Bool.and_eq_true] at hj3
        have epc : g.1.1 = pc := Nat.eq_of_beq_eq_true hj3.1
        have hgg : ∀ v, some v ∈ g.2 → v.1 = 5 ∨ v.2.toNat < e1.length := by
          intro v hv
          have h1 := List.all_eq_true.mp (List.all_eq_true.mp hgs g hg) _ hv
          dsimp only at h1
          rw [Bool.or_eq_true] at h1
          rcases h1 with h1 | h1
          · exact Or.inl (Nat.eq_of_beq_eq_true h1)
          · exact Or.inr (Nat.le_of_ble_eq_true h1)
        obtain ⟨env3, ad3, hI3, hnum, hk1, hk2⟩ := xk_jq1_ok (e0 := [(L : Int)]) (a0 := []) he ha hgg hj3.2 hI2
        have hw := CU g hg env3 ad3 H2 locs2 ls2 st2 hI3 hnum
        rw [epc] at hw
        exact W.widen hk1 hk2 hw
      · cases hj
  exact xl_exj_ok hdt C xtok_L (X := (4, false, (2048, 600000, 7302250, 84000), none, [])) rfl (fun z => by cases z) rfl rfl hB (fun pc i σ hd h => xl_rt_ok C pc i σ hd h) HK JP f pc σ hex
end XLP

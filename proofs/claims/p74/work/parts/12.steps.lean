/-- what a field that is any number gives -/
def xk_gv (iv : xk_N) (av : xk_V) : xk_N × xk_V := match av.1 with
  | 9 => xk_new 0 iv xk_full
  | 10 => xk_new 1 iv xk_fulL
  | _ => (iv, av)
def xk_i_getfield (T : xk_T) (X : xk_X) (pc len : Nat) (ix : Nat) (iv : xk_N) (lo : List (Nat × xk_V)) (st : List xk_V) (hp : List xk_C) (kc ks : Nat) : Option (List (Nat × xk_S)) := match st with
  | (2, q) :: st => if len = 3 then (match T.1.find? (fun q => Nat.beq q.1 ix) with
    | some f => (match hp[q.toNat]? with
      | some (0, ci, fs, n, I, ov) => if ci = f.2.1 then (match fs[f.2.2.1]? with
        | some av => some [(pc + 3, ((xk_gv iv av).1, lo, (xk_gv iv av).2 :: st, hp, kc, ks))]
        | none => none) else none
      | _ => none)
    | none => none) else none
  | _ => none
def xk_i_putfield (T : xk_T) (X : xk_X) (pc len : Nat) (ix : Nat) (iv : xk_N) (lo : List (Nat × xk_V)) (st : List xk_V) (hp : List xk_C) (kc ks : Nat) : Option (List (Nat × xk_S)) := match st with
  | av :: (2, q) :: st => if len = 3 then (match T.1.find? (fun q => Nat.beq q.1 ix) with
    | some f => (match hp[q.toNat]? with
      | some (0, ci, fs, n, I, ov) => if ci = f.2.1 ∧ f.2.2.1 < fs.length ∧ xk_pv f.2.2.2 iv av = true ∧ (f.2.2.2 < 4 ∨ f.2.2.2 < 8 ∧ X.2.1 = true) then some [(pc + 3, (iv, lo, st, hp.set q.toNat (0, ci, fs.set f.2.2.1 av, n, I, ov), kc, ks))] else none
      | _ => none)
    | none => none) else none
  | _ => none
def xk_i_iaload (T : xk_T) (X : xk_X) (pc len : Nat)  (iv : xk_N) (lo : List (Nat × xk_V)) (st : List xk_V) (hp : List xk_C) (kc ks : Nat) : Option (List (Nat × xk_S)) := match st with
  | i :: (2, q) :: st => (match hp[q.toNat]? with
    | some (1, t, fs, n, I, ov) => (match xk_cz iv i with
      | (5, j) => if len = 1 ∧ t = 0 ∧ 0 ≤ j ∧ j < n then some [(pc + 1, ((xk_ldv 0 iv I ov j.toNat).1, lo, (xk_ldv 0 iv I ov j.toNat).2 :: st, hp, kc, ks))] else none
      | _ => if len = 1 ∧ t = 0 ∧ xk_isI i = true ∧ ov.isEmpty = true ∧ 0 ≤ (xk_iv iv i).1 ∧ (xk_iv iv i).2 < n then some [(pc + 1, ((xk_new 0 iv I).1, lo, (xk_new 0 iv I).2 :: st, hp, kc, ks))] else none)
    | some (12, t, fs, n, I, ov) => (match xk_cz iv i with
      | (5, j) => if len = 1 ∧ t = 0 ∧ 0 ≤ j ∧ j < n then some [(pc + 1, ((xk_ldv 0 iv (xk_h8 (j.toNat % 8)) ov j.toNat).1, lo, (xk_ldv 0 iv (xk_h8 (j.toNat % 8)) ov j.toNat).2 :: st, hp, kc, ks))] else none
      | _ => none)
    | some (kd, t, fs, n, I, ov) => if len = 1 ∧ xk_k8 kd = true ∧ t = 0 ∧ xk_isI i = true ∧ ov.isEmpty = true ∧ 0 ≤ (xk_iv iv i).1 ∧ (xk_iv iv i).2 < n then some [(pc + 1, ((xk_new 0 iv I).1, lo, (xk_new 0 iv I).2 :: st, hp, kc, ks))] else none
    | none => none)
  | (5, j) :: (4, z) :: st => (match X.2.2.2.1 with
    | some L => if len = 1 ∧ 0 ≤ j ∧ j < L then some [(pc + 1, (iv, lo, (0, j) :: st, hp, kc, ks))] else none
    | none => none)
  | _ => none
def xk_i_baload (T : xk_T) (X : xk_X) (pc len : Nat)  (iv : xk_N) (lo : List (Nat × xk_V)) (st : List xk_V) (hp : List xk_C) (kc ks : Nat) : Option (List (Nat × xk_S)) := match st with
  | i :: (2, q) :: st => (match hp[q.toNat]? with
    | some (1, t, fs, n, I, ov) => (match xk_cz iv i with
      | (5, j) => if len = 1 ∧ (0 < t ∧ t < 3) ∧ 0 ≤ j ∧ j < n then some [(pc + 1, ((xk_ldv 0 iv I ov j.toNat).1, lo, (xk_ldv 0 iv I ov j.toNat).2 :: st, hp, kc, ks))] else none
      | _ => if len = 1 ∧ (0 < t ∧ t < 3) ∧ xk_isI i = true ∧ ov.isEmpty = true ∧ 0 ≤ (xk_iv iv i).1 ∧ (xk_iv iv i).2 < n then (if X.2.2.2.2.contains pc then some [(pc + 1, ((xk_new 0 iv I).1, lo, (xk_new 0 iv I).2 :: st, hp.set q.toNat (9, t, [i, (xk_new 0 iv I).2], n, I, []), kc, ks))] else some [(pc + 1, ((xk_new 0 iv I).1, lo, (xk_new 0 iv I).2 :: st, hp, kc, ks))]) else none)
    | some (9, t, [i2, v2], n, I, ov) => if len = 1 ∧ (0 < t ∧ t < 3) ∧ xk_isI i = true ∧ ov.isEmpty = true ∧ 0 ≤ (xk_iv iv i).1 ∧ (xk_iv iv i).2 < n then (if xk_bV i i2 then some [(pc + 1, (iv, lo, v2 :: st, hp, kc, ks))] else if X.2.2.2.2.contains pc then some [(pc + 1, ((xk_new 0 iv I).1, lo, (xk_new 0 iv I).2 :: st, (hp.set q.toNat (1, t, [], n, I, [])).set q.toNat (9, t, [i, (xk_new 0 iv I).2], n, I, []), kc, ks))] else some [(pc + 1, ((xk_new 0 iv I).1, lo, (xk_new 0 iv I).2 :: st, hp.set q.toNat (1, t, [], n, I, []), kc, ks))]) else none
    | _ => none)
  | _ => none
def xk_i_laload (T : xk_T) (X : xk_X) (pc len : Nat)  (iv : xk_N) (lo : List (Nat × xk_V)) (st : List xk_V) (hp : List xk_C) (kc ks : Nat) : Option (List (Nat × xk_S)) := match st with
  | i :: (2, q) :: st => (match hp[q.toNat]? with
    | some (2, 3, fs, n, I, ov) => (match xk_cz iv i with
      | (5, j) => if len = 1 ∧ 0 ≤ j ∧ j < n then some [(pc + 1, ((xk_ldv 1 iv I ov j.toNat).1, lo, (xk_ldv 1 iv I ov j.toNat).2 :: st, hp, kc, ks))] else none
      | _ => if len = 1 ∧ True ∧ xk_isI i = true ∧ ov.isEmpty = true ∧ 0 ≤ (xk_iv iv i).1 ∧ (xk_iv iv i).2 < n then some [(pc + 1, ((xk_new 1 iv I).1, lo, (xk_new 1 iv I).2 :: st, hp, kc, ks))] else none)
    | _ => none)
  | _ => none
def xk_i_aaload (T : xk_T) (X : xk_X) (pc len : Nat)  (iv : xk_N) (lo : List (Nat × xk_V)) (st : List xk_V) (hp : List xk_C) (kc ks : Nat) : Option (List (Nat × xk_S)) := match st with
  | i :: (2, q) :: st => (match hp[q.toNat]? with
    | some (3, t, fs, n, I, ov) => (match xk_cz iv i with
      | (5, j) => if len = 1 ∧ (t = 4 ∨ t = 5) ∧ 0 ≤ j ∧ j < n then some [(pc + 1, (iv, lo, (xk_ov ov j.toNat).getD (3, 0) :: st, hp, kc, ks))] else none
      | _ => none)
    | _ => none)
  | _ => none
def xk_i_arraylength (T : xk_T) (X : xk_X) (pc len : Nat)  (iv : xk_N) (lo : List (Nat × xk_V)) (st : List xk_V) (hp : List xk_C) (kc ks : Nat) : Option (List (Nat × xk_S)) := match st with
  | (2, q) :: st => (match hp[q.toNat]? with
    | some (kd, t, fs, n, I, ov) => if len = 1 ∧ (kd = 1 ∨ kd = 2) then some [(pc + 1, (iv, lo, (5, (Int32.ofNat n).toInt) :: st, hp, kc, ks))] else none
    | none => none)
  | (4, z) :: st => (match X.2.2.2.1 with
    | some L => if len = 1 then some [(pc + 1, (iv, lo, (5, (Int32.ofNat L).toInt) :: st, hp, kc, ks))] else none
    | none => none)
  | _ => none
def xk_i_iastore (T : xk_T) (X : xk_X) (pc len : Nat)  (iv : xk_N) (lo : List (Nat × xk_V)) (st : List xk_V) (hp : List xk_C) (kc ks : Nat) : Option (List (Nat × xk_S)) := match st with
  | av :: i :: (2, q) :: st => (match hp[q.toNat]? with
    | some (1, 0, fs, n, I, ov) => (match xk_cz iv i with
      | (5, j) => if len = 1 ∧ xk_isI av = true ∧ 0 ≤ j ∧ j < n then some [(pc + 1, (iv, lo, st, hp.set q.toNat (1, 0, fs, n, I, xk_put ov I j.toNat av), kc, ks))] else none
      | _ => if len = 1 ∧ xk_isI av = true ∧ xk_isI i = true ∧ ov.isEmpty = true ∧ 0 ≤ (xk_iv iv i).1 ∧ (xk_iv iv i).2 < n then some [(pc + 1, (iv, lo, st, hp.set q.toNat (1, 0, fs, n, xk_hull I (xk_iv iv av), []), kc, ks))] else none)
    | some (12, 0, fs, n, I, ov) => (match xk_cz iv i with
      | (5, j) => if len = 1 ∧ xk_isI av = true ∧ 0 ≤ j ∧ j < n then some [(pc + 1, (iv, lo, st, hp.set q.toNat (12, 0, fs, n, I, (j.toNat, av) :: xk_del ov j.toNat), kc, ks))] else none
      | _ => none)
    | _ => none)
  | _ => none
def xk_i_bastore (T : xk_T) (X : xk_X) (pc len : Nat)  (iv : xk_N) (lo : List (Nat × xk_V)) (st : List xk_V) (hp : List xk_C) (kc ks : Nat) : Option (List (Nat × xk_S)) := match st with
  | av :: i :: (2, q) :: st => (match hp[q.toNat]? with
    | some (1, 1, fs, n, I, ov) => (match xk_cz iv i with
      | (5, j) => if len = 1 ∧ xk_isI av = true ∧ 0 ≤ j ∧ j < n then some [(pc + 1, (iv, lo, st, hp.set q.toNat (1, 1, fs, n, xk_hull I (-128, 127), xk_del ov j.toNat), kc, ks))] else none
      | _ => if len = 1 ∧ xk_isI av = true ∧ xk_isI i = true ∧ ov.isEmpty = true ∧ 0 ≤ (xk_iv iv i).1 ∧ (xk_iv iv i).2 < n then some [(pc + 1, (iv, lo, st, hp.set q.toNat (1, 1, fs, n, xk_hull I (-128, 127), []), kc, ks))] else none)
    | some (1, 2, fs, n, I, ov) => (match xk_cz iv i with
      | (5, j) => if len = 1 ∧ xk_isI av = true ∧ 0 ≤ j ∧ j < n ∧ 0 ≤ (xk_iv iv av).1 ∧ (xk_iv iv av).2 ≤ 1 then some [(pc + 1, (iv, lo, st, hp.set q.toNat (1, 2, fs, n, I, xk_put ov I j.toNat av), kc, ks))] else none
      | _ => if len = 1 ∧ (xk_isI av = true ∧ 0 ≤ (xk_iv iv av).1 ∧ (xk_iv iv av).2 ≤ 1) ∧ xk_isI i = true ∧ ov.isEmpty = true ∧ 0 ≤ (xk_iv iv i).1 ∧ (xk_iv iv i).2 < n then some [(pc + 1, (iv, lo, st, hp.set q.toNat (1, 2, fs, n, xk_hull I (xk_iv iv av), []), kc, ks))] else none)
    | _ => none)
  | _ => none
def xk_i_lastore (T : xk_T) (X : xk_X) (pc len : Nat)  (iv : xk_N) (lo : List (Nat × xk_V)) (st : List xk_V) (hp : List xk_C) (kc ks : Nat) : Option (List (Nat × xk_S)) := match st with
  | av :: i :: (2, q) :: st => (match hp[q.toNat]? with
    | some (2, 3, fs, n, I, ov) => (match xk_cz iv i with
      | (5, j) => if len = 1 ∧ xk_isL av = true ∧ 0 ≤ j ∧ j < n then some [(pc + 1, (iv, lo, st, hp.set q.toNat (2, 3, fs, n, I, xk_put ov I j.toNat av), kc, ks))] else none
      | _ => if len = 1 ∧ xk_isL av = true ∧ xk_isI i = true ∧ ov.isEmpty = true ∧ 0 ≤ (xk_iv iv i).1 ∧ (xk_iv iv i).2 < n then some [(pc + 1, (iv, lo, st, hp.set q.toNat (2, 3, fs, n, xk_hull I (xk_iv iv av), []), kc, ks))] else none)
    | _ => none)
  | _ => none
def xk_i_aastore (T : xk_T) (X : xk_X) (pc len : Nat)  (iv : xk_N) (lo : List (Nat × xk_V)) (st : List xk_V) (hp : List xk_C) (kc ks : Nat) : Option (List (Nat × xk_S)) := match st with
  | (2, z) :: i :: (2, q) :: st => (match hp[q.toNat]? with
    | some (3, t, fs, n, I, ov) => (match hp[z.toNat]? with
      | some (0, ci, fs2, n2, I2, ov2) => (match xk_cz iv i with
        | (5, j) => if len = 1 ∧ (t = 4 ∧ ci = 2 ∨ t = 5 ∧ ci = 6) ∧ 0 ≤ j ∧ j < n then some [(pc + 1, (iv, lo, st, hp.set q.toNat (3, t, fs, n, I, (j.toNat, (2, z)) :: xk_del ov j.toNat), kc, ks))] else none
        | _ => none)
      | _ => none)
    | _ => none)
  | _ => none
def xk_i_new (T : xk_T) (X : xk_X) (pc len : Nat) (ix : Nat) (iv : xk_N) (lo : List (Nat × xk_V)) (st : List xk_V) (hp : List xk_C) (kc ks : Nat) : Option (List (Nat × xk_S)) := if len = 3 then (match T.2.2.2.1.find? (fun q => Nat.beq q.1 ix) with
  | some f => if kc + 1 ≤ X.2.2.1.2.1 ∧ ks + f.2.2.length ≤ X.2.2.1.2.2.1 then some [(pc + 3, (iv, lo, (2, (hp.length : Int)) :: st, hp ++ [(0, f.2.1, f.2.2.map xk_dv, 0, (0, 0), [])], kc + 1, ks + f.2.2.length))] else none
  | none => none) else none
def xk_an (a : ArrayType) : Nat := match a with
  | .int => 0
  | .byte => 1
  | .boolean => 2
  | .long => 3
  | _ => 9
theorem xk_an_ok {a : ArrayType} (h : xk_an a < 4) : a = xk_at (xk_an a) := by
  cases a <;> first | rfl | exact absurd h (by decide)
def xk_i_newarray (T : xk_T) (X : xk_X) (pc len : Nat) (aty : ArrayType) (iv : xk_N) (lo : List (Nat × xk_V)) (st : List xk_V) (hp : List xk_C) (kc ks : Nat) : Option (List (Nat × xk_S)) := match st with
  | (5, n) :: st => if len = 2 ∧ xk_an aty < 4 ∧ n = (n.toNat : Int) ∧ n.toNat ≤ 100000 ∧ kc + 1 ≤ X.2.2.1.2.1 ∧ ks + n.toNat ≤ X.2.2.1.2.2.1 then some [(pc + 2, (iv, lo, (2, (hp.length : Int)) :: st, hp ++ [(if xk_an aty = 3 then 2 else 1, xk_an aty, [], n.toNat, (0, 0), [])], kc + 1, ks + n.toNat))] else none
  | _ => none
def xk_i_anewarray (T : xk_T) (X : xk_X) (pc len : Nat) (ix : Nat) (iv : xk_N) (lo : List (Nat × xk_V)) (st : List xk_V) (hp : List xk_C) (kc ks : Nat) : Option (List (Nat × xk_S)) := match st with
  | (5, n) :: st => if len = 3 then (match T.2.2.2.2.1.find? (fun q => Nat.beq q.1 ix) with
    | some f => if n = (n.toNat : Int) ∧ n.toNat ≤ 100000 ∧ kc + 1 ≤ X.2.2.1.2.1 ∧ ks + n.toNat ≤ X.2.2.1.2.2.1 then some [(pc + 3, (iv, lo, (2, (hp.length : Int)) :: st, hp ++ [(3, f.2, [], n.toNat, (0, 0), [])], kc + 1, ks + n.toNat))] else none
    | none => none) else none
  | _ => none
def xk_i_obj (T : xk_T) (X : xk_X) (pc len : Nat) (ix : Nat) (iv : xk_N) (lo : List (Nat × xk_V)) (st : List xk_V) (hp : List xk_C) (kc ks : Nat) : Option (List (Nat × xk_S)) := match st with
  | av :: st => if len = 3 ∧ xk_isR av = true ∧ T.2.2.2.2.2.1.contains ix = true ∧ (st.map xk_cat).sum ≤ 8 ∧ 1 ≤ X.2.2.1.1 ∧ 20 ≤ X.2.2.1.2.2.2 then some [(pc + 3, (iv, lo, st, hp, kc, ks))] else none
  | _ => none
def xk_i_acopy (T : xk_T) (X : xk_X) (pc len : Nat) (ix : Nat) (iv : xk_N) (lo : List (Nat × xk_V)) (st : List xk_V) (hp : List xk_C) (kc ks : Nat) : Option (List (Nat × xk_S)) := match st with
  | (5, n') :: (5, 0) :: (2, q1) :: (5, 0) :: (2, q0) :: st => if len = 3 ∧ T.2.2.2.2.2.2.1.contains ix = true ∧ (st.map xk_cat).sum ≤ 8 ∧ 1 ≤ X.2.2.1.1 ∧ 100 ≤ X.2.2.1.2.2.2 then (match hp[q0.toNat]?, hp[q1.toNat]? with
    | some (1, 0, fs0, n, I0, ov0), some (1, 0, fs1, n1, I1, ov1) => if n' = n ∧ n1 = n then some [(pc + 3, (iv, lo, st, hp.set q1.toNat (1, 0, fs1, n, I0, ov0), kc, ks))] else none
    | some (2, 3, fs0, n, I0, ov0), some (2, 3, fs1, n1, I1, ov1) => if n' = n ∧ n1 = n then some [(pc + 3, (iv, lo, st, hp.set q1.toNat (2, 3, fs1, n, I0, ov0), kc, ks))] else none
    | _, _ => none) else none
  | _ => none
section XH
variable {p : Program} {l : Launch} {e : Env} {R : Room} {s : State} {m : MethodId} {args : Array Value} {below : List Frame} {meth : Method} {c : Code} {Q : State → Prop} {b : xk_b} {D : va_G} {A : Nat → Prop} {own : String} {cc : ByteArray} {nL : Nat}
theorem xk_s_gv {pc : Nat} {iv : xk_N} {lo : List (Nat × xk_V)} {st : List xk_V} {hp : List xk_C} {kc ks : Nat} {av : xk_V} (k : xk_G p l e R s m args below meth c Q b nL D A pc ((xk_gv iv av).1, lo, (xk_gv iv av).2 :: st, hp, kc, ks)) : xk_G p l e R s m args below meth c Q b nL D A pc (iv, lo, av :: st, hp, kc, ks) := by
  obtain ⟨t, i⟩ := av
  by_cases h9 : t = 9
  · subst h9
    intro env ad H locs ls sv h
    obtain ⟨v, rest, rfl, ⟨x, rfl⟩, hr⟩ := xk_pop h
    have hb := xk_full_ok x
    obtain ⟨e2, hq⟩ := xk_pushI (I := xk_full) hr hb.1 hb.2
    exact k _ _ _ _ _ _ hq
  · by_cases h10 : t = 10
    · subst h10
      intro env ad H locs ls sv h
      obtain ⟨v, rest, rfl, ⟨x, rfl⟩, hr⟩ := xk_pop h
      have hb := xk_fulL_ok x
      obtain ⟨e2, hq⟩ := xk_pushL (I := xk_fulL) hr hb.1 hb.2
      exact k _ _ _ _ _ _ hq
    · have e : xk_gv iv (t, i) = (iv, (t, i)) := by
        unfold xk_gv
        split
        · rename_i h; exact absurd h h9
        · rename_i h; exact absurd h h10
        · rfl
      rw [e] at k
      exact k
theorem xk_t_getfield {T : xk_T} {X : xk_X} {pc len : Nat} {iv : xk_N} {lo : List (Nat × xk_V)} {st : List xk_V} {hp : List xk_C} {kc ks : Nat} {succs : List (Nat × xk_S)} {ix : Nat} (F : xk_Fx p s m args c D A own cc nL) (TK : xk_TOK own T) (GK : xk_GOK) (hX : X.1 = nL) (hI : X.2.1 = true → meth.name = "<init>") (hRm : X.2.2.1 = (R.frames, R.cells, R.slots, R.locals)) (hd : decode cc pc = .ok (.getfield ix, len)) (h : xk_i_getfield T X pc len ix iv lo st hp kc ks = some succs) (kk : ∀ q ∈ succs, xk_G p l e R s m args below meth c Q b nL D A q.1 q.2) : xk_G p l e R s m args below meth c Q b nL D A pc (iv, lo, st, hp, kc, ks) := by
  obtain ⟨hx, hb, hml, hown, hts, hK, hA⟩ := id F
  unfold xk_i_getfield at h
  split at h
  · split at h
    · rename_i hl
      subst hl
      split at h
      · rename_i f hf
        split at h
        · rename_i ci fs n I ov hc
          split at h
          · rename_i hci
            split at h
            · rename_i av hav
              cases h
              have hm := List.mem_of_find?_eq_some hf
              have he : f.1 = ix := Nat.eq_of_beq_eq_true (List.find?_some (p := fun q : Nat × Nat × Nat × Nat => Nat.beq q.1 ix) hf)
              obtain ⟨f1, f2, f3, f4⟩ := f
              dsimp only at he hci hav
              subst he hci
              exact xk_s_get F (TK.1 _ hm) hd hc hav (xk_s_gv (kk _ List.mem_cons_self))
            · cases h
          · cases h
        · cases h
      · cases h
    · cases h
  · cases h
theorem xk_t_putfield {T : xk_T} {X : xk_X} {pc len : Nat} {iv : xk_N} {lo : List (Nat × xk_V)} {st : List xk_V} {hp : List xk_C} {kc ks : Nat} {succs : List (Nat × xk_S)} {ix : Nat} (F : xk_Fx p s m args c D A own cc nL) (TK : xk_TOK own T) (GK : xk_GOK) (hX : X.1 = nL) (hI : X.2.1 = true → meth.name = "<init>") (hRm : X.2.2.1 = (R.frames, R.cells, R.slots, R.locals)) (hd : decode cc pc = .ok (.putfield ix, len)) (h : xk_i_putfield T X pc len ix iv lo st hp kc ks = some succs) (kk : ∀ q ∈ succs, xk_G p l e R s m args below meth c Q b nL D A q.1 q.2) : xk_G p l e R s m args below meth c Q b nL D A pc (iv, lo, st, hp, kc, ks) := by
  obtain ⟨hx, hb, hml, hown, hts, hK, hA⟩ := id F
  unfold xk_i_putfield at h
  split at h
  · split at h
    · rename_i hl
      subst hl
      split at h
      · rename_i f hf
        split at h
        · rename_i ci fs n I ov hc
          split at h
          · rename_i hcc
            obtain ⟨hci, hlen, hpv, htc⟩ := hcc
            cases h
            have hm := List.mem_of_find?_eq_some hf
            have he : f.1 = ix := Nat.eq_of_beq_eq_true (List.find?_some (p := fun q : Nat × Nat × Nat × Nat => Nat.beq q.1 ix) hf)
            obtain ⟨f1, f2, f3, f4⟩ := f
            dsimp only at he hci hlen hpv htc
            subst he hci
            exact xk_s_put F (TK.1 _ hm) (htc.elim Or.inl (fun z => Or.inr ⟨z.1, hI z.2⟩)) hd hc hlen hpv (kk _ List.mem_cons_self)
          · cases h
        · cases h
      · cases h
    · cases h
  · cases h
theorem xk_t_iaload {T : xk_T} {X : xk_X} {pc len : Nat} {iv : xk_N} {lo : List (Nat × xk_V)} {st : List xk_V} {hp : List xk_C} {kc ks : Nat} {succs : List (Nat × xk_S)}  (F : xk_Fx p s m args c D A own cc nL) (TK : xk_TOK own T) (GK : xk_GOK) (hX : X.1 = nL) (hI : X.2.1 = true → meth.name = "<init>") (hRm : X.2.2.1 = (R.frames, R.cells, R.slots, R.locals)) (SC : ∀ L, X.2.2.2.1 = some L → ∃ xs : Nat → Int32, va_X (b.1 - 1) L xs s s.heap ∧ b.1 - 1 < s.heap.size ∧ ¬ A (b.1 - 1) ∧ b.2.1 = (List.range L).map (fun j => (xs j).toInt)) (hd : decode cc pc = .ok (.iaload, len)) (h : xk_i_iaload T X pc len  iv lo st hp kc ks = some succs) (kk : ∀ q ∈ succs, xk_G p l e R s m args below meth c Q b nL D A q.1 q.2) : xk_G p l e R s m args below meth c Q b nL D A pc (iv, lo, st, hp, kc, ks) := by
  obtain ⟨hx, hb, hml, hown, hts, hK, hA⟩ := id F
  unfold xk_i_iaload at h
  split at h
  · split at h
    · rename_i t fs n I ov hc
      split at h
      · rename_i j hz
        split at h
        · rename_i hcc
          obtain ⟨hl, ht, hj1, hj2⟩ := hcc
          subst hl
          cases h
          refine xk_s_cz1 ?_
          rw [hz]
          exact xk_s_aldI F (by omega) (by rw [hd]; subst ht; rfl) hc hj1 hj2 (kk _ List.mem_cons_self)
        · cases h
      · split at h
        · rename_i hcc
          obtain ⟨hl, ht, hi, ho, hj1, hj2⟩ := hcc
          subst hl
          cases h
          rw [List.isEmpty_iff.mp ho] at hc
          exact xk_s_aldIg F hi (by omega) (by rw [hd]; subst ht; rfl) hc hj1 hj2 (kk _ List.mem_cons_self)
        · cases h
    · rename_i t fs n I ov hc
      split at h
      · rename_i j hz
        split at h
        · rename_i hcc
          obtain ⟨hl, ht, hj1, hj2⟩ := hcc
          subst hl
          subst ht
          cases h
          refine xk_s_cz1 ?_
          rw [hz]
          exact xk_s_ald12 F hd hc hj1 hj2 (kk _ List.mem_cons_self)
        · cases h
      · cases h
    · rename_i kd t fs n I ov hno hno2 hc
      split at h
      · rename_i hcc
        obtain ⟨hl, hk, ht, hi, ho, hj1, hj2⟩ := hcc
        subst hl
        cases h
        subst ht
        rw [List.isEmpty_iff.mp ho] at hc
        exact xk_s_ald8 F hk hi hd hc hj1 hj2 (kk _ List.mem_cons_self)
      · cases h
    · cases h
  · split at h
    · rename_i L hLe
      split at h
      · rename_i hcc
        obtain ⟨hl, hj1, hj2⟩ := hcc
        subst hl
        cases h
        obtain ⟨xs, s1, s2, s3, s4⟩ := SC L hLe
        exact xk_s_sld F s1 s2 s3 s4 hd hj1 hj2 (kk _ List.mem_cons_self)
      · cases h
    · cases h
  · cases h
theorem xk_t_baload {T : xk_T} {X : xk_X} {pc len : Nat} {iv : xk_N} {lo : List (Nat × xk_V)} {st : List xk_V} {hp : List xk_C} {kc ks : Nat} {succs : List (Nat × xk_S)}  (F : xk_Fx p s m args c D A own cc nL) (TK : xk_TOK own T) (GK : xk_GOK) (hX : X.1 = nL) (hI : X.2.1 = true → meth.name = "<init>") (hRm : X.2.2.1 = (R.frames, R.cells, R.slots, R.locals)) (SC : ∀ L, X.2.2.2.1 = some L → ∃ xs : Nat → Int32, va_X (b.1 - 1) L xs s s.heap ∧ b.1 - 1 < s.heap.size ∧ ¬ A (b.1 - 1) ∧ b.2.1 = (List.range L).map (fun j => (xs j).toInt)) (hd : decode cc pc = .ok (.baload, len)) (h : xk_i_baload T X pc len  iv lo st hp kc ks = some succs) (kk : ∀ q ∈ succs, xk_G p l e R s m args below meth c Q b nL D A q.1 q.2) : xk_G p l e R s m args below meth c Q b nL D A pc (iv, lo, st, hp, kc, ks) := by
  obtain ⟨hx, hb, hml, hown, hts, hK, hA⟩ := id F
  unfold xk_i_baload at h
  split at h
  · split at h
    · rename_i t fs n I ov hc
      split at h
      · rename_i j hz
        split at h
        · rename_i hcc
          obtain ⟨hl, ht, hj1, hj2⟩ := hcc
          subst hl
          cases h
          refine xk_s_cz1 ?_
          rw [hz]
          exact xk_s_aldI F (by omega) (by rw [hd]; rw [if_neg (by omega)]) hc hj1 hj2 (kk _ List.mem_cons_self)
        · cases h
      · split at h
        · rename_i hcc
          obtain ⟨hl, ht, hi, ho, hj1, hj2⟩ := hcc
          subst hl
          rw [List.isEmpty_iff.mp ho] at hc
          split at h
          · cases h
            exact xk_s_aldIf F hi (by omega) (by rw [hd]; rw [if_neg (by omega)]) hc hj1 hj2 (kk _ List.mem_cons_self)
          · cases h
            exact xk_s_aldIg F hi (by omega) (by rw [hd]; rw [if_neg (by omega)]) hc hj1 hj2 (kk _ List.mem_cons_self)
        · cases h
    · rename_i t i2 v2 n I ov hc
      split at h
      · rename_i hcc
        obtain ⟨hl, ht, hi, ho, hj1, hj2⟩ := hcc
        subst hl
        rw [List.isEmpty_iff.mp ho] at hc
        split at h
        · rename_i hbv
          cases h
          have e := xk_bV_eq hbv
          subst e
          exact xk_s_ald9 F hi (by omega) (by rw [hd]; rw [if_neg (by omega)]) hc hj1 hj2 (kk _ List.mem_cons_self)
        · have hc1 : ∀ (q : Nat), hp[q]? = some (9, t, [i2, v2], n, I, []) → (hp.set q (1, t, [], n, I, []))[q]? = some (1, t, [], n, I, []) := fun q hq => by rw [List.getElem?_set_self (List.getElem?_eq_some_iff.mp hq).1]
          split at h
          · cases h
            refine xk_s_weak9 hc ?_
            exact xk_s_aldIf F hi (by omega) (by rw [hd]; rw [if_neg (by omega)]) (hc1 _ hc) hj1 hj2 (kk _ List.mem_cons_self)
          · cases h
            refine xk_s_weak9 hc ?_
            exact xk_s_aldIg F hi (by omega) (by rw [hd]; rw [if_neg (by omega)]) (hc1 _ hc) hj1 hj2 (kk _ List.mem_cons_self)
      · cases h
    · cases h
  · cases h
theorem xk_t_laload {T : xk_T} {X : xk_X} {pc len : Nat} {iv : xk_N} {lo : List (Nat × xk_V)} {st : List xk_V} {hp : List xk_C} {kc ks : Nat} {succs : List (Nat × xk_S)}  (F : xk_Fx p s m args c D A own cc nL) (TK : xk_TOK own T) (GK : xk_GOK) (hX : X.1 = nL) (hI : X.2.1 = true → meth.name = "<init>") (hRm : X.2.2.1 = (R.frames, R.cells, R.slots, R.locals)) (SC : ∀ L, X.2.2.2.1 = some L → ∃ xs : Nat → Int32, va_X (b.1 - 1) L xs s s.heap ∧ b.1 - 1 < s.heap.size ∧ ¬ A (b.1 - 1) ∧ b.2.1 = (List.range L).map (fun j => (xs j).toInt)) (hd : decode cc pc = .ok (.laload, len)) (h : xk_i_laload T X pc len  iv lo st hp kc ks = some succs) (kk : ∀ q ∈ succs, xk_G p l e R s m args below meth c Q b nL D A q.1 q.2) : xk_G p l e R s m args below meth c Q b nL D A pc (iv, lo, st, hp, kc, ks) := by
  obtain ⟨hx, hb, hml, hown, hts, hK, hA⟩ := id F
  unfold xk_i_laload at h
  split at h
  · split at h
    · rename_i fs n I ov hc
      split at h
      · rename_i j hz
        split at h
        · rename_i hcc
          obtain ⟨hl, hj1, hj2⟩ := hcc
          subst hl
          cases h
          refine xk_s_cz1 ?_
          rw [hz]
          exact xk_s_aldL F hd hc hj1 hj2 (kk _ List.mem_cons_self)
        · cases h
      · split at h
        · rename_i hcc
          obtain ⟨hl, -, hi, ho, hj1, hj2⟩ := hcc
          subst hl
          cases h
          rw [List.isEmpty_iff.mp ho] at hc
          exact xk_s_aldLg F hi hd hc hj1 hj2 (kk _ List.mem_cons_self)
        · cases h
    · cases h
  · cases h
theorem xk_t_aaload {T : xk_T} {X : xk_X} {pc len : Nat} {iv : xk_N} {lo : List (Nat × xk_V)} {st : List xk_V} {hp : List xk_C} {kc ks : Nat} {succs : List (Nat × xk_S)}  (F : xk_Fx p s m args c D A own cc nL) (TK : xk_TOK own T) (GK : xk_GOK) (hX : X.1 = nL) (hI : X.2.1 = true → meth.name = "<init>") (hRm : X.2.2.1 = (R.frames, R.cells, R.slots, R.locals)) (SC : ∀ L, X.2.2.2.1 = some L → ∃ xs : Nat → Int32, va_X (b.1 - 1) L xs s s.heap ∧ b.1 - 1 < s.heap.size ∧ ¬ A (b.1 - 1) ∧ b.2.1 = (List.range L).map (fun j => (xs j).toInt)) (hd : decode cc pc = .ok (.aaload, len)) (h : xk_i_aaload T X pc len  iv lo st hp kc ks = some succs) (kk : ∀ q ∈ succs, xk_G p l e R s m args below meth c Q b nL D A q.1 q.2) : xk_G p l e R s m args below meth c Q b nL D A pc (iv, lo, st, hp, kc, ks) := by
  obtain ⟨hx, hb, hml, hown, hts, hK, hA⟩ := id F
  unfold xk_i_aaload at h
  split at h
  · split at h
    · rename_i t fs n I ov hc
      split at h
      · rename_i j hz
        split at h
        · rename_i hcc
          obtain ⟨hl, ht, hj1, hj2⟩ := hcc
          subst hl
          cases h
          refine xk_s_cz1 ?_
          rw [hz]
          exact xk_s_aldQ F ht hd hc hj1 hj2 (kk _ List.mem_cons_self)
        · cases h
      · cases h
    · cases h
  · cases h
theorem xk_t_arraylength {T : xk_T} {X : xk_X} {pc len : Nat} {iv : xk_N} {lo : List (Nat × xk_V)} {st : List xk_V} {hp : List xk_C} {kc ks : Nat} {succs : List (Nat × xk_S)}  (F : xk_Fx p s m args c D A own cc nL) (TK : xk_TOK own T) (GK : xk_GOK) (hX : X.1 = nL) (hI : X.2.1 = true → meth.name = "<init>") (hRm : X.2.2.1 = (R.frames, R.cells, R.slots, R.locals)) (SC : ∀ L, X.2.2.2.1 = some L → ∃ xs : Nat → Int32, va_X (b.1 - 1) L xs s s.heap ∧ b.1 - 1 < s.heap.size ∧ ¬ A (b.1 - 1) ∧ b.2.1 = (List.range L).map (fun j => (xs j).toInt)) (hd : decode cc pc = .ok (.arraylength, len)) (h : xk_i_arraylength T X pc len  iv lo st hp kc ks = some succs) (kk : ∀ q ∈ succs, xk_G p l e R s m args below meth c Q b nL D A q.1 q.2) : xk_G p l e R s m args below meth c Q b nL D A pc (iv, lo, st, hp, kc, ks) := by
  obtain ⟨hx, hb, hml, hown, hts, hK, hA⟩ := id F
  unfold xk_i_arraylength at h
  split at h
  · split at h
    · rename_i kd t fs n I ov hc
      split at h
      · rename_i hcc
        obtain ⟨hl, hk⟩ := hcc
        subst hl
        cases h
        exact xk_s_alen F hk hd hc (kk _ List.mem_cons_self)
      · cases h
    · cases h
  · split at h
    · rename_i L hLe
      split at h
      · rename_i hl
        subst hl
        cases h
        obtain ⟨xs, s1, s2, s3, s4⟩ := SC L hLe
        exact xk_s_slen F s1 s2 s3 hd (kk _ List.mem_cons_self)
      · cases h
    · cases h
  · cases h
theorem xk_t_iastore {T : xk_T} {X : xk_X} {pc len : Nat} {iv : xk_N} {lo : List (Nat × xk_V)} {st : List xk_V} {hp : List xk_C} {kc ks : Nat} {succs : List (Nat × xk_S)}  (F : xk_Fx p s m args c D A own cc nL) (TK : xk_TOK own T) (GK : xk_GOK) (hX : X.1 = nL) (hI : X.2.1 = true → meth.name = "<init>") (hRm : X.2.2.1 = (R.frames, R.cells, R.slots, R.locals)) (SC : ∀ L, X.2.2.2.1 = some L → ∃ xs : Nat → Int32, va_X (b.1 - 1) L xs s s.heap ∧ b.1 - 1 < s.heap.size ∧ ¬ A (b.1 - 1) ∧ b.2.1 = (List.range L).map (fun j => (xs j).toInt)) (hd : decode cc pc = .ok (.iastore, len)) (h : xk_i_iastore T X pc len  iv lo st hp kc ks = some succs) (kk : ∀ q ∈ succs, xk_G p l e R s m args below meth c Q b nL D A q.1 q.2) : xk_G p l e R s m args below meth c Q b nL D A pc (iv, lo, st, hp, kc, ks) := by
  obtain ⟨hx, hb, hml, hown, hts, hK, hA⟩ := id F
  unfold xk_i_iastore at h
  split at h
  · split at h
    · rename_i fs n I ov hc
      split at h
      · rename_i j hz
        split at h
        · rename_i hcc
          obtain ⟨hl, hav, hj1, hj2⟩ := hcc
          subst hl
          cases h
          refine xk_s_cz2 ?_
          rw [hz]
          exact xk_s_astI F (t := 0) (Or.inl rfl) hav hd hc hj1 hj2 (kk _ List.mem_cons_self)
        · cases h
      · split at h
        · rename_i hcc
          obtain ⟨hl, hav, hi, ho, hj1, hj2⟩ := hcc
          subst hl
          cases h
          rw [List.isEmpty_iff.mp ho] at hc
          exact xk_s_astIg F (t := 0) hi (Or.inl rfl) hav hd hc hj1 hj2 (kk _ List.mem_cons_self)
        · cases h
    · rename_i fs n I ov hc
      split at h
      · rename_i j hz
        split at h
        · rename_i hcc
          obtain ⟨hl, hav, hj1, hj2⟩ := hcc
          subst hl
          cases h
          refine xk_s_cz2 ?_
          rw [hz]
          exact xk_s_ast12 F hav hd hc hj1 hj2 (kk _ List.mem_cons_self)
        · cases h
      · cases h
    · cases h
  · cases h
theorem xk_t_bastore {T : xk_T} {X : xk_X} {pc len : Nat} {iv : xk_N} {lo : List (Nat × xk_V)} {st : List xk_V} {hp : List xk_C} {kc ks : Nat} {succs : List (Nat × xk_S)}  (F : xk_Fx p s m args c D A own cc nL) (TK : xk_TOK own T) (GK : xk_GOK) (hX : X.1 = nL) (hI : X.2.1 = true → meth.name = "<init>") (hRm : X.2.2.1 = (R.frames, R.cells, R.slots, R.locals)) (SC : ∀ L, X.2.2.2.1 = some L → ∃ xs : Nat → Int32, va_X (b.1 - 1) L xs s s.heap ∧ b.1 - 1 < s.heap.size ∧ ¬ A (b.1 - 1) ∧ b.2.1 = (List.range L).map (fun j => (xs j).toInt)) (hd : decode cc pc = .ok (.bastore, len)) (h : xk_i_bastore T X pc len  iv lo st hp kc ks = some succs) (kk : ∀ q ∈ succs, xk_G p l e R s m args below meth c Q b nL D A q.1 q.2) : xk_G p l e R s m args below meth c Q b nL D A pc (iv, lo, st, hp, kc, ks) := by
  obtain ⟨hx, hb, hml, hown, hts, hK, hA⟩ := id F
  unfold xk_i_bastore at h
  split at h
  · split at h
    · rename_i fs n I ov hc
      split at h
      · rename_i j hz
        split at h
        · rename_i hcc
          obtain ⟨hl, hav, hj1, hj2⟩ := hcc
          subst hl
          cases h
          refine xk_s_cz2 ?_
          rw [hz]
          exact xk_s_astB F hav hd hc hj1 hj2 (kk _ List.mem_cons_self)
        · cases h
      · split at h
        · rename_i hcc
          obtain ⟨hl, hav, hi, ho, hj1, hj2⟩ := hcc
          subst hl
          cases h
          rw [List.isEmpty_iff.mp ho] at hc
          exact xk_s_astBg F hi hav hd hc hj1 hj2 (kk _ List.mem_cons_self)
        · cases h
    · rename_i fs n I ov hc
      split at h
      · rename_i j hz
        split at h
        · rename_i hcc
          obtain ⟨hl, hav, hj1, hj2, hb1, hb2⟩ := hcc
          subst hl
          cases h
          refine xk_s_cz2 ?_
          rw [hz]
          exact xk_s_astI F (t := 2) (Or.inr ⟨rfl, hb1, hb2⟩) hav hd hc hj1 hj2 (kk _ List.mem_cons_self)
        · cases h
      · split at h
        · rename_i hcc
          obtain ⟨hl, ⟨hav, hb1, hb2⟩, hi, ho, hj1, hj2⟩ := hcc
          subst hl
          cases h
          rw [List.isEmpty_iff.mp ho] at hc
          exact xk_s_astIg F (t := 2) hi (Or.inr ⟨rfl, hb1, hb2⟩) hav hd hc hj1 hj2 (kk _ List.mem_cons_self)
        · cases h
    · cases h
  · cases h
theorem xk_t_lastore {T : xk_T} {X : xk_X} {pc len : Nat} {iv : xk_N} {lo : List (Nat × xk_V)} {st : List xk_V} {hp : List xk_C} {kc ks : Nat} {succs : List (Nat × xk_S)}  (F : xk_Fx p s m args c D A own cc nL) (TK : xk_TOK own T) (GK : xk_GOK) (hX : X.1 = nL) (hI : X.2.1 = true → meth.name = "<init>") (hRm : X.2.2.1 = (R.frames, R.cells, R.slots, R.locals)) (SC : ∀ L, X.2.2.2.1 = some L → ∃ xs : Nat → Int32, va_X (b.1 - 1) L xs s s.heap ∧ b.1 - 1 < s.heap.size ∧ ¬ A (b.1 - 1) ∧ b.2.1 = (List.range L).map (fun j => (xs j).toInt)) (hd : decode cc pc = .ok (.lastore, len)) (h : xk_i_lastore T X pc len  iv lo st hp kc ks = some succs) (kk : ∀ q ∈ succs, xk_G p l e R s m args below meth c Q b nL D A q.1 q.2) : xk_G p l e R s m args below meth c Q b nL D A pc (iv, lo, st, hp, kc, ks) := by
  obtain ⟨hx, hb, hml, hown, hts, hK, hA⟩ := id F
  unfold xk_i_lastore at h
  split at h
  · split at h
    · rename_i fs n I ov hc
      split at h
      · rename_i j hz
        split at h
        · rename_i hcc
          obtain ⟨hl, hav, hj1, hj2⟩ := hcc
          subst hl
          cases h
          refine xk_s_cz2 ?_
          rw [hz]
          exact xk_s_astL F hav hd hc hj1 hj2 (kk _ List.mem_cons_self)
        · cases h
      · split at h
        · rename_i hcc
          obtain ⟨hl, hav, hi, ho, hj1, hj2⟩ := hcc
          subst hl
          cases h
          rw [List.isEmpty_iff.mp ho] at hc
          exact xk_s_astLg F hi hav hd hc hj1 hj2 (kk _ List.mem_cons_self)
        · cases h
    · cases h
  · cases h
theorem xk_t_aastore {T : xk_T} {X : xk_X} {pc len : Nat} {iv : xk_N} {lo : List (Nat × xk_V)} {st : List xk_V} {hp : List xk_C} {kc ks : Nat} {succs : List (Nat × xk_S)}  (F : xk_Fx p s m args c D A own cc nL) (TK : xk_TOK own T) (GK : xk_GOK) (hX : X.1 = nL) (hI : X.2.1 = true → meth.name = "<init>") (hRm : X.2.2.1 = (R.frames, R.cells, R.slots, R.locals)) (SC : ∀ L, X.2.2.2.1 = some L → ∃ xs : Nat → Int32, va_X (b.1 - 1) L xs s s.heap ∧ b.1 - 1 < s.heap.size ∧ ¬ A (b.1 - 1) ∧ b.2.1 = (List.range L).map (fun j => (xs j).toInt)) (hd : decode cc pc = .ok (.aastore, len)) (h : xk_i_aastore T X pc len  iv lo st hp kc ks = some succs) (kk : ∀ q ∈ succs, xk_G p l e R s m args below meth c Q b nL D A q.1 q.2) : xk_G p l e R s m args below meth c Q b nL D A pc (iv, lo, st, hp, kc, ks) := by
  obtain ⟨hx, hb, hml, hown, hts, hK, hA⟩ := id F
  unfold xk_i_aastore at h
  split at h
  · split at h
    · rename_i t fs n I ov hc
      split at h
      · rename_i ci fs2 n2 I2 ov2 hz
        split at h
        · rename_i j hzz
          split at h
          · rename_i hcc
            obtain ⟨hl, ht, hj1, hj2⟩ := hcc
            subst hl
            cases h
            refine xk_s_cz2 ?_
            rw [hzz]
            exact xk_s_astQ F ht hd hc hz hj1 hj2 (kk _ List.mem_cons_self)
          · cases h
        · cases h
      · cases h
    · cases h
  · cases h
theorem xk_t_new {T : xk_T} {X : xk_X} {pc len : Nat} {iv : xk_N} {lo : List (Nat × xk_V)} {st : List xk_V} {hp : List xk_C} {kc ks : Nat} {succs : List (Nat × xk_S)} {ix : Nat} (F : xk_Fx p s m args c D A own cc nL) (TK : xk_TOK own T) (GK : xk_GOK) (hX : X.1 = nL) (hI : X.2.1 = true → meth.name = "<init>") (hRm : X.2.2.1 = (R.frames, R.cells, R.slots, R.locals)) (SC : ∀ L, X.2.2.2.1 = some L → ∃ xs : Nat → Int32, va_X (b.1 - 1) L xs s s.heap ∧ b.1 - 1 < s.heap.size ∧ ¬ A (b.1 - 1) ∧ b.2.1 = (List.range L).map (fun j => (xs j).toInt)) (hd : decode cc pc = .ok (.new ix, len)) (h : xk_i_new T X pc len ix iv lo st hp kc ks = some succs) (kk : ∀ q ∈ succs, xk_G p l e R s m args below meth c Q b nL D A q.1 q.2) : xk_G p l e R s m args below meth c Q b nL D A pc (iv, lo, st, hp, kc, ks) := by
  obtain ⟨hx, hb, hml, hown, hts, hK, hA⟩ := id F
  unfold xk_i_new at h
  split at h
  · rename_i hl
    subst hl
    split at h
    · rename_i f hf
      split at h
      · rename_i hcc
        cases h
        have hm := List.mem_of_find?_eq_some hf
        have he : f.1 = ix := Nat.eq_of_beq_eq_true (List.find?_some (p := fun q : Nat × Nat × List Nat => Nat.beq q.1 ix) hf)
        obtain ⟨f1, f2, f3⟩ := f
        dsimp only at he hcc
        subst he
        rw [hRm] at hcc
        exact xk_s_new F (TK.2.2.2.1 _ hm) hd hcc.1 hcc.2 (kk _ List.mem_cons_self)
      · cases h
    · cases h
  · cases h
theorem xk_t_newarray {T : xk_T} {X : xk_X} {pc len : Nat} {iv : xk_N} {lo : List (Nat × xk_V)} {st : List xk_V} {hp : List xk_C} {kc ks : Nat} {succs : List (Nat × xk_S)} {aty : ArrayType} (F : xk_Fx p s m args c D A own cc nL) (TK : xk_TOK own T) (GK : xk_GOK) (hX : X.1 = nL) (hI : X.2.1 = true → meth.name = "<init>") (hRm : X.2.2.1 = (R.frames, R.cells, R.slots, R.locals)) (SC : ∀ L, X.2.2.2.1 = some L → ∃ xs : Nat → Int32, va_X (b.1 - 1) L xs s s.heap ∧ b.1 - 1 < s.heap.size ∧ ¬ A (b.1 - 1) ∧ b.2.1 = (List.range L).map (fun j => (xs j).toInt)) (hd : decode cc pc = .ok (.newarray aty, len)) (h : xk_i_newarray T X pc len aty iv lo st hp kc ks = some succs) (kk : ∀ q ∈ succs, xk_G p l e R s m args below meth c Q b nL D A q.1 q.2) : xk_G p l e R s m args below meth c Q b nL D A pc (iv, lo, st, hp, kc, ks) := by
  obtain ⟨hx, hb, hml, hown, hts, hK, hA⟩ := id F
  unfold xk_i_newarray at h
  split at h
  · split at h
    · rename_i hcc
      obtain ⟨hl, h1, h2, h3, h4, h5⟩ := hcc
      subst hl
      cases h
      rw [hRm] at h4 h5
      exact xk_s_newa F h1 h2 h3 (GK.2.2.2.2.2 _ h1) (by rw [hd, ← xk_an_ok h1]) h4 h5 (kk _ List.mem_cons_self)
    · cases h
  · cases h
theorem xk_t_anewarray {T : xk_T} {X : xk_X} {pc len : Nat} {iv : xk_N} {lo : List (Nat × xk_V)} {st : List xk_V} {hp : List xk_C} {kc ks : Nat} {succs : List (Nat × xk_S)} {ix : Nat} (F : xk_Fx p s m args c D A own cc nL) (TK : xk_TOK own T) (GK : xk_GOK) (hX : X.1 = nL) (hI : X.2.1 = true → meth.name = "<init>") (hRm : X.2.2.1 = (R.frames, R.cells, R.slots, R.locals)) (SC : ∀ L, X.2.2.2.1 = some L → ∃ xs : Nat → Int32, va_X (b.1 - 1) L xs s s.heap ∧ b.1 - 1 < s.heap.size ∧ ¬ A (b.1 - 1) ∧ b.2.1 = (List.range L).map (fun j => (xs j).toInt)) (hd : decode cc pc = .ok (.anewarray ix, len)) (h : xk_i_anewarray T X pc len ix iv lo st hp kc ks = some succs) (kk : ∀ q ∈ succs, xk_G p l e R s m args below meth c Q b nL D A q.1 q.2) : xk_G p l e R s m args below meth c Q b nL D A pc (iv, lo, st, hp, kc, ks) := by
  obtain ⟨hx, hb, hml, hown, hts, hK, hA⟩ := id F
  unfold xk_i_anewarray at h
  split at h
  · split at h
    · rename_i hl
      subst hl
      split at h
      · rename_i f hf
        split at h
        · rename_i hcc
          obtain ⟨h2, h3, h4, h5⟩ := hcc
          cases h
          have hm := List.mem_of_find?_eq_some hf
          have he : f.1 = ix := Nat.eq_of_beq_eq_true (List.find?_some (p := fun q : Nat × Nat => Nat.beq q.1 ix) hf)
          obtain ⟨g1, g2, g3⟩ := TK.2.2.2.2.1 _ hm
          obtain ⟨f1, f2⟩ := f
          dsimp only at he g1 g2 g3
          subst he
          rw [hRm] at h4 h5
          exact xk_s_newq F g1 h2 h3 g2 g3 hd h4 h5 (kk _ List.mem_cons_self)
        · cases h
      · cases h
    · cases h
  · cases h
theorem xk_t_obj {T : xk_T} {X : xk_X} {pc len : Nat} {iv : xk_N} {lo : List (Nat × xk_V)} {st : List xk_V} {hp : List xk_C} {kc ks : Nat} {succs : List (Nat × xk_S)} {ix : Nat} (F : xk_Fx p s m args c D A own cc nL) (TK : xk_TOK own T) (GK : xk_GOK) (hX : X.1 = nL) (hI : X.2.1 = true → meth.name = "<init>") (hRm : X.2.2.1 = (R.frames, R.cells, R.slots, R.locals)) (SC : ∀ L, X.2.2.2.1 = some L → ∃ xs : Nat → Int32, va_X (b.1 - 1) L xs s s.heap ∧ b.1 - 1 < s.heap.size ∧ ¬ A (b.1 - 1) ∧ b.2.1 = (List.range L).map (fun j => (xs j).toInt)) (hd : decode cc pc = .ok (.invokespecial ix, len)) (h : xk_i_obj T X pc len ix iv lo st hp kc ks = some succs) (kk : ∀ q ∈ succs, xk_G p l e R s m args below meth c Q b nL D A q.1 q.2) : xk_G p l e R s m args below meth c Q b nL D A pc (iv, lo, st, hp, kc, ks) := by
  obtain ⟨hx, hb, hml, hown, hts, hK, hA⟩ := id F
  unfold xk_i_obj at h
  split at h
  · split at h
    · rename_i hcc
      obtain ⟨hl, h1, h2, h3, h4, h5⟩ := hcc
      subst hl
      cases h
      rw [hRm] at h4 h5
      have hm : ix ∈ T.2.2.2.2.2.1 := by rwa [List.contains_iff_mem] at h2
      exact xk_s_obj F h1 (TK.2.2.2.2.2.1 _ hm) GK.1 GK.2.1 hd h3 h4 h5 (kk _ List.mem_cons_self)
    · cases h
  · cases h
theorem xk_t_acopy {T : xk_T} {X : xk_X} {pc len : Nat} {iv : xk_N} {lo : List (Nat × xk_V)} {st : List xk_V} {hp : List xk_C} {kc ks : Nat} {succs : List (Nat × xk_S)} {ix : Nat} (F : xk_Fx p s m args c D A own cc nL) (TK : xk_TOK own T) (GK : xk_GOK) (hX : X.1 = nL) (hI : X.2.1 = true → meth.name = "<init>") (hRm : X.2.2.1 = (R.frames, R.cells, R.slots, R.locals)) (SC : ∀ L, X.2.2.2.1 = some L → ∃ xs : Nat → Int32, va_X (b.1 - 1) L xs s s.heap ∧ b.1 - 1 < s.heap.size ∧ ¬ A (b.1 - 1) ∧ b.2.1 = (List.range L).map (fun j => (xs j).toInt)) (hd : decode cc pc = .ok (.invokestatic ix, len)) (h : xk_i_acopy T X pc len ix iv lo st hp kc ks = some succs) (kk : ∀ q ∈ succs, xk_G p l e R s m args below meth c Q b nL D A q.1 q.2) : xk_G p l e R s m args below meth c Q b nL D A pc (iv, lo, st, hp, kc, ks) := by
  obtain ⟨hx, hb, hml, hown, hts, hK, hA⟩ := id F
  unfold xk_i_acopy at h
  split at h
  · split at h
    · rename_i hcc
      obtain ⟨hl, h2, h3, h4, h5⟩ := hcc
      subst hl
      rw [hRm] at h4 h5
      have hm : ix ∈ T.2.2.2.2.2.2.1 := by rwa [List.contains_iff_mem] at h2
      have hw : 8 + (nativeFrameWords "java/lang/System" "arraycopy" 5 + 11) ≤ 100 := by decide +kernel
      split at h
      · rename_i hc0 hc1
        split at h
        · rename_i hn
          obtain ⟨hn1, hn2⟩ := hn
          subst hn2
          cases h
          exact xk_s_acI F (TK.2.2.2.2.2.2.1 _ hm) GK.2.2.1 GK.2.2.2.1 GK.2.2.2.2.1 hd hn1 hc0 hc1 h3 h4 (Nat.le_trans hw h5) (kk _ List.mem_cons_self)
        · cases h
      · rename_i hc0 hc1
        split at h
        · rename_i hn
          obtain ⟨hn1, hn2⟩ := hn
          subst hn2
          cases h
          exact xk_s_acL F (TK.2.2.2.2.2.2.1 _ hm) GK.2.2.1 GK.2.2.2.1 GK.2.2.2.2.1 hd hn1 hc0 hc1 h3 h4 (Nat.le_trans hw h5) (kk _ List.mem_cons_self)
        · cases h
      · cases h
    · cases h
  · cases h
end XH

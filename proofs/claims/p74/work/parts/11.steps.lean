section XF
variable {p : Program} {l : Launch} {e : Env} {R : Room} {s : State} {m : MethodId} {args : Array Value} {below : List Frame} {meth : Method} {c : Code} {Q : State → Prop} {b : xk_b} {D : va_G} {A : Nat → Prop} {own : String} {cc : ByteArray} {nL : Nat} {pc : Nat} {iv iv' : xk_N} {lo : List (Nat × xk_V)} {st : List xk_V} {hp : List xk_C} {kc ks : Nat}
theorem xk_s_cmpA {a cv : xk_V} (ha : xk_isI a = true) (hc : xk_isI cv = true) {t1 t2 : Nat} (row : ∀ (H : Heap) (locs : List Loc) (cells slots : Nat) (ls : Array Slot) (rest : List Value) (x y : Int32), (x.toInt < y.toInt → W p l e R s m args below meth c H locs cells slots Q (F0 m t1 ls rest)) → (y.toInt ≤ x.toInt → W p l e R s m args below meth c H locs cells slots Q (F0 m t2 ls rest)) → W p l e R s m args below meth c H locs cells slots Q (F0 m pc ls (.int y :: .int x :: rest)))
    (k1 : ∀ iv1, xk_le iv a cv (-1) = some iv1 → xk_G p l e R s m args below meth c Q b nL D A t1 (iv1, lo, st, hp, kc, ks)) (k2 : ∀ iv1, xk_le iv cv a 0 = some iv1 → xk_G p l e R s m args below meth c Q b nL D A t2 (iv1, lo, st, hp, kc, ks)) : xk_G p l e R s m args below meth c Q b nL D A pc (iv, lo, cv :: a :: st, hp, kc, ks) := by
  intro env ad H locs ls sv h
  obtain ⟨y, r1, rfl, hy, h1⟩ := xk_popI h hc
  obtain ⟨x, r2, rfl, hx, h2⟩ := xk_popI h1 ha
  refine row _ _ _ _ _ _ x y (fun c1 => ?_) (fun c1 => ?_)
  · obtain ⟨iv1, e1, o1⟩ := xk_le_ok (k := -1) h.1 hx hy (by omega)
    exact k1 iv1 e1 _ _ _ _ _ _ (xk_bnd h2 o1)
  · obtain ⟨iv1, e1, o1⟩ := xk_le_ok (k := 0) h.1 hy hx (by omega)
    exact k2 iv1 e1 _ _ _ _ _ _ (xk_bnd h2 o1)
theorem xk_s_cmpB {a cv : xk_V} (ha : xk_isI a = true) (hc : xk_isI cv = true) {t1 t2 : Nat} (row : ∀ (H : Heap) (locs : List Loc) (cells slots : Nat) (ls : Array Slot) (rest : List Value) (x y : Int32), (y.toInt < x.toInt → W p l e R s m args below meth c H locs cells slots Q (F0 m t1 ls rest)) → (x.toInt ≤ y.toInt → W p l e R s m args below meth c H locs cells slots Q (F0 m t2 ls rest)) → W p l e R s m args below meth c H locs cells slots Q (F0 m pc ls (.int y :: .int x :: rest)))
    (k1 : ∀ iv1, xk_le iv cv a (-1) = some iv1 → xk_G p l e R s m args below meth c Q b nL D A t1 (iv1, lo, st, hp, kc, ks)) (k2 : ∀ iv1, xk_le iv a cv 0 = some iv1 → xk_G p l e R s m args below meth c Q b nL D A t2 (iv1, lo, st, hp, kc, ks)) : xk_G p l e R s m args below meth c Q b nL D A pc (iv, lo, cv :: a :: st, hp, kc, ks) := by
  intro env ad H locs ls sv h
  obtain ⟨y, r1, rfl, hy, h1⟩ := xk_popI h hc
  obtain ⟨x, r2, rfl, hx, h2⟩ := xk_popI h1 ha
  refine row _ _ _ _ _ _ x y (fun c1 => ?_) (fun c1 => ?_)
  · obtain ⟨iv1, e1, o1⟩ := xk_le_ok (k := -1) h.1 hy hx (by omega)
    exact k1 iv1 e1 _ _ _ _ _ _ (xk_bnd h2 o1)
  · obtain ⟨iv1, e1, o1⟩ := xk_le_ok (k := 0) h.1 hx hy (by omega)
    exact k2 iv1 e1 _ _ _ _ _ _ (xk_bnd h2 o1)
theorem xk_s_cmpA0 {a : xk_V} (ha : xk_isI a = true) {t1 t2 : Nat} (row : ∀ (H : Heap) (locs : List Loc) (cells slots : Nat) (ls : Array Slot) (rest : List Value) (x : Int32), (x.toInt < 0 → W p l e R s m args below meth c H locs cells slots Q (F0 m t1 ls rest)) → (0 ≤ x.toInt → W p l e R s m args below meth c H locs cells slots Q (F0 m t2 ls rest)) → W p l e R s m args below meth c H locs cells slots Q (F0 m pc ls (.int x :: rest)))
    (k1 : ∀ iv1, xk_le iv a (5, 0) (-1) = some iv1 → xk_G p l e R s m args below meth c Q b nL D A t1 (iv1, lo, st, hp, kc, ks)) (k2 : ∀ iv1, xk_le iv (5, 0) a 0 = some iv1 → xk_G p l e R s m args below meth c Q b nL D A t2 (iv1, lo, st, hp, kc, ks)) : xk_G p l e R s m args below meth c Q b nL D A pc (iv, lo, a :: st, hp, kc, ks) := by
  intro env ad H locs ls sv h
  obtain ⟨x, r2, rfl, hx, h2⟩ := xk_popI h ha
  have h0 : xk_n env (5, 0) 0 := rfl
  refine row _ _ _ _ _ _ x (fun c1 => ?_) (fun c1 => ?_)
  · obtain ⟨iv1, e1, o1⟩ := xk_le_ok (k := -1) h.1 hx h0 (by omega)
    exact k1 iv1 e1 _ _ _ _ _ _ (xk_bnd h2 o1)
  · obtain ⟨iv1, e1, o1⟩ := xk_le_ok (k := 0) h.1 h0 hx (by omega)
    exact k2 iv1 e1 _ _ _ _ _ _ (xk_bnd h2 o1)
theorem xk_s_cmpB0 {a : xk_V} (ha : xk_isI a = true) {t1 t2 : Nat} (row : ∀ (H : Heap) (locs : List Loc) (cells slots : Nat) (ls : Array Slot) (rest : List Value) (x : Int32), (0 < x.toInt → W p l e R s m args below meth c H locs cells slots Q (F0 m t1 ls rest)) → (x.toInt ≤ 0 → W p l e R s m args below meth c H locs cells slots Q (F0 m t2 ls rest)) → W p l e R s m args below meth c H locs cells slots Q (F0 m pc ls (.int x :: rest)))
    (k1 : ∀ iv1, xk_le iv (5, 0) a (-1) = some iv1 → xk_G p l e R s m args below meth c Q b nL D A t1 (iv1, lo, st, hp, kc, ks)) (k2 : ∀ iv1, xk_le iv a (5, 0) 0 = some iv1 → xk_G p l e R s m args below meth c Q b nL D A t2 (iv1, lo, st, hp, kc, ks)) : xk_G p l e R s m args below meth c Q b nL D A pc (iv, lo, a :: st, hp, kc, ks) := by
  intro env ad H locs ls sv h
  obtain ⟨x, r2, rfl, hx, h2⟩ := xk_popI h ha
  have h0 : xk_n env (5, 0) 0 := rfl
  refine row _ _ _ _ _ _ x (fun c1 => ?_) (fun c1 => ?_)
  · obtain ⟨iv1, e1, o1⟩ := xk_le_ok (k := -1) h.1 h0 hx (by omega)
    exact k1 iv1 e1 _ _ _ _ _ _ (xk_bnd h2 o1)
  · obtain ⟨iv1, e1, o1⟩ := xk_le_ok (k := 0) h.1 hx h0 (by omega)
    exact k2 iv1 e1 _ _ _ _ _ _ (xk_bnd h2 o1)
theorem xk_s_tsw (F : xk_Fx p s m args c D A own cc nL) {dflt tlo thi : Int} {offs : Array Int} {len dt : Nat} {a : xk_V} (ha : xk_isI a = true) (hd : decode cc pc = .ok (.tableswitch dflt tlo thi offs, len)) (hsz : (offs.size : Int) = thi - tlo + 1) (hdt : (pc : Int) + dflt = dt)
    (kin : ∀ (j : Nat) (off : Int) (iv1 : xk_N), offs[j]? = some off → xk_set iv a (xk_meet (xk_iv iv a) (tlo + j, tlo + j)) = some iv1 → ∃ tgt : Nat, (pc : Int) + off = tgt ∧ xk_G p l e R s m args below meth c Q b nL D A tgt (iv1, lo, st, hp, kc, ks))
    (k1 : ∀ iv1, xk_le iv a (5, tlo) (-1) = some iv1 → xk_G p l e R s m args below meth c Q b nL D A dt (iv1, lo, st, hp, kc, ks)) (k2 : ∀ iv1, xk_le iv (5, thi) a (-1) = some iv1 → xk_G p l e R s m args below meth c Q b nL D A dt (iv1, lo, st, hp, kc, ks)) : xk_G p l e R s m args below meth c Q b nL D A pc (iv, lo, a :: st, hp, kc, ks) := by
  intro env ad H locs ls sv h
  obtain ⟨x, r2, rfl, hx, h2⟩ := xk_popI h ha
  obtain ⟨hx0, hb, hml, hown, hts, hK, hA⟩ := F
  by_cases c1 : x.toInt < tlo
  · obtain ⟨iv1, e1, o1⟩ := xk_le_ok (c := (5, tlo)) (y := tlo) (k := -1) h.1 hx rfl (by omega)
    exact lv_tableOut hx0 hb hd (Or.inl c1) hdt (k1 iv1 e1 _ _ _ _ _ _ (xk_bnd h2 o1))
  · by_cases c2 : thi < x.toInt
    · obtain ⟨iv1, e1, o1⟩ := xk_le_ok (a := (5, thi)) (x := thi) (k := -1) h.1 rfl hx (by omega)
      exact lv_tableOut hx0 hb hd (Or.inr c2) hdt (k2 iv1 e1 _ _ _ _ _ _ (xk_bnd h2 o1))
    · have hj : (x.toInt - tlo).toNat < offs.size := by omega
      have hb1 := xk_iv_ok h.1 hx
      have hb2 : (xk_iv iv a).1 ≤ x.toInt := hb1.1
      have hb3 : x.toInt ≤ (xk_iv iv a).2 := hb1.2
      obtain ⟨iv1, e1, o1⟩ := xk_set_ok (I := xk_meet (xk_iv iv a) (tlo + ((x.toInt - tlo).toNat : Int), tlo + ((x.toInt - tlo).toNat : Int))) h.1 hx (by unfold xk_meet; show max _ _ ≤ _; omega) (by unfold xk_meet; show _ ≤ min _ _; omega)
      obtain ⟨tgt, ht, hG⟩ := kin (x.toInt - tlo).toNat offs[(x.toInt - tlo).toNat] iv1 (Array.getElem?_eq_getElem hj) e1
      exact lv_tableIn hx0 hb hd c1 c2 (Array.getElem?_eq_getElem hj) ht (hG _ _ _ _ _ _ (xk_bnd h2 o1))
end XF
/-- tables of a class: fields, ints, longs, objects made, arrays of objects made, Object's constructor, arraycopy -/
abbrev xk_T : Type := List (Nat × Nat × Nat × Nat) × List (Nat × Int) × List (Nat × Int) × List (Nat × Nat × List Nat) × List (Nat × Nat) × List Nat × List Nat × List (Nat × Nat)
/-- of a method: locals, whether a constructor, (frames, cells, slots, words), the script's length, where a load takes a number apart -/
abbrev xk_X : Type := Nat × Bool × (Nat × Nat × Nat × Nat) × Option Nat × List Nat
/-- Math's own: 100 max, 101 min, 102 max of longs -/
def xk_MW (own : String) (ix k : Nat) : Prop := Cond.initialized "java/lang/Math" ∈ xk_tb ∧ (match k with
  | 100 => Cond.methodLink own ix Lib.Math.max.name ∈ xk_tb ∧ Cond.static Lib.Math.max.name ∈ xk_tb ∧ Cond.code Lib.Math.max.name Lib.Math.max.code 2 (some .int) ∈ xk_tb
  | 101 => Cond.methodLink own ix Lib.Math.min.name ∈ xk_tb ∧ Cond.static Lib.Math.min.name ∈ xk_tb ∧ Cond.code Lib.Math.min.name Lib.Math.min.code 2 (some .int) ∈ xk_tb
  | 102 => Cond.methodLink own ix Lib.MathLoose.max_long.x ∈ xk_tb ∧ Cond.static Lib.MathLoose.max_long.x ∈ xk_tb ∧ Cond.code Lib.MathLoose.max_long.x Lib.MathLoose.max_long.code 4 (some .long) ∈ xk_tb
  | _ => False)
/-- a text's own: 200 its bytes, 201 its coder, 202 whether texts are compact -/
def xk_SW (own : String) (ix k : Nat) : Prop := match k with
  | 200 => Cond.fieldLink own ix "java/lang/String" "value" "[B" ∈ xk_tb
  | 201 => Cond.fieldLink own ix "java/lang/String" "coder" "B" ∈ xk_tb
  | 202 => Cond.fieldLink own ix "java/lang/String" "COMPACT_STRINGS" "Z" ∈ xk_tb
  | 203 => Cond.fieldLink own ix "jdk/internal/util/Preconditions" "SIOOBE_FORMATTER" "Ljava/util/function/BiFunction;" ∈ xk_tb
  | _ => False
def xk_TOK (own : String) (T : xk_T) : Prop := (∀ q ∈ T.1, xk_Fl own q) ∧ (∀ q ∈ T.2.1, Cond.constant own q.1 (Int32.ofInt q.2) ∈ xk_tb) ∧ (∀ q ∈ T.2.2.1, Cond.constantLong own q.1 (Int64.ofInt q.2) ∈ xk_tb) ∧ (∀ q ∈ T.2.2.2.1, xk_Nw own q) ∧ (∀ q ∈ T.2.2.2.2.1, (q.2 = 4 ∨ q.2 = 5) ∧ Cond.classLink own q.1 (if q.2 = 4 then "LieKitchen$Kitchen" else "LieKitchen$Slot") ∈ xk_tb ∧ Cond.arrayOver (xk_ty q.2) ∈ xk_tb) ∧ (∀ q ∈ T.2.2.2.2.2.1, Cond.methodLink own q objectInit ∈ xk_tb) ∧ (∀ q ∈ T.2.2.2.2.2.2.1, Cond.methodLink own q arraycopyName ∈ xk_tb) ∧ (∀ q ∈ T.2.2.2.2.2.2.2, (q.2 < 16 → own = "LieKitchen$Reader" ∧ xs_idx.getD q.2 0 = q.1) ∧ (16 ≤ q.2 ∧ q.2 < 200 → xk_MW own q.1 q.2) ∧ (200 ≤ q.2 → xk_SW own q.1 q.2))
/-- words that every class has -/
def xk_GOK : Prop := Cond.instanceMethod objectInit ∈ xk_tb ∧ Cond.code objectInit ⟨#[0xb1]⟩ 1 none ∈ xk_tb ∧ Cond.native arraycopyName ∈ xk_tb ∧ Cond.static arraycopyName ∈ xk_tb ∧ Cond.initialized "java/lang/System" ∈ xk_tb ∧ (∀ t, t < 4 → Cond.arrayClass (xk_ty t) ∈ xk_tb)
def xk_tgt (pc : Nat) (off : Int) : Option Nat := match (pc : Int) + off with
  | .ofNat t => some t
  | .negSucc _ => none
theorem xk_tgt_ok {pc t : Nat} {off : Int} (h : xk_tgt pc off = some t) : (pc : Int) + off = (t : Int) := by
  unfold xk_tgt at h
  split at h
  · rename_i t' e
    cases h
    exact e
  · cases h
def xk_opt (f : xk_N → Nat × xk_S) (x : Option (xk_N)) : List (Nat × xk_S) := match x with
  | some iv1 => [f iv1]
  | none => []
theorem xk_opt_mem {f : xk_N → Nat × xk_S} {x : Option (xk_N)} {iv1 : xk_N} (h : x = some iv1) : f iv1 ∈ xk_opt f x := by
  rw [h]; exact List.mem_cons_self
def xk_eq2 (iv : xk_N) (a c : xk_V) : Option (xk_N) := match xk_le iv a c 0 with
  | some iv1 => xk_le iv1 c a 0
  | none => none
theorem xk_eq2_of {iv iv1 iv2 : xk_N} {a c : xk_V} (h1 : xk_le iv a c 0 = some iv1) (h2 : xk_le iv1 c a 0 = some iv2) : xk_eq2 iv a c = some iv2 := by
  unfold xk_eq2; rw [h1]; exact h2
def xk_i_iconst (T : xk_T) (X : xk_X) (pc len : Nat) (n : Int) (iv : xk_N) (lo : List (Nat × xk_V)) (st : List xk_V) (hp : List xk_C) (kc ks : Nat) : Option (List (Nat × xk_S)) := if len = 1 then some [(pc + 1, (iv, lo, (5, (Int32.ofInt n).toInt) :: st, hp, kc, ks))] else none
def xk_i_bipush (T : xk_T) (X : xk_X) (pc len : Nat) (n : Int) (iv : xk_N) (lo : List (Nat × xk_V)) (st : List xk_V) (hp : List xk_C) (kc ks : Nat) : Option (List (Nat × xk_S)) := if len = 2 then some [(pc + 2, (iv, lo, (5, ((Int8.ofInt n).toInt32).toInt) :: st, hp, kc, ks))] else none
def xk_i_sipush (T : xk_T) (X : xk_X) (pc len : Nat) (n : Int) (iv : xk_N) (lo : List (Nat × xk_V)) (st : List xk_V) (hp : List xk_C) (kc ks : Nat) : Option (List (Nat × xk_S)) := if len = 3 then some [(pc + 3, (iv, lo, (5, ((Int16.ofInt n).toInt32).toInt) :: st, hp, kc, ks))] else none
def xk_i_lconst (T : xk_T) (X : xk_X) (pc len : Nat) (n : Fin 2) (iv : xk_N) (lo : List (Nat × xk_V)) (st : List xk_V) (hp : List xk_C) (kc ks : Nat) : Option (List (Nat × xk_S)) := if len = 1 then some [(pc + 1, (iv, lo, (6, (Int64.ofNat (n : Nat)).toInt) :: st, hp, kc, ks))] else none
def xk_i_ldc (T : xk_T) (X : xk_X) (pc len : Nat) (ix : Nat) (iv : xk_N) (lo : List (Nat × xk_V)) (st : List xk_V) (hp : List xk_C) (kc ks : Nat) : Option (List (Nat × xk_S)) := if len = 2 then (match T.2.1.find? (fun q => Nat.beq q.1 ix) with
  | some q => some [(pc + 2, (iv, lo, (5, (Int32.ofInt q.2).toInt) :: st, hp, kc, ks))]
  | none => none) else none
def xk_i_ldc_w (T : xk_T) (X : xk_X) (pc len : Nat) (ix : Nat) (iv : xk_N) (lo : List (Nat × xk_V)) (st : List xk_V) (hp : List xk_C) (kc ks : Nat) : Option (List (Nat × xk_S)) := if len = 3 then (match T.2.1.find? (fun q => Nat.beq q.1 ix) with
  | some q => some [(pc + 3, (iv, lo, (5, (Int32.ofInt q.2).toInt) :: st, hp, kc, ks))]
  | none => none) else none
def xk_i_ldc2_w (T : xk_T) (X : xk_X) (pc len : Nat) (ix : Nat) (iv : xk_N) (lo : List (Nat × xk_V)) (st : List xk_V) (hp : List xk_C) (kc ks : Nat) : Option (List (Nat × xk_S)) := if len = 3 then (match T.2.2.1.find? (fun q => Nat.beq q.1 ix) with
  | some q => some [(pc + 3, (iv, lo, (6, (Int64.ofInt q.2).toInt) :: st, hp, kc, ks))]
  | none => none) else none
def xk_i_iload_n (T : xk_T) (X : xk_X) (pc len : Nat) (n : Fin 4) (iv : xk_N) (lo : List (Nat × xk_V)) (st : List xk_V) (hp : List xk_C) (kc ks : Nat) : Option (List (Nat × xk_S)) := if len = 1 then (match xk_ov lo (n : Nat) with
  | some av => if xk_isI av then (if X.2.2.2.2.contains pc && !xk_isC av then (if (xk_iv iv av).2 < (xk_iv iv av).1 + 16 then some ((List.range 16).flatMap (fun j : Nat => if (xk_iv iv av).1 + j ≤ (xk_iv iv av).2 then xk_opt (fun iv1 => (pc, (iv1, ((n : Nat), (5, (xk_iv iv av).1 + j)) :: lo, st, hp, kc, ks))) (xk_set iv av ((xk_iv iv av).1 + j, (xk_iv iv av).1 + j)) else [])) else none) else some [(pc + 1, (iv, lo, av :: st, hp, kc, ks))]) else none
  | none => none) else none
def xk_i_iload (T : xk_T) (X : xk_X) (pc len : Nat) (n : Nat) (iv : xk_N) (lo : List (Nat × xk_V)) (st : List xk_V) (hp : List xk_C) (kc ks : Nat) : Option (List (Nat × xk_S)) := if len = 2 then (match xk_ov lo n with
  | some av => if xk_isI av then (if X.2.2.2.2.contains pc && !xk_isC av then (if (xk_iv iv av).2 < (xk_iv iv av).1 + 16 then some ((List.range 16).flatMap (fun j : Nat => if (xk_iv iv av).1 + j ≤ (xk_iv iv av).2 then xk_opt (fun iv1 => (pc, (iv1, (n, (5, (xk_iv iv av).1 + j)) :: lo, st, hp, kc, ks))) (xk_set iv av ((xk_iv iv av).1 + j, (xk_iv iv av).1 + j)) else [])) else none) else some [(pc + 2, (iv, lo, av :: st, hp, kc, ks))]) else none
  | none => none) else none
def xk_i_lload_n (T : xk_T) (X : xk_X) (pc len : Nat) (n : Fin 4) (iv : xk_N) (lo : List (Nat × xk_V)) (st : List xk_V) (hp : List xk_C) (kc ks : Nat) : Option (List (Nat × xk_S)) := if len = 1 then (match xk_ov lo (n : Nat) with
  | some av => if xk_isL av then some [(pc + 1, (iv, lo, av :: st, hp, kc, ks))] else none
  | none => none) else none
def xk_i_lload (T : xk_T) (X : xk_X) (pc len : Nat) (n : Nat) (iv : xk_N) (lo : List (Nat × xk_V)) (st : List xk_V) (hp : List xk_C) (kc ks : Nat) : Option (List (Nat × xk_S)) := if len = 2 then (match xk_ov lo n with
  | some av => if xk_isL av then some [(pc + 2, (iv, lo, av :: st, hp, kc, ks))] else none
  | none => none) else none
def xk_i_aload_n (T : xk_T) (X : xk_X) (pc len : Nat) (n : Fin 4) (iv : xk_N) (lo : List (Nat × xk_V)) (st : List xk_V) (hp : List xk_C) (kc ks : Nat) : Option (List (Nat × xk_S)) := if len = 1 then (match xk_ov lo (n : Nat) with
  | some av => if xk_isR av then some [(pc + 1, (iv, lo, av :: st, hp, kc, ks))] else none
  | none => none) else none
def xk_i_aload (T : xk_T) (X : xk_X) (pc len : Nat) (n : Nat) (iv : xk_N) (lo : List (Nat × xk_V)) (st : List xk_V) (hp : List xk_C) (kc ks : Nat) : Option (List (Nat × xk_S)) := if len = 2 then (match xk_ov lo n with
  | some av => if xk_isR av then some [(pc + 2, (iv, lo, av :: st, hp, kc, ks))] else none
  | none => none) else none
def xk_i_istore_n (T : xk_T) (X : xk_X) (pc len : Nat) (n : Fin 4) (iv : xk_N) (lo : List (Nat × xk_V)) (st : List xk_V) (hp : List xk_C) (kc ks : Nat) : Option (List (Nat × xk_S)) := match st with
  | av :: st => if len = 1 ∧ xk_isI av = true ∧ (n : Nat) < X.1 then some [(pc + 1, (iv, ((n : Nat), av) :: lo.filter (xk_f1 (n : Nat)), st, hp, kc, ks))] else none
  | _ => none
def xk_i_istore (T : xk_T) (X : xk_X) (pc len : Nat) (n : Nat) (iv : xk_N) (lo : List (Nat × xk_V)) (st : List xk_V) (hp : List xk_C) (kc ks : Nat) : Option (List (Nat × xk_S)) := match st with
  | av :: st => if len = 2 ∧ xk_isI av = true ∧ n < X.1 then some [(pc + 2, (iv, (n, av) :: lo.filter (xk_f1 n), st, hp, kc, ks))] else none
  | _ => none
def xk_i_lstore_n (T : xk_T) (X : xk_X) (pc len : Nat) (n : Fin 4) (iv : xk_N) (lo : List (Nat × xk_V)) (st : List xk_V) (hp : List xk_C) (kc ks : Nat) : Option (List (Nat × xk_S)) := match st with
  | av :: st => if len = 1 ∧ xk_isL av = true ∧ (n : Nat) + 1 < X.1 then some [(pc + 1, (iv, ((n : Nat), av) :: lo.filter (xk_f2 (n : Nat)), st, hp, kc, ks))] else none
  | _ => none
def xk_i_lstore (T : xk_T) (X : xk_X) (pc len : Nat) (n : Nat) (iv : xk_N) (lo : List (Nat × xk_V)) (st : List xk_V) (hp : List xk_C) (kc ks : Nat) : Option (List (Nat × xk_S)) := match st with
  | av :: st => if len = 2 ∧ xk_isL av = true ∧ n + 1 < X.1 then some [(pc + 2, (iv, (n, av) :: lo.filter (xk_f2 n), st, hp, kc, ks))] else none
  | _ => none
def xk_i_astore_n (T : xk_T) (X : xk_X) (pc len : Nat) (n : Fin 4) (iv : xk_N) (lo : List (Nat × xk_V)) (st : List xk_V) (hp : List xk_C) (kc ks : Nat) : Option (List (Nat × xk_S)) := match st with
  | av :: st => if len = 1 ∧ xk_isR av = true ∧ (n : Nat) < X.1 then some [(pc + 1, (iv, ((n : Nat), av) :: lo.filter (xk_f1 (n : Nat)), st, hp, kc, ks))] else none
  | _ => none
def xk_i_astore (T : xk_T) (X : xk_X) (pc len : Nat) (n : Nat) (iv : xk_N) (lo : List (Nat × xk_V)) (st : List xk_V) (hp : List xk_C) (kc ks : Nat) : Option (List (Nat × xk_S)) := match st with
  | av :: st => if len = 2 ∧ xk_isR av = true ∧ n < X.1 then some [(pc + 2, (iv, (n, av) :: lo.filter (xk_f1 n), st, hp, kc, ks))] else none
  | _ => none
def xk_i_iinc (T : xk_T) (X : xk_X) (pc len : Nat) (n : Nat) (c0 : Int) (iv : xk_N) (lo : List (Nat × xk_V)) (st : List xk_V) (hp : List xk_C) (kc ks : Nat) : Option (List (Nat × xk_S)) := match xk_ov lo n with
  | some av => if len = 3 ∧ xk_isI av = true ∧ n < X.1 then some [(pc + 3, ((xk_nr iv (xk_op (fun x y => x + y) xk_radd (xk_iv iv av) ((Int32.ofInt c0).toInt, (Int32.ofInt c0).toInt)) av (5, (Int32.ofInt c0).toInt) (xk_gadd (xk_iv iv av) ((Int32.ofInt c0).toInt, (Int32.ofInt c0).toInt))).1, (n, (xk_nr iv (xk_op (fun x y => x + y) xk_radd (xk_iv iv av) ((Int32.ofInt c0).toInt, (Int32.ofInt c0).toInt)) av (5, (Int32.ofInt c0).toInt) (xk_gadd (xk_iv iv av) ((Int32.ofInt c0).toInt, (Int32.ofInt c0).toInt))).2) :: lo.filter (xk_f1 n), st, hp, kc, ks))] else none
  | none => none
def xk_i_iadd (T : xk_T) (X : xk_X) (pc len : Nat)  (iv : xk_N) (lo : List (Nat × xk_V)) (st : List xk_V) (hp : List xk_C) (kc ks : Nat) : Option (List (Nat × xk_S)) := match st with
  | cv :: a :: st => if len = 1 ∧ xk_isI a = true ∧ xk_isI cv = true then some [(pc + 1, ((xk_nr iv (xk_op (fun x y => x + y) xk_radd (xk_iv iv a) (xk_iv iv cv)) a cv (xk_gadd (xk_iv iv a) (xk_iv iv cv))).1, lo, (xk_nr iv (xk_op (fun x y => x + y) xk_radd (xk_iv iv a) (xk_iv iv cv)) a cv (xk_gadd (xk_iv iv a) (xk_iv iv cv))).2 :: st, hp, kc, ks))] else none
  | _ => none
def xk_i_isub (T : xk_T) (X : xk_X) (pc len : Nat)  (iv : xk_N) (lo : List (Nat × xk_V)) (st : List xk_V) (hp : List xk_C) (kc ks : Nat) : Option (List (Nat × xk_S)) := match st with
  | cv :: a :: st => if len = 1 ∧ xk_isI a = true ∧ xk_isI cv = true then some [(pc + 1, ((xk_nr iv (xk_op (fun x y => x - y) xk_rsub (xk_iv iv a) (xk_iv iv cv)) a cv (xk_gsub (xk_iv iv a) (xk_iv iv cv))).1, lo, (xk_nr iv (xk_op (fun x y => x - y) xk_rsub (xk_iv iv a) (xk_iv iv cv)) a cv (xk_gsub (xk_iv iv a) (xk_iv iv cv))).2 :: st, hp, kc, ks))] else none
  | _ => none
def xk_i_imul (T : xk_T) (X : xk_X) (pc len : Nat)  (iv : xk_N) (lo : List (Nat × xk_V)) (st : List xk_V) (hp : List xk_C) (kc ks : Nat) : Option (List (Nat × xk_S)) := match st with
  | cv :: a :: st => if len = 1 ∧ xk_isI a = true ∧ xk_isI cv = true then some [(pc + 1, ((xk_nr iv (xk_op (fun x y => x * y) xk_rmul (xk_iv iv a) (xk_iv iv cv)) a cv (xk_gno (xk_iv iv a) (xk_iv iv cv))).1, lo, (xk_nr iv (xk_op (fun x y => x * y) xk_rmul (xk_iv iv a) (xk_iv iv cv)) a cv (xk_gno (xk_iv iv a) (xk_iv iv cv))).2 :: st, hp, kc, ks))] else none
  | _ => none
def xk_i_iand (T : xk_T) (X : xk_X) (pc len : Nat)  (iv : xk_N) (lo : List (Nat × xk_V)) (st : List xk_V) (hp : List xk_C) (kc ks : Nat) : Option (List (Nat × xk_S)) := match st with
  | cv :: a :: st => if len = 1 ∧ xk_isI a = true ∧ xk_isI cv = true then some [(pc + 1, ((xk_nr iv (xk_op (fun x y => x &&& y) xk_rand (xk_iv iv a) (xk_iv iv cv)) a cv (xk_gand (xk_iv iv a) (xk_iv iv cv))).1, lo, (xk_nr iv (xk_op (fun x y => x &&& y) xk_rand (xk_iv iv a) (xk_iv iv cv)) a cv (xk_gand (xk_iv iv a) (xk_iv iv cv))).2 :: st, hp, kc, ks))] else none
  | _ => none
def xk_i_ior (T : xk_T) (X : xk_X) (pc len : Nat)  (iv : xk_N) (lo : List (Nat × xk_V)) (st : List xk_V) (hp : List xk_C) (kc ks : Nat) : Option (List (Nat × xk_S)) := match st with
  | cv :: a :: st => if len = 1 ∧ xk_isI a = true ∧ xk_isI cv = true then some [(pc + 1, ((xk_nr iv (xk_op (fun x y => x ||| y) xk_ror (xk_iv iv a) (xk_iv iv cv)) a cv (xk_gno (xk_iv iv a) (xk_iv iv cv))).1, lo, (xk_nr iv (xk_op (fun x y => x ||| y) xk_ror (xk_iv iv a) (xk_iv iv cv)) a cv (xk_gno (xk_iv iv a) (xk_iv iv cv))).2 :: st, hp, kc, ks))] else none
  | _ => none
def xk_i_ixor (T : xk_T) (X : xk_X) (pc len : Nat)  (iv : xk_N) (lo : List (Nat × xk_V)) (st : List xk_V) (hp : List xk_C) (kc ks : Nat) : Option (List (Nat × xk_S)) := match st with
  | cv :: a :: st => if len = 1 ∧ xk_isI a = true ∧ xk_isI cv = true then some [(pc + 1, ((xk_nr iv (xk_op (fun x y => x ^^^ y) xk_ror (xk_iv iv a) (xk_iv iv cv)) a cv (xk_gno (xk_iv iv a) (xk_iv iv cv))).1, lo, (xk_nr iv (xk_op (fun x y => x ^^^ y) xk_ror (xk_iv iv a) (xk_iv iv cv)) a cv (xk_gno (xk_iv iv a) (xk_iv iv cv))).2 :: st, hp, kc, ks))] else none
  | _ => none
def xk_i_ishl (T : xk_T) (X : xk_X) (pc len : Nat)  (iv : xk_N) (lo : List (Nat × xk_V)) (st : List xk_V) (hp : List xk_C) (kc ks : Nat) : Option (List (Nat × xk_S)) := match st with
  | cv :: a :: st => if len = 1 ∧ xk_isI a = true ∧ xk_isI cv = true then some [(pc + 1, ((xk_nr iv (xk_op (fun x y => x <<< (y &&& 31)) xk_rshl (xk_iv iv a) (xk_iv iv cv)) a cv (xk_gshl (xk_iv iv a) (xk_iv iv cv))).1, lo, (xk_nr iv (xk_op (fun x y => x <<< (y &&& 31)) xk_rshl (xk_iv iv a) (xk_iv iv cv)) a cv (xk_gshl (xk_iv iv a) (xk_iv iv cv))).2 :: st, hp, kc, ks))] else none
  | _ => none
def xk_i_ishr (T : xk_T) (X : xk_X) (pc len : Nat)  (iv : xk_N) (lo : List (Nat × xk_V)) (st : List xk_V) (hp : List xk_C) (kc ks : Nat) : Option (List (Nat × xk_S)) := match st with
  | cv :: a :: st => if len = 1 ∧ xk_isI a = true ∧ xk_isI cv = true then some [(pc + 1, ((xk_nr iv (xk_op (fun x y => x >>> (y &&& 31)) xk_rshr (xk_iv iv a) (xk_iv iv cv)) a cv (xk_gshr (xk_iv iv a) (xk_iv iv cv))).1, lo, (xk_nr iv (xk_op (fun x y => x >>> (y &&& 31)) xk_rshr (xk_iv iv a) (xk_iv iv cv)) a cv (xk_gshr (xk_iv iv a) (xk_iv iv cv))).2 :: st, hp, kc, ks))] else none
  | _ => none
def xk_i_iushr (T : xk_T) (X : xk_X) (pc len : Nat)  (iv : xk_N) (lo : List (Nat × xk_V)) (st : List xk_V) (hp : List xk_C) (kc ks : Nat) : Option (List (Nat × xk_S)) := match st with
  | cv :: a :: st => if len = 1 ∧ xk_isI a = true ∧ xk_isI cv = true then some [(pc + 1, ((xk_nr iv (xk_op (fun x y => (x.toUInt32 >>> (y.toUInt32 &&& Int32.toUInt32 31)).toInt32) xk_rushr (xk_iv iv a) (xk_iv iv cv)) a cv (xk_gno (xk_iv iv a) (xk_iv iv cv))).1, lo, (xk_nr iv (xk_op (fun x y => (x.toUInt32 >>> (y.toUInt32 &&& Int32.toUInt32 31)).toInt32) xk_rushr (xk_iv iv a) (xk_iv iv cv)) a cv (xk_gno (xk_iv iv a) (xk_iv iv cv))).2 :: st, hp, kc, ks))] else none
  | _ => none
def xk_i_idiv (T : xk_T) (X : xk_X) (pc len : Nat)  (iv : xk_N) (lo : List (Nat × xk_V)) (st : List xk_V) (hp : List xk_C) (kc ks : Nat) : Option (List (Nat × xk_S)) := match st with
  | cv :: a :: st => if len = 1 ∧ xk_isI a = true ∧ xk_isI cv = true ∧ (0 < (xk_iv iv cv).1 ∨ (xk_iv iv cv).2 < 0) then some [(pc + 1, ((xk_nr iv (xk_op (fun x y => x / y) xk_rdiv (xk_iv iv a) (xk_iv iv cv)) a cv (xk_gdiv (xk_iv iv a) (xk_iv iv cv))).1, lo, (xk_nr iv (xk_op (fun x y => x / y) xk_rdiv (xk_iv iv a) (xk_iv iv cv)) a cv (xk_gdiv (xk_iv iv a) (xk_iv iv cv))).2 :: st, hp, kc, ks))] else none
  | _ => none
def xk_i_irem (T : xk_T) (X : xk_X) (pc len : Nat)  (iv : xk_N) (lo : List (Nat × xk_V)) (st : List xk_V) (hp : List xk_C) (kc ks : Nat) : Option (List (Nat × xk_S)) := match st with
  | cv :: a :: st => if len = 1 ∧ xk_isI a = true ∧ xk_isI cv = true ∧ (0 < (xk_iv iv cv).1 ∨ (xk_iv iv cv).2 < 0) then some [(pc + 1, ((xk_nr iv (xk_op (fun x y => x - x / y * y) xk_rrem (xk_iv iv a) (xk_iv iv cv)) a cv (xk_grem (xk_iv iv a) (xk_iv iv cv))).1, lo, (xk_nr iv (xk_op (fun x y => x - x / y * y) xk_rrem (xk_iv iv a) (xk_iv iv cv)) a cv (xk_grem (xk_iv iv a) (xk_iv iv cv))).2 :: st, hp, kc, ks))] else none
  | _ => none
def xk_i_ladd (T : xk_T) (X : xk_X) (pc len : Nat)  (iv : xk_N) (lo : List (Nat × xk_V)) (st : List xk_V) (hp : List xk_C) (kc ks : Nat) : Option (List (Nat × xk_S)) := match st with
  | cv :: a :: st => if len = 1 ∧ xk_isL a = true ∧ xk_isL cv = true then some [(pc + 1, ((xk_new 1 iv (xk_opL (fun x y => x + y) xk_raddL (xk_iv iv a) (xk_iv iv cv))).1, lo, (xk_new 1 iv (xk_opL (fun x y => x + y) xk_raddL (xk_iv iv a) (xk_iv iv cv))).2 :: st, hp, kc, ks))] else none
  | _ => none
def xk_i_lsub (T : xk_T) (X : xk_X) (pc len : Nat)  (iv : xk_N) (lo : List (Nat × xk_V)) (st : List xk_V) (hp : List xk_C) (kc ks : Nat) : Option (List (Nat × xk_S)) := match st with
  | cv :: a :: st => if len = 1 ∧ xk_isL a = true ∧ xk_isL cv = true then some [(pc + 1, ((xk_new 1 iv (xk_opL (fun x y => x - y) xk_rsubL (xk_iv iv a) (xk_iv iv cv))).1, lo, (xk_new 1 iv (xk_opL (fun x y => x - y) xk_rsubL (xk_iv iv a) (xk_iv iv cv))).2 :: st, hp, kc, ks))] else none
  | _ => none
def xk_i_lmul (T : xk_T) (X : xk_X) (pc len : Nat)  (iv : xk_N) (lo : List (Nat × xk_V)) (st : List xk_V) (hp : List xk_C) (kc ks : Nat) : Option (List (Nat × xk_S)) := match st with
  | cv :: a :: st => if len = 1 ∧ xk_isL a = true ∧ xk_isL cv = true then some [(pc + 1, ((xk_new 1 iv (xk_opL (fun x y => x * y) xk_anL (xk_iv iv a) (xk_iv iv cv))).1, lo, (xk_new 1 iv (xk_opL (fun x y => x * y) xk_anL (xk_iv iv a) (xk_iv iv cv))).2 :: st, hp, kc, ks))] else none
  | _ => none
def xk_i_land (T : xk_T) (X : xk_X) (pc len : Nat)  (iv : xk_N) (lo : List (Nat × xk_V)) (st : List xk_V) (hp : List xk_C) (kc ks : Nat) : Option (List (Nat × xk_S)) := match st with
  | cv :: a :: st => if len = 1 ∧ xk_isL a = true ∧ xk_isL cv = true then some [(pc + 1, ((xk_new 1 iv (xk_opL (fun x y => x &&& y) xk_anL (xk_iv iv a) (xk_iv iv cv))).1, lo, (xk_new 1 iv (xk_opL (fun x y => x &&& y) xk_anL (xk_iv iv a) (xk_iv iv cv))).2 :: st, hp, kc, ks))] else none
  | _ => none
def xk_i_lor (T : xk_T) (X : xk_X) (pc len : Nat)  (iv : xk_N) (lo : List (Nat × xk_V)) (st : List xk_V) (hp : List xk_C) (kc ks : Nat) : Option (List (Nat × xk_S)) := match st with
  | cv :: a :: st => if len = 1 ∧ xk_isL a = true ∧ xk_isL cv = true then some [(pc + 1, ((xk_new 1 iv (xk_opL (fun x y => x ||| y) xk_anL (xk_iv iv a) (xk_iv iv cv))).1, lo, (xk_new 1 iv (xk_opL (fun x y => x ||| y) xk_anL (xk_iv iv a) (xk_iv iv cv))).2 :: st, hp, kc, ks))] else none
  | _ => none
def xk_i_ldiv (T : xk_T) (X : xk_X) (pc len : Nat)  (iv : xk_N) (lo : List (Nat × xk_V)) (st : List xk_V) (hp : List xk_C) (kc ks : Nat) : Option (List (Nat × xk_S)) := match st with
  | cv :: a :: st => if len = 1 ∧ xk_isL a = true ∧ xk_isL cv = true ∧ (0 < (xk_iv iv cv).1 ∨ (xk_iv iv cv).2 < 0) then some [(pc + 1, ((xk_new 1 iv (xk_opL (fun x y => x / y) xk_anL (xk_iv iv a) (xk_iv iv cv))).1, lo, (xk_new 1 iv (xk_opL (fun x y => x / y) xk_anL (xk_iv iv a) (xk_iv iv cv))).2 :: st, hp, kc, ks))] else none
  | _ => none
def xk_i_lrem (T : xk_T) (X : xk_X) (pc len : Nat)  (iv : xk_N) (lo : List (Nat × xk_V)) (st : List xk_V) (hp : List xk_C) (kc ks : Nat) : Option (List (Nat × xk_S)) := match st with
  | cv :: a :: st => if len = 1 ∧ xk_isL a = true ∧ xk_isL cv = true ∧ (0 < (xk_iv iv cv).1 ∨ (xk_iv iv cv).2 < 0) then some [(pc + 1, ((xk_new 1 iv (xk_opL (fun x y => x - x / y * y) xk_anL (xk_iv iv a) (xk_iv iv cv))).1, lo, (xk_new 1 iv (xk_opL (fun x y => x - x / y * y) xk_anL (xk_iv iv a) (xk_iv iv cv))).2 :: st, hp, kc, ks))] else none
  | _ => none
def xk_i_lshl (T : xk_T) (X : xk_X) (pc len : Nat)  (iv : xk_N) (lo : List (Nat × xk_V)) (st : List xk_V) (hp : List xk_C) (kc ks : Nat) : Option (List (Nat × xk_S)) := match st with
  | cv :: a :: st => if len = 1 ∧ xk_isL a = true ∧ xk_isI cv = true then some [(pc + 1, ((xk_new 1 iv (xk_opS (fun x y => x <<< (y.toInt64 &&& 63)) (xk_iv iv a) (xk_iv iv cv))).1, lo, (xk_new 1 iv (xk_opS (fun x y => x <<< (y.toInt64 &&& 63)) (xk_iv iv a) (xk_iv iv cv))).2 :: st, hp, kc, ks))] else none
  | _ => none
def xk_i_lushr (T : xk_T) (X : xk_X) (pc len : Nat)  (iv : xk_N) (lo : List (Nat × xk_V)) (st : List xk_V) (hp : List xk_C) (kc ks : Nat) : Option (List (Nat × xk_S)) := match st with
  | cv :: a :: st => if len = 1 ∧ xk_isL a = true ∧ xk_isI cv = true then some [(pc + 1, ((xk_new 1 iv (xk_opS (fun x y => (x.toUInt64 >>> (y.toInt64.toUInt64 &&& Int64.toUInt64 63)).toInt64) (xk_iv iv a) (xk_iv iv cv))).1, lo, (xk_new 1 iv (xk_opS (fun x y => (x.toUInt64 >>> (y.toInt64.toUInt64 &&& Int64.toUInt64 63)).toInt64) (xk_iv iv a) (xk_iv iv cv))).2 :: st, hp, kc, ks))] else none
  | _ => none
def xk_i_i2b (T : xk_T) (X : xk_X) (pc len : Nat)  (iv : xk_N) (lo : List (Nat × xk_V)) (st : List xk_V) (hp : List xk_C) (kc ks : Nat) : Option (List (Nat × xk_S)) := match st with
  | a :: st => if len = 1 ∧ xk_isI a = true then some [(pc + 1, ((xk_new 0 iv (xk_op1 (fun x => x.toInt8.toInt32) xk_full (xk_iv iv a))).1, lo, (xk_new 0 iv (xk_op1 (fun x => x.toInt8.toInt32) xk_full (xk_iv iv a))).2 :: st, hp, kc, ks))] else none
  | _ => none
def xk_i_i2s (T : xk_T) (X : xk_X) (pc len : Nat)  (iv : xk_N) (lo : List (Nat × xk_V)) (st : List xk_V) (hp : List xk_C) (kc ks : Nat) : Option (List (Nat × xk_S)) := match st with
  | a :: st => if len = 1 ∧ xk_isI a = true then some [(pc + 1, ((xk_new 0 iv (xk_op1 (fun x => x.toInt16.toInt32) xk_full (xk_iv iv a))).1, lo, (xk_new 0 iv (xk_op1 (fun x => x.toInt16.toInt32) xk_full (xk_iv iv a))).2 :: st, hp, kc, ks))] else none
  | _ => none
def xk_i_i2l (T : xk_T) (X : xk_X) (pc len : Nat)  (iv : xk_N) (lo : List (Nat × xk_V)) (st : List xk_V) (hp : List xk_C) (kc ks : Nat) : Option (List (Nat × xk_S)) := match st with
  | a :: st => if len = 1 ∧ xk_isI a = true then some [(pc + 1, (iv, lo, (a.1 + 1, a.2) :: st, hp, kc, ks))] else none
  | _ => none
def xk_i_l2i (T : xk_T) (X : xk_X) (pc len : Nat)  (iv : xk_N) (lo : List (Nat × xk_V)) (st : List xk_V) (hp : List xk_C) (kc ks : Nat) : Option (List (Nat × xk_S)) := match st with
  | a :: st => if len = 1 ∧ xk_isL a = true then some [(pc + 1, ((xk_new 0 iv (xk_op2 (xk_iv iv a))).1, lo, (xk_new 0 iv (xk_op2 (xk_iv iv a))).2 :: st, hp, kc, ks))] else none
  | _ => none
def xk_i_lcmp (T : xk_T) (X : xk_X) (pc len : Nat)  (iv : xk_N) (lo : List (Nat × xk_V)) (st : List xk_V) (hp : List xk_C) (kc ks : Nat) : Option (List (Nat × xk_S)) := match st with
  | cv :: a :: st => if len = 1 ∧ xk_isL a = true ∧ xk_isL cv = true then some (xk_opt (fun iv1 => (pc + 1, (iv1, lo, (5, -1) :: st, hp, kc, ks))) (xk_le iv a cv (-1)) ++ (xk_opt (fun iv1 => (pc + 1, (iv1, lo, (5, 0) :: st, hp, kc, ks))) (xk_eq2 iv a cv) ++ xk_opt (fun iv1 => (pc + 1, (iv1, lo, (5, 1) :: st, hp, kc, ks))) (xk_le iv cv a (-1)))) else none
  | _ => none
def xk_i_dup (T : xk_T) (X : xk_X) (pc len : Nat)  (iv : xk_N) (lo : List (Nat × xk_V)) (st : List xk_V) (hp : List xk_C) (kc ks : Nat) : Option (List (Nat × xk_S)) := match st with
  | a :: st => if len = 1 ∧ xk_cat a = 1 then some [(pc + 1, (iv, lo, a :: a :: st, hp, kc, ks))] else none
  | _ => none
def xk_i_pop (T : xk_T) (X : xk_X) (pc len : Nat)  (iv : xk_N) (lo : List (Nat × xk_V)) (st : List xk_V) (hp : List xk_C) (kc ks : Nat) : Option (List (Nat × xk_S)) := match st with
  | a :: st => if len = 1 ∧ xk_cat a = 1 then some [(pc + 1, (iv, lo, st, hp, kc, ks))] else none
  | _ => none
def xk_i_dup2 (T : xk_T) (X : xk_X) (pc len : Nat)  (iv : xk_N) (lo : List (Nat × xk_V)) (st : List xk_V) (hp : List xk_C) (kc ks : Nat) : Option (List (Nat × xk_S)) := match st with
  | a :: a2 :: st => if len = 1 ∧ xk_cat a = 1 ∧ xk_cat a2 = 1 then some [(pc + 1, (iv, lo, a :: a2 :: a :: a2 :: st, hp, kc, ks))] else none
  | _ => none
def xk_i_goto (T : xk_T) (X : xk_X) (pc len : Nat) (off : Int) (iv : xk_N) (lo : List (Nat × xk_V)) (st : List xk_V) (hp : List xk_C) (kc ks : Nat) : Option (List (Nat × xk_S)) := if len = 3 then (match xk_tgt pc off with
  | some t => some [(t, (iv, lo, st, hp, kc, ks))]
  | none => none) else none
def xk_i_icmp_lt (T : xk_T) (X : xk_X) (pc len : Nat) (off : Int) (iv : xk_N) (lo : List (Nat × xk_V)) (st : List xk_V) (hp : List xk_C) (kc ks : Nat) : Option (List (Nat × xk_S)) := match st with
  | cv :: a :: st => if len = 3 ∧ xk_isI a = true ∧ xk_isI cv = true then (match xk_tgt pc off with
    | some t => some (xk_opt (fun iv1 => (t, (iv1, lo, st, hp, kc, ks))) (xk_le iv a cv (-1)) ++ xk_opt (fun iv1 => (pc + 3, (iv1, lo, st, hp, kc, ks))) (xk_le iv cv a 0))
    | none => none) else none
  | _ => none
def xk_i_if_lt (T : xk_T) (X : xk_X) (pc len : Nat) (off : Int) (iv : xk_N) (lo : List (Nat × xk_V)) (st : List xk_V) (hp : List xk_C) (kc ks : Nat) : Option (List (Nat × xk_S)) := match st with
  | a :: st => if len = 3 ∧ xk_isI a = true then (match xk_tgt pc off with
    | some t => some (xk_opt (fun iv1 => (t, (iv1, lo, st, hp, kc, ks))) (xk_le iv a (5, 0) (-1)) ++ xk_opt (fun iv1 => (pc + 3, (iv1, lo, st, hp, kc, ks))) (xk_le iv (5, 0) a 0))
    | none => none) else none
  | _ => none
def xk_i_icmp_ge (T : xk_T) (X : xk_X) (pc len : Nat) (off : Int) (iv : xk_N) (lo : List (Nat × xk_V)) (st : List xk_V) (hp : List xk_C) (kc ks : Nat) : Option (List (Nat × xk_S)) := match st with
  | cv :: a :: st => if len = 3 ∧ xk_isI a = true ∧ xk_isI cv = true then (match xk_tgt pc off with
    | some t => some (xk_opt (fun iv1 => (pc + 3, (iv1, lo, st, hp, kc, ks))) (xk_le iv a cv (-1)) ++ xk_opt (fun iv1 => (t, (iv1, lo, st, hp, kc, ks))) (xk_le iv cv a 0))
    | none => none) else none
  | _ => none
def xk_i_if_ge (T : xk_T) (X : xk_X) (pc len : Nat) (off : Int) (iv : xk_N) (lo : List (Nat × xk_V)) (st : List xk_V) (hp : List xk_C) (kc ks : Nat) : Option (List (Nat × xk_S)) := match st with
  | a :: st => if len = 3 ∧ xk_isI a = true then (match xk_tgt pc off with
    | some t => some (xk_opt (fun iv1 => (pc + 3, (iv1, lo, st, hp, kc, ks))) (xk_le iv a (5, 0) (-1)) ++ xk_opt (fun iv1 => (t, (iv1, lo, st, hp, kc, ks))) (xk_le iv (5, 0) a 0))
    | none => none) else none
  | _ => none
def xk_i_icmp_gt (T : xk_T) (X : xk_X) (pc len : Nat) (off : Int) (iv : xk_N) (lo : List (Nat × xk_V)) (st : List xk_V) (hp : List xk_C) (kc ks : Nat) : Option (List (Nat × xk_S)) := match st with
  | cv :: a :: st => if len = 3 ∧ xk_isI a = true ∧ xk_isI cv = true then (match xk_tgt pc off with
    | some t => some (xk_opt (fun iv1 => (t, (iv1, lo, st, hp, kc, ks))) (xk_le iv cv a (-1)) ++ xk_opt (fun iv1 => (pc + 3, (iv1, lo, st, hp, kc, ks))) (xk_le iv a cv 0))
    | none => none) else none
  | _ => none
def xk_i_if_gt (T : xk_T) (X : xk_X) (pc len : Nat) (off : Int) (iv : xk_N) (lo : List (Nat × xk_V)) (st : List xk_V) (hp : List xk_C) (kc ks : Nat) : Option (List (Nat × xk_S)) := match st with
  | a :: st => if len = 3 ∧ xk_isI a = true then (match xk_tgt pc off with
    | some t => some (xk_opt (fun iv1 => (t, (iv1, lo, st, hp, kc, ks))) (xk_le iv (5, 0) a (-1)) ++ xk_opt (fun iv1 => (pc + 3, (iv1, lo, st, hp, kc, ks))) (xk_le iv a (5, 0) 0))
    | none => none) else none
  | _ => none
def xk_i_icmp_le (T : xk_T) (X : xk_X) (pc len : Nat) (off : Int) (iv : xk_N) (lo : List (Nat × xk_V)) (st : List xk_V) (hp : List xk_C) (kc ks : Nat) : Option (List (Nat × xk_S)) := match st with
  | cv :: a :: st => if len = 3 ∧ xk_isI a = true ∧ xk_isI cv = true then (match xk_tgt pc off with
    | some t => some (xk_opt (fun iv1 => (pc + 3, (iv1, lo, st, hp, kc, ks))) (xk_le iv cv a (-1)) ++ xk_opt (fun iv1 => (t, (iv1, lo, st, hp, kc, ks))) (xk_le iv a cv 0))
    | none => none) else none
  | _ => none
def xk_i_if_le (T : xk_T) (X : xk_X) (pc len : Nat) (off : Int) (iv : xk_N) (lo : List (Nat × xk_V)) (st : List xk_V) (hp : List xk_C) (kc ks : Nat) : Option (List (Nat × xk_S)) := match st with
  | a :: st => if len = 3 ∧ xk_isI a = true then (match xk_tgt pc off with
    | some t => some (xk_opt (fun iv1 => (pc + 3, (iv1, lo, st, hp, kc, ks))) (xk_le iv (5, 0) a (-1)) ++ xk_opt (fun iv1 => (t, (iv1, lo, st, hp, kc, ks))) (xk_le iv a (5, 0) 0))
    | none => none) else none
  | _ => none
def xk_i_icmp_eq (T : xk_T) (X : xk_X) (pc len : Nat) (off : Int) (iv : xk_N) (lo : List (Nat × xk_V)) (st : List xk_V) (hp : List xk_C) (kc ks : Nat) : Option (List (Nat × xk_S)) := match st with
  | cv :: a :: st => if len = 3 ∧ xk_isI a = true ∧ xk_isI cv = true then (match xk_tgt pc off with
    | some t => some (xk_opt (fun iv1 => (pc + 3, (iv1, lo, st, hp, kc, ks))) (xk_le iv a cv (-1)) ++ (xk_opt (fun iv1 => (t, (iv1, lo, st, hp, kc, ks))) (xk_eq2 iv a cv) ++ xk_opt (fun iv1 => (pc + 3, (iv1, lo, st, hp, kc, ks))) (xk_le iv cv a (-1))))
    | none => none) else none
  | _ => none
def xk_i_if_eq (T : xk_T) (X : xk_X) (pc len : Nat) (off : Int) (iv : xk_N) (lo : List (Nat × xk_V)) (st : List xk_V) (hp : List xk_C) (kc ks : Nat) : Option (List (Nat × xk_S)) := match st with
  | a :: st => if len = 3 ∧ xk_isI a = true then (match xk_tgt pc off with
    | some t => some (xk_opt (fun iv1 => (pc + 3, (iv1, lo, st, hp, kc, ks))) (xk_le iv a (5, 0) (-1)) ++ (xk_opt (fun iv1 => (t, (iv1, lo, st, hp, kc, ks))) (xk_eq2 iv a (5, 0)) ++ xk_opt (fun iv1 => (pc + 3, (iv1, lo, st, hp, kc, ks))) (xk_le iv (5, 0) a (-1))))
    | none => none) else none
  | _ => none
def xk_i_icmp_ne (T : xk_T) (X : xk_X) (pc len : Nat) (off : Int) (iv : xk_N) (lo : List (Nat × xk_V)) (st : List xk_V) (hp : List xk_C) (kc ks : Nat) : Option (List (Nat × xk_S)) := match st with
  | cv :: a :: st => if len = 3 ∧ xk_isI a = true ∧ xk_isI cv = true then (match xk_tgt pc off with
    | some t => some (xk_opt (fun iv1 => (t, (iv1, lo, st, hp, kc, ks))) (xk_le iv a cv (-1)) ++ (xk_opt (fun iv1 => (pc + 3, (iv1, lo, st, hp, kc, ks))) (xk_eq2 iv a cv) ++ xk_opt (fun iv1 => (t, (iv1, lo, st, hp, kc, ks))) (xk_le iv cv a (-1))))
    | none => none) else none
  | _ => none
def xk_i_if_ne (T : xk_T) (X : xk_X) (pc len : Nat) (off : Int) (iv : xk_N) (lo : List (Nat × xk_V)) (st : List xk_V) (hp : List xk_C) (kc ks : Nat) : Option (List (Nat × xk_S)) := match st with
  | a :: st => if len = 3 ∧ xk_isI a = true then (match xk_tgt pc off with
    | some t => some (xk_opt (fun iv1 => (t, (iv1, lo, st, hp, kc, ks))) (xk_le iv a (5, 0) (-1)) ++ (xk_opt (fun iv1 => (pc + 3, (iv1, lo, st, hp, kc, ks))) (xk_eq2 iv a (5, 0)) ++ xk_opt (fun iv1 => (t, (iv1, lo, st, hp, kc, ks))) (xk_le iv (5, 0) a (-1))))
    | none => none) else none
  | _ => none
def xk_i_tableswitch (T : xk_T) (X : xk_X) (pc len : Nat) (dflt tlo thi : Int) (offs : Array Int) (iv : xk_N) (lo : List (Nat × xk_V)) (st : List xk_V) (hp : List xk_C) (kc ks : Nat) : Option (List (Nat × xk_S)) := match st with
  | a :: st => if xk_isI a = true ∧ (offs.size : Int) = thi - tlo + 1 ∧ offs.toList.all (fun off => (xk_tgt pc off).isSome) = true then (match xk_tgt pc dflt with
    | some dt => some ((List.range offs.size).flatMap (fun j : Nat => match offs[j]? with
      | some off => xk_opt (fun iv1 => ((xk_tgt pc off).getD 0, (iv1, lo, st, hp, kc, ks))) (xk_set iv a (xk_meet (xk_iv iv a) (tlo + j, tlo + j)))
      | none => []) ++ (xk_opt (fun iv1 => (dt, (iv1, lo, st, hp, kc, ks))) (xk_le iv a (5, tlo) (-1)) ++ xk_opt (fun iv1 => (dt, (iv1, lo, st, hp, kc, ks))) (xk_le iv (5, thi) a (-1))))
    | none => none) else none
  | _ => none
def xk_i_ifnull (T : xk_T) (X : xk_X) (pc len : Nat) (off : Int) (iv : xk_N) (lo : List (Nat × xk_V)) (st : List xk_V) (hp : List xk_C) (kc ks : Nat) : Option (List (Nat × xk_S)) := match st with
  | a :: st => if len = 3 then (match xk_tgt pc off with
    | some t => if a.1 = 2 then some [(pc + 3, (iv, lo, st, hp, kc, ks))] else if a.1 = 3 then some [(t, (iv, lo, st, hp, kc, ks))] else none
    | none => none) else none
  | _ => none
def xk_i_ifnonnull (T : xk_T) (X : xk_X) (pc len : Nat) (off : Int) (iv : xk_N) (lo : List (Nat × xk_V)) (st : List xk_V) (hp : List xk_C) (kc ks : Nat) : Option (List (Nat × xk_S)) := match st with
  | a :: st => if len = 3 then (match xk_tgt pc off with
    | some t => if a.1 = 2 then some [(t, (iv, lo, st, hp, kc, ks))] else if a.1 = 3 then some [(pc + 3, (iv, lo, st, hp, kc, ks))] else none
    | none => none) else none
  | _ => none
section XG
variable {p : Program} {l : Launch} {e : Env} {R : Room} {s : State} {m : MethodId} {args : Array Value} {below : List Frame} {meth : Method} {c : Code} {Q : State → Prop} {b : xk_b} {D : va_G} {A : Nat → Prop} {own : String} {cc : ByteArray} {nL : Nat}
theorem xk_t_iconst {T : xk_T} {X : xk_X} {pc len : Nat} {iv : xk_N} {lo : List (Nat × xk_V)} {st : List xk_V} {hp : List xk_C} {kc ks : Nat} {succs : List (Nat × xk_S)} {n : Int} (F : xk_Fx p s m args c D A own cc nL) (TK : xk_TOK own T) (GK : xk_GOK) (hX : X.1 = nL) (hI : X.2.1 = true → meth.name = "<init>") (hRm : X.2.2.1 = (R.frames, R.cells, R.slots, R.locals)) (hd : decode cc pc = .ok (.iconst n, len)) (h : xk_i_iconst T X pc len n iv lo st hp kc ks = some succs) (kk : ∀ q ∈ succs, xk_G p l e R s m args below meth c Q b nL D A q.1 q.2) : xk_G p l e R s m args below meth c Q b nL D A pc (iv, lo, st, hp, kc, ks) := by
  obtain ⟨hx, hb, hml, hown, hts, hK, hA⟩ := id F
  unfold xk_i_iconst at h
  split at h
  · rename_i hl
    subst hl
    cases h
    exact xk_s_ci (x := Int32.ofInt n) (fun H locs cells slots ls rest k => lv_iconst hx hb hd rfl k) (kk _ List.mem_cons_self)
  · cases h
theorem xk_t_bipush {T : xk_T} {X : xk_X} {pc len : Nat} {iv : xk_N} {lo : List (Nat × xk_V)} {st : List xk_V} {hp : List xk_C} {kc ks : Nat} {succs : List (Nat × xk_S)} {n : Int} (F : xk_Fx p s m args c D A own cc nL) (TK : xk_TOK own T) (GK : xk_GOK) (hX : X.1 = nL) (hI : X.2.1 = true → meth.name = "<init>") (hRm : X.2.2.1 = (R.frames, R.cells, R.slots, R.locals)) (hd : decode cc pc = .ok (.bipush n, len)) (h : xk_i_bipush T X pc len n iv lo st hp kc ks = some succs) (kk : ∀ q ∈ succs, xk_G p l e R s m args below meth c Q b nL D A q.1 q.2) : xk_G p l e R s m args below meth c Q b nL D A pc (iv, lo, st, hp, kc, ks) := by
  obtain ⟨hx, hb, hml, hown, hts, hK, hA⟩ := id F
  unfold xk_i_bipush at h
  split at h
  · rename_i hl
    subst hl
    cases h
    exact xk_s_ci (x := (Int8.ofInt n).toInt32) (fun H locs cells slots ls rest k => lv_bipush hx hb hd rfl k) (kk _ List.mem_cons_self)
  · cases h
theorem xk_t_sipush {T : xk_T} {X : xk_X} {pc len : Nat} {iv : xk_N} {lo : List (Nat × xk_V)} {st : List xk_V} {hp : List xk_C} {kc ks : Nat} {succs : List (Nat × xk_S)} {n : Int} (F : xk_Fx p s m args c D A own cc nL) (TK : xk_TOK own T) (GK : xk_GOK) (hX : X.1 = nL) (hI : X.2.1 = true → meth.name = "<init>") (hRm : X.2.2.1 = (R.frames, R.cells, R.slots, R.locals)) (hd : decode cc pc = .ok (.sipush n, len)) (h : xk_i_sipush T X pc len n iv lo st hp kc ks = some succs) (kk : ∀ q ∈ succs, xk_G p l e R s m args below meth c Q b nL D A q.1 q.2) : xk_G p l e R s m args below meth c Q b nL D A pc (iv, lo, st, hp, kc, ks) := by
  obtain ⟨hx, hb, hml, hown, hts, hK, hA⟩ := id F
  unfold xk_i_sipush at h
  split at h
  · rename_i hl
    subst hl
    cases h
    exact xk_s_ci (x := (Int16.ofInt n).toInt32) (fun H locs cells slots ls rest k => lv_sipush hx hb hd rfl k) (kk _ List.mem_cons_self)
  · cases h
theorem xk_t_lconst {T : xk_T} {X : xk_X} {pc len : Nat} {iv : xk_N} {lo : List (Nat × xk_V)} {st : List xk_V} {hp : List xk_C} {kc ks : Nat} {succs : List (Nat × xk_S)} {n : Fin 2} (F : xk_Fx p s m args c D A own cc nL) (TK : xk_TOK own T) (GK : xk_GOK) (hX : X.1 = nL) (hI : X.2.1 = true → meth.name = "<init>") (hRm : X.2.2.1 = (R.frames, R.cells, R.slots, R.locals)) (hd : decode cc pc = .ok (.lconst n, len)) (h : xk_i_lconst T X pc len n iv lo st hp kc ks = some succs) (kk : ∀ q ∈ succs, xk_G p l e R s m args below meth c Q b nL D A q.1 q.2) : xk_G p l e R s m args below meth c Q b nL D A pc (iv, lo, st, hp, kc, ks) := by
  obtain ⟨hx, hb, hml, hown, hts, hK, hA⟩ := id F
  unfold xk_i_lconst at h
  split at h
  · rename_i hl
    subst hl
    cases h
    exact xk_s_cl (x := Int64.ofNat (n : Nat)) (fun H locs cells slots ls rest k => lv_lconst hx hb hd rfl k) (kk _ List.mem_cons_self)
  · cases h
theorem xk_t_ldc {T : xk_T} {X : xk_X} {pc len : Nat} {iv : xk_N} {lo : List (Nat × xk_V)} {st : List xk_V} {hp : List xk_C} {kc ks : Nat} {succs : List (Nat × xk_S)} {ix : Nat} (F : xk_Fx p s m args c D A own cc nL) (TK : xk_TOK own T) (GK : xk_GOK) (hX : X.1 = nL) (hI : X.2.1 = true → meth.name = "<init>") (hRm : X.2.2.1 = (R.frames, R.cells, R.slots, R.locals)) (hd : decode cc pc = .ok (.ldc ix, len)) (h : xk_i_ldc T X pc len ix iv lo st hp kc ks = some succs) (kk : ∀ q ∈ succs, xk_G p l e R s m args below meth c Q b nL D A q.1 q.2) : xk_G p l e R s m args below meth c Q b nL D A pc (iv, lo, st, hp, kc, ks) := by
  obtain ⟨hx, hb, hml, hown, hts, hK, hA⟩ := id F
  unfold xk_i_ldc at h
  split at h
  · rename_i hl
    subst hl
    split at h
    · rename_i q hq
      cases h
      have hm := List.mem_of_find?_eq_some hq
      have he : q.1 = ix := Nat.eq_of_beq_eq_true (List.find?_some (p := fun q : Nat × Int => Nat.beq q.1 ix) hq)
      have hw := TK.2.1 q hm
      rw [he] at hw
      exact xk_s_ci (x := Int32.ofInt q.2) (fun H locs cells slots ls rest k => lv_ldc hx hb hown (hts _ hw) hd k) (kk _ List.mem_cons_self)
    · cases h
  · cases h
theorem xk_t_ldc_w {T : xk_T} {X : xk_X} {pc len : Nat} {iv : xk_N} {lo : List (Nat × xk_V)} {st : List xk_V} {hp : List xk_C} {kc ks : Nat} {succs : List (Nat × xk_S)} {ix : Nat} (F : xk_Fx p s m args c D A own cc nL) (TK : xk_TOK own T) (GK : xk_GOK) (hX : X.1 = nL) (hI : X.2.1 = true → meth.name = "<init>") (hRm : X.2.2.1 = (R.frames, R.cells, R.slots, R.locals)) (hd : decode cc pc = .ok (.ldc_w ix, len)) (h : xk_i_ldc_w T X pc len ix iv lo st hp kc ks = some succs) (kk : ∀ q ∈ succs, xk_G p l e R s m args below meth c Q b nL D A q.1 q.2) : xk_G p l e R s m args below meth c Q b nL D A pc (iv, lo, st, hp, kc, ks) := by
  obtain ⟨hx, hb, hml, hown, hts, hK, hA⟩ := id F
  unfold xk_i_ldc_w at h
  split at h
  · rename_i hl
    subst hl
    split at h
    · rename_i q hq
      cases h
      have hm := List.mem_of_find?_eq_some hq
      have he : q.1 = ix := Nat.eq_of_beq_eq_true (List.find?_some (p := fun q : Nat × Int => Nat.beq q.1 ix) hq)
      have hw := TK.2.1 q hm
      rw [he] at hw
      exact xk_s_ci (x := Int32.ofInt q.2) (fun H locs cells slots ls rest k => lv_ldcw hx hb hown (hts _ hw) hd k) (kk _ List.mem_cons_self)
    · cases h
  · cases h
theorem xk_t_ldc2_w {T : xk_T} {X : xk_X} {pc len : Nat} {iv : xk_N} {lo : List (Nat × xk_V)} {st : List xk_V} {hp : List xk_C} {kc ks : Nat} {succs : List (Nat × xk_S)} {ix : Nat} (F : xk_Fx p s m args c D A own cc nL) (TK : xk_TOK own T) (GK : xk_GOK) (hX : X.1 = nL) (hI : X.2.1 = true → meth.name = "<init>") (hRm : X.2.2.1 = (R.frames, R.cells, R.slots, R.locals)) (hd : decode cc pc = .ok (.ldc2_w ix, len)) (h : xk_i_ldc2_w T X pc len ix iv lo st hp kc ks = some succs) (kk : ∀ q ∈ succs, xk_G p l e R s m args below meth c Q b nL D A q.1 q.2) : xk_G p l e R s m args below meth c Q b nL D A pc (iv, lo, st, hp, kc, ks) := by
  obtain ⟨hx, hb, hml, hown, hts, hK, hA⟩ := id F
  unfold xk_i_ldc2_w at h
  split at h
  · rename_i hl
    subst hl
    split at h
    · rename_i q hq
      cases h
      have hm := List.mem_of_find?_eq_some hq
      have he : q.1 = ix := Nat.eq_of_beq_eq_true (List.find?_some (p := fun q : Nat × Int => Nat.beq q.1 ix) hq)
      have hw := TK.2.2.1 q hm
      rw [he] at hw
      exact xk_s_cl (x := Int64.ofInt q.2) (fun H locs cells slots ls rest k => lv_ldc2 hx hb hown (hts _ hw) hd k) (kk _ List.mem_cons_self)
    · cases h
  · cases h
theorem xk_t_iload_n {T : xk_T} {X : xk_X} {pc len : Nat} {iv : xk_N} {lo : List (Nat × xk_V)} {st : List xk_V} {hp : List xk_C} {kc ks : Nat} {succs : List (Nat × xk_S)} {n : Fin 4} (F : xk_Fx p s m args c D A own cc nL) (TK : xk_TOK own T) (GK : xk_GOK) (hX : X.1 = nL) (hI : X.2.1 = true → meth.name = "<init>") (hRm : X.2.2.1 = (R.frames, R.cells, R.slots, R.locals)) (hd : decode cc pc = .ok (.iload_n n, len)) (h : xk_i_iload_n T X pc len n iv lo st hp kc ks = some succs) (kk : ∀ q ∈ succs, xk_G p l e R s m args below meth c Q b nL D A q.1 q.2) : xk_G p l e R s m args below meth c Q b nL D A pc (iv, lo, st, hp, kc, ks) := by
  obtain ⟨hx, hb, hml, hown, hts, hK, hA⟩ := id F
  unfold xk_i_iload_n at h
  split at h
  · rename_i hl
    subst hl
    split at h
    · rename_i av hq
      split at h
      · rename_i hi
        split at h
        · split at h
          · rename_i hsp
            cases h
            refine xk_s_split hq hi (fun j iv1 b1 b2 e1 => kk (pc, (iv1, ((n : Nat), (5, j)) :: lo, st, hp, kc, ks)) (List.mem_flatMap.mpr ⟨(j - (xk_iv iv av).1).toNat, List.mem_range.mpr (by omega), ?_⟩))
            have ej : (xk_iv iv av).1 + ((j - (xk_iv iv av).1).toNat : Int) = j := by omega
            rw [ej, if_pos b2]
            exact xk_opt_mem e1
          · cases h
        · cases h
          exact xk_s_ldI hq hi (fun H locs cells slots ls rest x hls k => lv_iload_n hx hb hd rfl hls k) (kk _ List.mem_cons_self)
      · cases h
    · cases h
  · cases h
theorem xk_t_iload {T : xk_T} {X : xk_X} {pc len : Nat} {iv : xk_N} {lo : List (Nat × xk_V)} {st : List xk_V} {hp : List xk_C} {kc ks : Nat} {succs : List (Nat × xk_S)} {n : Nat} (F : xk_Fx p s m args c D A own cc nL) (TK : xk_TOK own T) (GK : xk_GOK) (hX : X.1 = nL) (hI : X.2.1 = true → meth.name = "<init>") (hRm : X.2.2.1 = (R.frames, R.cells, R.slots, R.locals)) (hd : decode cc pc = .ok (.iload n, len)) (h : xk_i_iload T X pc len n iv lo st hp kc ks = some succs) (kk : ∀ q ∈ succs, xk_G p l e R s m args below meth c Q b nL D A q.1 q.2) : xk_G p l e R s m args below meth c Q b nL D A pc (iv, lo, st, hp, kc, ks) := by
  obtain ⟨hx, hb, hml, hown, hts, hK, hA⟩ := id F
  unfold xk_i_iload at h
  split at h
  · rename_i hl
    subst hl
    split at h
    · rename_i av hq
      split at h
      · rename_i hi
        split at h
        · split at h
          · rename_i hsp
            cases h
            refine xk_s_split hq hi (fun j iv1 b1 b2 e1 => kk (pc, (iv1, (n, (5, j)) :: lo, st, hp, kc, ks)) (List.mem_flatMap.mpr ⟨(j - (xk_iv iv av).1).toNat, List.mem_range.mpr (by omega), ?_⟩))
            have ej : (xk_iv iv av).1 + ((j - (xk_iv iv av).1).toNat : Int) = j := by omega
            rw [ej, if_pos b2]
            exact xk_opt_mem e1
          · cases h
        · cases h
          exact xk_s_ldI hq hi (fun H locs cells slots ls rest x hls k => lv_iload hx hb hd hls k) (kk _ List.mem_cons_self)
      · cases h
    · cases h
  · cases h
theorem xk_t_lload_n {T : xk_T} {X : xk_X} {pc len : Nat} {iv : xk_N} {lo : List (Nat × xk_V)} {st : List xk_V} {hp : List xk_C} {kc ks : Nat} {succs : List (Nat × xk_S)} {n : Fin 4} (F : xk_Fx p s m args c D A own cc nL) (TK : xk_TOK own T) (GK : xk_GOK) (hX : X.1 = nL) (hI : X.2.1 = true → meth.name = "<init>") (hRm : X.2.2.1 = (R.frames, R.cells, R.slots, R.locals)) (hd : decode cc pc = .ok (.lload_n n, len)) (h : xk_i_lload_n T X pc len n iv lo st hp kc ks = some succs) (kk : ∀ q ∈ succs, xk_G p l e R s m args below meth c Q b nL D A q.1 q.2) : xk_G p l e R s m args below meth c Q b nL D A pc (iv, lo, st, hp, kc, ks) := by
  obtain ⟨hx, hb, hml, hown, hts, hK, hA⟩ := id F
  unfold xk_i_lload_n at h
  split at h
  · rename_i hl
    subst hl
    split at h
    · rename_i av hq
      split at h
      · rename_i hi
        cases h
        exact xk_s_ldL hq hi (fun H locs cells slots ls rest x hls k => lv_lload_n hx hb hd rfl hls k) (kk _ List.mem_cons_self)
      · cases h
    · cases h
  · cases h
theorem xk_t_lload {T : xk_T} {X : xk_X} {pc len : Nat} {iv : xk_N} {lo : List (Nat × xk_V)} {st : List xk_V} {hp : List xk_C} {kc ks : Nat} {succs : List (Nat × xk_S)} {n : Nat} (F : xk_Fx p s m args c D A own cc nL) (TK : xk_TOK own T) (GK : xk_GOK) (hX : X.1 = nL) (hI : X.2.1 = true → meth.name = "<init>") (hRm : X.2.2.1 = (R.frames, R.cells, R.slots, R.locals)) (hd : decode cc pc = .ok (.lload n, len)) (h : xk_i_lload T X pc len n iv lo st hp kc ks = some succs) (kk : ∀ q ∈ succs, xk_G p l e R s m args below meth c Q b nL D A q.1 q.2) : xk_G p l e R s m args below meth c Q b nL D A pc (iv, lo, st, hp, kc, ks) := by
  obtain ⟨hx, hb, hml, hown, hts, hK, hA⟩ := id F
  unfold xk_i_lload at h
  split at h
  · rename_i hl
    subst hl
    split at h
    · rename_i av hq
      split at h
      · rename_i hi
        cases h
        exact xk_s_ldL hq hi (fun H locs cells slots ls rest x hls k => lv_lload hx hb hd hls k) (kk _ List.mem_cons_self)
      · cases h
    · cases h
  · cases h
theorem xk_t_aload_n {T : xk_T} {X : xk_X} {pc len : Nat} {iv : xk_N} {lo : List (Nat × xk_V)} {st : List xk_V} {hp : List xk_C} {kc ks : Nat} {succs : List (Nat × xk_S)} {n : Fin 4} (F : xk_Fx p s m args c D A own cc nL) (TK : xk_TOK own T) (GK : xk_GOK) (hX : X.1 = nL) (hI : X.2.1 = true → meth.name = "<init>") (hRm : X.2.2.1 = (R.frames, R.cells, R.slots, R.locals)) (hd : decode cc pc = .ok (.aload_n n, len)) (h : xk_i_aload_n T X pc len n iv lo st hp kc ks = some succs) (kk : ∀ q ∈ succs, xk_G p l e R s m args below meth c Q b nL D A q.1 q.2) : xk_G p l e R s m args below meth c Q b nL D A pc (iv, lo, st, hp, kc, ks) := by
  obtain ⟨hx, hb, hml, hown, hts, hK, hA⟩ := id F
  unfold xk_i_aload_n at h
  split at h
  · rename_i hl
    subst hl
    split at h
    · rename_i av hq
      split at h
      · rename_i hi
        cases h
        exact xk_s_ldR hq hi (fun H locs cells slots ls rest x hls k => lv_aload_n hx hb hd rfl hls k) (kk _ List.mem_cons_self)
      · cases h
    · cases h
  · cases h
theorem xk_t_aload {T : xk_T} {X : xk_X} {pc len : Nat} {iv : xk_N} {lo : List (Nat × xk_V)} {st : List xk_V} {hp : List xk_C} {kc ks : Nat} {succs : List (Nat × xk_S)} {n : Nat} (F : xk_Fx p s m args c D A own cc nL) (TK : xk_TOK own T) (GK : xk_GOK) (hX : X.1 = nL) (hI : X.2.1 = true → meth.name = "<init>") (hRm : X.2.2.1 = (R.frames, R.cells, R.slots, R.locals)) (hd : decode cc pc = .ok (.aload n, len)) (h : xk_i_aload T X pc len n iv lo st hp kc ks = some succs) (kk : ∀ q ∈ succs, xk_G p l e R s m args below meth c Q b nL D A q.1 q.2) : xk_G p l e R s m args below meth c Q b nL D A pc (iv, lo, st, hp, kc, ks) := by
  obtain ⟨hx, hb, hml, hown, hts, hK, hA⟩ := id F
  unfold xk_i_aload at h
  split at h
  · rename_i hl
    subst hl
    split at h
    · rename_i av hq
      split at h
      · rename_i hi
        cases h
        exact xk_s_ldR hq hi (fun H locs cells slots ls rest x hls k => lv_aload hx hb hd hls k) (kk _ List.mem_cons_self)
      · cases h
    · cases h
  · cases h
theorem xk_t_istore_n {T : xk_T} {X : xk_X} {pc len : Nat} {iv : xk_N} {lo : List (Nat × xk_V)} {st : List xk_V} {hp : List xk_C} {kc ks : Nat} {succs : List (Nat × xk_S)} {n : Fin 4} (F : xk_Fx p s m args c D A own cc nL) (TK : xk_TOK own T) (GK : xk_GOK) (hX : X.1 = nL) (hI : X.2.1 = true → meth.name = "<init>") (hRm : X.2.2.1 = (R.frames, R.cells, R.slots, R.locals)) (hd : decode cc pc = .ok (.istore_n n, len)) (h : xk_i_istore_n T X pc len n iv lo st hp kc ks = some succs) (kk : ∀ q ∈ succs, xk_G p l e R s m args below meth c Q b nL D A q.1 q.2) : xk_G p l e R s m args below meth c Q b nL D A pc (iv, lo, st, hp, kc, ks) := by
  obtain ⟨hx, hb, hml, hown, hts, hK, hA⟩ := id F
  unfold xk_i_istore_n at h
  split at h
  · split at h
    · rename_i hc
      obtain ⟨hl, hi, hn⟩ := hc
      subst hl
      cases h
      rw [hX] at hn
      exact xk_s_stI hi (fun H locs cells slots ls rest x lv hlv k => lv_istore_n hx hb hd rfl hlv hn rfl k) (kk _ List.mem_cons_self)
    · cases h
  · cases h
theorem xk_t_istore {T : xk_T} {X : xk_X} {pc len : Nat} {iv : xk_N} {lo : List (Nat × xk_V)} {st : List xk_V} {hp : List xk_C} {kc ks : Nat} {succs : List (Nat × xk_S)} {n : Nat} (F : xk_Fx p s m args c D A own cc nL) (TK : xk_TOK own T) (GK : xk_GOK) (hX : X.1 = nL) (hI : X.2.1 = true → meth.name = "<init>") (hRm : X.2.2.1 = (R.frames, R.cells, R.slots, R.locals)) (hd : decode cc pc = .ok (.istore n, len)) (h : xk_i_istore T X pc len n iv lo st hp kc ks = some succs) (kk : ∀ q ∈ succs, xk_G p l e R s m args below meth c Q b nL D A q.1 q.2) : xk_G p l e R s m args below meth c Q b nL D A pc (iv, lo, st, hp, kc, ks) := by
  obtain ⟨hx, hb, hml, hown, hts, hK, hA⟩ := id F
  unfold xk_i_istore at h
  split at h
  · split at h
    · rename_i hc
      obtain ⟨hl, hi, hn⟩ := hc
      subst hl
      cases h
      rw [hX] at hn
      exact xk_s_stI hi (fun H locs cells slots ls rest x lv hlv k => lv_istore hx hb hd hlv hn rfl k) (kk _ List.mem_cons_self)
    · cases h
  · cases h
theorem xk_t_lstore_n {T : xk_T} {X : xk_X} {pc len : Nat} {iv : xk_N} {lo : List (Nat × xk_V)} {st : List xk_V} {hp : List xk_C} {kc ks : Nat} {succs : List (Nat × xk_S)} {n : Fin 4} (F : xk_Fx p s m args c D A own cc nL) (TK : xk_TOK own T) (GK : xk_GOK) (hX : X.1 = nL) (hI : X.2.1 = true → meth.name = "<init>") (hRm : X.2.2.1 = (R.frames, R.cells, R.slots, R.locals)) (hd : decode cc pc = .ok (.lstore_n n, len)) (h : xk_i_lstore_n T X pc len n iv lo st hp kc ks = some succs) (kk : ∀ q ∈ succs, xk_G p l e R s m args below meth c Q b nL D A q.1 q.2) : xk_G p l e R s m args below meth c Q b nL D A pc (iv, lo, st, hp, kc, ks) := by
  obtain ⟨hx, hb, hml, hown, hts, hK, hA⟩ := id F
  unfold xk_i_lstore_n at h
  split at h
  · split at h
    · rename_i hc
      obtain ⟨hl, hi, hn⟩ := hc
      subst hl
      cases h
      rw [hX] at hn
      exact xk_s_stL hi (fun H locs cells slots ls rest x lv hlv k => lv_lstore_n hx hb hd rfl hlv hn rfl k) (kk _ List.mem_cons_self)
    · cases h
  · cases h
theorem xk_t_lstore {T : xk_T} {X : xk_X} {pc len : Nat} {iv : xk_N} {lo : List (Nat × xk_V)} {st : List xk_V} {hp : List xk_C} {kc ks : Nat} {succs : List (Nat × xk_S)} {n : Nat} (F : xk_Fx p s m args c D A own cc nL) (TK : xk_TOK own T) (GK : xk_GOK) (hX : X.1 = nL) (hI : X.2.1 = true → meth.name = "<init>") (hRm : X.2.2.1 = (R.frames, R.cells, R.slots, R.locals)) (hd : decode cc pc = .ok (.lstore n, len)) (h : xk_i_lstore T X pc len n iv lo st hp kc ks = some succs) (kk : ∀ q ∈ succs, xk_G p l e R s m args below meth c Q b nL D A q.1 q.2) : xk_G p l e R s m args below meth c Q b nL D A pc (iv, lo, st, hp, kc, ks) := by
  obtain ⟨hx, hb, hml, hown, hts, hK, hA⟩ := id F
  unfold xk_i_lstore at h
  split at h
  · split at h
    · rename_i hc
      obtain ⟨hl, hi, hn⟩ := hc
      subst hl
      cases h
      rw [hX] at hn
      exact xk_s_stL hi (fun H locs cells slots ls rest x lv hlv k => lv_lstore hx hb hd hlv hn rfl k) (kk _ List.mem_cons_self)
    · cases h
  · cases h
theorem xk_t_astore_n {T : xk_T} {X : xk_X} {pc len : Nat} {iv : xk_N} {lo : List (Nat × xk_V)} {st : List xk_V} {hp : List xk_C} {kc ks : Nat} {succs : List (Nat × xk_S)} {n : Fin 4} (F : xk_Fx p s m args c D A own cc nL) (TK : xk_TOK own T) (GK : xk_GOK) (hX : X.1 = nL) (hI : X.2.1 = true → meth.name = "<init>") (hRm : X.2.2.1 = (R.frames, R.cells, R.slots, R.locals)) (hd : decode cc pc = .ok (.astore_n n, len)) (h : xk_i_astore_n T X pc len n iv lo st hp kc ks = some succs) (kk : ∀ q ∈ succs, xk_G p l e R s m args below meth c Q b nL D A q.1 q.2) : xk_G p l e R s m args below meth c Q b nL D A pc (iv, lo, st, hp, kc, ks) := by
  obtain ⟨hx, hb, hml, hown, hts, hK, hA⟩ := id F
  unfold xk_i_astore_n at h
  split at h
  · split at h
    · rename_i hc
      obtain ⟨hl, hi, hn⟩ := hc
      subst hl
      cases h
      rw [hX] at hn
      exact xk_s_stR hi (fun H locs cells slots ls rest x lv hlv k => lv_astore_n hx hb hd rfl hlv hn rfl k) (kk _ List.mem_cons_self)
    · cases h
  · cases h
theorem xk_t_astore {T : xk_T} {X : xk_X} {pc len : Nat} {iv : xk_N} {lo : List (Nat × xk_V)} {st : List xk_V} {hp : List xk_C} {kc ks : Nat} {succs : List (Nat × xk_S)} {n : Nat} (F : xk_Fx p s m args c D A own cc nL) (TK : xk_TOK own T) (GK : xk_GOK) (hX : X.1 = nL) (hI : X.2.1 = true → meth.name = "<init>") (hRm : X.2.2.1 = (R.frames, R.cells, R.slots, R.locals)) (hd : decode cc pc = .ok (.astore n, len)) (h : xk_i_astore T X pc len n iv lo st hp kc ks = some succs) (kk : ∀ q ∈ succs, xk_G p l e R s m args below meth c Q b nL D A q.1 q.2) : xk_G p l e R s m args below meth c Q b nL D A pc (iv, lo, st, hp, kc, ks) := by
  obtain ⟨hx, hb, hml, hown, hts, hK, hA⟩ := id F
  unfold xk_i_astore at h
  split at h
  · split at h
    · rename_i hc
      obtain ⟨hl, hi, hn⟩ := hc
      subst hl
      cases h
      rw [hX] at hn
      exact xk_s_stR hi (fun H locs cells slots ls rest x lv hlv k => lv_astore hx hb hd hlv hn rfl k) (kk _ List.mem_cons_self)
    · cases h
  · cases h
theorem xk_t_iinc {T : xk_T} {X : xk_X} {pc len : Nat} {iv : xk_N} {lo : List (Nat × xk_V)} {st : List xk_V} {hp : List xk_C} {kc ks : Nat} {succs : List (Nat × xk_S)} {n : Nat} {c0 : Int} (F : xk_Fx p s m args c D A own cc nL) (TK : xk_TOK own T) (GK : xk_GOK) (hX : X.1 = nL) (hI : X.2.1 = true → meth.name = "<init>") (hRm : X.2.2.1 = (R.frames, R.cells, R.slots, R.locals)) (hd : decode cc pc = .ok (.iinc n c0, len)) (h : xk_i_iinc T X pc len n c0 iv lo st hp kc ks = some succs) (kk : ∀ q ∈ succs, xk_G p l e R s m args below meth c Q b nL D A q.1 q.2) : xk_G p l e R s m args below meth c Q b nL D A pc (iv, lo, st, hp, kc, ks) := by
  obtain ⟨hx, hb, hml, hown, hts, hK, hA⟩ := id F
  unfold xk_i_iinc at h
  split at h
  · rename_i av hq
    split at h
    · rename_i hc
      obtain ⟨hl, hi, hn⟩ := hc
      subst hl
      cases h
      rw [hX] at hn
      exact xk_s_iinc hq hi (fun H locs cells slots ls rest x lv kq hlv hkq k => lv_iinc hx hb hd hlv hkq rfl hn rfl k) (kk _ List.mem_cons_self)
    · cases h
  · cases h
theorem xk_t_iadd {T : xk_T} {X : xk_X} {pc len : Nat} {iv : xk_N} {lo : List (Nat × xk_V)} {st : List xk_V} {hp : List xk_C} {kc ks : Nat} {succs : List (Nat × xk_S)}  (F : xk_Fx p s m args c D A own cc nL) (TK : xk_TOK own T) (GK : xk_GOK) (hX : X.1 = nL) (hI : X.2.1 = true → meth.name = "<init>") (hRm : X.2.2.1 = (R.frames, R.cells, R.slots, R.locals)) (hd : decode cc pc = .ok (.iadd, len)) (h : xk_i_iadd T X pc len  iv lo st hp kc ks = some succs) (kk : ∀ q ∈ succs, xk_G p l e R s m args below meth c Q b nL D A q.1 q.2) : xk_G p l e R s m args below meth c Q b nL D A pc (iv, lo, st, hp, kc, ks) := by
  obtain ⟨hx, hb, hml, hown, hts, hK, hA⟩ := id F
  unfold xk_i_iadd at h
  split at h
  · split at h
    · rename_i hc
      obtain ⟨hl, h1, h2⟩ := hc
      subst hl
      cases h
      exact xk_s_bin (f := fun x y => x + y) xk_radd_ok xk_gadd_ok h1 h2 (fun H locs cells slots ls rest x y y1 y2 k => lv_iadd hx hb hd k) (kk _ List.mem_cons_self)
    · cases h
  · cases h
theorem xk_t_isub {T : xk_T} {X : xk_X} {pc len : Nat} {iv : xk_N} {lo : List (Nat × xk_V)} {st : List xk_V} {hp : List xk_C} {kc ks : Nat} {succs : List (Nat × xk_S)}  (F : xk_Fx p s m args c D A own cc nL) (TK : xk_TOK own T) (GK : xk_GOK) (hX : X.1 = nL) (hI : X.2.1 = true → meth.name = "<init>") (hRm : X.2.2.1 = (R.frames, R.cells, R.slots, R.locals)) (hd : decode cc pc = .ok (.isub, len)) (h : xk_i_isub T X pc len  iv lo st hp kc ks = some succs) (kk : ∀ q ∈ succs, xk_G p l e R s m args below meth c Q b nL D A q.1 q.2) : xk_G p l e R s m args below meth c Q b nL D A pc (iv, lo, st, hp, kc, ks) := by
  obtain ⟨hx, hb, hml, hown, hts, hK, hA⟩ := id F
  unfold xk_i_isub at h
  split at h
  · split at h
    · rename_i hc
      obtain ⟨hl, h1, h2⟩ := hc
      subst hl
      cases h
      exact xk_s_bin (f := fun x y => x - y) xk_rsub_ok xk_gsub_ok h1 h2 (fun H locs cells slots ls rest x y y1 y2 k => lv_isub hx hb hd k) (kk _ List.mem_cons_self)
    · cases h
  · cases h
theorem xk_t_imul {T : xk_T} {X : xk_X} {pc len : Nat} {iv : xk_N} {lo : List (Nat × xk_V)} {st : List xk_V} {hp : List xk_C} {kc ks : Nat} {succs : List (Nat × xk_S)}  (F : xk_Fx p s m args c D A own cc nL) (TK : xk_TOK own T) (GK : xk_GOK) (hX : X.1 = nL) (hI : X.2.1 = true → meth.name = "<init>") (hRm : X.2.2.1 = (R.frames, R.cells, R.slots, R.locals)) (hd : decode cc pc = .ok (.imul, len)) (h : xk_i_imul T X pc len  iv lo st hp kc ks = some succs) (kk : ∀ q ∈ succs, xk_G p l e R s m args below meth c Q b nL D A q.1 q.2) : xk_G p l e R s m args below meth c Q b nL D A pc (iv, lo, st, hp, kc, ks) := by
  obtain ⟨hx, hb, hml, hown, hts, hK, hA⟩ := id F
  unfold xk_i_imul at h
  split at h
  · split at h
    · rename_i hc
      obtain ⟨hl, h1, h2⟩ := hc
      subst hl
      cases h
      exact xk_s_bin (f := fun x y => x * y) xk_rmul_ok (xk_gno_ok _) h1 h2 (fun H locs cells slots ls rest x y y1 y2 k => lv_imul hx hb hd k) (kk _ List.mem_cons_self)
    · cases h
  · cases h
theorem xk_t_iand {T : xk_T} {X : xk_X} {pc len : Nat} {iv : xk_N} {lo : List (Nat × xk_V)} {st : List xk_V} {hp : List xk_C} {kc ks : Nat} {succs : List (Nat × xk_S)}  (F : xk_Fx p s m args c D A own cc nL) (TK : xk_TOK own T) (GK : xk_GOK) (hX : X.1 = nL) (hI : X.2.1 = true → meth.name = "<init>") (hRm : X.2.2.1 = (R.frames, R.cells, R.slots, R.locals)) (hd : decode cc pc = .ok (.iand, len)) (h : xk_i_iand T X pc len  iv lo st hp kc ks = some succs) (kk : ∀ q ∈ succs, xk_G p l e R s m args below meth c Q b nL D A q.1 q.2) : xk_G p l e R s m args below meth c Q b nL D A pc (iv, lo, st, hp, kc, ks) := by
  obtain ⟨hx, hb, hml, hown, hts, hK, hA⟩ := id F
  unfold xk_i_iand at h
  split at h
  · split at h
    · rename_i hc
      obtain ⟨hl, h1, h2⟩ := hc
      subst hl
      cases h
      exact xk_s_bin (f := fun x y => x &&& y) xk_rand_ok xk_gand_ok h1 h2 (fun H locs cells slots ls rest x y y1 y2 k => lv_iand hx hb hd k) (kk _ List.mem_cons_self)
    · cases h
  · cases h
theorem xk_t_ior {T : xk_T} {X : xk_X} {pc len : Nat} {iv : xk_N} {lo : List (Nat × xk_V)} {st : List xk_V} {hp : List xk_C} {kc ks : Nat} {succs : List (Nat × xk_S)}  (F : xk_Fx p s m args c D A own cc nL) (TK : xk_TOK own T) (GK : xk_GOK) (hX : X.1 = nL) (hI : X.2.1 = true → meth.name = "<init>") (hRm : X.2.2.1 = (R.frames, R.cells, R.slots, R.locals)) (hd : decode cc pc = .ok (.ior, len)) (h : xk_i_ior T X pc len  iv lo st hp kc ks = some succs) (kk : ∀ q ∈ succs, xk_G p l e R s m args below meth c Q b nL D A q.1 q.2) : xk_G p l e R s m args below meth c Q b nL D A pc (iv, lo, st, hp, kc, ks) := by
  obtain ⟨hx, hb, hml, hown, hts, hK, hA⟩ := id F
  unfold xk_i_ior at h
  split at h
  · split at h
    · rename_i hc
      obtain ⟨hl, h1, h2⟩ := hc
      subst hl
      cases h
      exact xk_s_bin (f := fun x y => x ||| y) xk_ror_ok (xk_gno_ok _) h1 h2 (fun H locs cells slots ls rest x y y1 y2 k => lv_ior hx hb hd k) (kk _ List.mem_cons_self)
    · cases h
  · cases h
theorem xk_t_ixor {T : xk_T} {X : xk_X} {pc len : Nat} {iv : xk_N} {lo : List (Nat × xk_V)} {st : List xk_V} {hp : List xk_C} {kc ks : Nat} {succs : List (Nat × xk_S)}  (F : xk_Fx p s m args c D A own cc nL) (TK : xk_TOK own T) (GK : xk_GOK) (hX : X.1 = nL) (hI : X.2.1 = true → meth.name = "<init>") (hRm : X.2.2.1 = (R.frames, R.cells, R.slots, R.locals)) (hd : decode cc pc = .ok (.ixor, len)) (h : xk_i_ixor T X pc len  iv lo st hp kc ks = some succs) (kk : ∀ q ∈ succs, xk_G p l e R s m args below meth c Q b nL D A q.1 q.2) : xk_G p l e R s m args below meth c Q b nL D A pc (iv, lo, st, hp, kc, ks) := by
  obtain ⟨hx, hb, hml, hown, hts, hK, hA⟩ := id F
  unfold xk_i_ixor at h
  split at h
  · split at h
    · rename_i hc
      obtain ⟨hl, h1, h2⟩ := hc
      subst hl
      cases h
      exact xk_s_bin (f := fun x y => x ^^^ y) xk_rxor_ok (xk_gno_ok _) h1 h2 (fun H locs cells slots ls rest x y y1 y2 k => lv_ixor hx hb hd k) (kk _ List.mem_cons_self)
    · cases h
  · cases h
theorem xk_t_ishl {T : xk_T} {X : xk_X} {pc len : Nat} {iv : xk_N} {lo : List (Nat × xk_V)} {st : List xk_V} {hp : List xk_C} {kc ks : Nat} {succs : List (Nat × xk_S)}  (F : xk_Fx p s m args c D A own cc nL) (TK : xk_TOK own T) (GK : xk_GOK) (hX : X.1 = nL) (hI : X.2.1 = true → meth.name = "<init>") (hRm : X.2.2.1 = (R.frames, R.cells, R.slots, R.locals)) (hd : decode cc pc = .ok (.ishl, len)) (h : xk_i_ishl T X pc len  iv lo st hp kc ks = some succs) (kk : ∀ q ∈ succs, xk_G p l e R s m args below meth c Q b nL D A q.1 q.2) : xk_G p l e R s m args below meth c Q b nL D A pc (iv, lo, st, hp, kc, ks) := by
  obtain ⟨hx, hb, hml, hown, hts, hK, hA⟩ := id F
  unfold xk_i_ishl at h
  split at h
  · split at h
    · rename_i hc
      obtain ⟨hl, h1, h2⟩ := hc
      subst hl
      cases h
      exact xk_s_bin (f := fun x y => x <<< (y &&& 31)) xk_rshl_ok xk_gshl_ok h1 h2 (fun H locs cells slots ls rest x y y1 y2 k => lv_ishl hx hb hd k) (kk _ List.mem_cons_self)
    · cases h
  · cases h
theorem xk_t_ishr {T : xk_T} {X : xk_X} {pc len : Nat} {iv : xk_N} {lo : List (Nat × xk_V)} {st : List xk_V} {hp : List xk_C} {kc ks : Nat} {succs : List (Nat × xk_S)}  (F : xk_Fx p s m args c D A own cc nL) (TK : xk_TOK own T) (GK : xk_GOK) (hX : X.1 = nL) (hI : X.2.1 = true → meth.name = "<init>") (hRm : X.2.2.1 = (R.frames, R.cells, R.slots, R.locals)) (hd : decode cc pc = .ok (.ishr, len)) (h : xk_i_ishr T X pc len  iv lo st hp kc ks = some succs) (kk : ∀ q ∈ succs, xk_G p l e R s m args below meth c Q b nL D A q.1 q.2) : xk_G p l e R s m args below meth c Q b nL D A pc (iv, lo, st, hp, kc, ks) := by
  obtain ⟨hx, hb, hml, hown, hts, hK, hA⟩ := id F
  unfold xk_i_ishr at h
  split at h
  · split at h
    · rename_i hc
      obtain ⟨hl, h1, h2⟩ := hc
      subst hl
      cases h
      exact xk_s_bin (f := fun x y => x >>> (y &&& 31)) xk_rshr_ok xk_gshr_ok h1 h2 (fun H locs cells slots ls rest x y y1 y2 k => lv_ishr hx hb hd k) (kk _ List.mem_cons_self)
    · cases h
  · cases h
theorem xk_t_iushr {T : xk_T} {X : xk_X} {pc len : Nat} {iv : xk_N} {lo : List (Nat × xk_V)} {st : List xk_V} {hp : List xk_C} {kc ks : Nat} {succs : List (Nat × xk_S)}  (F : xk_Fx p s m args c D A own cc nL) (TK : xk_TOK own T) (GK : xk_GOK) (hX : X.1 = nL) (hI : X.2.1 = true → meth.name = "<init>") (hRm : X.2.2.1 = (R.frames, R.cells, R.slots, R.locals)) (hd : decode cc pc = .ok (.iushr, len)) (h : xk_i_iushr T X pc len  iv lo st hp kc ks = some succs) (kk : ∀ q ∈ succs, xk_G p l e R s m args below meth c Q b nL D A q.1 q.2) : xk_G p l e R s m args below meth c Q b nL D A pc (iv, lo, st, hp, kc, ks) := by
  obtain ⟨hx, hb, hml, hown, hts, hK, hA⟩ := id F
  unfold xk_i_iushr at h
  split at h
  · split at h
    · rename_i hc
      obtain ⟨hl, h1, h2⟩ := hc
      subst hl
      cases h
      exact xk_s_bin (f := fun x y => (x.toUInt32 >>> (y.toUInt32 &&& Int32.toUInt32 31)).toInt32) xk_rushr_ok (xk_gno_ok _) h1 h2 (fun H locs cells slots ls rest x y y1 y2 k => lv_iushr hx hb hd rfl k) (kk _ List.mem_cons_self)
    · cases h
  · cases h
theorem xk_t_idiv {T : xk_T} {X : xk_X} {pc len : Nat} {iv : xk_N} {lo : List (Nat × xk_V)} {st : List xk_V} {hp : List xk_C} {kc ks : Nat} {succs : List (Nat × xk_S)}  (F : xk_Fx p s m args c D A own cc nL) (TK : xk_TOK own T) (GK : xk_GOK) (hX : X.1 = nL) (hI : X.2.1 = true → meth.name = "<init>") (hRm : X.2.2.1 = (R.frames, R.cells, R.slots, R.locals)) (hd : decode cc pc = .ok (.idiv, len)) (h : xk_i_idiv T X pc len  iv lo st hp kc ks = some succs) (kk : ∀ q ∈ succs, xk_G p l e R s m args below meth c Q b nL D A q.1 q.2) : xk_G p l e R s m args below meth c Q b nL D A pc (iv, lo, st, hp, kc, ks) := by
  obtain ⟨hx, hb, hml, hown, hts, hK, hA⟩ := id F
  unfold xk_i_idiv at h
  split at h
  · split at h
    · rename_i hc
      obtain ⟨hl, h1, h2, h3⟩ := hc
      subst hl
      cases h
      exact xk_s_bin (f := fun x y => x / y) xk_rdiv_ok xk_gdiv_ok h1 h2 (fun H locs cells slots ls rest x y y1 y2 k => lv_idiv hx hb hd (fun z => by rw [z, Int32.toInt_zero] at y1 y2; omega) k) (kk _ List.mem_cons_self)
    · cases h
  · cases h
theorem xk_t_irem {T : xk_T} {X : xk_X} {pc len : Nat} {iv : xk_N} {lo : List (Nat × xk_V)} {st : List xk_V} {hp : List xk_C} {kc ks : Nat} {succs : List (Nat × xk_S)}  (F : xk_Fx p s m args c D A own cc nL) (TK : xk_TOK own T) (GK : xk_GOK) (hX : X.1 = nL) (hI : X.2.1 = true → meth.name = "<init>") (hRm : X.2.2.1 = (R.frames, R.cells, R.slots, R.locals)) (hd : decode cc pc = .ok (.irem, len)) (h : xk_i_irem T X pc len  iv lo st hp kc ks = some succs) (kk : ∀ q ∈ succs, xk_G p l e R s m args below meth c Q b nL D A q.1 q.2) : xk_G p l e R s m args below meth c Q b nL D A pc (iv, lo, st, hp, kc, ks) := by
  obtain ⟨hx, hb, hml, hown, hts, hK, hA⟩ := id F
  unfold xk_i_irem at h
  split at h
  · split at h
    · rename_i hc
      obtain ⟨hl, h1, h2, h3⟩ := hc
      subst hl
      cases h
      exact xk_s_bin (f := fun x y => x - x / y * y) xk_rrem_ok xk_grem_ok h1 h2 (fun H locs cells slots ls rest x y y1 y2 k => lv_irem hx hb hd (fun z => by rw [z, Int32.toInt_zero] at y1 y2; omega) k) (kk _ List.mem_cons_self)
    · cases h
  · cases h
theorem xk_t_ladd {T : xk_T} {X : xk_X} {pc len : Nat} {iv : xk_N} {lo : List (Nat × xk_V)} {st : List xk_V} {hp : List xk_C} {kc ks : Nat} {succs : List (Nat × xk_S)}  (F : xk_Fx p s m args c D A own cc nL) (TK : xk_TOK own T) (GK : xk_GOK) (hX : X.1 = nL) (hI : X.2.1 = true → meth.name = "<init>") (hRm : X.2.2.1 = (R.frames, R.cells, R.slots, R.locals)) (hd : decode cc pc = .ok (.ladd, len)) (h : xk_i_ladd T X pc len  iv lo st hp kc ks = some succs) (kk : ∀ q ∈ succs, xk_G p l e R s m args below meth c Q b nL D A q.1 q.2) : xk_G p l e R s m args below meth c Q b nL D A pc (iv, lo, st, hp, kc, ks) := by
  obtain ⟨hx, hb, hml, hown, hts, hK, hA⟩ := id F
  unfold xk_i_ladd at h
  split at h
  · split at h
    · rename_i hc
      obtain ⟨hl, h1, h2⟩ := hc
      subst hl
      cases h
      exact xk_s_binL (f := fun x y => x + y) (xk_raddL_ok) h1 h2 (fun H locs cells slots ls rest x y y1 y2 k => lv_ladd hx hb hd k) (kk _ List.mem_cons_self)
    · cases h
  · cases h
theorem xk_t_lsub {T : xk_T} {X : xk_X} {pc len : Nat} {iv : xk_N} {lo : List (Nat × xk_V)} {st : List xk_V} {hp : List xk_C} {kc ks : Nat} {succs : List (Nat × xk_S)}  (F : xk_Fx p s m args c D A own cc nL) (TK : xk_TOK own T) (GK : xk_GOK) (hX : X.1 = nL) (hI : X.2.1 = true → meth.name = "<init>") (hRm : X.2.2.1 = (R.frames, R.cells, R.slots, R.locals)) (hd : decode cc pc = .ok (.lsub, len)) (h : xk_i_lsub T X pc len  iv lo st hp kc ks = some succs) (kk : ∀ q ∈ succs, xk_G p l e R s m args below meth c Q b nL D A q.1 q.2) : xk_G p l e R s m args below meth c Q b nL D A pc (iv, lo, st, hp, kc, ks) := by
  obtain ⟨hx, hb, hml, hown, hts, hK, hA⟩ := id F
  unfold xk_i_lsub at h
  split at h
  · split at h
    · rename_i hc
      obtain ⟨hl, h1, h2⟩ := hc
      subst hl
      cases h
      exact xk_s_binL (f := fun x y => x - y) (xk_rsubL_ok) h1 h2 (fun H locs cells slots ls rest x y y1 y2 k => lv_lsub hx hb hd k) (kk _ List.mem_cons_self)
    · cases h
  · cases h
theorem xk_t_lmul {T : xk_T} {X : xk_X} {pc len : Nat} {iv : xk_N} {lo : List (Nat × xk_V)} {st : List xk_V} {hp : List xk_C} {kc ks : Nat} {succs : List (Nat × xk_S)}  (F : xk_Fx p s m args c D A own cc nL) (TK : xk_TOK own T) (GK : xk_GOK) (hX : X.1 = nL) (hI : X.2.1 = true → meth.name = "<init>") (hRm : X.2.2.1 = (R.frames, R.cells, R.slots, R.locals)) (hd : decode cc pc = .ok (.lmul, len)) (h : xk_i_lmul T X pc len  iv lo st hp kc ks = some succs) (kk : ∀ q ∈ succs, xk_G p l e R s m args below meth c Q b nL D A q.1 q.2) : xk_G p l e R s m args below meth c Q b nL D A pc (iv, lo, st, hp, kc, ks) := by
  obtain ⟨hx, hb, hml, hown, hts, hK, hA⟩ := id F
  unfold xk_i_lmul at h
  split at h
  · split at h
    · rename_i hc
      obtain ⟨hl, h1, h2⟩ := hc
      subst hl
      cases h
      exact xk_s_binL (f := fun x y => x * y) (xk_anL_ok _) h1 h2 (fun H locs cells slots ls rest x y y1 y2 k => lv_lmul hx hb hd k) (kk _ List.mem_cons_self)
    · cases h
  · cases h
theorem xk_t_land {T : xk_T} {X : xk_X} {pc len : Nat} {iv : xk_N} {lo : List (Nat × xk_V)} {st : List xk_V} {hp : List xk_C} {kc ks : Nat} {succs : List (Nat × xk_S)}  (F : xk_Fx p s m args c D A own cc nL) (TK : xk_TOK own T) (GK : xk_GOK) (hX : X.1 = nL) (hI : X.2.1 = true → meth.name = "<init>") (hRm : X.2.2.1 = (R.frames, R.cells, R.slots, R.locals)) (hd : decode cc pc = .ok (.land, len)) (h : xk_i_land T X pc len  iv lo st hp kc ks = some succs) (kk : ∀ q ∈ succs, xk_G p l e R s m args below meth c Q b nL D A q.1 q.2) : xk_G p l e R s m args below meth c Q b nL D A pc (iv, lo, st, hp, kc, ks) := by
  obtain ⟨hx, hb, hml, hown, hts, hK, hA⟩ := id F
  unfold xk_i_land at h
  split at h
  · split at h
    · rename_i hc
      obtain ⟨hl, h1, h2⟩ := hc
      subst hl
      cases h
      exact xk_s_binL (f := fun x y => x &&& y) (xk_anL_ok _) h1 h2 (fun H locs cells slots ls rest x y y1 y2 k => lv_land hx hb hd k) (kk _ List.mem_cons_self)
    · cases h
  · cases h
theorem xk_t_lor {T : xk_T} {X : xk_X} {pc len : Nat} {iv : xk_N} {lo : List (Nat × xk_V)} {st : List xk_V} {hp : List xk_C} {kc ks : Nat} {succs : List (Nat × xk_S)}  (F : xk_Fx p s m args c D A own cc nL) (TK : xk_TOK own T) (GK : xk_GOK) (hX : X.1 = nL) (hI : X.2.1 = true → meth.name = "<init>") (hRm : X.2.2.1 = (R.frames, R.cells, R.slots, R.locals)) (hd : decode cc pc = .ok (.lor, len)) (h : xk_i_lor T X pc len  iv lo st hp kc ks = some succs) (kk : ∀ q ∈ succs, xk_G p l e R s m args below meth c Q b nL D A q.1 q.2) : xk_G p l e R s m args below meth c Q b nL D A pc (iv, lo, st, hp, kc, ks) := by
  obtain ⟨hx, hb, hml, hown, hts, hK, hA⟩ := id F
  unfold xk_i_lor at h
  split at h
  · split at h
    · rename_i hc
      obtain ⟨hl, h1, h2⟩ := hc
      subst hl
      cases h
      exact xk_s_binL (f := fun x y => x ||| y) (xk_anL_ok _) h1 h2 (fun H locs cells slots ls rest x y y1 y2 k => lv_lor hx hb hd k) (kk _ List.mem_cons_self)
    · cases h
  · cases h
theorem xk_t_ldiv {T : xk_T} {X : xk_X} {pc len : Nat} {iv : xk_N} {lo : List (Nat × xk_V)} {st : List xk_V} {hp : List xk_C} {kc ks : Nat} {succs : List (Nat × xk_S)}  (F : xk_Fx p s m args c D A own cc nL) (TK : xk_TOK own T) (GK : xk_GOK) (hX : X.1 = nL) (hI : X.2.1 = true → meth.name = "<init>") (hRm : X.2.2.1 = (R.frames, R.cells, R.slots, R.locals)) (hd : decode cc pc = .ok (.ldiv, len)) (h : xk_i_ldiv T X pc len  iv lo st hp kc ks = some succs) (kk : ∀ q ∈ succs, xk_G p l e R s m args below meth c Q b nL D A q.1 q.2) : xk_G p l e R s m args below meth c Q b nL D A pc (iv, lo, st, hp, kc, ks) := by
  obtain ⟨hx, hb, hml, hown, hts, hK, hA⟩ := id F
  unfold xk_i_ldiv at h
  split at h
  · split at h
    · rename_i hc
      obtain ⟨hl, h1, h2, h3⟩ := hc
      subst hl
      cases h
      exact xk_s_binL (f := fun x y => x / y) (xk_anL_ok _) h1 h2 (fun H locs cells slots ls rest x y y1 y2 k => lv_ldiv hx hb hd (fun z => by rw [z, Int64.toInt_zero] at y1 y2; omega) k) (kk _ List.mem_cons_self)
    · cases h
  · cases h
theorem xk_t_lrem {T : xk_T} {X : xk_X} {pc len : Nat} {iv : xk_N} {lo : List (Nat × xk_V)} {st : List xk_V} {hp : List xk_C} {kc ks : Nat} {succs : List (Nat × xk_S)}  (F : xk_Fx p s m args c D A own cc nL) (TK : xk_TOK own T) (GK : xk_GOK) (hX : X.1 = nL) (hI : X.2.1 = true → meth.name = "<init>") (hRm : X.2.2.1 = (R.frames, R.cells, R.slots, R.locals)) (hd : decode cc pc = .ok (.lrem, len)) (h : xk_i_lrem T X pc len  iv lo st hp kc ks = some succs) (kk : ∀ q ∈ succs, xk_G p l e R s m args below meth c Q b nL D A q.1 q.2) : xk_G p l e R s m args below meth c Q b nL D A pc (iv, lo, st, hp, kc, ks) := by
  obtain ⟨hx, hb, hml, hown, hts, hK, hA⟩ := id F
  unfold xk_i_lrem at h
  split at h
  · split at h
    · rename_i hc
      obtain ⟨hl, h1, h2, h3⟩ := hc
      subst hl
      cases h
      exact xk_s_binL (f := fun x y => x - x / y * y) (xk_anL_ok _) h1 h2 (fun H locs cells slots ls rest x y y1 y2 k => lv_lrem hx hb hd (fun z => by rw [z, Int64.toInt_zero] at y1 y2; omega) k) (kk _ List.mem_cons_self)
    · cases h
  · cases h
theorem xk_t_lshl {T : xk_T} {X : xk_X} {pc len : Nat} {iv : xk_N} {lo : List (Nat × xk_V)} {st : List xk_V} {hp : List xk_C} {kc ks : Nat} {succs : List (Nat × xk_S)}  (F : xk_Fx p s m args c D A own cc nL) (TK : xk_TOK own T) (GK : xk_GOK) (hX : X.1 = nL) (hI : X.2.1 = true → meth.name = "<init>") (hRm : X.2.2.1 = (R.frames, R.cells, R.slots, R.locals)) (hd : decode cc pc = .ok (.lshl, len)) (h : xk_i_lshl T X pc len  iv lo st hp kc ks = some succs) (kk : ∀ q ∈ succs, xk_G p l e R s m args below meth c Q b nL D A q.1 q.2) : xk_G p l e R s m args below meth c Q b nL D A pc (iv, lo, st, hp, kc, ks) := by
  obtain ⟨hx, hb, hml, hown, hts, hK, hA⟩ := id F
  unfold xk_i_lshl at h
  split at h
  · split at h
    · rename_i hc
      obtain ⟨hl, h1, h2⟩ := hc
      subst hl
      cases h
      exact xk_s_binS (f := fun x y => x <<< (y.toInt64 &&& 63)) h1 h2 (fun H locs cells slots ls rest x y k => lv_lshl hx hb hd rfl k) (kk _ List.mem_cons_self)
    · cases h
  · cases h
theorem xk_t_lushr {T : xk_T} {X : xk_X} {pc len : Nat} {iv : xk_N} {lo : List (Nat × xk_V)} {st : List xk_V} {hp : List xk_C} {kc ks : Nat} {succs : List (Nat × xk_S)}  (F : xk_Fx p s m args c D A own cc nL) (TK : xk_TOK own T) (GK : xk_GOK) (hX : X.1 = nL) (hI : X.2.1 = true → meth.name = "<init>") (hRm : X.2.2.1 = (R.frames, R.cells, R.slots, R.locals)) (hd : decode cc pc = .ok (.lushr, len)) (h : xk_i_lushr T X pc len  iv lo st hp kc ks = some succs) (kk : ∀ q ∈ succs, xk_G p l e R s m args below meth c Q b nL D A q.1 q.2) : xk_G p l e R s m args below meth c Q b nL D A pc (iv, lo, st, hp, kc, ks) := by
  obtain ⟨hx, hb, hml, hown, hts, hK, hA⟩ := id F
  unfold xk_i_lushr at h
  split at h
  · split at h
    · rename_i hc
      obtain ⟨hl, h1, h2⟩ := hc
      subst hl
      cases h
      exact xk_s_binS (f := fun x y => (x.toUInt64 >>> (y.toInt64.toUInt64 &&& Int64.toUInt64 63)).toInt64) h1 h2 (fun H locs cells slots ls rest x y k => lv_lushr hx hb hd rfl k) (kk _ List.mem_cons_self)
    · cases h
  · cases h
theorem xk_t_i2b {T : xk_T} {X : xk_X} {pc len : Nat} {iv : xk_N} {lo : List (Nat × xk_V)} {st : List xk_V} {hp : List xk_C} {kc ks : Nat} {succs : List (Nat × xk_S)}  (F : xk_Fx p s m args c D A own cc nL) (TK : xk_TOK own T) (GK : xk_GOK) (hX : X.1 = nL) (hI : X.2.1 = true → meth.name = "<init>") (hRm : X.2.2.1 = (R.frames, R.cells, R.slots, R.locals)) (hd : decode cc pc = .ok (.i2b, len)) (h : xk_i_i2b T X pc len  iv lo st hp kc ks = some succs) (kk : ∀ q ∈ succs, xk_G p l e R s m args below meth c Q b nL D A q.1 q.2) : xk_G p l e R s m args below meth c Q b nL D A pc (iv, lo, st, hp, kc, ks) := by
  obtain ⟨hx, hb, hml, hown, hts, hK, hA⟩ := id F
  unfold xk_i_i2b at h
  split at h
  · split at h
    · rename_i hc
      obtain ⟨hl, h1⟩ := hc
      subst hl
      cases h
      exact xk_s_un (f := fun x => x.toInt8.toInt32) (fun x => xk_full_ok _) h1 (fun H locs cells slots ls rest x k => lv_i2b hx hb hd rfl k) (kk _ List.mem_cons_self)
    · cases h
  · cases h
theorem xk_t_i2s {T : xk_T} {X : xk_X} {pc len : Nat} {iv : xk_N} {lo : List (Nat × xk_V)} {st : List xk_V} {hp : List xk_C} {kc ks : Nat} {succs : List (Nat × xk_S)}  (F : xk_Fx p s m args c D A own cc nL) (TK : xk_TOK own T) (GK : xk_GOK) (hX : X.1 = nL) (hI : X.2.1 = true → meth.name = "<init>") (hRm : X.2.2.1 = (R.frames, R.cells, R.slots, R.locals)) (hd : decode cc pc = .ok (.i2s, len)) (h : xk_i_i2s T X pc len  iv lo st hp kc ks = some succs) (kk : ∀ q ∈ succs, xk_G p l e R s m args below meth c Q b nL D A q.1 q.2) : xk_G p l e R s m args below meth c Q b nL D A pc (iv, lo, st, hp, kc, ks) := by
  obtain ⟨hx, hb, hml, hown, hts, hK, hA⟩ := id F
  unfold xk_i_i2s at h
  split at h
  · split at h
    · rename_i hc
      obtain ⟨hl, h1⟩ := hc
      subst hl
      cases h
      exact xk_s_un (f := fun x => x.toInt16.toInt32) (fun x => xk_full_ok _) h1 (fun H locs cells slots ls rest x k => lv_i2s hx hb hd rfl k) (kk _ List.mem_cons_self)
    · cases h
  · cases h
theorem xk_t_i2l {T : xk_T} {X : xk_X} {pc len : Nat} {iv : xk_N} {lo : List (Nat × xk_V)} {st : List xk_V} {hp : List xk_C} {kc ks : Nat} {succs : List (Nat × xk_S)}  (F : xk_Fx p s m args c D A own cc nL) (TK : xk_TOK own T) (GK : xk_GOK) (hX : X.1 = nL) (hI : X.2.1 = true → meth.name = "<init>") (hRm : X.2.2.1 = (R.frames, R.cells, R.slots, R.locals)) (hd : decode cc pc = .ok (.i2l, len)) (h : xk_i_i2l T X pc len  iv lo st hp kc ks = some succs) (kk : ∀ q ∈ succs, xk_G p l e R s m args below meth c Q b nL D A q.1 q.2) : xk_G p l e R s m args below meth c Q b nL D A pc (iv, lo, st, hp, kc, ks) := by
  obtain ⟨hx, hb, hml, hown, hts, hK, hA⟩ := id F
  unfold xk_i_i2l at h
  split at h
  · split at h
    · rename_i hc
      obtain ⟨hl, h1⟩ := hc
      subst hl
      cases h
      exact xk_s_i2l h1 (fun H locs cells slots ls rest x k => lv_i2l hx hb hd rfl k) (kk _ List.mem_cons_self)
    · cases h
  · cases h
theorem xk_t_l2i {T : xk_T} {X : xk_X} {pc len : Nat} {iv : xk_N} {lo : List (Nat × xk_V)} {st : List xk_V} {hp : List xk_C} {kc ks : Nat} {succs : List (Nat × xk_S)}  (F : xk_Fx p s m args c D A own cc nL) (TK : xk_TOK own T) (GK : xk_GOK) (hX : X.1 = nL) (hI : X.2.1 = true → meth.name = "<init>") (hRm : X.2.2.1 = (R.frames, R.cells, R.slots, R.locals)) (hd : decode cc pc = .ok (.l2i, len)) (h : xk_i_l2i T X pc len  iv lo st hp kc ks = some succs) (kk : ∀ q ∈ succs, xk_G p l e R s m args below meth c Q b nL D A q.1 q.2) : xk_G p l e R s m args below meth c Q b nL D A pc (iv, lo, st, hp, kc, ks) := by
  obtain ⟨hx, hb, hml, hown, hts, hK, hA⟩ := id F
  unfold xk_i_l2i at h
  split at h
  · split at h
    · rename_i hc
      obtain ⟨hl, h1⟩ := hc
      subst hl
      cases h
      exact xk_s_l2i h1 (fun H locs cells slots ls rest x k => lv_l2i hx hb hd rfl k) (kk _ List.mem_cons_self)
    · cases h
  · cases h
theorem xk_t_lcmp {T : xk_T} {X : xk_X} {pc len : Nat} {iv : xk_N} {lo : List (Nat × xk_V)} {st : List xk_V} {hp : List xk_C} {kc ks : Nat} {succs : List (Nat × xk_S)}  (F : xk_Fx p s m args c D A own cc nL) (TK : xk_TOK own T) (GK : xk_GOK) (hX : X.1 = nL) (hI : X.2.1 = true → meth.name = "<init>") (hRm : X.2.2.1 = (R.frames, R.cells, R.slots, R.locals)) (hd : decode cc pc = .ok (.lcmp, len)) (h : xk_i_lcmp T X pc len  iv lo st hp kc ks = some succs) (kk : ∀ q ∈ succs, xk_G p l e R s m args below meth c Q b nL D A q.1 q.2) : xk_G p l e R s m args below meth c Q b nL D A pc (iv, lo, st, hp, kc, ks) := by
  obtain ⟨hx, hb, hml, hown, hts, hK, hA⟩ := id F
  unfold xk_i_lcmp at h
  split at h
  · split at h
    · rename_i hc
      obtain ⟨hl, h1, h2⟩ := hc
      subst hl
      cases h
      exact xk_s_lcmp h1 h2 (fun H locs cells slots ls rest x y k => W.lcmp hx hb hd k) (fun iv1 e => kk _ (List.mem_append_left _ (xk_opt_mem e))) (fun iv1 iv2 e e' => kk _ (List.mem_append_right _ (List.mem_append_left _ (xk_opt_mem (xk_eq2_of e e'))))) (fun iv1 e => kk _ (List.mem_append_right _ (List.mem_append_right _ (xk_opt_mem e))))
    · cases h
  · cases h
theorem xk_t_dup {T : xk_T} {X : xk_X} {pc len : Nat} {iv : xk_N} {lo : List (Nat × xk_V)} {st : List xk_V} {hp : List xk_C} {kc ks : Nat} {succs : List (Nat × xk_S)}  (F : xk_Fx p s m args c D A own cc nL) (TK : xk_TOK own T) (GK : xk_GOK) (hX : X.1 = nL) (hI : X.2.1 = true → meth.name = "<init>") (hRm : X.2.2.1 = (R.frames, R.cells, R.slots, R.locals)) (hd : decode cc pc = .ok (.dup, len)) (h : xk_i_dup T X pc len  iv lo st hp kc ks = some succs) (kk : ∀ q ∈ succs, xk_G p l e R s m args below meth c Q b nL D A q.1 q.2) : xk_G p l e R s m args below meth c Q b nL D A pc (iv, lo, st, hp, kc, ks) := by
  obtain ⟨hx, hb, hml, hown, hts, hK, hA⟩ := id F
  unfold xk_i_dup at h
  split at h
  · split at h
    · rename_i hc
      obtain ⟨hl, h1⟩ := hc
      subst hl
      cases h
      intro env ad H locs ls sv hI0
      obtain ⟨v, rest, rfl, hv, h0⟩ := xk_pop hI0
      exact lv_dup hx hb hd (by rw [xk_v_cat hv]; exact h1) (kk _ List.mem_cons_self _ _ _ _ _ _ (xk_push (xk_push h0 hv) hv))
    · cases h
  · cases h
theorem xk_t_pop {T : xk_T} {X : xk_X} {pc len : Nat} {iv : xk_N} {lo : List (Nat × xk_V)} {st : List xk_V} {hp : List xk_C} {kc ks : Nat} {succs : List (Nat × xk_S)}  (F : xk_Fx p s m args c D A own cc nL) (TK : xk_TOK own T) (GK : xk_GOK) (hX : X.1 = nL) (hI : X.2.1 = true → meth.name = "<init>") (hRm : X.2.2.1 = (R.frames, R.cells, R.slots, R.locals)) (hd : decode cc pc = .ok (.pop, len)) (h : xk_i_pop T X pc len  iv lo st hp kc ks = some succs) (kk : ∀ q ∈ succs, xk_G p l e R s m args below meth c Q b nL D A q.1 q.2) : xk_G p l e R s m args below meth c Q b nL D A pc (iv, lo, st, hp, kc, ks) := by
  obtain ⟨hx, hb, hml, hown, hts, hK, hA⟩ := id F
  unfold xk_i_pop at h
  split at h
  · split at h
    · rename_i hc
      obtain ⟨hl, h1⟩ := hc
      subst hl
      cases h
      intro env ad H locs ls sv hI0
      obtain ⟨v, rest, rfl, hv, h0⟩ := xk_pop hI0
      exact lv_pop hx hb hd (by rw [xk_v_cat hv]; exact h1) (kk _ List.mem_cons_self _ _ _ _ _ _ h0)
    · cases h
  · cases h
theorem xk_t_dup2 {T : xk_T} {X : xk_X} {pc len : Nat} {iv : xk_N} {lo : List (Nat × xk_V)} {st : List xk_V} {hp : List xk_C} {kc ks : Nat} {succs : List (Nat × xk_S)}  (F : xk_Fx p s m args c D A own cc nL) (TK : xk_TOK own T) (GK : xk_GOK) (hX : X.1 = nL) (hI : X.2.1 = true → meth.name = "<init>") (hRm : X.2.2.1 = (R.frames, R.cells, R.slots, R.locals)) (hd : decode cc pc = .ok (.dup2, len)) (h : xk_i_dup2 T X pc len  iv lo st hp kc ks = some succs) (kk : ∀ q ∈ succs, xk_G p l e R s m args below meth c Q b nL D A q.1 q.2) : xk_G p l e R s m args below meth c Q b nL D A pc (iv, lo, st, hp, kc, ks) := by
  obtain ⟨hx, hb, hml, hown, hts, hK, hA⟩ := id F
  unfold xk_i_dup2 at h
  split at h
  · split at h
    · rename_i hc
      obtain ⟨hl, h1, h2⟩ := hc
      subst hl
      cases h
      intro env ad H locs ls sv hI0
      obtain ⟨v, r1, rfl, hv, h0⟩ := xk_pop hI0
      obtain ⟨v2, rest, rfl, hv2, h0⟩ := xk_pop h0
      exact lv_dup2_11 hx hb hd (by rw [xk_v_cat hv]; exact h1) (by rw [xk_v_cat hv2]; exact h2) (kk _ List.mem_cons_self _ _ _ _ _ _ (xk_push (xk_push (xk_push (xk_push h0 hv2) hv) hv2) hv))
    · cases h
  · cases h
theorem xk_t_goto {T : xk_T} {X : xk_X} {pc len : Nat} {iv : xk_N} {lo : List (Nat × xk_V)} {st : List xk_V} {hp : List xk_C} {kc ks : Nat} {succs : List (Nat × xk_S)} {off : Int} (F : xk_Fx p s m args c D A own cc nL) (TK : xk_TOK own T) (GK : xk_GOK) (hX : X.1 = nL) (hI : X.2.1 = true → meth.name = "<init>") (hRm : X.2.2.1 = (R.frames, R.cells, R.slots, R.locals)) (hd : decode cc pc = .ok (.goto off, len)) (h : xk_i_goto T X pc len off iv lo st hp kc ks = some succs) (kk : ∀ q ∈ succs, xk_G p l e R s m args below meth c Q b nL D A q.1 q.2) : xk_G p l e R s m args below meth c Q b nL D A pc (iv, lo, st, hp, kc, ks) := by
  obtain ⟨hx, hb, hml, hown, hts, hK, hA⟩ := id F
  unfold xk_i_goto at h
  split at h
  · rename_i hl
    subst hl
    split at h
    · rename_i t ht
      cases h
      intro env ad H locs ls sv hI0
      exact lv_goto hx hb hd (xk_tgt_ok ht) (kk _ List.mem_cons_self _ _ _ _ _ _ hI0)
    · cases h
  · cases h
theorem xk_t_icmp_lt {T : xk_T} {X : xk_X} {pc len : Nat} {iv : xk_N} {lo : List (Nat × xk_V)} {st : List xk_V} {hp : List xk_C} {kc ks : Nat} {succs : List (Nat × xk_S)} {off : Int} (F : xk_Fx p s m args c D A own cc nL) (TK : xk_TOK own T) (GK : xk_GOK) (hX : X.1 = nL) (hI : X.2.1 = true → meth.name = "<init>") (hRm : X.2.2.1 = (R.frames, R.cells, R.slots, R.locals)) (hd : decode cc pc = .ok (.if_icmp .lt off, len)) (h : xk_i_icmp_lt T X pc len off iv lo st hp kc ks = some succs) (kk : ∀ q ∈ succs, xk_G p l e R s m args below meth c Q b nL D A q.1 q.2) : xk_G p l e R s m args below meth c Q b nL D A pc (iv, lo, st, hp, kc, ks) := by
  obtain ⟨hx, hb, hml, hown, hts, hK, hA⟩ := id F
  unfold xk_i_icmp_lt at h
  split at h
  · split at h
    · rename_i hc
      obtain ⟨hl, h1, h2⟩ := hc
      subst hl
      split at h
      · rename_i t ht
        cases h
        exact xk_s_cmpA h1 h2 (fun H locs cells slots ls rest x y k1 k2 => lv_icmp_lt hx hb hd (xk_tgt_ok ht) (fun z => k1 (Int32.lt_iff_toInt_lt.mp z)) (fun z => k2 (by rw [Int32.lt_iff_toInt_lt] at z; omega))) (fun iv1 e => kk _ (List.mem_append_left _ (xk_opt_mem e))) (fun iv1 e => kk _ (List.mem_append_right _ (xk_opt_mem e)))
      · cases h
    · cases h
  · cases h
theorem xk_t_if_lt {T : xk_T} {X : xk_X} {pc len : Nat} {iv : xk_N} {lo : List (Nat × xk_V)} {st : List xk_V} {hp : List xk_C} {kc ks : Nat} {succs : List (Nat × xk_S)} {off : Int} (F : xk_Fx p s m args c D A own cc nL) (TK : xk_TOK own T) (GK : xk_GOK) (hX : X.1 = nL) (hI : X.2.1 = true → meth.name = "<init>") (hRm : X.2.2.1 = (R.frames, R.cells, R.slots, R.locals)) (hd : decode cc pc = .ok (.ifCond .lt off, len)) (h : xk_i_if_lt T X pc len off iv lo st hp kc ks = some succs) (kk : ∀ q ∈ succs, xk_G p l e R s m args below meth c Q b nL D A q.1 q.2) : xk_G p l e R s m args below meth c Q b nL D A pc (iv, lo, st, hp, kc, ks) := by
  obtain ⟨hx, hb, hml, hown, hts, hK, hA⟩ := id F
  unfold xk_i_if_lt at h
  split at h
  · split at h
    · rename_i hc
      obtain ⟨hl, h1⟩ := hc
      subst hl
      split at h
      · rename_i t ht
        cases h
        exact xk_s_cmpA0 h1 (fun H locs cells slots ls rest x k1 k2 => lv_if_lt hx hb hd (xk_tgt_ok ht) (fun z => k1 (by rw [Int32.lt_iff_toInt_lt, Int32.toInt_zero] at z; exact z)) (fun z => k2 (by rw [Int32.lt_iff_toInt_lt, Int32.toInt_zero] at z; omega))) (fun iv1 e => kk _ (List.mem_append_left _ (xk_opt_mem e))) (fun iv1 e => kk _ (List.mem_append_right _ (xk_opt_mem e)))
      · cases h
    · cases h
  · cases h
theorem xk_t_icmp_ge {T : xk_T} {X : xk_X} {pc len : Nat} {iv : xk_N} {lo : List (Nat × xk_V)} {st : List xk_V} {hp : List xk_C} {kc ks : Nat} {succs : List (Nat × xk_S)} {off : Int} (F : xk_Fx p s m args c D A own cc nL) (TK : xk_TOK own T) (GK : xk_GOK) (hX : X.1 = nL) (hI : X.2.1 = true → meth.name = "<init>") (hRm : X.2.2.1 = (R.frames, R.cells, R.slots, R.locals)) (hd : decode cc pc = .ok (.if_icmp .ge off, len)) (h : xk_i_icmp_ge T X pc len off iv lo st hp kc ks = some succs) (kk : ∀ q ∈ succs, xk_G p l e R s m args below meth c Q b nL D A q.1 q.2) : xk_G p l e R s m args below meth c Q b nL D A pc (iv, lo, st, hp, kc, ks) := by
  obtain ⟨hx, hb, hml, hown, hts, hK, hA⟩ := id F
  unfold xk_i_icmp_ge at h
  split at h
  · split at h
    · rename_i hc
      obtain ⟨hl, h1, h2⟩ := hc
      subst hl
      split at h
      · rename_i t ht
        cases h
        exact xk_s_cmpA h1 h2 (fun H locs cells slots ls rest x y k1 k2 => lv_icmp_ge hx hb hd (xk_tgt_ok ht) (fun z => k2 (Int32.le_iff_toInt_le.mp z)) (fun z => k1 (by rw [Int32.le_iff_toInt_le] at z; omega))) (fun iv1 e => kk _ (List.mem_append_left _ (xk_opt_mem e))) (fun iv1 e => kk _ (List.mem_append_right _ (xk_opt_mem e)))
      · cases h
    · cases h
  · cases h
theorem xk_t_if_ge {T : xk_T} {X : xk_X} {pc len : Nat} {iv : xk_N} {lo : List (Nat × xk_V)} {st : List xk_V} {hp : List xk_C} {kc ks : Nat} {succs : List (Nat × xk_S)} {off : Int} (F : xk_Fx p s m args c D A own cc nL) (TK : xk_TOK own T) (GK : xk_GOK) (hX : X.1 = nL) (hI : X.2.1 = true → meth.name = "<init>") (hRm : X.2.2.1 = (R.frames, R.cells, R.slots, R.locals)) (hd : decode cc pc = .ok (.ifCond .ge off, len)) (h : xk_i_if_ge T X pc len off iv lo st hp kc ks = some succs) (kk : ∀ q ∈ succs, xk_G p l e R s m args below meth c Q b nL D A q.1 q.2) : xk_G p l e R s m args below meth c Q b nL D A pc (iv, lo, st, hp, kc, ks) := by
  obtain ⟨hx, hb, hml, hown, hts, hK, hA⟩ := id F
  unfold xk_i_if_ge at h
  split at h
  · split at h
    · rename_i hc
      obtain ⟨hl, h1⟩ := hc
      subst hl
      split at h
      · rename_i t ht
        cases h
        exact xk_s_cmpA0 h1 (fun H locs cells slots ls rest x k1 k2 => lv_if_ge hx hb hd (xk_tgt_ok ht) (fun z => k2 (by rw [Int32.le_iff_toInt_le, Int32.toInt_zero] at z; exact z)) (fun z => k1 (by rw [Int32.le_iff_toInt_le, Int32.toInt_zero] at z; omega))) (fun iv1 e => kk _ (List.mem_append_left _ (xk_opt_mem e))) (fun iv1 e => kk _ (List.mem_append_right _ (xk_opt_mem e)))
      · cases h
    · cases h
  · cases h
theorem xk_t_icmp_gt {T : xk_T} {X : xk_X} {pc len : Nat} {iv : xk_N} {lo : List (Nat × xk_V)} {st : List xk_V} {hp : List xk_C} {kc ks : Nat} {succs : List (Nat × xk_S)} {off : Int} (F : xk_Fx p s m args c D A own cc nL) (TK : xk_TOK own T) (GK : xk_GOK) (hX : X.1 = nL) (hI : X.2.1 = true → meth.name = "<init>") (hRm : X.2.2.1 = (R.frames, R.cells, R.slots, R.locals)) (hd : decode cc pc = .ok (.if_icmp .gt off, len)) (h : xk_i_icmp_gt T X pc len off iv lo st hp kc ks = some succs) (kk : ∀ q ∈ succs, xk_G p l e R s m args below meth c Q b nL D A q.1 q.2) : xk_G p l e R s m args below meth c Q b nL D A pc (iv, lo, st, hp, kc, ks) := by
  obtain ⟨hx, hb, hml, hown, hts, hK, hA⟩ := id F
  unfold xk_i_icmp_gt at h
  split at h
  · split at h
    · rename_i hc
      obtain ⟨hl, h1, h2⟩ := hc
      subst hl
      split at h
      · rename_i t ht
        cases h
        exact xk_s_cmpB h1 h2 (fun H locs cells slots ls rest x y k1 k2 => lv_icmp_gt hx hb hd (xk_tgt_ok ht) (fun z => k1 (Int32.lt_iff_toInt_lt.mp z)) (fun z => k2 (by rw [Int32.lt_iff_toInt_lt] at z; omega))) (fun iv1 e => kk _ (List.mem_append_left _ (xk_opt_mem e))) (fun iv1 e => kk _ (List.mem_append_right _ (xk_opt_mem e)))
      · cases h
    · cases h
  · cases h
theorem xk_t_if_gt {T : xk_T} {X : xk_X} {pc len : Nat} {iv : xk_N} {lo : List (Nat × xk_V)} {st : List xk_V} {hp : List xk_C} {kc ks : Nat} {succs : List (Nat × xk_S)} {off : Int} (F : xk_Fx p s m args c D A own cc nL) (TK : xk_TOK own T) (GK : xk_GOK) (hX : X.1 = nL) (hI : X.2.1 = true → meth.name = "<init>") (hRm : X.2.2.1 = (R.frames, R.cells, R.slots, R.locals)) (hd : decode cc pc = .ok (.ifCond .gt off, len)) (h : xk_i_if_gt T X pc len off iv lo st hp kc ks = some succs) (kk : ∀ q ∈ succs, xk_G p l e R s m args below meth c Q b nL D A q.1 q.2) : xk_G p l e R s m args below meth c Q b nL D A pc (iv, lo, st, hp, kc, ks) := by
  obtain ⟨hx, hb, hml, hown, hts, hK, hA⟩ := id F
  unfold xk_i_if_gt at h
  split at h
  · split at h
    · rename_i hc
      obtain ⟨hl, h1⟩ := hc
      subst hl
      split at h
      · rename_i t ht
        cases h
        exact xk_s_cmpB0 h1 (fun H locs cells slots ls rest x k1 k2 => lv_if_gt hx hb hd (xk_tgt_ok ht) (fun z => k1 (by rw [Int32.lt_iff_toInt_lt, Int32.toInt_zero] at z; exact z)) (fun z => k2 (by rw [Int32.lt_iff_toInt_lt, Int32.toInt_zero] at z; omega))) (fun iv1 e => kk _ (List.mem_append_left _ (xk_opt_mem e))) (fun iv1 e => kk _ (List.mem_append_right _ (xk_opt_mem e)))
      · cases h
    · cases h
  · cases h
theorem xk_t_icmp_le {T : xk_T} {X : xk_X} {pc len : Nat} {iv : xk_N} {lo : List (Nat × xk_V)} {st : List xk_V} {hp : List xk_C} {kc ks : Nat} {succs : List (Nat × xk_S)} {off : Int} (F : xk_Fx p s m args c D A own cc nL) (TK : xk_TOK own T) (GK : xk_GOK) (hX : X.1 = nL) (hI : X.2.1 = true → meth.name = "<init>") (hRm : X.2.2.1 = (R.frames, R.cells, R.slots, R.locals)) (hd : decode cc pc = .ok (.if_icmp .le off, len)) (h : xk_i_icmp_le T X pc len off iv lo st hp kc ks = some succs) (kk : ∀ q ∈ succs, xk_G p l e R s m args below meth c Q b nL D A q.1 q.2) : xk_G p l e R s m args below meth c Q b nL D A pc (iv, lo, st, hp, kc, ks) := by
  obtain ⟨hx, hb, hml, hown, hts, hK, hA⟩ := id F
  unfold xk_i_icmp_le at h
  split at h
  · split at h
    · rename_i hc
      obtain ⟨hl, h1, h2⟩ := hc
      subst hl
      split at h
      · rename_i t ht
        cases h
        exact xk_s_cmpB h1 h2 (fun H locs cells slots ls rest x y k1 k2 => lv_icmp_le hx hb hd (xk_tgt_ok ht) (fun z => k2 (Int32.le_iff_toInt_le.mp z)) (fun z => k1 (by rw [Int32.le_iff_toInt_le] at z; omega))) (fun iv1 e => kk _ (List.mem_append_left _ (xk_opt_mem e))) (fun iv1 e => kk _ (List.mem_append_right _ (xk_opt_mem e)))
      · cases h
    · cases h
  · cases h
theorem xk_t_if_le {T : xk_T} {X : xk_X} {pc len : Nat} {iv : xk_N} {lo : List (Nat × xk_V)} {st : List xk_V} {hp : List xk_C} {kc ks : Nat} {succs : List (Nat × xk_S)} {off : Int} (F : xk_Fx p s m args c D A own cc nL) (TK : xk_TOK own T) (GK : xk_GOK) (hX : X.1 = nL) (hI : X.2.1 = true → meth.name = "<init>") (hRm : X.2.2.1 = (R.frames, R.cells, R.slots, R.locals)) (hd : decode cc pc = .ok (.ifCond .le off, len)) (h : xk_i_if_le T X pc len off iv lo st hp kc ks = some succs) (kk : ∀ q ∈ succs, xk_G p l e R s m args below meth c Q b nL D A q.1 q.2) : xk_G p l e R s m args below meth c Q b nL D A pc (iv, lo, st, hp, kc, ks) := by
  obtain ⟨hx, hb, hml, hown, hts, hK, hA⟩ := id F
  unfold xk_i_if_le at h
  split at h
  · split at h
    · rename_i hc
      obtain ⟨hl, h1⟩ := hc
      subst hl
      split at h
      · rename_i t ht
        cases h
        exact xk_s_cmpB0 h1 (fun H locs cells slots ls rest x k1 k2 => lv_if_le hx hb hd (xk_tgt_ok ht) (fun z => k2 (by rw [Int32.le_iff_toInt_le, Int32.toInt_zero] at z; exact z)) (fun z => k1 (by rw [Int32.le_iff_toInt_le, Int32.toInt_zero] at z; omega))) (fun iv1 e => kk _ (List.mem_append_left _ (xk_opt_mem e))) (fun iv1 e => kk _ (List.mem_append_right _ (xk_opt_mem e)))
      · cases h
    · cases h
  · cases h
theorem xk_t_icmp_eq {T : xk_T} {X : xk_X} {pc len : Nat} {iv : xk_N} {lo : List (Nat × xk_V)} {st : List xk_V} {hp : List xk_C} {kc ks : Nat} {succs : List (Nat × xk_S)} {off : Int} (F : xk_Fx p s m args c D A own cc nL) (TK : xk_TOK own T) (GK : xk_GOK) (hX : X.1 = nL) (hI : X.2.1 = true → meth.name = "<init>") (hRm : X.2.2.1 = (R.frames, R.cells, R.slots, R.locals)) (hd : decode cc pc = .ok (.if_icmp .eq off, len)) (h : xk_i_icmp_eq T X pc len off iv lo st hp kc ks = some succs) (kk : ∀ q ∈ succs, xk_G p l e R s m args below meth c Q b nL D A q.1 q.2) : xk_G p l e R s m args below meth c Q b nL D A pc (iv, lo, st, hp, kc, ks) := by
  obtain ⟨hx, hb, hml, hown, hts, hK, hA⟩ := id F
  unfold xk_i_icmp_eq at h
  split at h
  · split at h
    · rename_i hc
      obtain ⟨hl, h1, h2⟩ := hc
      subst hl
      split at h
      · rename_i t ht
        cases h
        exact xk_s_cmp h1 h2 (fun H locs cells slots ls rest x y k1 k2 k3 => lv_icmp_eq hx hb hd (xk_tgt_ok ht) (fun z => k2 (by rw [z])) (fun z => by have z2 : ¬ x.toInt = y.toInt := fun q => z (Int32.toInt_inj.mp q); rcases (show x.toInt < y.toInt ∨ y.toInt < x.toInt by omega) with q | q; exact k1 q; exact k3 q)) (fun iv1 e => kk _ (List.mem_append_left _ (xk_opt_mem e))) (fun iv1 iv2 e e' => kk _ (List.mem_append_right _ (List.mem_append_left _ (xk_opt_mem (xk_eq2_of e e'))))) (fun iv1 e => kk _ (List.mem_append_right _ (List.mem_append_right _ (xk_opt_mem e))))
      · cases h
    · cases h
  · cases h
theorem xk_t_if_eq {T : xk_T} {X : xk_X} {pc len : Nat} {iv : xk_N} {lo : List (Nat × xk_V)} {st : List xk_V} {hp : List xk_C} {kc ks : Nat} {succs : List (Nat × xk_S)} {off : Int} (F : xk_Fx p s m args c D A own cc nL) (TK : xk_TOK own T) (GK : xk_GOK) (hX : X.1 = nL) (hI : X.2.1 = true → meth.name = "<init>") (hRm : X.2.2.1 = (R.frames, R.cells, R.slots, R.locals)) (hd : decode cc pc = .ok (.ifCond .eq off, len)) (h : xk_i_if_eq T X pc len off iv lo st hp kc ks = some succs) (kk : ∀ q ∈ succs, xk_G p l e R s m args below meth c Q b nL D A q.1 q.2) : xk_G p l e R s m args below meth c Q b nL D A pc (iv, lo, st, hp, kc, ks) := by
  obtain ⟨hx, hb, hml, hown, hts, hK, hA⟩ := id F
  unfold xk_i_if_eq at h
  split at h
  · split at h
    · rename_i hc
      obtain ⟨hl, h1⟩ := hc
      subst hl
      split at h
      · rename_i t ht
        cases h
        exact xk_s_cmp0 h1 (fun H locs cells slots ls rest x k1 k2 k3 => lv_if_eq hx hb hd (xk_tgt_ok ht) (fun z => k2 (by rw [z]; rfl)) (fun z => by have z2 : ¬ x.toInt = 0 := fun q => z (Int32.toInt_inj.mp q); rcases (show x.toInt < 0 ∨ 0 < x.toInt by omega) with q | q; exact k1 q; exact k3 q)) (fun iv1 e => kk _ (List.mem_append_left _ (xk_opt_mem e))) (fun iv1 iv2 e e' => kk _ (List.mem_append_right _ (List.mem_append_left _ (xk_opt_mem (xk_eq2_of e e'))))) (fun iv1 e => kk _ (List.mem_append_right _ (List.mem_append_right _ (xk_opt_mem e))))
      · cases h
    · cases h
  · cases h
theorem xk_t_icmp_ne {T : xk_T} {X : xk_X} {pc len : Nat} {iv : xk_N} {lo : List (Nat × xk_V)} {st : List xk_V} {hp : List xk_C} {kc ks : Nat} {succs : List (Nat × xk_S)} {off : Int} (F : xk_Fx p s m args c D A own cc nL) (TK : xk_TOK own T) (GK : xk_GOK) (hX : X.1 = nL) (hI : X.2.1 = true → meth.name = "<init>") (hRm : X.2.2.1 = (R.frames, R.cells, R.slots, R.locals)) (hd : decode cc pc = .ok (.if_icmp .ne off, len)) (h : xk_i_icmp_ne T X pc len off iv lo st hp kc ks = some succs) (kk : ∀ q ∈ succs, xk_G p l e R s m args below meth c Q b nL D A q.1 q.2) : xk_G p l e R s m args below meth c Q b nL D A pc (iv, lo, st, hp, kc, ks) := by
  obtain ⟨hx, hb, hml, hown, hts, hK, hA⟩ := id F
  unfold xk_i_icmp_ne at h
  split at h
  · split at h
    · rename_i hc
      obtain ⟨hl, h1, h2⟩ := hc
      subst hl
      split at h
      · rename_i t ht
        cases h
        exact xk_s_cmp h1 h2 (fun H locs cells slots ls rest x y k1 k2 k3 => lv_icmp_ne hx hb hd (xk_tgt_ok ht) (fun z => by have z2 : ¬ x.toInt = y.toInt := fun q => z (Int32.toInt_inj.mp q); rcases (show x.toInt < y.toInt ∨ y.toInt < x.toInt by omega) with q | q; exact k1 q; exact k3 q) (fun z => k2 (by rw [z]))) (fun iv1 e => kk _ (List.mem_append_left _ (xk_opt_mem e))) (fun iv1 iv2 e e' => kk _ (List.mem_append_right _ (List.mem_append_left _ (xk_opt_mem (xk_eq2_of e e'))))) (fun iv1 e => kk _ (List.mem_append_right _ (List.mem_append_right _ (xk_opt_mem e))))
      · cases h
    · cases h
  · cases h
theorem xk_t_if_ne {T : xk_T} {X : xk_X} {pc len : Nat} {iv : xk_N} {lo : List (Nat × xk_V)} {st : List xk_V} {hp : List xk_C} {kc ks : Nat} {succs : List (Nat × xk_S)} {off : Int} (F : xk_Fx p s m args c D A own cc nL) (TK : xk_TOK own T) (GK : xk_GOK) (hX : X.1 = nL) (hI : X.2.1 = true → meth.name = "<init>") (hRm : X.2.2.1 = (R.frames, R.cells, R.slots, R.locals)) (hd : decode cc pc = .ok (.ifCond .ne off, len)) (h : xk_i_if_ne T X pc len off iv lo st hp kc ks = some succs) (kk : ∀ q ∈ succs, xk_G p l e R s m args below meth c Q b nL D A q.1 q.2) : xk_G p l e R s m args below meth c Q b nL D A pc (iv, lo, st, hp, kc, ks) := by
  obtain ⟨hx, hb, hml, hown, hts, hK, hA⟩ := id F
  unfold xk_i_if_ne at h
  split at h
  · split at h
    · rename_i hc
      obtain ⟨hl, h1⟩ := hc
      subst hl
      split at h
      · rename_i t ht
        cases h
        exact xk_s_cmp0 h1 (fun H locs cells slots ls rest x k1 k2 k3 => lv_if_ne hx hb hd (xk_tgt_ok ht) (fun z => by have z2 : ¬ x.toInt = 0 := fun q => z (Int32.toInt_inj.mp q); rcases (show x.toInt < 0 ∨ 0 < x.toInt by omega) with q | q; exact k1 q; exact k3 q) (fun z => k2 (by rw [z]; rfl))) (fun iv1 e => kk _ (List.mem_append_left _ (xk_opt_mem e))) (fun iv1 iv2 e e' => kk _ (List.mem_append_right _ (List.mem_append_left _ (xk_opt_mem (xk_eq2_of e e'))))) (fun iv1 e => kk _ (List.mem_append_right _ (List.mem_append_right _ (xk_opt_mem e))))
      · cases h
    · cases h
  · cases h
theorem xk_t_tableswitch {T : xk_T} {X : xk_X} {pc len : Nat} {iv : xk_N} {lo : List (Nat × xk_V)} {st : List xk_V} {hp : List xk_C} {kc ks : Nat} {succs : List (Nat × xk_S)} {dflt tlo thi : Int} {offs : Array Int} (F : xk_Fx p s m args c D A own cc nL) (TK : xk_TOK own T) (GK : xk_GOK) (hX : X.1 = nL) (hI : X.2.1 = true → meth.name = "<init>") (hRm : X.2.2.1 = (R.frames, R.cells, R.slots, R.locals)) (hd : decode cc pc = .ok (.tableswitch dflt tlo thi offs, len)) (h : xk_i_tableswitch T X pc len dflt tlo thi offs iv lo st hp kc ks = some succs) (kk : ∀ q ∈ succs, xk_G p l e R s m args below meth c Q b nL D A q.1 q.2) : xk_G p l e R s m args below meth c Q b nL D A pc (iv, lo, st, hp, kc, ks) := by
  obtain ⟨hx, hb, hml, hown, hts, hK, hA⟩ := id F
  unfold xk_i_tableswitch at h
  split at h
  · rename_i a0 st0
    split at h
    · rename_i hc
      obtain ⟨h1, h2, h3⟩ := hc
      split at h
      · rename_i dt hdt
        cases h
        refine xk_s_tsw F h1 hd h2 (xk_tgt_ok hdt) (fun j off iv1 ho e => ?_) (fun iv1 e => kk _ (List.mem_append_right _ (List.mem_append_left _ (xk_opt_mem e)))) (fun iv1 e => kk _ (List.mem_append_right _ (List.mem_append_right _ (xk_opt_mem e))))
        have hm : off ∈ offs.toList := by
          rw [Array.mem_toList_iff]
          exact Array.mem_of_getElem? ho
        have hs := List.all_eq_true.mp h3 off hm
        obtain ⟨t, ht⟩ := Option.isSome_iff_exists.mp hs
        refine ⟨t, xk_tgt_ok ht, ?_⟩
        have hj : j < offs.size := (Array.getElem?_eq_some_iff.mp ho).1
        have hk2 := kk (t, (iv1, lo, st0, hp, kc, ks)) (List.mem_append_left _ (List.mem_flatMap.mpr ⟨j, List.mem_range.mpr hj, by
          rw [ho]
          have h9 := xk_opt_mem (f := fun iv1 => ((xk_tgt pc off).getD 0, (iv1, lo, st0, hp, kc, ks))) e
          rw [ht] at h9
          dsimp only
          rw [ht]
          exact h9⟩))
        exact hk2
      · cases h
    · cases h
  · cases h
theorem xk_t_ifnull {T : xk_T} {X : xk_X} {pc len : Nat} {iv : xk_N} {lo : List (Nat × xk_V)} {st : List xk_V} {hp : List xk_C} {kc ks : Nat} {succs : List (Nat × xk_S)} {off : Int} (F : xk_Fx p s m args c D A own cc nL) (TK : xk_TOK own T) (GK : xk_GOK) (hX : X.1 = nL) (hI : X.2.1 = true → meth.name = "<init>") (hRm : X.2.2.1 = (R.frames, R.cells, R.slots, R.locals)) (hd : decode cc pc = .ok (.ifnull off, len)) (h : xk_i_ifnull T X pc len off iv lo st hp kc ks = some succs) (kk : ∀ q ∈ succs, xk_G p l e R s m args below meth c Q b nL D A q.1 q.2) : xk_G p l e R s m args below meth c Q b nL D A pc (iv, lo, st, hp, kc, ks) := by
  obtain ⟨hx, hb, hml, hown, hts, hK, hA⟩ := id F
  unfold xk_i_ifnull at h
  split at h
  · rename_i a0 st0
    obtain ⟨at0, ai⟩ := a0
    split at h
    · rename_i hl
      subst hl
      split at h
      · rename_i t ht
        split at h
        · rename_i ha
          cases h
          intro env ad H locs ls sv hI0
          obtain ⟨v, rest, rfl, hv, h0⟩ := xk_pop hI0
          have ha' : at0 = 2 := ha
          subst ha'
          obtain ⟨ra, rfl, -⟩ := hv
          exact lv_ifnull hx hb hd (kk _ List.mem_cons_self _ _ _ _ _ _ h0)
        · split at h
          · rename_i ha
            cases h
            intro env ad H locs ls sv hI0
            obtain ⟨v, rest, rfl, hv, h0⟩ := xk_pop hI0
            have ha' : at0 = 3 := ha
            subst ha'
            have hv' : v = .null := hv
            subst hv'
            exact lv_ifnullN hx hb hd (xk_tgt_ok ht) (kk _ List.mem_cons_self _ _ _ _ _ _ h0)
          · cases h
      · cases h
    · cases h
  · cases h
theorem xk_t_ifnonnull {T : xk_T} {X : xk_X} {pc len : Nat} {iv : xk_N} {lo : List (Nat × xk_V)} {st : List xk_V} {hp : List xk_C} {kc ks : Nat} {succs : List (Nat × xk_S)} {off : Int} (F : xk_Fx p s m args c D A own cc nL) (TK : xk_TOK own T) (GK : xk_GOK) (hX : X.1 = nL) (hI : X.2.1 = true → meth.name = "<init>") (hRm : X.2.2.1 = (R.frames, R.cells, R.slots, R.locals)) (hd : decode cc pc = .ok (.ifnonnull off, len)) (h : xk_i_ifnonnull T X pc len off iv lo st hp kc ks = some succs) (kk : ∀ q ∈ succs, xk_G p l e R s m args below meth c Q b nL D A q.1 q.2) : xk_G p l e R s m args below meth c Q b nL D A pc (iv, lo, st, hp, kc, ks) := by
  obtain ⟨hx, hb, hml, hown, hts, hK, hA⟩ := id F
  unfold xk_i_ifnonnull at h
  split at h
  · rename_i a0 st0
    obtain ⟨at0, ai⟩ := a0
    split at h
    · rename_i hl
      subst hl
      split at h
      · rename_i t ht
        split at h
        · rename_i ha
          cases h
          intro env ad H locs ls sv hI0
          obtain ⟨v, rest, rfl, hv, h0⟩ := xk_pop hI0
          have ha' : at0 = 2 := ha
          subst ha'
          obtain ⟨ra, rfl, -⟩ := hv
          exact lv_ifnonnull hx hb hd (xk_tgt_ok ht) (kk _ List.mem_cons_self _ _ _ _ _ _ h0)
        · split at h
          · rename_i ha
            cases h
            intro env ad H locs ls sv hI0
            obtain ⟨v, rest, rfl, hv, h0⟩ := xk_pop hI0
            have ha' : at0 = 3 := ha
            subst ha'
            have hv' : v = .null := hv
            subst hv'
            exact lv_ifnonnullN hx hb hd (kk _ List.mem_cons_self _ _ _ _ _ _ h0)
          · cases h
      · cases h
    · cases h
  · cases h
end XG

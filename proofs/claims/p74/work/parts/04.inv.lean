def xk_ty (t : Nat) : FieldType := match t with
  | 0 => .int
  | 1 => .byte
  | 2 => .boolean
  | 3 => .long
  | 4 => .object "LieKitchen$Kitchen"
  | _ => .object "LieKitchen$Slot"
def xk_ov (ov : List (Nat × xk_V)) (j : Nat) : Option xk_V := match ov with
  | [] => none
  | q :: r => if q.1 = j then some q.2 else xk_ov r j
def xk_ar (U : State) (t : Nat) (cA : ClassId) : Prop := ArrOfT U cA (xk_ty t) ∧ va_RA U cA (xk_ty t)
theorem xk_ar_moved {u U : State} (hvm : u.vm.Alike U.vm) {t : Nat} {cA : ClassId} (h : xk_ar u t cA) : xk_ar U t cA := ⟨arrOfT_moved hvm h.1, h.2.moved hvm⟩
def xk_eI (b : xk_b) (env : List Int) (ad : List Nat) (I : xk_I) (ov : List (Nat × xk_V)) (f : Nat → Int32) (j : Nat) : Prop := match xk_ov ov j with
  | some av => xk_v b env ad av (.int (f j))
  | none => I.1 ≤ (f j).toInt ∧ (f j).toInt ≤ I.2
def xk_eL (b : xk_b) (env : List Int) (ad : List Nat) (I : xk_I) (ov : List (Nat × xk_V)) (f : Nat → Int64) (j : Nat) : Prop := match xk_ov ov j with
  | some av => xk_v b env ad av (.long (f j))
  | none => I.1 ≤ (f j).toInt ∧ (f j).toInt ≤ I.2
def xk_eQ (b : xk_b) (env : List Int) (ad : List Nat) (ov : List (Nat × xk_V)) (f : Nat → Option Nat) (j : Nat) : Prop := match xk_ov ov j with
  | some av => xk_v b env ad av (va_rf (f j))
  | none => f j = none
/-- bounds of a row of five blocks of eight, by the place in the block -/
def xk_h8 (k : Nat) : xk_I := match k with
  | 0 => (0, 9)
  | 1 => (0, 16)
  | 2 => (0, 6)
  | 7 => (0, 9)
  | _ => (0, 511)
/-- what is told of claims that were said: in block k the claims of the first S_k are unlike -/
def xk_dis (f : Nat → Int32) (o : Nat) (S : Int) : Prop := ∀ i j : Nat, (i : Int) < S → (j : Int) < S → i ≠ j → (f (o + i)).toInt / 2 ≠ (f (o + j)).toInt / 2
/-- md 0: no more; 1: the claim l_5 is none of block 0; 2: it is the one at l_6 -/
def xk_dd (md : Nat) (f : Nat → Int32) (l : List Int) : Prop := (∀ k : Nat, k < 5 → xk_dis f (9 * k) (l.getD k 0)) ∧ (match md with
  | 0 => True
  | 1 => ∀ i : Nat, (i : Int) < l.getD 0 0 → (f i).toInt / 2 ≠ l.getD 5 0
  | _ => 0 ≤ l.getD 6 0 ∧ l.getD 6 0 < l.getD 0 0 ∧ (f (l.getD 6 0).toNat).toInt / 2 = l.getD 5 0)
def xk_c8 (md : Nat) (U : State) (b : xk_b) (env : List Int) (ad : List Nat) (ce : xk_C) (w : Nat × va_E) : Prop := ∃ (cA : ClassId) (f : Nat → Int32), w.2 = .inl (cA, ce.2.2.2.1, .inl f) ∧ xk_ar U ce.2.1 cA ∧ (∀ j, j < ce.2.2.2.1 → xk_eI b env ad ce.2.2.2.2.1 ce.2.2.2.2.2 f j) ∧ ∃ vs : List Int32, xk_r2 (fun av x => xk_v b env ad av (.int x)) ce.2.2.1 vs ∧ xk_dd md f (vs.map Int32.toInt)
/-- a cell: kind 0 an object (number of its class, fields); 1 ints, 2 longs, 3 references (type number, length, bounds, single places); 7 anything -/
def xk_c (U : State) (b : xk_b) (env : List Int) (ad : List Nat) (ce : xk_C) (w : Nat × va_E) : Prop := match ce.1 with
  | 0 => ∃ vs : List Value, w.2 = .inr (ce.2.1, vs) ∧ xk_r2 (xk_v b env ad) ce.2.2.1 vs
  | 1 => ∃ (cA : ClassId) (f : Nat → Int32), w.2 = .inl (cA, ce.2.2.2.1, .inl f) ∧ xk_ar U ce.2.1 cA ∧ ∀ j, j < ce.2.2.2.1 → xk_eI b env ad ce.2.2.2.2.1 ce.2.2.2.2.2 f j
  | 2 => ∃ (cA : ClassId) (f : Nat → Int64), w.2 = .inl (cA, ce.2.2.2.1, .inr (.inl f)) ∧ xk_ar U ce.2.1 cA ∧ ∀ j, j < ce.2.2.2.1 → xk_eL b env ad ce.2.2.2.2.1 ce.2.2.2.2.2 f j
  | 3 => ∃ (cA : ClassId) (f : Nat → Option Nat), w.2 = .inl (cA, ce.2.2.2.1, .inr (.inr (.inr (.inr f)))) ∧ xk_ar U ce.2.1 cA ∧ ∀ j, j < ce.2.2.2.1 → xk_eQ b env ad ce.2.2.2.2.2 f j
  | 7 => True
  | 8 => xk_c8 0 U b env ad ce w
  | 10 => xk_c8 1 U b env ad ce w
  | 11 => xk_c8 2 U b env ad ce w
  | 12 => ∃ (cA : ClassId) (f : Nat → Int32), w.2 = .inl (cA, ce.2.2.2.1, .inl f) ∧ xk_ar U ce.2.1 cA ∧ ∀ j, j < ce.2.2.2.1 → xk_eI b env ad (xk_h8 (j % 8)) ce.2.2.2.2.2 f j
  | 9 => ∃ (cA : ClassId) (f : Nat → Int32), w.2 = .inl (cA, ce.2.2.2.1, .inl f) ∧ xk_ar U ce.2.1 cA ∧ (∀ j, j < ce.2.2.2.1 → xk_eI b env ad ce.2.2.2.2.1 ce.2.2.2.2.2 f j) ∧ ∃ (i v : xk_V) (x : Int32), ce.2.2.1 = [i, v] ∧ xk_v b env ad i (.int x) ∧ xk_v b env ad v (.int (f x.toNatClampNeg))
  | _ => False
theorem xk_eI_map {b b' : xk_b} {env env' : List Int} {ad ad' : List Nat} {I : xk_I} {ov : List (Nat × xk_V)} {f : Nat → Int32} {j : Nat} (hv : ∀ (av : xk_V) (v : Value), xk_v b env ad av v → xk_v b' env' ad' av v) (h : xk_eI b env ad I ov f j) : xk_eI b' env' ad' I ov f j := by
  unfold xk_eI at h ⊢
  cases hc : xk_ov ov j with
  | none => rw [hc] at h; exact h
  | some av => rw [hc] at h; exact hv _ _ h
theorem xk_c8_map {md : Nat} {U U' : State} {b b' : xk_b} {env env' : List Int} {ad ad' : List Nat} (hvm : U.vm.Alike U'.vm) (hv : ∀ (av : xk_V) (v : Value), xk_v b env ad av v → xk_v b' env' ad' av v) {ce : xk_C} {w : Nat × va_E} (h : xk_c8 md U b env ad ce w) : xk_c8 md U' b' env' ad' ce w := by
  obtain ⟨cA, f, h1, h2, h3, vs, h4, h5⟩ := h
  exact ⟨cA, f, h1, xk_ar_moved hvm h2, fun j hj => xk_eI_map hv (h3 j hj), vs, xk_r2_mono (fun _ _ q => hv _ _ q) h4, h5⟩
/-- a change of what numbers and places mean keeps a cell's picture -/
theorem xk_c_map {U U' : State} {b b' : xk_b} {env env' : List Int} {ad ad' : List Nat} (hvm : U.vm.Alike U'.vm) (hv : ∀ (av : xk_V) (v : Value), xk_v b env ad av v → xk_v b' env' ad' av v) {ce : xk_C} {w : Nat × va_E} (h : xk_c U b env ad ce w) : xk_c U' b' env' ad' ce w := by
  obtain ⟨k, ci, fs, n, I, ov⟩ := ce
  rcases k with _ | _ | _ | _ | _ | _ | _ | _ | _ | _ | _ | _ | _ | k
  · obtain ⟨vs, h1, h2⟩ := h
    exact ⟨vs, h1, xk_r2_mono hv h2⟩
  · obtain ⟨cA, f, h1, h2, h3⟩ := h
    refine ⟨cA, f, h1, xk_ar_moved hvm h2, fun j hj => ?_⟩
    have h4 := h3 j hj
    unfold xk_eI at h4 ⊢
    cases hc : xk_ov ov j with
    | none => rw [show xk_ov (0 + 1, ci, fs, n, I, ov).2.2.2.2.2 j = none from hc] at h4; exact h4
    | some av => rw [show xk_ov (0 + 1, ci, fs, n, I, ov).2.2.2.2.2 j = some av from hc] at h4; exact hv _ _ h4
  · obtain ⟨cA, f, h1, h2, h3⟩ := h
    refine ⟨cA, f, h1, xk_ar_moved hvm h2, fun j hj => ?_⟩
    have h4 := h3 j hj
    unfold xk_eL at h4 ⊢
    cases hc : xk_ov ov j with
    | none => rw [show xk_ov (0 + 1 + 1, ci, fs, n, I, ov).2.2.2.2.2 j = none from hc] at h4; exact h4
    | some av => rw [show xk_ov (0 + 1 + 1, ci, fs, n, I, ov).2.2.2.2.2 j = some av from hc] at h4; exact hv _ _ h4
  · obtain ⟨cA, f, h1, h2, h3⟩ := h
    refine ⟨cA, f, h1, xk_ar_moved hvm h2, fun j hj => ?_⟩
    have h4 := h3 j hj
    unfold xk_eQ at h4 ⊢
    cases hc : xk_ov ov j with
    | none => rw [show xk_ov (0 + 1 + 1 + 1, ci, fs, n, I, ov).2.2.2.2.2 j = none from hc] at h4; exact h4
    | some av => rw [show xk_ov (0 + 1 + 1 + 1, ci, fs, n, I, ov).2.2.2.2.2 j = some av from hc] at h4; exact hv _ _ h4
  · exact h.elim
  · exact h.elim
  · exact h.elim
  · trivial
  · exact xk_c8_map hvm hv h
  · obtain ⟨cA, f, h1, h2, h3, i, v, x, h5, h6, h7⟩ := h
    refine ⟨cA, f, h1, xk_ar_moved hvm h2, fun j hj => ?_, i, v, x, h5, hv _ _ h6, hv _ _ h7⟩
    have h4 := h3 j hj
    unfold xk_eI at h4 ⊢
    cases hc : xk_ov ov j with
    | none => rw [show xk_ov (0 + 1 + 1 + 1 + 1 + 1 + 1 + 1 + 1 + 1, ci, fs, n, I, ov).2.2.2.2.2 j = none from hc] at h4; exact h4
    | some av => rw [show xk_ov (0 + 1 + 1 + 1 + 1 + 1 + 1 + 1 + 1 + 1, ci, fs, n, I, ov).2.2.2.2.2 j = some av from hc] at h4; exact hv _ _ h4
  · exact xk_c8_map hvm hv h
  · exact xk_c8_map hvm hv h
  · obtain ⟨cA, f, h1, h2, h3⟩ := h
    exact ⟨cA, f, h1, xk_ar_moved hvm h2, fun j hj => xk_eI_map hv (h3 j hj)⟩
  · exact h.elim
/-- words on nest mates, and on arrays of objects: they stand beside a method's own words -/
def xk_nest : Cond → Bool
  | .fieldLinkNest .. => true
  | .methodLinkNest .. => true
  | .arrayOver (.object _) => true
  | _ => false
def xk_tg : List Cond := lw_tbl.filter goodWord
def xk_tb : List Cond := lw_tbl.filter (fun w => goodWord w || xk_nest w)
theorem xk_tb_g {w : Cond} (h : w ∈ xk_tg) : w ∈ xk_tb := by
  have h2 := List.mem_filter.mp h
  exact List.mem_filter.mpr ⟨h2.1, by rw [h2.2]; rfl⟩
def xk_NN (U : State) : Prop := ∀ w ∈ lw_tbl, xk_nest w = true → va_Nw w U
theorem xk_NN_warm {u U : State} (hW : u.WarmedH U.vm) (h : xk_NN u) : xk_NN U := by
  intro w hw hn
  have h2 := h w hw hn
  unfold xk_nest at hn
  split at hn
  · exact va_Nw.warmF hW h2
  · exact va_Nw.warmM hW h2
  · exact va_AO.moved hW.alike h2
  · cases hn
theorem xk_hts {args : Array Value} {U : State} (h1 : ∀ w ∈ xk_tg, w.before args U = true) (h2 : xk_NN U) : ∀ w ∈ xk_tb, w.before args U = true := by
  intro w hw
  have h3 := List.mem_filter.mp hw
  by_cases hg : goodWord w = true
  · exact h1 w (List.mem_filter.mpr ⟨h3.1, hg⟩)
  · have hn : xk_nest w = true := by
      have h4 := h3.2
      rw [Bool.or_eq_true] at h4
      exact h4.resolve_left hg
    have h5 := h2 w h3.1 hn
    unfold xk_nest at hn
    split at hn
    · exact va_Nw.use rfl h5
    · exact va_Nw.use rfl h5
    · exact va_AO.use h5
    · cases hn
def xk_pre (b : xk_b) (env : List Int) (ad : List Nat) : Prop := (∀ (j : Nat) (n : Int), b.2.1[j]? = some n → env[j]? = some n) ∧ ∀ (j a : Nat), b.2.2.1[j]? = some a → ad[j]? = some a
theorem xk_pre_mono {b : xk_b} {env e2 : List Int} {ad a2 : List Nat} (h : xk_pre b env ad) : xk_pre b (env ++ e2) (ad ++ a2) := ⟨fun j n hj => xk_ga (h.1 j n hj), fun j a hj => xk_ga (h.2 j a hj)⟩
theorem xk_pre_e {b : xk_b} {env e2 : List Int} {ad : List Nat} (h : xk_pre b env ad) : xk_pre b (env ++ e2) ad := ⟨fun j n hj => xk_ga (h.1 j n hj), h.2⟩
theorem xk_pre_a {b : xk_b} {env : List Int} {ad a2 : List Nat} (h : xk_pre b env ad) : xk_pre b env (ad ++ a2) := ⟨h.1, fun j a hj => xk_ga (h.2 j a hj)⟩
def xk_In (b : xk_b) (nL : Nat) (s : State) (D : va_G) (A : Nat → Prop) (σ : xk_S) (env : List Int) (ad : List Nat) (H : Heap) (locs : List Loc) (ls : Array Slot) (st : List Value) : Prop :=
  xk_ok env σ.1 ∧ (∃ lvs, lv_has ls nL lvs ∧ xk_r2 (fun a q => a.1 = q.1 ∧ xk_v b env ad a.2 q.2) σ.2.1 lvs) ∧ xk_r2 (xk_v b env ad) σ.2.2.1 st ∧ ∃ ws : va_W, ws.map Prod.fst = ad ∧ xk_r2 (xk_c s b env ad) σ.2.2.2.1 ws ∧ va_P D vwCl ws H ∧ va_D A ws ∧ va_S A s.heap H locs ∧ xk_pre b env ad
def xk_G (p : Program) (l : Launch) (e : Env) (R : Room) (s : State) (m : MethodId) (args : Array Value) (below : List Frame) (meth : Method) (c : Code) (Q : State → Prop) (b : xk_b) (nL : Nat) (D : va_G) (A : Nat → Prop) (pc : Nat) (σ : xk_S) : Prop :=
  ∀ (env : List Int) (ad : List Nat) (H : Heap) (locs : List Loc) (ls : Array Slot) (st : List Value), xk_In b nL s D A σ env ad H locs ls st → W p l e R s m args below meth c H locs σ.2.2.2.2.1 σ.2.2.2.2.2 Q (F0 m pc ls st)
def xk_Fx (p : Program) (s : State) (m : MethodId) (args : Array Value) (c : Code) (D : va_G) (A : Nat → Prop) (own : String) (cc : ByteArray) (nL : Nat) : Prop :=
  p.tables.exec = Jvm.exec ∧ c.code = cc ∧ c.maxLocals = nL ∧ s.vm.findClass own = some m.cls ∧ (∀ w ∈ xk_tb, w.before args s = true) ∧ va_K D vwCl [] s ∧ (∀ q : Nat, s.heap.size ≤ q → A q)
section XA
variable {p : Program} {l : Launch} {e : Env} {R : Room} {s : State} {m : MethodId} {args : Array Value} {below : List Frame} {meth : Method} {c : Code} {Q : State → Prop} {b : xk_b} {D : va_G} {A : Nat → Prop} {own : String} {cc : ByteArray} {nL : Nat} {pc : Nat} {iv iv' : xk_N} {lo : List (Nat × xk_V)} {st : List xk_V} {hp : List xk_C} {kc ks : Nat}
theorem xk_v_e {env : List Int} {ad : List Nat} (e2 : List Int) {av : xk_V} {v : Value} (h : xk_v b env ad av v) : xk_v b (env ++ e2) ad av v := by
  have h2 := xk_v_mono e2 [] h
  rwa [List.append_nil] at h2
/-- more numbers, other bounds -/
theorem xk_grow {env : List Int} {ad : List Nat} {H : Heap} {locs : List Loc} {ls : Array Slot} {sv : List Value} (e2 : List Int) (h : xk_In b nL s D A (iv, lo, st, hp, kc, ks) env ad H locs ls sv) (h2 : xk_ok (env ++ e2) iv') : xk_In b nL s D A (iv', lo, st, hp, kc, ks) (env ++ e2) ad H locs ls sv := by
  obtain ⟨-, ⟨lvs, hl, hr⟩, hs, ws, ha, hc, hP, hD, hS⟩ := h
  exact ⟨h2, ⟨lvs, hl, xk_r2_mono (fun _ _ q => ⟨q.1, xk_v_e e2 q.2⟩) hr⟩, xk_r2_mono (fun _ _ q => xk_v_e e2 q) hs, ws, ha, xk_r2_mono (fun _ _ q => xk_c_map (Vm.Alike.refl _) (fun _ _ q => xk_v_e e2 q) q) hc, hP, hD, hS.1, xk_pre_e hS.2⟩
/-- other bounds alone -/
theorem xk_bnd {env : List Int} {ad : List Nat} {H : Heap} {locs : List Loc} {ls : Array Slot} {sv : List Value} (h : xk_In b nL s D A (iv, lo, st, hp, kc, ks) env ad H locs ls sv) (h2 : xk_ok env iv') : xk_In b nL s D A (iv', lo, st, hp, kc, ks) env ad H locs ls sv := ⟨h2, h.2⟩
theorem xk_push {env : List Int} {ad : List Nat} {H : Heap} {locs : List Loc} {ls : Array Slot} {sv : List Value} {av : xk_V} {v : Value} (h : xk_In b nL s D A (iv, lo, st, hp, kc, ks) env ad H locs ls sv) (hv : xk_v b env ad av v) : xk_In b nL s D A (iv, lo, av :: st, hp, kc, ks) env ad H locs ls (v :: sv) := ⟨h.1, h.2.1, ⟨hv, h.2.2.1⟩, h.2.2.2⟩
theorem xk_pop {env : List Int} {ad : List Nat} {H : Heap} {locs : List Loc} {ls : Array Slot} {sv : List Value} {av : xk_V} (h : xk_In b nL s D A (iv, lo, av :: st, hp, kc, ks) env ad H locs ls sv) : ∃ v rest, sv = v :: rest ∧ xk_v b env ad av v ∧ xk_In b nL s D A (iv, lo, st, hp, kc, ks) env ad H locs ls rest := by
  obtain ⟨v, rest, e, hv, hr⟩ := xk_r2_cons h.2.2.1
  exact ⟨v, rest, e, hv, h.1, h.2.1, hr, h.2.2.2⟩
theorem xk_popI {env : List Int} {ad : List Nat} {H : Heap} {locs : List Loc} {ls : Array Slot} {sv : List Value} {av : xk_V} (h : xk_In b nL s D A (iv, lo, av :: st, hp, kc, ks) env ad H locs ls sv) (hi : xk_isI av = true) : ∃ (x : Int32) (rest : List Value), sv = .int x :: rest ∧ xk_n env av x.toInt ∧ xk_In b nL s D A (iv, lo, st, hp, kc, ks) env ad H locs ls rest := by
  obtain ⟨v, rest, e, hv, hr⟩ := xk_pop h
  obtain ⟨x, rfl, hn⟩ := xk_vI hi hv
  exact ⟨x, rest, e, hn, hr⟩
theorem xk_popL {env : List Int} {ad : List Nat} {H : Heap} {locs : List Loc} {ls : Array Slot} {sv : List Value} {av : xk_V} (h : xk_In b nL s D A (iv, lo, av :: st, hp, kc, ks) env ad H locs ls sv) (hi : xk_isL av = true) : ∃ (x : Int64) (rest : List Value), sv = .long x :: rest ∧ xk_n env av x.toInt ∧ xk_In b nL s D A (iv, lo, st, hp, kc, ks) env ad H locs ls rest := by
  obtain ⟨v, rest, e, hv, hr⟩ := xk_pop h
  obtain ⟨x, rfl, hn⟩ := xk_vL hi hv
  exact ⟨x, rest, e, hn, hr⟩
theorem xk_popR {env : List Int} {ad : List Nat} {H : Heap} {locs : List Loc} {ls : Array Slot} {sv : List Value} {q : Int} (h : xk_In b nL s D A (iv, lo, (2, q) :: st, hp, kc, ks) env ad H locs ls sv) : ∃ (a : Nat) (rest : List Value), sv = .ref a :: rest ∧ ad[q.toNat]? = some a ∧ xk_In b nL s D A (iv, lo, st, hp, kc, ks) env ad H locs ls rest := by
  obtain ⟨v, rest, e, ⟨a, rfl, ha⟩, hr⟩ := xk_pop h
  exact ⟨a, rest, e, ha, hr⟩
theorem xk_pushI {env : List Int} {ad : List Nat} {H : Heap} {locs : List Loc} {ls : Array Slot} {sv : List Value} {I : xk_I} {x : Int32} (h : xk_In b nL s D A (iv, lo, st, hp, kc, ks) env ad H locs ls sv) (h1 : I.1 ≤ x.toInt) (h2 : x.toInt ≤ I.2) : ∃ e2 : List Int, xk_In b nL s D A ((xk_new 0 iv I).1, lo, (xk_new 0 iv I).2 :: st, hp, kc, ks) (env ++ e2) ad H locs ls (.int x :: sv) := by
  obtain ⟨e2, a, q⟩ := xk_new_I (b := b) (ad := ad) h.1 h1 h2
  exact ⟨e2, xk_push (xk_grow e2 h a) q⟩
theorem xk_pushL {env : List Int} {ad : List Nat} {H : Heap} {locs : List Loc} {ls : Array Slot} {sv : List Value} {I : xk_I} {x : Int64} (h : xk_In b nL s D A (iv, lo, st, hp, kc, ks) env ad H locs ls sv) (h1 : I.1 ≤ x.toInt) (h2 : x.toInt ≤ I.2) : ∃ e2 : List Int, xk_In b nL s D A ((xk_new 1 iv I).1, lo, (xk_new 1 iv I).2 :: st, hp, kc, ks) (env ++ e2) ad H locs ls (.long x :: sv) := by
  obtain ⟨e2, a, q⟩ := xk_new_L (b := b) (ad := ad) h.1 h1 h2
  exact ⟨e2, xk_push (xk_grow e2 h a) q⟩
theorem xk_lo_get {env : List Int} {ad : List Nat} {av : xk_V} {i : Nat} : ∀ {lo : List (Nat × xk_V)} {lvs : List (Nat × Value)}, xk_r2 (fun a q => a.1 = q.1 ∧ xk_v b env ad a.2 q.2) lo lvs → xk_ov lo i = some av → ∃ (k : Nat) (v : Value), lvs[k]? = some (i, v) ∧ xk_v b env ad av v
  | [], _, _, h2 => by cases h2
  | _ :: _, [], h, _ => h.elim
  | a :: lo, q :: lvs, h, h2 => by
    unfold xk_ov at h2
    by_cases ha : a.1 = i
    · rw [if_pos ha] at h2
      cases h2
      refine ⟨0, q.2, ?_, h.1.2⟩
      rw [List.getElem?_cons_zero, ← ha, h.1.1]
    · rw [if_neg ha] at h2
      obtain ⟨k, v, e1, e2⟩ := xk_lo_get h.2 h2
      exact ⟨k + 1, v, by rw [List.getElem?_cons_succ]; exact e1, e2⟩
theorem xk_ldI {env : List Int} {ad : List Nat} {H : Heap} {locs : List Loc} {ls : Array Slot} {sv : List Value} {av : xk_V} {i : Nat} (h : xk_In b nL s D A (iv, lo, st, hp, kc, ks) env ad H locs ls sv) (hq : xk_ov lo i = some av) : ∃ v, ls[i]? = some (.val v) ∧ xk_v b env ad av v := by
  obtain ⟨-, ⟨lvs, hl, hr⟩, -⟩ := h
  obtain ⟨k, v, e1, e2⟩ := xk_lo_get hr hq
  exact ⟨v, lv_at hl k e1, e2⟩
def xk_f1 (i : Nat) (q : Nat × xk_V) : Bool := !(q.1 == i) && !(q.1 + 1 == i && xk_cat q.2 == 2)
def xk_f2 (i : Nat) (q : Nat × xk_V) : Bool := !(q.1 == i) && (!(q.1 == i + 1) && !(q.1 + 1 == i && xk_cat q.2 == 2))
theorem xk_stI {env : List Int} {ad : List Nat} {H : Heap} {locs : List Loc} {ls : Array Slot} {sv : List Value} (h : xk_In b nL s D A (iv, lo, st, hp, kc, ks) env ad H locs ls sv) : ∃ lvs, lv_has ls nL lvs ∧ ∀ (i : Nat) (av : xk_V) (v : Value) (ls' : Array Slot), xk_v b env ad av v → lv_has ls' nL ((i, v) :: lvs.filter (fun q => !(q.1 == i) && !(q.1 + 1 == i && q.2.category == 2))) → xk_In b nL s D A (iv, (i, av) :: lo.filter (xk_f1 i), st, hp, kc, ks) env ad H locs ls' sv := by
  obtain ⟨h0, ⟨lvs, hl, hr⟩, h3⟩ := h
  refine ⟨lvs, hl, fun i av v ls' hv hl' => ⟨h0, ⟨_, hl', ⟨rfl, hv⟩, ?_⟩, h3⟩⟩
  exact xk_r2_filter (fun a q hq => by unfold xk_f1; rw [hq.1, xk_v_cat hq.2]) hr
theorem xk_stL {env : List Int} {ad : List Nat} {H : Heap} {locs : List Loc} {ls : Array Slot} {sv : List Value} (h : xk_In b nL s D A (iv, lo, st, hp, kc, ks) env ad H locs ls sv) : ∃ lvs, lv_has ls nL lvs ∧ ∀ (i : Nat) (av : xk_V) (v : Value) (ls' : Array Slot), xk_v b env ad av v → lv_has ls' nL ((i, v) :: lvs.filter (fun q => !(q.1 == i) && (!(q.1 == i + 1) && !(q.1 + 1 == i && q.2.category == 2)))) → xk_In b nL s D A (iv, (i, av) :: lo.filter (xk_f2 i), st, hp, kc, ks) env ad H locs ls' sv := by
  obtain ⟨h0, ⟨lvs, hl, hr⟩, h3⟩ := h
  refine ⟨lvs, hl, fun i av v ls' hv hl' => ⟨h0, ⟨_, hl', ⟨rfl, hv⟩, ?_⟩, h3⟩⟩
  exact xk_r2_filter (fun a q hq => by unfold xk_f2; rw [hq.1, xk_v_cat hq.2]) hr
end XA

/-- block a behind the first k places of block b -/
def xv_f (f : Nat → Int32) (a b k : Nat) : Nat → Int32 := fun j => if 9 * b ≤ j ∧ j < 9 * b + k then f (j - 9 * b + 9 * a) else f j
theorem xv_step {f : Nat → Int32} {a b k : Nat} (hab : a ≠ b) (hk : k < 9) : upd (xv_f f a b k) (9 * b + k) (xv_f f a b k (9 * a + k)) = xv_f f a b (k + 1) := by
  funext j
  have e1 : xv_f f a b k (9 * a + k) = f (9 * a + k) := by
    unfold xv_f
    rw [if_neg (by omega)]
  rw [e1]
  by_cases hj : j = 9 * b + k
  · subst hj
    rw [pk_us]
    unfold xv_f
    rw [if_pos (by omega)]
    congr 1
    omega
  · rw [pk_un hj]
    unfold xv_f
    by_cases h : 9 * b ≤ j ∧ j < 9 * b + k
    · rw [if_pos h, if_pos (by omega)]
    · rw [if_neg h, if_neg (by omega)]
theorem xv_num (a k : Nat) (ha : a < 5) (hk : k ≤ 9) : (Int32.ofNat 9 * Int32.ofNat a + Int32.ofNat k).toNatClampNeg = 9 * a + k ∧ (Int32.ofNat 9 * Int32.ofNat a + Int32.ofNat k).toInt = 9 * a + k := by
  have e : Int32.ofNat 9 * Int32.ofNat a + Int32.ofNat k = Int32.ofNat (9 * a + k) := by rw [← Int32.ofNat_mul, ← Int32.ofNat_add]
  have e2 : (Int32.ofNat (9 * a + k)).toInt = ((9 * a + k : Nat) : Int) := Int32.toInt_ofNat_of_lt (by omega)
  rw [e]
  refine ⟨?_, by rw [e2]; omega⟩
  unfold Int32.toNatClampNeg
  omega
section XV
variable {p : Program} {l : Launch} {e : Env} {R : Room} {s : State} {m : MethodId} {args : Array Value} {below : List Frame} {meth : Method} {c : Code} {kc ks : Nat} {Q : State → Prop} {D : va_G} {A : Nat → Prop}
theorem xv_loop (hx : p.tables.exec = Jvm.exec) (hb : c.code = cX10_copyRow) {cA : ClassId} {t a b : Nat} {f : Nat → Int32} (hab : a ≠ b) (ha : a < 5) (hb5 : b < 5) (hK : va_K D vwCl [(cA, .int)] s) : ∀ (n k : Nat), n + k = 9 → ∀ (ls : Array Slot) (H : Heap) (locs : List Loc), lv_has ls 5 [(4, .int (Int32.ofNat k)), (0, .ref t), (1, .int (Int32.ofNat 9)), (2, .int (Int32.ofNat a)), (3, .int (Int32.ofNat b))] → va_P D vwCl [(t, .inl (cA, 45, .inl (xv_f f a b k)))] H → va_D A [(t, .inl (cA, 45, .inl (xv_f f a b k)))] → va_S A s.heap H locs → (∀ (H1 : Heap) (locs1 : List Loc) (ls1 : Array Slot), va_P D vwCl [(t, .inl (cA, 45, .inl (xv_f f a b 9)))] H1 → va_D A [(t, .inl (cA, 45, .inl (xv_f f a b 9)))] → va_S A s.heap H1 locs1 → W p l e R s m args below meth c H1 locs1 kc ks Q (F0 m 31 ls1 [])) → W p l e R s m args below meth c H locs kc ks Q (F0 m 3 ls []) := by
  intro n
  induction n with
  | zero =>
    intro k hk ls H locs hl hP hD hS fin
    have e9 : k = 9 := by omega
    subst e9
    refine lv_iload hx hb (i := 4) (by decide +kernel) (lv_at hl 0 rfl) ?_
    refine lv_iload_n hx hb (k := 1) (i := 1) (by decide +kernel) rfl (lv_at hl 2 rfl) ?_
    refine lv_icmp_ge hx hb (off := 25) (tgt := 31) (by decide +kernel) rfl (fun _ => fin H locs ls hP hD hS) (fun hz => absurd (Int32.le_refl _) hz)
  | succ n ih =>
    intro k hk ls H locs hl hP hD hS fin
    have hk9 : k < 9 := by omega
    refine lv_iload hx hb (i := 4) (by decide +kernel) (lv_at hl 0 rfl) ?_
    refine lv_iload_n hx hb (k := 1) (i := 1) (by decide +kernel) rfl (lv_at hl 2 rfl) ?_
    refine lv_icmp_ge hx hb (off := 25) (tgt := 31) (by decide +kernel) rfl (fun hz => ?_) (fun _ => ?_)
    · exfalso
      have h1 := Int32.le_iff_toInt_le.mp hz
      rw [Int32.toInt_ofNat_of_lt (by omega), Int32.toInt_ofNat_of_lt (by omega)] at h1
      omega
    refine lv_aload_n hx hb (k := 0) (i := 0) (by decide +kernel) rfl (lv_at hl 1 rfl) ?_
    refine lv_iload_n hx hb (k := 1) (i := 1) (by decide +kernel) rfl (lv_at hl 2 rfl) ?_
    refine lv_iload_n hx hb (k := 3) (i := 3) (by decide +kernel) rfl (lv_at hl 4 rfl) ?_
    refine lv_imul hx hb (by decide +kernel) ?_
    refine lv_iload hx hb (i := 4) (by decide +kernel) (lv_at hl 0 rfl) ?_
    refine lv_iadd hx hb (by decide +kernel) ?_
    refine lv_aload_n hx hb (k := 0) (i := 0) (by decide +kernel) rfl (lv_at hl 1 rfl) ?_
    refine lv_iload_n hx hb (k := 1) (i := 1) (by decide +kernel) rfl (lv_at hl 2 rfl) ?_
    refine lv_iload_n hx hb (k := 2) (i := 2) (by decide +kernel) rfl (lv_at hl 3 rfl) ?_
    refine lv_imul hx hb (by decide +kernel) ?_
    refine lv_iload hx hb (i := 4) (by decide +kernel) (lv_at hl 0 rfl) ?_
    refine lv_iadd hx hb (by decide +kernel) ?_
    obtain ⟨na1, na2⟩ := xv_num a k ha (by omega)
    obtain ⟨nb1, nb2⟩ := xv_num b k hb5 (by omega)
    have hin1 : vp_in (Int32.ofNat 9 * Int32.ofNat a + Int32.ofNat k) 45 := by rw [vp_in_iff]; omega
    have hin2 : vp_in (Int32.ofNat 9 * Int32.ofNat b + Int32.ofNat k) 45 := by rw [vp_in_iff]; omega
    refine va_iald hx hb hK hP 0 0 rfl rfl hin1 (by decide +kernel) ?_
    refine va_iast hx hb hK hP hD hS 0 0 rfl rfl hin2 (by decide +kernel) (fun H1 locs1 p1 p2 p3 => ?_)
    rw [na1, nb1, xv_step hab hk9] at p1 p2
    refine lv_iinc hx hb (i := 4) (n := 1) (k := 0) (by decide +kernel) hl rfl rfl (by decide) rfl ?_
    intro ls1 hl1
    refine lv_goto hx hb (off := -25) (tgt := 3) (by decide +kernel) rfl ?_
    refine ih (k + 1) (by omega) ls1 H1 locs1 ?_ p1 p2 p3 fin
    have e1 : Int32.ofNat k + Int32.ofInt 1 = Int32.ofNat (k + 1) := by rw [Int32.ofNat_add]; rfl
    rw [e1] at hl1
    exact hl1
end XV
def xv_fs (a b : Nat) : List xk_V := ([(0, 0), (0, 1), (0, 2), (0, 3), (0, 4)] : List xk_V).set b (0, (a : Int))
def xv_N : xk_N := ([(0, 9), (0, 9), (0, 9), (0, 9), (0, 9)], [])
def xv_K (a b : Nat) : xk_K := ((xv_N, [(2, 0), (5, 9), (5, (a : Int)), (5, (b : Int))], [(8, 0, [(0, 0), (0, 1), (0, 2), (0, 3), (0, 4)], 45, (0, 17), [])]), [(xv_N, none, [(8, 0, xv_fs a b, 45, (0, 17), [])])], (3, 100, 0, 0))
theorem xv_dis {f : Nat → Int32} {a b : Nat} {l : List Int} (hb : b < 5) (ha : a < 5) (hl : l.length = 5) (hs : ∀ k, k < 5 → l.getD k 0 ≤ 9) (h : xk_dd 0 f l) : xk_dd 0 (xv_f f a b 9) (l.set b (l.getD a 0)) := by
  refine ⟨fun k hk => ?_, trivial⟩
  intro i j hi hj hij
  by_cases hkb : k = b
  · subst hkb
    have e : (l.set k (l.getD a 0)).getD k 0 = l.getD a 0 := by
      rw [List.getD_eq_getElem?_getD, List.getElem?_set_self (by omega)]
      rfl
    rw [e] at hi hj
    have h9 := hs a ha
    have e1 : ∀ z : Nat, (z : Int) < l.getD a 0 → xv_f f a k 9 (9 * k + z) = f (9 * a + z) := by
      intro z hz
      unfold xv_f
      rw [if_pos (by omega)]
      congr 1
      omega
    rw [e1 i hi, e1 j hj]
    exact h.1 a ha i j hi hj hij
  · have e : (l.set b (l.getD a 0)).getD k 0 = l.getD k 0 := by
      rw [List.getD_eq_getElem?_getD, List.getElem?_set_ne (fun z => hkb z.symm), List.getD_eq_getElem?_getD]
    rw [e] at hi hj
    have h9 := hs k hk
    have e1 : ∀ z : Nat, (z : Int) < l.getD k 0 → xv_f f a b 9 (9 * k + z) = f (9 * k + z) := by
      intro z hz
      unfold xv_f
      rw [if_neg (by omega)]
    rw [e1 i hi, e1 j hj]
    exact h.1 k hk i j hi hj hij
theorem xv_fs5 : ∀ a : Nat, a < 5 → ([(0, 0), (0, 1), (0, 2), (0, 3), (0, 4)] : List xk_V)[a]? = some (0, (a : Int)) := by decide
theorem xv_met (l : Launch) (D : va_G) {a b : Nat} (hab : a ≠ b) (ha : a < 5) (hb5 : b < 5) : xk_KM l D yX10_copyRow cX10_copyRow 5 none (xv_K a b) := by
  refine xk_KM_by (by decide) rfl (Nat.le_of_ble_eq_true rfl) ?_
  intro p e s m args below meth c env0 ad0 oq ws ls h0 hl0 F hret hlocks hnm hZ haw hc hP hD hlv
  obtain ⟨lvs, hl, hr⟩ := hlv
  obtain ⟨q0, r0, rfl, ⟨i0, t, v0, ht⟩, hr⟩ := xk_r2_cons hr
  obtain ⟨q1, r1, rfl, ⟨i1, x1, v1, n1⟩, hr⟩ := xk_r2_cons hr
  obtain ⟨q2, r2, rfl, ⟨i2, x2, v2, n2⟩, hr⟩ := xk_r2_cons hr
  obtain ⟨q3, r3, rfl, ⟨i3, x3, v3, n3⟩, hr⟩ := xk_r2_cons hr
  have e1 : x1 = Int32.ofNat 9 := Int32.toInt_inj.mp (by rw [show x1.toInt = 9 from n1]; rfl)
  have e2 : x2 = Int32.ofNat a := Int32.toInt_inj.mp (by rw [show x2.toInt = (a : Int) from n2, Int32.toInt_ofNat_of_lt (by omega)])
  have e3 : x3 = Int32.ofNat b := Int32.toInt_inj.mp (by rw [show x3.toInt = (b : Int) from n3, Int32.toInt_ofNat_of_lt (by omega)])
  subst e1 e2 e3
  have L0 : ls[0]? = some (.val (.ref t)) := by
    have h1 := hl.2.2 q0 List.mem_cons_self
    rw [← i0, v0] at h1
    exact h1
  have L1 : ls[1]? = some (.val (.int (Int32.ofNat 9))) := by
    have h1 := hl.2.2 q1 (List.mem_cons_of_mem _ List.mem_cons_self)
    rw [← i1, v1] at h1
    exact h1
  have L2 : ls[2]? = some (.val (.int (Int32.ofNat a))) := by
    have h1 := hl.2.2 q2 (List.mem_cons_of_mem _ (List.mem_cons_of_mem _ List.mem_cons_self))
    rw [← i2, v2] at h1
    exact h1
  have L3 : ls[3]? = some (.val (.int (Int32.ofNat b))) := by
    have h1 := hl.2.2 q3 (List.mem_cons_of_mem _ (List.mem_cons_of_mem _ (List.mem_cons_of_mem _ List.mem_cons_self)))
    rw [← i3, v3] at h1
    exact h1
  have hl4 : lv_has ls 5 [(0, .ref t), (1, .int (Int32.ofNat 9)), (2, .int (Int32.ofNat a)), (3, .int (Int32.ofNat b))] := by
    refine ⟨hl.1, hl.2.1, fun q hq => ?_⟩
    simp only [List.mem_cons, List.not_mem_nil, or_false] at hq
    rcases hq with rfl | rfl | rfl | rfl
    · exact L0
    · exact L1
    · exact L2
    · exact L3
  obtain ⟨w, rw0, rfl, hcw, hrw⟩ := xk_r2_cons hc
  have erw := xk_r2_nil hrw
  subst erw
  obtain ⟨wa, we⟩ := w
  have hta : t = wa := by
    rw [← haw] at ht
    exact (Option.some.inj ht).symm
  subst hta
  obtain ⟨cA, f, he, har, hel, vs, hvs, hdd⟩ := hcw
  have he : we = .inl (cA, 45, .inl f) := he
  subst he
  have e0 : xv_f f a b 0 = f := by
    funext j
    unfold xv_f
    rw [if_neg (by omega)]
  have hK1 := xk_K1 F.2.2.2.2.2.1 har
  refine lv_iconst F.1 F.2.1 (n := 0) (v := Int32.ofNat 0) (by decide +kernel) rfl ?_
  refine lv_istore F.1 F.2.1 (i := 4) (by decide +kernel) hl4 (by decide) rfl ?_
  intro ls1 hl1
  refine xv_loop F.1 F.2.1 hab ha hb5 hK1 9 0 rfl ls1 s.heap [] hl1 (by rw [e0]; exact hP) (by rw [e0]; exact hD) va_S.rf ?_
  intro H1 locs1 ls2 p1 p2 p3
  refine W.vret F.1 F.2.1 hret (fun t2 ht2 hW => ?_) p3.2.2 (by decide +kernel)
  refine ⟨⟨_, List.mem_cons_self, [], [], none, rfl, by rw [List.append_nil]; exact h0, rfl, [(t, .inl (cA, 45, .inl (xv_f f a b 9)))], by rw [List.append_nil, ← haw]; rfl, ⟨?_, trivial⟩, by rw [ht2]; exact p1, p2⟩, p3.F ht2⟩
  rw [List.append_nil, List.append_nil]
  have hv0 : ∀ (av : xk_V) (v : Value), xk_v (0, env0, ad0, oq) env0 ad0 av v → xk_v (0, [], [], oq) env0 ad0 av v := fun av v hv => xk_v_b hv
  have hvs' := xk_r2_mono (S := fun av (x : Int32) => xk_v (0, [], [], oq) env0 ad0 av (.int x)) (fun av x q => hv0 av (.int x) q) hvs
  obtain ⟨xa, hxa1, hxa2⟩ := xk_r2_get a hvs' (xv_fs5 a ha)
  have hlen : vs.length = 5 := (xk_r2_len hvs').symm
  refine ⟨cA, xv_f f a b 9, rfl, xk_ar_moved hW.alike har, fun j hj => ?_, vs.set b xa, xk_r2_set (R := fun av (x : Int32) => xk_v (0, [], [], oq) env0 ad0 av (.int x)) hxa2 b hvs', ?_⟩
  · have h1 : ∀ z : Nat, z < 45 → (0 : Int) ≤ (f z).toInt ∧ (f z).toInt ≤ 17 := fun z hz => hel z hz
    show (0 : Int) ≤ (xv_f f a b 9 j).toInt ∧ (xv_f f a b 9 j).toInt ≤ 17
    have hj : j < 45 := hj
    unfold xv_f
    split
    · exact h1 _ (by omega)
    · exact h1 _ hj
  · have e5 : (vs.set b xa).map Int32.toInt = (vs.map Int32.toInt).set b ((vs.map Int32.toInt).getD a 0) := by
      rw [List.map_set]
      congr 1
      rw [List.getD_eq_getElem?_getD, List.getElem?_map, hxa1]
      rfl
    rw [e5]
    refine xv_dis hb5 ha (by rw [List.length_map]; exact hlen) (fun k hk => ?_) hdd
    obtain ⟨xk, hxk1, x, ex, hxk2⟩ := xk_r2_get k hvs' (xv_fs5 k hk)
    cases ex
    have hxk2 : env0[((k : Nat) : Int).toNat]? = some xk.toInt := hxk2
    rw [Int.toNat_natCast] at hxk2
    have h7 : ([(0, 9), (0, 9), (0, 9), (0, 9), (0, 9)] : List xk_I)[k]? = some (0, 9) := by
      rcases (show k = 0 ∨ k = 1 ∨ k = 2 ∨ k = 3 ∨ k = 4 by omega) with rfl | rfl | rfl | rfl | rfl <;> rfl
    have h8 := h0.2.1 k _ _ hxk2 h7
    rw [List.getD_eq_getElem?_getD, List.getElem?_map, hxk1]
    exact h8.2

def xz_n : Nat → Int32 → Nat
  | 0, _ => 0
  | k + 1, v => if v = 0 then 0 else 1 + xz_n k (v &&& (v - 1))
theorem xz_lt {v : Int32} (h : ¬ v = 0) : (v &&& (v - 1)).toBitVec.toNat < v.toBitVec.toNat := by
  have h1 : v.toBitVec ≠ 0#32 := fun e => h (Int32.toBitVec_inj.mp (by rw [e]; rfl))
  have h2 : v.toBitVec.toNat ≠ 0 := fun e => h1 (BitVec.eq_of_toNat_eq (by rw [e]; rfl))
  have h3 : (v &&& (v - 1)).toBitVec = v.toBitVec &&& (v.toBitVec - 1#32) := rfl
  rw [h3, BitVec.toNat_and]
  have h4 := Nat.and_le_right (n := v.toBitVec.toNat) (m := (v.toBitVec - 1#32).toNat)
  have h5 : (v.toBitVec - 1#32).toNat = v.toBitVec.toNat - 1 := by
    rw [BitVec.toNat_sub]
    have h6 := v.toBitVec.isLt
    have h7 : (1#32 : BitVec 32).toNat = 1 := rfl
    rw [h7]
    omega
  omega
section XZ
variable {p : Program} {l : Launch} {e : Env} {R : Room} {s : State} {m : MethodId} {args : Array Value} {below : List Frame} {meth : Method} {c : Code} {H : Heap} {locs : List Loc} {kc ks : Nat} {Q : State → Prop}
theorem xz_loop (hx : p.tables.exec = Jvm.exec) (hb : c.code = cX10_sizeOf) : ∀ (k : Nat) (n v : Int32) (ls : Array Slot), v.toBitVec.toNat < k → lv_has ls 3 [(1, .int n), (2, .int v)] → (∀ ls' : Array Slot, ls'[1]? = some (.val (.int (n + Int32.ofNat (xz_n k v)))) → W p l e R s m args below meth c H locs kc ks Q (F0 m 20 ls' [])) → W p l e R s m args below meth c H locs kc ks Q (F0 m 4 ls [])
  | 0, _, _, _, h, _, _ => absurd h (Nat.not_lt_zero _)
  | k + 1, n, v, ls, h, hl, fin => by
    refine lv_iload_n hx hb (k := 2) (i := 2) (by decide +kernel) rfl (lv_at hl 1 rfl) ?_
    refine lv_if_eq hx hb (off := 15) (tgt := 20) (by decide +kernel) rfl (fun hz => ?_) (fun hz => ?_)
    · refine fin ls ?_
      have e0 : xz_n (k + 1) v = 0 := by unfold xz_n; rw [if_pos hz]
      have e1 : n + Int32.ofNat 0 = n := Int32.add_zero n
      rw [e0, e1]
      exact lv_at hl 0 rfl
    · refine lv_iinc hx hb (i := 1) (n := 1) (k := 0) (by decide +kernel) hl rfl rfl (by decide) rfl ?_
      intro ls1 hl1
      refine lv_iload_n hx hb (k := 2) (i := 2) (by decide +kernel) rfl (lv_at hl1 1 rfl) ?_
      refine lv_iload_n hx hb (k := 2) (i := 2) (by decide +kernel) rfl (lv_at hl1 1 rfl) ?_
      refine lv_iconst hx hb (n := 1) (v := 1) (by decide +kernel) rfl ?_
      refine lv_isub hx hb (by decide +kernel) ?_
      refine lv_iand hx hb (by decide +kernel) ?_
      refine lv_istore_n hx hb (k := 2) (i := 2) (by decide +kernel) rfl hl1 (by decide) rfl ?_
      intro ls2 hl2
      refine lv_goto hx hb (off := -13) (tgt := 4) (by decide +kernel) rfl ?_
      refine xz_loop hx hb k (n + Int32.ofInt 1) (v &&& (v - 1)) ls2 (by have h9 := xz_lt hz; omega) ⟨hl2.1, hl2.2.1, fun q hq => hl2.2.2 q ?_⟩ (fun ls' h' => fin ls' ?_)
      · rcases List.mem_cons.mp hq with rfl | hq
        · exact List.mem_cons_of_mem _ List.mem_cons_self
        · rw [List.mem_singleton.mp hq]
          exact List.mem_cons_self
      · have e0 : xz_n (k + 1) v = 1 + xz_n k (v &&& (v - 1)) := by conv => lhs; unfold xz_n; rw [if_neg hz]
        have e1 : Int32.ofInt 1 = Int32.ofNat 1 := rfl
        rw [h', e0, Int32.ofNat_add, ← Int32.add_assoc, e1]
theorem xz_run (hx : p.tables.exec = Jvm.exec) (hb : c.code = cX10_sizeOf) {v : Int32} {ls : Array Slot} {lvs : List (Nat × Value)} (hl : lv_has ls 3 lvs) (h0 : ls[0]? = some (.val (.int v))) (fin : ∀ ls' : Array Slot, W p l e R s m args below meth c H locs kc ks Q (F0 m 21 ls' [.int (Int32.ofNat (xz_n (v.toBitVec.toNat + 1) v))])) : W p l e R s m args below meth c H locs kc ks Q (F0 m 0 ls []) := by
  have hl0 : lv_has ls 3 [(0, .int v)] := ⟨hl.1, hl.2.1, fun q hq => by rw [List.mem_singleton.mp hq]; exact h0⟩
  refine lv_iconst hx hb (n := 0) (v := 0) (by decide +kernel) rfl ?_
  refine lv_istore_n hx hb (k := 1) (i := 1) (by decide +kernel) rfl hl0 (by decide) rfl ?_
  intro ls1 hl1
  refine lv_iload_n hx hb (k := 0) (i := 0) (by decide +kernel) rfl (lv_at hl1 1 rfl) ?_
  refine lv_istore_n hx hb (k := 2) (i := 2) (by decide +kernel) rfl hl1 (by decide) rfl ?_
  intro ls2 hl2
  refine xz_loop hx hb (v.toBitVec.toNat + 1) 0 v ls2 (by omega) ⟨hl2.1, hl2.2.1, fun q hq => hl2.2.2 q ?_⟩ (fun ls' h' => ?_)
  · rcases List.mem_cons.mp hq with rfl | hq
    · exact List.mem_cons_of_mem _ List.mem_cons_self
    · rw [List.mem_singleton.mp hq]
      exact List.mem_cons_self
  · rw [Int32.zero_add] at h'
    exact lv_iload_n hx hb (k := 1) (i := 1) (by decide +kernel) rfl h' (fin ls')
end XZ
theorem xz_ok1 {env : List Int} {iv : xk_N} {x : Int32} (h : xk_ok env iv) : xk_ok (env ++ [x.toInt]) (iv.1 ++ [((-2147483648), 2147483647)], iv.2) := xk_ok_app h (Int32.le_toInt x) (by have := Int32.toInt_lt x; show x.toInt ≤ 2147483647; omega)
def xz_K0 : xk_K := ((([((-2147483648), 2147483647)], []), [(0, 0)], []), [(([((-2147483648), 2147483647), ((-2147483648), 2147483647)], []), some (0, 1), [])], (3, 100, 0, 0))
theorem xz_size (l : Launch) (D : va_G) : xk_KM l D yX10_sizeOf cX10_sizeOf 3 (some .int) xz_K0 := by
  refine xk_KM_by (by decide) rfl (by decide) ?_
  intro p e s m args below meth c env0 ad0 oq ws ls h0 hl0 F hret hlocks hnm hZ ha hc hP hD hlv
  obtain ⟨lvs, hl, hr⟩ := hlv
  obtain ⟨q, rest, rfl, ⟨hq1, hq2⟩, hr2⟩ := xk_r2_cons hr
  obtain ⟨x, hx1, hx2⟩ := hq2
  have hl0' : ls[0]? = some (.val (.int x)) := by
    have h1 := hl.2.2 q List.mem_cons_self
    rw [← hq1, hx1] at h1
    exact h1
  refine xz_run F.1 F.2.1 hl hl0' (fun ls' => ?_)
  refine W.iret F.1 F.2.1 hret (fun t ht hW => ?_) (fun _ h => by cases h) (by decide +kernel)
  refine xk_Qsame (P := (([((-2147483648), 2147483647), ((-2147483648), 2147483647)], []), some (0, 1), [])) (e2 := [(Int32.ofNat (xz_n (x.toBitVec.toNat + 1) x)).toInt]) (locs := []) (by decide) rfl (xz_ok1 (iv := ([((-2147483648), 2147483647)], [])) h0) ⟨_, rfl, _, rfl, ?_⟩ ha hc hP hD va_S.rf ht hW
  have hlen : env0.length = 1 := h0.1
  show (env0 ++ [_])[1]? = _
  rw [List.getElem?_append_right (by omega), hlen]
  rfl
/-- the answer as a number that is there ahead -/
def xz_K : xk_K := ((([((-2147483648), 2147483647), ((-2147483648), 2147483647)], []), [(0, 0)], []), [(([((-2147483648), 2147483647), ((-2147483648), 2147483647)], []), some (0, 1), [])], (3, 100, 0, 0))
def xz_Φ (env : List Int) : Prop := ∀ x : Int32, env[0]? = some x.toInt → env[1]? = some (Int32.ofNat (xz_n (x.toBitVec.toNat + 1) x)).toInt
theorem xz_sizeP (l : Launch) (D : va_G) : xk_KMp l D yX10_sizeOf cX10_sizeOf 3 (some .int) xz_K xz_Φ := by
  refine xk_KMp_by (by decide) rfl (by decide) ?_
  intro p e s m args below meth c env0 ad0 oq ws ls h0 hΦ hl0 F hret hlocks hnm hZ ha hc hP hD hlv
  obtain ⟨lvs, hl, hr⟩ := hlv
  obtain ⟨q, rest, rfl, ⟨hq1, hq2⟩, hr2⟩ := xk_r2_cons hr
  obtain ⟨x, hx1, hx2⟩ := hq2
  have hl0' : ls[0]? = some (.val (.int x)) := by
    have h1 := hl.2.2 q List.mem_cons_self
    rw [← hq1, hx1] at h1
    exact h1
  refine xz_run F.1 F.2.1 hl hl0' (fun ls' => ?_)
  refine W.iret F.1 F.2.1 hret (fun t ht hW => ?_) (fun _ h => by cases h) (by decide +kernel)
  refine xk_Qsame (P := (([((-2147483648), 2147483647), ((-2147483648), 2147483647)], []), some (0, 1), [])) (e2 := []) (locs := []) (by decide) rfl (by rw [List.append_nil]; exact h0) ⟨_, rfl, _, rfl, ?_⟩ ha hc hP hD va_S.rf ht hW
  rw [List.append_nil]
  exact hΦ x hx2

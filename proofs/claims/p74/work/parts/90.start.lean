theorem xl_oks {env : List Int} {iv : xk_N} : ∀ (zs : List Int) (qs : List xk_I) {env : List Int} {iv : xk_N}, xk_ok env iv → xk_r2 (fun q z => q.1 ≤ z ∧ z ≤ q.2) qs zs → xk_ok (env ++ zs) (iv.1 ++ qs, iv.2)
  | [], [], env, iv, h, _ => by rw [List.append_nil, List.append_nil]; exact h
  | z :: zs, q :: qs, env, iv, h, h2 => by
    have h3 := xk_ok_app h h2.1.1 h2.1.2
    have h4 := xl_oks (env := env) (iv := iv) zs qs h3 h2.2
    rw [List.append_assoc, List.append_assoc] at h4
    exact h4
  | [], _ :: _, _, _, _, h2 => h2.elim
  | _ :: _, [], _, _, _, h2 => h2.elim
theorem xl_Hst : ∀ q, q < 8 → (xl_H q).2.2.1 = [] := by
  intro q hq
  rcases (show q = 0 ∨ q = 1 ∨ q = 2 ∨ q = 3 ∨ q = 4 ∨ q = 5 ∨ q = 6 ∨ q = 7 by omega) with rfl | rfl | rfl | rfl | rfl | rfl | rfl | rfl <;> rfl
theorem xl_Hiv : ∀ q, q < 8 → (xl_H q).1.1[1]? = some (0, 3078) := by
  intro q hq
  rcases (show q = 0 ∨ q = 1 ∨ q = 2 ∨ q = 3 ∨ q = 4 ∨ q = 5 ∨ q = 6 ∨ q = 7 by omega) with rfl | rfl | rfl | rfl | rfl | rfl | rfl | rfl <;> rfl
section XLI
variable {p : Program} {l : Launch} {e : Env} {s : State} {m : MethodId} {below : List Frame} {meth : Method} {c : Code} {D : va_G} {b L : Nat} {xs : Nat → Int32} {oq : xk_O}
theorem xl_step (C : xl_ok p s m meth c D b L xs oq) {h : xk_S} {n : Nat} (hlen : h.1.1.length = n) (hst : h.2.2.1 = []) {gs : List xk_Cu} (piece : ∀ (e1 : List Int) (a1 : List Nat) (i : Nat), xl_E e1 n L i xs → e1.length = n + 7 → xl_cut p l e s m below meth c D b L oq e1 gs → xk_G p l e room_1 s m #[Value.ref b] below meth c (lw_Z below #[Value.ref b] s) (0, e1, a1, oq) 4 D (fun q => s.heap.size ≤ q) 18 (xl_st n h)) (told : ∀ g ∈ gs, g.2[0]? = some (some (0, ((n : Nat) : Int)))) (i : Nat) (IH : ∀ g ∈ gs, ∀ (env : List Int) (ad : List Nat) (H : Heap) (locs : List Loc) (ls : Array Slot) (st : List Value), xk_In (0, [(L : Int)], [], oq) 4 s D (fun q => s.heap.size ≤ q) g.1.2.1 env ad H locs ls st → env[1]? = some ((i : Int) + 6) → W p l e room_1 s m #[Value.ref b] below meth c H locs g.1.2.1.2.2.2.2.1 g.1.2.1.2.2.2.2.2 (lw_Z below #[Value.ref b] s) (F0 m g.1.1 ls st)) (env : List Int) (ad : List Nat) (H : Heap) (locs : List Loc) (ls : Array Slot) (hI : xk_In (0, [(L : Int)], [], oq) 4 s D (fun q => s.heap.size ≤ q) h env ad H locs ls []) (h1 : env[1]? = some (i : Int)) (hi : i ≤ 3078) : W p l e room_1 s m #[Value.ref b] below meth c H locs h.2.2.2.2.1 h.2.2.2.2.2 (lw_Z below #[Value.ref b] s) (F0 m 18 ls []) := by
  have hel : env.length = n := by rw [← hlen]; exact hI.1.1
  have hpr := hI.2.2.2.choose_spec.2.2.2.2.2
  have g0 : env[0]? = some (L : Int) := hpr.1 0 _ rfl
  obtain ⟨f, hf⟩ : ∃ f : Nat → Int, f = fun k => if i + 6 ≤ L then (xs (i + k)).toInt else 0 := ⟨_, rfl⟩
  have hfb : ∀ k, xk_full.1 ≤ f k ∧ f k ≤ xk_full.2 := by
    intro k
    rw [hf]
    dsimp only
    split
    · exact xk_full_ok _
    · exact ⟨by decide, by decide⟩
  have hok0 := xl_oks (env := env) (iv := h.1) [(i : Int) + 6, f 0, f 1, f 2, f 3, f 4, f 5] [(6, 3084), xk_full, xk_full, xk_full, xk_full, xk_full, xk_full] hI.1 ⟨⟨by show (6 : Int) ≤ _; omega, by show _ ≤ (3084 : Int); omega⟩, hfb 0, hfb 1, hfb 2, hfb 3, hfb 4, hfb 5, trivial⟩
  have gn : (env ++ [(i : Int) + 6, f 0, f 1, f 2, f 3, f 4, f 5])[n]? = some ((i : Int) + 6) := by
    rw [List.getElem?_append_right (by omega), hel, Nat.sub_self]
    rfl
  have hok : xk_ok (env ++ [(i : Int) + 6, f 0, f 1, f 2, f 3, f 4, f 5]) (xl_st n h).1 := xe_rel (i := 1) (j := n) (k := -6) (xe_rel (i := n) (j := 1) (k := 6) hok0 gn (xk_ga h1) (Int.le_refl _) (by decide)) (xk_ga h1) gn (by omega) (by decide)
  have hI2 : xk_In (0, [(L : Int)], [], oq) 4 s D (fun q => s.heap.size ≤ q) (h.1, h.2.1, h.2.2.1, h.2.2.2.1, h.2.2.2.2.1, h.2.2.2.2.2) env ad H locs ls [] := hI
  have h2 := xk_reb hI2 [(i : Int) + 6, f 0, f 1, f 2, f 3, f 4, f 5] hok
  have E : xl_E (env ++ [(i : Int) + 6, f 0, f 1, f 2, f 3, f 4, f 5]) n L i xs := by
    refine ⟨xk_ga g0, xk_ga h1, gn, fun hL k hk => ?_⟩
    rw [List.getElem?_append_right (by omega), hel, show n + 1 + k - n = k + 1 by omega]
    have e : ∀ k, f k = (xs (i + k)).toInt := by
      intro k
      rw [hf]
      exact if_pos hL
    rcases (show k = 0 ∨ k = 1 ∨ k = 2 ∨ k = 3 ∨ k = 4 ∨ k = 5 by omega) with rfl | rfl | rfl | rfl | rfl | rfl
    all_goals exact congrArg some (e _)
  exact piece _ ad i E (by rw [List.length_append, hel]; rfl) (fun g hg env' ad' H' locs' ls' st' hI' hn => IH g hg env' ad' H' locs' ls' st' hI' (by
    have h5 := hn 0 _ (told g hg)
    rw [h5]
    show some ((env ++ [(i : Int) + 6, f 0, f 1, f 2, f 3, f 4, f 5]).getD (((n : Nat) : Int).toNat) 0) = _
    rw [Int.toNat_natCast, List.getD_eq_getElem?_getD, gn]
    rfl)) _ ad H locs ls [] h2
theorem xl_nxt (C : xl_ok p s m meth c D b L xs oq) {k i n : Nat} (ih : ∀ (q : Nat), q < 8 → ∀ (env : List Int) (ad : List Nat) (H : Heap) (locs : List Loc) (ls : Array Slot) (i : Nat), xk_In (0, [(L : Int)], [], oq) 4 s D (fun q => s.heap.size ≤ q) (xl_H q) env ad H locs ls [] → env[1]? = some (i : Int) → 3084 - i ≤ k → W p l e room_1 s m #[Value.ref b] below meth c H locs (xl_H q).2.2.2.2.1 (xl_H q).2.2.2.2.2 (lw_Z below #[Value.ref b] s) (F0 m 18 ls [])) {g : xk_Cu} (hg : ∃ q, q < 8 ∧ g.1.1 = 18 ∧ g.1.2.1 = xl_H q ∧ g.2[0]? = some (some (0, ((n : Nat) : Int)))) (hi : 3084 - i ≤ k + 1 ∧ i ≤ 3078) {env : List Int} {ad : List Nat} {H : Heap} {locs : List Loc} {ls : Array Slot} {st : List Value} (hI : xk_In (0, [(L : Int)], [], oq) 4 s D (fun q => s.heap.size ≤ q) g.1.2.1 env ad H locs ls st) (h1 : env[1]? = some ((i : Int) + 6)) : W p l e room_1 s m #[Value.ref b] below meth c H locs g.1.2.1.2.2.2.2.1 g.1.2.1.2.2.2.2.2 (lw_Z below #[Value.ref b] s) (F0 m g.1.1 ls st) := by
  obtain ⟨q, hq, h18, hH, -⟩ := hg
  rw [hH] at hI ⊢
  rw [h18]
  have hs : xk_r2 (xk_v (0, [(L : Int)], [], oq) env ad) (xl_H q).2.2.1 st := hI.2.2.1
  rw [xl_Hst q hq] at hs
  have e := xk_r2_nil hs
  subst e
  exact ih q hq env ad H locs ls (i + 6) hI (by rw [h1]; rfl) (by omega)
theorem xl_iter (C : xl_ok p s m meth c D b L xs oq) : ∀ (k : Nat) (q : Nat), q < 8 → ∀ (env : List Int) (ad : List Nat) (H : Heap) (locs : List Loc) (ls : Array Slot) (i : Nat), xk_In (0, [(L : Int)], [], oq) 4 s D (fun q => s.heap.size ≤ q) (xl_H q) env ad H locs ls [] → env[1]? = some (i : Int) → 3084 - i ≤ k → W p l e room_1 s m #[Value.ref b] below meth c H locs (xl_H q).2.2.2.2.1 (xl_H q).2.2.2.2.2 (lw_Z below #[Value.ref b] s) (F0 m 18 ls [])
  | 0, q, hq, env, ad, H, locs, ls, i, hI, h1, hk => by
    have h5 := hI.1.2.1 1 _ _ h1 (xl_Hiv q hq)
    have h6 : (i : Int) ≤ 3078 := h5.2
    omega
  | k + 1, q, hq, env, ad, H, locs, ls, i, hI, h1, hk => by
    have h5 := hI.1.2.1 1 _ _ h1 (xl_Hiv q hq)
    have h6 : (i : Int) ≤ 3078 := h5.2
    have ih := xl_iter C k
    have hi : 3084 - i ≤ k + 1 ∧ i ≤ 3078 := ⟨hk, by omega⟩
    rcases (show q = 0 ∨ q = 1 ∨ q = 2 ∨ q = 3 ∨ q = 4 ∨ q = 5 ∨ q = 6 ∨ q = 7 by omega) with rfl | rfl | rfl | rfl | rfl | rfl | rfl | rfl
    · exact xl_step C  (h := xl_h_0) (n := 41) rfl rfl (fun e1 a1 i E hn CU => xl_p_0 C E hn CU) (fun g hg => (xl_gp_0 g hg).choose_spec.2.2.2) i (fun g hg env' ad' H' locs' ls' st' hI h1 => xl_nxt C ih (xl_gp_0 g hg) hi hI h1) env ad H locs ls hI h1 hi.2
    · exact xl_step C  (h := xl_h_1) (n := 45) rfl rfl (fun e1 a1 i E hn CU => xl_p_1 C E hn CU) (fun g hg => (xl_gp_1 g hg).choose_spec.2.2.2) i (fun g hg env' ad' H' locs' ls' st' hI h1 => xl_nxt C ih (xl_gp_1 g hg) hi hI h1) env ad H locs ls hI h1 hi.2
    · exact xl_step C  (h := xl_h_2) (n := 45) rfl rfl (fun e1 a1 i E hn CU => xl_p_2 C E hn CU) (fun g hg => (xl_gp_2 g hg).choose_spec.2.2.2) i (fun g hg env' ad' H' locs' ls' st' hI h1 => xl_nxt C ih (xl_gp_2 g hg) hi hI h1) env ad H locs ls hI h1 hi.2
    · exact xl_step C  (h := xl_h_3) (n := 49) rfl rfl (fun e1 a1 i E hn CU => xl_p_3 C E hn CU) (fun g hg => (xl_gp_3 g hg).choose_spec.2.2.2) i (fun g hg env' ad' H' locs' ls' st' hI h1 => xl_nxt C ih (xl_gp_3 g hg) hi hI h1) env ad H locs ls hI h1 hi.2
    · exact xl_step C  (h := xl_h_4) (n := 45) rfl rfl (fun e1 a1 i E hn CU => xl_p_4 C E hn CU) (fun g hg => (xl_gp_4 g hg).choose_spec.2.2.2) i (fun g hg env' ad' H' locs' ls' st' hI h1 => xl_nxt C ih (xl_gp_4 g hg) hi hI h1) env ad H locs ls hI h1 hi.2
    · exact xl_step C  (h := xl_h_5) (n := 49) rfl rfl (fun e1 a1 i E hn CU => xl_p_5 C E hn CU) (fun g hg => (xl_gp_5 g hg).choose_spec.2.2.2) i (fun g hg env' ad' H' locs' ls' st' hI h1 => xl_nxt C ih (xl_gp_5 g hg) hi hI h1) env ad H locs ls hI h1 hi.2
    · exact xl_step C  (h := xl_h_6) (n := 49) rfl rfl (fun e1 a1 i E hn CU => xl_p_6 C E hn CU) (fun g hg => (xl_gp_6 g hg).choose_spec.2.2.2) i (fun g hg env' ad' H' locs' ls' st' hI h1 => xl_nxt C ih (xl_gp_6 g hg) hi hI h1) env ad H locs ls hI h1 hi.2
    · exact xl_step C  (h := xl_h_7) (n := 53) rfl rfl (fun e1 a1 i E hn CU => xl_p_7 C E hn CU) (fun g hg => (xl_gp_7 g hg).choose_spec.2.2.2) i (fun g hg env' ad' H' locs' ls' st' hI h1 => xl_nxt C ih (xl_gp_7 g hg) hi hI h1) env ad H locs ls hI h1 hi.2

set_option maxRecDepth 100000 in
theorem xl_entry (C : xl_ok p s m meth c D b L xs oq) : xk_G p l e room_1 s m #[Value.ref b] below meth c (lw_Z below #[Value.ref b] s) (0, [(L : Int)], [], oq) 4 D (fun q => s.heap.size ≤ q) 0 (([(0, 3072)], []), [(0, (7, 0))], [], [], 0, 0) := xl_run C (dt := xl_dt0) xl_dt0_ok (xl_HK0 C) (B := [(4, xk_9, xl_9), (12, xk_10, xl_10)]) (List.forall_mem_cons.mpr ⟨xk_rnI (idx := 9) (xc_9 l D) rfl xw_1656 xw_1657 xw_167 xw_1655 rfl ⟨by decide, by decide, by decide +kernel⟩ ⟨by decide, by decide⟩ (by decide +kernel), List.forall_mem_cons.mpr ⟨xk_rnI (idx := 12) (xc_10 l D) rfl xw_1653 xw_1654 xw_170 xw_1652 rfl ⟨by decide, by decide, by decide +kernel⟩ ⟨by decide, by decide⟩ (by decide +kernel), fun _ h => absurd h List.not_mem_nil⟩⟩) (gs := xl_gs0) (n1 := 1) (by decide +kernel) (fun g hg env ad H locs ls st hI hn => by
    have hg2 := List.mem_singleton.mp hg
    subst hg2
    have hs := xk_r2_nil hI.2.2.1
    subst hs
    exact xl_iter C 3084 0 (by decide) env ad H locs ls 0 hI (hn 0 _ rfl) (by decide)) (ct := []) (fun _ h => absurd h List.not_mem_nil) rfl rfl (f := 15) (by decide +kernel)
end XLI
def xl_tm (i : Nat) : Term := .string "LieKitchen$Reader" (xs_idx.getD i 0)
set_option maxRecDepth 100000 in
theorem xl_m1 : ∀ i, i < 16 → Cond.exactly (xl_tm i) "java/lang/String" ∈ flatC (Jvm.Cond.and given_1 narrow_1) := by decide +kernel
set_option maxRecDepth 100000 in
theorem xl_m2 : ∀ i, i < 16 → Cond.eq (.field (xl_tm i) "java/lang/String" "coder" "B") (.int 0) ∈ flatC (Jvm.Cond.and given_1 narrow_1) := by decide +kernel
set_option maxRecDepth 100000 in
theorem xl_m3 : ∀ i, i < 16 → Cond.arrayOf (.field (xl_tm i) "java/lang/String" "value" "[B") .byte ∈ flatC (Jvm.Cond.and given_1 narrow_1) := by decide +kernel
set_option maxRecDepth 100000 in
theorem xl_m4 : ∀ i, i < 16 → Cond.eq (.length (.field (xl_tm i) "java/lang/String" "value" "[B")) (.int (Int32.ofNat (xs_len.getD i 0))) ∈ flatC (Jvm.Cond.and given_1 narrow_1) := by decide +kernel
set_option maxRecDepth 100000 in
theorem xl_m5 : ∀ i, i < 16 → ∀ j, j < xs_len.getD i 0 → Cond.eq (.elem (.field (xl_tm i) "java/lang/String" "value" "[B") (.int (Int32.ofNat j))) (.int ((xs_byt.getD i []).getD j 0)) ∈ flatC (Jvm.Cond.and given_1 narrow_1) := by decide +kernel
def xl_nx : List (List Nat) := [[0, 51, 58, 67, 78, 91, 104, 117, 132, 146, 163, 181, 201, 222, 245, 268], [0, 0, 59, 68, 79, 92, 105, 118, 133, 147, 164, 182, 202, 223, 246, 269], [0, 0, 0, 69, 80, 93, 106, 119, 134, 148, 165, 183, 203, 224, 247, 270], [0, 0, 0, 0, 81, 94, 107, 120, 135, 149, 166, 184, 204, 225, 248, 271], [0, 0, 0, 0, 0, 95, 108, 121, 136, 150, 167, 185, 205, 226, 249, 272], [0, 0, 0, 0, 0, 0, 109, 122, 137, 151, 168, 186, 206, 227, 250, 273], [0, 0, 0, 0, 0, 0, 0, 123, 138, 152, 169, 187, 207, 228, 251, 274], [0, 0, 0, 0, 0, 0, 0, 0, 139, 153, 170, 188, 208, 229, 252, 275], [0, 0, 0, 0, 0, 0, 0, 0, 0, 154, 171, 189, 209, 230, 253, 276], [0, 0, 0, 0, 0, 0, 0, 0, 0, 0, 172, 190, 210, 231, 254, 277], [0, 0, 0, 0, 0, 0, 0, 0, 0, 0, 0, 191, 211, 232, 255, 278], [0, 0, 0, 0, 0, 0, 0, 0, 0, 0, 0, 0, 212, 233, 256, 279], [0, 0, 0, 0, 0, 0, 0, 0, 0, 0, 0, 0, 0, 234, 257, 280], [0, 0, 0, 0, 0, 0, 0, 0, 0, 0, 0, 0, 0, 0, 258, 281], [0, 0, 0, 0, 0, 0, 0, 0, 0, 0, 0, 0, 0, 0, 0, 282], [0, 0, 0, 0, 0, 0, 0, 0, 0, 0, 0, 0, 0, 0, 0, 0]]
set_option maxRecDepth 100000 in
theorem xl_m6a : ∀ i, i < 16 → ∀ j, j < 16 → i < j → (flatC (Jvm.Cond.and given_1 narrow_1))[(xl_nx.getD i []).getD j 0]? = some (Cond.not (Cond.eq (xl_tm i) (xl_tm j))) := by decide +kernel
theorem xl_m6 : ∀ i, i < 16 → ∀ j, j < 16 → i ≠ j → Cond.not (Cond.eq (xl_tm i) (xl_tm j)) ∈ flatC (Jvm.Cond.and given_1 narrow_1) ∨ Cond.not (Cond.eq (xl_tm j) (xl_tm i)) ∈ flatC (Jvm.Cond.and given_1 narrow_1) := by
  intro i hi j hj hij
  rcases Nat.lt_or_ge i j with h | h
  · exact Or.inl (List.mem_of_getElem? (xl_m6a i hi j hj h))
  · exact Or.inr (List.mem_of_getElem? (xl_m6a j hj i hi (by omega)))
set_option maxRecDepth 100000 in
theorem xl_m7 : ∀ i, i < 16 → Cond.stringRef "LieKitchen$Reader" (xs_idx.getD i 0) (xs_txt.getD i "") ∈ lw_tbl := by decide +kernel
theorem xl_SUH {s : State} {b : Nat} (hts : ∀ w ∈ lw_tbl, w.before #[Value.ref b] s = true) (hgv : (Jvm.Cond.and given_1 narrow_1).before #[Value.ref b] s = true) : ∃ o : (Nat → Nat) × (Nat → Nat), xk_SUH ([b], o) (fun q => s.heap.size ≤ q) s s.heap := by
  have hs := flat_of_before _ hgv
  have hA : ∀ a : Nat, a < s.heap.size → ¬ s.heap.size ≤ a := fun a ha => Nat.not_le.mpr ha
  obtain ⟨adK, adV, hS, hev⟩ := vk_Sof (args := #[Value.ref b]) (s := s) (N := 16) (tm := xl_tm) (len := xs_len) (byt := xs_byt) (A := fun q => s.heap.size ≤ q) (by decide) (fun i hi => hs _ (xl_m1 i hi)) (fun i hi => hs _ (xl_m2 i hi)) (fun i hi => hs _ (xl_m3 i hi)) (fun i hi => hs _ (xl_m4 i hi)) (fun i hi j hj => hs _ (xl_m5 i hi j hj)) (fun i j hi hj hij => (xl_m6 i hi j hj hij).imp (hs _) (hs _)) hA
  have hc := va_eqi (C := "java/lang/String") (n := "COMPACT_STRINGS") (d := "Z") (z := 1) (hs _ (by decide +kernel))
  have hZ1 := va_Zof (A := fun q => s.heap.size ≤ q) (hts (Cond.laysStatic "java/lang/String" "COMPACT_STRINGS" "Z") (by decide +kernel)) (hts (Cond.initialized "java/lang/String") (by decide +kernel)) hc hA
  obtain ⟨v, hv, hvr⟩ := Cond.isRef_spec (hs (Cond.isRef (.static "jdk/internal/util/Preconditions" "SIOOBE_FORMATTER" "Ljava/util/function/BiFunction;")) (by decide +kernel))
  have hZ2 := va_Zof (A := fun q => s.heap.size ≤ q) (hts (Cond.laysStatic "jdk/internal/util/Preconditions" "SIOOBE_FORMATTER" "Ljava/util/function/BiFunction;") (by decide +kernel)) (hts (Cond.initialized "jdk/internal/util/Preconditions") (by decide +kernel)) hv hA
  have key : ∀ t : Nat, xk_tv (adK, fun k => if k = 16 then t else adV k) 32 = v → ∃ o : (Nat → Nat) × (Nat → Nat), xk_SUH ([b], o) (fun q => s.heap.size ≤ q) s s.heap := by
    intro t ht
    refine ⟨(adK, fun k => if k = 16 then t else adV k), ⟨fun i hi => ?_, hS.2⟩, fun i hi => vk_R.of (hts _ (xl_m7 i hi)) (hev i hi), hZ1, ?_⟩
    · have h1 := hS.1 i hi
      dsimp only
      rw [if_neg (show ¬ i = 16 by omega)]
      exact h1
    · show va_Z _ _ _ (xk_tv (adK, fun k => if k = 16 then t else adV k) 32) _ _ _
      rw [ht]
      exact hZ2
  cases v with
  | null => exact key 0 rfl
  | ref a => exact key (a + 1) rfl
  | _ => simp [Value.isRef] at hvr
/-- the law from its entry -/
theorem whole_start {p : Program} {e : Env} {s : State} {m : MethodId} {below : List Frame} {meth : Method} {c : Code} (l : Launch) {b L : Nat} {xs : Nat → Int32} (hL : L ≤ 3072) (C0 : lw_At p s m meth c b L xs) : W p l e room_1 s m #[Value.ref b] below meth c s.heap [] 0 0 (lw_Z below #[Value.ref b] s) (entryFrame m ([Value.ref b] : List Value).toArray 4) := by
  obtain ⟨hx, hb, hr, hml, hown, hts, hX, hbl, hlocks, hgv⟩ := id C0
  have hts2 : ∀ w ∈ xk_tb, w.before #[Value.ref b] s = true := fun w h => hts w (List.mem_filter.mp h).1
  obtain ⟨c0, i0, hKn0⟩ := u_known (C := RX0) (T := TX0) (N := 4) (n := 4) hts2 xi_0 (hts2 _ (xk_tb_g xw_61))
  obtain ⟨c1, i1, hKn1⟩ := u_known (C := RX1) (T := TX1) (N := 1) (n := 1) hts2 xi_1 (hts2 _ (xk_tb_g xw_55))
  obtain ⟨c2, i2, hKn2⟩ := u_known (C := RX2) (T := TX2) (N := 17) (n := 17) hts2 xi_2 (hts2 _ (xk_tb_g xw_46))
  obtain ⟨c3, i3, hKn3⟩ := u_known (C := RX3) (T := TX3) (N := 3) (n := 3) hts2 xi_3 (hts2 _ (xk_tb_g xw_58))
  obtain ⟨c4, i4, hKn4⟩ := u_known (C := RX4) (T := TX4) (N := 6) (n := 6) hts2 xi_4 (hts2 _ (xk_tb_g xw_49))
  obtain ⟨c5, i5, hKn5⟩ := u_known (C := RX5) (T := TX5) (N := 4) (n := 4) hts2 xi_5 (hts2 _ (xk_tb_g xw_52))
  obtain ⟨c6, i6, hKn6⟩ := u_known (C := RX6) (T := TX6) (N := 3) (n := 3) hts2 xi_6 (hts2 _ (xk_tb_g xw_64))
  obtain ⟨c7, i7, hKn7⟩ := u_known (C := RX7) (T := TX7) (N := 4) (n := 4) hts2 xi_7 (hts2 _ (xk_tb_g xw_111))
  obtain ⟨c8, i8, hKn8⟩ := u_known (C := RX8) (T := TX8) (N := 2) (n := 2) hts2 xi_8 (hts2 _ (xk_tb_g xw_43))
  obtain ⟨c9, i9, hKn9⟩ := u_known (C := RX9) (T := TX9) (N := 10) (n := 10) hts2 xi_9 (hts2 _ (xk_tb_g xw_166))
  obtain ⟨c10, i10, hKn10⟩ := u_known (C := RX10) (T := TX10) (N := 33) (n := 33) hts2 xi_10 (hts2 _ (xk_tb_g xw_169))
  obtain ⟨dC, dI, hKc⟩ : ∃ (dC : Nat → ClassId) (dI : Nat → Nat → Nat), ∀ (k : Nat) (q : vw_C), vwCl[k]? = some q → u_Kn s q.1 q.2.1 q.2.2 (dC k) (dI k) := by
    refine ⟨fun k => match k with | 0 => c0 | 1 => c1 | 2 => c2 | 3 => c3 | 4 => c4 | 5 => c5 | 6 => c6 | 7 => c7 | 8 => c8 | 9 => c9 | _ => c10, fun k => match k with | 0 => i0 | 1 => i1 | 2 => i2 | 3 => i3 | 4 => i4 | 5 => i5 | 6 => i6 | 7 => i7 | 8 => i8 | 9 => i9 | _ => i10, ?_⟩
    intro k q hq
    match k, hq with
    | 0, hq => cases hq; exact hKn0
    | 1, hq => cases hq; exact hKn1
    | 2, hq => cases hq; exact hKn2
    | 3, hq => cases hq; exact hKn3
    | 4, hq => cases hq; exact hKn4
    | 5, hq => cases hq; exact hKn5
    | 6, hq => cases hq; exact hKn6
    | 7, hq => cases hq; exact hKn7
    | 8, hq => cases hq; exact hKn8
    | 9, hq => cases hq; exact hKn9
    | 10, hq => cases hq; exact hKn10
    | k + 11, hq => simp [vwCl] at hq
  have hK : va_K (dC, dI) vwCl [] s := ⟨hKc, fun k q h => by simp at h⟩
  obtain ⟨o, hSUH⟩ := xl_SUH hts hgv
  have C : xl_ok p s m meth c (dC, dI) b L xs ([b], o) := ⟨⟨hx, hb, hml, hown, hts2, hK, fun _ h => h⟩, hX, hbl, hr, hlocks, hSUH, rfl, hL⟩
  have hl := lv_entry ([.ref b]) (n := 4) (Nat.le_of_ble_eq_true rfl)
  rw [lg_entry_eq]
  refine xl_entry C [(L : Int)] [] s.heap [] _ [] ⟨⟨rfl, fun i n q hn hq => ?_, fun r hr => absurd hr List.not_mem_nil⟩, ⟨[(0, .ref b)], hl, ⟨rfl, b, rfl, rfl⟩, trivial⟩, trivial, [], rfl, trivial, fun k q h => by simp at h, ⟨fun i j p q h => by simp at h, fun k q h => by simp at h⟩, va_S.rf, ⟨fun j n h => h, fun j a h => by simp at h⟩⟩
  cases i with
  | zero =>
    have hn : some (L : Int) = some n := hn
    have hq : some ((0 : Int), (3072 : Int)) = some q := hq
    cases hn
    cases hq
    exact ⟨Int.natCast_nonneg _, Int.ofNat_le.mpr hL⟩
  | succ i => simp at hn

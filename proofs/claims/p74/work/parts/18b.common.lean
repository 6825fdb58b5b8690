def xc_d : Nat → Nat → Nat → Bool
  | 0, _, b => Nat.beq b 0
  | k + 1, a, b => Nat.beq b 0 || xc_d k b (a % b)
theorem xc_d_ok : ∀ (j a b : Nat), b < 2 ^ j → xc_d (2 * j) a b = true
  | 0, a, b, h => by
    have e : b = 0 := by simpa using h
    subst e
    rfl
  | j + 1, a, b, h => by
    show xc_d (2 * j + 1 + 1) a b = true
    unfold xc_d
    by_cases hb : b = 0
    · subst hb
      rfl
    · rw [Bool.or_eq_true]
      right
      unfold xc_d
      by_cases hr : a % b = 0
      · rw [hr]
        rfl
      · rw [Bool.or_eq_true]
        right
        refine xc_d_ok j _ _ ?_
        have h1 : a % b < b := Nat.mod_lt _ (Nat.pos_of_ne_zero hb)
        have h2 : b % (a % b) < a % b := Nat.mod_lt _ (Nat.pos_of_ne_zero hr)
        have h3 := Nat.mod_add_div b (a % b)
        have h4 : 0 < b / (a % b) := Nat.div_pos (Nat.le_of_lt h1) (Nat.pos_of_ne_zero hr)
        have h5 := Nat.le_mul_of_pos_right (a % b) h4
        have h6 : 2 ^ (j + 1) = 2 * 2 ^ j := by rw [Nat.pow_succ, Nat.mul_comm]
        omega
theorem xc_rem (x y : Int64) : (x - x / y * y).toInt = x.toInt.tmod y.toInt := by
  have h1 : x - x / y * y = Int64.ofInt (x.toInt.tmod y.toInt) := by
    have h2 : x.toInt.tmod y.toInt = x.toInt - x.toInt.tdiv y.toInt * y.toInt := by
      have h3 := Int.tmod_add_tdiv_mul x.toInt y.toInt
      omega
    have h4 : x / y = Int64.ofInt (x.toInt.tdiv y.toInt) := by
      apply Int64.toInt_inj.mp
      rw [Int64.toInt_div, Int64.toInt_ofInt]
    rw [h2, Int64.ofInt_sub, Int64.ofInt_mul, Int64.ofInt_toInt, Int64.ofInt_toInt, h4]
  rw [h1, ← Int64.toInt_mod, Int64.ofInt_toInt]
def xc_P1 (I : xk_I) : xk_P := (([((-9223372036854775808), 9223372036854775807), I, (1, 9223372036854775807)], []), some (1, 2), [])
def xc_P2 (I : xk_I) : xk_P := (([((-9223372036854775808), 9223372036854775807), I, ((-9223372036854775808), (-1))], []), some (1, 2), [])
def xc_F : xk_I := ((-9223372036854775808), 9223372036854775807)
def xc_K (d : Nat) (I : xk_I) : xk_K := ((([((-9223372036854775808), 9223372036854775807), I], []), [(1, 0), (1, 1)], []), [xc_P1 I, xc_P2 I], (d, 30 * d, 0, 0))
def xc_Φ (d : Nat) (env : List Int) : Prop := ∀ a b : Int64, env[0]? = some a.toInt → env[1]? = some b.toInt → xc_d d a.toInt.natAbs b.toInt.natAbs = true ∧ (¬ a = 0 ∨ ¬ b = 0)
theorem xc_nz {x : Int64} (h : ¬ x = 0) : 1 ≤ x.toInt ∨ x.toInt ≤ -1 := by
  have h1 : x.toInt ≠ 0 := fun e => h (Int64.toInt_inj.mp (by rw [e]; rfl))
  omega
/-- the end, with an answer that is not 0 -/
theorem xc_end {D : va_G} {d : Nat} {I : xk_I} {env0 : List Int} {ad0 : List Nat} {oq : xk_O} {s t : State} {args : Array Value} {r : Int64} {locs : List Loc} {H : Heap} (h0 : xk_ok env0 (xc_K d I).1.1) (hl : ad0.length = 0) (hr : ¬ r = 0) (hS : va_S (xk_fr ad0 s.heap.size) s.heap H locs) (ht : t.heap = H) : xk_Qc D (xc_K d I) env0 ad0 s.heap.size oq args s (.returned (some (.long r))) t := by
  have hlen : env0.length = 2 := h0.1
  have ead : ad0 = [] := List.eq_nil_of_length_eq_zero hl
  have hv : xk_v (0, [], [], oq) (env0 ++ [r.toInt]) (ad0 ++ []) (1, 2) (.long r) := by
    refine ⟨r, rfl, ?_⟩
    show (env0 ++ [r.toInt])[2]? = some r.toInt
    rw [List.getElem?_append_right (by omega), hlen]
    rfl
  have hw : ∀ hp : List xk_C, hp = [] → xk_wd D t (0, [], [], oq) (env0 ++ [r.toInt]) (ad0 ++ []) hp (xk_fr ad0 s.heap.size) t.heap := by
    intro hp e
    subst e
    exact ⟨[], by rw [ead]; rfl, trivial, fun k q h => by simp at h, ⟨fun i j a b h => by simp at h, fun k q h => by simp at h⟩⟩
  have h1 := Int64.le_toInt r
  have h2 := Int64.toInt_lt r
  refine ⟨?_, hS.F ht⟩
  rcases xc_nz hr with h | h
  · exact ⟨xc_P1 I, List.mem_cons_self, [r.toInt], [], _, rfl, xk_ok_app (iv := (xc_K d I).1.1) (q := (1, 9223372036854775807)) h0 h (by show r.toInt ≤ 9223372036854775807; omega), ⟨_, rfl, hv⟩, hw _ rfl⟩
  · exact ⟨xc_P2 I, List.mem_cons_of_mem _ List.mem_cons_self, [r.toInt], [], _, rfl, xk_ok_app (iv := (xc_K d I).1.1) (q := ((-9223372036854775808), (-1))) h0 (by show -9223372036854775808 ≤ r.toInt; omega) h, ⟨_, rfl, hv⟩, hw _ rfl⟩
theorem xc_met (l : Launch) (D : va_G) : ∀ (d : Nat) (I : xk_I), xk_KMp l D yX10_common cX10_common 4 (some .long) (xc_K d I) (xc_Φ d) := by
  intro d
  induction d with
  | zero =>
    intro I
    refine xk_KMp_by (by decide) rfl (Nat.le_of_ble_eq_true rfl) ?_
    intro p e s m args below meth c env0 ad0 oq ws ls h0 hΦ hl0 F hret hlocks hnm hZ ha hc hP hD hlv
    obtain ⟨lvs, hl, hr⟩ := hlv
    obtain ⟨q, rest, rfl, ⟨hq1, a, hx1, hx2⟩, hr2⟩ := xk_r2_cons hr
    obtain ⟨q', rest', rfl, ⟨hq1', b, hx1', hx2'⟩, hr3⟩ := xk_r2_cons hr2
    have l0 : ls[0]? = some (.val (.long a)) := by
      have h1 := hl.2.2 q List.mem_cons_self
      rw [← hq1, hx1] at h1
      exact h1
    have l2 : ls[2]? = some (.val (.long b)) := by
      have h1 := hl.2.2 q' (List.mem_cons_of_mem _ List.mem_cons_self)
      rw [← hq1', hx1'] at h1
      exact h1
    obtain ⟨g1, g2⟩ := hΦ a b hx2 hx2'
    have hb0 : b = 0 := by
      have h1 := Nat.eq_of_beq_eq_true g1
      exact Int64.toInt_inj.mp (by rw [Int.natAbs_eq_zero.mp h1]; rfl)
    refine lv_lload_n F.1 F.2.1 (k := 2) (i := 2) (by decide +kernel) rfl l2 ?_
    refine lv_lconst F.1 F.2.1 (n := 0) (v := 0) (by decide +kernel) rfl ?_
    refine W.lcmp F.1 F.2.1 (by decide +kernel) ?_
    refine lv_if_ne F.1 F.2.1 (off := 7) (tgt := 10) (by decide +kernel) rfl (fun hz => absurd ((lg_cmp_eq b 0).mpr hb0) hz) (fun hz => ?_)
    refine lv_lload_n F.1 F.2.1 (k := 0) (i := 0) (by decide +kernel) rfl l0 ?_
    refine lv_goto F.1 F.2.1 (off := 10) (tgt := 17) (by decide +kernel) rfl ?_
    exact W.lret F.1 F.2.1 hret (fun t ht hW => xc_end h0 hl0 (g2.resolve_right (fun z => z hb0)) va_S.rf ht) (fun _ h => by cases h) (by decide +kernel)
  | succ d ih =>
    intro I
    refine xk_KMp_by (by decide) rfl (Nat.le_of_ble_eq_true rfl) ?_
    intro p e s m args below meth c env0 ad0 oq ws ls h0 hΦ hl0 F hret hlocks hnm hZ ha hc hP hD hlv
    obtain ⟨lvs, hl, hr⟩ := hlv
    obtain ⟨q, rest, rfl, ⟨hq1, a, hx1, hx2⟩, hr2⟩ := xk_r2_cons hr
    obtain ⟨q', rest', rfl, ⟨hq1', b, hx1', hx2'⟩, hr3⟩ := xk_r2_cons hr2
    have l0 : ls[0]? = some (.val (.long a)) := by
      have h1 := hl.2.2 q List.mem_cons_self
      rw [← hq1, hx1] at h1
      exact h1
    have l2 : ls[2]? = some (.val (.long b)) := by
      have h1 := hl.2.2 q' (List.mem_cons_of_mem _ List.mem_cons_self)
      rw [← hq1', hx1'] at h1
      exact h1
    obtain ⟨g1, g2⟩ := hΦ a b hx2 hx2'
    refine lv_lload_n F.1 F.2.1 (k := 2) (i := 2) (by decide +kernel) rfl l2 ?_
    refine lv_lconst F.1 F.2.1 (n := 0) (v := 0) (by decide +kernel) rfl ?_
    refine W.lcmp F.1 F.2.1 (by decide +kernel) ?_
    refine lv_if_ne F.1 F.2.1 (off := 7) (tgt := 10) (by decide +kernel) rfl (fun hz => ?_) (fun hz => ?_)
    · have hb0 : ¬ b = 0 := fun z => hz ((lg_cmp_eq b 0).mpr z)
      refine lv_lload_n F.1 F.2.1 (k := 2) (i := 2) (by decide +kernel) rfl l2 ?_
      refine lv_lload_n F.1 F.2.1 (k := 0) (i := 0) (by decide +kernel) rfl l0 ?_
      refine lv_lload_n F.1 F.2.1 (k := 2) (i := 2) (by decide +kernel) rfl l2 ?_
      refine lv_lrem F.1 F.2.1 (by decide +kernel) hb0 ?_
      have hok : xk_ok [b.toInt, (a - a / b * b).toInt] (xc_K d xc_F).1.1 := by
        have k1 := Int64.le_toInt b
        have k2 := Int64.toInt_lt b
        have k3 := Int64.le_toInt (a - a / b * b)
        have k4 := Int64.toInt_lt (a - a / b * b)
        have e1 : xk_ok ([] ++ [b.toInt]) ([] ++ [((-9223372036854775808), 9223372036854775807)], []) := xk_ok_app (env := []) (iv := ([], [])) ⟨rfl, fun i n q h => by simp at h, fun r h => by cases h⟩ k1 (by show b.toInt ≤ 9223372036854775807; omega)
        exact xk_ok_app (env := [b.toInt]) (iv := ([((-9223372036854775808), 9223372036854775807)], [])) e1 k3 (by show (a - a / b * b).toInt ≤ 9223372036854775807; omega)
      have hΦ2 : xc_Φ d [b.toInt, (a - a / b * b).toInt] := by
        intro a' b' e1 e2
        have e1 : b.toInt = a'.toInt := Option.some.inj e1
        have e2 : (a - a / b * b).toInt = b'.toInt := Option.some.inj e2
        have e1' := Int64.toInt_inj.mp e1
        subst e1'
        refine ⟨?_, Or.inl hb0⟩
        rw [← e2, xc_rem, Int.natAbs_tmod]
        unfold xc_d at g1
        rw [Bool.or_eq_true] at g1
        refine g1.resolve_left (fun z => hb0 ?_)
        exact Int64.toInt_inj.mp (by rw [Int.natAbs_eq_zero.mp (Nat.eq_of_beq_eq_true z)]; rfl)
      have hRn : xk_RnP l D RX10 cX10_common 4 (headSpec (Cond.code yX10_common cX10_common 4 (some .long) :: xk_tg) (xk_rm (xc_K (d + 1) I))).room 14 (xc_K d xc_F) (xc_Φ d) := xk_rnSP (idx := 317) (ih xc_F) xw_835 xw_836 xw_170 xw_834 ⟨by decide, by decide, by show _ = some 2; decide +kernel⟩ ⟨Nat.le_refl _, by show 8 + (4 + 11) + 30 * d ≤ 30 * (d + 1); omega⟩ (by decide +kernel)
      have hrr : xk_r2 (xk_v (0, [], [], oq) [b.toInt, (a - a / b * b).toInt] []) (xc_K d xc_F).1.2.1 [.long b, .long (a - a / b * b)] := ⟨⟨b, rfl, rfl⟩, ⟨_, rfl, rfl⟩, trivial⟩
      have hSU : xk_SUH oq (xk_fr [] s.heap.size) s s.heap := xk_SUH_kept hZ va_S.rf (fun q hq => Or.inr (hq.resolve_left (fun z => by cases z)))
      have run := hRn p e s m args below meth c (xk_fr ad0 s.heap.size) [b.toInt, (a - a / b * b).toInt] [] oq s.heap [] 0 0 ls [.long b, .long (a - a / b * b)] [] F hl.1 hok hΦ2 hrr ⟨[], rfl, trivial, fun k q h => by simp at h, ⟨fun i j a b h => by simp at h, fun k q h => by simp at h⟩⟩ hSU (by decide) (Nat.le_refl _) (Nat.le_refl _)
      intro T hT X
      obtain ⟨v, st₀, t, T', L, e0, X', hL, e1, e2, ⟨⟨P, hPm, e2', a2', rv, er, okP, hres, wsP, b1, b2, hP1, hD1⟩, hz1, hk1⟩, hgo⟩ := run T hT X
      cases er
      rw [e0] at hz1 hk1
      have hSn : va_S (xk_fr ad0 s.heap.size) s.heap t.heap ([] ++ L) := ⟨hz1, fun q k1 k2 => hk1 q k1 (fun z => k2 (Or.inr (z.resolve_left (fun y => by cases y)))), fun q hq => Or.inr ((hL q (by simpa using hq)).resolve_left (fun y => by cases y))⟩
      obtain ⟨r, er2, hr0⟩ : ∃ r : Int64, v = some (.long r) ∧ ¬ r = 0 := by
        have h5 : P = xc_P1 xc_F ∨ P = xc_P2 xc_F := by
          rcases List.mem_cons.mp hPm with h | h
          · exact Or.inl h
          · exact Or.inr (List.mem_singleton.mp h)
        have h6 : P.2.1 = some (1, 2) := by rcases h5 with rfl | rfl <;> rfl
        unfold xk_res at hres
        rw [h6] at hres
        obtain ⟨w, ew, r, er, hr9⟩ := hres
        refine ⟨r, by rw [ew, er], fun z => ?_⟩
        rcases h5 with rfl | rfl
        · have h7 := okP.2.1 2 _ (1, 9223372036854775807) hr9 rfl
          rw [z] at h7
          exact absurd h7.1 (by decide)
        · have h7 := okP.2.1 2 _ ((-9223372036854775808), (-1)) hr9 rfl
          rw [z] at h7
          exact absurd h7.2 (by decide)
      subst er2
      have fin : W p l e (headSpec (Cond.code yX10_common cX10_common 4 (some .long) :: xk_tg) (xk_rm (xc_K (d + 1) I))).room s m args below meth c t.heap ([] ++ L) 0 0 (MQ below (xk_Qc D (xc_K (d + 1) I) env0 ad0 s.heap.size oq) args s (xc_K (d + 1) I).2.2.2.2.1 (xc_K (d + 1) I).2.2.2.2.2 (xk_fr ad0 s.heap.size)) (F0 m 17 ls [.long r]) := W.lret F.1 F.2.1 hret (fun t ht hW => xc_end h0 hl0 hr0 hSn ht) hSn.2.2 (by decide +kernel)
      obtain ⟨t2, k1, k2⟩ := fin T' e1 X'
      exact ⟨t2, hgo t2 k1, k2⟩
    · have hb0 : b = 0 := (lg_cmp_eq b 0).mp hz
      refine lv_lload_n F.1 F.2.1 (k := 0) (i := 0) (by decide +kernel) rfl l0 ?_
      refine lv_goto F.1 F.2.1 (off := 10) (tgt := 17) (by decide +kernel) rfl ?_
      exact W.lret F.1 F.2.1 hret (fun t ht hW => xc_end h0 hl0 (g2.resolve_right (fun z => z hb0)) va_S.rf ht) (fun _ h => by cases h) (by decide +kernel)
theorem xc_all (l : Launch) (D : va_G) {I : xk_I} (hI : 1 ≤ I.1 ∨ I.2 ≤ -1) : xk_KM l D yX10_common cX10_common 4 (some .long) (xc_K 128 I) := by
  intro env ad sz oq h0
  refine xc_met l D 128 I env ad sz oq h0 ?_
  intro a b h1 h2
  have h3 := h0.2.1 1 _ I h2 rfl
  have hb : ¬ b = 0 := by
    intro z
    rw [z] at h3
    have e : (0 : Int64).toInt = 0 := rfl
    omega
  refine ⟨xc_d_ok 64 _ _ ?_, Or.inr hb⟩
  have k1 := Int64.le_toInt b
  have k2 := Int64.toInt_lt b
  omega

/-- a run that asks at each place whether it may end there -/
abbrev xk_Hk : Type := Nat → xk_S → Option (List (Nat × xk_S))
/-- no step by hand -/
def xk_hk0 : xk_Hk := fun _ _ => none
def xk_exj (cc : ByteArray) (T : xk_T) (X : xk_X) (B : xk_B) (rt : Instr → xk_S → Bool) (hk : xk_Hk) (jp : Nat → xk_S → Option Bool) : Nat → Nat → xk_S → Bool
  | 0, _, _ => false
  | f + 1, pc, σ => match jp pc σ with
    | some r => r
    | none => match hk pc σ with
      | some l => l.all (fun q => xk_exj cc T X B rt hk jp f q.1 q.2)
      | none => match decode cc pc with
        | .ok (i, len) => (match xk_step T X B pc i len σ with
          | some l => l.all (fun q => xk_exj cc T X B rt hk jp f q.1 q.2)
          | none => Nat.beq len 1 && rt i σ)
        | .error _ => false
def xk_bod (cc : ByteArray) (T : xk_T) (X : xk_X) (B : xk_B) (rt : Instr → xk_S → Bool) (hk : xk_Hk) (jp : Nat → xk_S → Option Bool) (f pc : Nat) (σ : xk_S) : Bool := match hk pc σ with
  | some l => l.all (fun q => xk_exj cc T X B rt hk jp f q.1 q.2)
  | none => match decode cc pc with
    | .ok (i, len) => (match xk_step T X B pc i len σ with
      | some l => l.all (fun q => xk_exj cc T X B rt hk jp f q.1 q.2)
      | none => Nat.beq len 1 && rt i σ)
    | .error _ => false
section XL
variable {p : Program} {l : Launch} {e : Env} {R : Room} {s : State} {m : MethodId} {args : Array Value} {below : List Frame} {meth : Method} {c : Code} {Q : State → Prop} {b : xk_b} {D : va_G} {A : Nat → Prop} {own : String} {cc : ByteArray} {nL : Nat}
theorem xk_exj_ok {T : xk_T} {X : xk_X} {B : xk_B} {rt : Instr → xk_S → Bool} {hk : xk_Hk} {jp : Nat → xk_S → Option Bool} (F : xk_Fx p s m args c D A own cc nL) (TK : xk_TOK own T) (GK : xk_GOK) (hX : X.1 = nL) (hI : X.2.1 = true → meth.name = "<init>") (hRm : X.2.2.1 = (R.frames, R.cells, R.slots, R.locals)) (SC : ∀ L, X.2.2.2.1 = some L → ∃ xs : Nat → Int32, va_X (b.1 - 1) L xs s s.heap ∧ b.1 - 1 < s.heap.size ∧ ¬ A (b.1 - 1) ∧ b.2.1 = (List.range L).map (fun j => (xs j).toInt)) (SU : xk_SUH b.2.2.2 A s s.heap) (hB : ∀ q ∈ B, xk_Rn l D own cc nL R q.1 q.2.1) (RT : ∀ (pc : Nat) (i : Instr) (σ : xk_S), decode cc pc = .ok (i, 1) → rt i σ = true → xk_G p l e R s m args below meth c Q b nL D A pc σ) (HK : ∀ (pc : Nat) (σ : xk_S) (l2 : List (Nat × xk_S)), hk pc σ = some l2 → (∀ q ∈ l2, xk_G p l e R s m args below meth c Q b nL D A q.1 q.2) → xk_G p l e R s m args below meth c Q b nL D A pc σ) (JP : ∀ (pc : Nat) (σ : xk_S), jp pc σ = some true → xk_G p l e R s m args below meth c Q b nL D A pc σ) : ∀ (f pc : Nat) (σ : xk_S), xk_exj cc T X B rt hk jp f pc σ = true → xk_G p l e R s m args below meth c Q b nL D A pc σ
  | 0, _, _, h => by cases h
  | f + 1, pc, σ, h => by
    unfold xk_exj at h
    split at h
    · rename_i r hr
      subst h
      exact JP pc σ hr
    · split at h
      · rename_i l2 hl
        exact HK pc σ l2 hl (fun q hq => xk_exj_ok F TK GK hX hI hRm SC SU hB RT HK JP f q.1 q.2 (List.all_eq_true.mp h q hq))
      · split at h
        · rename_i i len hd
          split at h
          · rename_i l2 hl
            exact xk_step_ok F TK GK hX hI hRm SC SU hB hd hl (fun q hq => xk_exj_ok F TK GK hX hI hRm SC SU hB RT HK JP f q.1 q.2 (List.all_eq_true.mp h q hq))
          · rw [Bool.and_eq_true] at h
            have hl := Nat.eq_of_beq_eq_true h.1
            subst hl
            exact RT pc i σ hd h.2
        · cases h
theorem xk_bod_ok {T : xk_T} {X : xk_X} {B : xk_B} {rt : Instr → xk_S → Bool} {hk : xk_Hk} {jp : Nat → xk_S → Option Bool} (F : xk_Fx p s m args c D A own cc nL) (TK : xk_TOK own T) (GK : xk_GOK) (hX : X.1 = nL) (hI : X.2.1 = true → meth.name = "<init>") (hRm : X.2.2.1 = (R.frames, R.cells, R.slots, R.locals)) (SC : ∀ L, X.2.2.2.1 = some L → ∃ xs : Nat → Int32, va_X (b.1 - 1) L xs s s.heap ∧ b.1 - 1 < s.heap.size ∧ ¬ A (b.1 - 1) ∧ b.2.1 = (List.range L).map (fun j => (xs j).toInt)) (SU : xk_SUH b.2.2.2 A s s.heap) (hB : ∀ q ∈ B, xk_Rn l D own cc nL R q.1 q.2.1) (RT : ∀ (pc : Nat) (i : Instr) (σ : xk_S), decode cc pc = .ok (i, 1) → rt i σ = true → xk_G p l e R s m args below meth c Q b nL D A pc σ) (HK : ∀ (pc : Nat) (σ : xk_S) (l2 : List (Nat × xk_S)), hk pc σ = some l2 → (∀ q ∈ l2, xk_G p l e R s m args below meth c Q b nL D A q.1 q.2) → xk_G p l e R s m args below meth c Q b nL D A pc σ) (JP : ∀ (pc : Nat) (σ : xk_S), jp pc σ = some true → xk_G p l e R s m args below meth c Q b nL D A pc σ) {f pc : Nat} {σ : xk_S} (h : xk_bod cc T X B rt hk jp f pc σ = true) : xk_G p l e R s m args below meth c Q b nL D A pc σ := by
  unfold xk_bod at h
  split at h
  · rename_i l2 hl
    exact HK pc σ l2 hl (fun q hq => xk_exj_ok F TK GK hX hI hRm SC SU hB RT HK JP f q.1 q.2 (List.all_eq_true.mp h q hq))
  · split at h
    · rename_i i len hd
      split at h
      · rename_i l2 hl
        exact xk_step_ok F TK GK hX hI hRm SC SU hB hd hl (fun q hq => xk_exj_ok F TK GK hX hI hRm SC SU hB RT HK JP f q.1 q.2 (List.all_eq_true.mp h q hq))
      · rw [Bool.and_eq_true] at h
        have hl := Nat.eq_of_beq_eq_true h.1
        subst hl
        exact RT pc i σ hd h.2
    · cases h
end XL
/-- lists of numbers, the first first -/
def xk_lx : List Nat → List Nat → Prop
  | a :: as, b :: bs => a < b ∨ (a ≤ b ∧ xk_lx as bs)
  | _, _ => False
def xk_ll (a b : List Nat) : Prop := a.length = b.length ∧ xk_lx a b
theorem xk_ll_acc : ∀ (n : Nat) (l : List Nat), l.length = n → Acc xk_ll l
  | 0, l, h => by
    have e : l = [] := List.eq_nil_of_length_eq_zero h
    subst e
    refine Acc.intro _ (fun y hy => ?_)
    have h2 := hy.2
    cases y with
    | nil => exact h2.elim
    | cons a as => exact h2.elim
  | n + 1, l, h => by
    have key : ∀ (k : Nat) (bs : List Nat), bs.length = n → Acc xk_ll (k :: bs) := by
      intro k
      induction k using Nat.strongRecOn with
      | _ k ihk =>
        intro bs hb
        have hacc := xk_ll_acc n bs hb
        induction hacc with
        | intro bs _ ihb =>
          refine Acc.intro _ (fun y hy => ?_)
          cases y with
          | nil => exact hy.2.elim
          | cons a as =>
            have hl : as.length = bs.length := by
              have h3 := hy.1
              simpa using h3
            rcases hy.2 with h1 | ⟨h1, h2⟩
            · exact ihk a h1 as (hl.trans hb)
            · rcases Nat.lt_or_ge a k with h3 | h3
              · exact ihk a h3 as (hl.trans hb)
              · have e : a = k := Nat.le_antisymm h1 h3
                subst e
                exact ihb as ⟨hl, h2⟩ (hl.trans hb)
    cases l with
    | nil => cases h
    | cons k bs => exact key k bs (by simpa using h)
/-- what falls: 0 the constant c, 1 c and a number, 2 c less a number -/
abbrev xk_M : Type := Nat × Nat × Int
def xk_ms (k : Nat) (c x : Int) : Int := match k with
  | 0 => c
  | 1 => c + x
  | _ => c - x
def xk_mv (env : List Int) (m : xk_M) : Int := xk_ms m.1 m.2.2 (env.getD m.2.1 0)
def xk_mI (k : Nat) (c : Int) (I : xk_I) : xk_I := match k with
  | 0 => (c, c)
  | 1 => (c + I.1, c + I.2)
  | _ => (c - I.2, c - I.1)
theorem xk_mI_ok {c x : Int} {I : xk_I} (h1 : I.1 ≤ x) (h2 : x ≤ I.2) : ∀ (k : Nat), (xk_mI k c I).1 ≤ xk_ms k c x ∧ xk_ms k c x ≤ (xk_mI k c I).2
  | 0 => ⟨Int.le_refl _, Int.le_refl _⟩
  | 1 => by
    show c + I.1 ≤ c + x ∧ c + x ≤ c + I.2
    omega
  | k + 2 => by
    show c - I.2 ≤ c - x ∧ c - x ≤ c - I.1
    omega
/-- the new one, told in the numbers of now by mp, and d more, is at most the old one -/
def xk_mle (iv : xk_N) (mp : List xk_V) (m' m : xk_M) (d : Int) : Bool := match mp[m'.2.1]? with
  | none => false
  | some q => Nat.blt m.2.1 iv.1.length && (decide ((xk_mI m'.1 m'.2.2 (xk_iv iv q)).2 + d ≤ (xk_mI m.1 m.2.2 (xk_iv iv (0, (m.2.1 : Int)))).1) || ((Nat.beq m'.1 1 && (Nat.beq m.1 1 && xk_ent 4 iv q (0, (m.2.1 : Int)) (m.2.2 - m'.2.2 - d))) || (Nat.beq m'.1 2 && (Nat.beq m.1 2 && xk_ent 4 iv (0, (m.2.1 : Int)) q (m.2.2 - m'.2.2 - d)))))
theorem xk_mv_num {env : List Int} {mp : List xk_V} {m : xk_M} {q : xk_V} (h : mp[m.2.1]? = some q) : xk_mv (mp.map (xk_num env)) m = xk_ms m.1 m.2.2 (xk_num env q) := by
  have e : (mp.map (xk_num env)).getD m.2.1 0 = xk_num env q := by
    rw [List.getD_eq_getElem?_getD, List.getElem?_map, h]
    rfl
  unfold xk_mv
  rw [e]
theorem xk_mle_ok {env : List Int} {iv : xk_N} {mp : List xk_V} {m' m : xk_M} {d : Int} (h0 : xk_ok env iv) (hmp : ∀ q ∈ mp, q.1 = 5 ∨ q.1 = 0 ∧ q.2.toNat < env.length) (h : xk_mle iv mp m' m d = true) : xk_mv (mp.map (xk_num env)) m' + d ≤ xk_mv env m := by
  unfold xk_mle at h
  split at h
  · cases h
  · rename_i q hq
    rw [Bool.and_eq_true] at h
    obtain ⟨hl, h⟩ := h
    have hl : m.2.1 < env.length := by
      rw [h0.1]
      exact Nat.le_of_ble_eq_true hl
    have hn' := xk_n_num (hmp q (List.mem_of_getElem? hq))
    have hn : xk_n env (0, (m.2.1 : Int)) (env.getD m.2.1 0) := by
      show env[((m.2.1 : Nat) : Int).toNat]? = some (env.getD m.2.1 0)
      rw [Int.toNat_natCast, List.getD_eq_getElem?_getD, List.getElem?_eq_getElem hl]
      rfl
    have b' := xk_iv_ok h0 hn'
    have b1 := xk_iv_ok h0 hn
    have c' := xk_mI_ok (c := m'.2.2) b'.1 b'.2 m'.1
    have c1 := xk_mI_ok (c := m.2.2) b1.1 b1.2 m.1
    rw [xk_mv_num hq]
    show xk_ms m'.1 m'.2.2 (xk_num env q) + d ≤ xk_ms m.1 m.2.2 (env.getD m.2.1 0)
    simp only [Bool.or_eq_true, Bool.and_eq_true, decide_eq_true_eq] at h
    rcases h with h | ⟨e1, e2, h⟩ | ⟨e1, e2, h⟩
    · omega
    · have h3 := xk_ent_ok h0 4 hn' hn h
      rw [Nat.eq_of_beq_eq_true e1, Nat.eq_of_beq_eq_true e2]
      show m'.2.2 + xk_num env q + d ≤ m.2.2 + env.getD m.2.1 0
      omega
    · have h3 := xk_ent_ok h0 4 hn hn' h
      rw [Nat.eq_of_beq_eq_true e1, Nat.eq_of_beq_eq_true e2]
      show m'.2.2 - xk_num env q + d ≤ m.2.2 - env.getD m.2.1 0
      omega
def xk_fall (iv : xk_N) (mp : List xk_V) : List xk_M → List xk_M → Bool
  | m' :: ms', m :: ms => (xk_mle iv mp m' m 1 && (match mp[m'.2.1]? with
    | none => false
    | some q => decide (0 ≤ (xk_mI m'.1 m'.2.2 (xk_iv iv q)).1))) || (xk_mle iv mp m' m 0 && xk_fall iv mp ms' ms)
  | _, _ => false
theorem xk_fall_ok {env : List Int} {iv : xk_N} {mp : List xk_V} (h0 : xk_ok env iv) (hmp : ∀ q ∈ mp, q.1 = 5 ∨ q.1 = 0 ∧ q.2.toNat < env.length) : ∀ {ms' ms : List xk_M}, xk_fall iv mp ms' ms = true → xk_lx (ms'.map (fun m => (xk_mv (mp.map (xk_num env)) m).toNat)) (ms.map (fun m => (xk_mv env m).toNat))
  | [], _, h => by unfold xk_fall at h; cases h
  | _ :: _, [], h => by unfold xk_fall at h; cases h
  | m' :: ms', m :: ms, h => by
    unfold xk_fall at h
    rw [Bool.or_eq_true, Bool.and_eq_true, Bool.and_eq_true] at h
    rw [List.map_cons, List.map_cons]
    rcases h with ⟨h1, h2⟩ | ⟨h1, h2⟩
    · have h3 := xk_mle_ok h0 hmp h1
      split at h2
      · cases h2
      · rename_i q hq
        rw [decide_eq_true_eq] at h2
        have hb := xk_iv_ok h0 (xk_n_num (hmp q (List.mem_of_getElem? hq)))
        have h4 : 0 ≤ xk_mv (mp.map (xk_num env)) m' := by
          rw [xk_mv_num hq]
          have h5 := xk_mI_ok (c := m'.2.2) hb.1 hb.2 m'.1
          omega
        exact Or.inl (by omega)
    · have h3 := xk_mle_ok h0 hmp h1
      exact Or.inr ⟨by omega, xk_fall_ok h0 hmp h2⟩

/-! THE CLAIM OUT OF ONE WALK OF THE LAW'S BODY. Your part is whole_start (and what it stands on); all else here is the same for every law, but numbers. -/
def R_law : String := "LieKitchenLaw"
def lw_P (b : Addr) (xs : List Int32) (args : Array Value) (s : State) : Prop := args = #[.ref b] ∧ s.IntsAt b xs ∧ xs.length ≤ 6 ∧ (Jvm.Cond.and given_1 narrow_1).before args s = true
def lw_Q (_ : Array Value) (s : State) (o : Outcome) (t : State) : Prop := o = .returned (some (.int 1)) ∧ Framed s o t [] 600000 7302250
def lw_Z (below : List Frame) (a : Array Value) (s : State) : State → Prop := fun t => ∃ o, t.status = .running ∧ Ended t below o ∧ lw_Q a s o t
/-- the law's own end, with 1 on the stack, nothing written that was there before, its room as the claim has it -/
theorem lw_ret {p : Program} {l : Launch} {e : Env} {s : State} {m : MethodId} {below : List Frame} {meth : Method} {c : Code} {b : Nat} (hx : p.tables.exec = Jvm.exec) (hb : c.code = code) (hr : meth.sig.returnType = ret) (hlocks : meth.locks = false) {pc : Nat} {H : Heap} {ls : Array Slot} (hdg : decode code pc = .ok (.ireturn, 1)) : W p l e room_1 s m #[Value.ref b] below meth c H [] 600000 7302250 (lw_Z below #[Value.ref b] s) (F0 m pc ls [.int 1]) := by
  intro T hT X
  obtain ⟨fs, hret, hrun, hended, hW, hframe⟩ := X.leave (v := some (.int 1)) (hlocks := hlocks) (fun h => by rw [hr] at h; cases h)
  have hmeth' : T.vm.method? m = some meth := X.method'
  refine ⟨T.setFrames fs, ?_, .returned (some (.int 1)), hrun, hended, rfl, ⟨_, rfl⟩, hW, hframe⟩
  jvm_step X.here [X.here.top, hx, hb, hdg, hmeth', hr, ret, narrow_b1]
  (try refine ⟨rfl, ?_⟩); (try refine ⟨rfl, ?_⟩)
  first | (intro acts; rw [hret _ acts rfl rfl rfl]) | rw [hret _ _ rfl rfl rfl]
  exact Steps.refl _
/-- what holds at the law's entry: the machine, the code, the tables' words (any of lw_tbl by 'hts w (by decide +kernel)'), the script of L ints xs at the cell b, what the Statement gives of the start (any of its parts by flat_of_before) -/
def lw_At (p : Program) (s : State) (m : MethodId) (meth : Method) (c : Code) (b L : Nat) (xs : Nat → Int32) : Prop :=
  p.tables.exec = Jvm.exec ∧ c.code = code ∧ meth.sig.returnType = ret ∧ c.maxLocals = 4 ∧ s.vm.findClass R_law = some m.cls ∧ (∀ w ∈ lw_tbl, w.before #[Value.ref b] s = true) ∧ va_X b L xs s s.heap ∧ b < s.heap.size ∧ meth.locks = false ∧ (Jvm.Cond.and given_1 narrow_1).before #[Value.ref b] s = true
def xl_ok (p : Program) (s : State) (m : MethodId) (meth : Method) (c : Code) (D : va_G) (b L : Nat) (xs : Nat → Int32) : Prop := xk_Fx p s m #[Value.ref b] c D (fun q => s.heap.size ≤ q) RL code 4 ∧ va_X b L xs s s.heap ∧ b < s.heap.size ∧ meth.sig.returnType = ret ∧ meth.locks = false
def xl_rt (i : Instr) (σ : xk_S) : Bool := match i, σ.2.2.1 with
  | .ireturn, [(5, 1)] => Nat.ble σ.2.2.2.2.1 600000 && Nat.ble σ.2.2.2.2.2 7302250
  | _, _ => false
theorem xl_rt_ok {p : Program} {l : Launch} {e : Env} {s : State} {m : MethodId} {below : List Frame} {meth : Method} {c : Code} {D : va_G} {b L : Nat} {xs : Nat → Int32} (C : xl_ok p s m meth c D b L xs) (pc : Nat) (i : Instr) (σ : xk_S) (hd : decode code pc = .ok (i, 1)) (h : xl_rt i σ = true) : xk_G p l e room_1 s m #[Value.ref b] below meth c (lw_Z below #[Value.ref b] s) (b + 1, (List.range L).map (fun j => (xs j).toInt), []) 4 D (fun q => s.heap.size ≤ q) pc σ := by
  obtain ⟨F, hX, hbl, hr, hlocks⟩ := C
  obtain ⟨hx, hb, hml, hown, hts, hK, hA⟩ := F
  unfold xl_rt at h
  split at h
  · rename_i hst0
    rw [Bool.and_eq_true] at h
    intro env ad H locs ls sv hI
    obtain ⟨iv, lo, st, hp, kc, ks⟩ := σ
    dsimp only at hst0 h
    subst hst0
    obtain ⟨-, -, hst, ws, -, -, -, -, hS, -⟩ := hI
    obtain ⟨v, r, rfl, ⟨x, rfl, hx1⟩, hr2⟩ := xk_r2_cons hst
    have e := xk_r2_nil hr2
    subst e
    have hx2 : x = 1 := Int32.toInt_inj.mp hx1
    subst hx2
    refine va_forget (fun q hq => hS.2.2 q hq) ?_
    refine W.widen (k := 600000) (n := 7302250) (Nat.le_of_ble_eq_true h.1) (Nat.le_of_ble_eq_true h.2) ?_
    exact lw_ret hx hb hr hlocks hd
  · cases h
/-- a run that may end at states that are told elsewhere -/
def xk_exc (cc : ByteArray) (T : xk_T) (X : xk_X) (B : xk_B) (rt : Instr → xk_S → Bool) (ct : List (Nat × xk_S)) : Nat → Nat → xk_S → Bool
  | 0, _, _ => false
  | f + 1, pc, σ => ct.any (fun q => Nat.beq q.1 pc && xk_bS q.2 σ) || (match decode cc pc with
    | .ok (i, len) => (match xk_step T X B pc i len σ with
      | some l => l.all (fun q => xk_exc cc T X B rt ct f q.1 q.2)
      | none => Nat.beq len 1 && rt i σ)
    | .error _ => false)
theorem xl_run {p : Program} {l : Launch} {e : Env} {s : State} {m : MethodId} {below : List Frame} {meth : Method} {c : Code} {D : va_G} {b L : Nat} {xs : Nat → Int32} (C : xl_ok p s m meth c D b L xs) {B : xk_B} (hB : ∀ q ∈ B, xk_Rn l D RL code 4 room_1 q.1 q.2.1) {ct : List (Nat × xk_S)} (hct : ∀ q ∈ ct, xk_G p l e room_1 s m #[Value.ref b] below meth c (lw_Z below #[Value.ref b] s) (b + 1, (List.range L).map (fun j => (xs j).toInt), []) 4 D (fun q => s.heap.size ≤ q) q.1 q.2) : ∀ (f pc : Nat) (σ : xk_S), xk_exc code xt_L (4, false, (2048, 600000, 7302250, 84000), some L, []) B xl_rt ct f pc σ = true → xk_G p l e room_1 s m #[Value.ref b] below meth c (lw_Z below #[Value.ref b] s) (b + 1, (List.range L).map (fun j => (xs j).toInt), []) 4 D (fun q => s.heap.size ≤ q) pc σ
  | 0, _, _, h => by cases h
  | f + 1, pc, σ, h => by
    unfold xk_exc at h
    rw [Bool.or_eq_true] at h
    rcases h with h | h
    · obtain ⟨q, hq, h1⟩ := List.any_eq_true.mp h
      rw [Bool.and_eq_true] at h1
      have e1 := Nat.eq_of_beq_eq_true h1.1
      have e2 := xk_bS_eq h1.2
      have h2 := hct q hq
      rw [e1, e2] at h2
      exact h2
    · split at h
      · rename_i i len hd
        split at h
        · rename_i l2 hl
          exact xk_step_ok (X := (4, false, (2048, 600000, 7302250, 84000), some L, [])) C.1 xtok_L xgok rfl (fun z => by cases z) rfl (fun L' hL' => ⟨xs, by cases hL'; exact C.2.1, C.2.2.1, Nat.not_le.mpr C.2.2.1, by cases hL'; rfl⟩) hB hd hl (fun q hq => xl_run C hB hct f q.1 q.2 (List.all_eq_true.mp h q hq))
        · rw [Bool.and_eq_true] at h
          have hl := Nat.eq_of_beq_eq_true h.1
          subst hl
          exact xl_rt_ok C pc i σ hd h.2
      · cases h

abbrev xk_B : Type := List (Nat × xk_K × List xk_V × List Nat)
def xk_call1 (X : xk_X) (pc : Nat) (K : xk_K) (mp : List xk_V) (pm : List Nat) (iv : List xk_I) (lo : List (Nat × xk_V)) (st : List xk_V) (hp : List xk_C) (kc ks : Nat) : Option (List (Nat × xk_S)) :=
  if xk_fitK K mp pm iv (st.take K.1.2.1.length).reverse hp = true ∧ ((st.drop K.1.2.1.length).map xk_cat).sum ≤ 8 ∧ kc + K.2.2.2.2.1 ≤ X.2.2.1.2.1 ∧ ks + K.2.2.2.2.2 ≤ X.2.2.1.2.2.1 then some (K.2.1.flatMap (fun P => xk_opt (fun iv1 => (pc + 3, xk_aft K mp pm iv lo (st.drop K.1.2.1.length) hp kc ks P iv1)) (xk_refs iv mp P.1))) else none
def xk_call (X : xk_X) (pc : Nat) (iv : List xk_I) (lo : List (Nat × xk_V)) (st : List xk_V) (hp : List xk_C) (kc ks : Nat) : xk_B → Option (List (Nat × xk_S))
  | [] => none
  | q :: r => if Nat.beq q.1 pc = true then (match xk_call1 X pc q.2.1 q.2.2.1 q.2.2.2 iv lo st hp kc ks with
    | some l => some l
    | none => xk_call X pc iv lo st hp kc ks r) else xk_call X pc iv lo st hp kc ks r
section XI
variable {p : Program} {l : Launch} {e : Env} {R : Room} {s : State} {m : MethodId} {args : Array Value} {below : List Frame} {meth : Method} {c : Code} {Q : State → Prop} {b : Nat × List Int × List Nat} {D : va_G} {A : Nat → Prop} {own : String} {cc : ByteArray} {nL : Nat}
theorem xk_t_call1 {X : xk_X} {pc : Nat} {K : xk_K} {mp : List xk_V} {pm : List Nat} {iv : List xk_I} {lo : List (Nat × xk_V)} {st : List xk_V} {hp : List xk_C} {kc ks : Nat} {succs : List (Nat × xk_S)} (F : xk_Fx p s m args c D A own cc nL) (hRm : X.2.2.1 = (R.frames, R.cells, R.slots, R.locals)) (hK : xk_Rn l D own cc nL R pc K) (h : xk_call1 X pc K mp pm iv lo st hp kc ks = some succs) (kk : ∀ q ∈ succs, xk_G p l e R s m args below meth c Q b nL D A q.1 q.2) : xk_G p l e R s m args below meth c Q b nL D A pc (iv, lo, st, hp, kc, ks) := by
  unfold xk_call1 at h
  split at h
  · rename_i hc
    obtain ⟨h1, h2, h3, h4⟩ := hc
    cases h
    rw [hRm] at h3 h4
    have hs := xk_s_call (lo := lo) (Q := Q) (As := (st.take K.1.2.1.length).reverse) (rest := st.drop K.1.2.1.length) F hK h1 h2 h3 h4 (fun P hP iv1 e => kk _ (List.mem_flatMap.mpr ⟨P, hP, xk_opt_mem e⟩))
    rw [List.reverse_reverse, List.take_append_drop] at hs
    exact hs
  · cases h
theorem xk_t_call {X : xk_X} {pc : Nat} {iv : List xk_I} {lo : List (Nat × xk_V)} {st : List xk_V} {hp : List xk_C} {kc ks : Nat} {succs : List (Nat × xk_S)} (F : xk_Fx p s m args c D A own cc nL) (hRm : X.2.2.1 = (R.frames, R.cells, R.slots, R.locals)) : ∀ (B : xk_B), (∀ q ∈ B, xk_Rn l D own cc nL R q.1 q.2.1) → xk_call X pc iv lo st hp kc ks B = some succs → (∀ q ∈ succs, xk_G p l e R s m args below meth c Q b nL D A q.1 q.2) → xk_G p l e R s m args below meth c Q b nL D A pc (iv, lo, st, hp, kc, ks)
  | [], _, h, _ => by cases h
  | q :: r, hB, h, kk => by
    unfold xk_call at h
    split at h
    · rename_i hq
      split at h
      · rename_i l2 hl
        cases h
        have hq2 := Nat.eq_of_beq_eq_true hq
        have hR := hB q List.mem_cons_self
        rw [hq2] at hR
        exact xk_t_call1 F hRm hR hl kk
      · exact xk_t_call F hRm r (fun z hz => hB z (List.mem_cons_of_mem _ hz)) h kk
    · exact xk_t_call F hRm r (fun z hz => hB z (List.mem_cons_of_mem _ hz)) h kk
end XI
def xk_or (a b : Option (List (Nat × xk_S))) : Option (List (Nat × xk_S)) := match a with
  | some l => some l
  | none => b
def xk_step (T : xk_T) (X : xk_X) (B : xk_B) (pc : Nat) (i : Instr) (len : Nat) (σ : xk_S) : Option (List (Nat × xk_S)) := match i with
  | .iconst n => xk_i_iconst T X pc len n σ.1 σ.2.1 σ.2.2.1 σ.2.2.2.1 σ.2.2.2.2.1 σ.2.2.2.2.2
  | .bipush n => xk_i_bipush T X pc len n σ.1 σ.2.1 σ.2.2.1 σ.2.2.2.1 σ.2.2.2.2.1 σ.2.2.2.2.2
  | .sipush n => xk_i_sipush T X pc len n σ.1 σ.2.1 σ.2.2.1 σ.2.2.2.1 σ.2.2.2.2.1 σ.2.2.2.2.2
  | .lconst n => xk_i_lconst T X pc len n σ.1 σ.2.1 σ.2.2.1 σ.2.2.2.1 σ.2.2.2.2.1 σ.2.2.2.2.2
  | .ldc ix => xk_i_ldc T X pc len ix σ.1 σ.2.1 σ.2.2.1 σ.2.2.2.1 σ.2.2.2.2.1 σ.2.2.2.2.2
  | .ldc_w ix => xk_i_ldc_w T X pc len ix σ.1 σ.2.1 σ.2.2.1 σ.2.2.2.1 σ.2.2.2.2.1 σ.2.2.2.2.2
  | .ldc2_w ix => xk_i_ldc2_w T X pc len ix σ.1 σ.2.1 σ.2.2.1 σ.2.2.2.1 σ.2.2.2.2.1 σ.2.2.2.2.2
  | .iload_n n => xk_i_iload_n T X pc len n σ.1 σ.2.1 σ.2.2.1 σ.2.2.2.1 σ.2.2.2.2.1 σ.2.2.2.2.2
  | .iload n => xk_i_iload T X pc len n σ.1 σ.2.1 σ.2.2.1 σ.2.2.2.1 σ.2.2.2.2.1 σ.2.2.2.2.2
  | .lload_n n => xk_i_lload_n T X pc len n σ.1 σ.2.1 σ.2.2.1 σ.2.2.2.1 σ.2.2.2.2.1 σ.2.2.2.2.2
  | .lload n => xk_i_lload T X pc len n σ.1 σ.2.1 σ.2.2.1 σ.2.2.2.1 σ.2.2.2.2.1 σ.2.2.2.2.2
  | .aload_n n => xk_i_aload_n T X pc len n σ.1 σ.2.1 σ.2.2.1 σ.2.2.2.1 σ.2.2.2.2.1 σ.2.2.2.2.2
  | .aload n => xk_i_aload T X pc len n σ.1 σ.2.1 σ.2.2.1 σ.2.2.2.1 σ.2.2.2.2.1 σ.2.2.2.2.2
  | .istore_n n => xk_i_istore_n T X pc len n σ.1 σ.2.1 σ.2.2.1 σ.2.2.2.1 σ.2.2.2.2.1 σ.2.2.2.2.2
  | .istore n => xk_i_istore T X pc len n σ.1 σ.2.1 σ.2.2.1 σ.2.2.2.1 σ.2.2.2.2.1 σ.2.2.2.2.2
  | .lstore_n n => xk_i_lstore_n T X pc len n σ.1 σ.2.1 σ.2.2.1 σ.2.2.2.1 σ.2.2.2.2.1 σ.2.2.2.2.2
  | .lstore n => xk_i_lstore T X pc len n σ.1 σ.2.1 σ.2.2.1 σ.2.2.2.1 σ.2.2.2.2.1 σ.2.2.2.2.2
  | .astore_n n => xk_i_astore_n T X pc len n σ.1 σ.2.1 σ.2.2.1 σ.2.2.2.1 σ.2.2.2.2.1 σ.2.2.2.2.2
  | .astore n => xk_i_astore T X pc len n σ.1 σ.2.1 σ.2.2.1 σ.2.2.2.1 σ.2.2.2.2.1 σ.2.2.2.2.2
  | .iinc n c0 => xk_i_iinc T X pc len n c0 σ.1 σ.2.1 σ.2.2.1 σ.2.2.2.1 σ.2.2.2.2.1 σ.2.2.2.2.2
  | .iadd => xk_i_iadd T X pc len  σ.1 σ.2.1 σ.2.2.1 σ.2.2.2.1 σ.2.2.2.2.1 σ.2.2.2.2.2
  | .isub => xk_i_isub T X pc len  σ.1 σ.2.1 σ.2.2.1 σ.2.2.2.1 σ.2.2.2.2.1 σ.2.2.2.2.2
  | .imul => xk_i_imul T X pc len  σ.1 σ.2.1 σ.2.2.1 σ.2.2.2.1 σ.2.2.2.2.1 σ.2.2.2.2.2
  | .iand => xk_i_iand T X pc len  σ.1 σ.2.1 σ.2.2.1 σ.2.2.2.1 σ.2.2.2.2.1 σ.2.2.2.2.2
  | .ior => xk_i_ior T X pc len  σ.1 σ.2.1 σ.2.2.1 σ.2.2.2.1 σ.2.2.2.2.1 σ.2.2.2.2.2
  | .ixor => xk_i_ixor T X pc len  σ.1 σ.2.1 σ.2.2.1 σ.2.2.2.1 σ.2.2.2.2.1 σ.2.2.2.2.2
  | .ishl => xk_i_ishl T X pc len  σ.1 σ.2.1 σ.2.2.1 σ.2.2.2.1 σ.2.2.2.2.1 σ.2.2.2.2.2
  | .ishr => xk_i_ishr T X pc len  σ.1 σ.2.1 σ.2.2.1 σ.2.2.2.1 σ.2.2.2.2.1 σ.2.2.2.2.2
  | .iushr => xk_i_iushr T X pc len  σ.1 σ.2.1 σ.2.2.1 σ.2.2.2.1 σ.2.2.2.2.1 σ.2.2.2.2.2
  | .idiv => xk_i_idiv T X pc len  σ.1 σ.2.1 σ.2.2.1 σ.2.2.2.1 σ.2.2.2.2.1 σ.2.2.2.2.2
  | .irem => xk_i_irem T X pc len  σ.1 σ.2.1 σ.2.2.1 σ.2.2.2.1 σ.2.2.2.2.1 σ.2.2.2.2.2
  | .ladd => xk_i_ladd T X pc len  σ.1 σ.2.1 σ.2.2.1 σ.2.2.2.1 σ.2.2.2.2.1 σ.2.2.2.2.2
  | .lsub => xk_i_lsub T X pc len  σ.1 σ.2.1 σ.2.2.1 σ.2.2.2.1 σ.2.2.2.2.1 σ.2.2.2.2.2
  | .lmul => xk_i_lmul T X pc len  σ.1 σ.2.1 σ.2.2.1 σ.2.2.2.1 σ.2.2.2.2.1 σ.2.2.2.2.2
  | .land => xk_i_land T X pc len  σ.1 σ.2.1 σ.2.2.1 σ.2.2.2.1 σ.2.2.2.2.1 σ.2.2.2.2.2
  | .lor => xk_i_lor T X pc len  σ.1 σ.2.1 σ.2.2.1 σ.2.2.2.1 σ.2.2.2.2.1 σ.2.2.2.2.2
  | .ldiv => xk_i_ldiv T X pc len  σ.1 σ.2.1 σ.2.2.1 σ.2.2.2.1 σ.2.2.2.2.1 σ.2.2.2.2.2
  | .lrem => xk_i_lrem T X pc len  σ.1 σ.2.1 σ.2.2.1 σ.2.2.2.1 σ.2.2.2.2.1 σ.2.2.2.2.2
  | .lshl => xk_i_lshl T X pc len  σ.1 σ.2.1 σ.2.2.1 σ.2.2.2.1 σ.2.2.2.2.1 σ.2.2.2.2.2
  | .lushr => xk_i_lushr T X pc len  σ.1 σ.2.1 σ.2.2.1 σ.2.2.2.1 σ.2.2.2.2.1 σ.2.2.2.2.2
  | .i2b => xk_i_i2b T X pc len  σ.1 σ.2.1 σ.2.2.1 σ.2.2.2.1 σ.2.2.2.2.1 σ.2.2.2.2.2
  | .i2s => xk_i_i2s T X pc len  σ.1 σ.2.1 σ.2.2.1 σ.2.2.2.1 σ.2.2.2.2.1 σ.2.2.2.2.2
  | .i2l => xk_i_i2l T X pc len  σ.1 σ.2.1 σ.2.2.1 σ.2.2.2.1 σ.2.2.2.2.1 σ.2.2.2.2.2
  | .l2i => xk_i_l2i T X pc len  σ.1 σ.2.1 σ.2.2.1 σ.2.2.2.1 σ.2.2.2.2.1 σ.2.2.2.2.2
  | .lcmp => xk_i_lcmp T X pc len  σ.1 σ.2.1 σ.2.2.1 σ.2.2.2.1 σ.2.2.2.2.1 σ.2.2.2.2.2
  | .dup => xk_i_dup T X pc len  σ.1 σ.2.1 σ.2.2.1 σ.2.2.2.1 σ.2.2.2.2.1 σ.2.2.2.2.2
  | .pop => xk_i_pop T X pc len  σ.1 σ.2.1 σ.2.2.1 σ.2.2.2.1 σ.2.2.2.2.1 σ.2.2.2.2.2
  | .dup2 => xk_i_dup2 T X pc len  σ.1 σ.2.1 σ.2.2.1 σ.2.2.2.1 σ.2.2.2.2.1 σ.2.2.2.2.2
  | .goto off => xk_i_goto T X pc len off σ.1 σ.2.1 σ.2.2.1 σ.2.2.2.1 σ.2.2.2.2.1 σ.2.2.2.2.2
  | .if_icmp .lt off => xk_i_icmp_lt T X pc len off σ.1 σ.2.1 σ.2.2.1 σ.2.2.2.1 σ.2.2.2.2.1 σ.2.2.2.2.2
  | .ifCond .lt off => xk_i_if_lt T X pc len off σ.1 σ.2.1 σ.2.2.1 σ.2.2.2.1 σ.2.2.2.2.1 σ.2.2.2.2.2
  | .if_icmp .ge off => xk_i_icmp_ge T X pc len off σ.1 σ.2.1 σ.2.2.1 σ.2.2.2.1 σ.2.2.2.2.1 σ.2.2.2.2.2
  | .ifCond .ge off => xk_i_if_ge T X pc len off σ.1 σ.2.1 σ.2.2.1 σ.2.2.2.1 σ.2.2.2.2.1 σ.2.2.2.2.2
  | .if_icmp .gt off => xk_i_icmp_gt T X pc len off σ.1 σ.2.1 σ.2.2.1 σ.2.2.2.1 σ.2.2.2.2.1 σ.2.2.2.2.2
  | .ifCond .gt off => xk_i_if_gt T X pc len off σ.1 σ.2.1 σ.2.2.1 σ.2.2.2.1 σ.2.2.2.2.1 σ.2.2.2.2.2
  | .if_icmp .le off => xk_i_icmp_le T X pc len off σ.1 σ.2.1 σ.2.2.1 σ.2.2.2.1 σ.2.2.2.2.1 σ.2.2.2.2.2
  | .ifCond .le off => xk_i_if_le T X pc len off σ.1 σ.2.1 σ.2.2.1 σ.2.2.2.1 σ.2.2.2.2.1 σ.2.2.2.2.2
  | .if_icmp .eq off => xk_i_icmp_eq T X pc len off σ.1 σ.2.1 σ.2.2.1 σ.2.2.2.1 σ.2.2.2.2.1 σ.2.2.2.2.2
  | .ifCond .eq off => xk_i_if_eq T X pc len off σ.1 σ.2.1 σ.2.2.1 σ.2.2.2.1 σ.2.2.2.2.1 σ.2.2.2.2.2
  | .if_icmp .ne off => xk_i_icmp_ne T X pc len off σ.1 σ.2.1 σ.2.2.1 σ.2.2.2.1 σ.2.2.2.2.1 σ.2.2.2.2.2
  | .ifCond .ne off => xk_i_if_ne T X pc len off σ.1 σ.2.1 σ.2.2.1 σ.2.2.2.1 σ.2.2.2.2.1 σ.2.2.2.2.2
  | .tableswitch dflt tlo thi offs => xk_i_tableswitch T X pc len dflt tlo thi offs σ.1 σ.2.1 σ.2.2.1 σ.2.2.2.1 σ.2.2.2.2.1 σ.2.2.2.2.2
  | .ifnull off => xk_i_ifnull T X pc len off σ.1 σ.2.1 σ.2.2.1 σ.2.2.2.1 σ.2.2.2.2.1 σ.2.2.2.2.2
  | .ifnonnull off => xk_i_ifnonnull T X pc len off σ.1 σ.2.1 σ.2.2.1 σ.2.2.2.1 σ.2.2.2.2.1 σ.2.2.2.2.2
  | .getfield ix => xk_i_getfield T X pc len ix σ.1 σ.2.1 σ.2.2.1 σ.2.2.2.1 σ.2.2.2.2.1 σ.2.2.2.2.2
  | .putfield ix => xk_i_putfield T X pc len ix σ.1 σ.2.1 σ.2.2.1 σ.2.2.2.1 σ.2.2.2.2.1 σ.2.2.2.2.2
  | .iaload => xk_i_iaload T X pc len  σ.1 σ.2.1 σ.2.2.1 σ.2.2.2.1 σ.2.2.2.2.1 σ.2.2.2.2.2
  | .baload => xk_i_baload T X pc len  σ.1 σ.2.1 σ.2.2.1 σ.2.2.2.1 σ.2.2.2.2.1 σ.2.2.2.2.2
  | .laload => xk_i_laload T X pc len  σ.1 σ.2.1 σ.2.2.1 σ.2.2.2.1 σ.2.2.2.2.1 σ.2.2.2.2.2
  | .aaload => xk_i_aaload T X pc len  σ.1 σ.2.1 σ.2.2.1 σ.2.2.2.1 σ.2.2.2.2.1 σ.2.2.2.2.2
  | .arraylength => xk_i_arraylength T X pc len  σ.1 σ.2.1 σ.2.2.1 σ.2.2.2.1 σ.2.2.2.2.1 σ.2.2.2.2.2
  | .iastore => xk_i_iastore T X pc len  σ.1 σ.2.1 σ.2.2.1 σ.2.2.2.1 σ.2.2.2.2.1 σ.2.2.2.2.2
  | .bastore => xk_i_bastore T X pc len  σ.1 σ.2.1 σ.2.2.1 σ.2.2.2.1 σ.2.2.2.2.1 σ.2.2.2.2.2
  | .lastore => xk_i_lastore T X pc len  σ.1 σ.2.1 σ.2.2.1 σ.2.2.2.1 σ.2.2.2.2.1 σ.2.2.2.2.2
  | .aastore => xk_i_aastore T X pc len  σ.1 σ.2.1 σ.2.2.1 σ.2.2.2.1 σ.2.2.2.2.1 σ.2.2.2.2.2
  | .new ix => xk_i_new T X pc len ix σ.1 σ.2.1 σ.2.2.1 σ.2.2.2.1 σ.2.2.2.2.1 σ.2.2.2.2.2
  | .newarray aty => xk_i_newarray T X pc len aty σ.1 σ.2.1 σ.2.2.1 σ.2.2.2.1 σ.2.2.2.2.1 σ.2.2.2.2.2
  | .anewarray ix => xk_i_anewarray T X pc len ix σ.1 σ.2.1 σ.2.2.1 σ.2.2.2.1 σ.2.2.2.2.1 σ.2.2.2.2.2
  | .invokespecial ix => xk_or (xk_i_obj T X pc len ix σ.1 σ.2.1 σ.2.2.1 σ.2.2.2.1 σ.2.2.2.2.1 σ.2.2.2.2.2) (xk_call X pc σ.1 σ.2.1 σ.2.2.1 σ.2.2.2.1 σ.2.2.2.2.1 σ.2.2.2.2.2 B)
  | .invokestatic ix => xk_or (xk_i_acopy T X pc len ix σ.1 σ.2.1 σ.2.2.1 σ.2.2.2.1 σ.2.2.2.2.1 σ.2.2.2.2.2) (xk_call X pc σ.1 σ.2.1 σ.2.2.1 σ.2.2.2.1 σ.2.2.2.2.1 σ.2.2.2.2.2 B)
  | .invokevirtual _ => xk_call X pc σ.1 σ.2.1 σ.2.2.1 σ.2.2.2.1 σ.2.2.2.2.1 σ.2.2.2.2.2 B
  | _ => none
section XJ
variable {p : Program} {l : Launch} {e : Env} {R : Room} {s : State} {m : MethodId} {args : Array Value} {below : List Frame} {meth : Method} {c : Code} {Q : State → Prop} {b : Nat × List Int × List Nat} {D : va_G} {A : Nat → Prop} {own : String} {cc : ByteArray} {nL : Nat}
set_option maxHeartbeats 4000000 in
theorem xk_step_ok {T : xk_T} {X : xk_X} {B : xk_B} {pc len : Nat} {σ : xk_S} {i : Instr} {succs : List (Nat × xk_S)} (F : xk_Fx p s m args c D A own cc nL) (TK : xk_TOK own T) (GK : xk_GOK) (hX : X.1 = nL) (hI : X.2.1 = true → meth.name = "<init>") (hRm : X.2.2.1 = (R.frames, R.cells, R.slots, R.locals)) (SC : ∀ L, X.2.2.2.1 = some L → ∃ xs : Nat → Int32, va_X (b.1 - 1) L xs s s.heap ∧ b.1 - 1 < s.heap.size ∧ ¬ A (b.1 - 1) ∧ b.2.1 = (List.range L).map (fun j => (xs j).toInt)) (hB : ∀ q ∈ B, xk_Rn l D own cc nL R q.1 q.2.1) (hd : decode cc pc = .ok (i, len)) (h : xk_step T X B pc i len σ = some succs) (kk : ∀ q ∈ succs, xk_G p l e R s m args below meth c Q b nL D A q.1 q.2) : xk_G p l e R s m args below meth c Q b nL D A pc σ := by
  obtain ⟨iv, lo, st, hp, kc, ks⟩ := σ
  cases i with
  | iconst n => exact xk_t_iconst F TK GK hX hI hRm hd h kk
  | bipush n => exact xk_t_bipush F TK GK hX hI hRm hd h kk
  | sipush n => exact xk_t_sipush F TK GK hX hI hRm hd h kk
  | lconst n => exact xk_t_lconst F TK GK hX hI hRm hd h kk
  | ldc ix => exact xk_t_ldc F TK GK hX hI hRm hd h kk
  | ldc_w ix => exact xk_t_ldc_w F TK GK hX hI hRm hd h kk
  | ldc2_w ix => exact xk_t_ldc2_w F TK GK hX hI hRm hd h kk
  | iload_n n => exact xk_t_iload_n F TK GK hX hI hRm hd h kk
  | iload n => exact xk_t_iload F TK GK hX hI hRm hd h kk
  | lload_n n => exact xk_t_lload_n F TK GK hX hI hRm hd h kk
  | lload n => exact xk_t_lload F TK GK hX hI hRm hd h kk
  | aload_n n => exact xk_t_aload_n F TK GK hX hI hRm hd h kk
  | aload n => exact xk_t_aload F TK GK hX hI hRm hd h kk
  | istore_n n => exact xk_t_istore_n F TK GK hX hI hRm hd h kk
  | istore n => exact xk_t_istore F TK GK hX hI hRm hd h kk
  | lstore_n n => exact xk_t_lstore_n F TK GK hX hI hRm hd h kk
  | lstore n => exact xk_t_lstore F TK GK hX hI hRm hd h kk
  | astore_n n => exact xk_t_astore_n F TK GK hX hI hRm hd h kk
  | astore n => exact xk_t_astore F TK GK hX hI hRm hd h kk
  | iinc n c0 => exact xk_t_iinc F TK GK hX hI hRm hd h kk
  | iadd  => exact xk_t_iadd F TK GK hX hI hRm hd h kk
  | isub  => exact xk_t_isub F TK GK hX hI hRm hd h kk
  | imul  => exact xk_t_imul F TK GK hX hI hRm hd h kk
  | iand  => exact xk_t_iand F TK GK hX hI hRm hd h kk
  | ior  => exact xk_t_ior F TK GK hX hI hRm hd h kk
  | ixor  => exact xk_t_ixor F TK GK hX hI hRm hd h kk
  | ishl  => exact xk_t_ishl F TK GK hX hI hRm hd h kk
  | ishr  => exact xk_t_ishr F TK GK hX hI hRm hd h kk
  | iushr  => exact xk_t_iushr F TK GK hX hI hRm hd h kk
  | idiv  => exact xk_t_idiv F TK GK hX hI hRm hd h kk
  | irem  => exact xk_t_irem F TK GK hX hI hRm hd h kk
  | ladd  => exact xk_t_ladd F TK GK hX hI hRm hd h kk
  | lsub  => exact xk_t_lsub F TK GK hX hI hRm hd h kk
  | lmul  => exact xk_t_lmul F TK GK hX hI hRm hd h kk
  | land  => exact xk_t_land F TK GK hX hI hRm hd h kk
  | lor  => exact xk_t_lor F TK GK hX hI hRm hd h kk
  | ldiv  => exact xk_t_ldiv F TK GK hX hI hRm hd h kk
  | lrem  => exact xk_t_lrem F TK GK hX hI hRm hd h kk
  | lshl  => exact xk_t_lshl F TK GK hX hI hRm hd h kk
  | lushr  => exact xk_t_lushr F TK GK hX hI hRm hd h kk
  | i2b  => exact xk_t_i2b F TK GK hX hI hRm hd h kk
  | i2s  => exact xk_t_i2s F TK GK hX hI hRm hd h kk
  | i2l  => exact xk_t_i2l F TK GK hX hI hRm hd h kk
  | l2i  => exact xk_t_l2i F TK GK hX hI hRm hd h kk
  | lcmp  => exact xk_t_lcmp F TK GK hX hI hRm hd h kk
  | dup  => exact xk_t_dup F TK GK hX hI hRm hd h kk
  | pop  => exact xk_t_pop F TK GK hX hI hRm hd h kk
  | dup2  => exact xk_t_dup2 F TK GK hX hI hRm hd h kk
  | goto off => exact xk_t_goto F TK GK hX hI hRm hd h kk
  | tableswitch dflt tlo thi offs => exact xk_t_tableswitch F TK GK hX hI hRm hd h kk
  | ifnull off => exact xk_t_ifnull F TK GK hX hI hRm hd h kk
  | ifnonnull off => exact xk_t_ifnonnull F TK GK hX hI hRm hd h kk
  | getfield ix => exact xk_t_getfield F TK GK hX hI hRm hd h kk
  | putfield ix => exact xk_t_putfield F TK GK hX hI hRm hd h kk
  | iaload  => exact xk_t_iaload F TK GK hX hI hRm SC hd h kk
  | baload  => exact xk_t_baload F TK GK hX hI hRm SC hd h kk
  | laload  => exact xk_t_laload F TK GK hX hI hRm SC hd h kk
  | aaload  => exact xk_t_aaload F TK GK hX hI hRm SC hd h kk
  | arraylength  => exact xk_t_arraylength F TK GK hX hI hRm SC hd h kk
  | iastore  => exact xk_t_iastore F TK GK hX hI hRm SC hd h kk
  | bastore  => exact xk_t_bastore F TK GK hX hI hRm SC hd h kk
  | lastore  => exact xk_t_lastore F TK GK hX hI hRm SC hd h kk
  | aastore  => exact xk_t_aastore F TK GK hX hI hRm SC hd h kk
  | new ix => exact xk_t_new F TK GK hX hI hRm SC hd h kk
  | newarray aty => exact xk_t_newarray F TK GK hX hI hRm SC hd h kk
  | anewarray ix => exact xk_t_anewarray F TK GK hX hI hRm SC hd h kk
  | if_icmp cnd off =>
    cases cnd with
    | lt => exact xk_t_icmp_lt F TK GK hX hI hRm hd h kk
    | ge => exact xk_t_icmp_ge F TK GK hX hI hRm hd h kk
    | gt => exact xk_t_icmp_gt F TK GK hX hI hRm hd h kk
    | le => exact xk_t_icmp_le F TK GK hX hI hRm hd h kk
    | eq => exact xk_t_icmp_eq F TK GK hX hI hRm hd h kk
    | ne => exact xk_t_icmp_ne F TK GK hX hI hRm hd h kk
  | ifCond cnd off =>
    cases cnd with
    | lt => exact xk_t_if_lt F TK GK hX hI hRm hd h kk
    | ge => exact xk_t_if_ge F TK GK hX hI hRm hd h kk
    | gt => exact xk_t_if_gt F TK GK hX hI hRm hd h kk
    | le => exact xk_t_if_le F TK GK hX hI hRm hd h kk
    | eq => exact xk_t_if_eq F TK GK hX hI hRm hd h kk
    | ne => exact xk_t_if_ne F TK GK hX hI hRm hd h kk
  | invokespecial ix =>
    cases ho : xk_i_obj T X pc len ix iv lo st hp kc ks with
    | some l2 =>
      have h2 : xk_or (xk_i_obj T X pc len ix iv lo st hp kc ks) (xk_call X pc iv lo st hp kc ks B) = some succs := h
      rw [ho] at h2
      cases h2
      exact xk_t_obj F TK GK hX hI hRm SC hd ho kk
    | none =>
      have h2 : xk_or (xk_i_obj T X pc len ix iv lo st hp kc ks) (xk_call X pc iv lo st hp kc ks B) = some succs := h
      rw [ho] at h2
      exact xk_t_call F hRm B hB h2 kk
  | invokestatic ix =>
    cases ho : xk_i_acopy T X pc len ix iv lo st hp kc ks with
    | some l2 =>
      have h2 : xk_or (xk_i_acopy T X pc len ix iv lo st hp kc ks) (xk_call X pc iv lo st hp kc ks B) = some succs := h
      rw [ho] at h2
      cases h2
      exact xk_t_acopy F TK GK hX hI hRm SC hd ho kk
    | none =>
      have h2 : xk_or (xk_i_acopy T X pc len ix iv lo st hp kc ks) (xk_call X pc iv lo st hp kc ks B) = some succs := h
      rw [ho] at h2
      exact xk_t_call F hRm B hB h2 kk
  | invokevirtual ix => exact xk_t_call F hRm B hB h kk
  | _ => cases h
def xk_exec (cc : ByteArray) (T : xk_T) (X : xk_X) (B : xk_B) (rt : Instr → xk_S → Bool) : Nat → Nat → xk_S → Bool
  | 0, _, _ => false
  | f + 1, pc, σ => match decode cc pc with
    | .ok (i, len) => (match xk_step T X B pc i len σ with
      | some l => l.all (fun q => xk_exec cc T X B rt f q.1 q.2)
      | none => Nat.beq len 1 && rt i σ)
    | .error _ => false
theorem xk_exec_ok {T : xk_T} {X : xk_X} {B : xk_B} {rt : Instr → xk_S → Bool} (F : xk_Fx p s m args c D A own cc nL) (TK : xk_TOK own T) (GK : xk_GOK) (hX : X.1 = nL) (hI : X.2.1 = true → meth.name = "<init>") (hRm : X.2.2.1 = (R.frames, R.cells, R.slots, R.locals)) (SC : ∀ L, X.2.2.2.1 = some L → ∃ xs : Nat → Int32, va_X (b.1 - 1) L xs s s.heap ∧ b.1 - 1 < s.heap.size ∧ ¬ A (b.1 - 1) ∧ b.2.1 = (List.range L).map (fun j => (xs j).toInt)) (hB : ∀ q ∈ B, xk_Rn l D own cc nL R q.1 q.2.1) (RT : ∀ (pc : Nat) (i : Instr) (σ : xk_S), decode cc pc = .ok (i, 1) → rt i σ = true → xk_G p l e R s m args below meth c Q b nL D A pc σ) : ∀ (f pc : Nat) (σ : xk_S), xk_exec cc T X B rt f pc σ = true → xk_G p l e R s m args below meth c Q b nL D A pc σ
  | 0, _, _, h => by cases h
  | f + 1, pc, σ, h => by
    unfold xk_exec at h
    split at h
    · rename_i i len hd
      split at h
      · rename_i l2 hl
        exact xk_step_ok F TK GK hX hI hRm SC hB hd hl (fun q hq => xk_exec_ok F TK GK hX hI hRm SC hB RT f q.1 q.2 (List.all_eq_true.mp h q hq))
      · rw [Bool.and_eq_true] at h
        have hl := Nat.eq_of_beq_eq_true h.1
        subst hl
        exact RT pc i σ hd h.2
    · cases h
end XJ

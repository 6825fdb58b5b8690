section XL18
variable {p : Program} {l : Launch} {e : Env} {s : State} {m : MethodId} {below : List Frame} {meth : Method} {c : Code} {D : va_G} {b L : Nat} {xs : Nat → Int32} {oq : xk_O} {e1 : List Int} {a1 : List Nat}
/-- a piece begins at a head: its first step by hand -/
theorem xl_fst (C : xl_ok p s m meth c D b L xs oq) {σ : xk_S} (hov : xk_ov σ.2.1 3 = some (0, 1)) (h : xk_G p l e room_1 s m #[Value.ref b] below meth c (lw_Z below #[Value.ref b] s) (0, e1, a1, oq) 4 D (fun q => s.heap.size ≤ q) 19 (σ.1, σ.2.1, (0, 1) :: σ.2.2.1, σ.2.2.2)) : xk_G p l e room_1 s m #[Value.ref b] below meth c (lw_Z below #[Value.ref b] s) (0, e1, a1, oq) 4 D (fun q => s.heap.size ≤ q) 18 σ := by
  obtain ⟨F, -⟩ := C
  obtain ⟨hx, hb, -⟩ := F
  obtain ⟨iv, lo, st, hp, kc, ks⟩ := σ
  intro env ad H locs ls sv hI
  obtain ⟨v, l1, x, ev, hv⟩ := xk_ldI hI hov
  subst ev
  exact lv_iload_n hx hb (k := 3) (i := 3) (by decide +kernel) rfl l1 (h _ _ _ _ _ _ (xk_push hI ⟨x, rfl, hv⟩))
end XL18

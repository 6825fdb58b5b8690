/-! pure lemmas for laysNaive (xn_) and risk (xe_): drafts, not compiled yet -/
theorem xn_or : ∀ b : Nat, b < 512 → ∀ j : Nat, j < 9 → (Int32.ofNat b ||| ((1 : Int32) <<< (Int32.ofNat j &&& 31))) = Int32.ofNat (b ||| 2 ^ j) := by decide +kernel
theorem xn_cnt : ∀ b : Nat, b < 512 → ∀ j : Nat, j < 9 → b.testBit j = false → xf_cnt (b ||| 2 ^ j) 9 = xf_cnt b 9 + 1 ∧ (b ||| 2 ^ j) < 512 := by decide +kernel
theorem xn_nine : ∀ b : Nat, b < 512 → xf_cnt b 9 ≤ 9 := by decide +kernel
/-- a number below 512 without a bit below 9 is 0 -/
theorem xn_zero : ∀ b : Nat, b < 512 → (∀ i : Nat, i < 9 → b.testBit i = false) → b = 0 := by decide +kernel
theorem xn_dis {x y : Nat} {j : Nat} (h : x &&& y = 0) (hx : x.testBit j = true) : y.testBit j = false := by
  have h1 := congrArg (fun z => z.testBit j) h
  simp only [Nat.testBit_and, Nat.zero_testBit, hx, Bool.true_and] at h1
  exact h1
theorem xe_succ (u c : Nat) : xf_cnt u (c + 1) = xf_cnt u c + (if u.testBit c then 1 else 0) := by
  unfold xf_cnt
  rw [List.range_succ, List.filter_append, List.length_append]
  congr 1
  cases h : u.testBit c <;> simp [h]
theorem xe_mono (u c : Nat) : ∀ d : Nat, xf_cnt u c ≤ xf_cnt u (c + d)
  | 0 => Nat.le_refl _
  | d + 1 => by
    have h1 := xe_mono u c d
    have h2 := xe_succ u (c + d)
    rw [← Nat.add_assoc]
    omega
theorem xe_size : ∀ u : Nat, u < 512 → xz_n (u + 1) (Int32.ofNat u) = xf_cnt u 9 := by decide +kernel
theorem xe_pos : ∀ u : Nat, u < 512 → 0 < u → 0 < xf_cnt u 9 := by decide +kernel
theorem xe_pow {k : Nat} (h : k ≤ 9) : (1 : Int) ≤ 100 ^ k ∧ (100 : Int) ^ k ≤ 1000000000000000000 := by
  rcases (show k = 0 ∨ k = 1 ∨ k = 2 ∨ k = 3 ∨ k = 4 ∨ k = 5 ∨ k = 6 ∨ k = 7 ∨ k = 8 ∨ k = 9 by omega) with rfl | rfl | rfl | rfl | rfl | rfl | rfl | rfl | rfl | rfl <;> decide

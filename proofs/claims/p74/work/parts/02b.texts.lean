/-- the texts that the class compares with: lengths, bytes, where they stand in the constant pool -/
def xs_len : List Nat := [7, 5, 2, 3, 4, 5, 4, 3, 4, 2, 4, 4, 5, 5, 6, 5]
def xs_byt : List (List Int32) := [[107, 105, 116, 99, 104, 101, 110], [99, 108, 97, 105, 109], [115, 111], [110, 111, 116], [99, 111, 115, 116], [102, 111, 117, 110, 100], [111, 119, 110, 115], [108, 97, 119], [115, 111, 109, 101], [105, 102], [116, 104, 101, 110], [98, 97, 114, 115], [107, 110, 111, 119, 110], [119, 97, 110, 116, 115], [112, 101, 114, 115, 111, 110], [107, 110, 111, 119, 115]]
def xs_idx : List Nat := [51, 61, 101, 103, 105, 107, 109, 66, 118, 123, 142, 128, 71, 82, 92, 150]
def xs_txt : List String := ["kitchen", "claim", "so", "not", "cost", "found", "owns", "law", "some", "if", "then", "bars", "known", "wants", "person", "knows"]
/-- references of which nothing is told; the texts; their bytes -/
abbrev xk_O : Type := List Nat × (Nat → Nat) × (Nat → Nat)
/-- a text (below 16), or the bytes of one -/
def xk_tx (o : (Nat → Nat) × (Nat → Nat)) (k : Nat) : Nat := if k < 16 then o.1 k else o.2 (k - 16)
/-- a text, the bytes of one, or the formatter (32), which may be null -/
def xk_tv (o : (Nat → Nat) × (Nat → Nat)) (k : Nat) : Value := if k = 32 then (match o.2 16 with
  | 0 => .null
  | a + 1 => .ref a) else .ref (xk_tx o k)
theorem xk_tv_of {o : (Nat → Nat) × (Nat → Nat)} {k : Nat} (h : k ≠ 32) : xk_tv o k = .ref (xk_tx o k) := if_neg h
theorem xk_tv_cat (o : (Nat → Nat) × (Nat → Nat)) (k : Nat) : (xk_tv o k).category = 1 := by
  unfold xk_tv
  split
  · split <;> rfl
  · rfl
def xk_SUH (oq : xk_O) (A : Nat → Prop) (U : State) (H : Heap) : Prop := vk_S 16 xs_len xs_byt oq.2.1 oq.2.2 A U H ∧ (∀ i : Nat, i < 16 → vk_R "LieKitchen$Reader" (xs_idx.getD i 0) (xs_txt.getD i "") (oq.2.1 i) U) ∧ va_Z "java/lang/String" "COMPACT_STRINGS" "Z" (.int 1) A U H ∧ va_Z "jdk/internal/util/Preconditions" "SIOOBE_FORMATTER" "Ljava/util/function/BiFunction;" (xk_tv oq.2 32) A U H
theorem xk_SUH_warm {oq : xk_O} {A : Nat → Prop} {u U : State} {H : Heap} (hW : u.WarmedH U.vm) (h : xk_SUH oq A u H) : xk_SUH oq A U H := ⟨h.1.moved hW.alike, fun i hi => (h.2.1 i hi).warm hW, h.2.2.1.moved hW.alike, h.2.2.2.moved hW.alike⟩
theorem xk_SUH_same {oq : xk_O} {A : Nat → Prop} {u U : State} {H : Heap} (he : u.vm = U.vm) (hvm : u.vm.Alike U.vm) (h : xk_SUH oq A u H) : xk_SUH oq A U H := ⟨h.1.moved hvm, fun i hi => (h.2.1 i hi).same he.symm, h.2.2.1.moved hvm, h.2.2.2.moved hvm⟩
theorem xk_SUH_kept {oq : xk_O} {A B : Nat → Prop} {s : State} {H : Heap} {locs : List Loc} (h : xk_SUH oq A s s.heap) (hS : va_S A s.heap H locs) (hAB : ∀ q, B q → A q) : xk_SUH oq B s H := ⟨(h.1.kept hS.2.1).narrow hAB, h.2.1, (h.2.2.1.kept hS.2.1).narrow hAB, (h.2.2.2.kept hS.2.1).narrow hAB⟩

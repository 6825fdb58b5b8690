abbrev xk_V : Type := Nat × Int
abbrev xk_I : Type := Int × Int
abbrev xk_C : Type := Nat × Nat × List xk_V × Nat × xk_I × List (Nat × xk_V)
abbrev xk_S : Type := List xk_I × List (Nat × xk_V) × List xk_V × List xk_C × Nat × Nat
def xk_r2 {α β : Type} (R : α → β → Prop) : List α → List β → Prop
  | [], [] => True
  | a :: as, b :: bs => R a b ∧ xk_r2 R as bs
  | _, _ => False
theorem xk_r2_nil {α β : Type} {R : α → β → Prop} {l : List β} (h : xk_r2 R [] l) : l = [] := by
  cases l with
  | nil => rfl
  | cons b bs => exact h.elim
theorem xk_r2_cons {α β : Type} {R : α → β → Prop} {a : α} {as : List α} {l : List β} (h : xk_r2 R (a :: as) l) : ∃ b bs, l = b :: bs ∧ R a b ∧ xk_r2 R as bs := by
  cases l with
  | nil => exact h.elim
  | cons b bs => exact ⟨b, bs, rfl, h.1, h.2⟩
theorem xk_r2_mono {α β : Type} {R S : α → β → Prop} (hRS : ∀ a b, R a b → S a b) : ∀ {as : List α} {bs : List β}, xk_r2 R as bs → xk_r2 S as bs
  | [], [], _ => trivial
  | _ :: _, _ :: _, h => ⟨hRS _ _ h.1, xk_r2_mono hRS h.2⟩
  | [], _ :: _, h => h.elim
  | _ :: _, [], h => h.elim
theorem xk_r2_get {α β : Type} {R : α → β → Prop} : ∀ {as : List α} {bs : List β} (k : Nat) {a : α}, xk_r2 R as bs → as[k]? = some a → ∃ b, bs[k]? = some b ∧ R a b
  | [], _, _, _, _, hk => by simp at hk
  | _ :: _, [], _, _, h, _ => h.elim
  | _ :: _, b :: _, 0, _, h, hk => by
    simp at hk
    subst hk
    exact ⟨b, by simp, h.1⟩
  | _ :: _, _ :: _, k + 1, _, h, hk => by
    simp only [List.getElem?_cons_succ] at hk ⊢
    exact xk_r2_get k h.2 hk
theorem xk_r2_set {α β : Type} {R : α → β → Prop} {a : α} {b : β} (hab : R a b) : ∀ {as : List α} {bs : List β} (k : Nat), xk_r2 R as bs → xk_r2 R (as.set k a) (bs.set k b)
  | [], [], _, _ => by simp [xk_r2]
  | _ :: _, [], _, h => h.elim
  | [], _ :: _, _, h => h.elim
  | _ :: _, _ :: _, 0, h => ⟨hab, h.2⟩
  | _ :: _, _ :: _, k + 1, h => ⟨h.1, xk_r2_set hab k h.2⟩
theorem xk_r2_app {α β : Type} {R : α → β → Prop} {as' : List α} {bs' : List β} (h' : xk_r2 R as' bs') : ∀ {as : List α} {bs : List β}, xk_r2 R as bs → xk_r2 R (as ++ as') (bs ++ bs')
  | [], [], _ => h'
  | _ :: _, [], h => h.elim
  | [], _ :: _, h => h.elim
  | _ :: _, _ :: _, h => ⟨h.1, xk_r2_app h' h.2⟩
theorem xk_r2_len {α β : Type} {R : α → β → Prop} : ∀ {as : List α} {bs : List β}, xk_r2 R as bs → as.length = bs.length
  | [], [], _ => rfl
  | _ :: _, [], h => h.elim
  | [], _ :: _, h => h.elim
  | _ :: _, _ :: _, h => by simp [xk_r2_len h.2]
theorem xk_r2_filter {α β : Type} {R : α → β → Prop} {p : α → Bool} {q : β → Bool} (hpq : ∀ a b, R a b → p a = q b) : ∀ {as : List α} {bs : List β}, xk_r2 R as bs → xk_r2 R (as.filter p) (bs.filter q)
  | [], [], _ => trivial
  | _ :: _, [], h => h.elim
  | [], _ :: _, h => h.elim
  | a :: as, b :: bs, h => by
    have h1 := hpq a b h.1
    have h2 := xk_r2_filter hpq h.2
    by_cases hb : q b = true
    · rw [List.filter_cons_of_pos hb, List.filter_cons_of_pos (h1.trans hb)]
      exact ⟨h.1, h2⟩
    · rw [List.filter_cons_of_neg hb, List.filter_cons_of_neg (by rw [h1]; exact hb)]
      exact h2
/-- a number or a cell that a value stands for: 0 int by number, 1 long by number, 2 cell by place, 3 null, 4 the script, 5 int constant, 6 long constant -/
def xk_v (b : Nat × List Int × List Nat) (env : List Int) (ad : List Nat) (av : xk_V) (v : Value) : Prop := match av.1 with
  | 0 => ∃ x : Int32, v = .int x ∧ env[av.2.toNat]? = some x.toInt
  | 1 => ∃ x : Int64, v = .long x ∧ env[av.2.toNat]? = some x.toInt
  | 2 => ∃ a : Nat, v = .ref a ∧ ad[av.2.toNat]? = some a
  | 3 => v = .null
  | 4 => v = .ref (b.1 - 1) ∧ 0 < b.1 ∧ ∀ (j : Nat) (n : Int), b.2.1[j]? = some n → env[j]? = some n
  | 5 => ∃ x : Int32, v = .int x ∧ x.toInt = av.2
  | 6 => ∃ x : Int64, v = .long x ∧ x.toInt = av.2
  | _ => False
theorem xk_ga {α : Type} {l m : List α} {i : Nat} {x : α} (h : l[i]? = some x) : (l ++ m)[i]? = some x := by
  rw [List.getElem?_append_left (List.getElem?_eq_some_iff.mp h).1]
  exact h
theorem xk_v_mono {b : Nat × List Int × List Nat} {env : List Int} {ad : List Nat} (e2 : List Int) (a2 : List Nat) {av : xk_V} {v : Value} (h : xk_v b env ad av v) : xk_v b (env ++ e2) (ad ++ a2) av v := by
  obtain ⟨t, i⟩ := av
  rcases t with _ | _ | _ | _ | _ | _ | _ | t
  · obtain ⟨x, h1, h2⟩ := h; exact ⟨x, h1, xk_ga h2⟩
  · obtain ⟨x, h1, h2⟩ := h; exact ⟨x, h1, xk_ga h2⟩
  · obtain ⟨x, h1, h2⟩ := h; exact ⟨x, h1, xk_ga h2⟩
  · exact h
  · exact ⟨h.1, h.2.1, fun j n hj => xk_ga (h.2.2 j n hj)⟩
  · exact h
  · exact h
  · exact h.elim
def xk_isI (av : xk_V) : Bool := match av.1 with
  | 0 => true
  | 5 => true
  | _ => false
def xk_isL (av : xk_V) : Bool := match av.1 with
  | 1 => true
  | 6 => true
  | _ => false
def xk_isC (av : xk_V) : Bool := match av.1 with
  | 5 => true
  | 6 => true
  | _ => false
/-- the words that a value takes -/
def xk_cat (av : xk_V) : Nat := if xk_isL av then 2 else 1
def xk_n (env : List Int) (av : xk_V) (n : Int) : Prop := if xk_isC av then n = av.2 else env[av.2.toNat]? = some n
theorem xk_vI {b : Nat × List Int × List Nat} {env : List Int} {ad : List Nat} {av : xk_V} {v : Value} (h : xk_isI av = true) (hv : xk_v b env ad av v) : ∃ x : Int32, v = .int x ∧ xk_n env av x.toInt := by
  obtain ⟨t, i⟩ := av
  rcases t with _ | _ | _ | _ | _ | _ | _ | t
  · obtain ⟨x, h1, h2⟩ := hv; exact ⟨x, h1, h2⟩
  · cases h
  · cases h
  · cases h
  · cases h
  · obtain ⟨x, h1, h2⟩ := hv; exact ⟨x, h1, h2⟩
  · cases h
  · cases h
theorem xk_vL {b : Nat × List Int × List Nat} {env : List Int} {ad : List Nat} {av : xk_V} {v : Value} (h : xk_isL av = true) (hv : xk_v b env ad av v) : ∃ x : Int64, v = .long x ∧ xk_n env av x.toInt := by
  obtain ⟨t, i⟩ := av
  rcases t with _ | _ | _ | _ | _ | _ | _ | t
  · cases h
  · obtain ⟨x, h1, h2⟩ := hv; exact ⟨x, h1, h2⟩
  · cases h
  · cases h
  · cases h
  · cases h
  · obtain ⟨x, h1, h2⟩ := hv; exact ⟨x, h1, h2⟩
  · cases h
theorem xk_v_cat {b : Nat × List Int × List Nat} {env : List Int} {ad : List Nat} {av : xk_V} {v : Value} (hv : xk_v b env ad av v) : v.category = xk_cat av := by
  obtain ⟨t, i⟩ := av
  rcases t with _ | _ | _ | _ | _ | _ | _ | t
  · obtain ⟨x, rfl, -⟩ := hv; rfl
  · obtain ⟨x, rfl, -⟩ := hv; rfl
  · obtain ⟨x, rfl, -⟩ := hv; rfl
  · cases hv; rfl
  · rw [hv.1]; rfl
  · obtain ⟨x, rfl, -⟩ := hv; rfl
  · obtain ⟨x, rfl, -⟩ := hv; rfl
  · exact hv.elim
def xk_iv (iv : List xk_I) (av : xk_V) : xk_I := if xk_isC av then (av.2, av.2) else match iv[av.2.toNat]? with
  | some q => q
  | none => (1, 0)
def xk_ok (env : List Int) (iv : List xk_I) : Prop := env.length = iv.length ∧ ∀ (i : Nat) (n : Int) (q : xk_I), env[i]? = some n → iv[i]? = some q → q.1 ≤ n ∧ n ≤ q.2
theorem xk_iv_ok {env : List Int} {iv : List xk_I} {av : xk_V} {n : Int} (h : xk_ok env iv) (hn : xk_n env av n) : (xk_iv iv av).1 ≤ n ∧ n ≤ (xk_iv iv av).2 := by
  unfold xk_n at hn
  unfold xk_iv
  by_cases hc : xk_isC av = true
  · rw [if_pos hc] at hn ⊢
    subst hn
    exact ⟨Int.le_refl _, Int.le_refl _⟩
  · rw [if_neg hc] at hn ⊢
    have hl : av.2.toNat < iv.length := by rw [← h.1]; exact (List.getElem?_eq_some_iff.mp hn).1
    have hq : iv[av.2.toNat]? = some iv[av.2.toNat] := List.getElem?_eq_getElem hl
    rw [hq]
    exact h.2 _ _ _ hn hq
theorem xk_ok_app {env : List Int} {iv : List xk_I} {n : Int} {q : xk_I} (h : xk_ok env iv) (h1 : q.1 ≤ n) (h2 : n ≤ q.2) : xk_ok (env ++ [n]) (iv ++ [q]) := by
  refine ⟨by simp [h.1], fun i m p hm hp => ?_⟩
  rcases Nat.lt_or_ge i env.length with hi | hi
  · rw [List.getElem?_append_left hi] at hm
    rw [List.getElem?_append_left (by rw [← h.1]; exact hi)] at hp
    exact h.2 i m p hm hp
  · rw [List.getElem?_append_right hi] at hm
    rw [List.getElem?_append_right (by rw [← h.1]; exact hi)] at hp
    rw [h.1] at hm
    cases hk : i - iv.length with
    | zero =>
      rw [hk] at hm hp
      simp at hm hp
      subst hm; subst hp
      exact ⟨h1, h2⟩
    | succ k =>
      rw [hk] at hm
      simp at hm
theorem xk_ok_set {env : List Int} {iv : List xk_I} {i : Nat} {n : Int} {q : xk_I} (h : xk_ok env iv) (hn : env[i]? = some n) (h1 : q.1 ≤ n) (h2 : n ≤ q.2) : xk_ok env (iv.set i q) := by
  refine ⟨by simp [h.1], fun j m p hm hp => ?_⟩
  by_cases hj : i = j
  · subst hj
    have hl : i < iv.length := by rw [← h.1]; exact (List.getElem?_eq_some_iff.mp hn).1
    rw [List.getElem?_set_self hl] at hp
    rw [hn] at hm
    cases hm; cases hp
    exact ⟨h1, h2⟩
  · rw [List.getElem?_set_ne hj] at hp
    exact h.2 j m p hm hp
/-- a new number with its bounds: a constant where they are one -/
def xk_new (t : Nat) (iv : List xk_I) (I : xk_I) : List xk_I × xk_V := if I.1 = I.2 then (iv, (t + 5, I.1)) else (iv ++ [I], (t, (iv.length : Int)))
theorem xk_new_I {b : Nat × List Int × List Nat} {env : List Int} {ad : List Nat} {iv : List xk_I} {I : xk_I} {x : Int32} (h : xk_ok env iv) (h1 : I.1 ≤ x.toInt) (h2 : x.toInt ≤ I.2) : ∃ e2 : List Int, xk_ok (env ++ e2) (xk_new 0 iv I).1 ∧ xk_v b (env ++ e2) ad (xk_new 0 iv I).2 (.int x) := by
  unfold xk_new
  by_cases hI : I.1 = I.2
  · rw [if_pos hI]
    exact ⟨[], by rw [List.append_nil]; exact h, x, rfl, by show x.toInt = I.1; omega⟩
  · rw [if_neg hI]
    refine ⟨[x.toInt], xk_ok_app h h1 h2, x, rfl, ?_⟩
    show (env ++ [x.toInt])[(iv.length : Int).toNat]? = some x.toInt
    rw [← h.1]
    simp
theorem xk_new_L {b : Nat × List Int × List Nat} {env : List Int} {ad : List Nat} {iv : List xk_I} {I : xk_I} {x : Int64} (h : xk_ok env iv) (h1 : I.1 ≤ x.toInt) (h2 : x.toInt ≤ I.2) : ∃ e2 : List Int, xk_ok (env ++ e2) (xk_new 1 iv I).1 ∧ xk_v b (env ++ e2) ad (xk_new 1 iv I).2 (.long x) := by
  unfold xk_new
  by_cases hI : I.1 = I.2
  · rw [if_pos hI]
    exact ⟨[], by rw [List.append_nil]; exact h, x, rfl, by show x.toInt = I.1; omega⟩
  · rw [if_neg hI]
    refine ⟨[x.toInt], xk_ok_app h h1 h2, x, rfl, ?_⟩
    show (env ++ [x.toInt])[(iv.length : Int).toNat]? = some x.toInt
    rw [← h.1]
    simp
def xk_set (iv : List xk_I) (av : xk_V) (I : xk_I) : Option (List xk_I) := if I.2 < I.1 then none else if xk_isC av then some iv else some (iv.set av.2.toNat I)
theorem xk_set_ok {env : List Int} {iv : List xk_I} {av : xk_V} {I : xk_I} {n : Int} (h : xk_ok env iv) (hn : xk_n env av n) (h1 : I.1 ≤ n) (h2 : n ≤ I.2) : ∃ iv', xk_set iv av I = some iv' ∧ xk_ok env iv' := by
  unfold xk_set
  rw [if_neg (by omega)]
  unfold xk_n at hn
  by_cases hc : xk_isC av = true
  · rw [if_pos hc]
    exact ⟨iv, rfl, h⟩
  · rw [if_neg hc] at hn ⊢
    exact ⟨_, rfl, xk_ok_set h hn h1 h2⟩
/-- what is known behind a ≤ c + k -/
def xk_le (iv : List xk_I) (a c : xk_V) (k : Int) : Option (List xk_I) := match xk_set iv a ((xk_iv iv a).1, min (xk_iv iv a).2 ((xk_iv iv c).2 + k)) with
  | none => none
  | some iv1 => xk_set iv1 c (max (xk_iv iv1 c).1 ((xk_iv iv1 a).1 - k), (xk_iv iv1 c).2)
theorem xk_le_ok {env : List Int} {iv : List xk_I} {a c : xk_V} {k x y : Int} (h : xk_ok env iv) (hx : xk_n env a x) (hy : xk_n env c y) (hk : x ≤ y + k) : ∃ iv', xk_le iv a c k = some iv' ∧ xk_ok env iv' := by
  have ha := xk_iv_ok h hx
  have hc := xk_iv_ok h hy
  obtain ⟨iv1, e1, h1⟩ := xk_set_ok (I := ((xk_iv iv a).1, min (xk_iv iv a).2 ((xk_iv iv c).2 + k))) h hx ha.1 (by show x ≤ min _ _; omega)
  have ha1 := xk_iv_ok h1 hx
  have hc1 := xk_iv_ok h1 hy
  obtain ⟨iv2, e2, h2⟩ := xk_set_ok (I := (max (xk_iv iv1 c).1 ((xk_iv iv1 a).1 - k), (xk_iv iv1 c).2)) h1 hy (by show max _ _ ≤ y; omega) hc1.2
  exact ⟨iv2, by unfold xk_le; rw [e1]; exact e2, h2⟩

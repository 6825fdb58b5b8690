abbrev xk_V : Type := Nat × Int
/-- the script's place and 1; the first numbers; the first places; references of which nothing is told -/
abbrev xk_b : Type := Nat × List Int × List Nat × xk_O
abbrev xk_I : Type := Int × Int
abbrev xk_C : Type := Nat × Nat × List xk_V × Nat × xk_I × List (Nat × xk_V)
abbrev xk_R : Type := Nat × Nat × Int
/-- bounds of each number; relations: number a ≤ number b + k -/
abbrev xk_N : Type := List xk_I × List xk_R
abbrev xk_S : Type := xk_N × List (Nat × xk_V) × List xk_V × List xk_C × Nat × Nat
def xk_r2 {α β : Type} (R : α → β → Prop) : List α → List β → Prop
  | [], [] => True
  | a :: as, b :: bs => R a b ∧ xk_r2 R as bs
  | _, _ => False
theorem xk_r2_nil {α β : Type} {R : α → β → Prop} {l : List β} (h : xk_r2 R [] l) : l = [] := by
  cases l with
  | nil => rfl
  | cons b bs => exact h.elim
theorem xk_r2_cons {α β : Type} {R : α → β → Prop} {a : α} {as : List α} {l : List β} (h : xk_r2 R (a :: as) l) : ∃ b bs, l = b :: bs ∧ R a b ∧ xk_r2 R as bs := by
  cases l with
  | nil => exact h.elim
  | cons b bs => exact ⟨b, bs, rfl, h.1, h.2⟩
theorem xk_r2_mono {α β : Type} {R S : α → β → Prop} (hRS : ∀ a b, R a b → S a b) : ∀ {as : List α} {bs : List β}, xk_r2 R as bs → xk_r2 S as bs
  | [], [], _ => trivial
  | _ :: _, _ :: _, h => ⟨hRS _ _ h.1, xk_r2_mono hRS h.2⟩
  | [], _ :: _, h => h.elim
  | _ :: _, [], h => h.elim
theorem xk_r2_get {α β : Type} {R : α → β → Prop} : ∀ {as : List α} {bs : List β} (k : Nat) {a : α}, xk_r2 R as bs → as[k]? = some a → ∃ b, bs[k]? = some b ∧ R a b
  | [], _, _, _, _, hk => by simp at hk
  | _ :: _, [], _, _, h, _ => h.elim
  | _ :: _, b :: _, 0, _, h, hk => by
    simp at hk
    subst hk
    exact ⟨b, by simp, h.1⟩
  | _ :: _, _ :: _, k + 1, _, h, hk => by
    simp only [List.getElem?_cons_succ] at hk ⊢
    exact xk_r2_get k h.2 hk
theorem xk_r2_set {α β : Type} {R : α → β → Prop} {a : α} {b : β} (hab : R a b) : ∀ {as : List α} {bs : List β} (k : Nat), xk_r2 R as bs → xk_r2 R (as.set k a) (bs.set k b)
  | [], [], _, _ => by simp [xk_r2]
  | _ :: _, [], _, h => h.elim
  | [], _ :: _, _, h => h.elim
  | _ :: _, _ :: _, 0, h => ⟨hab, h.2⟩
  | _ :: _, _ :: _, k + 1, h => ⟨h.1, xk_r2_set hab k h.2⟩
theorem xk_r2_app {α β : Type} {R : α → β → Prop} {as' : List α} {bs' : List β} (h' : xk_r2 R as' bs') : ∀ {as : List α} {bs : List β}, xk_r2 R as bs → xk_r2 R (as ++ as') (bs ++ bs')
  | [], [], _ => h'
  | _ :: _, [], h => h.elim
  | [], _ :: _, h => h.elim
  | _ :: _, _ :: _, h => ⟨h.1, xk_r2_app h' h.2⟩
theorem xk_r2_len {α β : Type} {R : α → β → Prop} : ∀ {as : List α} {bs : List β}, xk_r2 R as bs → as.length = bs.length
  | [], [], _ => rfl
  | _ :: _, [], h => h.elim
  | [], _ :: _, h => h.elim
  | _ :: _, _ :: _, h => by simp [xk_r2_len h.2]
theorem xk_r2_filter {α β : Type} {R : α → β → Prop} {p : α → Bool} {q : β → Bool} (hpq : ∀ a b, R a b → p a = q b) : ∀ {as : List α} {bs : List β}, xk_r2 R as bs → xk_r2 R (as.filter p) (bs.filter q)
  | [], [], _ => trivial
  | _ :: _, [], h => h.elim
  | [], _ :: _, h => h.elim
  | a :: as, b :: bs, h => by
    have h1 := hpq a b h.1
    have h2 := xk_r2_filter hpq h.2
    by_cases hb : q b = true
    · rw [List.filter_cons_of_pos hb, List.filter_cons_of_pos (h1.trans hb)]
      exact ⟨h.1, h2⟩
    · rw [List.filter_cons_of_neg hb, List.filter_cons_of_neg (by rw [h1]; exact hb)]
      exact h2
/-- a number or a cell that a value stands for: 0 int by number, 1 long by number, 2 cell by place, 3 null, 4 the script, 5 int constant, 6 long constant -/
def xk_v (b : xk_b) (env : List Int) (ad : List Nat) (av : xk_V) (v : Value) : Prop := match av.1 with
  | 0 => ∃ x : Int32, v = .int x ∧ env[av.2.toNat]? = some x.toInt
  | 1 => ∃ x : Int64, v = .long x ∧ env[av.2.toNat]? = some x.toInt
  | 2 => ∃ a : Nat, v = .ref a ∧ ad[av.2.toNat]? = some a
  | 3 => v = .null
  | 4 => v = .ref (b.1 - 1) ∧ 0 < b.1 ∧ ∀ (j : Nat) (n : Int), b.2.1[j]? = some n → env[j]? = some n
  | 5 => ∃ x : Int32, v = .int x ∧ x.toInt = av.2
  | 6 => ∃ x : Int64, v = .long x ∧ x.toInt = av.2
  | 7 => ∃ a : Nat, v = .ref a ∧ b.2.2.2.1[av.2.toNat]? = some a
  | 8 => v = xk_tv b.2.2.2.2 av.2.toNat
  | 9 => ∃ x : Int32, v = .int x
  | 10 => ∃ x : Int64, v = .long x
  | _ => False
theorem xk_ga {α : Type} {l m : List α} {i : Nat} {x : α} (h : l[i]? = some x) : (l ++ m)[i]? = some x := by
  rw [List.getElem?_append_left (List.getElem?_eq_some_iff.mp h).1]
  exact h
theorem xk_v_mono {b : xk_b} {env : List Int} {ad : List Nat} (e2 : List Int) (a2 : List Nat) {av : xk_V} {v : Value} (h : xk_v b env ad av v) : xk_v b (env ++ e2) (ad ++ a2) av v := by
  obtain ⟨t, i⟩ := av
  rcases t with _ | _ | _ | _ | _ | _ | _ | _ | _ | _ | _ | t
  · obtain ⟨x, h1, h2⟩ := h; exact ⟨x, h1, xk_ga h2⟩
  · obtain ⟨x, h1, h2⟩ := h; exact ⟨x, h1, xk_ga h2⟩
  · obtain ⟨x, h1, h2⟩ := h; exact ⟨x, h1, xk_ga h2⟩
  · exact h
  · exact ⟨h.1, h.2.1, fun j n hj => xk_ga (h.2.2 j n hj)⟩
  · exact h
  · exact h
  · exact h
  · exact h
  · exact h
  · exact h
  · exact h.elim
def xk_isI (av : xk_V) : Bool := match av.1 with
  | 0 => true
  | 5 => true
  | _ => false
def xk_isL (av : xk_V) : Bool := match av.1 with
  | 1 => true
  | 6 => true
  | _ => false
def xk_isC (av : xk_V) : Bool := match av.1 with
  | 5 => true
  | 6 => true
  | _ => false
/-- the words that a value takes -/
def xk_cat (av : xk_V) : Nat := if xk_isL av || Nat.beq av.1 10 then 2 else 1
def xk_n (env : List Int) (av : xk_V) (n : Int) : Prop := if xk_isC av then n = av.2 else env[av.2.toNat]? = some n
theorem xk_vI {b : xk_b} {env : List Int} {ad : List Nat} {av : xk_V} {v : Value} (h : xk_isI av = true) (hv : xk_v b env ad av v) : ∃ x : Int32, v = .int x ∧ xk_n env av x.toInt := by
  obtain ⟨t, i⟩ := av
  rcases t with _ | _ | _ | _ | _ | _ | _ | _ | _ | _ | _ | t
  · obtain ⟨x, h1, h2⟩ := hv; exact ⟨x, h1, h2⟩
  · cases h
  · cases h
  · cases h
  · cases h
  · obtain ⟨x, h1, h2⟩ := hv; exact ⟨x, h1, h2⟩
  · cases h
  · cases h
  · cases h
  · cases h
  · cases h
  · cases h
theorem xk_vL {b : xk_b} {env : List Int} {ad : List Nat} {av : xk_V} {v : Value} (h : xk_isL av = true) (hv : xk_v b env ad av v) : ∃ x : Int64, v = .long x ∧ xk_n env av x.toInt := by
  obtain ⟨t, i⟩ := av
  rcases t with _ | _ | _ | _ | _ | _ | _ | _ | _ | _ | _ | t
  · cases h
  · obtain ⟨x, h1, h2⟩ := hv; exact ⟨x, h1, h2⟩
  · cases h
  · cases h
  · cases h
  · cases h
  · obtain ⟨x, h1, h2⟩ := hv; exact ⟨x, h1, h2⟩
  · cases h
  · cases h
  · cases h
  · cases h
  · cases h
theorem xk_v_cat {b : xk_b} {env : List Int} {ad : List Nat} {av : xk_V} {v : Value} (hv : xk_v b env ad av v) : v.category = xk_cat av := by
  obtain ⟨t, i⟩ := av
  rcases t with _ | _ | _ | _ | _ | _ | _ | _ | _ | _ | _ | t
  · obtain ⟨x, rfl, -⟩ := hv; rfl
  · obtain ⟨x, rfl, -⟩ := hv; rfl
  · obtain ⟨x, rfl, -⟩ := hv; rfl
  · cases hv; rfl
  · rw [hv.1]; rfl
  · obtain ⟨x, rfl, -⟩ := hv; rfl
  · obtain ⟨x, rfl, -⟩ := hv; rfl
  · obtain ⟨x, rfl, -⟩ := hv; rfl
  · rw [show v = xk_tv b.2.2.2.2 i.toNat from hv, xk_tv_cat]; rfl
  · obtain ⟨x, rfl⟩ := hv; rfl
  · obtain ⟨x, rfl⟩ := hv; rfl
  · exact hv.elim
def xk_iv (iv : xk_N) (av : xk_V) : xk_I := if xk_isC av then (av.2, av.2) else match iv.1[av.2.toNat]? with
  | some q => q
  | none => (1, 0)
/-- bits of u below c -/
def xf_cnt (u c : Nat) : Nat := ((List.range c).filter (fun j => u.testBit j)).length
/-- facts on numbers, told beside the relations: 1, 8 sums; 2 .. 5, 11, 13, 15 bits; 6, 9, 12, 14 powers of a hundred -/
def xk_fa (id : Nat) (x y : Int) (es : List Int) (cst : Nat) : Prop := match id with
  | 1 => x + y ≤ cst
  | 2 => x ≤ xf_cnt y.toNat 9
  | 3 => x.toNat &&& y.toNat = 0
  | 4 => x + 1 ≤ xf_cnt y.toNat 9
  | 5 => y.toNat.testBit x.toNat = false
  | 6 => ∃ k n c : Nat, es = [(c : Int), (n : Int), (k : Int)] ∧ x = 100 ^ (xf_cnt y.toNat c * n + k) ∧ xf_cnt y.toNat 9 * n ≤ 9 ∧ k ≤ n ∧ (k = 0 ∨ y.toNat.testBit c = true)
  | 8 => (cst : Int) ≤ x + y
  | 9 => xf_cnt x.toNat 9 * y.toNat ≤ 9
  | 11 => x = xf_cnt y.toNat 9
  | 12 => ∃ k : Int, ∃ n c : Nat, es = [(c : Int), (n : Int), k] ∧ x = 100 ^ (xf_cnt y.toNat c * n) ∧ xf_cnt y.toNat 9 * n ≤ 9
  | 13 => y.toNat.testBit x.toNat = true
  | 14 => ∃ k n c : Nat, es = [(c : Int), (n : Int), (k : Int)] ∧ x = 100 ^ (xf_cnt y.toNat c * n + k + 1) ∧ xf_cnt y.toNat 9 * n ≤ 9 ∧ k + 1 ≤ n ∧ y.toNat.testBit c = true
  | 15 => ∀ i : Nat, i < cst → x.toNat.testBit i = false
  | 16 => x + es.getD 0 0 = y
  | 17 => x = y + es.getD 0 0
  | _ => False
def xk_big : Int := 1000000000000000000000000000000
/-- a fact's name, its further numbers, its constant -/
def xk_dec (k : Int) : Nat × List Nat × Nat := ((k - xk_big).toNat % 100, [(k - xk_big).toNat / 100 % 1000, (k - xk_big).toNat / 100000 % 1000, (k - xk_big).toNat / 100000000 % 1000], (k - xk_big).toNat / 100000000000)
def xk_rel (env : List Int) (r : xk_R) : Prop := (∀ x y : Int, env[r.1]? = some x → env[r.2.1]? = some y → x ≤ y + r.2.2) ∧ (xk_big ≤ r.2.2 → (∀ i ∈ (xk_dec r.2.2).2.1, i < env.length) ∧ xk_fa (xk_dec r.2.2).1 (env.getD r.1 0) (env.getD r.2.1 0) ((xk_dec r.2.2).2.1.map (fun i => env.getD i 0)) (xk_dec r.2.2).2.2)
def xk_ok (env : List Int) (iv : xk_N) : Prop := env.length = iv.1.length ∧ (∀ (i : Nat) (n : Int) (q : xk_I), env[i]? = some n → iv.1[i]? = some q → q.1 ≤ n ∧ n ≤ q.2) ∧ ∀ r ∈ iv.2, r.1 < env.length ∧ r.2.1 < env.length ∧ xk_rel env r
theorem xk_iv_ok {env : List Int} {iv : xk_N} {av : xk_V} {n : Int} (h : xk_ok env iv) (hn : xk_n env av n) : (xk_iv iv av).1 ≤ n ∧ n ≤ (xk_iv iv av).2 := by
  unfold xk_n at hn
  unfold xk_iv
  by_cases hc : xk_isC av = true
  · rw [if_pos hc] at hn ⊢
    subst hn
    exact ⟨Int.le_refl _, Int.le_refl _⟩
  · rw [if_neg hc] at hn ⊢
    have hl : av.2.toNat < iv.1.length := by rw [← h.1]; exact (List.getElem?_eq_some_iff.mp hn).1
    have hq : iv.1[av.2.toNat]? = some iv.1[av.2.toNat] := List.getElem?_eq_getElem hl
    rw [hq]
    exact h.2.1 _ _ _ hn hq
theorem xk_getD_app {env e2 : List Int} {i : Nat} (h : i < env.length) : (env ++ e2).getD i 0 = env.getD i 0 := by
  rw [List.getD_eq_getElem?_getD, List.getD_eq_getElem?_getD, List.getElem?_append_left h]
theorem xk_rel_app {env e2 : List Int} {r : xk_R} (h1 : r.1 < env.length) (h2 : r.2.1 < env.length) (h : xk_rel env r) : xk_rel (env ++ e2) r := by
  refine ⟨fun x y hx hy => ?_, fun hb => ?_⟩
  · rw [List.getElem?_append_left h1] at hx
    rw [List.getElem?_append_left h2] at hy
    exact h.1 x y hx hy
  · obtain ⟨g1, g2⟩ := h.2 hb
    refine ⟨fun i hi => by rw [List.length_append]; exact Nat.lt_of_lt_of_le (g1 i hi) (Nat.le_add_right _ _), ?_⟩
    rw [xk_getD_app h1, xk_getD_app h2, List.map_congr_left (fun i hi => xk_getD_app (g1 i hi))]
    exact g2
theorem xk_ok_app {env : List Int} {iv : xk_N} {n : Int} {q : xk_I} (h : xk_ok env iv) (h1 : q.1 ≤ n) (h2 : n ≤ q.2) : xk_ok (env ++ [n]) (iv.1 ++ [q], iv.2) := by
  refine ⟨by simp [h.1], fun i m p hm hp => ?_, fun r hr => ?_⟩
  · rcases Nat.lt_or_ge i env.length with hi | hi
    · rw [List.getElem?_append_left hi] at hm
      rw [List.getElem?_append_left (by rw [← h.1]; exact hi)] at hp
      exact h.2.1 i m p hm hp
    · rw [List.getElem?_append_right hi] at hm
      rw [List.getElem?_append_right (by rw [← h.1]; exact hi)] at hp
      rw [h.1] at hm
      cases hk : i - iv.1.length with
      | zero =>
        rw [hk] at hm hp
        simp at hm hp
        subst hm; subst hp
        exact ⟨h1, h2⟩
      | succ k =>
        rw [hk] at hm
        simp at hm
  · obtain ⟨a, c, d⟩ := h.2.2 r hr
    exact ⟨by rw [List.length_append]; omega, by rw [List.length_append]; omega, xk_rel_app a c d⟩
theorem xk_ok_set {env : List Int} {iv : xk_N} {i : Nat} {n : Int} {q : xk_I} (h : xk_ok env iv) (hn : env[i]? = some n) (h1 : q.1 ≤ n) (h2 : n ≤ q.2) : xk_ok env (iv.1.set i q, iv.2) := by
  refine ⟨by simp [h.1], fun j m p hm hp => ?_, h.2.2⟩
  by_cases hj : i = j
  · subst hj
    have hl : i < iv.1.length := by rw [← h.1]; exact (List.getElem?_eq_some_iff.mp hn).1
    have hp2 : (iv.1.set i q)[i]? = some p := hp
    rw [List.getElem?_set_self hl] at hp2
    rw [hn] at hm
    cases hm; cases hp2
    exact ⟨h1, h2⟩
  · have hp2 : (iv.1.set i q)[j]? = some p := hp
    rw [List.getElem?_set_ne hj] at hp2
    exact h.2.1 j m p hm hp2
/-- a new number with its bounds: a constant where they are one -/
def xk_new (t : Nat) (iv : xk_N) (I : xk_I) : xk_N × xk_V := if I.1 = I.2 then (iv, (t + 5, I.1)) else ((iv.1 ++ [I], iv.2), (t, (iv.1.length : Int)))
theorem xk_new_I {b : xk_b} {env : List Int} {ad : List Nat} {iv : xk_N} {I : xk_I} {x : Int32} (h : xk_ok env iv) (h1 : I.1 ≤ x.toInt) (h2 : x.toInt ≤ I.2) : ∃ e2 : List Int, xk_ok (env ++ e2) (xk_new 0 iv I).1 ∧ xk_v b (env ++ e2) ad (xk_new 0 iv I).2 (.int x) := by
  unfold xk_new
  by_cases hI : I.1 = I.2
  · rw [if_pos hI]
    exact ⟨[], by rw [List.append_nil]; exact h, x, rfl, by show x.toInt = I.1; omega⟩
  · rw [if_neg hI]
    refine ⟨[x.toInt], xk_ok_app h h1 h2, x, rfl, ?_⟩
    show (env ++ [x.toInt])[(iv.1.length : Int).toNat]? = some x.toInt
    rw [← h.1]
    simp
theorem xk_new_L {b : xk_b} {env : List Int} {ad : List Nat} {iv : xk_N} {I : xk_I} {x : Int64} (h : xk_ok env iv) (h1 : I.1 ≤ x.toInt) (h2 : x.toInt ≤ I.2) : ∃ e2 : List Int, xk_ok (env ++ e2) (xk_new 1 iv I).1 ∧ xk_v b (env ++ e2) ad (xk_new 1 iv I).2 (.long x) := by
  unfold xk_new
  by_cases hI : I.1 = I.2
  · rw [if_pos hI]
    exact ⟨[], by rw [List.append_nil]; exact h, x, rfl, by show x.toInt = I.1; omega⟩
  · rw [if_neg hI]
    refine ⟨[x.toInt], xk_ok_app h h1 h2, x, rfl, ?_⟩
    show (env ++ [x.toInt])[(iv.1.length : Int).toNat]? = some x.toInt
    rw [← h.1]
    simp
def xk_set (iv : xk_N) (av : xk_V) (I : xk_I) : Option xk_N := if I.2 < I.1 then none else if xk_isC av then some iv else some (iv.1.set av.2.toNat I, iv.2)
theorem xk_set_ok {env : List Int} {iv : xk_N} {av : xk_V} {I : xk_I} {n : Int} (h : xk_ok env iv) (hn : xk_n env av n) (h1 : I.1 ≤ n) (h2 : n ≤ I.2) : ∃ iv', xk_set iv av I = some iv' ∧ xk_ok env iv' := by
  unfold xk_set
  rw [if_neg (by omega)]
  unfold xk_n at hn
  by_cases hc : xk_isC av = true
  · rw [if_pos hc]
    exact ⟨iv, rfl, h⟩
  · rw [if_neg hc] at hn ⊢
    exact ⟨_, rfl, xk_ok_set h hn h1 h2⟩
/-- a relation a ≤ c + k: against the known ones, then beside them -/
def xk_adr (iv : xk_N) (a c : xk_V) (k : Int) : Option xk_N := if xk_isC a || xk_isC c then some iv else if xk_big ≤ k then some iv else if (Nat.beq a.2.toNat c.2.toNat && decide (k < 0)) || iv.2.any (fun r => Nat.beq r.1 c.2.toNat && (Nat.beq r.2.1 a.2.toNat && decide (r.2.2 + k < 0))) then none else if iv.2.any (fun r => Nat.beq r.1 a.2.toNat && (Nat.beq r.2.1 c.2.toNat && decide (r.2.2 ≤ k))) then some iv else some (iv.1, (a.2.toNat, c.2.toNat, k) :: iv.2)
theorem xk_adr_ok {env : List Int} {iv : xk_N} {a c : xk_V} {k x y : Int} (h : xk_ok env iv) (hx : xk_n env a x) (hy : xk_n env c y) (hk : x ≤ y + k) : ∃ iv', xk_adr iv a c k = some iv' ∧ xk_ok env iv' := by
  unfold xk_adr
  by_cases hc : (xk_isC a || xk_isC c) = true
  · rw [if_pos hc]; exact ⟨iv, rfl, h⟩
  · rw [if_neg hc]
    rw [Bool.or_eq_true] at hc
    by_cases hbk : xk_big ≤ k
    · rw [if_pos hbk]; exact ⟨iv, rfl, h⟩
    rw [if_neg hbk]
    have ha : ¬ xk_isC a = true := fun q => hc (Or.inl q)
    have hcc : ¬ xk_isC c = true := fun q => hc (Or.inr q)
    unfold xk_n at hx hy
    rw [if_neg ha] at hx
    rw [if_neg hcc] at hy
    have hno : ¬ ((Nat.beq a.2.toNat c.2.toNat && decide (k < 0)) || iv.2.any (fun r => Nat.beq r.1 c.2.toNat && (Nat.beq r.2.1 a.2.toNat && decide (r.2.2 + k < 0)))) = true := by
      intro hz
      rw [Bool.or_eq_true] at hz
      rcases hz with hz | hz
      · rw [Bool.and_eq_true, decide_eq_true_eq] at hz
        have q1 := Nat.eq_of_beq_eq_true hz.1
        rw [q1, hy] at hx
        cases hx
        omega
      obtain ⟨r, hr, hq⟩ := List.any_eq_true.mp hz
      simp only [Bool.and_eq_true, decide_eq_true_eq] at hq
      obtain ⟨q1, q2, q3⟩ := hq
      have q1 := Nat.eq_of_beq_eq_true q1
      have q2 := Nat.eq_of_beq_eq_true q2
      have h3 := (h.2.2 r hr).2.2.1 y x (by rw [q1]; exact hy) (by rw [q2]; exact hx)
      omega
    rw [if_neg hno]
    split
    · exact ⟨iv, rfl, h⟩
    refine ⟨_, rfl, h.1, h.2.1, fun r hr => ?_⟩
    rcases List.mem_cons.mp hr with rfl | hr
    · refine ⟨(List.getElem?_eq_some_iff.mp hx).1, (List.getElem?_eq_some_iff.mp hy).1, fun u v hu hv => ?_, fun z => absurd z hbk⟩
      have e1 : env[a.2.toNat]? = some u := hu
      have e2 : env[c.2.toNat]? = some v := hv
      rw [hx] at e1
      rw [hy] at e2
      cases e1; cases e2
      exact hk
    · exact h.2.2 r hr
/-- what is known behind a ≤ c + k -/
def xk_le (iv : xk_N) (a c : xk_V) (k : Int) : Option xk_N := match xk_set iv a ((xk_iv iv a).1, min (xk_iv iv a).2 ((xk_iv iv c).2 + k)) with
  | none => none
  | some iv1 => match xk_set iv1 c (max (xk_iv iv1 c).1 ((xk_iv iv1 a).1 - k), (xk_iv iv1 c).2) with
    | none => none
    | some iv2 => xk_adr iv2 a c k
theorem xk_le_ok {env : List Int} {iv : xk_N} {a c : xk_V} {k x y : Int} (h : xk_ok env iv) (hx : xk_n env a x) (hy : xk_n env c y) (hk : x ≤ y + k) : ∃ iv', xk_le iv a c k = some iv' ∧ xk_ok env iv' := by
  have ha := xk_iv_ok h hx
  have hc := xk_iv_ok h hy
  obtain ⟨iv1, e1, h1⟩ := xk_set_ok (I := ((xk_iv iv a).1, min (xk_iv iv a).2 ((xk_iv iv c).2 + k))) h hx ha.1 (by show x ≤ min _ _; omega)
  have ha1 := xk_iv_ok h1 hx
  have hc1 := xk_iv_ok h1 hy
  obtain ⟨iv2, e2, h2⟩ := xk_set_ok (I := (max (xk_iv iv1 c).1 ((xk_iv iv1 a).1 - k), (xk_iv iv1 c).2)) h1 hy (by show max _ _ ≤ y; omega) hc1.2
  obtain ⟨iv3, e3, h3⟩ := xk_adr_ok h2 hx hy hk
  exact ⟨iv3, by unfold xk_le; rw [e1]; dsimp only; rw [e2]; exact e3, h3⟩
/-- does a ≤ c + k follow: by bounds, by one relation and the rest -/
def xk_ent : Nat → xk_N → xk_V → xk_V → Int → Bool
  | f, iv, a, c, k => decide ((xk_iv iv a).2 ≤ (xk_iv iv c).1 + k) || ((!xk_isC a && (!xk_isC c && (Nat.beq a.2.toNat c.2.toNat && decide (0 ≤ k)))) || (!xk_isC a && (match f with
    | 0 => false
    | f + 1 => iv.2.any (fun r => Nat.beq r.1 a.2.toNat && xk_ent f iv (0, (r.2.1 : Int)) c (k - r.2.2)))))
theorem xk_ent_ok {env : List Int} {iv : xk_N} (h : xk_ok env iv) : ∀ (f : Nat) {a c : xk_V} {k x y : Int}, xk_n env a x → xk_n env c y → xk_ent f iv a c k = true → x ≤ y + k
  | f, a, c, k, x, y, hx, hy, he => by
    unfold xk_ent at he
    simp only [Bool.or_eq_true, Bool.and_eq_true, decide_eq_true_eq] at he
    rcases he with h1 | ⟨h1, h2, h3, h4⟩ | ⟨h1, h2⟩
    · have ha := xk_iv_ok h hx
      have hc := xk_iv_ok h hy
      omega
    · unfold xk_n at hx hy
      rw [if_neg (by simpa using h1)] at hx
      rw [if_neg (by simpa using h2)] at hy
      rw [Nat.eq_of_beq_eq_true h3, hy] at hx
      cases hx
      omega
    · cases f with
      | zero => cases h2
      | succ f =>
        obtain ⟨r, hr, hq⟩ := List.any_eq_true.mp h2
        rw [Bool.and_eq_true] at hq
        have q1 := Nat.eq_of_beq_eq_true hq.1
        obtain ⟨l1, l2, hrel⟩ := h.2.2 r hr
        have hm : env[r.2.1]? = some env[r.2.1] := List.getElem?_eq_getElem l2
        have hn : xk_n env (0, (r.2.1 : Int)) env[r.2.1] := by
          show env[((r.2.1 : Nat) : Int).toNat]? = some env[r.2.1]
          rw [Int.toNat_natCast]
          exact hm
        have h5 := xk_ent_ok h f hn hy hq.2
        unfold xk_n at hx
        rw [if_neg (by simpa using h1)] at hx
        have h6 := hrel.1 x env[r.2.1] (by rw [q1]; exact hx) hm
        omega

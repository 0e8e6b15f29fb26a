/-! THE CHECKER, its words: bounds of numbers, places of references -/
abbrev ck_V : Type := (Int × Int) ⊕ ((Bool × List Nat) ⊕ Unit)
abbrev ck_L : Type := List (Nat × ck_V)
abbrev ck_T : Type := List (Nat × (Int × Int) × Bool)
abbrev ck_S : Type := Nat × ck_L × List ck_V × ck_T
abbrev ck_O : Type := (Option ck_V ⊕ String) × ck_T
def ck_top : Int × Int := (-2147483648, 2147483647)
def ck_in (q : Int × Int) (x : Int32) : Prop := q.1 ≤ x.toInt ∧ x.toInt ≤ q.2
def ck_fit (q : Int × Int) : Int × Int := if -2147483648 ≤ q.1 ∧ q.2 ≤ 2147483647 then q else ck_top
def ck_add (x y : Int × Int) : Int × Int := ck_fit (x.1 + y.1, x.2 + y.2)
def ck_sub (x y : Int × Int) : Int × Int := ck_fit (x.1 - y.2, x.2 - y.1)
def ck_mul (x y : Int × Int) : Int × Int := if 0 ≤ x.1 ∧ 0 ≤ y.1 then ck_fit (x.1 * y.1, x.2 * y.2) else ck_top
def ck_rem (x y : Int × Int) : Int × Int := if 0 ≤ x.1 ∧ 0 < y.1 then (0, y.2 - 1) else ck_top
theorem ck_in_top (x : Int32) : ck_in ck_top x := ⟨Int32.le_toInt x, Int.le_of_lt_add_one (Int32.toInt_lt x)⟩
theorem ck_bm {z : Int} (h1 : -2147483648 ≤ z) (h2 : z ≤ 2147483647) : z.bmod (2 ^ 32) = z := by
  simp only [Int.bmod]
  split <;> omega
theorem ck_fit_ok {q : Int × Int} {z : Int} {x : Int32} (h1 : q.1 ≤ z) (h2 : z ≤ q.2) (hx : x.toInt = z.bmod (2 ^ 32)) : ck_in (ck_fit q) x := by
  unfold ck_fit
  split
  · rename_i h
    rw [ck_bm (by omega) (by omega)] at hx
    exact ⟨by omega, by omega⟩
  · exact ck_in_top x
theorem ck_add_ok {a b : Int × Int} {x y : Int32} (hx : ck_in a x) (hy : ck_in b y) : ck_in (ck_add a b) (x + y) := by
  obtain ⟨h1, h2⟩ := hx
  obtain ⟨h3, h4⟩ := hy
  exact ck_fit_ok (z := x.toInt + y.toInt) (by show a.1 + b.1 ≤ _; omega) (by show _ ≤ a.2 + b.2; omega) (Int32.toInt_add x y)
theorem ck_sub_ok {a b : Int × Int} {x y : Int32} (hx : ck_in a x) (hy : ck_in b y) : ck_in (ck_sub a b) (x - y) := by
  obtain ⟨h1, h2⟩ := hx
  obtain ⟨h3, h4⟩ := hy
  exact ck_fit_ok (z := x.toInt - y.toInt) (by show a.1 - b.2 ≤ _; omega) (by show _ ≤ a.2 - b.1; omega) (Int32.toInt_sub x y)
theorem ck_mul_ok {a b : Int × Int} {x y : Int32} (hx : ck_in a x) (hy : ck_in b y) : ck_in (ck_mul a b) (x * y) := by
  unfold ck_mul
  split
  · rename_i h
    obtain ⟨h1, h2⟩ := hx
    obtain ⟨h3, h4⟩ := hy
    exact ck_fit_ok (z := x.toInt * y.toInt) (Int.mul_le_mul h1 h3 h.2 (by omega)) (Int.mul_le_mul h2 h4 (by omega) (by omega)) (Int32.toInt_mul x y)
  · exact ck_in_top _
theorem ck_nat {x : Int32} (h : 0 ≤ x.toInt) : ∃ n : Nat, n < 2 ^ 31 ∧ x = nI n :=
  nI_of (fun h1 => by rw [Int32.lt_iff_toInt_lt] at h1; have h2 : (0 : Int32).toInt = 0 := rfl; omega)
theorem ck_rem_ok {a b : Int × Int} {x y : Int32} (hx : ck_in a x) (hy : ck_in b y) : ck_in (ck_rem a b) (x - x / y * y) := by
  unfold ck_rem
  split
  · rename_i h
    obtain ⟨h1, h2⟩ := hx
    obtain ⟨h3, h4⟩ := hy
    obtain ⟨n, hn, rfl⟩ := ck_nat (x := x) (by omega)
    obtain ⟨d, hd, rfl⟩ := ck_nat (x := y) (by omega)
    rw [nI_toInt hd] at h3 h4
    have h0 : 0 < d := by omega
    rw [pk_rem hn h0 hd]
    have hlt := Nat.mod_lt n h0
    refine ⟨?_, ?_⟩
    · rw [nI_toInt (by omega)]; exact Int.natCast_nonneg _
    · rw [nI_toInt (by omega)]; show ((n % d : Nat) : Int) ≤ b.2 - 1; omega
  · exact ck_in_top _
/-- the numbers' operations, by number -/
def ck_bo (k : Nat) (x y : Int32) : Int32 := match k with
  | 0 => x + y
  | 1 => x - y
  | 2 => x * y
  | 3 => x &&& y
  | 4 => x ||| y
  | 5 => x ^^^ y
  | 6 => x <<< (y &&& 31)
  | _ => x >>> (y &&& 31)
def ck_ba (k : Nat) (x y : Int × Int) : Int × Int := match k with
  | 0 => ck_add x y
  | 1 => ck_sub x y
  | 2 => ck_mul x y
  | n => if x.1 = x.2 ∧ y.1 = y.2 then ((ck_bo n (Int32.ofInt x.1) (Int32.ofInt y.1)).toInt, (ck_bo n (Int32.ofInt x.1) (Int32.ofInt y.1)).toInt) else ck_top
theorem ck_ofI {a : Int × Int} {x : Int32} (hx : ck_in a x) (h : a.1 = a.2) : Int32.ofInt a.1 = x := by
  obtain ⟨h1, h2⟩ := hx
  have h3 : a.1 = x.toInt := by omega
  rw [h3, Int32.ofInt_toInt]
theorem ck_ba_ok {k : Nat} {a b : Int × Int} {x y : Int32} (hx : ck_in a x) (hy : ck_in b y) : ck_in (ck_ba k a b) (ck_bo k x y) := by
  match k with
  | 0 => exact ck_add_ok hx hy
  | 1 => exact ck_sub_ok hx hy
  | 2 => exact ck_mul_ok hx hy
  | n + 3 =>
    show ck_in (if a.1 = a.2 ∧ b.1 = b.2 then ((ck_bo (n + 3) (Int32.ofInt a.1) (Int32.ofInt b.1)).toInt, (ck_bo (n + 3) (Int32.ofInt a.1) (Int32.ofInt b.1)).toInt) else ck_top) _
    split
    · rename_i h
      rw [ck_ofI hx h.1, ck_ofI hy h.2]
      exact ⟨Int.le_refl _, Int.le_refl _⟩
    · exact ck_in_top _
/-- comparisons, by number: =, ≠, <, ≥, >, ≤ -/
def ck_ho (k : Nat) (x y : Int32) : Prop := match k with
  | 0 => x = y
  | 1 => ¬ x = y
  | 2 => x < y
  | 3 => y ≤ x
  | 4 => y < x
  | _ => x ≤ y
def ck_neg (k : Nat) : Nat := match k with
  | 0 => 1
  | 1 => 0
  | 2 => 3
  | 3 => 2
  | 4 => 5
  | _ => 4
theorem ck_neg_ok {k : Nat} {x y : Int32} (h : ¬ ck_ho k x y) : ck_ho (ck_neg k) x y := by
  match k with
  | 0 => exact h
  | 1 => exact Classical.not_not.mp h
  | 2 => exact Int32.not_lt.mp h
  | 3 => exact Int32.not_le.mp h
  | 4 => exact Int32.not_lt.mp h
  | n + 5 => exact Int32.not_le.mp h
/-- the bounds of x where it stands so to y; none: it can't -/
def ck_rf (k : Nat) (x y : Int × Int) : Option (Int × Int) := match k with
  | 0 => if max x.1 y.1 ≤ min x.2 y.2 then some (max x.1 y.1, min x.2 y.2) else none
  | 1 => if y.1 = y.2 then (if x.1 = y.1 then (if x.1 + 1 ≤ x.2 then some (x.1 + 1, x.2) else none) else if x.2 = y.1 then (if x.1 ≤ x.2 - 1 then some (x.1, x.2 - 1) else none) else some x) else some x
  | 2 => if x.1 < y.2 then some (x.1, min x.2 (y.2 - 1)) else none
  | 3 => if y.1 ≤ x.2 then some (max x.1 y.1, x.2) else none
  | 4 => if y.1 < x.2 then some (max x.1 (y.1 + 1), x.2) else none
  | _ => if x.1 ≤ y.2 then some (x.1, min x.2 y.2) else none
theorem ck_rf_ok {k : Nat} {a b : Int × Int} {x y : Int32} (hx : ck_in a x) (hy : ck_in b y) (h : ck_ho k x y) : ∃ r, ck_rf k a b = some r ∧ ck_in r x := by
  obtain ⟨h1, h2⟩ := hx
  obtain ⟨h3, h4⟩ := hy
  unfold ck_in
  match k, h with
  | 0, h =>
    have h : x = y := h
    subst h
    exact ⟨(max a.1 b.1, min a.2 b.2), by unfold ck_rf; exact if_pos (by omega), by show max a.1 b.1 ≤ _ ∧ _ ≤ min a.2 b.2; omega⟩
  | 1, h =>
    have h : ¬ x.toInt = y.toInt := fun q => h (Int32.toInt_inj.mp q)
    show ∃ r, (if b.1 = b.2 then (if a.1 = b.1 then (if a.1 + 1 ≤ a.2 then some (a.1 + 1, a.2) else none) else if a.2 = b.1 then (if a.1 ≤ a.2 - 1 then some (a.1, a.2 - 1) else none) else some a) else some a) = some r ∧ _
    split
    · split
      · split
        · exact ⟨_, rfl, by show a.1 + 1 ≤ _; omega, h2⟩
        · omega
      · split
        · split
          · exact ⟨_, rfl, h1, by show _ ≤ a.2 - 1; omega⟩
          · omega
        · exact ⟨_, rfl, h1, h2⟩
    · exact ⟨_, rfl, h1, h2⟩
  | 2, h =>
    have h : x.toInt < y.toInt := Int32.lt_iff_toInt_lt.mp h
    exact ⟨(a.1, min a.2 (b.2 - 1)), by unfold ck_rf; exact if_pos (by omega), h1, by show _ ≤ min a.2 (b.2 - 1); omega⟩
  | 3, h =>
    have h : y.toInt ≤ x.toInt := Int32.le_iff_toInt_le.mp h
    exact ⟨(max a.1 b.1, a.2), by unfold ck_rf; exact if_pos (by omega), by show max a.1 b.1 ≤ _; omega, h2⟩
  | 4, h =>
    have h : y.toInt < x.toInt := Int32.lt_iff_toInt_lt.mp h
    exact ⟨(max a.1 (b.1 + 1), a.2), by unfold ck_rf; exact if_pos (by omega), by show max a.1 (b.1 + 1) ≤ _; omega, h2⟩
  | n + 5, h =>
    have h : x.toInt ≤ y.toInt := Int32.le_iff_toInt_le.mp h
    exact ⟨(a.1, min a.2 b.2), by unfold ck_rf; exact if_pos (by omega), h1, by show _ ≤ min a.2 b.2; omega⟩
/-- what an abstract value says of a value; of locals; of a stack -/
def ck_g (h : Nat → Nat) (a : ck_V) (v : Value) : Prop := match a with
  | .inl q => ∃ x : Int32, v = .int x ∧ ck_in q x
  | .inr (.inl q) => (q.1 = true ∧ v = .null) ∨ ∃ k ∈ q.2, v = .ref (h k)
  | .inr (.inr _) => ∃ x : Int64, v = .long x
def ck_gL (h : Nat → Nat) (ls : Array Slot) (nL : Nat) (als : ck_L) : Prop := ∃ lv, lv_has ls nL lv ∧ ∀ q ∈ als, ∃ v, (q.1, v) ∈ lv ∧ v.category = 1 ∧ ck_g h q.2 v
def ck_gS (h : Nat → Nat) : List ck_V → List Value → Prop
  | [], [] => True
  | a :: r, v :: t => ck_g h a v ∧ ck_gS h r t
  | _, _ => False
def ck_gT (f0 f : zz_F) (tk : ck_T) : Prop := ∀ q ∈ tk, ck_in q.2.1 (f q.1) ∧ (q.2.2 = false → f q.1 = f0 q.1)
def ck_gI (fb : Nat → Int × Int) (gb : Nat → Nat → Int × Int) (f : zz_F) (g : zz_G) : Prop := (∀ k, ck_in (fb k) (f k)) ∧ ∀ j i, ck_in (gb j i) (g j i)
def ck_at (i : Nat) : ck_L → Option ck_V
  | [] => none
  | q :: r => if q.1 = i then some q.2 else ck_at i r
theorem ck_at_in {i : Nat} {a : ck_V} : ∀ {als : ck_L}, ck_at i als = some a → (i, a) ∈ als
  | [], h => by cases h
  | q :: r, h => by
    unfold ck_at at h
    split at h
    · rename_i e; subst e; cases h; exact List.mem_cons_self
    · exact List.mem_cons_of_mem _ (ck_at_in h)
def ck_set (i : Nat) (a : ck_V) (als : ck_L) : ck_L := (i, a) :: als.filter (fun q => !(q.1 == i))
def ck_one (a : ck_V) : Bool := match a with
  | .inr (.inr _) => false
  | _ => true
theorem ck_cat {h : Nat → Nat} {a : ck_V} {v : Value} (h1 : ck_one a = true) (hg : ck_g h a v) : v.category = 1 := by
  match a, h1, hg with
  | .inl q, _, hg => obtain ⟨x, rfl, -⟩ := hg; rfl
  | .inr (.inl q), _, hg =>
    rcases hg with ⟨-, rfl⟩ | ⟨k, -, rfl⟩ <;> rfl
theorem ck_gL_at {h : Nat → Nat} {ls : Array Slot} {nL i : Nat} {als : ck_L} {a : ck_V} (hL : ck_gL h ls nL als) (ha : ck_at i als = some a) : ∃ v, ls[i]? = some (.val v) ∧ v.category = 1 ∧ ck_g h a v := by
  obtain ⟨lv, hl, hq⟩ := hL
  obtain ⟨v, h1, h2, h3⟩ := hq _ (ck_at_in ha)
  exact ⟨v, hl.2.2 _ h1, h2, h3⟩
theorem ck_gL_set {h : Nat → Nat} {ls' : Array Slot} {nL i : Nat} {als : ck_L} {lv : List (Nat × Value)} {a : ck_V} {v : Value} (hq : ∀ q ∈ als, ∃ v, (q.1, v) ∈ lv ∧ v.category = 1 ∧ ck_g h q.2 v) (hc : v.category = 1) (hg : ck_g h a v)
    (hl : lv_has ls' nL ((i, v) :: lv.filter (fun q => !(q.1 == i) && !(q.1 + 1 == i && q.2.category == 2)))) : ck_gL h ls' nL (ck_set i a als) := by
  refine ⟨_, hl, fun q hm => ?_⟩
  rcases List.mem_cons.mp hm with rfl | hm
  · exact ⟨v, List.mem_cons_self, hc, hg⟩
  · obtain ⟨h1, h2⟩ := List.mem_filter.mp hm
    obtain ⟨u, h3, h4, h5⟩ := hq q h1
    refine ⟨u, List.mem_cons_of_mem _ (List.mem_filter.mpr ⟨h3, ?_⟩), h4, h5⟩
    simp only [h4, h2, Bool.true_and]
    simp
/-- less known -/
def ck_le (a b : ck_V) : Bool := match a, b with
  | .inl q, .inl r => decide (r.1 ≤ q.1) && decide (q.2 ≤ r.2)
  | .inr (.inl q), .inr (.inl r) => (!q.1 || r.1) && q.2.all (fun k => r.2.contains k)
  | .inr (.inr _), .inr (.inr _) => true
  | _, _ => false
theorem ck_le_ok {h : Nat → Nat} {a b : ck_V} {v : Value} (hl : ck_le a b = true) (hg : ck_g h a v) : ck_g h b v := by
  match a, b, hl, hg with
  | .inl q, .inl r, hl, hg =>
    simp only [ck_le, Bool.and_eq_true, decide_eq_true_eq] at hl
    obtain ⟨x, rfl, h1, h2⟩ := hg
    exact ⟨x, rfl, by omega, by omega⟩
  | .inr (.inl q), .inr (.inl r), hl, hg =>
    simp only [ck_le, Bool.and_eq_true, Bool.or_eq_true, Bool.not_eq_true', List.all_eq_true, List.contains_iff_mem] at hl
    rcases hg with ⟨h1, rfl⟩ | ⟨k, hk, rfl⟩
    · rcases hl.1 with h2 | h2
      · rw [h1] at h2; cases h2
      · exact Or.inl ⟨h2, rfl⟩
    · exact Or.inr ⟨k, hl.2 k hk, rfl⟩
  | .inr (.inr _), .inr (.inr _), _, hg => exact hg
def ck_leL (als bls : ck_L) : Bool := bls.all (fun q => match ck_at q.1 als with
  | some a => ck_le a q.2
  | none => false)
theorem ck_leL_ok {h : Nat → Nat} {ls : Array Slot} {nL : Nat} {als bls : ck_L} (hl : ck_leL als bls = true) (hL : ck_gL h ls nL als) : ck_gL h ls nL bls := by
  obtain ⟨lv, h1, h2⟩ := hL
  refine ⟨lv, h1, fun q hq => ?_⟩
  have h3 := List.all_eq_true.mp hl q hq
  cases ha : ck_at q.1 als with
  | none => rw [ha] at h3; cases h3
  | some a =>
    rw [ha] at h3
    obtain ⟨v, h4, h5, h6⟩ := h2 _ (ck_at_in ha)
    exact ⟨v, h4, h5, ck_le_ok h3 h6⟩
def ck_leT (tk cut : ck_T) : Bool := cut.all (fun q => tk.any (fun r => r.1 == q.1 && decide (q.2.1.1 ≤ r.2.1.1) && decide (r.2.1.2 ≤ q.2.1.2) && (!r.2.2 || q.2.2)))
theorem ck_leT_ok {f0 f : zz_F} {tk cut : ck_T} (hl : ck_leT tk cut = true) (hT : ck_gT f0 f tk) : ck_gT f0 f cut := by
  intro q hq
  have h3 := List.all_eq_true.mp hl q hq
  obtain ⟨r, hr, h4⟩ := List.any_eq_true.mp h3
  simp only [Bool.and_eq_true, beq_iff_eq, decide_eq_true_eq, Bool.or_eq_true, Bool.not_eq_true'] at h4
  obtain ⟨⟨⟨e, h5⟩, h6⟩, h7⟩ := h4
  obtain ⟨⟨h8, h9⟩, h10⟩ := hT r hr
  rw [e] at h8 h9 h10
  refine ⟨⟨by omega, by omega⟩, fun h => h10 ?_⟩
  rcases h7 with h7 | h7
  · exact h7
  · rw [h] at h7; cases h7
/-- the tracked bounds of a field, or those of the whole -/
def ck_fld (fb : Nat → Int × Int) (k : Nat) : ck_T → Int × Int
  | [] => fb k
  | q :: r => if q.1 = k then q.2.1 else ck_fld fb k r
theorem ck_fld_ok {fb : Nat → Int × Int} {f0 f : zz_F} {k : Nat} (h0 : ck_in (fb k) (f k)) : ∀ {tk : ck_T}, ck_gT f0 f tk → ck_in (ck_fld fb k tk) (f k)
  | [], _ => h0
  | q :: r, hT => by
    unfold ck_fld
    split
    · rename_i e; rw [← e]; exact (hT q List.mem_cons_self).1
    · exact ck_fld_ok h0 (fun z hz => hT z (List.mem_cons_of_mem _ hz))
/-- a field gets a number -/
def ck_put (k : Nat) (b : Int × Int) (tk : ck_T) : ck_T := tk.map (fun q => if q.1 = k then (k, b, true) else q)
theorem ck_put_ok {f0 f : zz_F} {k : Nat} {b : Int × Int} {x : Int32} {tk : ck_T} (hx : ck_in b x) (hT : ck_gT f0 f tk) : ck_gT f0 (upd f k x) (ck_put k b tk) := by
  intro q hq
  obtain ⟨r, hr, rfl⟩ := List.mem_map.mp hq
  by_cases e : r.1 = k
  · rw [if_pos e]
    exact ⟨by show ck_in b (upd f k x k); rw [pk_us]; exact hx, fun h => by cases h⟩
  · rw [if_neg e, pk_un e]
    exact hT r hr
/-! THE CHECKER: one step -/
abbrev ck_P : Type := List (Nat × List (Nat × Instr × Nat))
def ck_pr (pc : Nat) : List (Nat × Instr × Nat) → Option (Instr × Nat)
  | [] => none
  | q :: r => match Nat.beq q.1 pc with
    | true => some q.2
    | false => ck_pr pc r
/-- rows by runs, each with the highest pc in it -/
def ck_pc (pc : Nat) : ck_P → Option (Instr × Nat)
  | [] => none
  | q :: r => match Nat.ble pc q.1 with
    | true => ck_pr pc q.2
    | false => ck_pc pc r
def ck_mem (P : ck_P) (a : Nat) (b : Instr × Nat) : Prop := ∃ q ∈ P, (a, b) ∈ q.2
theorem ck_pr_in {pc : Nat} {i : Instr × Nat} : ∀ {L : List (Nat × Instr × Nat)}, ck_pr pc L = some i → (pc, i) ∈ L
  | [], h => by cases h
  | q :: r, h => by
    unfold ck_pr at h
    split at h
    · rename_i e
      have e := Nat.eq_of_beq_eq_true e
      subst e; cases h; exact List.mem_cons_self
    · exact List.mem_cons_of_mem _ (ck_pr_in h)
theorem ck_pc_in {pc : Nat} {i : Instr × Nat} : ∀ {P : ck_P}, ck_pc pc P = some i → ck_mem P pc i
  | [], h => by cases h
  | q :: r, h => by
    unfold ck_pc at h
    split at h
    · exact ⟨q, List.mem_cons_self, ck_pr_in h⟩
    · obtain ⟨z, h1, h2⟩ := ck_pc_in h
      exact ⟨z, List.mem_cons_of_mem _ h1, h2⟩
def ck_li (i : Instr × Nat) : Option Nat := match i with
  | (.iload_n k, 1) => some k
  | (.iload k, 2) => some k
  | _ => none
def ck_ra (i : Instr × Nat) : Option Nat := match i with
  | (.aload_n k, 1) => some k
  | (.aload k, 2) => some k
  | _ => none
def ck_si (i : Instr × Nat) : Option Nat := match i with
  | (.istore_n k, 1) => some k
  | (.istore k, 2) => some k
  | _ => none
def ck_sa (i : Instr × Nat) : Option Nat := match i with
  | (.astore_n k, 1) => some k
  | (.astore k, 2) => some k
  | _ => none
def ck_kv (i : Instr × Nat) : Option Int32 := match i with
  | (.iconst n, 1) => some (Int32.ofInt n)
  | (.bipush n, 2) => some (Int8.ofInt n).toInt32
  | (.sipush n, 3) => some (Int16.ofInt n).toInt32
  | _ => none
def ck_b2 (i : Instr × Nat) : Option Nat := match i with
  | (.iadd, 1) => some 0
  | (.isub, 1) => some 1
  | (.imul, 1) => some 2
  | (.iand, 1) => some 3
  | (.ior, 1) => some 4
  | (.ixor, 1) => some 5
  | (.ishl, 1) => some 6
  | (.ishr, 1) => some 7
  | _ => none
def ck_c0 (i : Instr × Nat) : Option (Nat × Int) := match i with
  | (.ifCond .eq o, 3) => some (0, o)
  | (.ifCond .ne o, 3) => some (1, o)
  | (.ifCond .lt o, 3) => some (2, o)
  | (.ifCond .ge o, 3) => some (3, o)
  | (.ifCond .gt o, 3) => some (4, o)
  | (.ifCond .le o, 3) => some (5, o)
  | _ => none
def ck_cj (i : Instr × Nat) : Option (Nat × Int) := match i with
  | (.if_icmp .eq o, 3) => some (0, o)
  | (.if_icmp .ne o, 3) => some (1, o)
  | (.if_icmp .lt o, 3) => some (2, o)
  | (.if_icmp .ge o, 3) => some (3, o)
  | (.if_icmp .gt o, 3) => some (4, o)
  | (.if_icmp .le o, 3) => some (5, o)
  | _ => none
def ck_cn (i : Instr × Nat) : Option (Bool × Int) := match i with
  | (.ifnull o, 3) => some (true, o)
  | (.ifnonnull o, 3) => some (false, o)
  | _ => none
def ck_br (pc : Nat) (off : Int) (k : Nat) (x y : Int × Int) (als : ck_L) (st : List ck_V) (tk : ck_T) : Option (List ck_S) :=
  if 0 ≤ (pc : Int) + off then some ((match ck_rf k x y with | some _ => [(((pc : Int) + off).toNat, als, st, tk)] | none => []) ++ (match ck_rf (ck_neg k) x y with | some _ => [(pc + 3, als, st, tk)] | none => [])) else none
def ck_bl (pc : Nat) (off : Int) (k v : Nat) (x y : Int × Int) (als : ck_L) (st : List ck_V) (tk : ck_T) : Option (List ck_S) :=
  if 0 ≤ (pc : Int) + off then some ((match ck_rf k x y with | some r => [(((pc : Int) + off).toNat, ck_set v (.inl r) als, st, tk)] | none => []) ++ (match ck_rf (ck_neg k) x y with | some r => [(pc + 3, ck_set v (.inl r) als, st, tk)] | none => [])) else none
/-- a number's load; where a comparison of it follows, the bounds of the local too -/
def ck_lk (P : ck_P) (pc n k : Nat) (q : Int × Int) (als : ck_L) (st : List ck_V) (tk : ck_T) : Option (List ck_S) :=
  match ck_pc (pc + n) P with
  | none => none
  | some j => match ck_c0 j with
    | some o => ck_bl (pc + n) o.2 o.1 k q (0, 0) als st tk
    | none => match ck_kv j with
      | none => some [(pc + n, als, .inl q :: st, tk)]
      | some v => match ck_pc (pc + n + j.2) P with
        | none => none
        | some j2 => match ck_cj j2 with
          | none => some [(pc + n, als, .inl q :: st, tk)]
          | some o => ck_bl (pc + n + j.2) o.2 o.1 k q (v.toInt, v.toInt) als st tk
def ck_nb (pc : Nat) (o : Bool × Int) (q : Bool × List Nat) (a b : ck_L) (st : List ck_V) (tk : ck_T) : Option (List ck_S) :=
  if 0 ≤ (pc : Int) + o.2 then some ((if q.1 then [(if o.1 then ((pc : Int) + o.2).toNat else pc + 3, a, st, tk)] else []) ++ [(if o.1 then pc + 3 else ((pc : Int) + o.2).toNat, b, st, tk)]) else none
def ck_lr (P : ck_P) (pc n k : Nat) (q : Bool × List Nat) (als : ck_L) (st : List ck_V) (tk : ck_T) : Option (List ck_S) :=
  match ck_pc (pc + n) P with
  | none => none
  | some j => match ck_cn j with
    | some o => ck_nb (pc + n) o q (ck_set k (.inr (.inl (true, []))) als) (ck_set k (.inr (.inl (false, q.2))) als) st tk
    | none => some [(pc + n, als, .inr (.inl q) :: st, tk)]
/-- bounds over a stretch of an array -/
def ck_hl (gb : Nat → Nat → Int × Int) (j : Nat) : Nat → Nat → Int × Int
  | a, 0 => gb j a
  | a, n + 1 => (min (gb j a).1 (ck_hl gb j (a + 1) n).1, max (gb j a).2 (ck_hl gb j (a + 1) n).2)
theorem ck_hl_ok {gb : Nat → Nat → Int × Int} {j : Nat} {x : Int32} : ∀ {n a i : Nat}, a ≤ i → i ≤ a + n → ck_in (gb j i) x → ck_in (ck_hl gb j a n) x
  | 0, a, i, h1, h2, h => by
    have e : i = a := by omega
    subst e; exact h
  | n + 1, a, i, h1, h2, h => by
    by_cases e : i = a
    · subst e
      exact ⟨Int.le_trans (Int.min_le_left _ _) h.1, Int.le_trans h.2 (Int.le_max_left _ _)⟩
    · have h3 := ck_hl_ok (n := n) (a := a + 1) (i := i) (by omega) (by omega) h
      exact ⟨Int.le_trans (Int.min_le_right _ _) h3.1, Int.le_trans h3.2 (Int.le_max_right _ _)⟩
def ck_sb (gb : Nat → Nat → Int × Int) (j : Nat) (v : Int × Int) : Nat → Nat → Bool
  | a, 0 => decide ((gb j a).1 ≤ v.1) && decide (v.2 ≤ (gb j a).2)
  | a, n + 1 => decide ((gb j a).1 ≤ v.1) && decide (v.2 ≤ (gb j a).2) && ck_sb gb j v (a + 1) n
theorem ck_sb_ok {gb : Nat → Nat → Int × Int} {j : Nat} {v : Int × Int} {x : Int32} (hx : ck_in v x) : ∀ {n a i : Nat}, ck_sb gb j v a n = true → a ≤ i → i ≤ a + n → ck_in (gb j i) x
  | 0, a, i, h, h1, h2 => by
    have e : i = a := by omega
    subst e
    simp only [ck_sb, Bool.and_eq_true, decide_eq_true_eq] at h
    exact ⟨Int.le_trans h.1 hx.1, Int.le_trans hx.2 h.2⟩
  | n + 1, a, i, h, h1, h2 => by
    simp only [ck_sb, Bool.and_eq_true, decide_eq_true_eq] at h
    by_cases e : i = a
    · subst e
      exact ⟨Int.le_trans h.1.1 hx.1, Int.le_trans hx.2 h.1.2⟩
    · exact ck_sb_ok hx h.2 (by omega) (by omega)
/-! the checker's tables: fields read, fields written, arrays, calls, Math's, constants, statics, longs, throws -/
abbrev ck_C : Type := (Bool × Nat) × (List ck_V × ck_T) × List ck_O
abbrev ck_E : Type := List (Nat × Nat × (Nat ⊕ Nat)) × List (Nat × Nat × Nat × Bool) × List (Nat × Nat × Nat × Bool) × List ck_C × List (Nat × Nat) × List (Nat × Int32) × List (Nat × Nat) × List Nat × List (Nat × Nat × String)
def ck_wt (st : List ck_V) : Nat := (st.map (fun a => if ck_one a then 1 else 2)).sum
def ck_ft (k : Nat) : ck_T → Option ((Int × Int) × Bool)
  | [] => none
  | q :: r => if q.1 = k then some q.2 else ck_ft k r
def ck_cb (fb : Nat → Int × Int) (o tk : ck_T) : ck_T := tk.map (fun q => match ck_ft q.1 o with
  | some z => if z.2 then (q.1, z.1, true) else q
  | none => (q.1, fb q.1, true))
def ck_leS : List ck_V → List ck_V → Bool
  | [], [] => true
  | a :: r, b :: t => ck_le a b && ck_leS r t
  | _, _ => false
/-- the call's arguments, receiver first, off the stack -/
def ck_pop : Nat → List ck_V → List ck_V → Option (List ck_V × List ck_V)
  | 0, acc, st => some (acc, st)
  | _ + 1, _, [] => none
  | n + 1, acc, a :: st => ck_pop n (a :: acc) st
def ck_try (fb : Nat → Int × Int) (pc : Nat) (als : ck_L) (st : List ck_V) (tk : ck_T) (q : ck_C) : Option (List ck_S) :=
  match ck_pop q.2.1.1.length [] st with
  | none => none
  | some z => if ck_leS z.1 q.2.1.1 && q.2.1.2.all (fun r => decide (r.2.1.1 ≤ (ck_fld fb r.1 tk).1) && decide ((ck_fld fb r.1 tk).2 ≤ r.2.1.2)) && decide (ck_wt z.2 ≤ 8) then
      some (q.2.2.map (fun o => (pc + 3, als, (match o.1 with | .inl (some a) => a :: z.2 | _ => z.2), ck_cb fb o.2 tk))) else none
def ck_cl (fb : Nat → Int × Int) (sv : Bool × Nat) (pc : Nat) (als : ck_L) (st : List ck_V) (tk : ck_T) : List ck_C → Option (List ck_S)
  | [] => none
  | q :: r => if q.1 = sv then (match ck_try fb pc als st tk q with | some L => some L | none => ck_cl fb sv pc als st tk r) else ck_cl fb sv pc als st tk r
def ck_mx (k : Nat) (x y : Int × Int) : Int × Int := match k with
  | 0 => (max x.1 y.1, max x.2 y.2)
  | _ => (min x.1 y.1, min x.2 y.2)
/-- an array's place: its row -/
def ck_ar (b : Bool) (k : Nat) : List (Nat × Nat × Nat × Bool) → Option (Nat × Nat)
  | [] => none
  | q :: r => if q.1 = k ∧ q.2.2.2 = b then some (q.2.1, q.2.2.1) else ck_ar b k r
def ck_al (gb : Nat → Nat → Int × Int) (ars : List (Nat × Nat × Nat × Bool)) (b : Bool) (q : Int × Int) (pc : Nat) (als : ck_L) (r : List ck_V) (tk : ck_T) : List Nat → Option (List ck_S)
  | [] => some []
  | k :: ks => match ck_ar b k ars, ck_al gb ars b q pc als r tk ks with
    | some z, some L => if 0 ≤ q.1 ∧ q.1 ≤ q.2 ∧ q.2 < z.2 then some ((pc + 1, als, .inl (ck_hl gb z.1 q.1.toNat (q.2 - q.1).toNat) :: r, tk) :: L) else none
    | _, _ => none
def ck_as (gb : Nat → Nat → Int × Int) (ars : List (Nat × Nat × Nat × Bool)) (b : Bool) (v q : Int × Int) : List Nat → Bool
  | [] => true
  | k :: ks => (match ck_ar b k ars with
    | some z => decide (z.1 < 100) && decide (0 ≤ q.1 ∧ q.1 ≤ q.2 ∧ q.2 < z.2) && ck_sb gb z.1 v q.1.toNat (q.2 - q.1).toNat && (!b || (decide (0 ≤ v.1) && decide (v.2 ≤ 1)))
    | none => false) && ck_as gb ars b v q ks
def ck_ro (outs : List ck_O) (a : Option ck_V) (tk : ck_T) : Bool := outs.any (fun o => (match o.1, a with
  | .inl (some b), some a => ck_le a b
  | .inl none, none => true
  | _, _ => false) && ck_leT tk o.2)
def ck_xo (outs : List ck_O) (E : String) (tk : ck_T) : Bool := outs.any (fun o => (match o.1 with
  | .inr X => decide (X = E)
  | _ => false) && ck_leT tk o.2)
def ck_sw (pc : Nat) (x : Int × Int) (als : ck_L) (r : List ck_V) (tk : ck_T) : Int → List Int → Option (List ck_S)
  | _, [] => some []
  | v, o :: os => match ck_sw pc x als r tk (v + 1) os with
    | none => none
    | some L => if 0 ≤ (pc : Int) + o then some (if x.1 ≤ v ∧ v ≤ x.2 then (((pc : Int) + o).toNat, als, r, tk) :: L else L) else none
def ck_d3 (P : ck_P) (E : ck_E) (nL : Nat) (fb : Nat → Int × Int) (gb : Nat → Nat → Int × Int) (outs : List ck_O) (rt : Nat) (pc : Nat) (als : ck_L) (tk : ck_T) (i : Instr × Nat) (st : List ck_V) : Option (List ck_S) := match i, st with
  | (.iinc k n, 3), st => (match ck_at k als with
    | some (.inl q) => if k < nL then some [(pc + 3, ck_set k (.inl (ck_add q ((Int32.ofInt n).toInt, (Int32.ofInt n).toInt))) als, st, tk)] else none
    | _ => none)
  | (.dup, 1), a :: r => if ck_one a then some [(pc + 1, als, a :: a :: r, tk)] else none
  | (.dup2, 1), a :: b :: r => if ck_one a && ck_one b then some [(pc + 1, als, a :: b :: a :: b :: r, tk)] else none
  | (.pop, 1), a :: r => if ck_one a then some [(pc + 1, als, r, tk)] else none
  | (.goto o, 3), st => if 0 ≤ (pc : Int) + o then some [(((pc : Int) + o).toNat, als, st, tk)] else none
  | (.aconst_null, 1), st => some [(pc + 1, als, .inr (.inl (true, [])) :: st, tk)]
  | (.idiv, 1), .inl y :: .inl _ :: r => if 0 < y.1 then some [(pc + 1, als, .inl ck_top :: r, tk)] else none
  | (.irem, 1), .inl y :: .inl x :: r => if 0 < y.1 then some [(pc + 1, als, .inl (ck_rem x y) :: r, tk)] else none
  | (.ineg, 1), .inl _ :: r => some [(pc + 1, als, .inl ck_top :: r, tk)]
  | (.i2l, 1), .inl _ :: r => some [(pc + 1, als, .inr (.inr ()) :: r, tk)]
  | (.lmul, 1), .inr (.inr _) :: .inr (.inr _) :: r => some [(pc + 1, als, .inr (.inr ()) :: r, tk)]
  | (.lcmp, 1), .inr (.inr _) :: .inr (.inr _) :: r => some [(pc + 1, als, .inl ck_top :: r, tk)]
  | (.ldc ix, 2), st => (match E.2.2.2.2.2.1.find? (fun q => q.1 == ix) with
    | some q => some [(pc + 2, als, .inl (q.2.toInt, q.2.toInt) :: st, tk)]
    | none => none)
  | (.ldc2_w ix, 3), st => if E.2.2.2.2.2.2.2.1.contains ix then some [(pc + 3, als, .inr (.inr ()) :: st, tk)] else none
  | (.getstatic ix, 3), st => (match E.2.2.2.2.2.2.1.find? (fun q => q.1 == ix) with
    | some q => some [(pc + 3, als, .inr (.inl (false, [q.2])) :: st, tk)]
    | none => none)
  | (.getfield ix, 3), .inr (.inl (false, [k])) :: r => (match E.1.find? (fun q => q.1 == ix && q.2.1 == k) with
    | some q => some [(pc + 3, als, (match q.2.2 with | .inl n => .inl (ck_fld fb n tk) | .inr n => .inr (.inl (false, [n]))) :: r, tk)]
    | none => none)
  | (.putfield ix, 3), .inl v :: .inr (.inl (false, [k])) :: r => (match E.2.1.find? (fun q => q.1 == ix && q.2.1 == k) with
    | some q => if (fb q.2.2.1).1 ≤ v.1 ∧ v.2 ≤ (fb q.2.2.1).2 ∧ (q.2.2.2 = true → 0 ≤ v.1 ∧ v.2 ≤ 1) then some [(pc + 3, als, r, ck_put q.2.2.1 v tk)] else none
    | none => none)
  | (.iaload, 1), .inl q :: .inr (.inl (false, ps)) :: r => ck_al gb E.2.2.1 false q pc als r tk ps
  | (.baload, 1), .inl q :: .inr (.inl (false, ps)) :: r => ck_al gb E.2.2.1 true q pc als r tk ps
  | (.iastore, 1), .inl v :: .inl q :: .inr (.inl (false, ps)) :: r => if ck_as gb E.2.2.1 false v q ps then some [(pc + 1, als, r, tk)] else none
  | (.bastore, 1), .inl v :: .inl q :: .inr (.inl (false, ps)) :: r => if ck_as gb E.2.2.1 true v q ps then some [(pc + 1, als, r, tk)] else none
  | (.invokevirtual ix, 3), st => ck_cl fb (false, ix) pc als st tk E.2.2.2.1
  | (.invokestatic ix, 3), st => (match E.2.2.2.2.1.find? (fun q => q.1 == ix), st with
    | some q, .inl y :: .inl x :: r => if q.2 < 2 ∧ ck_wt r ≤ 8 then some [(pc + 3, als, .inl (ck_mx q.2 x y) :: r, tk)] else if q.2 = 2 ∧ ck_wt (.inl x :: r) ≤ 8 then some [(pc + 3, als, .inl ck_top :: .inl x :: r, tk)] else none
    | some q, .inl _ :: r => if q.2 = 2 ∧ ck_wt r ≤ 8 then some [(pc + 3, als, .inl ck_top :: r, tk)] else none
    | none, st => ck_cl fb (true, ix) pc als st tk E.2.2.2.1
    | _, _ => none)
  | (.tableswitch d lo hi offs, _), .inl x :: r => (match ck_sw pc x als r tk lo offs.toList with
    | none => none
    | some L => if 0 ≤ (pc : Int) + d ∧ hi = lo + offs.size - 1 then some (if x.1 < lo ∨ hi < x.2 then (((pc : Int) + d).toNat, als, r, tk) :: L else L) else none)
  | (.ireturn, 1), [.inl q] => if ck_ro outs (some (.inl q)) tk && (decide (rt = 1) || (decide (rt = 2) && (decide (0 ≤ q.1) && decide (q.2 ≤ 1)))) then some [] else none
  | (.areturn, 1), [.inr (.inl q)] => if ck_ro outs (some (.inr (.inl q))) tk && decide (rt = 3) then some [] else none
  | (.return_, 1), [] => if ck_ro outs none tk && decide (rt = 0) then some [] else none
  | (.new ik, 3), st => (match E.2.2.2.2.2.2.2.2.find? (fun q => q.1 == ik) with
    | some q => if ck_xo outs q.2.2 tk && decide (ck_pc (pc + 3) P = some (.dup, 1)) && decide (ck_pc (pc + 4) P = some (.invokespecial q.2.1, 3)) && decide (ck_pc (pc + 7) P = some (.athrow, 1)) && decide (ck_wt st ≤ 8) then some [] else none
    | none => none)
  | _, _ => none
def ck_do (P : ck_P) (E : ck_E) (nL : Nat) (fb : Nat → Int × Int) (gb : Nat → Nat → Int × Int) (outs : List ck_O) (rt : Nat) (pc : Nat) (als : ck_L) (tk : ck_T) (i : Instr × Nat) (st : List ck_V) : Option (List ck_S) :=
  match ck_li i with
  | some k => (match ck_at k als with
    | some (.inl q) => ck_lk P pc i.2 k q als st tk
    | _ => none)
  | none => match ck_ra i with
  | some k => (match ck_at k als with
    | some (.inr (.inl q)) => ck_lr P pc i.2 k q als st tk
    | _ => none)
  | none => match ck_kv i with
  | some v => some [(pc + i.2, als, .inl (v.toInt, v.toInt) :: st, tk)]
  | none => match ck_b2 i, st with
  | some k, .inl y :: .inl x :: r => some [(pc + 1, als, .inl (ck_ba k x y) :: r, tk)]
  | some _, _ => none
  | none, st => match ck_c0 i, st with
  | some o, .inl x :: r => ck_br pc o.2 o.1 x (0, 0) als r tk
  | some _, _ => none
  | none, st => match ck_cj i, st with
  | some o, .inl y :: .inl x :: r => ck_br pc o.2 o.1 x y als r tk
  | some _, _ => none
  | none, st => match ck_cn i, st with
  | some o, .inr (.inl q) :: r => ck_nb pc o q als als r tk
  | some _, _ => none
  | none, st => match ck_si i, st with
  | some k, .inl q :: r => if k < nL then some [(pc + i.2, ck_set k (.inl q) als, r, tk)] else none
  | some _, _ => none
  | none, st => match ck_sa i, st with
  | some k, .inr (.inl q) :: r => if k < nL then some [(pc + i.2, ck_set k (.inr (.inl q)) als, r, tk)] else none
  | some _, _ => none
  | none, st => ck_d3 P E nL fb gb outs rt pc als tk i st
def ck_nx (P : ck_P) (E : ck_E) (nL : Nat) (fb : Nat → Int × Int) (gb : Nat → Nat → Int × Int) (outs : List ck_O) (rt : Nat) (t : ck_S) : Option (List ck_S) := match ck_pc t.1 P with
  | none => none
  | some i => ck_do P E nL fb gb outs rt t.1 t.2.1 t.2.2.2 i t.2.2.1
def ck_cut (t c : ck_S) : Bool := Nat.beq t.1 c.1 && ck_leS t.2.2.1 c.2.2.1 && ck_leL t.2.1 c.2.1 && ck_leT t.2.2.2 c.2.2.2
def ck_run (P : ck_P) (E : ck_E) (nL : Nat) (fb : Nat → Int × Int) (gb : Nat → Nat → Int × Int) (outs : List ck_O) (rt : Nat) (cuts : List ck_S) : Nat → ck_S → Bool
  | 0, _ => false
  | n + 1, t => cuts.any (ck_cut t) || (match ck_nx P E nL fb gb outs rt t with
    | none => false
    | some L => L.all (ck_run P E nL fb gb outs rt cuts n))
def ck_all (P : ck_P) (E : ck_E) (nL : Nat) (fb : Nat → Int × Int) (gb : Nat → Nat → Int × Int) (outs : List ck_O) (rt : Nat) (n : Nat) : List ck_S → Bool
  | [] => true
  | t :: cuts => ck_run P E nL fb gb outs rt cuts n t && ck_all P E nL fb gb outs rt n cuts

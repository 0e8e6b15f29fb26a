/-! the checker is sound: whole -/
section CK3
variable {p : Program} {l : Launch} {e : Env} {R : Room} {s : State} {m : MethodId} {args : Array Value} {below : List Frame} {meth : Method} {c : Code} {D : va_G} {cl : List vw_C} {A : Nat → Prop} {w : zz_F → zz_G → va_W} {h : Nat → Nat} {nL : Nat} {Q : State → Prop} {f0 : zz_F} {fb : Nat → Int × Int} {gb : Nat → Nat → Int × Int} {cc : ByteArray}
variable {pc : Nat} {als : ck_L} {st : List ck_V} {tk : ck_T} {L : List ck_S} {i : Instr × Nat} {P : ck_P} {E : ck_E} {outs : List ck_O} {rt : Nat}
/-- all that the tables say holds here -/
def ck_Ok (p : Program) (l : Launch) (e : Env) (R : Room) (s : State) (m : MethodId) (args : Array Value) (below : List Frame) (meth : Method) (c : Code) (D : va_G) (cl : List vw_C) (A : Nat → Prop) (w : zz_F → zz_G → va_W) (h : Nat → Nat) (nL : Nat) (Q : State → Prop) (fb : Nat → Int × Int) (gb : Nat → Nat → Int × Int) (cc : ByteArray) (f0 : zz_F) (P : ck_P) (E : ck_E) (outs : List ck_O) (rt : Nat) : Prop :=
  p.tables.exec = Jvm.exec ∧ c.code = cc ∧ (∀ (a : Nat) (b : Instr × Nat), ck_mem P a b → decode cc a = .ok b) ∧ (∀ q ∈ E.1, ck_oGet p l e R s m args below meth c D cl A w h nL Q fb gb cc q) ∧ (∀ q ∈ E.2.1, ck_oPut p l e R s m args below meth c D cl A w h nL Q fb gb cc q) ∧ (∀ q ∈ E.2.2.1, ck_oAld p l e R s m args below meth c D cl A w h nL Q fb gb cc q ∧ (q.2.1 < 100 → ck_oAst p l e R s m args below meth c D cl A w h nL Q fb gb cc q)) ∧ (∀ q ∈ E.2.2.2.1, ck_oCall p l e R s m args below meth c D cl A w h nL Q fb gb cc q) ∧ (∀ q ∈ E.2.2.2.2.1, ck_oMath p l e R s m args below meth c D cl A w h nL Q fb gb cc q) ∧ (∀ q ∈ E.2.2.2.2.2.1, ck_oLdc p l e R s m args below meth c D cl A w h nL Q fb gb cc q) ∧ (∀ q ∈ E.2.2.2.2.2.2.1, ck_oSta p l e R s m args below meth c D cl A w h nL Q fb gb cc q) ∧ (∀ q ∈ E.2.2.2.2.2.2.2.1, ck_oLdl p l e R s m args below meth c D cl A w h nL Q fb gb cc q) ∧ (∀ q ∈ E.2.2.2.2.2.2.2.2, ck_oThr p l e R s m args below meth c D cl A w h nL Q fb gb cc f0 outs q) ∧ ck_oRet p l e R s m args below meth c D cl A w h nL Q fb gb cc f0 outs rt
theorem ck_mx_ok {k : Nat} {a b : Int × Int} {x y : Int32} (hx : ck_in a x) (hy : ck_in b y) : (k = 0 → ck_in (ck_mx k a b) (if x < y then y else x)) ∧ (k = 1 → ck_in (ck_mx k a b) (if y < x then y else x)) := by
  obtain ⟨h1, h2⟩ := hx
  obtain ⟨h3, h4⟩ := hy
  refine ⟨fun e => ?_, fun e => ?_⟩
  · subst e
    show max a.1 b.1 ≤ _ ∧ _ ≤ max a.2 b.2
    split
    · rename_i q; rw [Int32.lt_iff_toInt_lt] at q; omega
    · rename_i q; rw [Int32.lt_iff_toInt_lt] at q; omega
  · subst e
    show min a.1 b.1 ≤ _ ∧ _ ≤ min a.2 b.2
    split
    · rename_i q; rw [Int32.lt_iff_toInt_lt] at q; omega
    · rename_i q; rw [Int32.lt_iff_toInt_lt] at q; omega
theorem ck_find {α : Type} {p : α → Bool} {ls : List α} {q : α} (hq : ls.find? p = some q) : q ∈ ls ∧ p q = true := ⟨List.mem_of_find?_eq_some hq, List.find?_some hq⟩
set_option maxHeartbeats 4000000 in
theorem ck_d3_ok (K : ck_Ok p l e R s m args below meth c D cl A w h nL Q fb gb cc f0 P E outs rt) (hd : decode cc pc = .ok i) (hh : ck_d3 P E nL fb gb outs rt pc als tk i st = some L) (hL : ∀ t ∈ L, ck_G p l e R s m args below meth c D cl A w h nL Q f0 fb gb t) : ck_G p l e R s m args below meth c D cl A w h nL Q f0 fb gb (pc, als, st, tk) := by
  obtain ⟨hx, hb, hP0, kG, kP, kA, kC, kM, kD, kS, kL, kT, kR⟩ := K
  intro f g H locs ls rest hI hT hP hD hS hl hs
  unfold ck_d3 at hh
  split at hh
  · -- iinc
    split at hh
    · rename_i k n st q ha
      split at hh
      · rename_i hn
        cases hh
        obtain ⟨lv, h1, h2⟩ := id hl
        obtain ⟨v, hv, -, x, rfl, hq⟩ := h2 _ (ck_at_in ha)
        obtain ⟨j, hj, ej⟩ := List.getElem_of_mem hv
        refine lv_iinc (k := j) hx hb hd h1 (List.getElem?_eq_some_iff.mpr ⟨hj, ej⟩) rfl hn rfl (fun ls' hl' => ?_)
        exact hL _ List.mem_cons_self f g H locs ls' _ hI hT hP hD hS (ck_gL_set h2 rfl ⟨_, rfl, ck_add_ok hq ⟨Int.le_refl _, Int.le_refl _⟩⟩ hl') hs
      · cases hh
    · cases hh
  · -- dup
    rename_i a r
    split at hh
    · rename_i h1
      cases hh
      obtain ⟨v, t, e9, hv, hs9⟩ := ck_gS_cons hs
      replace hs := hs9
      subst e9
      exact lv_dup hx hb hd (ck_cat h1 hv) (hL _ List.mem_cons_self f g H locs ls _ hI hT hP hD hS hl ⟨hv, hv, hs⟩)
    · cases hh
  · -- dup2
    rename_i a b r
    split at hh
    · rename_i h1
      simp only [Bool.and_eq_true] at h1
      cases hh
      obtain ⟨v, t, e9, hv, hs9⟩ := ck_gS_cons hs
      replace hs := hs9
      subst e9
      obtain ⟨u, t, e9, hu, hs9⟩ := ck_gS_cons hs
      replace hs := hs9
      subst e9
      exact lv_dup2_11 hx hb hd (ck_cat h1.1 hv) (ck_cat h1.2 hu) (hL _ List.mem_cons_self f g H locs ls _ hI hT hP hD hS hl ⟨hv, hu, hv, hu, hs⟩)
    · cases hh
  · -- pop
    rename_i a r
    split at hh
    · rename_i h1
      cases hh
      obtain ⟨v, t, e9, hv, hs9⟩ := ck_gS_cons hs
      replace hs := hs9
      subst e9
      exact lv_pop hx hb hd (ck_cat h1 hv) (hL _ List.mem_cons_self f g H locs ls _ hI hT hP hD hS hl hs)
    · cases hh
  · -- goto
    split at hh
    · rename_i h0
      cases hh
      exact lv_goto hx hb hd (Int.toNat_of_nonneg h0).symm (hL _ List.mem_cons_self f g H locs ls _ hI hT hP hD hS hl hs)
    · cases hh
  · -- aconst_null
    cases hh
    exact lv_null hx hb hd (hL _ List.mem_cons_self f g H locs ls _ hI hT hP hD hS hl ⟨Or.inl ⟨rfl, rfl⟩, hs⟩)
  · -- idiv
    split at hh
    · rename_i h0
      cases hh
      obtain ⟨v, t, e9, ⟨y, rfl, hy⟩, hs9⟩ := ck_gS_cons hs
      replace hs := hs9
      subst e9
      obtain ⟨u, t, e9, ⟨x, rfl, hx1⟩, hs9⟩ := ck_gS_cons hs
      replace hs := hs9
      subst e9
      refine lv_idiv hx hb hd (fun e1 => ?_) (hL _ List.mem_cons_self f g H locs ls _ hI hT hP hD hS hl ⟨⟨_, rfl, ck_in_top _⟩, hs⟩)
      subst e1
      have h9 := hy.1
      have h8 : (0 : Int32).toInt = 0 := rfl
      omega
    · cases hh
  · -- irem
    split at hh
    · rename_i h0
      cases hh
      obtain ⟨v, t, e9, ⟨y, rfl, hy⟩, hs9⟩ := ck_gS_cons hs
      replace hs := hs9
      subst e9
      obtain ⟨u, t, e9, ⟨x, rfl, hx1⟩, hs9⟩ := ck_gS_cons hs
      replace hs := hs9
      subst e9
      refine lv_irem hx hb hd (fun e1 => ?_) (hL _ List.mem_cons_self f g H locs ls _ hI hT hP hD hS hl ⟨⟨_, rfl, ck_rem_ok hx1 hy⟩, hs⟩)
      subst e1
      have h9 := hy.1
      have h8 : (0 : Int32).toInt = 0 := rfl
      omega
    · cases hh
  · -- ineg
    cases hh
    obtain ⟨v, t, e9, ⟨y, rfl, hy⟩, hs9⟩ := ck_gS_cons hs
    replace hs := hs9
    subst e9
    exact lv_ineg hx hb hd (hL _ List.mem_cons_self f g H locs ls _ hI hT hP hD hS hl ⟨⟨_, rfl, ck_in_top _⟩, hs⟩)
  · -- i2l
    cases hh
    obtain ⟨v, t, e9, ⟨y, rfl, hy⟩, hs9⟩ := ck_gS_cons hs
    replace hs := hs9
    subst e9
    exact lv_i2l hx hb hd rfl (hL _ List.mem_cons_self f g H locs ls _ hI hT hP hD hS hl ⟨⟨_, rfl⟩, hs⟩)
  · -- lmul
    cases hh
    obtain ⟨v, t, e9, ⟨y, rfl⟩, hs9⟩ := ck_gS_cons hs
    replace hs := hs9
    subst e9
    obtain ⟨u, t, e9, ⟨x, rfl⟩, hs9⟩ := ck_gS_cons hs
    replace hs := hs9
    subst e9
    exact lv_lmul hx hb hd (hL _ List.mem_cons_self f g H locs ls _ hI hT hP hD hS hl ⟨⟨_, rfl⟩, hs⟩)
  · -- lcmp
    cases hh
    obtain ⟨v, t, e9, ⟨y, rfl⟩, hs9⟩ := ck_gS_cons hs
    replace hs := hs9
    subst e9
    obtain ⟨u, t, e9, ⟨x, rfl⟩, hs9⟩ := ck_gS_cons hs
    replace hs := hs9
    subst e9
    exact W.lcmp hx hb hd (hL _ List.mem_cons_self f g H locs ls _ hI hT hP hD hS hl ⟨⟨_, rfl, ck_in_top _⟩, hs⟩)
  · -- ldc
    split at hh
    · rename_i q hq
      cases hh
      obtain ⟨h1, h2⟩ := ck_find hq
      have h2 := beq_iff_eq.mp h2
      exact kD q h1 H locs pc ls rest (by rw [h2]; exact hd) (hL _ List.mem_cons_self f g H locs ls _ hI hT hP hD hS hl ⟨⟨_, rfl, Int.le_refl _, Int.le_refl _⟩, hs⟩)
    · cases hh
  · -- ldc2_w
    split at hh
    · rename_i h1
      cases hh
      exact kL _ (List.contains_iff_mem.mp h1) H locs pc ls rest hd (fun z => hL _ List.mem_cons_self f g H locs ls _ hI hT hP hD hS hl ⟨⟨_, rfl⟩, hs⟩)
    · cases hh
  · -- getstatic
    split at hh
    · rename_i q hq
      cases hh
      obtain ⟨h1, h2⟩ := ck_find hq
      have h2 := beq_iff_eq.mp h2
      exact kS q h1 H locs pc ls rest hS (by rw [h2]; exact hd) (hL _ List.mem_cons_self f g H locs ls _ hI hT hP hD hS hl ⟨Or.inr ⟨q.2, List.mem_cons_self, rfl⟩, hs⟩)
    · cases hh
  · -- getfield
    rename_i ix k r
    split at hh
    · rename_i q hq
      cases hh
      obtain ⟨h1, h2⟩ := ck_find hq
      simp only [Bool.and_eq_true, beq_iff_eq] at h2
      obtain ⟨h2, h3⟩ := h2
      obtain ⟨v, t, e9, hv, hs9⟩ := ck_gS_cons hs
      replace hs := hs9
      subst e9
      rcases hv with ⟨hv, -⟩ | ⟨k1, hk, rfl⟩
      · cases hv
      · rw [List.mem_singleton] at hk
        rw [hk, ← h3]
        refine kG q h1 f g H locs pc ls t hP (by rw [h2]; exact hd) ?_
        refine hL _ List.mem_cons_self f g H locs ls _ hI hT hP hD hS hl ⟨?_, hs⟩
        match q.2.2 with
        | .inl n => exact ⟨f n, rfl, ck_fld_ok (hI.1 n) hT⟩
        | .inr n => exact Or.inr ⟨n, List.mem_cons_self, rfl⟩
    · cases hh
  · -- putfield
    rename_i ix va k r
    split at hh
    · rename_i q hq
      split at hh
      · rename_i hc
        cases hh
        obtain ⟨h1, h2⟩ := ck_find hq
        simp only [Bool.and_eq_true, beq_iff_eq] at h2
        obtain ⟨h2, h3⟩ := h2
        obtain ⟨v, t, e9, ⟨x, rfl, hx1⟩, hs9⟩ := ck_gS_cons hs
        replace hs := hs9
        subst e9
        obtain ⟨v, t, e9, hv, hs9⟩ := ck_gS_cons hs
        replace hs := hs9
        subst e9
        rcases hv with ⟨hv, -⟩ | ⟨k1, hk, rfl⟩
        · cases hv
        · rw [List.mem_singleton] at hk
          rw [hk, ← h3]
          refine kP q h1 f g H locs pc ls t x (fun e1 => ⟨Int.le_trans (hc.2.2 e1).1 hx1.1, Int.le_trans hx1.2 (hc.2.2 e1).2⟩) hP hD hS (by rw [h2]; exact hd) (fun H1 locs1 hP1 hD1 hS1 => ?_)
          refine hL _ List.mem_cons_self _ g H1 locs1 ls _ ⟨fun j => ?_, hI.2⟩ (ck_put_ok hx1 hT) hP1 hD1 hS1 hl hs
          by_cases ej : j = q.2.2.1
          · rw [ej, pk_us]; exact ⟨Int.le_trans hc.1 hx1.1, Int.le_trans hx1.2 hc.2.1⟩
          · rw [pk_un ej]; exact hI.1 j
      · cases hh
    · cases hh
  · -- iaload
    rename_i q ps r
    obtain ⟨v, t, e9, ⟨x, rfl, hx1⟩, hs9⟩ := ck_gS_cons hs
    replace hs := hs9
    subst e9
    obtain ⟨v, t, e9, hv, hs9⟩ := ck_gS_cons hs
    replace hs := hs9
    subst e9
    rcases hv with ⟨hv, -⟩ | ⟨k1, hk, rfl⟩
    · cases hv
    · exact ck_al_ok (b := false) hd (fun q hq => (kA q hq).1) hh hL k1 hk f g H locs ls t x hI hT hP hD hS hl hs hx1
  · -- baload
    rename_i q ps r
    obtain ⟨v, t, e9, ⟨x, rfl, hx1⟩, hs9⟩ := ck_gS_cons hs
    replace hs := hs9
    subst e9
    obtain ⟨v, t, e9, hv, hs9⟩ := ck_gS_cons hs
    replace hs := hs9
    subst e9
    rcases hv with ⟨hv, -⟩ | ⟨k1, hk, rfl⟩
    · cases hv
    · exact ck_al_ok (b := true) hd (fun q hq => (kA q hq).1) hh hL k1 hk f g H locs ls t x hI hT hP hD hS hl hs hx1
  · -- iastore
    rename_i va q ps r
    split at hh
    · rename_i hc
      cases hh
      obtain ⟨v, t, e9, ⟨y, rfl, hy1⟩, hs9⟩ := ck_gS_cons hs
      replace hs := hs9
      subst e9
      obtain ⟨v, t, e9, ⟨x, rfl, hx1⟩, hs9⟩ := ck_gS_cons hs
      replace hs := hs9
      subst e9
      obtain ⟨v, t, e9, hv, hs9⟩ := ck_gS_cons hs
      replace hs := hs9
      subst e9
      rcases hv with ⟨hv, -⟩ | ⟨k1, hk, rfl⟩
      · cases hv
      · exact ck_as_ok (b := false) hd (fun q hq => (kA q hq).2) (hL _ List.mem_cons_self) hc k1 hk f g H locs ls t x y hI hT hP hD hS hl hs hx1 hy1
    · cases hh
  · -- bastore
    rename_i va q ps r
    split at hh
    · rename_i hc
      cases hh
      obtain ⟨v, t, e9, ⟨y, rfl, hy1⟩, hs9⟩ := ck_gS_cons hs
      replace hs := hs9
      subst e9
      obtain ⟨v, t, e9, ⟨x, rfl, hx1⟩, hs9⟩ := ck_gS_cons hs
      replace hs := hs9
      subst e9
      obtain ⟨v, t, e9, hv, hs9⟩ := ck_gS_cons hs
      replace hs := hs9
      subst e9
      rcases hv with ⟨hv, -⟩ | ⟨k1, hk, rfl⟩
      · cases hv
      · exact ck_as_ok (b := true) hd (fun q hq => (kA q hq).2) (hL _ List.mem_cons_self) hc k1 hk f g H locs ls t x y hI hT hP hD hS hl hs hx1 hy1
    · cases hh
  · -- invokevirtual
    exact ck_cl_ok (sv := (false, _)) hd kC hh hL f g H locs ls rest hI hT hP hD hS hl hs
  · -- invokestatic
    rename_i ix
    split at hh
    · rename_i q y x r hq
      obtain ⟨h1, h2⟩ := ck_find hq
      have h2 := beq_iff_eq.mp h2
      obtain ⟨v, t, e9, ⟨y1, rfl, hy1⟩, hs9⟩ := ck_gS_cons hs
      replace hs := hs9
      subst e9
      obtain ⟨v, t, e9, ⟨x1, rfl, hx1⟩, hs9⟩ := ck_gS_cons hs
      replace hs := hs9
      subst e9
      split at hh
      · rename_i hc
        cases hh
        obtain ⟨k0, k1, -⟩ := kM q h1 H locs pc ls t x1 y1 hl.choose_spec.1.1 (by rw [ck_wt_ok hs]; exact hc.2) (by rw [h2]; exact hd)
        rcases (show q.2 = 0 ∨ q.2 = 1 by omega) with e1 | e1
        · exact k0 e1 (hL _ List.mem_cons_self f g H locs ls _ hI hT hP hD hS hl ⟨⟨_, rfl, (ck_mx_ok hx1 hy1).1 e1⟩, hs⟩)
        · exact k1 e1 (hL _ List.mem_cons_self f g H locs ls _ hI hT hP hD hS hl ⟨⟨_, rfl, (ck_mx_ok hx1 hy1).2 e1⟩, hs⟩)
      · split at hh
        · rename_i hc
          cases hh
          have hs2 : ck_gS h (.inl x :: r) (.int x1 :: t) := ⟨⟨x1, rfl, hx1⟩, hs⟩
          exact (kM q h1 H locs pc ls (.int x1 :: t) y1 y1 hl.choose_spec.1.1 (by rw [ck_wt_ok hs2]; exact hc.2) (by rw [h2]; exact hd)).2.2 hc.1 (fun z => hL _ List.mem_cons_self f g H locs ls _ hI hT hP hD hS hl ⟨⟨z, rfl, ck_in_top z⟩, hs2⟩)
        · cases hh
    · rename_i q y r _ hq
      obtain ⟨h1, h2⟩ := ck_find hq
      have h2 := beq_iff_eq.mp h2
      split at hh
      · rename_i hc
        cases hh
        obtain ⟨v, t, e9, ⟨y1, rfl, hy1⟩, hs9⟩ := ck_gS_cons hs
        replace hs := hs9
        subst e9
        exact (kM q h1 H locs pc ls t y1 y1 hl.choose_spec.1.1 (by rw [ck_wt_ok hs]; exact hc.2) (by rw [h2]; exact hd)).2.2 hc.1 (fun z => hL _ List.mem_cons_self f g H locs ls _ hI hT hP hD hS hl ⟨⟨z, rfl, ck_in_top z⟩, hs⟩)
      · cases hh
    · exact ck_cl_ok (sv := (true, _)) hd kC hh hL f g H locs ls rest hI hT hP hD hS hl hs
    · cases hh
  · -- tableswitch
    rename_i d lo hi offs _ x r
    split at hh
    · cases hh
    · rename_i L1 hL1
      split at hh
      · rename_i h0
        cases hh
        obtain ⟨v, t, e9, ⟨y, rfl, hy⟩, hs9⟩ := ck_gS_cons hs
        replace hs := hs9
        subst e9
        by_cases ho : y.toInt < lo ∨ hi < y.toInt
        · have h3 : x.1 < lo ∨ hi < x.2 := by
            have h4 := hy.1
            have h5 := hy.2
            omega
          rw [if_pos h3] at hL
          exact lv_tableOut hx hb hd ho (Int.toNat_of_nonneg h0.1).symm (hL _ List.mem_cons_self f g H locs ls _ hI hT hP hD hS hl hs)
        · have h1 : ¬ y.toInt < lo := fun q => ho (Or.inl q)
          have h2 : ¬ hi < y.toInt := fun q => ho (Or.inr q)
          have hlt : (y.toInt - lo).toNat < offs.size := by omega
          have hoff : offs[(y.toInt - lo).toNat]? = some offs[(y.toInt - lo).toNat] := Array.getElem?_eq_getElem hlt
          have h4 := hy.1
          have h5 := hy.2
          obtain ⟨h6, h7⟩ := ck_sw_ok hL1 (y.toInt - lo).toNat offs[(y.toInt - lo).toNat] (by rw [Array.getElem?_toList]; exact hoff) (by omega) (by omega)
          refine lv_tableIn hx hb hd h1 h2 hoff (Int.toNat_of_nonneg h6).symm (hL (((pc : Int) + offs[(y.toInt - lo).toNat]).toNat, als, r, tk) ?_ f g H locs ls _ hI hT hP hD hS hl hs)
          split
          · exact List.mem_cons_of_mem _ h7
          · exact h7
      · cases hh
  · -- ireturn
    split at hh
    · rename_i hc
      simp only [Bool.and_eq_true, Bool.or_eq_true, decide_eq_true_eq] at hc
      obtain ⟨v, t, e9, ⟨y, rfl, hy⟩, hs9⟩ := ck_gS_cons hs
      replace hs := hs9
      subst e9
      match t, hs with
      | [], _ =>
        refine kR f g H locs pc ls (some (.int y)) hI (ck_ro_ok hc.1 ⟨_, rfl, y, rfl, hy⟩ hT) hP hD hS (Or.inl ⟨y, rfl, hd, ?_⟩)
        rcases hc.2 with h9 | ⟨h9, h10⟩
        · exact Or.inl h9
        · exact Or.inr ⟨h9, Int.le_trans h10.1 hy.1, Int.le_trans hy.2 h10.2⟩
    · cases hh
  · -- areturn
    split at hh
    · rename_i hc
      simp only [Bool.and_eq_true, decide_eq_true_eq] at hc
      obtain ⟨v, t, e9, hv, hs9⟩ := ck_gS_cons hs
      replace hs := hs9
      subst e9
      match t, hs with
      | [], _ => exact kR f g H locs pc ls (some v) hI (ck_ro_ok hc.1 ⟨_, rfl, hv⟩ hT) hP hD hS (Or.inr (Or.inl ⟨v, rfl, ck_isR hv, hd, hc.2⟩))
    · cases hh
  · -- return
    split at hh
    · rename_i hc
      simp only [Bool.and_eq_true, decide_eq_true_eq] at hc
      match rest, hs with
      | [], _ => exact kR f g H locs pc ls none hI (ck_ro_ok hc.1 rfl hT) hP hD hS (Or.inr (Or.inr ⟨rfl, hd, hc.2⟩))
    · cases hh
  · -- new
    split at hh
    · rename_i q hq
      obtain ⟨h1, h2⟩ := ck_find hq
      have h2 := beq_iff_eq.mp h2
      split at hh
      · rename_i hc
        simp only [Bool.and_eq_true, decide_eq_true_eq] at hc
        obtain ⟨⟨⟨⟨c1, c2⟩, c3⟩, c4⟩, c5⟩ := hc
        have d3 : decode cc (pc + 3) = .ok (.dup, 1) := hP0 _ _ (ck_pc_in c2)
        have d4 : decode cc (pc + 4) = .ok (.invokespecial q.2.1, 3) := hP0 _ _ (ck_pc_in c3)
        have d7 : decode cc (pc + 7) = .ok (.athrow, 1) := hP0 _ _ (ck_pc_in c4)
        exact kT q h1 f g H locs pc ls rest hI (ck_xo_ok c1 hT) hP hD hS hl.choose_spec.1.1 (by rw [ck_wt_ok hs]; exact c5) (by rw [h2]; exact hd) d3 d4 d7
      · cases hh
    · cases hh
  · cases hh
set_option maxHeartbeats 4000000 in
theorem ck_do_ok (K : ck_Ok p l e R s m args below meth c D cl A w h nL Q fb gb cc f0 P E outs rt) (hd : decode cc pc = .ok i) (hh : ck_do P E nL fb gb outs rt pc als tk i st = some L) (hL : ∀ t ∈ L, ck_G p l e R s m args below meth c D cl A w h nL Q f0 fb gb t) : ck_G p l e R s m args below meth c D cl A w h nL Q f0 fb gb (pc, als, st, tk) := by
  have hx := K.1
  have hb := K.2.1
  have hP0 := K.2.2.1
  unfold ck_do at hh
  split at hh
  · rename_i k hk
    split at hh
    · rename_i q ha
      exact ck_lk_ok hx hb hP0 hk hd ha hh hL
    · cases hh
  · split at hh
    · rename_i k hk
      split at hh
      · rename_i q ha
        exact ck_lr_ok hx hb hP0 hk hd ha hh hL
      · cases hh
    · split at hh
      · rename_i v hk
        cases hh
        intro f g H locs ls rest hI hT hP hD hS hl hs
        exact ck_kv_w hx hb hk hd (hL _ List.mem_cons_self f g H locs ls _ hI hT hP hD hS hl ⟨⟨v, rfl, Int.le_refl _, Int.le_refl _⟩, hs⟩)
      · split at hh
        · rename_i k y x r hk
          cases hh
          intro f g H locs ls rest hI hT hP hD hS hl hs
          obtain ⟨v, t, e9, ⟨y1, rfl, hy1⟩, hs9⟩ := ck_gS_cons hs
          replace hs := hs9
          subst e9
          obtain ⟨v, t, e9, ⟨x1, rfl, hx1⟩, hs9⟩ := ck_gS_cons hs
          replace hs := hs9
          subst e9
          exact ck_b2_w hx hb hk hd (hL _ List.mem_cons_self f g H locs ls _ hI hT hP hD hS hl ⟨⟨_, rfl, ck_ba_ok hx1 hy1⟩, hs⟩)
        · cases hh
        · split at hh
          · rename_i o x r ho
            intro f g H locs ls rest hI hT hP hD hS hl hs
            obtain ⟨v, t, e9, ⟨x1, rfl, hx1⟩, hs9⟩ := ck_gS_cons hs
            replace hs := hs9
            subst e9
            obtain ⟨h0, kt, kf⟩ := ck_br_ok (v := 0) hh hL hx1 ⟨by decide, by decide⟩ hI hT hP hD hS hl hs
            exact ck_c0_w hx hb ho hd h0 kt kf
          · cases hh
          · split at hh
            · rename_i o y x r ho
              intro f g H locs ls rest hI hT hP hD hS hl hs
              obtain ⟨v, t, e9, ⟨y1, rfl, hy1⟩, hs9⟩ := ck_gS_cons hs
              replace hs := hs9
              subst e9
              obtain ⟨v, t, e9, ⟨x1, rfl, hx1⟩, hs9⟩ := ck_gS_cons hs
              replace hs := hs9
              subst e9
              obtain ⟨h0, kt, kf⟩ := ck_br_ok hh hL hx1 hy1 hI hT hP hD hS hl hs
              exact ck_cj_w hx hb ho hd h0 kt kf
            · cases hh
            · split at hh
              · rename_i o q r ho
                intro f g H locs ls rest hI hT hP hD hS hl hs
                obtain ⟨v, t, e9, hv, hs9⟩ := ck_gS_cons hs
                replace hs := hs9
                subst e9
                exact ck_nb_ok hx hb ho hd hh hL hv (fun _ => hl) (fun _ => hl) hI hT hP hD hS hs
              · cases hh
              · split at hh
                · rename_i k q r hk
                  split at hh
                  · rename_i hn
                    cases hh
                    intro f g H locs ls rest hI hT hP hD hS hl hs
                    obtain ⟨v, t, e9, ⟨x1, rfl, hx1⟩, hs9⟩ := ck_gS_cons hs
                    replace hs := hs9
                    subst e9
                    obtain ⟨lv, h1, h2⟩ := id hl
                    have kk : ∀ ls' : Array Slot, lv_has ls' nL ((k, Value.int x1) :: lv.filter (fun q => !(q.1 == k) && !(q.1 + 1 == k && q.2.category == 2))) → W p l e R s m args below meth c H locs 0 0 Q (F0 m (pc + i.2) ls' t) := fun ls' hl' => hL _ List.mem_cons_self f g H locs ls' _ hI hT hP hD hS (ck_gL_set h2 rfl ⟨x1, rfl, hx1⟩ hl') hs
                    unfold ck_si at hk
                    split at hk
                    · cases hk; exact lv_istore_n hx hb hd rfl h1 hn rfl kk
                    · cases hk; exact lv_istore hx hb hd h1 hn rfl kk
                    · cases hk
                  · cases hh
                · cases hh
                · split at hh
                  · rename_i k q r hk
                    split at hh
                    · rename_i hn
                      cases hh
                      intro f g H locs ls rest hI hT hP hD hS hl hs
                      obtain ⟨v, t, e9, hv, hs9⟩ := ck_gS_cons hs
                      replace hs := hs9
                      subst e9
                      obtain ⟨lv, h1, h2⟩ := id hl
                      have kk : ∀ ls' : Array Slot, lv_has ls' nL ((k, v) :: lv.filter (fun q => !(q.1 == k) && !(q.1 + 1 == k && q.2.category == 2))) → W p l e R s m args below meth c H locs 0 0 Q (F0 m (pc + i.2) ls' t) := fun ls' hl' => hL _ List.mem_cons_self f g H locs ls' _ hI hT hP hD hS (ck_gL_set h2 (ck_cat rfl hv) hv hl') hs
                      unfold ck_sa at hk
                      rcases ck_isR hv with rfl | ⟨a, rfl⟩
                      · split at hk
                        · cases hk; exact lv_astore_nN hx hb hd rfl h1 hn rfl kk
                        · cases hk; exact lv_astoreN hx hb hd h1 hn rfl kk
                        · cases hk
                      · split at hk
                        · cases hk; exact lv_astore_n hx hb hd rfl h1 hn rfl kk
                        · cases hk; exact lv_astore hx hb hd h1 hn rfl kk
                        · cases hk
                    · cases hh
                  · cases hh
                  · exact ck_d3_ok K hd hh hL
theorem ck_run_ok (K : ck_Ok p l e R s m args below meth c D cl A w h nL Q fb gb cc f0 P E outs rt) {cuts : List ck_S} (hc : ∀ t ∈ cuts, ck_G p l e R s m args below meth c D cl A w h nL Q f0 fb gb t) : ∀ (n : Nat) (t : ck_S), ck_run P E nL fb gb outs rt cuts n t = true → ck_G p l e R s m args below meth c D cl A w h nL Q f0 fb gb t
  | 0, t, hh => by cases hh
  | n + 1, t, hh => by
    unfold ck_run at hh
    rw [Bool.or_eq_true] at hh
    rcases hh with hh | hh
    · obtain ⟨u, hu, h1⟩ := List.any_eq_true.mp hh
      simp only [ck_cut, Bool.and_eq_true] at h1
      obtain ⟨⟨⟨h1, h2⟩, h3⟩, h4⟩ := h1
      have h1 := Nat.eq_of_beq_eq_true h1
      intro f g H locs ls rest hI hT hP hD hS hl hs
      rw [h1]
      exact hc u hu f g H locs ls rest hI (ck_leT_ok h4 hT) hP hD hS (ck_leL_ok h3 hl) (ck_leS_ok h2 hs)
    · split at hh
      · cases hh
      · rename_i L hL
        unfold ck_nx at hL
        split at hL
        · cases hL
        · rename_i i hi
          have hd : decode cc t.1 = .ok i := K.2.2.1 _ _ (ck_pc_in hi)
          exact ck_do_ok K hd hL (fun u hu => ck_run_ok K hc n u (List.all_eq_true.mp hh u hu))
theorem ck_all_ok (K : ck_Ok p l e R s m args below meth c D cl A w h nL Q fb gb cc f0 P E outs rt) {n : Nat} : ∀ {cuts : List ck_S}, ck_all P E nL fb gb outs rt n cuts = true → ∀ t ∈ cuts, ck_G p l e R s m args below meth c D cl A w h nL Q f0 fb gb t
  | [], _, t, ht => by cases ht
  | u :: cuts, hh, t, ht => by
    simp only [ck_all, Bool.and_eq_true] at hh
    have ih := ck_all_ok K hh.2
    rcases List.mem_cons.mp ht with rfl | ht
    · exact ck_run_ok K ih n _ hh.1
    · exact ih t ht
end CK3

theorem lo_12_m {p : Program} {l : Launch} {e : Env} {s : State} {m : MethodId} {args : Array Value} {below : List Frame} {meth : Method} {c : Code} {H : Heap} {locs : List Loc} {cells slots : Nat} {Q : State → Prop} {D : va_G} {B : Nat} {A : Nat → Prop} {h hm : Nat → Nat} {cI cZ cJ : ClassId} {ho : Nat} {f fm : zz_F} {g gm : zz_G} {ls : Array Slot} {b L : Nat} {xs : Nat → Int32} {i : Int32} {cx : Cond} (hfl : l.flags = flags0) (C : zz_Cx p m meth c code 7 ret s args (cx :: kk_W) "NightCyclerLaw" D vN (tyN cI cZ cJ) A B (xL B h)) (hX : va_X b L xs s s.heap) (hbl : b < s.heap.size) (hbA : ¬ A b) (i1 : vp_in (i + 1) L) (i2 : vp_in (i + 2) L) (hI : ck_gI fbG gbG f g) (hJ : ck_gI fbM gbM fm gm) (hrel : lw_rel f fm) (hP : va_P D vN (wW cI cZ cJ ho h hm f g fm gm) H) (hD : va_D A (wW cI cZ cJ ho h hm f g fm gm)) (hS : va_S A s.heap H locs) (hl : lv_has ls 7 [(0, .ref b), (1, .ref (h 0)), (2, .ref (hm 0)), (3, .ref ho), (4, .int i)]) (hf : cells ≤ room_1.cells ∧ slots ≤ room_1.slots) (kk : ∀ (f1 : zz_F) (g1 : zz_G) (fm1 : zz_F) (gm1 : zz_G) (H1 : Heap) (locs1 : List Loc) (ls1 : Array Slot), ck_gI fbG gbG f1 g1 → ck_gI fbM gbM fm1 gm1 → lw_rel f1 fm1 → va_P D vN (wW cI cZ cJ ho h hm f1 g1 fm1 gm1) H1 → va_D A (wW cI cZ cJ ho h hm f1 g1 fm1 gm1) → va_S A s.heap H1 locs1 → lv_has ls1 7 [(0, .ref b), (1, .ref (h 0)), (2, .ref (hm 0)), (3, .ref ho), (4, .int i)] → W p l e room_1 s m args below meth c H1 locs1 cells slots Q (F0 m 673 ls1 [])) : W p l e room_1 s m args below meth c H locs cells slots Q (F0 m 512 ls []) := by
  refine lv_aload_n C.1.1 C.1.2.1 dl_512 rfl (lv_at hl 2 rfl) ?_
  refine lv_aload_n C.1.1 C.1.2.1 dl_513 rfl (lv_at hl 0 rfl) ?_
  refine lv_iload C.1.1 C.1.2.1 dl_514 (lv_at hl 4 rfl) ?_
  refine lv_iconst (v := 1) C.1.1 C.1.2.1 dl_516 (by decide) ?_
  refine lv_iadd C.1.1 C.1.2.1 dl_517 ?_
  refine va_sld C.1.1 C.1.2.1 hX hbl hbA hS i1 dl_518 ?_
  have K : ∀ (os : List ck_O), os.all (fun o => ck_isI o && ck_keep 1 o) = true → ∀ (r : Option Value) (f1 : zz_F) (g1 : zz_G) (H1 : Heap) (locs1 : List Loc), (∃ o ∈ os, ck_gO hm o.1 r ∧ ck_gT fm f1 o.2) → ck_gI fbM gbM f1 g1 → va_P D vN (wW cI cZ cJ ho h hm f g f1 g1) H1 → va_D A (wW cI cZ cJ ho h hm f g f1 g1) → va_S A s.heap H1 locs1 → W p l e room_1 s m args below meth c H1 locs1 cells slots Q (F0 m (519 + 3) ls (r.toList ++ [])) := by
    intro os hos r f1 g1 H1 locs1 hq hI1 hP hD hS
    obtain ⟨o, ho1, hr, hT⟩ := hq
    have h9 := List.all_eq_true.mp hos o ho1
    simp only [Bool.and_eq_true] at h9
    have hk := ck_keep_ok h9.2 hT
    obtain ⟨x, rfl⟩ := ck_isI_ok h9.1 hr
    show W p l e room_1 s m args below meth c H1 locs1 cells slots Q (F0 m 522 ls [.int x])
    refine lv_pop C.1.1 C.1.2.1 dl_522 rfl ?_
    refine lv_goto (tgt := 673) C.1.1 C.1.2.1 dl_523 (by decide) ?_
    exact kk f g f1 g1 H1 locs1 _ hI hI1 (by unfold lw_rel at hrel ⊢; rw [hk]; exact hrel) hP hD hS hl
  exact lm_go (h := h) (hm := hm) (As := [.int (xs (i + 1).toNatClampNeg)]) C (c_m40 xL_ok) (cwV 1 C.1.2.2.2.2 (kk_gV kw_969 kw_970 kw_971 kw_9 kw_972) rfl rfl rfl (by decide +kernel) ⟨Nat.le_of_ble_eq_true rfl, Nat.le_of_ble_eq_true rfl⟩) hJ (List.forall_mem_cons.mpr ⟨hJ.1 0, List.forall_mem_cons.mpr ⟨hJ.1 1, List.forall_mem_cons.mpr ⟨hJ.1 3, List.forall_mem_cons.mpr ⟨hJ.1 13, List.forall_mem_cons.mpr ⟨hJ.1 22, fun _ h => absurd h List.not_mem_nil⟩⟩⟩⟩⟩) (⟨Or.inr ⟨0, List.mem_cons_self, rfl⟩, ⟨⟨_, rfl, ck_in_top _⟩, trivial⟩⟩) hP hD hS rfl hl.1 rfl dl_519 hf (K _ (by decide))
theorem lo_12 {p : Program} {l : Launch} {e : Env} {s : State} {m : MethodId} {args : Array Value} {below : List Frame} {meth : Method} {c : Code} {H : Heap} {locs : List Loc} {cells slots : Nat} {Q : State → Prop} {D : va_G} {B : Nat} {A : Nat → Prop} {h hm : Nat → Nat} {cI cZ cJ : ClassId} {ho : Nat} {f fm : zz_F} {g gm : zz_G} {ls : Array Slot} {b L : Nat} {xs : Nat → Int32} {i : Int32} {cx : Cond} (hfl : l.flags = flags0) (C : zz_Cx p m meth c code 7 ret s args (cx :: kk_W) "NightCyclerLaw" D vN (tyN cI cZ cJ) A B (xL B h)) (hX : va_X b L xs s s.heap) (hbl : b < s.heap.size) (hbA : ¬ A b) (i1 : vp_in (i + 1) L) (i2 : vp_in (i + 2) L) (hI : ck_gI fbG gbG f g) (hJ : ck_gI fbM gbM fm gm) (hrel : lw_rel f fm) (hP : va_P D vN (wW cI cZ cJ ho h hm f g fm gm) H) (hD : va_D A (wW cI cZ cJ ho h hm f g fm gm)) (hS : va_S A s.heap H locs) (hl : lv_has ls 7 [(0, .ref b), (1, .ref (h 0)), (2, .ref (hm 0)), (3, .ref ho), (4, .int i)]) (hf : cells + 1 ≤ room_1.cells ∧ slots + 6 ≤ room_1.slots) (kk : ∀ (f1 : zz_F) (g1 : zz_G) (fm1 : zz_F) (gm1 : zz_G) (H1 : Heap) (locs1 : List Loc) (ls1 : Array Slot), ck_gI fbG gbG f1 g1 → ck_gI fbM gbM fm1 gm1 → lw_rel f1 fm1 → va_P D vN (wW cI cZ cJ ho h hm f1 g1 fm1 gm1) H1 → va_D A (wW cI cZ cJ ho h hm f1 g1 fm1 gm1) → va_S A s.heap H1 locs1 → lv_has ls1 7 [(0, .ref b), (1, .ref (h 0)), (2, .ref (hm 0)), (3, .ref ho), (4, .int i)] → W p l e room_1 s m args below meth c H1 locs1 (cells + 1) (slots + 6) Q (F0 m 673 ls1 [])) : W p l e room_1 s m args below meth c H locs cells slots Q (F0 m 501 ls []) := by
  refine W.widen (k := cells + 1) (n := slots + 6) (Nat.le_succ _) (Nat.le_add_right _ _) ?_
  refine lv_aload_n C.1.1 C.1.2.1 dl_501 rfl (lv_at hl 1 rfl) ?_
  refine lv_aload_n C.1.1 C.1.2.1 dl_502 rfl (lv_at hl 0 rfl) ?_
  refine lv_iload C.1.1 C.1.2.1 dl_503 (lv_at hl 4 rfl) ?_
  refine lv_iconst (v := 1) C.1.1 C.1.2.1 dl_505 (by decide) ?_
  refine lv_iadd C.1.1 C.1.2.1 dl_506 ?_
  refine va_sld C.1.1 C.1.2.1 hX hbl hbA hS i1 dl_507 ?_
  have K : ∀ (os : List ck_O), os.all (fun o => ck_isI o && ck_keep 0 o) = true → ∀ (r : Option Value) (f1 : zz_F) (g1 : zz_G) (H1 : Heap) (locs1 : List Loc), (∃ o ∈ os, ck_gO h o.1 r ∧ ck_gT f f1 o.2) → ck_gI fbG gbG f1 g1 → va_P D vN (wW cI cZ cJ ho h hm f1 g1 fm gm) H1 → va_D A (wW cI cZ cJ ho h hm f1 g1 fm gm) → va_S A s.heap H1 locs1 → W p l e room_1 s m args below meth c H1 locs1 (cells + 1) (slots + 6) Q (F0 m (508 + 3) ls (r.toList ++ [])) := by
    intro os hos r f1 g1 H1 locs1 hq hI1 hP hD hS
    obtain ⟨o, ho1, hr, hT⟩ := hq
    have h9 := List.all_eq_true.mp hos o ho1
    simp only [Bool.and_eq_true] at h9
    have hk := ck_keep_ok h9.2 hT
    obtain ⟨x, rfl⟩ := ck_isI_ok h9.1 hr
    show W p l e room_1 s m args below meth c H1 locs1 (cells + 1) (slots + 6) Q (F0 m 511 ls [.int x])
    refine lv_pop C.1.1 C.1.2.1 dl_511 rfl ?_
    exact lo_12_m hfl C hX hbl hbA i1 i2 hI1 hJ (by unfold lw_rel at hrel ⊢; rw [hk]; exact hrel) hP hD hS hl hf kk
  exact lw_go (h := h) (hm := hm) (As := [.int (xs (i + 1).toNatClampNeg)]) C c_g80 (cwV 1 C.1.2.2.2.2 (kk_gV kw_355 kw_356 kw_357 kw_1 kw_358) rfl rfl rfl (by decide +kernel) ⟨Nat.le_of_ble_eq_true rfl, Nat.le_of_ble_eq_true rfl⟩) hI (List.forall_mem_cons.mpr ⟨hI.1 0, List.forall_mem_cons.mpr ⟨hI.1 3, fun _ h => absurd h List.not_mem_nil⟩⟩) (⟨Or.inr ⟨0, List.mem_cons_self, rfl⟩, ⟨⟨_, rfl, ck_in_top _⟩, trivial⟩⟩) hP hD hS rfl hl.1 rfl dl_508 hf (K _ (by decide))
theorem lo_13_m {p : Program} {l : Launch} {e : Env} {s : State} {m : MethodId} {args : Array Value} {below : List Frame} {meth : Method} {c : Code} {H : Heap} {locs : List Loc} {cells slots : Nat} {Q : State → Prop} {D : va_G} {B : Nat} {A : Nat → Prop} {h hm : Nat → Nat} {cI cZ cJ : ClassId} {ho : Nat} {f fm : zz_F} {g gm : zz_G} {ls : Array Slot} {b L : Nat} {xs : Nat → Int32} {i : Int32} {cx : Cond} (hfl : l.flags = flags0) (C : zz_Cx p m meth c code 7 ret s args (cx :: kk_W) "NightCyclerLaw" D vN (tyN cI cZ cJ) A B (xL B h)) (hX : va_X b L xs s s.heap) (hbl : b < s.heap.size) (hbA : ¬ A b) (i1 : vp_in (i + 1) L) (i2 : vp_in (i + 2) L) (hI : ck_gI fbG gbG f g) (hJ : ck_gI fbM gbM fm gm) (hrel : lw_rel f fm) (hP : va_P D vN (wW cI cZ cJ ho h hm f g fm gm) H) (hD : va_D A (wW cI cZ cJ ho h hm f g fm gm)) (hS : va_S A s.heap H locs) (hl : lv_has ls 7 [(0, .ref b), (1, .ref (h 0)), (2, .ref (hm 0)), (3, .ref ho), (4, .int i)]) (hf : cells ≤ room_1.cells ∧ slots ≤ room_1.slots) (kk : ∀ (f1 : zz_F) (g1 : zz_G) (fm1 : zz_F) (gm1 : zz_G) (H1 : Heap) (locs1 : List Loc) (ls1 : Array Slot), ck_gI fbG gbG f1 g1 → ck_gI fbM gbM fm1 gm1 → lw_rel f1 fm1 → va_P D vN (wW cI cZ cJ ho h hm f1 g1 fm1 gm1) H1 → va_D A (wW cI cZ cJ ho h hm f1 g1 fm1 gm1) → va_S A s.heap H1 locs1 → lv_has ls1 7 [(0, .ref b), (1, .ref (h 0)), (2, .ref (hm 0)), (3, .ref ho), (4, .int i)] → W p l e room_1 s m args below meth c H1 locs1 cells slots Q (F0 m 673 ls1 [])) : W p l e room_1 s m args below meth c H locs cells slots Q (F0 m 531 ls []) := by
  refine lv_aload_n C.1.1 C.1.2.1 dl_531 rfl (lv_at hl 2 rfl) ?_
  have K : ∀ (os : List ck_O), os.all (fun o => ck_isI o && ck_keep 1 o) = true → ∀ (r : Option Value) (f1 : zz_F) (g1 : zz_G) (H1 : Heap) (locs1 : List Loc), (∃ o ∈ os, ck_gO hm o.1 r ∧ ck_gT fm f1 o.2) → ck_gI fbM gbM f1 g1 → va_P D vN (wW cI cZ cJ ho h hm f g f1 g1) H1 → va_D A (wW cI cZ cJ ho h hm f g f1 g1) → va_S A s.heap H1 locs1 → W p l e room_1 s m args below meth c H1 locs1 cells slots Q (F0 m (532 + 3) ls (r.toList ++ [])) := by
    intro os hos r f1 g1 H1 locs1 hq hI1 hP hD hS
    obtain ⟨o, ho1, hr, hT⟩ := hq
    have h9 := List.all_eq_true.mp hos o ho1
    simp only [Bool.and_eq_true] at h9
    have hk := ck_keep_ok h9.2 hT
    obtain ⟨x, rfl⟩ := ck_isI_ok h9.1 hr
    show W p l e room_1 s m args below meth c H1 locs1 cells slots Q (F0 m 535 ls [.int x])
    refine lv_pop C.1.1 C.1.2.1 dl_535 rfl ?_
    refine lv_goto (tgt := 673) C.1.1 C.1.2.1 dl_536 (by decide) ?_
    exact kk f g f1 g1 H1 locs1 _ hI hI1 (by unfold lw_rel at hrel ⊢; rw [hk]; exact hrel) hP hD hS hl
  exact lm_go (h := h) (hm := hm) (As := []) C (c_m41 xL_ok) (cwV 0 C.1.2.2.2.2 (kk_gV kw_973 kw_974 kw_975 kw_9 kw_976) rfl rfl rfl (by decide +kernel) ⟨Nat.le_of_ble_eq_true rfl, Nat.le_of_ble_eq_true rfl⟩) hJ (List.forall_mem_cons.mpr ⟨hJ.1 0, List.forall_mem_cons.mpr ⟨hJ.1 1, List.forall_mem_cons.mpr ⟨hJ.1 3, List.forall_mem_cons.mpr ⟨hJ.1 13, List.forall_mem_cons.mpr ⟨hJ.1 22, fun _ h => absurd h List.not_mem_nil⟩⟩⟩⟩⟩) (⟨Or.inr ⟨0, List.mem_cons_self, rfl⟩, trivial⟩) hP hD hS rfl hl.1 rfl dl_532 hf (K _ (by decide))
theorem lo_13 {p : Program} {l : Launch} {e : Env} {s : State} {m : MethodId} {args : Array Value} {below : List Frame} {meth : Method} {c : Code} {H : Heap} {locs : List Loc} {cells slots : Nat} {Q : State → Prop} {D : va_G} {B : Nat} {A : Nat → Prop} {h hm : Nat → Nat} {cI cZ cJ : ClassId} {ho : Nat} {f fm : zz_F} {g gm : zz_G} {ls : Array Slot} {b L : Nat} {xs : Nat → Int32} {i : Int32} {cx : Cond} (hfl : l.flags = flags0) (C : zz_Cx p m meth c code 7 ret s args (cx :: kk_W) "NightCyclerLaw" D vN (tyN cI cZ cJ) A B (xL B h)) (hX : va_X b L xs s s.heap) (hbl : b < s.heap.size) (hbA : ¬ A b) (i1 : vp_in (i + 1) L) (i2 : vp_in (i + 2) L) (hI : ck_gI fbG gbG f g) (hJ : ck_gI fbM gbM fm gm) (hrel : lw_rel f fm) (hP : va_P D vN (wW cI cZ cJ ho h hm f g fm gm) H) (hD : va_D A (wW cI cZ cJ ho h hm f g fm gm)) (hS : va_S A s.heap H locs) (hl : lv_has ls 7 [(0, .ref b), (1, .ref (h 0)), (2, .ref (hm 0)), (3, .ref ho), (4, .int i)]) (hf : cells + 1 ≤ room_1.cells ∧ slots + 6 ≤ room_1.slots) (kk : ∀ (f1 : zz_F) (g1 : zz_G) (fm1 : zz_F) (gm1 : zz_G) (H1 : Heap) (locs1 : List Loc) (ls1 : Array Slot), ck_gI fbG gbG f1 g1 → ck_gI fbM gbM fm1 gm1 → lw_rel f1 fm1 → va_P D vN (wW cI cZ cJ ho h hm f1 g1 fm1 gm1) H1 → va_D A (wW cI cZ cJ ho h hm f1 g1 fm1 gm1) → va_S A s.heap H1 locs1 → lv_has ls1 7 [(0, .ref b), (1, .ref (h 0)), (2, .ref (hm 0)), (3, .ref ho), (4, .int i)] → W p l e room_1 s m args below meth c H1 locs1 (cells + 1) (slots + 6) Q (F0 m 673 ls1 [])) : W p l e room_1 s m args below meth c H locs cells slots Q (F0 m 526 ls []) := by
  refine W.widen (k := cells + 1) (n := slots + 6) (Nat.le_succ _) (Nat.le_add_right _ _) ?_
  refine lv_aload_n C.1.1 C.1.2.1 dl_526 rfl (lv_at hl 1 rfl) ?_
  have K : ∀ (os : List ck_O), os.all (fun o => ck_isI o && ck_keep 0 o) = true → ∀ (r : Option Value) (f1 : zz_F) (g1 : zz_G) (H1 : Heap) (locs1 : List Loc), (∃ o ∈ os, ck_gO h o.1 r ∧ ck_gT f f1 o.2) → ck_gI fbG gbG f1 g1 → va_P D vN (wW cI cZ cJ ho h hm f1 g1 fm gm) H1 → va_D A (wW cI cZ cJ ho h hm f1 g1 fm gm) → va_S A s.heap H1 locs1 → W p l e room_1 s m args below meth c H1 locs1 (cells + 1) (slots + 6) Q (F0 m (527 + 3) ls (r.toList ++ [])) := by
    intro os hos r f1 g1 H1 locs1 hq hI1 hP hD hS
    obtain ⟨o, ho1, hr, hT⟩ := hq
    have h9 := List.all_eq_true.mp hos o ho1
    simp only [Bool.and_eq_true] at h9
    have hk := ck_keep_ok h9.2 hT
    obtain ⟨x, rfl⟩ := ck_isI_ok h9.1 hr
    show W p l e room_1 s m args below meth c H1 locs1 (cells + 1) (slots + 6) Q (F0 m 530 ls [.int x])
    refine lv_pop C.1.1 C.1.2.1 dl_530 rfl ?_
    exact lo_13_m hfl C hX hbl hbA i1 i2 hI1 hJ (by unfold lw_rel at hrel ⊢; rw [hk]; exact hrel) hP hD hS hl hf kk
  exact lw_go (h := h) (hm := hm) (As := []) C c_g83 (cwV 0 C.1.2.2.2.2 (kk_gV kw_363 kw_364 kw_365 kw_1 kw_366) rfl rfl rfl (by decide +kernel) ⟨Nat.le_of_ble_eq_true rfl, Nat.le_of_ble_eq_true rfl⟩) hI (List.forall_mem_cons.mpr ⟨hI.1 0, List.forall_mem_cons.mpr ⟨hI.1 3, fun _ h => absurd h List.not_mem_nil⟩⟩) (⟨Or.inr ⟨0, List.mem_cons_self, rfl⟩, trivial⟩) hP hD hS rfl hl.1 rfl dl_527 hf (K _ (by decide))
theorem lo_14_m {p : Program} {l : Launch} {e : Env} {s : State} {m : MethodId} {args : Array Value} {below : List Frame} {meth : Method} {c : Code} {H : Heap} {locs : List Loc} {cells slots : Nat} {Q : State → Prop} {D : va_G} {B : Nat} {A : Nat → Prop} {h hm : Nat → Nat} {cI cZ cJ : ClassId} {ho : Nat} {f fm : zz_F} {g gm : zz_G} {ls : Array Slot} {b L : Nat} {xs : Nat → Int32} {i : Int32} {cx : Cond} (hfl : l.flags = flags0) (C : zz_Cx p m meth c code 7 ret s args (cx :: kk_W) "NightCyclerLaw" D vN (tyN cI cZ cJ) A B (xL B h)) (hX : va_X b L xs s s.heap) (hbl : b < s.heap.size) (hbA : ¬ A b) (i1 : vp_in (i + 1) L) (i2 : vp_in (i + 2) L) (hI : ck_gI fbG gbG f g) (hJ : ck_gI fbM gbM fm gm) (hrel : lw_rel f fm) (hP : va_P D vN (wW cI cZ cJ ho h hm f g fm gm) H) (hD : va_D A (wW cI cZ cJ ho h hm f g fm gm)) (hS : va_S A s.heap H locs) (hl : lv_has ls 7 [(0, .ref b), (1, .ref (h 0)), (2, .ref (hm 0)), (3, .ref ho), (4, .int i)]) (hf : cells ≤ room_1.cells ∧ slots ≤ room_1.slots) (kk : ∀ (f1 : zz_F) (g1 : zz_G) (fm1 : zz_F) (gm1 : zz_G) (H1 : Heap) (locs1 : List Loc) (ls1 : Array Slot), ck_gI fbG gbG f1 g1 → ck_gI fbM gbM fm1 gm1 → lw_rel f1 fm1 → va_P D vN (wW cI cZ cJ ho h hm f1 g1 fm1 gm1) H1 → va_D A (wW cI cZ cJ ho h hm f1 g1 fm1 gm1) → va_S A s.heap H1 locs1 → lv_has ls1 7 [(0, .ref b), (1, .ref (h 0)), (2, .ref (hm 0)), (3, .ref ho), (4, .int i)] → W p l e room_1 s m args below meth c H1 locs1 cells slots Q (F0 m 673 ls1 [])) : W p l e room_1 s m args below meth c H locs cells slots Q (F0 m 544 ls []) := by
  refine lv_aload_n C.1.1 C.1.2.1 dl_544 rfl (lv_at hl 2 rfl) ?_
  have K : ∀ (os : List ck_O), os.all (fun o => ck_isI o && ck_keep 1 o) = true → ∀ (r : Option Value) (f1 : zz_F) (g1 : zz_G) (H1 : Heap) (locs1 : List Loc), (∃ o ∈ os, ck_gO hm o.1 r ∧ ck_gT fm f1 o.2) → ck_gI fbM gbM f1 g1 → va_P D vN (wW cI cZ cJ ho h hm f g f1 g1) H1 → va_D A (wW cI cZ cJ ho h hm f g f1 g1) → va_S A s.heap H1 locs1 → W p l e room_1 s m args below meth c H1 locs1 cells slots Q (F0 m (545 + 3) ls (r.toList ++ [])) := by
    intro os hos r f1 g1 H1 locs1 hq hI1 hP hD hS
    obtain ⟨o, ho1, hr, hT⟩ := hq
    have h9 := List.all_eq_true.mp hos o ho1
    simp only [Bool.and_eq_true] at h9
    have hk := ck_keep_ok h9.2 hT
    obtain ⟨x, rfl⟩ := ck_isI_ok h9.1 hr
    show W p l e room_1 s m args below meth c H1 locs1 cells slots Q (F0 m 548 ls [.int x])
    refine lv_pop C.1.1 C.1.2.1 dl_548 rfl ?_
    refine lv_goto (tgt := 673) C.1.1 C.1.2.1 dl_549 (by decide) ?_
    exact kk f g f1 g1 H1 locs1 _ hI hI1 (by unfold lw_rel at hrel ⊢; rw [hk]; exact hrel) hP hD hS hl
  exact lm_go (h := h) (hm := hm) (As := []) C (c_m42 xL_ok) (cwV 0 C.1.2.2.2.2 (kk_gV kw_977 kw_978 kw_979 kw_9 kw_980) rfl rfl rfl (by decide +kernel) ⟨Nat.le_of_ble_eq_true rfl, Nat.le_of_ble_eq_true rfl⟩) hJ (List.forall_mem_cons.mpr ⟨hJ.1 0, List.forall_mem_cons.mpr ⟨hJ.1 1, List.forall_mem_cons.mpr ⟨hJ.1 3, List.forall_mem_cons.mpr ⟨hJ.1 13, List.forall_mem_cons.mpr ⟨hJ.1 22, fun _ h => absurd h List.not_mem_nil⟩⟩⟩⟩⟩) (⟨Or.inr ⟨0, List.mem_cons_self, rfl⟩, trivial⟩) hP hD hS rfl hl.1 rfl dl_545 hf (K _ (by decide))
theorem lo_14 {p : Program} {l : Launch} {e : Env} {s : State} {m : MethodId} {args : Array Value} {below : List Frame} {meth : Method} {c : Code} {H : Heap} {locs : List Loc} {cells slots : Nat} {Q : State → Prop} {D : va_G} {B : Nat} {A : Nat → Prop} {h hm : Nat → Nat} {cI cZ cJ : ClassId} {ho : Nat} {f fm : zz_F} {g gm : zz_G} {ls : Array Slot} {b L : Nat} {xs : Nat → Int32} {i : Int32} {cx : Cond} (hfl : l.flags = flags0) (C : zz_Cx p m meth c code 7 ret s args (cx :: kk_W) "NightCyclerLaw" D vN (tyN cI cZ cJ) A B (xL B h)) (hX : va_X b L xs s s.heap) (hbl : b < s.heap.size) (hbA : ¬ A b) (i1 : vp_in (i + 1) L) (i2 : vp_in (i + 2) L) (hI : ck_gI fbG gbG f g) (hJ : ck_gI fbM gbM fm gm) (hrel : lw_rel f fm) (hP : va_P D vN (wW cI cZ cJ ho h hm f g fm gm) H) (hD : va_D A (wW cI cZ cJ ho h hm f g fm gm)) (hS : va_S A s.heap H locs) (hl : lv_has ls 7 [(0, .ref b), (1, .ref (h 0)), (2, .ref (hm 0)), (3, .ref ho), (4, .int i)]) (hf : cells + 1 ≤ room_1.cells ∧ slots + 6 ≤ room_1.slots) (kk : ∀ (f1 : zz_F) (g1 : zz_G) (fm1 : zz_F) (gm1 : zz_G) (H1 : Heap) (locs1 : List Loc) (ls1 : Array Slot), ck_gI fbG gbG f1 g1 → ck_gI fbM gbM fm1 gm1 → lw_rel f1 fm1 → va_P D vN (wW cI cZ cJ ho h hm f1 g1 fm1 gm1) H1 → va_D A (wW cI cZ cJ ho h hm f1 g1 fm1 gm1) → va_S A s.heap H1 locs1 → lv_has ls1 7 [(0, .ref b), (1, .ref (h 0)), (2, .ref (hm 0)), (3, .ref ho), (4, .int i)] → W p l e room_1 s m args below meth c H1 locs1 (cells + 1) (slots + 6) Q (F0 m 673 ls1 [])) : W p l e room_1 s m args below meth c H locs cells slots Q (F0 m 539 ls []) := by
  refine W.widen (k := cells + 1) (n := slots + 6) (Nat.le_succ _) (Nat.le_add_right _ _) ?_
  refine lv_aload_n C.1.1 C.1.2.1 dl_539 rfl (lv_at hl 1 rfl) ?_
  have K : ∀ (os : List ck_O), os.all (fun o => ck_isI o && ck_keep 0 o) = true → ∀ (r : Option Value) (f1 : zz_F) (g1 : zz_G) (H1 : Heap) (locs1 : List Loc), (∃ o ∈ os, ck_gO h o.1 r ∧ ck_gT f f1 o.2) → ck_gI fbG gbG f1 g1 → va_P D vN (wW cI cZ cJ ho h hm f1 g1 fm gm) H1 → va_D A (wW cI cZ cJ ho h hm f1 g1 fm gm) → va_S A s.heap H1 locs1 → W p l e room_1 s m args below meth c H1 locs1 (cells + 1) (slots + 6) Q (F0 m (540 + 3) ls (r.toList ++ [])) := by
    intro os hos r f1 g1 H1 locs1 hq hI1 hP hD hS
    obtain ⟨o, ho1, hr, hT⟩ := hq
    have h9 := List.all_eq_true.mp hos o ho1
    simp only [Bool.and_eq_true] at h9
    have hk := ck_keep_ok h9.2 hT
    obtain ⟨x, rfl⟩ := ck_isI_ok h9.1 hr
    show W p l e room_1 s m args below meth c H1 locs1 (cells + 1) (slots + 6) Q (F0 m 543 ls [.int x])
    refine lv_pop C.1.1 C.1.2.1 dl_543 rfl ?_
    exact lo_14_m hfl C hX hbl hbA i1 i2 hI1 hJ (by unfold lw_rel at hrel ⊢; rw [hk]; exact hrel) hP hD hS hl hf kk
  exact lw_go (h := h) (hm := hm) (As := []) C c_g84 (cwV 0 C.1.2.2.2.2 (kk_gV kw_375 kw_376 kw_377 kw_1 kw_378) rfl rfl rfl (by decide +kernel) ⟨Nat.le_of_ble_eq_true rfl, Nat.le_of_ble_eq_true rfl⟩) hI (List.forall_mem_cons.mpr ⟨hI.1 0, List.forall_mem_cons.mpr ⟨hI.1 3, fun _ h => absurd h List.not_mem_nil⟩⟩) (⟨Or.inr ⟨0, List.mem_cons_self, rfl⟩, trivial⟩) hP hD hS rfl hl.1 rfl dl_540 hf (K _ (by decide))
theorem lo_15_c0g133 {p : Program} {l : Launch} {e : Env} {s : State} {m : MethodId} {args : Array Value} {below : List Frame} {meth : Method} {c : Code} {H : Heap} {locs : List Loc} {cells slots : Nat} {Q : State → Prop} {D : va_G} {B : Nat} {A : Nat → Prop} {h hm : Nat → Nat} {cI cZ cJ : ClassId} {ho : Nat} {f fm : zz_F} {g gm : zz_G} {ls : Array Slot} {b L : Nat} {xs : Nat → Int32} {i : Int32} {cx : Cond} (hfl : l.flags = flags0) (C : zz_Cx p m meth c code 7 ret s args (cx :: kk_W) "NightCyclerLaw" D vN (tyN cI cZ cJ) A B (xL B h)) (hX : va_X b L xs s s.heap) (hbl : b < s.heap.size) (hbA : ¬ A b) (i1 : vp_in (i + 1) L) (i2 : vp_in (i + 2) L) (hI : ck_gI fbG gbG f g) (hJ : ck_gI fbM gbM fm gm) (hrel : (f 0).toInt = 0 ∧ (fm 1).toInt = 1) (hP : va_P D vN (wW cI cZ cJ ho h hm f g fm gm) H) (hD : va_D A (wW cI cZ cJ ho h hm f g fm gm)) (hS : va_S A s.heap H locs) (hl : lv_has ls 7 [(0, .ref b), (1, .ref (h 0)), (2, .ref (hm 0)), (3, .ref ho), (4, .int i)]) (hc : (-2147483648 : Int) ≤ (xs (i + 1).toNatClampNeg).toInt ∧ (xs (i + 1).toNatClampNeg).toInt ≤ (-1 : Int)) (hf : cells + 1 ≤ room_1.cells ∧ slots + 6 ≤ room_1.slots) (kk : ∀ (f1 : zz_F) (g1 : zz_G) (fm1 : zz_F) (gm1 : zz_G) (H1 : Heap) (locs1 : List Loc) (ls1 : Array Slot), ck_gI fbG gbG f1 g1 → ck_gI fbM gbM fm1 gm1 → lw_rel f1 fm1 → va_P D vN (wW cI cZ cJ ho h hm f1 g1 fm1 gm1) H1 → va_D A (wW cI cZ cJ ho h hm f1 g1 fm1 gm1) → va_S A s.heap H1 locs1 → lv_has ls1 7 [(0, .ref b), (1, .ref (h 0)), (2, .ref (hm 0)), (3, .ref ho), (4, .int i)] → W p l e room_1 s m args below meth c H1 locs1 (cells + 1) (slots + 6) Q (F0 m 673 ls1 [])) : W p l e room_1 s m args below meth c H locs cells slots Q (F0 m 552 ls []) := by
  refine lv_aload_n C.1.1 C.1.2.1 dl_552 rfl (lv_at hl 1 rfl) ?_
  refine lv_aload_n C.1.1 C.1.2.1 dl_553 rfl (lv_at hl 0 rfl) ?_
  refine lv_iload C.1.1 C.1.2.1 dl_554 (lv_at hl 4 rfl) ?_
  refine lv_iconst (v := 1) C.1.1 C.1.2.1 dl_556 (by decide) ?_
  refine lv_iadd C.1.1 C.1.2.1 dl_557 ?_
  refine va_sld C.1.1 C.1.2.1 hX hbl hbA hS i1 dl_558 ?_
  refine lw_goS (n := 2) C (ww_cut (post := ck_po h f q_g133.2) (px := ck_px f q_g133.2) (fun sz => x_g133 hfl f g sz [.ref (h 0), .int (xs (i + 1).toNatClampNeg)] hI (List.forall_mem_cons.mpr ⟨⟨by show (0 : Int) ≤ (f 0).toInt; omega, by show (f 0).toInt ≤ (0 : Int); omega⟩, List.forall_mem_cons.mpr ⟨hI.1 3, fun _ h => absurd h List.not_mem_nil⟩⟩) (⟨Or.inr ⟨0, List.mem_cons_self, rfl⟩, ⟨⟨_, rfl, hc⟩, trivial⟩⟩)) ⟨rfl, rfl, by decide, by decide⟩ (ck_noI_ok (by decide)) (ck_ex2 (by decide))) kw_645 kw_646 kw_0 kw_647 (by decide +kernel) rfl rfl ⟨Nat.le_of_ble_eq_true rfl, Nat.le_of_ble_eq_true rfl⟩ hP hD hS rfl hl.1 rfl dl_559 hf (fun r f1 g1 H1 locs1 hq hP hD hS => ?_)
  obtain ⟨rfl, hI1, hv⟩ := ck_ansS (n := 1) (v := 0) (k := 0) (show q_g133.2.all (ck_ans "java/lang/IllegalStateException" "java/lang/IllegalArgumentException" 1 0 0) = true by decide) (by decide) hq
  have hI1 := gI_v (r := g 200) hI1
  show W p l e room_1 s m args below meth c H1 locs1 (cells + 1) (slots + 6) Q (F0 m 562 ls [.int (Int32.ofNat 1)])
  refine lv_istore (lv' := [(5, .int (Int32.ofNat 1)), (0, .ref b), (1, .ref (h 0)), (2, .ref (hm 0)), (3, .ref ho), (4, .int i)]) C.1.1 C.1.2.1 dl_562 hl (by decide) rfl (fun ls hl => ?_)
  refine lv_aload_n C.1.1 C.1.2.1 dl_564 rfl (lv_at hl 3 rfl) ?_
  refine lv_aload_n C.1.1 C.1.2.1 dl_565 rfl (lv_at hl 1 rfl) ?_
  refine lv_iload C.1.1 C.1.2.1 dl_566 (lv_at hl 5 rfl) ?_
  refine lv_iconst (v := 1) C.1.1 C.1.2.1 dl_568 (by decide) ?_
  refine lv_iadd C.1.1 C.1.2.1 dl_569 ?_
  refine va_sld C.1.1 C.1.2.1 hX hbl hbA hS i1 dl_570 ?_
  have K : ∀ (os : List ck_O), os.all (fun o => ck_isV o && ck_val 0 1 o && ck_val 1 1 o) = true → ∀ (r : Option Value) (f2 : zz_F) (g2 : zz_G) (H2 : Heap) (locs2 : List Loc), (∃ o ∈ os, ck_gO hm o.1 r ∧ ck_gT fm f2 o.2) → ck_gI fbM gbM f2 g2 → va_P D vN (wW cI cZ cJ ho h hm f1 (zz_v g1 200 (g 200)) f2 g2) H2 → va_D A (wW cI cZ cJ ho h hm f1 (zz_v g1 200 (g 200)) f2 g2) → va_S A s.heap H2 locs2 → W p l e room_1 s m args below meth c H2 locs2 (cells + 1) (slots + 6) Q (F0 m (571 + 3) ls (r.toList ++ [])) := by
    intro os hos r f2 g2 H2 locs2 hq2 hJ2 hP hD hS
    obtain ⟨o, ho1, hr, hT⟩ := hq2
    have h9 := List.all_eq_true.mp hos o ho1
    simp only [Bool.and_eq_true] at h9
    have hc0 := ck_val_ok h9.1.2 hT
    have hc1 := ck_val_ok h9.2 hT
    obtain rfl := ck_isV_ok h9.1.1 hr
    show W p l e room_1 s m args below meth c H2 locs2 (cells + 1) (slots + 6) Q (F0 m 574 ls [])
    refine lv_goto (tgt := 673) C.1.1 C.1.2.1 dl_574 (by decide) ?_
    exact kk f1 _ f2 g2 H2 locs2 _ hI1 hJ2 (Or.inr ⟨hv, hc1⟩) hP hD hS (lv_sub hl [1, 2, 3, 4, 5] rfl)
  exact lm_go (h := h) (hm := hm) (As := [.int (xs (i + 1).toNatClampNeg)]) C (c_m84 xL_ok) (cwV 1 C.1.2.2.2.2 (kk_gV kw_981 kw_982 kw_983 kw_9 kw_984) rfl rfl rfl (by decide +kernel) ⟨Nat.le_of_ble_eq_true rfl, Nat.le_of_ble_eq_true rfl⟩) hJ (List.forall_mem_cons.mpr ⟨hJ.1 0, List.forall_mem_cons.mpr ⟨⟨by show (1 : Int) ≤ (fm 1).toInt; omega, by show (fm 1).toInt ≤ (1 : Int); omega⟩, List.forall_mem_cons.mpr ⟨hJ.1 3, List.forall_mem_cons.mpr ⟨hJ.1 13, List.forall_mem_cons.mpr ⟨hJ.1 22, fun _ h => absurd h List.not_mem_nil⟩⟩⟩⟩⟩) ⟨Or.inr ⟨0, List.mem_cons_self, rfl⟩, ⟨⟨_, rfl, hc⟩, trivial⟩⟩ hP hD hS rfl hl.1 rfl dl_571 hf (K _ (by decide))
theorem lo_15_c0g134 {p : Program} {l : Launch} {e : Env} {s : State} {m : MethodId} {args : Array Value} {below : List Frame} {meth : Method} {c : Code} {H : Heap} {locs : List Loc} {cells slots : Nat} {Q : State → Prop} {D : va_G} {B : Nat} {A : Nat → Prop} {h hm : Nat → Nat} {cI cZ cJ : ClassId} {ho : Nat} {f fm : zz_F} {g gm : zz_G} {ls : Array Slot} {b L : Nat} {xs : Nat → Int32} {i : Int32} {cx : Cond} (hfl : l.flags = flags0) (C : zz_Cx p m meth c code 7 ret s args (cx :: kk_W) "NightCyclerLaw" D vN (tyN cI cZ cJ) A B (xL B h)) (hX : va_X b L xs s s.heap) (hbl : b < s.heap.size) (hbA : ¬ A b) (i1 : vp_in (i + 1) L) (i2 : vp_in (i + 2) L) (hI : ck_gI fbG gbG f g) (hJ : ck_gI fbM gbM fm gm) (hrel : (f 0).toInt = 0 ∧ (fm 1).toInt = 1) (hP : va_P D vN (wW cI cZ cJ ho h hm f g fm gm) H) (hD : va_D A (wW cI cZ cJ ho h hm f g fm gm)) (hS : va_S A s.heap H locs) (hl : lv_has ls 7 [(0, .ref b), (1, .ref (h 0)), (2, .ref (hm 0)), (3, .ref ho), (4, .int i)]) (hc : (0 : Int) ≤ (xs (i + 1).toNatClampNeg).toInt ∧ (xs (i + 1).toNatClampNeg).toInt ≤ (6 : Int)) (hf : cells + 1 ≤ room_1.cells ∧ slots + 6 ≤ room_1.slots) (kk : ∀ (f1 : zz_F) (g1 : zz_G) (fm1 : zz_F) (gm1 : zz_G) (H1 : Heap) (locs1 : List Loc) (ls1 : Array Slot), ck_gI fbG gbG f1 g1 → ck_gI fbM gbM fm1 gm1 → lw_rel f1 fm1 → va_P D vN (wW cI cZ cJ ho h hm f1 g1 fm1 gm1) H1 → va_D A (wW cI cZ cJ ho h hm f1 g1 fm1 gm1) → va_S A s.heap H1 locs1 → lv_has ls1 7 [(0, .ref b), (1, .ref (h 0)), (2, .ref (hm 0)), (3, .ref ho), (4, .int i)] → W p l e room_1 s m args below meth c H1 locs1 (cells + 1) (slots + 6) Q (F0 m 673 ls1 [])) : W p l e room_1 s m args below meth c H locs cells slots Q (F0 m 552 ls []) := by
  refine lv_aload_n C.1.1 C.1.2.1 dl_552 rfl (lv_at hl 1 rfl) ?_
  refine lv_aload_n C.1.1 C.1.2.1 dl_553 rfl (lv_at hl 0 rfl) ?_
  refine lv_iload C.1.1 C.1.2.1 dl_554 (lv_at hl 4 rfl) ?_
  refine lv_iconst (v := 1) C.1.1 C.1.2.1 dl_556 (by decide) ?_
  refine lv_iadd C.1.1 C.1.2.1 dl_557 ?_
  refine va_sld C.1.1 C.1.2.1 hX hbl hbA hS i1 dl_558 ?_
  refine lw_goS (n := 2) C (ww_cut (post := ck_po h f q_g134.2) (px := ck_px f q_g134.2) (fun sz => x_g134 hfl f g sz [.ref (h 0), .int (xs (i + 1).toNatClampNeg)] hI (List.forall_mem_cons.mpr ⟨⟨by show (0 : Int) ≤ (f 0).toInt; omega, by show (f 0).toInt ≤ (0 : Int); omega⟩, List.forall_mem_cons.mpr ⟨hI.1 3, fun _ h => absurd h List.not_mem_nil⟩⟩) (⟨Or.inr ⟨0, List.mem_cons_self, rfl⟩, ⟨⟨_, rfl, hc⟩, trivial⟩⟩)) ⟨rfl, rfl, by decide, by decide⟩ (ck_noI_ok (by decide)) (ck_ex2 (by decide))) kw_645 kw_646 kw_0 kw_647 (by decide +kernel) rfl rfl ⟨Nat.le_of_ble_eq_true rfl, Nat.le_of_ble_eq_true rfl⟩ hP hD hS rfl hl.1 rfl dl_559 hf (fun r f1 g1 H1 locs1 hq hP hD hS => ?_)
  obtain ⟨rfl, hI1, hv⟩ := ck_ansS (n := 1) (v := 0) (k := 0) (show q_g134.2.all (ck_ans "java/lang/IllegalStateException" "java/lang/IllegalArgumentException" 1 0 0) = true by decide) (by decide) hq
  have hI1 := gI_v (r := g 200) hI1
  show W p l e room_1 s m args below meth c H1 locs1 (cells + 1) (slots + 6) Q (F0 m 562 ls [.int (Int32.ofNat 1)])
  refine lv_istore (lv' := [(5, .int (Int32.ofNat 1)), (0, .ref b), (1, .ref (h 0)), (2, .ref (hm 0)), (3, .ref ho), (4, .int i)]) C.1.1 C.1.2.1 dl_562 hl (by decide) rfl (fun ls hl => ?_)
  refine lv_aload_n C.1.1 C.1.2.1 dl_564 rfl (lv_at hl 3 rfl) ?_
  refine lv_aload_n C.1.1 C.1.2.1 dl_565 rfl (lv_at hl 1 rfl) ?_
  refine lv_iload C.1.1 C.1.2.1 dl_566 (lv_at hl 5 rfl) ?_
  refine lv_iconst (v := 1) C.1.1 C.1.2.1 dl_568 (by decide) ?_
  refine lv_iadd C.1.1 C.1.2.1 dl_569 ?_
  refine va_sld C.1.1 C.1.2.1 hX hbl hbA hS i1 dl_570 ?_
  have K : ∀ (os : List ck_O), os.all (fun o => ck_isV o && ck_val 0 1 o && ck_val 1 1 o) = true → ∀ (r : Option Value) (f2 : zz_F) (g2 : zz_G) (H2 : Heap) (locs2 : List Loc), (∃ o ∈ os, ck_gO hm o.1 r ∧ ck_gT fm f2 o.2) → ck_gI fbM gbM f2 g2 → va_P D vN (wW cI cZ cJ ho h hm f1 (zz_v g1 200 (g 200)) f2 g2) H2 → va_D A (wW cI cZ cJ ho h hm f1 (zz_v g1 200 (g 200)) f2 g2) → va_S A s.heap H2 locs2 → W p l e room_1 s m args below meth c H2 locs2 (cells + 1) (slots + 6) Q (F0 m (571 + 3) ls (r.toList ++ [])) := by
    intro os hos r f2 g2 H2 locs2 hq2 hJ2 hP hD hS
    obtain ⟨o, ho1, hr, hT⟩ := hq2
    have h9 := List.all_eq_true.mp hos o ho1
    simp only [Bool.and_eq_true] at h9
    have hc0 := ck_val_ok h9.1.2 hT
    have hc1 := ck_val_ok h9.2 hT
    obtain rfl := ck_isV_ok h9.1.1 hr
    show W p l e room_1 s m args below meth c H2 locs2 (cells + 1) (slots + 6) Q (F0 m 574 ls [])
    refine lv_goto (tgt := 673) C.1.1 C.1.2.1 dl_574 (by decide) ?_
    exact kk f1 _ f2 g2 H2 locs2 _ hI1 hJ2 (Or.inr ⟨hv, hc1⟩) hP hD hS (lv_sub hl [1, 2, 3, 4, 5] rfl)
  exact lm_go (h := h) (hm := hm) (As := [.int (xs (i + 1).toNatClampNeg)]) C (c_m85 xL_ok) (cwV 1 C.1.2.2.2.2 (kk_gV kw_981 kw_982 kw_983 kw_9 kw_984) rfl rfl rfl (by decide +kernel) ⟨Nat.le_of_ble_eq_true rfl, Nat.le_of_ble_eq_true rfl⟩) hJ (List.forall_mem_cons.mpr ⟨hJ.1 0, List.forall_mem_cons.mpr ⟨⟨by show (1 : Int) ≤ (fm 1).toInt; omega, by show (fm 1).toInt ≤ (1 : Int); omega⟩, List.forall_mem_cons.mpr ⟨hJ.1 3, List.forall_mem_cons.mpr ⟨hJ.1 13, List.forall_mem_cons.mpr ⟨hJ.1 22, fun _ h => absurd h List.not_mem_nil⟩⟩⟩⟩⟩) ⟨Or.inr ⟨0, List.mem_cons_self, rfl⟩, ⟨⟨_, rfl, hc⟩, trivial⟩⟩ hP hD hS rfl hl.1 rfl dl_571 hf (K _ (by decide))
theorem lo_15_c0g135 {p : Program} {l : Launch} {e : Env} {s : State} {m : MethodId} {args : Array Value} {below : List Frame} {meth : Method} {c : Code} {H : Heap} {locs : List Loc} {cells slots : Nat} {Q : State → Prop} {D : va_G} {B : Nat} {A : Nat → Prop} {h hm : Nat → Nat} {cI cZ cJ : ClassId} {ho : Nat} {f fm : zz_F} {g gm : zz_G} {ls : Array Slot} {b L : Nat} {xs : Nat → Int32} {i : Int32} {cx : Cond} (hfl : l.flags = flags0) (C : zz_Cx p m meth c code 7 ret s args (cx :: kk_W) "NightCyclerLaw" D vN (tyN cI cZ cJ) A B (xL B h)) (hX : va_X b L xs s s.heap) (hbl : b < s.heap.size) (hbA : ¬ A b) (i1 : vp_in (i + 1) L) (i2 : vp_in (i + 2) L) (hI : ck_gI fbG gbG f g) (hJ : ck_gI fbM gbM fm gm) (hrel : (f 0).toInt = 0 ∧ (fm 1).toInt = 1) (hP : va_P D vN (wW cI cZ cJ ho h hm f g fm gm) H) (hD : va_D A (wW cI cZ cJ ho h hm f g fm gm)) (hS : va_S A s.heap H locs) (hl : lv_has ls 7 [(0, .ref b), (1, .ref (h 0)), (2, .ref (hm 0)), (3, .ref ho), (4, .int i)]) (hc : (7 : Int) ≤ (xs (i + 1).toNatClampNeg).toInt ∧ (xs (i + 1).toNatClampNeg).toInt ≤ (2147483647 : Int)) (hf : cells + 1 ≤ room_1.cells ∧ slots + 6 ≤ room_1.slots) (kk : ∀ (f1 : zz_F) (g1 : zz_G) (fm1 : zz_F) (gm1 : zz_G) (H1 : Heap) (locs1 : List Loc) (ls1 : Array Slot), ck_gI fbG gbG f1 g1 → ck_gI fbM gbM fm1 gm1 → lw_rel f1 fm1 → va_P D vN (wW cI cZ cJ ho h hm f1 g1 fm1 gm1) H1 → va_D A (wW cI cZ cJ ho h hm f1 g1 fm1 gm1) → va_S A s.heap H1 locs1 → lv_has ls1 7 [(0, .ref b), (1, .ref (h 0)), (2, .ref (hm 0)), (3, .ref ho), (4, .int i)] → W p l e room_1 s m args below meth c H1 locs1 (cells + 1) (slots + 6) Q (F0 m 673 ls1 [])) : W p l e room_1 s m args below meth c H locs cells slots Q (F0 m 552 ls []) := by
  refine lv_aload_n C.1.1 C.1.2.1 dl_552 rfl (lv_at hl 1 rfl) ?_
  refine lv_aload_n C.1.1 C.1.2.1 dl_553 rfl (lv_at hl 0 rfl) ?_
  refine lv_iload C.1.1 C.1.2.1 dl_554 (lv_at hl 4 rfl) ?_
  refine lv_iconst (v := 1) C.1.1 C.1.2.1 dl_556 (by decide) ?_
  refine lv_iadd C.1.1 C.1.2.1 dl_557 ?_
  refine va_sld C.1.1 C.1.2.1 hX hbl hbA hS i1 dl_558 ?_
  refine lw_goS (n := 2) C (ww_cut (post := ck_po h f q_g135.2) (px := ck_px f q_g135.2) (fun sz => x_g135 hfl f g sz [.ref (h 0), .int (xs (i + 1).toNatClampNeg)] hI (List.forall_mem_cons.mpr ⟨⟨by show (0 : Int) ≤ (f 0).toInt; omega, by show (f 0).toInt ≤ (0 : Int); omega⟩, List.forall_mem_cons.mpr ⟨hI.1 3, fun _ h => absurd h List.not_mem_nil⟩⟩) (⟨Or.inr ⟨0, List.mem_cons_self, rfl⟩, ⟨⟨_, rfl, hc⟩, trivial⟩⟩)) ⟨rfl, rfl, by decide, by decide⟩ (ck_noI_ok (by decide)) (ck_ex2 (by decide))) kw_645 kw_646 kw_0 kw_647 (by decide +kernel) rfl rfl ⟨Nat.le_of_ble_eq_true rfl, Nat.le_of_ble_eq_true rfl⟩ hP hD hS rfl hl.1 rfl dl_559 hf (fun r f1 g1 H1 locs1 hq hP hD hS => ?_)
  obtain ⟨rfl, hI1, hv⟩ := ck_ansS (n := 1) (v := 0) (k := 0) (show q_g135.2.all (ck_ans "java/lang/IllegalStateException" "java/lang/IllegalArgumentException" 1 0 0) = true by decide) (by decide) hq
  have hI1 := gI_v (r := g 200) hI1
  show W p l e room_1 s m args below meth c H1 locs1 (cells + 1) (slots + 6) Q (F0 m 562 ls [.int (Int32.ofNat 1)])
  refine lv_istore (lv' := [(5, .int (Int32.ofNat 1)), (0, .ref b), (1, .ref (h 0)), (2, .ref (hm 0)), (3, .ref ho), (4, .int i)]) C.1.1 C.1.2.1 dl_562 hl (by decide) rfl (fun ls hl => ?_)
  refine lv_aload_n C.1.1 C.1.2.1 dl_564 rfl (lv_at hl 3 rfl) ?_
  refine lv_aload_n C.1.1 C.1.2.1 dl_565 rfl (lv_at hl 1 rfl) ?_
  refine lv_iload C.1.1 C.1.2.1 dl_566 (lv_at hl 5 rfl) ?_
  refine lv_iconst (v := 1) C.1.1 C.1.2.1 dl_568 (by decide) ?_
  refine lv_iadd C.1.1 C.1.2.1 dl_569 ?_
  refine va_sld C.1.1 C.1.2.1 hX hbl hbA hS i1 dl_570 ?_
  have K : ∀ (os : List ck_O), os.all (fun o => ck_isV o && ck_val 0 1 o && ck_val 1 1 o) = true → ∀ (r : Option Value) (f2 : zz_F) (g2 : zz_G) (H2 : Heap) (locs2 : List Loc), (∃ o ∈ os, ck_gO hm o.1 r ∧ ck_gT fm f2 o.2) → ck_gI fbM gbM f2 g2 → va_P D vN (wW cI cZ cJ ho h hm f1 (zz_v g1 200 (g 200)) f2 g2) H2 → va_D A (wW cI cZ cJ ho h hm f1 (zz_v g1 200 (g 200)) f2 g2) → va_S A s.heap H2 locs2 → W p l e room_1 s m args below meth c H2 locs2 (cells + 1) (slots + 6) Q (F0 m (571 + 3) ls (r.toList ++ [])) := by
    intro os hos r f2 g2 H2 locs2 hq2 hJ2 hP hD hS
    obtain ⟨o, ho1, hr, hT⟩ := hq2
    have h9 := List.all_eq_true.mp hos o ho1
    simp only [Bool.and_eq_true] at h9
    have hc0 := ck_val_ok h9.1.2 hT
    have hc1 := ck_val_ok h9.2 hT
    obtain rfl := ck_isV_ok h9.1.1 hr
    show W p l e room_1 s m args below meth c H2 locs2 (cells + 1) (slots + 6) Q (F0 m 574 ls [])
    refine lv_goto (tgt := 673) C.1.1 C.1.2.1 dl_574 (by decide) ?_
    exact kk f1 _ f2 g2 H2 locs2 _ hI1 hJ2 (Or.inr ⟨hv, hc1⟩) hP hD hS (lv_sub hl [1, 2, 3, 4, 5] rfl)
  exact lm_go (h := h) (hm := hm) (As := [.int (xs (i + 1).toNatClampNeg)]) C (c_m86 xL_ok) (cwV 1 C.1.2.2.2.2 (kk_gV kw_981 kw_982 kw_983 kw_9 kw_984) rfl rfl rfl (by decide +kernel) ⟨Nat.le_of_ble_eq_true rfl, Nat.le_of_ble_eq_true rfl⟩) hJ (List.forall_mem_cons.mpr ⟨hJ.1 0, List.forall_mem_cons.mpr ⟨⟨by show (1 : Int) ≤ (fm 1).toInt; omega, by show (fm 1).toInt ≤ (1 : Int); omega⟩, List.forall_mem_cons.mpr ⟨hJ.1 3, List.forall_mem_cons.mpr ⟨hJ.1 13, List.forall_mem_cons.mpr ⟨hJ.1 22, fun _ h => absurd h List.not_mem_nil⟩⟩⟩⟩⟩) ⟨Or.inr ⟨0, List.mem_cons_self, rfl⟩, ⟨⟨_, rfl, hc⟩, trivial⟩⟩ hP hD hS rfl hl.1 rfl dl_571 hf (K _ (by decide))
theorem lo_15_c1g150 {p : Program} {l : Launch} {e : Env} {s : State} {m : MethodId} {args : Array Value} {below : List Frame} {meth : Method} {c : Code} {H : Heap} {locs : List Loc} {cells slots : Nat} {Q : State → Prop} {D : va_G} {B : Nat} {A : Nat → Prop} {h hm : Nat → Nat} {cI cZ cJ : ClassId} {ho : Nat} {f fm : zz_F} {g gm : zz_G} {ls : Array Slot} {b L : Nat} {xs : Nat → Int32} {i : Int32} {cx : Cond} (hfl : l.flags = flags0) (C : zz_Cx p m meth c code 7 ret s args (cx :: kk_W) "NightCyclerLaw" D vN (tyN cI cZ cJ) A B (xL B h)) (hX : va_X b L xs s s.heap) (hbl : b < s.heap.size) (hbA : ¬ A b) (i1 : vp_in (i + 1) L) (i2 : vp_in (i + 2) L) (hI : ck_gI fbG gbG f g) (hJ : ck_gI fbM gbM fm gm) (hrel : (f 0).toInt = 1 ∧ (fm 1).toInt = 0) (hP : va_P D vN (wW cI cZ cJ ho h hm f g fm gm) H) (hD : va_D A (wW cI cZ cJ ho h hm f g fm gm)) (hS : va_S A s.heap H locs) (hl : lv_has ls 7 [(0, .ref b), (1, .ref (h 0)), (2, .ref (hm 0)), (3, .ref ho), (4, .int i)]) (hc : (-2147483648 : Int) ≤ (xs (i + 1).toNatClampNeg).toInt ∧ (xs (i + 1).toNatClampNeg).toInt ≤ (-1 : Int)) (hf : cells + 1 ≤ room_1.cells ∧ slots + 6 ≤ room_1.slots) (kk : ∀ (f1 : zz_F) (g1 : zz_G) (fm1 : zz_F) (gm1 : zz_G) (H1 : Heap) (locs1 : List Loc) (ls1 : Array Slot), ck_gI fbG gbG f1 g1 → ck_gI fbM gbM fm1 gm1 → lw_rel f1 fm1 → va_P D vN (wW cI cZ cJ ho h hm f1 g1 fm1 gm1) H1 → va_D A (wW cI cZ cJ ho h hm f1 g1 fm1 gm1) → va_S A s.heap H1 locs1 → lv_has ls1 7 [(0, .ref b), (1, .ref (h 0)), (2, .ref (hm 0)), (3, .ref ho), (4, .int i)] → W p l e room_1 s m args below meth c H1 locs1 (cells + 1) (slots + 6) Q (F0 m 673 ls1 [])) : W p l e room_1 s m args below meth c H locs cells slots Q (F0 m 552 ls []) := by
  refine lv_aload_n C.1.1 C.1.2.1 dl_552 rfl (lv_at hl 1 rfl) ?_
  refine lv_aload_n C.1.1 C.1.2.1 dl_553 rfl (lv_at hl 0 rfl) ?_
  refine lv_iload C.1.1 C.1.2.1 dl_554 (lv_at hl 4 rfl) ?_
  refine lv_iconst (v := 1) C.1.1 C.1.2.1 dl_556 (by decide) ?_
  refine lv_iadd C.1.1 C.1.2.1 dl_557 ?_
  refine va_sld C.1.1 C.1.2.1 hX hbl hbA hS i1 dl_558 ?_
  refine lw_goS (n := 2) C (ww_cut (post := ck_po h f q_g150.2) (px := ck_px f q_g150.2) (fun sz => x_g150 hfl f g sz [.ref (h 0), .int (xs (i + 1).toNatClampNeg)] hI (List.forall_mem_cons.mpr ⟨⟨by show (1 : Int) ≤ (f 0).toInt; omega, by show (f 0).toInt ≤ (1 : Int); omega⟩, List.forall_mem_cons.mpr ⟨hI.1 3, fun _ h => absurd h List.not_mem_nil⟩⟩) (⟨Or.inr ⟨0, List.mem_cons_self, rfl⟩, ⟨⟨_, rfl, hc⟩, trivial⟩⟩)) ⟨rfl, rfl, by decide, by decide⟩ (ck_noI_ok (by decide)) (ck_ex2 (by decide))) kw_645 kw_646 kw_0 kw_647 (by decide +kernel) rfl rfl ⟨Nat.le_of_ble_eq_true rfl, Nat.le_of_ble_eq_true rfl⟩ hP hD hS rfl hl.1 rfl dl_559 hf (fun r f1 g1 H1 locs1 hq hP hD hS => ?_)
  obtain ⟨rfl, hI1, hv⟩ := ck_ansS (n := 2) (v := 1) (k := 0) (show q_g150.2.all (ck_ans "java/lang/IllegalStateException" "java/lang/IllegalArgumentException" 2 0 1) = true by decide) (by decide) hq
  have hI1 := gI_v (r := g 200) hI1
  show W p l e room_1 s m args below meth c H1 locs1 (cells + 1) (slots + 6) Q (F0 m 562 ls [.int (Int32.ofNat 2)])
  refine lv_istore (lv' := [(5, .int (Int32.ofNat 2)), (0, .ref b), (1, .ref (h 0)), (2, .ref (hm 0)), (3, .ref ho), (4, .int i)]) C.1.1 C.1.2.1 dl_562 hl (by decide) rfl (fun ls hl => ?_)
  refine lv_aload_n C.1.1 C.1.2.1 dl_564 rfl (lv_at hl 3 rfl) ?_
  refine lv_aload_n C.1.1 C.1.2.1 dl_565 rfl (lv_at hl 1 rfl) ?_
  refine lv_iload C.1.1 C.1.2.1 dl_566 (lv_at hl 5 rfl) ?_
  refine lv_iconst (v := 1) C.1.1 C.1.2.1 dl_568 (by decide) ?_
  refine lv_iadd C.1.1 C.1.2.1 dl_569 ?_
  refine va_sld C.1.1 C.1.2.1 hX hbl hbA hS i1 dl_570 ?_
  have K : ∀ (os : List ck_O), os.all (fun o => ck_isV o && ck_val 0 2 o && ck_val 1 0 o) = true → ∀ (r : Option Value) (f2 : zz_F) (g2 : zz_G) (H2 : Heap) (locs2 : List Loc), (∃ o ∈ os, ck_gO hm o.1 r ∧ ck_gT fm f2 o.2) → ck_gI fbM gbM f2 g2 → va_P D vN (wW cI cZ cJ ho h hm f1 (zz_v g1 200 (g 200)) f2 g2) H2 → va_D A (wW cI cZ cJ ho h hm f1 (zz_v g1 200 (g 200)) f2 g2) → va_S A s.heap H2 locs2 → W p l e room_1 s m args below meth c H2 locs2 (cells + 1) (slots + 6) Q (F0 m (571 + 3) ls (r.toList ++ [])) := by
    intro os hos r f2 g2 H2 locs2 hq2 hJ2 hP hD hS
    obtain ⟨o, ho1, hr, hT⟩ := hq2
    have h9 := List.all_eq_true.mp hos o ho1
    simp only [Bool.and_eq_true] at h9
    have hc0 := ck_val_ok h9.1.2 hT
    have hc1 := ck_val_ok h9.2 hT
    obtain rfl := ck_isV_ok h9.1.1 hr
    show W p l e room_1 s m args below meth c H2 locs2 (cells + 1) (slots + 6) Q (F0 m 574 ls [])
    refine lv_goto (tgt := 673) C.1.1 C.1.2.1 dl_574 (by decide) ?_
    exact kk f1 _ f2 g2 H2 locs2 _ hI1 hJ2 (Or.inl ⟨hv, hc1⟩) hP hD hS (lv_sub hl [1, 2, 3, 4, 5] rfl)
  exact lm_go (h := h) (hm := hm) (As := [.int (xs (i + 1).toNatClampNeg)]) C (c_m65 xL_ok) (cwV 1 C.1.2.2.2.2 (kk_gV kw_981 kw_982 kw_983 kw_9 kw_984) rfl rfl rfl (by decide +kernel) ⟨Nat.le_of_ble_eq_true rfl, Nat.le_of_ble_eq_true rfl⟩) hJ (List.forall_mem_cons.mpr ⟨hJ.1 0, List.forall_mem_cons.mpr ⟨⟨by show (0 : Int) ≤ (fm 1).toInt; omega, by show (fm 1).toInt ≤ (0 : Int); omega⟩, List.forall_mem_cons.mpr ⟨hJ.1 3, List.forall_mem_cons.mpr ⟨hJ.1 13, List.forall_mem_cons.mpr ⟨hJ.1 22, fun _ h => absurd h List.not_mem_nil⟩⟩⟩⟩⟩) ⟨Or.inr ⟨0, List.mem_cons_self, rfl⟩, ⟨⟨_, rfl, hc⟩, trivial⟩⟩ hP hD hS rfl hl.1 rfl dl_571 hf (K _ (by decide))
theorem lo_15_c1g151 {p : Program} {l : Launch} {e : Env} {s : State} {m : MethodId} {args : Array Value} {below : List Frame} {meth : Method} {c : Code} {H : Heap} {locs : List Loc} {cells slots : Nat} {Q : State → Prop} {D : va_G} {B : Nat} {A : Nat → Prop} {h hm : Nat → Nat} {cI cZ cJ : ClassId} {ho : Nat} {f fm : zz_F} {g gm : zz_G} {ls : Array Slot} {b L : Nat} {xs : Nat → Int32} {i : Int32} {cx : Cond} (hfl : l.flags = flags0) (C : zz_Cx p m meth c code 7 ret s args (cx :: kk_W) "NightCyclerLaw" D vN (tyN cI cZ cJ) A B (xL B h)) (hX : va_X b L xs s s.heap) (hbl : b < s.heap.size) (hbA : ¬ A b) (i1 : vp_in (i + 1) L) (i2 : vp_in (i + 2) L) (hI : ck_gI fbG gbG f g) (hJ : ck_gI fbM gbM fm gm) (hrel : (f 0).toInt = 1 ∧ (fm 1).toInt = 0) (hP : va_P D vN (wW cI cZ cJ ho h hm f g fm gm) H) (hD : va_D A (wW cI cZ cJ ho h hm f g fm gm)) (hS : va_S A s.heap H locs) (hl : lv_has ls 7 [(0, .ref b), (1, .ref (h 0)), (2, .ref (hm 0)), (3, .ref ho), (4, .int i)]) (hc : (0 : Int) ≤ (xs (i + 1).toNatClampNeg).toInt ∧ (xs (i + 1).toNatClampNeg).toInt ≤ (6 : Int)) (hf : cells + 1 ≤ room_1.cells ∧ slots + 6 ≤ room_1.slots) (kk : ∀ (f1 : zz_F) (g1 : zz_G) (fm1 : zz_F) (gm1 : zz_G) (H1 : Heap) (locs1 : List Loc) (ls1 : Array Slot), ck_gI fbG gbG f1 g1 → ck_gI fbM gbM fm1 gm1 → lw_rel f1 fm1 → va_P D vN (wW cI cZ cJ ho h hm f1 g1 fm1 gm1) H1 → va_D A (wW cI cZ cJ ho h hm f1 g1 fm1 gm1) → va_S A s.heap H1 locs1 → lv_has ls1 7 [(0, .ref b), (1, .ref (h 0)), (2, .ref (hm 0)), (3, .ref ho), (4, .int i)] → W p l e room_1 s m args below meth c H1 locs1 (cells + 1) (slots + 6) Q (F0 m 673 ls1 [])) : W p l e room_1 s m args below meth c H locs cells slots Q (F0 m 552 ls []) := by
  refine lv_aload_n C.1.1 C.1.2.1 dl_552 rfl (lv_at hl 1 rfl) ?_
  refine lv_aload_n C.1.1 C.1.2.1 dl_553 rfl (lv_at hl 0 rfl) ?_
  refine lv_iload C.1.1 C.1.2.1 dl_554 (lv_at hl 4 rfl) ?_
  refine lv_iconst (v := 1) C.1.1 C.1.2.1 dl_556 (by decide) ?_
  refine lv_iadd C.1.1 C.1.2.1 dl_557 ?_
  refine va_sld C.1.1 C.1.2.1 hX hbl hbA hS i1 dl_558 ?_
  refine lw_goS (n := 2) C (ww_cut (post := ck_po h f q_g151.2) (px := ck_px f q_g151.2) (fun sz => x_g151 hfl f g sz [.ref (h 0), .int (xs (i + 1).toNatClampNeg)] hI (List.forall_mem_cons.mpr ⟨⟨by show (1 : Int) ≤ (f 0).toInt; omega, by show (f 0).toInt ≤ (1 : Int); omega⟩, List.forall_mem_cons.mpr ⟨hI.1 3, fun _ h => absurd h List.not_mem_nil⟩⟩) (⟨Or.inr ⟨0, List.mem_cons_self, rfl⟩, ⟨⟨_, rfl, hc⟩, trivial⟩⟩)) ⟨rfl, rfl, by decide, by decide⟩ (ck_noI_ok (by decide)) (ck_ex2 (by decide))) kw_645 kw_646 kw_0 kw_647 (by decide +kernel) rfl rfl ⟨Nat.le_of_ble_eq_true rfl, Nat.le_of_ble_eq_true rfl⟩ hP hD hS rfl hl.1 rfl dl_559 hf (fun r f1 g1 H1 locs1 hq hP hD hS => ?_)
  obtain ⟨rfl, hI1, hv⟩ := ck_ansS (n := 0) (v := 0) (k := 0) (show q_g151.2.all (ck_ans "java/lang/IllegalStateException" "java/lang/IllegalArgumentException" 0 0 0) = true by decide) (by decide) hq
  have hI1 := gI_v (r := g 200) hI1
  show W p l e room_1 s m args below meth c H1 locs1 (cells + 1) (slots + 6) Q (F0 m 562 ls [.int (Int32.ofNat 0)])
  refine lv_istore (lv' := [(5, .int (Int32.ofNat 0)), (0, .ref b), (1, .ref (h 0)), (2, .ref (hm 0)), (3, .ref ho), (4, .int i)]) C.1.1 C.1.2.1 dl_562 hl (by decide) rfl (fun ls hl => ?_)
  refine lv_aload_n C.1.1 C.1.2.1 dl_564 rfl (lv_at hl 3 rfl) ?_
  refine lv_aload_n C.1.1 C.1.2.1 dl_565 rfl (lv_at hl 1 rfl) ?_
  refine lv_iload C.1.1 C.1.2.1 dl_566 (lv_at hl 5 rfl) ?_
  refine lv_iconst (v := 1) C.1.1 C.1.2.1 dl_568 (by decide) ?_
  refine lv_iadd C.1.1 C.1.2.1 dl_569 ?_
  refine va_sld C.1.1 C.1.2.1 hX hbl hbA hS i1 dl_570 ?_
  have K : ∀ (os : List ck_O), os.all (fun o => ck_isV o && ck_val 0 0 o && ck_val 1 1 o) = true → ∀ (r : Option Value) (f2 : zz_F) (g2 : zz_G) (H2 : Heap) (locs2 : List Loc), (∃ o ∈ os, ck_gO hm o.1 r ∧ ck_gT fm f2 o.2) → ck_gI fbM gbM f2 g2 → va_P D vN (wW cI cZ cJ ho h hm f1 (zz_v g1 200 (g 200)) f2 g2) H2 → va_D A (wW cI cZ cJ ho h hm f1 (zz_v g1 200 (g 200)) f2 g2) → va_S A s.heap H2 locs2 → W p l e room_1 s m args below meth c H2 locs2 (cells + 1) (slots + 6) Q (F0 m (571 + 3) ls (r.toList ++ [])) := by
    intro os hos r f2 g2 H2 locs2 hq2 hJ2 hP hD hS
    obtain ⟨o, ho1, hr, hT⟩ := hq2
    have h9 := List.all_eq_true.mp hos o ho1
    simp only [Bool.and_eq_true] at h9
    have hc0 := ck_val_ok h9.1.2 hT
    have hc1 := ck_val_ok h9.2 hT
    obtain rfl := ck_isV_ok h9.1.1 hr
    show W p l e room_1 s m args below meth c H2 locs2 (cells + 1) (slots + 6) Q (F0 m 574 ls [])
    refine lv_goto (tgt := 673) C.1.1 C.1.2.1 dl_574 (by decide) ?_
    exact kk f1 _ f2 g2 H2 locs2 _ hI1 hJ2 (Or.inr ⟨hv, hc1⟩) hP hD hS (lv_sub hl [1, 2, 3, 4, 5] rfl)
  exact lm_go (h := h) (hm := hm) (As := [.int (xs (i + 1).toNatClampNeg)]) C (c_m66 xL_ok) (cwV 1 C.1.2.2.2.2 (kk_gV kw_981 kw_982 kw_983 kw_9 kw_984) rfl rfl rfl (by decide +kernel) ⟨Nat.le_of_ble_eq_true rfl, Nat.le_of_ble_eq_true rfl⟩) hJ (List.forall_mem_cons.mpr ⟨hJ.1 0, List.forall_mem_cons.mpr ⟨⟨by show (0 : Int) ≤ (fm 1).toInt; omega, by show (fm 1).toInt ≤ (0 : Int); omega⟩, List.forall_mem_cons.mpr ⟨hJ.1 3, List.forall_mem_cons.mpr ⟨hJ.1 13, List.forall_mem_cons.mpr ⟨hJ.1 22, fun _ h => absurd h List.not_mem_nil⟩⟩⟩⟩⟩) ⟨Or.inr ⟨0, List.mem_cons_self, rfl⟩, ⟨⟨_, rfl, hc⟩, trivial⟩⟩ hP hD hS rfl hl.1 rfl dl_571 hf (K _ (by decide))
theorem lo_15_c1g152 {p : Program} {l : Launch} {e : Env} {s : State} {m : MethodId} {args : Array Value} {below : List Frame} {meth : Method} {c : Code} {H : Heap} {locs : List Loc} {cells slots : Nat} {Q : State → Prop} {D : va_G} {B : Nat} {A : Nat → Prop} {h hm : Nat → Nat} {cI cZ cJ : ClassId} {ho : Nat} {f fm : zz_F} {g gm : zz_G} {ls : Array Slot} {b L : Nat} {xs : Nat → Int32} {i : Int32} {cx : Cond} (hfl : l.flags = flags0) (C : zz_Cx p m meth c code 7 ret s args (cx :: kk_W) "NightCyclerLaw" D vN (tyN cI cZ cJ) A B (xL B h)) (hX : va_X b L xs s s.heap) (hbl : b < s.heap.size) (hbA : ¬ A b) (i1 : vp_in (i + 1) L) (i2 : vp_in (i + 2) L) (hI : ck_gI fbG gbG f g) (hJ : ck_gI fbM gbM fm gm) (hrel : (f 0).toInt = 1 ∧ (fm 1).toInt = 0) (hP : va_P D vN (wW cI cZ cJ ho h hm f g fm gm) H) (hD : va_D A (wW cI cZ cJ ho h hm f g fm gm)) (hS : va_S A s.heap H locs) (hl : lv_has ls 7 [(0, .ref b), (1, .ref (h 0)), (2, .ref (hm 0)), (3, .ref ho), (4, .int i)]) (hc : (7 : Int) ≤ (xs (i + 1).toNatClampNeg).toInt ∧ (xs (i + 1).toNatClampNeg).toInt ≤ (2147483647 : Int)) (hf : cells + 1 ≤ room_1.cells ∧ slots + 6 ≤ room_1.slots) (kk : ∀ (f1 : zz_F) (g1 : zz_G) (fm1 : zz_F) (gm1 : zz_G) (H1 : Heap) (locs1 : List Loc) (ls1 : Array Slot), ck_gI fbG gbG f1 g1 → ck_gI fbM gbM fm1 gm1 → lw_rel f1 fm1 → va_P D vN (wW cI cZ cJ ho h hm f1 g1 fm1 gm1) H1 → va_D A (wW cI cZ cJ ho h hm f1 g1 fm1 gm1) → va_S A s.heap H1 locs1 → lv_has ls1 7 [(0, .ref b), (1, .ref (h 0)), (2, .ref (hm 0)), (3, .ref ho), (4, .int i)] → W p l e room_1 s m args below meth c H1 locs1 (cells + 1) (slots + 6) Q (F0 m 673 ls1 [])) : W p l e room_1 s m args below meth c H locs cells slots Q (F0 m 552 ls []) := by
  refine lv_aload_n C.1.1 C.1.2.1 dl_552 rfl (lv_at hl 1 rfl) ?_
  refine lv_aload_n C.1.1 C.1.2.1 dl_553 rfl (lv_at hl 0 rfl) ?_
  refine lv_iload C.1.1 C.1.2.1 dl_554 (lv_at hl 4 rfl) ?_
  refine lv_iconst (v := 1) C.1.1 C.1.2.1 dl_556 (by decide) ?_
  refine lv_iadd C.1.1 C.1.2.1 dl_557 ?_
  refine va_sld C.1.1 C.1.2.1 hX hbl hbA hS i1 dl_558 ?_
  refine lw_goS (n := 2) C (ww_cut (post := ck_po h f q_g152.2) (px := ck_px f q_g152.2) (fun sz => x_g152 hfl f g sz [.ref (h 0), .int (xs (i + 1).toNatClampNeg)] hI (List.forall_mem_cons.mpr ⟨⟨by show (1 : Int) ≤ (f 0).toInt; omega, by show (f 0).toInt ≤ (1 : Int); omega⟩, List.forall_mem_cons.mpr ⟨hI.1 3, fun _ h => absurd h List.not_mem_nil⟩⟩) (⟨Or.inr ⟨0, List.mem_cons_self, rfl⟩, ⟨⟨_, rfl, hc⟩, trivial⟩⟩)) ⟨rfl, rfl, by decide, by decide⟩ (ck_noI_ok (by decide)) (ck_ex2 (by decide))) kw_645 kw_646 kw_0 kw_647 (by decide +kernel) rfl rfl ⟨Nat.le_of_ble_eq_true rfl, Nat.le_of_ble_eq_true rfl⟩ hP hD hS rfl hl.1 rfl dl_559 hf (fun r f1 g1 H1 locs1 hq hP hD hS => ?_)
  obtain ⟨rfl, hI1, hv⟩ := ck_ansS (n := 2) (v := 1) (k := 0) (show q_g152.2.all (ck_ans "java/lang/IllegalStateException" "java/lang/IllegalArgumentException" 2 0 1) = true by decide) (by decide) hq
  have hI1 := gI_v (r := g 200) hI1
  show W p l e room_1 s m args below meth c H1 locs1 (cells + 1) (slots + 6) Q (F0 m 562 ls [.int (Int32.ofNat 2)])
  refine lv_istore (lv' := [(5, .int (Int32.ofNat 2)), (0, .ref b), (1, .ref (h 0)), (2, .ref (hm 0)), (3, .ref ho), (4, .int i)]) C.1.1 C.1.2.1 dl_562 hl (by decide) rfl (fun ls hl => ?_)
  refine lv_aload_n C.1.1 C.1.2.1 dl_564 rfl (lv_at hl 3 rfl) ?_
  refine lv_aload_n C.1.1 C.1.2.1 dl_565 rfl (lv_at hl 1 rfl) ?_
  refine lv_iload C.1.1 C.1.2.1 dl_566 (lv_at hl 5 rfl) ?_
  refine lv_iconst (v := 1) C.1.1 C.1.2.1 dl_568 (by decide) ?_
  refine lv_iadd C.1.1 C.1.2.1 dl_569 ?_
  refine va_sld C.1.1 C.1.2.1 hX hbl hbA hS i1 dl_570 ?_
  have K : ∀ (os : List ck_O), os.all (fun o => ck_isV o && ck_val 0 2 o && ck_val 1 0 o) = true → ∀ (r : Option Value) (f2 : zz_F) (g2 : zz_G) (H2 : Heap) (locs2 : List Loc), (∃ o ∈ os, ck_gO hm o.1 r ∧ ck_gT fm f2 o.2) → ck_gI fbM gbM f2 g2 → va_P D vN (wW cI cZ cJ ho h hm f1 (zz_v g1 200 (g 200)) f2 g2) H2 → va_D A (wW cI cZ cJ ho h hm f1 (zz_v g1 200 (g 200)) f2 g2) → va_S A s.heap H2 locs2 → W p l e room_1 s m args below meth c H2 locs2 (cells + 1) (slots + 6) Q (F0 m (571 + 3) ls (r.toList ++ [])) := by
    intro os hos r f2 g2 H2 locs2 hq2 hJ2 hP hD hS
    obtain ⟨o, ho1, hr, hT⟩ := hq2
    have h9 := List.all_eq_true.mp hos o ho1
    simp only [Bool.and_eq_true] at h9
    have hc0 := ck_val_ok h9.1.2 hT
    have hc1 := ck_val_ok h9.2 hT
    obtain rfl := ck_isV_ok h9.1.1 hr
    show W p l e room_1 s m args below meth c H2 locs2 (cells + 1) (slots + 6) Q (F0 m 574 ls [])
    refine lv_goto (tgt := 673) C.1.1 C.1.2.1 dl_574 (by decide) ?_
    exact kk f1 _ f2 g2 H2 locs2 _ hI1 hJ2 (Or.inl ⟨hv, hc1⟩) hP hD hS (lv_sub hl [1, 2, 3, 4, 5] rfl)
  exact lm_go (h := h) (hm := hm) (As := [.int (xs (i + 1).toNatClampNeg)]) C (c_m67 xL_ok) (cwV 1 C.1.2.2.2.2 (kk_gV kw_981 kw_982 kw_983 kw_9 kw_984) rfl rfl rfl (by decide +kernel) ⟨Nat.le_of_ble_eq_true rfl, Nat.le_of_ble_eq_true rfl⟩) hJ (List.forall_mem_cons.mpr ⟨hJ.1 0, List.forall_mem_cons.mpr ⟨⟨by show (0 : Int) ≤ (fm 1).toInt; omega, by show (fm 1).toInt ≤ (0 : Int); omega⟩, List.forall_mem_cons.mpr ⟨hJ.1 3, List.forall_mem_cons.mpr ⟨hJ.1 13, List.forall_mem_cons.mpr ⟨hJ.1 22, fun _ h => absurd h List.not_mem_nil⟩⟩⟩⟩⟩) ⟨Or.inr ⟨0, List.mem_cons_self, rfl⟩, ⟨⟨_, rfl, hc⟩, trivial⟩⟩ hP hD hS rfl hl.1 rfl dl_571 hf (K _ (by decide))
theorem lo_15 {p : Program} {l : Launch} {e : Env} {s : State} {m : MethodId} {args : Array Value} {below : List Frame} {meth : Method} {c : Code} {H : Heap} {locs : List Loc} {cells slots : Nat} {Q : State → Prop} {D : va_G} {B : Nat} {A : Nat → Prop} {h hm : Nat → Nat} {cI cZ cJ : ClassId} {ho : Nat} {f fm : zz_F} {g gm : zz_G} {ls : Array Slot} {b L : Nat} {xs : Nat → Int32} {i : Int32} {cx : Cond} (hfl : l.flags = flags0) (C : zz_Cx p m meth c code 7 ret s args (cx :: kk_W) "NightCyclerLaw" D vN (tyN cI cZ cJ) A B (xL B h)) (hX : va_X b L xs s s.heap) (hbl : b < s.heap.size) (hbA : ¬ A b) (i1 : vp_in (i + 1) L) (i2 : vp_in (i + 2) L) (hI : ck_gI fbG gbG f g) (hJ : ck_gI fbM gbM fm gm) (hrel : lw_rel f fm) (hP : va_P D vN (wW cI cZ cJ ho h hm f g fm gm) H) (hD : va_D A (wW cI cZ cJ ho h hm f g fm gm)) (hS : va_S A s.heap H locs) (hl : lv_has ls 7 [(0, .ref b), (1, .ref (h 0)), (2, .ref (hm 0)), (3, .ref ho), (4, .int i)]) (hf : cells + 1 ≤ room_1.cells ∧ slots + 6 ≤ room_1.slots) (kk : ∀ (f1 : zz_F) (g1 : zz_G) (fm1 : zz_F) (gm1 : zz_G) (H1 : Heap) (locs1 : List Loc) (ls1 : Array Slot), ck_gI fbG gbG f1 g1 → ck_gI fbM gbM fm1 gm1 → lw_rel f1 fm1 → va_P D vN (wW cI cZ cJ ho h hm f1 g1 fm1 gm1) H1 → va_D A (wW cI cZ cJ ho h hm f1 g1 fm1 gm1) → va_S A s.heap H1 locs1 → lv_has ls1 7 [(0, .ref b), (1, .ref (h 0)), (2, .ref (hm 0)), (3, .ref ho), (4, .int i)] → W p l e room_1 s m args below meth c H1 locs1 (cells + 1) (slots + 6) Q (F0 m 673 ls1 [])) : W p l e room_1 s m args below meth c H locs cells slots Q (F0 m 552 ls []) := by
  have hlo := i32_lo (xs (i + 1).toNatClampNeg)
  have hhi := i32_hi (xs (i + 1).toNatClampNeg)
  rcases hrel with hrel | hrel
  · rcases (show ((-2147483648 : Int) ≤ (xs (i + 1).toNatClampNeg).toInt ∧ (xs (i + 1).toNatClampNeg).toInt ≤ (-1 : Int)) ∨ ((0 : Int) ≤ (xs (i + 1).toNatClampNeg).toInt ∧ (xs (i + 1).toNatClampNeg).toInt ≤ (6 : Int)) ∨ ((7 : Int) ≤ (xs (i + 1).toNatClampNeg).toInt ∧ (xs (i + 1).toNatClampNeg).toInt ≤ (2147483647 : Int)) by omega) with hc | hc | hc
    · exact lo_15_c1g150 hfl C hX hbl hbA i1 i2 hI hJ hrel hP hD hS hl hc hf kk
    · exact lo_15_c1g151 hfl C hX hbl hbA i1 i2 hI hJ hrel hP hD hS hl hc hf kk
    · exact lo_15_c1g152 hfl C hX hbl hbA i1 i2 hI hJ hrel hP hD hS hl hc hf kk
  · rcases (show ((-2147483648 : Int) ≤ (xs (i + 1).toNatClampNeg).toInt ∧ (xs (i + 1).toNatClampNeg).toInt ≤ (-1 : Int)) ∨ ((0 : Int) ≤ (xs (i + 1).toNatClampNeg).toInt ∧ (xs (i + 1).toNatClampNeg).toInt ≤ (6 : Int)) ∨ ((7 : Int) ≤ (xs (i + 1).toNatClampNeg).toInt ∧ (xs (i + 1).toNatClampNeg).toInt ≤ (2147483647 : Int)) by omega) with hc | hc | hc
    · exact lo_15_c0g133 hfl C hX hbl hbA i1 i2 hI hJ hrel hP hD hS hl hc hf kk
    · exact lo_15_c0g134 hfl C hX hbl hbA i1 i2 hI hJ hrel hP hD hS hl hc hf kk
    · exact lo_15_c0g135 hfl C hX hbl hbA i1 i2 hI hJ hrel hP hD hS hl hc hf kk
theorem lo_16_c0g136 {p : Program} {l : Launch} {e : Env} {s : State} {m : MethodId} {args : Array Value} {below : List Frame} {meth : Method} {c : Code} {H : Heap} {locs : List Loc} {cells slots : Nat} {Q : State → Prop} {D : va_G} {B : Nat} {A : Nat → Prop} {h hm : Nat → Nat} {cI cZ cJ : ClassId} {ho : Nat} {f fm : zz_F} {g gm : zz_G} {ls : Array Slot} {b L : Nat} {xs : Nat → Int32} {i : Int32} {cx : Cond} (hfl : l.flags = flags0) (C : zz_Cx p m meth c code 7 ret s args (cx :: kk_W) "NightCyclerLaw" D vN (tyN cI cZ cJ) A B (xL B h)) (hX : va_X b L xs s s.heap) (hbl : b < s.heap.size) (hbA : ¬ A b) (i1 : vp_in (i + 1) L) (i2 : vp_in (i + 2) L) (hI : ck_gI fbG gbG f g) (hJ : ck_gI fbM gbM fm gm) (hrel : (f 0).toInt = 0 ∧ (fm 1).toInt = 1) (hP : va_P D vN (wW cI cZ cJ ho h hm f g fm gm) H) (hD : va_D A (wW cI cZ cJ ho h hm f g fm gm)) (hS : va_S A s.heap H locs) (hl : lv_has ls 7 [(0, .ref b), (1, .ref (h 0)), (2, .ref (hm 0)), (3, .ref ho), (4, .int i)]) (hc : (-2147483648 : Int) ≤ (xs (i + 1).toNatClampNeg).toInt ∧ (xs (i + 1).toNatClampNeg).toInt ≤ (-1 : Int)) (hf : cells + 1 ≤ room_1.cells ∧ slots + 6 ≤ room_1.slots) (kk : ∀ (f1 : zz_F) (g1 : zz_G) (fm1 : zz_F) (gm1 : zz_G) (H1 : Heap) (locs1 : List Loc) (ls1 : Array Slot), ck_gI fbG gbG f1 g1 → ck_gI fbM gbM fm1 gm1 → lw_rel f1 fm1 → va_P D vN (wW cI cZ cJ ho h hm f1 g1 fm1 gm1) H1 → va_D A (wW cI cZ cJ ho h hm f1 g1 fm1 gm1) → va_S A s.heap H1 locs1 → lv_has ls1 7 [(0, .ref b), (1, .ref (h 0)), (2, .ref (hm 0)), (3, .ref ho), (4, .int i)] → W p l e room_1 s m args below meth c H1 locs1 (cells + 1) (slots + 6) Q (F0 m 673 ls1 [])) : W p l e room_1 s m args below meth c H locs cells slots Q (F0 m 577 ls []) := by
  refine lv_aload_n C.1.1 C.1.2.1 dl_577 rfl (lv_at hl 1 rfl) ?_
  refine lv_aload_n C.1.1 C.1.2.1 dl_578 rfl (lv_at hl 0 rfl) ?_
  refine lv_iload C.1.1 C.1.2.1 dl_579 (lv_at hl 4 rfl) ?_
  refine lv_iconst (v := 1) C.1.1 C.1.2.1 dl_581 (by decide) ?_
  refine lv_iadd C.1.1 C.1.2.1 dl_582 ?_
  refine va_sld C.1.1 C.1.2.1 hX hbl hbA hS i1 dl_583 ?_
  refine lv_aload_n C.1.1 C.1.2.1 dl_584 rfl (lv_at hl 3 rfl) ?_
  refine lw_goO (n := 3) C (ww_power (post := ck_po h f q_g136.2) (px := ck_px f q_g136.2) (fun sz => x_g136 hfl f g sz [.ref (h 0), .int (xs (i + 1).toNatClampNeg)] hI (List.forall_mem_cons.mpr ⟨⟨by show (0 : Int) ≤ (f 0).toInt; omega, by show (f 0).toInt ≤ (0 : Int); omega⟩, List.forall_mem_cons.mpr ⟨hI.1 3, fun _ h => absurd h List.not_mem_nil⟩⟩) (⟨Or.inr ⟨0, List.mem_cons_self, rfl⟩, ⟨⟨_, rfl, hc⟩, trivial⟩⟩)) ⟨rfl, rfl, by decide, by decide⟩ (ck_noV_ok (by decide)) (ck_ex2 (by decide))) kw_672 kw_673 kw_0 kw_674 (by decide +kernel) rfl rfl ⟨Nat.le_of_ble_eq_true rfl, Nat.le_of_ble_eq_true rfl⟩ hP hD hS rfl hl.1 rfl dl_585 hf (fun r f1 g1 H1 locs1 hq hP hD hS => ?_)
  obtain ⟨rfl, hI1, hv⟩ := ck_ansO (n := 2) (v := 0) (k := 0) (show q_g136.2.all (ck_ans "java/lang/IllegalStateException" "java/lang/IllegalArgumentException" 2 0 0) = true by decide) (by decide) hq
  show W p l e room_1 s m args below meth c H1 locs1 (cells + 1) (slots + 6) Q (F0 m 588 ls [.int (Int32.ofNat 2)])
  refine lv_istore (lv' := [(5, .int (Int32.ofNat 2)), (0, .ref b), (1, .ref (h 0)), (2, .ref (hm 0)), (3, .ref ho), (4, .int i)]) C.1.1 C.1.2.1 dl_588 hl (by decide) rfl (fun ls hl => ?_)
  refine lv_aload_n C.1.1 C.1.2.1 dl_590 rfl (lv_at hl 3 rfl) ?_
  refine lv_aload_n C.1.1 C.1.2.1 dl_591 rfl (lv_at hl 1 rfl) ?_
  refine lv_iload C.1.1 C.1.2.1 dl_592 (lv_at hl 5 rfl) ?_
  refine lv_iconst (v := 1) C.1.1 C.1.2.1 dl_594 (by decide) ?_
  refine lv_iadd C.1.1 C.1.2.1 dl_595 ?_
  refine va_sld C.1.1 C.1.2.1 hX hbl hbA hS i1 dl_596 ?_
  have K : ∀ (os : List ck_O), os.all (fun o => ck_isI o && ck_val 0 2 o && ck_val 1 1 o) = true → ∀ (r : Option Value) (f2 : zz_F) (g2 : zz_G) (H2 : Heap) (locs2 : List Loc), (∃ o ∈ os, ck_gO hm o.1 r ∧ ck_gT fm f2 o.2) → ck_gI fbM gbM f2 g2 → va_P D vN (wW cI cZ cJ ho h hm f1 g1 f2 g2) H2 → va_D A (wW cI cZ cJ ho h hm f1 g1 f2 g2) → va_S A s.heap H2 locs2 → W p l e room_1 s m args below meth c H2 locs2 (cells + 1) (slots + 6) Q (F0 m (597 + 3) ls (r.toList ++ [])) := by
    intro os hos r f2 g2 H2 locs2 hq2 hJ2 hP hD hS
    obtain ⟨o, ho1, hr, hT⟩ := hq2
    have h9 := List.all_eq_true.mp hos o ho1
    simp only [Bool.and_eq_true] at h9
    have hc0 := ck_val_ok h9.1.2 hT
    have hc1 := ck_val_ok h9.2 hT
    obtain ⟨x, rfl⟩ := ck_isI_ok h9.1.1 hr
    show W p l e room_1 s m args below meth c H2 locs2 (cells + 1) (slots + 6) Q (F0 m 600 ls [.int x])
    refine lv_istore (lv' := [(6, .int x), (5, .int (Int32.ofNat 2)), (0, .ref b), (1, .ref (h 0)), (2, .ref (hm 0)), (3, .ref ho), (4, .int i)]) C.1.1 C.1.2.1 dl_600 hl (by decide) rfl (fun ls hl => ?_)
    refine lv_goto (tgt := 673) C.1.1 C.1.2.1 dl_602 (by decide) ?_
    exact kk f1 _ f2 g2 H2 locs2 _ hI1 hJ2 (Or.inr ⟨hv, hc1⟩) hP hD hS (lv_sub hl [2, 3, 4, 5, 6] rfl)
  have j22 : (0 : Int) ≤ (fm 22).toInt ∧ (fm 22).toInt ≤ 1 := hJ.1 22
  by_cases hlat : (fm 22).toInt ≤ 0
  · exact lm_go (h := h) (hm := hm) (As := [.int (xs (i + 1).toNatClampNeg)]) C (c_m87 xL_ok) (cwV 1 C.1.2.2.2.2 (kk_gV kw_985 kw_986 kw_987 kw_9 kw_988) rfl rfl rfl (by decide +kernel) ⟨Nat.le_of_ble_eq_true rfl, Nat.le_of_ble_eq_true rfl⟩) hJ (List.forall_mem_cons.mpr ⟨hJ.1 0, List.forall_mem_cons.mpr ⟨⟨by show (1 : Int) ≤ (fm 1).toInt; omega, by show (fm 1).toInt ≤ (1 : Int); omega⟩, List.forall_mem_cons.mpr ⟨hJ.1 3, List.forall_mem_cons.mpr ⟨hJ.1 13, List.forall_mem_cons.mpr ⟨⟨by show (0 : Int) ≤ (fm 22).toInt; omega, by show (fm 22).toInt ≤ (0 : Int); omega⟩, fun _ h => absurd h List.not_mem_nil⟩⟩⟩⟩⟩) ⟨Or.inr ⟨0, List.mem_cons_self, rfl⟩, ⟨⟨_, rfl, hc⟩, trivial⟩⟩ hP hD hS rfl hl.1 rfl dl_597 hf (K _ (by decide))
  · exact lm_go (h := h) (hm := hm) (As := [.int (xs (i + 1).toNatClampNeg)]) C (c_m89 xL_ok) (cwV 1 C.1.2.2.2.2 (kk_gV kw_985 kw_986 kw_987 kw_9 kw_988) rfl rfl rfl (by decide +kernel) ⟨Nat.le_of_ble_eq_true rfl, Nat.le_of_ble_eq_true rfl⟩) hJ (List.forall_mem_cons.mpr ⟨hJ.1 0, List.forall_mem_cons.mpr ⟨⟨by show (1 : Int) ≤ (fm 1).toInt; omega, by show (fm 1).toInt ≤ (1 : Int); omega⟩, List.forall_mem_cons.mpr ⟨hJ.1 3, List.forall_mem_cons.mpr ⟨hJ.1 13, List.forall_mem_cons.mpr ⟨⟨by show (1 : Int) ≤ (fm 22).toInt; omega, by show (fm 22).toInt ≤ (1 : Int); omega⟩, fun _ h => absurd h List.not_mem_nil⟩⟩⟩⟩⟩) ⟨Or.inr ⟨0, List.mem_cons_self, rfl⟩, ⟨⟨_, rfl, hc⟩, trivial⟩⟩ hP hD hS rfl hl.1 rfl dl_597 hf (K _ (by decide))
theorem lo_16_c0g137 {p : Program} {l : Launch} {e : Env} {s : State} {m : MethodId} {args : Array Value} {below : List Frame} {meth : Method} {c : Code} {H : Heap} {locs : List Loc} {cells slots : Nat} {Q : State → Prop} {D : va_G} {B : Nat} {A : Nat → Prop} {h hm : Nat → Nat} {cI cZ cJ : ClassId} {ho : Nat} {f fm : zz_F} {g gm : zz_G} {ls : Array Slot} {b L : Nat} {xs : Nat → Int32} {i : Int32} {cx : Cond} (hfl : l.flags = flags0) (C : zz_Cx p m meth c code 7 ret s args (cx :: kk_W) "NightCyclerLaw" D vN (tyN cI cZ cJ) A B (xL B h)) (hX : va_X b L xs s s.heap) (hbl : b < s.heap.size) (hbA : ¬ A b) (i1 : vp_in (i + 1) L) (i2 : vp_in (i + 2) L) (hI : ck_gI fbG gbG f g) (hJ : ck_gI fbM gbM fm gm) (hrel : (f 0).toInt = 0 ∧ (fm 1).toInt = 1) (hP : va_P D vN (wW cI cZ cJ ho h hm f g fm gm) H) (hD : va_D A (wW cI cZ cJ ho h hm f g fm gm)) (hS : va_S A s.heap H locs) (hl : lv_has ls 7 [(0, .ref b), (1, .ref (h 0)), (2, .ref (hm 0)), (3, .ref ho), (4, .int i)]) (hc : (0 : Int) ≤ (xs (i + 1).toNatClampNeg).toInt ∧ (xs (i + 1).toNatClampNeg).toInt ≤ (2147483647 : Int)) (hf : cells + 1 ≤ room_1.cells ∧ slots + 6 ≤ room_1.slots) (kk : ∀ (f1 : zz_F) (g1 : zz_G) (fm1 : zz_F) (gm1 : zz_G) (H1 : Heap) (locs1 : List Loc) (ls1 : Array Slot), ck_gI fbG gbG f1 g1 → ck_gI fbM gbM fm1 gm1 → lw_rel f1 fm1 → va_P D vN (wW cI cZ cJ ho h hm f1 g1 fm1 gm1) H1 → va_D A (wW cI cZ cJ ho h hm f1 g1 fm1 gm1) → va_S A s.heap H1 locs1 → lv_has ls1 7 [(0, .ref b), (1, .ref (h 0)), (2, .ref (hm 0)), (3, .ref ho), (4, .int i)] → W p l e room_1 s m args below meth c H1 locs1 (cells + 1) (slots + 6) Q (F0 m 673 ls1 [])) : W p l e room_1 s m args below meth c H locs cells slots Q (F0 m 577 ls []) := by
  refine lv_aload_n C.1.1 C.1.2.1 dl_577 rfl (lv_at hl 1 rfl) ?_
  refine lv_aload_n C.1.1 C.1.2.1 dl_578 rfl (lv_at hl 0 rfl) ?_
  refine lv_iload C.1.1 C.1.2.1 dl_579 (lv_at hl 4 rfl) ?_
  refine lv_iconst (v := 1) C.1.1 C.1.2.1 dl_581 (by decide) ?_
  refine lv_iadd C.1.1 C.1.2.1 dl_582 ?_
  refine va_sld C.1.1 C.1.2.1 hX hbl hbA hS i1 dl_583 ?_
  refine lv_aload_n C.1.1 C.1.2.1 dl_584 rfl (lv_at hl 3 rfl) ?_
  refine lw_goO (n := 3) C (ww_power (post := ck_po h f q_g137.2) (px := ck_px f q_g137.2) (fun sz => x_g137 hfl f g sz [.ref (h 0), .int (xs (i + 1).toNatClampNeg)] hI (List.forall_mem_cons.mpr ⟨⟨by show (0 : Int) ≤ (f 0).toInt; omega, by show (f 0).toInt ≤ (0 : Int); omega⟩, List.forall_mem_cons.mpr ⟨hI.1 3, fun _ h => absurd h List.not_mem_nil⟩⟩) (⟨Or.inr ⟨0, List.mem_cons_self, rfl⟩, ⟨⟨_, rfl, hc⟩, trivial⟩⟩)) ⟨rfl, rfl, by decide, by decide⟩ (ck_noV_ok (by decide)) (ck_ex2 (by decide))) kw_672 kw_673 kw_0 kw_674 (by decide +kernel) rfl rfl ⟨Nat.le_of_ble_eq_true rfl, Nat.le_of_ble_eq_true rfl⟩ hP hD hS rfl hl.1 rfl dl_585 hf (fun r f1 g1 H1 locs1 hq hP hD hS => ?_)
  obtain ⟨rfl, hI1, hv⟩ := ck_ansO (n := 0) (v := 1) (k := 0) (show q_g137.2.all (ck_ans "java/lang/IllegalStateException" "java/lang/IllegalArgumentException" 0 0 1) = true by decide) (by decide) hq
  show W p l e room_1 s m args below meth c H1 locs1 (cells + 1) (slots + 6) Q (F0 m 588 ls [.int (Int32.ofNat 0)])
  refine lv_istore (lv' := [(5, .int (Int32.ofNat 0)), (0, .ref b), (1, .ref (h 0)), (2, .ref (hm 0)), (3, .ref ho), (4, .int i)]) C.1.1 C.1.2.1 dl_588 hl (by decide) rfl (fun ls hl => ?_)
  refine lv_aload_n C.1.1 C.1.2.1 dl_590 rfl (lv_at hl 3 rfl) ?_
  refine lv_aload_n C.1.1 C.1.2.1 dl_591 rfl (lv_at hl 1 rfl) ?_
  refine lv_iload C.1.1 C.1.2.1 dl_592 (lv_at hl 5 rfl) ?_
  refine lv_iconst (v := 1) C.1.1 C.1.2.1 dl_594 (by decide) ?_
  refine lv_iadd C.1.1 C.1.2.1 dl_595 ?_
  refine va_sld C.1.1 C.1.2.1 hX hbl hbA hS i1 dl_596 ?_
  have K : ∀ (os : List ck_O), os.all (fun o => ck_isI o && ck_val 0 0 o && ck_val 1 0 o) = true → ∀ (r : Option Value) (f2 : zz_F) (g2 : zz_G) (H2 : Heap) (locs2 : List Loc), (∃ o ∈ os, ck_gO hm o.1 r ∧ ck_gT fm f2 o.2) → ck_gI fbM gbM f2 g2 → va_P D vN (wW cI cZ cJ ho h hm f1 g1 f2 g2) H2 → va_D A (wW cI cZ cJ ho h hm f1 g1 f2 g2) → va_S A s.heap H2 locs2 → W p l e room_1 s m args below meth c H2 locs2 (cells + 1) (slots + 6) Q (F0 m (597 + 3) ls (r.toList ++ [])) := by
    intro os hos r f2 g2 H2 locs2 hq2 hJ2 hP hD hS
    obtain ⟨o, ho1, hr, hT⟩ := hq2
    have h9 := List.all_eq_true.mp hos o ho1
    simp only [Bool.and_eq_true] at h9
    have hc0 := ck_val_ok h9.1.2 hT
    have hc1 := ck_val_ok h9.2 hT
    obtain ⟨x, rfl⟩ := ck_isI_ok h9.1.1 hr
    show W p l e room_1 s m args below meth c H2 locs2 (cells + 1) (slots + 6) Q (F0 m 600 ls [.int x])
    refine lv_istore (lv' := [(6, .int x), (5, .int (Int32.ofNat 0)), (0, .ref b), (1, .ref (h 0)), (2, .ref (hm 0)), (3, .ref ho), (4, .int i)]) C.1.1 C.1.2.1 dl_600 hl (by decide) rfl (fun ls hl => ?_)
    refine lv_goto (tgt := 673) C.1.1 C.1.2.1 dl_602 (by decide) ?_
    exact kk f1 _ f2 g2 H2 locs2 _ hI1 hJ2 (Or.inl ⟨hv, hc1⟩) hP hD hS (lv_sub hl [2, 3, 4, 5, 6] rfl)
  have j22 : (0 : Int) ≤ (fm 22).toInt ∧ (fm 22).toInt ≤ 1 := hJ.1 22
  by_cases hlat : (fm 22).toInt ≤ 0
  · exact lm_go (h := h) (hm := hm) (As := [.int (xs (i + 1).toNatClampNeg)]) C (c_m88 xL_ok) (cwV 1 C.1.2.2.2.2 (kk_gV kw_985 kw_986 kw_987 kw_9 kw_988) rfl rfl rfl (by decide +kernel) ⟨Nat.le_of_ble_eq_true rfl, Nat.le_of_ble_eq_true rfl⟩) hJ (List.forall_mem_cons.mpr ⟨hJ.1 0, List.forall_mem_cons.mpr ⟨⟨by show (1 : Int) ≤ (fm 1).toInt; omega, by show (fm 1).toInt ≤ (1 : Int); omega⟩, List.forall_mem_cons.mpr ⟨hJ.1 3, List.forall_mem_cons.mpr ⟨hJ.1 13, List.forall_mem_cons.mpr ⟨⟨by show (0 : Int) ≤ (fm 22).toInt; omega, by show (fm 22).toInt ≤ (0 : Int); omega⟩, fun _ h => absurd h List.not_mem_nil⟩⟩⟩⟩⟩) ⟨Or.inr ⟨0, List.mem_cons_self, rfl⟩, ⟨⟨_, rfl, hc⟩, trivial⟩⟩ hP hD hS rfl hl.1 rfl dl_597 hf (K _ (by decide))
  · exact lm_go (h := h) (hm := hm) (As := [.int (xs (i + 1).toNatClampNeg)]) C (c_m90 xL_ok) (cwV 1 C.1.2.2.2.2 (kk_gV kw_985 kw_986 kw_987 kw_9 kw_988) rfl rfl rfl (by decide +kernel) ⟨Nat.le_of_ble_eq_true rfl, Nat.le_of_ble_eq_true rfl⟩) hJ (List.forall_mem_cons.mpr ⟨hJ.1 0, List.forall_mem_cons.mpr ⟨⟨by show (1 : Int) ≤ (fm 1).toInt; omega, by show (fm 1).toInt ≤ (1 : Int); omega⟩, List.forall_mem_cons.mpr ⟨hJ.1 3, List.forall_mem_cons.mpr ⟨hJ.1 13, List.forall_mem_cons.mpr ⟨⟨by show (1 : Int) ≤ (fm 22).toInt; omega, by show (fm 22).toInt ≤ (1 : Int); omega⟩, fun _ h => absurd h List.not_mem_nil⟩⟩⟩⟩⟩) ⟨Or.inr ⟨0, List.mem_cons_self, rfl⟩, ⟨⟨_, rfl, hc⟩, trivial⟩⟩ hP hD hS rfl hl.1 rfl dl_597 hf (K _ (by decide))
theorem lo_16_c1g153 {p : Program} {l : Launch} {e : Env} {s : State} {m : MethodId} {args : Array Value} {below : List Frame} {meth : Method} {c : Code} {H : Heap} {locs : List Loc} {cells slots : Nat} {Q : State → Prop} {D : va_G} {B : Nat} {A : Nat → Prop} {h hm : Nat → Nat} {cI cZ cJ : ClassId} {ho : Nat} {f fm : zz_F} {g gm : zz_G} {ls : Array Slot} {b L : Nat} {xs : Nat → Int32} {i : Int32} {cx : Cond} (hfl : l.flags = flags0) (C : zz_Cx p m meth c code 7 ret s args (cx :: kk_W) "NightCyclerLaw" D vN (tyN cI cZ cJ) A B (xL B h)) (hX : va_X b L xs s s.heap) (hbl : b < s.heap.size) (hbA : ¬ A b) (i1 : vp_in (i + 1) L) (i2 : vp_in (i + 2) L) (hI : ck_gI fbG gbG f g) (hJ : ck_gI fbM gbM fm gm) (hrel : (f 0).toInt = 1 ∧ (fm 1).toInt = 0) (hP : va_P D vN (wW cI cZ cJ ho h hm f g fm gm) H) (hD : va_D A (wW cI cZ cJ ho h hm f g fm gm)) (hS : va_S A s.heap H locs) (hl : lv_has ls 7 [(0, .ref b), (1, .ref (h 0)), (2, .ref (hm 0)), (3, .ref ho), (4, .int i)]) (hc : (-2147483648 : Int) ≤ (xs (i + 1).toNatClampNeg).toInt ∧ (xs (i + 1).toNatClampNeg).toInt ≤ (-1 : Int)) (hf : cells + 1 ≤ room_1.cells ∧ slots + 6 ≤ room_1.slots) (kk : ∀ (f1 : zz_F) (g1 : zz_G) (fm1 : zz_F) (gm1 : zz_G) (H1 : Heap) (locs1 : List Loc) (ls1 : Array Slot), ck_gI fbG gbG f1 g1 → ck_gI fbM gbM fm1 gm1 → lw_rel f1 fm1 → va_P D vN (wW cI cZ cJ ho h hm f1 g1 fm1 gm1) H1 → va_D A (wW cI cZ cJ ho h hm f1 g1 fm1 gm1) → va_S A s.heap H1 locs1 → lv_has ls1 7 [(0, .ref b), (1, .ref (h 0)), (2, .ref (hm 0)), (3, .ref ho), (4, .int i)] → W p l e room_1 s m args below meth c H1 locs1 (cells + 1) (slots + 6) Q (F0 m 673 ls1 [])) : W p l e room_1 s m args below meth c H locs cells slots Q (F0 m 577 ls []) := by
  refine lv_aload_n C.1.1 C.1.2.1 dl_577 rfl (lv_at hl 1 rfl) ?_
  refine lv_aload_n C.1.1 C.1.2.1 dl_578 rfl (lv_at hl 0 rfl) ?_
  refine lv_iload C.1.1 C.1.2.1 dl_579 (lv_at hl 4 rfl) ?_
  refine lv_iconst (v := 1) C.1.1 C.1.2.1 dl_581 (by decide) ?_
  refine lv_iadd C.1.1 C.1.2.1 dl_582 ?_
  refine va_sld C.1.1 C.1.2.1 hX hbl hbA hS i1 dl_583 ?_
  refine lv_aload_n C.1.1 C.1.2.1 dl_584 rfl (lv_at hl 3 rfl) ?_
  refine lw_goO (n := 3) C (ww_power (post := ck_po h f q_g153.2) (px := ck_px f q_g153.2) (fun sz => x_g153 hfl f g sz [.ref (h 0), .int (xs (i + 1).toNatClampNeg)] hI (List.forall_mem_cons.mpr ⟨⟨by show (1 : Int) ≤ (f 0).toInt; omega, by show (f 0).toInt ≤ (1 : Int); omega⟩, List.forall_mem_cons.mpr ⟨hI.1 3, fun _ h => absurd h List.not_mem_nil⟩⟩) (⟨Or.inr ⟨0, List.mem_cons_self, rfl⟩, ⟨⟨_, rfl, hc⟩, trivial⟩⟩)) ⟨rfl, rfl, by decide, by decide⟩ (ck_noV_ok (by decide)) (ck_ex2 (by decide))) kw_672 kw_673 kw_0 kw_674 (by decide +kernel) rfl rfl ⟨Nat.le_of_ble_eq_true rfl, Nat.le_of_ble_eq_true rfl⟩ hP hD hS rfl hl.1 rfl dl_585 hf (fun r f1 g1 H1 locs1 hq hP hD hS => ?_)
  obtain ⟨rfl, hI1, hv⟩ := ck_ansO (n := 1) (v := 1) (k := 0) (show q_g153.2.all (ck_ans "java/lang/IllegalStateException" "java/lang/IllegalArgumentException" 1 0 1) = true by decide) (by decide) hq
  show W p l e room_1 s m args below meth c H1 locs1 (cells + 1) (slots + 6) Q (F0 m 588 ls [.int (Int32.ofNat 1)])
  refine lv_istore (lv' := [(5, .int (Int32.ofNat 1)), (0, .ref b), (1, .ref (h 0)), (2, .ref (hm 0)), (3, .ref ho), (4, .int i)]) C.1.1 C.1.2.1 dl_588 hl (by decide) rfl (fun ls hl => ?_)
  refine lv_aload_n C.1.1 C.1.2.1 dl_590 rfl (lv_at hl 3 rfl) ?_
  refine lv_aload_n C.1.1 C.1.2.1 dl_591 rfl (lv_at hl 1 rfl) ?_
  refine lv_iload C.1.1 C.1.2.1 dl_592 (lv_at hl 5 rfl) ?_
  refine lv_iconst (v := 1) C.1.1 C.1.2.1 dl_594 (by decide) ?_
  refine lv_iadd C.1.1 C.1.2.1 dl_595 ?_
  refine va_sld C.1.1 C.1.2.1 hX hbl hbA hS i1 dl_596 ?_
  have K : ∀ (os : List ck_O), os.all (fun o => ck_isI o && ck_val 0 1 o && ck_val 1 0 o) = true → ∀ (r : Option Value) (f2 : zz_F) (g2 : zz_G) (H2 : Heap) (locs2 : List Loc), (∃ o ∈ os, ck_gO hm o.1 r ∧ ck_gT fm f2 o.2) → ck_gI fbM gbM f2 g2 → va_P D vN (wW cI cZ cJ ho h hm f1 g1 f2 g2) H2 → va_D A (wW cI cZ cJ ho h hm f1 g1 f2 g2) → va_S A s.heap H2 locs2 → W p l e room_1 s m args below meth c H2 locs2 (cells + 1) (slots + 6) Q (F0 m (597 + 3) ls (r.toList ++ [])) := by
    intro os hos r f2 g2 H2 locs2 hq2 hJ2 hP hD hS
    obtain ⟨o, ho1, hr, hT⟩ := hq2
    have h9 := List.all_eq_true.mp hos o ho1
    simp only [Bool.and_eq_true] at h9
    have hc0 := ck_val_ok h9.1.2 hT
    have hc1 := ck_val_ok h9.2 hT
    obtain ⟨x, rfl⟩ := ck_isI_ok h9.1.1 hr
    show W p l e room_1 s m args below meth c H2 locs2 (cells + 1) (slots + 6) Q (F0 m 600 ls [.int x])
    refine lv_istore (lv' := [(6, .int x), (5, .int (Int32.ofNat 1)), (0, .ref b), (1, .ref (h 0)), (2, .ref (hm 0)), (3, .ref ho), (4, .int i)]) C.1.1 C.1.2.1 dl_600 hl (by decide) rfl (fun ls hl => ?_)
    refine lv_goto (tgt := 673) C.1.1 C.1.2.1 dl_602 (by decide) ?_
    exact kk f1 _ f2 g2 H2 locs2 _ hI1 hJ2 (Or.inl ⟨hv, hc1⟩) hP hD hS (lv_sub hl [2, 3, 4, 5, 6] rfl)
  have j22 : (0 : Int) ≤ (fm 22).toInt ∧ (fm 22).toInt ≤ 1 := hJ.1 22
  by_cases hlat : (fm 22).toInt ≤ 0
  · exact lm_go (h := h) (hm := hm) (As := [.int (xs (i + 1).toNatClampNeg)]) C (c_m68 xL_ok) (cwV 1 C.1.2.2.2.2 (kk_gV kw_985 kw_986 kw_987 kw_9 kw_988) rfl rfl rfl (by decide +kernel) ⟨Nat.le_of_ble_eq_true rfl, Nat.le_of_ble_eq_true rfl⟩) hJ (List.forall_mem_cons.mpr ⟨hJ.1 0, List.forall_mem_cons.mpr ⟨⟨by show (0 : Int) ≤ (fm 1).toInt; omega, by show (fm 1).toInt ≤ (0 : Int); omega⟩, List.forall_mem_cons.mpr ⟨hJ.1 3, List.forall_mem_cons.mpr ⟨hJ.1 13, List.forall_mem_cons.mpr ⟨⟨by show (0 : Int) ≤ (fm 22).toInt; omega, by show (fm 22).toInt ≤ (0 : Int); omega⟩, fun _ h => absurd h List.not_mem_nil⟩⟩⟩⟩⟩) ⟨Or.inr ⟨0, List.mem_cons_self, rfl⟩, ⟨⟨_, rfl, hc⟩, trivial⟩⟩ hP hD hS rfl hl.1 rfl dl_597 hf (K _ (by decide))
  · exact lm_go (h := h) (hm := hm) (As := [.int (xs (i + 1).toNatClampNeg)]) C (c_m70 xL_ok) (cwV 1 C.1.2.2.2.2 (kk_gV kw_985 kw_986 kw_987 kw_9 kw_988) rfl rfl rfl (by decide +kernel) ⟨Nat.le_of_ble_eq_true rfl, Nat.le_of_ble_eq_true rfl⟩) hJ (List.forall_mem_cons.mpr ⟨hJ.1 0, List.forall_mem_cons.mpr ⟨⟨by show (0 : Int) ≤ (fm 1).toInt; omega, by show (fm 1).toInt ≤ (0 : Int); omega⟩, List.forall_mem_cons.mpr ⟨hJ.1 3, List.forall_mem_cons.mpr ⟨hJ.1 13, List.forall_mem_cons.mpr ⟨⟨by show (1 : Int) ≤ (fm 22).toInt; omega, by show (fm 22).toInt ≤ (1 : Int); omega⟩, fun _ h => absurd h List.not_mem_nil⟩⟩⟩⟩⟩) ⟨Or.inr ⟨0, List.mem_cons_self, rfl⟩, ⟨⟨_, rfl, hc⟩, trivial⟩⟩ hP hD hS rfl hl.1 rfl dl_597 hf (K _ (by decide))
theorem lo_16_c1g154 {p : Program} {l : Launch} {e : Env} {s : State} {m : MethodId} {args : Array Value} {below : List Frame} {meth : Method} {c : Code} {H : Heap} {locs : List Loc} {cells slots : Nat} {Q : State → Prop} {D : va_G} {B : Nat} {A : Nat → Prop} {h hm : Nat → Nat} {cI cZ cJ : ClassId} {ho : Nat} {f fm : zz_F} {g gm : zz_G} {ls : Array Slot} {b L : Nat} {xs : Nat → Int32} {i : Int32} {cx : Cond} (hfl : l.flags = flags0) (C : zz_Cx p m meth c code 7 ret s args (cx :: kk_W) "NightCyclerLaw" D vN (tyN cI cZ cJ) A B (xL B h)) (hX : va_X b L xs s s.heap) (hbl : b < s.heap.size) (hbA : ¬ A b) (i1 : vp_in (i + 1) L) (i2 : vp_in (i + 2) L) (hI : ck_gI fbG gbG f g) (hJ : ck_gI fbM gbM fm gm) (hrel : (f 0).toInt = 1 ∧ (fm 1).toInt = 0) (hP : va_P D vN (wW cI cZ cJ ho h hm f g fm gm) H) (hD : va_D A (wW cI cZ cJ ho h hm f g fm gm)) (hS : va_S A s.heap H locs) (hl : lv_has ls 7 [(0, .ref b), (1, .ref (h 0)), (2, .ref (hm 0)), (3, .ref ho), (4, .int i)]) (hc : (0 : Int) ≤ (xs (i + 1).toNatClampNeg).toInt ∧ (xs (i + 1).toNatClampNeg).toInt ≤ (2147483647 : Int)) (hf : cells + 1 ≤ room_1.cells ∧ slots + 6 ≤ room_1.slots) (kk : ∀ (f1 : zz_F) (g1 : zz_G) (fm1 : zz_F) (gm1 : zz_G) (H1 : Heap) (locs1 : List Loc) (ls1 : Array Slot), ck_gI fbG gbG f1 g1 → ck_gI fbM gbM fm1 gm1 → lw_rel f1 fm1 → va_P D vN (wW cI cZ cJ ho h hm f1 g1 fm1 gm1) H1 → va_D A (wW cI cZ cJ ho h hm f1 g1 fm1 gm1) → va_S A s.heap H1 locs1 → lv_has ls1 7 [(0, .ref b), (1, .ref (h 0)), (2, .ref (hm 0)), (3, .ref ho), (4, .int i)] → W p l e room_1 s m args below meth c H1 locs1 (cells + 1) (slots + 6) Q (F0 m 673 ls1 [])) : W p l e room_1 s m args below meth c H locs cells slots Q (F0 m 577 ls []) := by
  refine lv_aload_n C.1.1 C.1.2.1 dl_577 rfl (lv_at hl 1 rfl) ?_
  refine lv_aload_n C.1.1 C.1.2.1 dl_578 rfl (lv_at hl 0 rfl) ?_
  refine lv_iload C.1.1 C.1.2.1 dl_579 (lv_at hl 4 rfl) ?_
  refine lv_iconst (v := 1) C.1.1 C.1.2.1 dl_581 (by decide) ?_
  refine lv_iadd C.1.1 C.1.2.1 dl_582 ?_
  refine va_sld C.1.1 C.1.2.1 hX hbl hbA hS i1 dl_583 ?_
  refine lv_aload_n C.1.1 C.1.2.1 dl_584 rfl (lv_at hl 3 rfl) ?_
  refine lw_goO (n := 3) C (ww_power (post := ck_po h f q_g154.2) (px := ck_px f q_g154.2) (fun sz => x_g154 hfl f g sz [.ref (h 0), .int (xs (i + 1).toNatClampNeg)] hI (List.forall_mem_cons.mpr ⟨⟨by show (1 : Int) ≤ (f 0).toInt; omega, by show (f 0).toInt ≤ (1 : Int); omega⟩, List.forall_mem_cons.mpr ⟨hI.1 3, fun _ h => absurd h List.not_mem_nil⟩⟩) (⟨Or.inr ⟨0, List.mem_cons_self, rfl⟩, ⟨⟨_, rfl, hc⟩, trivial⟩⟩)) ⟨rfl, rfl, by decide, by decide⟩ (ck_noV_ok (by decide)) (ck_ex2 (by decide))) kw_672 kw_673 kw_0 kw_674 (by decide +kernel) rfl rfl ⟨Nat.le_of_ble_eq_true rfl, Nat.le_of_ble_eq_true rfl⟩ hP hD hS rfl hl.1 rfl dl_585 hf (fun r f1 g1 H1 locs1 hq hP hD hS => ?_)
  obtain ⟨rfl, hI1, hv⟩ := ck_ansO (n := 1) (v := 1) (k := 0) (show q_g154.2.all (ck_ans "java/lang/IllegalStateException" "java/lang/IllegalArgumentException" 1 0 1) = true by decide) (by decide) hq
  show W p l e room_1 s m args below meth c H1 locs1 (cells + 1) (slots + 6) Q (F0 m 588 ls [.int (Int32.ofNat 1)])
  refine lv_istore (lv' := [(5, .int (Int32.ofNat 1)), (0, .ref b), (1, .ref (h 0)), (2, .ref (hm 0)), (3, .ref ho), (4, .int i)]) C.1.1 C.1.2.1 dl_588 hl (by decide) rfl (fun ls hl => ?_)
  refine lv_aload_n C.1.1 C.1.2.1 dl_590 rfl (lv_at hl 3 rfl) ?_
  refine lv_aload_n C.1.1 C.1.2.1 dl_591 rfl (lv_at hl 1 rfl) ?_
  refine lv_iload C.1.1 C.1.2.1 dl_592 (lv_at hl 5 rfl) ?_
  refine lv_iconst (v := 1) C.1.1 C.1.2.1 dl_594 (by decide) ?_
  refine lv_iadd C.1.1 C.1.2.1 dl_595 ?_
  refine va_sld C.1.1 C.1.2.1 hX hbl hbA hS i1 dl_596 ?_
  have K : ∀ (os : List ck_O), os.all (fun o => ck_isI o && ck_val 0 1 o && ck_val 1 0 o) = true → ∀ (r : Option Value) (f2 : zz_F) (g2 : zz_G) (H2 : Heap) (locs2 : List Loc), (∃ o ∈ os, ck_gO hm o.1 r ∧ ck_gT fm f2 o.2) → ck_gI fbM gbM f2 g2 → va_P D vN (wW cI cZ cJ ho h hm f1 g1 f2 g2) H2 → va_D A (wW cI cZ cJ ho h hm f1 g1 f2 g2) → va_S A s.heap H2 locs2 → W p l e room_1 s m args below meth c H2 locs2 (cells + 1) (slots + 6) Q (F0 m (597 + 3) ls (r.toList ++ [])) := by
    intro os hos r f2 g2 H2 locs2 hq2 hJ2 hP hD hS
    obtain ⟨o, ho1, hr, hT⟩ := hq2
    have h9 := List.all_eq_true.mp hos o ho1
    simp only [Bool.and_eq_true] at h9
    have hc0 := ck_val_ok h9.1.2 hT
    have hc1 := ck_val_ok h9.2 hT
    obtain ⟨x, rfl⟩ := ck_isI_ok h9.1.1 hr
    show W p l e room_1 s m args below meth c H2 locs2 (cells + 1) (slots + 6) Q (F0 m 600 ls [.int x])
    refine lv_istore (lv' := [(6, .int x), (5, .int (Int32.ofNat 1)), (0, .ref b), (1, .ref (h 0)), (2, .ref (hm 0)), (3, .ref ho), (4, .int i)]) C.1.1 C.1.2.1 dl_600 hl (by decide) rfl (fun ls hl => ?_)
    refine lv_goto (tgt := 673) C.1.1 C.1.2.1 dl_602 (by decide) ?_
    exact kk f1 _ f2 g2 H2 locs2 _ hI1 hJ2 (Or.inl ⟨hv, hc1⟩) hP hD hS (lv_sub hl [2, 3, 4, 5, 6] rfl)
  have j22 : (0 : Int) ≤ (fm 22).toInt ∧ (fm 22).toInt ≤ 1 := hJ.1 22
  by_cases hlat : (fm 22).toInt ≤ 0
  · exact lm_go (h := h) (hm := hm) (As := [.int (xs (i + 1).toNatClampNeg)]) C (c_m69 xL_ok) (cwV 1 C.1.2.2.2.2 (kk_gV kw_985 kw_986 kw_987 kw_9 kw_988) rfl rfl rfl (by decide +kernel) ⟨Nat.le_of_ble_eq_true rfl, Nat.le_of_ble_eq_true rfl⟩) hJ (List.forall_mem_cons.mpr ⟨hJ.1 0, List.forall_mem_cons.mpr ⟨⟨by show (0 : Int) ≤ (fm 1).toInt; omega, by show (fm 1).toInt ≤ (0 : Int); omega⟩, List.forall_mem_cons.mpr ⟨hJ.1 3, List.forall_mem_cons.mpr ⟨hJ.1 13, List.forall_mem_cons.mpr ⟨⟨by show (0 : Int) ≤ (fm 22).toInt; omega, by show (fm 22).toInt ≤ (0 : Int); omega⟩, fun _ h => absurd h List.not_mem_nil⟩⟩⟩⟩⟩) ⟨Or.inr ⟨0, List.mem_cons_self, rfl⟩, ⟨⟨_, rfl, hc⟩, trivial⟩⟩ hP hD hS rfl hl.1 rfl dl_597 hf (K _ (by decide))
  · exact lm_go (h := h) (hm := hm) (As := [.int (xs (i + 1).toNatClampNeg)]) C (c_m71 xL_ok) (cwV 1 C.1.2.2.2.2 (kk_gV kw_985 kw_986 kw_987 kw_9 kw_988) rfl rfl rfl (by decide +kernel) ⟨Nat.le_of_ble_eq_true rfl, Nat.le_of_ble_eq_true rfl⟩) hJ (List.forall_mem_cons.mpr ⟨hJ.1 0, List.forall_mem_cons.mpr ⟨⟨by show (0 : Int) ≤ (fm 1).toInt; omega, by show (fm 1).toInt ≤ (0 : Int); omega⟩, List.forall_mem_cons.mpr ⟨hJ.1 3, List.forall_mem_cons.mpr ⟨hJ.1 13, List.forall_mem_cons.mpr ⟨⟨by show (1 : Int) ≤ (fm 22).toInt; omega, by show (fm 22).toInt ≤ (1 : Int); omega⟩, fun _ h => absurd h List.not_mem_nil⟩⟩⟩⟩⟩) ⟨Or.inr ⟨0, List.mem_cons_self, rfl⟩, ⟨⟨_, rfl, hc⟩, trivial⟩⟩ hP hD hS rfl hl.1 rfl dl_597 hf (K _ (by decide))
theorem lo_16 {p : Program} {l : Launch} {e : Env} {s : State} {m : MethodId} {args : Array Value} {below : List Frame} {meth : Method} {c : Code} {H : Heap} {locs : List Loc} {cells slots : Nat} {Q : State → Prop} {D : va_G} {B : Nat} {A : Nat → Prop} {h hm : Nat → Nat} {cI cZ cJ : ClassId} {ho : Nat} {f fm : zz_F} {g gm : zz_G} {ls : Array Slot} {b L : Nat} {xs : Nat → Int32} {i : Int32} {cx : Cond} (hfl : l.flags = flags0) (C : zz_Cx p m meth c code 7 ret s args (cx :: kk_W) "NightCyclerLaw" D vN (tyN cI cZ cJ) A B (xL B h)) (hX : va_X b L xs s s.heap) (hbl : b < s.heap.size) (hbA : ¬ A b) (i1 : vp_in (i + 1) L) (i2 : vp_in (i + 2) L) (hI : ck_gI fbG gbG f g) (hJ : ck_gI fbM gbM fm gm) (hrel : lw_rel f fm) (hP : va_P D vN (wW cI cZ cJ ho h hm f g fm gm) H) (hD : va_D A (wW cI cZ cJ ho h hm f g fm gm)) (hS : va_S A s.heap H locs) (hl : lv_has ls 7 [(0, .ref b), (1, .ref (h 0)), (2, .ref (hm 0)), (3, .ref ho), (4, .int i)]) (hf : cells + 1 ≤ room_1.cells ∧ slots + 6 ≤ room_1.slots) (kk : ∀ (f1 : zz_F) (g1 : zz_G) (fm1 : zz_F) (gm1 : zz_G) (H1 : Heap) (locs1 : List Loc) (ls1 : Array Slot), ck_gI fbG gbG f1 g1 → ck_gI fbM gbM fm1 gm1 → lw_rel f1 fm1 → va_P D vN (wW cI cZ cJ ho h hm f1 g1 fm1 gm1) H1 → va_D A (wW cI cZ cJ ho h hm f1 g1 fm1 gm1) → va_S A s.heap H1 locs1 → lv_has ls1 7 [(0, .ref b), (1, .ref (h 0)), (2, .ref (hm 0)), (3, .ref ho), (4, .int i)] → W p l e room_1 s m args below meth c H1 locs1 (cells + 1) (slots + 6) Q (F0 m 673 ls1 [])) : W p l e room_1 s m args below meth c H locs cells slots Q (F0 m 577 ls []) := by
  have hlo := i32_lo (xs (i + 1).toNatClampNeg)
  have hhi := i32_hi (xs (i + 1).toNatClampNeg)
  rcases hrel with hrel | hrel
  · rcases (show ((-2147483648 : Int) ≤ (xs (i + 1).toNatClampNeg).toInt ∧ (xs (i + 1).toNatClampNeg).toInt ≤ (-1 : Int)) ∨ ((0 : Int) ≤ (xs (i + 1).toNatClampNeg).toInt ∧ (xs (i + 1).toNatClampNeg).toInt ≤ (2147483647 : Int)) by omega) with hc | hc
    · exact lo_16_c1g153 hfl C hX hbl hbA i1 i2 hI hJ hrel hP hD hS hl hc hf kk
    · exact lo_16_c1g154 hfl C hX hbl hbA i1 i2 hI hJ hrel hP hD hS hl hc hf kk
  · rcases (show ((-2147483648 : Int) ≤ (xs (i + 1).toNatClampNeg).toInt ∧ (xs (i + 1).toNatClampNeg).toInt ≤ (-1 : Int)) ∨ ((0 : Int) ≤ (xs (i + 1).toNatClampNeg).toInt ∧ (xs (i + 1).toNatClampNeg).toInt ≤ (2147483647 : Int)) by omega) with hc | hc
    · exact lo_16_c0g136 hfl C hX hbl hbA i1 i2 hI hJ hrel hP hD hS hl hc hf kk
    · exact lo_16_c0g137 hfl C hX hbl hbA i1 i2 hI hJ hrel hP hD hS hl hc hf kk
theorem lo_17_m {p : Program} {l : Launch} {e : Env} {s : State} {m : MethodId} {args : Array Value} {below : List Frame} {meth : Method} {c : Code} {H : Heap} {locs : List Loc} {cells slots : Nat} {Q : State → Prop} {D : va_G} {B : Nat} {A : Nat → Prop} {h hm : Nat → Nat} {cI cZ cJ : ClassId} {ho : Nat} {f fm : zz_F} {g gm : zz_G} {ls : Array Slot} {b L : Nat} {xs : Nat → Int32} {i : Int32} {cx : Cond} (hfl : l.flags = flags0) (C : zz_Cx p m meth c code 7 ret s args (cx :: kk_W) "NightCyclerLaw" D vN (tyN cI cZ cJ) A B (xL B h)) (hX : va_X b L xs s s.heap) (hbl : b < s.heap.size) (hbA : ¬ A b) (i1 : vp_in (i + 1) L) (i2 : vp_in (i + 2) L) (hI : ck_gI fbG gbG f g) (hJ : ck_gI fbM gbM fm gm) (hrel : lw_rel f fm) (hP : va_P D vN (wW cI cZ cJ ho h hm f g fm gm) H) (hD : va_D A (wW cI cZ cJ ho h hm f g fm gm)) (hS : va_S A s.heap H locs) (hl : lv_has ls 7 [(0, .ref b), (1, .ref (h 0)), (2, .ref (hm 0)), (3, .ref ho), (4, .int i)]) (hf : cells ≤ room_1.cells ∧ slots ≤ room_1.slots) (kk : ∀ (f1 : zz_F) (g1 : zz_G) (fm1 : zz_F) (gm1 : zz_G) (H1 : Heap) (locs1 : List Loc) (ls1 : Array Slot), ck_gI fbG gbG f1 g1 → ck_gI fbM gbM fm1 gm1 → lw_rel f1 fm1 → va_P D vN (wW cI cZ cJ ho h hm f1 g1 fm1 gm1) H1 → va_D A (wW cI cZ cJ ho h hm f1 g1 fm1 gm1) → va_S A s.heap H1 locs1 → lv_has ls1 7 [(0, .ref b), (1, .ref (h 0)), (2, .ref (hm 0)), (3, .ref ho), (4, .int i)] → W p l e room_1 s m args below meth c H1 locs1 cells slots Q (F0 m 673 ls1 [])) : W p l e room_1 s m args below meth c H locs cells slots Q (F0 m 618 ls []) := by
  refine lv_aload_n C.1.1 C.1.2.1 dl_618 rfl (lv_at hl 2 rfl) ?_
  refine lv_aload_n C.1.1 C.1.2.1 dl_619 rfl (lv_at hl 0 rfl) ?_
  refine lv_iload C.1.1 C.1.2.1 dl_620 (lv_at hl 4 rfl) ?_
  refine lv_iconst (v := 1) C.1.1 C.1.2.1 dl_622 (by decide) ?_
  refine lv_iadd C.1.1 C.1.2.1 dl_623 ?_
  refine va_sld C.1.1 C.1.2.1 hX hbl hbA hS i1 dl_624 ?_
  have K : ∀ (os : List ck_O), os.all (fun o => ck_isI o && ck_keep 1 o) = true → ∀ (r : Option Value) (f1 : zz_F) (g1 : zz_G) (H1 : Heap) (locs1 : List Loc), (∃ o ∈ os, ck_gO hm o.1 r ∧ ck_gT fm f1 o.2) → ck_gI fbM gbM f1 g1 → va_P D vN (wW cI cZ cJ ho h hm f g f1 g1) H1 → va_D A (wW cI cZ cJ ho h hm f g f1 g1) → va_S A s.heap H1 locs1 → W p l e room_1 s m args below meth c H1 locs1 cells slots Q (F0 m (625 + 3) ls (r.toList ++ [])) := by
    intro os hos r f1 g1 H1 locs1 hq hI1 hP hD hS
    obtain ⟨o, ho1, hr, hT⟩ := hq
    have h9 := List.all_eq_true.mp hos o ho1
    simp only [Bool.and_eq_true] at h9
    have hk := ck_keep_ok h9.2 hT
    obtain ⟨x, rfl⟩ := ck_isI_ok h9.1 hr
    show W p l e room_1 s m args below meth c H1 locs1 cells slots Q (F0 m 628 ls [.int x])
    refine lv_istore (lv' := [(6, .int x), (0, .ref b), (1, .ref (h 0)), (2, .ref (hm 0)), (3, .ref ho), (4, .int i)]) C.1.1 C.1.2.1 dl_628 hl (by decide) rfl (fun ls hl => ?_)
    refine lv_goto (tgt := 673) C.1.1 C.1.2.1 dl_630 (by decide) ?_
    exact kk f g f1 g1 H1 locs1 _ hI hI1 (by unfold lw_rel at hrel ⊢; rw [hk]; exact hrel) hP hD hS (lv_sub hl [1, 2, 3, 4, 5] rfl)
  exact lm_go (h := h) (hm := hm) (As := [.int (xs (i + 1).toNatClampNeg)]) C (c_m43 xL_ok) (cwV 1 C.1.2.2.2.2 (kk_gV kw_989 kw_990 kw_991 kw_9 kw_992) rfl rfl rfl (by decide +kernel) ⟨Nat.le_of_ble_eq_true rfl, Nat.le_of_ble_eq_true rfl⟩) hJ (List.forall_mem_cons.mpr ⟨hJ.1 0, List.forall_mem_cons.mpr ⟨hJ.1 1, List.forall_mem_cons.mpr ⟨hJ.1 3, List.forall_mem_cons.mpr ⟨hJ.1 13, List.forall_mem_cons.mpr ⟨hJ.1 22, fun _ h => absurd h List.not_mem_nil⟩⟩⟩⟩⟩) (⟨Or.inr ⟨0, List.mem_cons_self, rfl⟩, ⟨⟨_, rfl, ck_in_top _⟩, trivial⟩⟩) hP hD hS rfl hl.1 rfl dl_625 hf (K _ (by decide))
theorem lo_17 {p : Program} {l : Launch} {e : Env} {s : State} {m : MethodId} {args : Array Value} {below : List Frame} {meth : Method} {c : Code} {H : Heap} {locs : List Loc} {cells slots : Nat} {Q : State → Prop} {D : va_G} {B : Nat} {A : Nat → Prop} {h hm : Nat → Nat} {cI cZ cJ : ClassId} {ho : Nat} {f fm : zz_F} {g gm : zz_G} {ls : Array Slot} {b L : Nat} {xs : Nat → Int32} {i : Int32} {cx : Cond} (hfl : l.flags = flags0) (C : zz_Cx p m meth c code 7 ret s args (cx :: kk_W) "NightCyclerLaw" D vN (tyN cI cZ cJ) A B (xL B h)) (hX : va_X b L xs s s.heap) (hbl : b < s.heap.size) (hbA : ¬ A b) (i1 : vp_in (i + 1) L) (i2 : vp_in (i + 2) L) (hI : ck_gI fbG gbG f g) (hJ : ck_gI fbM gbM fm gm) (hrel : lw_rel f fm) (hP : va_P D vN (wW cI cZ cJ ho h hm f g fm gm) H) (hD : va_D A (wW cI cZ cJ ho h hm f g fm gm)) (hS : va_S A s.heap H locs) (hl : lv_has ls 7 [(0, .ref b), (1, .ref (h 0)), (2, .ref (hm 0)), (3, .ref ho), (4, .int i)]) (hf : cells + 1 ≤ room_1.cells ∧ slots + 6 ≤ room_1.slots) (kk : ∀ (f1 : zz_F) (g1 : zz_G) (fm1 : zz_F) (gm1 : zz_G) (H1 : Heap) (locs1 : List Loc) (ls1 : Array Slot), ck_gI fbG gbG f1 g1 → ck_gI fbM gbM fm1 gm1 → lw_rel f1 fm1 → va_P D vN (wW cI cZ cJ ho h hm f1 g1 fm1 gm1) H1 → va_D A (wW cI cZ cJ ho h hm f1 g1 fm1 gm1) → va_S A s.heap H1 locs1 → lv_has ls1 7 [(0, .ref b), (1, .ref (h 0)), (2, .ref (hm 0)), (3, .ref ho), (4, .int i)] → W p l e room_1 s m args below meth c H1 locs1 (cells + 1) (slots + 6) Q (F0 m 673 ls1 [])) : W p l e room_1 s m args below meth c H locs cells slots Q (F0 m 605 ls []) := by
  refine lv_aload_n C.1.1 C.1.2.1 dl_605 rfl (lv_at hl 1 rfl) ?_
  refine lv_aload_n C.1.1 C.1.2.1 dl_606 rfl (lv_at hl 0 rfl) ?_
  refine lv_iload C.1.1 C.1.2.1 dl_607 (lv_at hl 4 rfl) ?_
  refine lv_iconst (v := 1) C.1.1 C.1.2.1 dl_609 (by decide) ?_
  refine lv_iadd C.1.1 C.1.2.1 dl_610 ?_
  refine va_sld C.1.1 C.1.2.1 hX hbl hbA hS i1 dl_611 ?_
  refine lv_aload_n C.1.1 C.1.2.1 dl_612 rfl (lv_at hl 3 rfl) ?_
  have K : ∀ (x : Int32) (f1 : zz_F) (g1 : zz_G) (H1 : Heap) (locs1 : List Loc), ck_gI fbG gbG f1 g1 → f1 0 = f 0 → va_P D vN (wW cI cZ cJ ho h hm f1 g1 fm gm) H1 → va_D A (wW cI cZ cJ ho h hm f1 g1 fm gm) → va_S A s.heap H1 locs1 → W p l e room_1 s m args below meth c H1 locs1 (cells + 1) (slots + 6) Q (F0 m 616 ls [.int x]) := by
    intro x f1 g1 H1 locs1 hI1 hk hP hD hS
    refine lv_istore (lv' := [(5, .int x), (0, .ref b), (1, .ref (h 0)), (2, .ref (hm 0)), (3, .ref ho), (4, .int i)]) C.1.1 C.1.2.1 dl_616 hl (by decide) rfl (fun ls hl => ?_)
    exact lo_17_m hfl C hX hbl hbA i1 i2 hI1 hJ (by unfold lw_rel at hrel ⊢; rw [hk]; exact hrel) hP hD hS (lv_sub hl [1, 2, 3, 4, 5] rfl) hf kk
  exact lw_goO (n := 3) C (ww_state (post := ck_po h f q_g90.2) (px := ck_px f q_g90.2) (fun sz => x_g90 hfl f g sz [.ref (h 0), .int (xs (i + 1).toNatClampNeg)] hI (List.forall_mem_cons.mpr ⟨hI.1 0, List.forall_mem_cons.mpr ⟨hI.1 3, fun _ h => absurd h List.not_mem_nil⟩⟩) (⟨Or.inr ⟨0, List.mem_cons_self, rfl⟩, ⟨⟨_, rfl, ck_in_top _⟩, trivial⟩⟩)) ⟨rfl, rfl, by decide, by decide⟩ (ck_noV_ok (by decide)) (ck_ex1 (by decide))) kw_692 kw_693 kw_0 kw_694 (by decide +kernel) rfl rfl ⟨Nat.le_of_ble_eq_true rfl, Nat.le_of_ble_eq_true rfl⟩ hP hD hS rfl hl.1 rfl dl_613 hf (fun r f1 g1 H1 locs1 hq hP hD hS => by rcases hq with ⟨rfl, g0, x, rfl, o, ho1, -, hI1, hT1⟩ | ⟨rfl, g0, rfl, o, ho1, -, hI1, hT1⟩ <;> exact K _ f1 _ H1 locs1 (gI_v hI1) (ck_keep_ok (List.all_eq_true.mp (show q_g90.2.all (ck_keep 0) = true by decide) o ho1) hT1) hP hD hS)

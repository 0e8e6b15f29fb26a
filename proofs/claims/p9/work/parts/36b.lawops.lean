theorem lo_6_m {p : Program} {l : Launch} {e : Env} {s : State} {m : MethodId} {args : Array Value} {below : List Frame} {meth : Method} {c : Code} {H : Heap} {locs : List Loc} {cells slots : Nat} {Q : State → Prop} {D : va_G} {B : Nat} {A : Nat → Prop} {h hm : Nat → Nat} {cI cZ cJ : ClassId} {ho : Nat} {f fm : zz_F} {g gm : zz_G} {ls : Array Slot} {b L : Nat} {xs : Nat → Int32} {i : Int32} {cx : Cond} (hfl : l.flags = flags0) (C : zz_Cx p m meth c code 7 ret s args (cx :: kk_W) "NightCyclerLaw" D vN (tyN cI cZ cJ) A B (xL B h)) (hX : va_X b L xs s s.heap) (hbl : b < s.heap.size) (hbA : ¬ A b) (i1 : vp_in (i + 1) L) (i2 : vp_in (i + 2) L) (hI : ck_gI fbG gbG f g) (hJ : ck_gI fbM gbM fm gm) (hrel : lw_rel f fm) (hP : va_P D vN (wW cI cZ cJ ho h hm f g fm gm) H) (hD : va_D A (wW cI cZ cJ ho h hm f g fm gm)) (hS : va_S A s.heap H locs) (hl : lv_has ls 7 [(0, .ref b), (1, .ref (h 0)), (2, .ref (hm 0)), (3, .ref ho), (4, .int i)]) (hf : cells ≤ room_1.cells ∧ slots ≤ room_1.slots) (kk : ∀ (f1 : zz_F) (g1 : zz_G) (fm1 : zz_F) (gm1 : zz_G) (H1 : Heap) (locs1 : List Loc) (ls1 : Array Slot), ck_gI fbG gbG f1 g1 → ck_gI fbM gbM fm1 gm1 → lw_rel f1 fm1 → va_P D vN (wW cI cZ cJ ho h hm f1 g1 fm1 gm1) H1 → va_D A (wW cI cZ cJ ho h hm f1 g1 fm1 gm1) → va_S A s.heap H1 locs1 → lv_has ls1 7 [(0, .ref b), (1, .ref (h 0)), (2, .ref (hm 0)), (3, .ref ho), (4, .int i)] → W p l e room_1 s m args below meth c H1 locs1 cells slots Q (F0 m 673 ls1 [])) : W p l e room_1 s m args below meth c H locs cells slots Q (F0 m 308 ls []) := by
  refine lv_aload_n C.1.1 C.1.2.1 dl_308 rfl (lv_at hl 2 rfl) ?_
  refine lv_aload_n C.1.1 C.1.2.1 dl_309 rfl (lv_at hl 0 rfl) ?_
  refine lv_iload C.1.1 C.1.2.1 dl_310 (lv_at hl 4 rfl) ?_
  refine lv_iconst (v := 1) C.1.1 C.1.2.1 dl_312 (by decide) ?_
  refine lv_iadd C.1.1 C.1.2.1 dl_313 ?_
  refine va_sld C.1.1 C.1.2.1 hX hbl hbA hS i1 dl_314 ?_
  have K : ∀ (os : List ck_O), os.all (fun o => ck_isI o && ck_keep 1 o) = true → ∀ (r : Option Value) (f1 : zz_F) (g1 : zz_G) (H1 : Heap) (locs1 : List Loc), (∃ o ∈ os, ck_gO hm o.1 r ∧ ck_gT fm f1 o.2) → ck_gI fbM gbM f1 g1 → va_P D vN (wW cI cZ cJ ho h hm f g f1 g1) H1 → va_D A (wW cI cZ cJ ho h hm f g f1 g1) → va_S A s.heap H1 locs1 → W p l e room_1 s m args below meth c H1 locs1 cells slots Q (F0 m (315 + 3) ls (r.toList ++ [])) := by
    intro os hos r f1 g1 H1 locs1 hq hI1 hP hD hS
    obtain ⟨o, ho1, hr, hT⟩ := hq
    have h9 := List.all_eq_true.mp hos o ho1
    simp only [Bool.and_eq_true] at h9
    have hk := ck_keep_ok h9.2 hT
    obtain ⟨x, rfl⟩ := ck_isI_ok h9.1 hr
    show W p l e room_1 s m args below meth c H1 locs1 cells slots Q (F0 m 318 ls [.int x])
    refine lv_pop C.1.1 C.1.2.1 dl_318 rfl ?_
    refine lv_goto (tgt := 673) C.1.1 C.1.2.1 dl_319 (by decide) ?_
    exact kk f g f1 g1 H1 locs1 _ hI hI1 (by unfold lw_rel at hrel ⊢; rw [hk]; exact hrel) hP hD hS hl
  exact lm_go (h := h) (hm := hm) (As := [.int (xs (i + 1).toNatClampNeg)]) C (c_m33 xL_ok) (cwV 1 C.1.2.2.2.2 (kk_gV kw_944 kw_945 kw_946 kw_9 kw_947) rfl rfl rfl (by decide +kernel) ⟨Nat.le_of_ble_eq_true rfl, Nat.le_of_ble_eq_true rfl⟩) hJ (List.forall_mem_cons.mpr ⟨hJ.1 0, List.forall_mem_cons.mpr ⟨hJ.1 1, List.forall_mem_cons.mpr ⟨hJ.1 3, List.forall_mem_cons.mpr ⟨hJ.1 13, List.forall_mem_cons.mpr ⟨hJ.1 22, fun _ h => absurd h List.not_mem_nil⟩⟩⟩⟩⟩) (⟨Or.inr ⟨0, List.mem_cons_self, rfl⟩, ⟨⟨_, rfl, ck_in_top _⟩, trivial⟩⟩) hP hD hS rfl hl.1 rfl dl_315 hf (K _ (by decide))
theorem lo_6 {p : Program} {l : Launch} {e : Env} {s : State} {m : MethodId} {args : Array Value} {below : List Frame} {meth : Method} {c : Code} {H : Heap} {locs : List Loc} {cells slots : Nat} {Q : State → Prop} {D : va_G} {B : Nat} {A : Nat → Prop} {h hm : Nat → Nat} {cI cZ cJ : ClassId} {ho : Nat} {f fm : zz_F} {g gm : zz_G} {ls : Array Slot} {b L : Nat} {xs : Nat → Int32} {i : Int32} {cx : Cond} (hfl : l.flags = flags0) (C : zz_Cx p m meth c code 7 ret s args (cx :: kk_W) "NightCyclerLaw" D vN (tyN cI cZ cJ) A B (xL B h)) (hX : va_X b L xs s s.heap) (hbl : b < s.heap.size) (hbA : ¬ A b) (i1 : vp_in (i + 1) L) (i2 : vp_in (i + 2) L) (hI : ck_gI fbG gbG f g) (hJ : ck_gI fbM gbM fm gm) (hrel : lw_rel f fm) (hP : va_P D vN (wW cI cZ cJ ho h hm f g fm gm) H) (hD : va_D A (wW cI cZ cJ ho h hm f g fm gm)) (hS : va_S A s.heap H locs) (hl : lv_has ls 7 [(0, .ref b), (1, .ref (h 0)), (2, .ref (hm 0)), (3, .ref ho), (4, .int i)]) (hf : cells + 1 ≤ room_1.cells ∧ slots + 6 ≤ room_1.slots) (kk : ∀ (f1 : zz_F) (g1 : zz_G) (fm1 : zz_F) (gm1 : zz_G) (H1 : Heap) (locs1 : List Loc) (ls1 : Array Slot), ck_gI fbG gbG f1 g1 → ck_gI fbM gbM fm1 gm1 → lw_rel f1 fm1 → va_P D vN (wW cI cZ cJ ho h hm f1 g1 fm1 gm1) H1 → va_D A (wW cI cZ cJ ho h hm f1 g1 fm1 gm1) → va_S A s.heap H1 locs1 → lv_has ls1 7 [(0, .ref b), (1, .ref (h 0)), (2, .ref (hm 0)), (3, .ref ho), (4, .int i)] → W p l e room_1 s m args below meth c H1 locs1 (cells + 1) (slots + 6) Q (F0 m 673 ls1 [])) : W p l e room_1 s m args below meth c H locs cells slots Q (F0 m 297 ls []) := by
  refine W.widen (k := cells + 1) (n := slots + 6) (Nat.le_succ _) (Nat.le_add_right _ _) ?_
  refine lv_aload_n C.1.1 C.1.2.1 dl_297 rfl (lv_at hl 1 rfl) ?_
  refine lv_aload_n C.1.1 C.1.2.1 dl_298 rfl (lv_at hl 0 rfl) ?_
  refine lv_iload C.1.1 C.1.2.1 dl_299 (lv_at hl 4 rfl) ?_
  refine lv_iconst (v := 1) C.1.1 C.1.2.1 dl_301 (by decide) ?_
  refine lv_iadd C.1.1 C.1.2.1 dl_302 ?_
  refine va_sld C.1.1 C.1.2.1 hX hbl hbA hS i1 dl_303 ?_
  have K : ∀ (os : List ck_O), os.all (fun o => ck_isI o && ck_keep 0 o) = true → ∀ (r : Option Value) (f1 : zz_F) (g1 : zz_G) (H1 : Heap) (locs1 : List Loc), (∃ o ∈ os, ck_gO h o.1 r ∧ ck_gT f f1 o.2) → ck_gI fbG gbG f1 g1 → va_P D vN (wW cI cZ cJ ho h hm f1 g1 fm gm) H1 → va_D A (wW cI cZ cJ ho h hm f1 g1 fm gm) → va_S A s.heap H1 locs1 → W p l e room_1 s m args below meth c H1 locs1 (cells + 1) (slots + 6) Q (F0 m (304 + 3) ls (r.toList ++ [])) := by
    intro os hos r f1 g1 H1 locs1 hq hI1 hP hD hS
    obtain ⟨o, ho1, hr, hT⟩ := hq
    have h9 := List.all_eq_true.mp hos o ho1
    simp only [Bool.and_eq_true] at h9
    have hk := ck_keep_ok h9.2 hT
    obtain ⟨x, rfl⟩ := ck_isI_ok h9.1 hr
    show W p l e room_1 s m args below meth c H1 locs1 (cells + 1) (slots + 6) Q (F0 m 307 ls [.int x])
    refine lv_pop C.1.1 C.1.2.1 dl_307 rfl ?_
    exact lo_6_m hfl C hX hbl hbA i1 i2 hI1 hJ (by unfold lw_rel at hrel ⊢; rw [hk]; exact hrel) hP hD hS hl hf kk
  exact lw_go (h := h) (hm := hm) (As := [.int (xs (i + 1).toNatClampNeg)]) C c_g72 (cwV 1 C.1.2.2.2.2 (kk_gV kw_302 kw_303 kw_304 kw_1 kw_305) rfl rfl rfl (by decide +kernel) ⟨Nat.le_of_ble_eq_true rfl, Nat.le_of_ble_eq_true rfl⟩) hI (List.forall_mem_cons.mpr ⟨hI.1 0, List.forall_mem_cons.mpr ⟨hI.1 3, fun _ h => absurd h List.not_mem_nil⟩⟩) (⟨Or.inr ⟨0, List.mem_cons_self, rfl⟩, ⟨⟨_, rfl, ck_in_top _⟩, trivial⟩⟩) hP hD hS rfl hl.1 rfl dl_304 hf (K _ (by decide))
theorem lo_7_c0g141 {p : Program} {l : Launch} {e : Env} {s : State} {m : MethodId} {args : Array Value} {below : List Frame} {meth : Method} {c : Code} {H : Heap} {locs : List Loc} {cells slots : Nat} {Q : State → Prop} {D : va_G} {B : Nat} {A : Nat → Prop} {h hm : Nat → Nat} {cI cZ cJ : ClassId} {ho : Nat} {f fm : zz_F} {g gm : zz_G} {ls : Array Slot} {b L : Nat} {xs : Nat → Int32} {i : Int32} {cx : Cond} (hfl : l.flags = flags0) (C : zz_Cx p m meth c code 7 ret s args (cx :: kk_W) "NightCyclerLaw" D vN (tyN cI cZ cJ) A B (xL B h)) (hX : va_X b L xs s s.heap) (hbl : b < s.heap.size) (hbA : ¬ A b) (i1 : vp_in (i + 1) L) (i2 : vp_in (i + 2) L) (hI : ck_gI fbG gbG f g) (hJ : ck_gI fbM gbM fm gm) (hrel : (f 0).toInt = 0 ∧ (fm 1).toInt = 1) (hP : va_P D vN (wW cI cZ cJ ho h hm f g fm gm) H) (hD : va_D A (wW cI cZ cJ ho h hm f g fm gm)) (hS : va_S A s.heap H locs) (hl : lv_has ls 7 [(0, .ref b), (1, .ref (h 0)), (2, .ref (hm 0)), (3, .ref ho), (4, .int i)]) (hc0 : (-2147483648 : Int) ≤ (xs (i + 1).toNatClampNeg).toInt ∧ (xs (i + 1).toNatClampNeg).toInt ≤ (-1 : Int)) (hc1 : (-2147483648 : Int) ≤ (xs (i + 2).toNatClampNeg).toInt ∧ (xs (i + 2).toNatClampNeg).toInt ≤ (-5001 : Int)) (hf : cells + 1 ≤ room_1.cells ∧ slots + 6 ≤ room_1.slots) (kk : ∀ (f1 : zz_F) (g1 : zz_G) (fm1 : zz_F) (gm1 : zz_G) (H1 : Heap) (locs1 : List Loc) (ls1 : Array Slot), ck_gI fbG gbG f1 g1 → ck_gI fbM gbM fm1 gm1 → lw_rel f1 fm1 → va_P D vN (wW cI cZ cJ ho h hm f1 g1 fm1 gm1) H1 → va_D A (wW cI cZ cJ ho h hm f1 g1 fm1 gm1) → va_S A s.heap H1 locs1 → lv_has ls1 7 [(0, .ref b), (1, .ref (h 0)), (2, .ref (hm 0)), (3, .ref ho), (4, .int i)] → W p l e room_1 s m args below meth c H1 locs1 (cells + 1) (slots + 6) Q (F0 m 673 ls1 [])) : W p l e room_1 s m args below meth c H locs cells slots Q (F0 m 322 ls []) := by
  refine W.widen (k := cells + 1) (n := slots + 6) (Nat.le_succ _) (Nat.le_add_right _ _) ?_
  refine lv_aload_n C.1.1 C.1.2.1 dl_322 rfl (lv_at hl 1 rfl) ?_
  refine lv_aload_n C.1.1 C.1.2.1 dl_323 rfl (lv_at hl 0 rfl) ?_
  refine lv_iload C.1.1 C.1.2.1 dl_324 (lv_at hl 4 rfl) ?_
  refine lv_iconst (v := 1) C.1.1 C.1.2.1 dl_326 (by decide) ?_
  refine lv_iadd C.1.1 C.1.2.1 dl_327 ?_
  refine va_sld C.1.1 C.1.2.1 hX hbl hbA hS i1 dl_328 ?_
  refine lv_aload_n C.1.1 C.1.2.1 dl_329 rfl (lv_at hl 0 rfl) ?_
  refine lv_iload C.1.1 C.1.2.1 dl_330 (lv_at hl 4 rfl) ?_
  refine lv_iconst (v := 2) C.1.1 C.1.2.1 dl_332 (by decide) ?_
  refine lv_iadd C.1.1 C.1.2.1 dl_333 ?_
  refine va_sld C.1.1 C.1.2.1 hX hbl hbA hS i2 dl_334 ?_
  refine lw_go (h := h) (hm := hm) (As := [.int (xs (i + 1).toNatClampNeg), .int (xs (i + 2).toNatClampNeg)]) C c_g141 (cwV 2 C.1.2.2.2.2 (kk_gV kw_319 kw_320 kw_321 kw_1 kw_322) rfl rfl rfl (by decide +kernel) ⟨Nat.le_of_ble_eq_true rfl, Nat.le_of_ble_eq_true rfl⟩) hI (List.forall_mem_cons.mpr ⟨⟨by show (0 : Int) ≤ (f 0).toInt; omega, by show (f 0).toInt ≤ (0 : Int); omega⟩, List.forall_mem_cons.mpr ⟨hI.1 3, fun _ h => absurd h List.not_mem_nil⟩⟩) (⟨Or.inr ⟨0, List.mem_cons_self, rfl⟩, ⟨⟨_, rfl, hc0⟩, ⟨⟨_, rfl, hc1⟩, trivial⟩⟩⟩) hP hD hS rfl hl.1 rfl dl_335 hf (fun r f1 g1 H1 locs1 hq hI1 hP hD hS => ?_)
  obtain ⟨o, ho1, hr, hT⟩ := hq
  have h9 := List.all_eq_true.mp (show q_g141.2.all (fun o => ck_isN 0 o && ck_keep 0 o) = true by decide) o ho1
  simp only [Bool.and_eq_true] at h9
  obtain ⟨x, rfl, hx⟩ := ck_isN_ok h9.1 hr
  have hk := ck_keep_ok h9.2 hT
  show W p l e room_1 s m args below meth c H1 locs1 (cells + 1) (slots + 6) Q (F0 m 338 ls [.int x])
  refine lv_aload_n C.1.1 C.1.2.1 dl_338 rfl (lv_at hl 2 rfl) ?_
  refine lv_aload_n C.1.1 C.1.2.1 dl_339 rfl (lv_at hl 0 rfl) ?_
  refine lv_iload C.1.1 C.1.2.1 dl_340 (lv_at hl 4 rfl) ?_
  refine lv_iconst (v := 1) C.1.1 C.1.2.1 dl_342 (by decide) ?_
  refine lv_iadd C.1.1 C.1.2.1 dl_343 ?_
  refine va_sld C.1.1 C.1.2.1 hX hbl hbA hS i1 dl_344 ?_
  refine lv_aload_n C.1.1 C.1.2.1 dl_345 rfl (lv_at hl 0 rfl) ?_
  refine lv_iload C.1.1 C.1.2.1 dl_346 (lv_at hl 4 rfl) ?_
  refine lv_iconst (v := 2) C.1.1 C.1.2.1 dl_348 (by decide) ?_
  refine lv_iadd C.1.1 C.1.2.1 dl_349 ?_
  refine va_sld C.1.1 C.1.2.1 hX hbl hbA hS i2 dl_350 ?_
  refine lm_goR (h := h) (hm := hm) (As := [.int (xs (i + 1).toNatClampNeg), .int (xs (i + 2).toNatClampNeg)]) (rest := [.int x]) C (c_m94 xL_ok) (cwV 2 C.1.2.2.2.2 (kk_gV kw_949 kw_950 kw_951 kw_9 kw_952) rfl rfl rfl (by decide +kernel) ⟨Nat.le_of_ble_eq_true rfl, Nat.le_of_ble_eq_true rfl⟩) hJ (List.forall_mem_cons.mpr ⟨hJ.1 0, List.forall_mem_cons.mpr ⟨⟨by show (1 : Int) ≤ (fm 1).toInt; omega, by show (fm 1).toInt ≤ (1 : Int); omega⟩, List.forall_mem_cons.mpr ⟨hJ.1 3, List.forall_mem_cons.mpr ⟨hJ.1 13, List.forall_mem_cons.mpr ⟨hJ.1 22, fun _ h => absurd h List.not_mem_nil⟩⟩⟩⟩⟩) (⟨Or.inr ⟨0, List.mem_cons_self, rfl⟩, ⟨⟨_, rfl, hc0⟩, ⟨⟨_, rfl, hc1⟩, trivial⟩⟩⟩) hP hD hS rfl hl.1 rfl (Nat.le_of_ble_eq_true rfl) dl_351 hf (fun r f2 g2 H2 locs2 hq2 hJ2 hP hD hS => ?_)
  obtain ⟨o2, ho2, hr2, hT2⟩ := hq2
  have h8 := List.all_eq_true.mp (show q_m94.2.all (fun o => ck_isN 0 o && ck_keep 1 o) = true by decide) o2 ho2
  simp only [Bool.and_eq_true] at h8
  obtain ⟨x2, rfl, hx2⟩ := ck_isN_ok h8.1 hr2
  have hk2 := ck_keep_ok h8.2 hT2
  show W p l e room_1 s m args below meth c H2 locs2 (cells + 1) (slots + 6) Q (F0 m 354 ls [.int x2, .int x])
  refine lv_icmp_eq (tgt := 673) C.1.1 C.1.2.1 dl_354 (by decide) (fun _ => ?_) (fun hne => absurd (Int32.toInt_inj.mp (hx.trans hx2.symm)) hne)
  exact kk f1 _ f2 g2 H2 locs2 _ hI1 hJ2 (Or.inr ⟨by rw [hk]; exact hrel.1, by rw [hk2]; exact hrel.2⟩) hP hD hS hl
theorem lo_7_c0g142 {p : Program} {l : Launch} {e : Env} {s : State} {m : MethodId} {args : Array Value} {below : List Frame} {meth : Method} {c : Code} {H : Heap} {locs : List Loc} {cells slots : Nat} {Q : State → Prop} {D : va_G} {B : Nat} {A : Nat → Prop} {h hm : Nat → Nat} {cI cZ cJ : ClassId} {ho : Nat} {f fm : zz_F} {g gm : zz_G} {ls : Array Slot} {b L : Nat} {xs : Nat → Int32} {i : Int32} {cx : Cond} (hfl : l.flags = flags0) (C : zz_Cx p m meth c code 7 ret s args (cx :: kk_W) "NightCyclerLaw" D vN (tyN cI cZ cJ) A B (xL B h)) (hX : va_X b L xs s s.heap) (hbl : b < s.heap.size) (hbA : ¬ A b) (i1 : vp_in (i + 1) L) (i2 : vp_in (i + 2) L) (hI : ck_gI fbG gbG f g) (hJ : ck_gI fbM gbM fm gm) (hrel : (f 0).toInt = 0 ∧ (fm 1).toInt = 1) (hP : va_P D vN (wW cI cZ cJ ho h hm f g fm gm) H) (hD : va_D A (wW cI cZ cJ ho h hm f g fm gm)) (hS : va_S A s.heap H locs) (hl : lv_has ls 7 [(0, .ref b), (1, .ref (h 0)), (2, .ref (hm 0)), (3, .ref ho), (4, .int i)]) (hc0 : (-2147483648 : Int) ≤ (xs (i + 1).toNatClampNeg).toInt ∧ (xs (i + 1).toNatClampNeg).toInt ≤ (-1 : Int)) (hc1 : (-5000 : Int) ≤ (xs (i + 2).toNatClampNeg).toInt ∧ (xs (i + 2).toNatClampNeg).toInt ≤ (10000 : Int)) (hf : cells + 1 ≤ room_1.cells ∧ slots + 6 ≤ room_1.slots) (kk : ∀ (f1 : zz_F) (g1 : zz_G) (fm1 : zz_F) (gm1 : zz_G) (H1 : Heap) (locs1 : List Loc) (ls1 : Array Slot), ck_gI fbG gbG f1 g1 → ck_gI fbM gbM fm1 gm1 → lw_rel f1 fm1 → va_P D vN (wW cI cZ cJ ho h hm f1 g1 fm1 gm1) H1 → va_D A (wW cI cZ cJ ho h hm f1 g1 fm1 gm1) → va_S A s.heap H1 locs1 → lv_has ls1 7 [(0, .ref b), (1, .ref (h 0)), (2, .ref (hm 0)), (3, .ref ho), (4, .int i)] → W p l e room_1 s m args below meth c H1 locs1 (cells + 1) (slots + 6) Q (F0 m 673 ls1 [])) : W p l e room_1 s m args below meth c H locs cells slots Q (F0 m 322 ls []) := by
  refine W.widen (k := cells + 1) (n := slots + 6) (Nat.le_succ _) (Nat.le_add_right _ _) ?_
  refine lv_aload_n C.1.1 C.1.2.1 dl_322 rfl (lv_at hl 1 rfl) ?_
  refine lv_aload_n C.1.1 C.1.2.1 dl_323 rfl (lv_at hl 0 rfl) ?_
  refine lv_iload C.1.1 C.1.2.1 dl_324 (lv_at hl 4 rfl) ?_
  refine lv_iconst (v := 1) C.1.1 C.1.2.1 dl_326 (by decide) ?_
  refine lv_iadd C.1.1 C.1.2.1 dl_327 ?_
  refine va_sld C.1.1 C.1.2.1 hX hbl hbA hS i1 dl_328 ?_
  refine lv_aload_n C.1.1 C.1.2.1 dl_329 rfl (lv_at hl 0 rfl) ?_
  refine lv_iload C.1.1 C.1.2.1 dl_330 (lv_at hl 4 rfl) ?_
  refine lv_iconst (v := 2) C.1.1 C.1.2.1 dl_332 (by decide) ?_
  refine lv_iadd C.1.1 C.1.2.1 dl_333 ?_
  refine va_sld C.1.1 C.1.2.1 hX hbl hbA hS i2 dl_334 ?_
  refine lw_go (h := h) (hm := hm) (As := [.int (xs (i + 1).toNatClampNeg), .int (xs (i + 2).toNatClampNeg)]) C c_g142 (cwV 2 C.1.2.2.2.2 (kk_gV kw_319 kw_320 kw_321 kw_1 kw_322) rfl rfl rfl (by decide +kernel) ⟨Nat.le_of_ble_eq_true rfl, Nat.le_of_ble_eq_true rfl⟩) hI (List.forall_mem_cons.mpr ⟨⟨by show (0 : Int) ≤ (f 0).toInt; omega, by show (f 0).toInt ≤ (0 : Int); omega⟩, List.forall_mem_cons.mpr ⟨hI.1 3, fun _ h => absurd h List.not_mem_nil⟩⟩) (⟨Or.inr ⟨0, List.mem_cons_self, rfl⟩, ⟨⟨_, rfl, hc0⟩, ⟨⟨_, rfl, hc1⟩, trivial⟩⟩⟩) hP hD hS rfl hl.1 rfl dl_335 hf (fun r f1 g1 H1 locs1 hq hI1 hP hD hS => ?_)
  obtain ⟨o, ho1, hr, hT⟩ := hq
  have h9 := List.all_eq_true.mp (show q_g142.2.all (fun o => ck_isN 0 o && ck_keep 0 o) = true by decide) o ho1
  simp only [Bool.and_eq_true] at h9
  obtain ⟨x, rfl, hx⟩ := ck_isN_ok h9.1 hr
  have hk := ck_keep_ok h9.2 hT
  show W p l e room_1 s m args below meth c H1 locs1 (cells + 1) (slots + 6) Q (F0 m 338 ls [.int x])
  refine lv_aload_n C.1.1 C.1.2.1 dl_338 rfl (lv_at hl 2 rfl) ?_
  refine lv_aload_n C.1.1 C.1.2.1 dl_339 rfl (lv_at hl 0 rfl) ?_
  refine lv_iload C.1.1 C.1.2.1 dl_340 (lv_at hl 4 rfl) ?_
  refine lv_iconst (v := 1) C.1.1 C.1.2.1 dl_342 (by decide) ?_
  refine lv_iadd C.1.1 C.1.2.1 dl_343 ?_
  refine va_sld C.1.1 C.1.2.1 hX hbl hbA hS i1 dl_344 ?_
  refine lv_aload_n C.1.1 C.1.2.1 dl_345 rfl (lv_at hl 0 rfl) ?_
  refine lv_iload C.1.1 C.1.2.1 dl_346 (lv_at hl 4 rfl) ?_
  refine lv_iconst (v := 2) C.1.1 C.1.2.1 dl_348 (by decide) ?_
  refine lv_iadd C.1.1 C.1.2.1 dl_349 ?_
  refine va_sld C.1.1 C.1.2.1 hX hbl hbA hS i2 dl_350 ?_
  refine lm_goR (h := h) (hm := hm) (As := [.int (xs (i + 1).toNatClampNeg), .int (xs (i + 2).toNatClampNeg)]) (rest := [.int x]) C (c_m95 xL_ok) (cwV 2 C.1.2.2.2.2 (kk_gV kw_949 kw_950 kw_951 kw_9 kw_952) rfl rfl rfl (by decide +kernel) ⟨Nat.le_of_ble_eq_true rfl, Nat.le_of_ble_eq_true rfl⟩) hJ (List.forall_mem_cons.mpr ⟨hJ.1 0, List.forall_mem_cons.mpr ⟨⟨by show (1 : Int) ≤ (fm 1).toInt; omega, by show (fm 1).toInt ≤ (1 : Int); omega⟩, List.forall_mem_cons.mpr ⟨hJ.1 3, List.forall_mem_cons.mpr ⟨hJ.1 13, List.forall_mem_cons.mpr ⟨hJ.1 22, fun _ h => absurd h List.not_mem_nil⟩⟩⟩⟩⟩) (⟨Or.inr ⟨0, List.mem_cons_self, rfl⟩, ⟨⟨_, rfl, hc0⟩, ⟨⟨_, rfl, hc1⟩, trivial⟩⟩⟩) hP hD hS rfl hl.1 rfl (Nat.le_of_ble_eq_true rfl) dl_351 hf (fun r f2 g2 H2 locs2 hq2 hJ2 hP hD hS => ?_)
  obtain ⟨o2, ho2, hr2, hT2⟩ := hq2
  have h8 := List.all_eq_true.mp (show q_m95.2.all (fun o => ck_isN 0 o && ck_keep 1 o) = true by decide) o2 ho2
  simp only [Bool.and_eq_true] at h8
  obtain ⟨x2, rfl, hx2⟩ := ck_isN_ok h8.1 hr2
  have hk2 := ck_keep_ok h8.2 hT2
  show W p l e room_1 s m args below meth c H2 locs2 (cells + 1) (slots + 6) Q (F0 m 354 ls [.int x2, .int x])
  refine lv_icmp_eq (tgt := 673) C.1.1 C.1.2.1 dl_354 (by decide) (fun _ => ?_) (fun hne => absurd (Int32.toInt_inj.mp (hx.trans hx2.symm)) hne)
  exact kk f1 _ f2 g2 H2 locs2 _ hI1 hJ2 (Or.inr ⟨by rw [hk]; exact hrel.1, by rw [hk2]; exact hrel.2⟩) hP hD hS hl
theorem lo_7_c0g143 {p : Program} {l : Launch} {e : Env} {s : State} {m : MethodId} {args : Array Value} {below : List Frame} {meth : Method} {c : Code} {H : Heap} {locs : List Loc} {cells slots : Nat} {Q : State → Prop} {D : va_G} {B : Nat} {A : Nat → Prop} {h hm : Nat → Nat} {cI cZ cJ : ClassId} {ho : Nat} {f fm : zz_F} {g gm : zz_G} {ls : Array Slot} {b L : Nat} {xs : Nat → Int32} {i : Int32} {cx : Cond} (hfl : l.flags = flags0) (C : zz_Cx p m meth c code 7 ret s args (cx :: kk_W) "NightCyclerLaw" D vN (tyN cI cZ cJ) A B (xL B h)) (hX : va_X b L xs s s.heap) (hbl : b < s.heap.size) (hbA : ¬ A b) (i1 : vp_in (i + 1) L) (i2 : vp_in (i + 2) L) (hI : ck_gI fbG gbG f g) (hJ : ck_gI fbM gbM fm gm) (hrel : (f 0).toInt = 0 ∧ (fm 1).toInt = 1) (hP : va_P D vN (wW cI cZ cJ ho h hm f g fm gm) H) (hD : va_D A (wW cI cZ cJ ho h hm f g fm gm)) (hS : va_S A s.heap H locs) (hl : lv_has ls 7 [(0, .ref b), (1, .ref (h 0)), (2, .ref (hm 0)), (3, .ref ho), (4, .int i)]) (hc0 : (-2147483648 : Int) ≤ (xs (i + 1).toNatClampNeg).toInt ∧ (xs (i + 1).toNatClampNeg).toInt ≤ (-1 : Int)) (hc1 : (10001 : Int) ≤ (xs (i + 2).toNatClampNeg).toInt ∧ (xs (i + 2).toNatClampNeg).toInt ≤ (2147483647 : Int)) (hf : cells + 1 ≤ room_1.cells ∧ slots + 6 ≤ room_1.slots) (kk : ∀ (f1 : zz_F) (g1 : zz_G) (fm1 : zz_F) (gm1 : zz_G) (H1 : Heap) (locs1 : List Loc) (ls1 : Array Slot), ck_gI fbG gbG f1 g1 → ck_gI fbM gbM fm1 gm1 → lw_rel f1 fm1 → va_P D vN (wW cI cZ cJ ho h hm f1 g1 fm1 gm1) H1 → va_D A (wW cI cZ cJ ho h hm f1 g1 fm1 gm1) → va_S A s.heap H1 locs1 → lv_has ls1 7 [(0, .ref b), (1, .ref (h 0)), (2, .ref (hm 0)), (3, .ref ho), (4, .int i)] → W p l e room_1 s m args below meth c H1 locs1 (cells + 1) (slots + 6) Q (F0 m 673 ls1 [])) : W p l e room_1 s m args below meth c H locs cells slots Q (F0 m 322 ls []) := by
  refine W.widen (k := cells + 1) (n := slots + 6) (Nat.le_succ _) (Nat.le_add_right _ _) ?_
  refine lv_aload_n C.1.1 C.1.2.1 dl_322 rfl (lv_at hl 1 rfl) ?_
  refine lv_aload_n C.1.1 C.1.2.1 dl_323 rfl (lv_at hl 0 rfl) ?_
  refine lv_iload C.1.1 C.1.2.1 dl_324 (lv_at hl 4 rfl) ?_
  refine lv_iconst (v := 1) C.1.1 C.1.2.1 dl_326 (by decide) ?_
  refine lv_iadd C.1.1 C.1.2.1 dl_327 ?_
  refine va_sld C.1.1 C.1.2.1 hX hbl hbA hS i1 dl_328 ?_
  refine lv_aload_n C.1.1 C.1.2.1 dl_329 rfl (lv_at hl 0 rfl) ?_
  refine lv_iload C.1.1 C.1.2.1 dl_330 (lv_at hl 4 rfl) ?_
  refine lv_iconst (v := 2) C.1.1 C.1.2.1 dl_332 (by decide) ?_
  refine lv_iadd C.1.1 C.1.2.1 dl_333 ?_
  refine va_sld C.1.1 C.1.2.1 hX hbl hbA hS i2 dl_334 ?_
  refine lw_go (h := h) (hm := hm) (As := [.int (xs (i + 1).toNatClampNeg), .int (xs (i + 2).toNatClampNeg)]) C c_g143 (cwV 2 C.1.2.2.2.2 (kk_gV kw_319 kw_320 kw_321 kw_1 kw_322) rfl rfl rfl (by decide +kernel) ⟨Nat.le_of_ble_eq_true rfl, Nat.le_of_ble_eq_true rfl⟩) hI (List.forall_mem_cons.mpr ⟨⟨by show (0 : Int) ≤ (f 0).toInt; omega, by show (f 0).toInt ≤ (0 : Int); omega⟩, List.forall_mem_cons.mpr ⟨hI.1 3, fun _ h => absurd h List.not_mem_nil⟩⟩) (⟨Or.inr ⟨0, List.mem_cons_self, rfl⟩, ⟨⟨_, rfl, hc0⟩, ⟨⟨_, rfl, hc1⟩, trivial⟩⟩⟩) hP hD hS rfl hl.1 rfl dl_335 hf (fun r f1 g1 H1 locs1 hq hI1 hP hD hS => ?_)
  obtain ⟨o, ho1, hr, hT⟩ := hq
  have h9 := List.all_eq_true.mp (show q_g143.2.all (fun o => ck_isN 0 o && ck_keep 0 o) = true by decide) o ho1
  simp only [Bool.and_eq_true] at h9
  obtain ⟨x, rfl, hx⟩ := ck_isN_ok h9.1 hr
  have hk := ck_keep_ok h9.2 hT
  show W p l e room_1 s m args below meth c H1 locs1 (cells + 1) (slots + 6) Q (F0 m 338 ls [.int x])
  refine lv_aload_n C.1.1 C.1.2.1 dl_338 rfl (lv_at hl 2 rfl) ?_
  refine lv_aload_n C.1.1 C.1.2.1 dl_339 rfl (lv_at hl 0 rfl) ?_
  refine lv_iload C.1.1 C.1.2.1 dl_340 (lv_at hl 4 rfl) ?_
  refine lv_iconst (v := 1) C.1.1 C.1.2.1 dl_342 (by decide) ?_
  refine lv_iadd C.1.1 C.1.2.1 dl_343 ?_
  refine va_sld C.1.1 C.1.2.1 hX hbl hbA hS i1 dl_344 ?_
  refine lv_aload_n C.1.1 C.1.2.1 dl_345 rfl (lv_at hl 0 rfl) ?_
  refine lv_iload C.1.1 C.1.2.1 dl_346 (lv_at hl 4 rfl) ?_
  refine lv_iconst (v := 2) C.1.1 C.1.2.1 dl_348 (by decide) ?_
  refine lv_iadd C.1.1 C.1.2.1 dl_349 ?_
  refine va_sld C.1.1 C.1.2.1 hX hbl hbA hS i2 dl_350 ?_
  refine lm_goR (h := h) (hm := hm) (As := [.int (xs (i + 1).toNatClampNeg), .int (xs (i + 2).toNatClampNeg)]) (rest := [.int x]) C (c_m96 xL_ok) (cwV 2 C.1.2.2.2.2 (kk_gV kw_949 kw_950 kw_951 kw_9 kw_952) rfl rfl rfl (by decide +kernel) ⟨Nat.le_of_ble_eq_true rfl, Nat.le_of_ble_eq_true rfl⟩) hJ (List.forall_mem_cons.mpr ⟨hJ.1 0, List.forall_mem_cons.mpr ⟨⟨by show (1 : Int) ≤ (fm 1).toInt; omega, by show (fm 1).toInt ≤ (1 : Int); omega⟩, List.forall_mem_cons.mpr ⟨hJ.1 3, List.forall_mem_cons.mpr ⟨hJ.1 13, List.forall_mem_cons.mpr ⟨hJ.1 22, fun _ h => absurd h List.not_mem_nil⟩⟩⟩⟩⟩) (⟨Or.inr ⟨0, List.mem_cons_self, rfl⟩, ⟨⟨_, rfl, hc0⟩, ⟨⟨_, rfl, hc1⟩, trivial⟩⟩⟩) hP hD hS rfl hl.1 rfl (Nat.le_of_ble_eq_true rfl) dl_351 hf (fun r f2 g2 H2 locs2 hq2 hJ2 hP hD hS => ?_)
  obtain ⟨o2, ho2, hr2, hT2⟩ := hq2
  have h8 := List.all_eq_true.mp (show q_m96.2.all (fun o => ck_isN 0 o && ck_keep 1 o) = true by decide) o2 ho2
  simp only [Bool.and_eq_true] at h8
  obtain ⟨x2, rfl, hx2⟩ := ck_isN_ok h8.1 hr2
  have hk2 := ck_keep_ok h8.2 hT2
  show W p l e room_1 s m args below meth c H2 locs2 (cells + 1) (slots + 6) Q (F0 m 354 ls [.int x2, .int x])
  refine lv_icmp_eq (tgt := 673) C.1.1 C.1.2.1 dl_354 (by decide) (fun _ => ?_) (fun hne => absurd (Int32.toInt_inj.mp (hx.trans hx2.symm)) hne)
  exact kk f1 _ f2 g2 H2 locs2 _ hI1 hJ2 (Or.inr ⟨by rw [hk]; exact hrel.1, by rw [hk2]; exact hrel.2⟩) hP hD hS hl
theorem lo_7_c0g144 {p : Program} {l : Launch} {e : Env} {s : State} {m : MethodId} {args : Array Value} {below : List Frame} {meth : Method} {c : Code} {H : Heap} {locs : List Loc} {cells slots : Nat} {Q : State → Prop} {D : va_G} {B : Nat} {A : Nat → Prop} {h hm : Nat → Nat} {cI cZ cJ : ClassId} {ho : Nat} {f fm : zz_F} {g gm : zz_G} {ls : Array Slot} {b L : Nat} {xs : Nat → Int32} {i : Int32} {cx : Cond} (hfl : l.flags = flags0) (C : zz_Cx p m meth c code 7 ret s args (cx :: kk_W) "NightCyclerLaw" D vN (tyN cI cZ cJ) A B (xL B h)) (hX : va_X b L xs s s.heap) (hbl : b < s.heap.size) (hbA : ¬ A b) (i1 : vp_in (i + 1) L) (i2 : vp_in (i + 2) L) (hI : ck_gI fbG gbG f g) (hJ : ck_gI fbM gbM fm gm) (hrel : (f 0).toInt = 0 ∧ (fm 1).toInt = 1) (hP : va_P D vN (wW cI cZ cJ ho h hm f g fm gm) H) (hD : va_D A (wW cI cZ cJ ho h hm f g fm gm)) (hS : va_S A s.heap H locs) (hl : lv_has ls 7 [(0, .ref b), (1, .ref (h 0)), (2, .ref (hm 0)), (3, .ref ho), (4, .int i)]) (hc0 : (0 : Int) ≤ (xs (i + 1).toNatClampNeg).toInt ∧ (xs (i + 1).toNatClampNeg).toInt ≤ (1 : Int)) (hc1 : (-2147483648 : Int) ≤ (xs (i + 2).toNatClampNeg).toInt ∧ (xs (i + 2).toNatClampNeg).toInt ≤ (-5001 : Int)) (hf : cells + 1 ≤ room_1.cells ∧ slots + 6 ≤ room_1.slots) (kk : ∀ (f1 : zz_F) (g1 : zz_G) (fm1 : zz_F) (gm1 : zz_G) (H1 : Heap) (locs1 : List Loc) (ls1 : Array Slot), ck_gI fbG gbG f1 g1 → ck_gI fbM gbM fm1 gm1 → lw_rel f1 fm1 → va_P D vN (wW cI cZ cJ ho h hm f1 g1 fm1 gm1) H1 → va_D A (wW cI cZ cJ ho h hm f1 g1 fm1 gm1) → va_S A s.heap H1 locs1 → lv_has ls1 7 [(0, .ref b), (1, .ref (h 0)), (2, .ref (hm 0)), (3, .ref ho), (4, .int i)] → W p l e room_1 s m args below meth c H1 locs1 (cells + 1) (slots + 6) Q (F0 m 673 ls1 [])) : W p l e room_1 s m args below meth c H locs cells slots Q (F0 m 322 ls []) := by
  refine W.widen (k := cells + 1) (n := slots + 6) (Nat.le_succ _) (Nat.le_add_right _ _) ?_
  refine lv_aload_n C.1.1 C.1.2.1 dl_322 rfl (lv_at hl 1 rfl) ?_
  refine lv_aload_n C.1.1 C.1.2.1 dl_323 rfl (lv_at hl 0 rfl) ?_
  refine lv_iload C.1.1 C.1.2.1 dl_324 (lv_at hl 4 rfl) ?_
  refine lv_iconst (v := 1) C.1.1 C.1.2.1 dl_326 (by decide) ?_
  refine lv_iadd C.1.1 C.1.2.1 dl_327 ?_
  refine va_sld C.1.1 C.1.2.1 hX hbl hbA hS i1 dl_328 ?_
  refine lv_aload_n C.1.1 C.1.2.1 dl_329 rfl (lv_at hl 0 rfl) ?_
  refine lv_iload C.1.1 C.1.2.1 dl_330 (lv_at hl 4 rfl) ?_
  refine lv_iconst (v := 2) C.1.1 C.1.2.1 dl_332 (by decide) ?_
  refine lv_iadd C.1.1 C.1.2.1 dl_333 ?_
  refine va_sld C.1.1 C.1.2.1 hX hbl hbA hS i2 dl_334 ?_
  refine lw_go (h := h) (hm := hm) (As := [.int (xs (i + 1).toNatClampNeg), .int (xs (i + 2).toNatClampNeg)]) C c_g144 (cwV 2 C.1.2.2.2.2 (kk_gV kw_319 kw_320 kw_321 kw_1 kw_322) rfl rfl rfl (by decide +kernel) ⟨Nat.le_of_ble_eq_true rfl, Nat.le_of_ble_eq_true rfl⟩) hI (List.forall_mem_cons.mpr ⟨⟨by show (0 : Int) ≤ (f 0).toInt; omega, by show (f 0).toInt ≤ (0 : Int); omega⟩, List.forall_mem_cons.mpr ⟨hI.1 3, fun _ h => absurd h List.not_mem_nil⟩⟩) (⟨Or.inr ⟨0, List.mem_cons_self, rfl⟩, ⟨⟨_, rfl, hc0⟩, ⟨⟨_, rfl, hc1⟩, trivial⟩⟩⟩) hP hD hS rfl hl.1 rfl dl_335 hf (fun r f1 g1 H1 locs1 hq hI1 hP hD hS => ?_)
  obtain ⟨o, ho1, hr, hT⟩ := hq
  have h9 := List.all_eq_true.mp (show q_g144.2.all (fun o => ck_isN 0 o && ck_keep 0 o) = true by decide) o ho1
  simp only [Bool.and_eq_true] at h9
  obtain ⟨x, rfl, hx⟩ := ck_isN_ok h9.1 hr
  have hk := ck_keep_ok h9.2 hT
  show W p l e room_1 s m args below meth c H1 locs1 (cells + 1) (slots + 6) Q (F0 m 338 ls [.int x])
  refine lv_aload_n C.1.1 C.1.2.1 dl_338 rfl (lv_at hl 2 rfl) ?_
  refine lv_aload_n C.1.1 C.1.2.1 dl_339 rfl (lv_at hl 0 rfl) ?_
  refine lv_iload C.1.1 C.1.2.1 dl_340 (lv_at hl 4 rfl) ?_
  refine lv_iconst (v := 1) C.1.1 C.1.2.1 dl_342 (by decide) ?_
  refine lv_iadd C.1.1 C.1.2.1 dl_343 ?_
  refine va_sld C.1.1 C.1.2.1 hX hbl hbA hS i1 dl_344 ?_
  refine lv_aload_n C.1.1 C.1.2.1 dl_345 rfl (lv_at hl 0 rfl) ?_
  refine lv_iload C.1.1 C.1.2.1 dl_346 (lv_at hl 4 rfl) ?_
  refine lv_iconst (v := 2) C.1.1 C.1.2.1 dl_348 (by decide) ?_
  refine lv_iadd C.1.1 C.1.2.1 dl_349 ?_
  refine va_sld C.1.1 C.1.2.1 hX hbl hbA hS i2 dl_350 ?_
  refine lm_goR (h := h) (hm := hm) (As := [.int (xs (i + 1).toNatClampNeg), .int (xs (i + 2).toNatClampNeg)]) (rest := [.int x]) C (c_m97 xL_ok) (cwV 2 C.1.2.2.2.2 (kk_gV kw_949 kw_950 kw_951 kw_9 kw_952) rfl rfl rfl (by decide +kernel) ⟨Nat.le_of_ble_eq_true rfl, Nat.le_of_ble_eq_true rfl⟩) hJ (List.forall_mem_cons.mpr ⟨hJ.1 0, List.forall_mem_cons.mpr ⟨⟨by show (1 : Int) ≤ (fm 1).toInt; omega, by show (fm 1).toInt ≤ (1 : Int); omega⟩, List.forall_mem_cons.mpr ⟨hJ.1 3, List.forall_mem_cons.mpr ⟨hJ.1 13, List.forall_mem_cons.mpr ⟨hJ.1 22, fun _ h => absurd h List.not_mem_nil⟩⟩⟩⟩⟩) (⟨Or.inr ⟨0, List.mem_cons_self, rfl⟩, ⟨⟨_, rfl, hc0⟩, ⟨⟨_, rfl, hc1⟩, trivial⟩⟩⟩) hP hD hS rfl hl.1 rfl (Nat.le_of_ble_eq_true rfl) dl_351 hf (fun r f2 g2 H2 locs2 hq2 hJ2 hP hD hS => ?_)
  obtain ⟨o2, ho2, hr2, hT2⟩ := hq2
  have h8 := List.all_eq_true.mp (show q_m97.2.all (fun o => ck_isN 0 o && ck_keep 1 o) = true by decide) o2 ho2
  simp only [Bool.and_eq_true] at h8
  obtain ⟨x2, rfl, hx2⟩ := ck_isN_ok h8.1 hr2
  have hk2 := ck_keep_ok h8.2 hT2
  show W p l e room_1 s m args below meth c H2 locs2 (cells + 1) (slots + 6) Q (F0 m 354 ls [.int x2, .int x])
  refine lv_icmp_eq (tgt := 673) C.1.1 C.1.2.1 dl_354 (by decide) (fun _ => ?_) (fun hne => absurd (Int32.toInt_inj.mp (hx.trans hx2.symm)) hne)
  exact kk f1 _ f2 g2 H2 locs2 _ hI1 hJ2 (Or.inr ⟨by rw [hk]; exact hrel.1, by rw [hk2]; exact hrel.2⟩) hP hD hS hl
theorem lo_7_c0g145 {p : Program} {l : Launch} {e : Env} {s : State} {m : MethodId} {args : Array Value} {below : List Frame} {meth : Method} {c : Code} {H : Heap} {locs : List Loc} {cells slots : Nat} {Q : State → Prop} {D : va_G} {B : Nat} {A : Nat → Prop} {h hm : Nat → Nat} {cI cZ cJ : ClassId} {ho : Nat} {f fm : zz_F} {g gm : zz_G} {ls : Array Slot} {b L : Nat} {xs : Nat → Int32} {i : Int32} {cx : Cond} (hfl : l.flags = flags0) (C : zz_Cx p m meth c code 7 ret s args (cx :: kk_W) "NightCyclerLaw" D vN (tyN cI cZ cJ) A B (xL B h)) (hX : va_X b L xs s s.heap) (hbl : b < s.heap.size) (hbA : ¬ A b) (i1 : vp_in (i + 1) L) (i2 : vp_in (i + 2) L) (hI : ck_gI fbG gbG f g) (hJ : ck_gI fbM gbM fm gm) (hrel : (f 0).toInt = 0 ∧ (fm 1).toInt = 1) (hP : va_P D vN (wW cI cZ cJ ho h hm f g fm gm) H) (hD : va_D A (wW cI cZ cJ ho h hm f g fm gm)) (hS : va_S A s.heap H locs) (hl : lv_has ls 7 [(0, .ref b), (1, .ref (h 0)), (2, .ref (hm 0)), (3, .ref ho), (4, .int i)]) (hc0 : (0 : Int) ≤ (xs (i + 1).toNatClampNeg).toInt ∧ (xs (i + 1).toNatClampNeg).toInt ≤ (1 : Int)) (hc1 : (-5000 : Int) ≤ (xs (i + 2).toNatClampNeg).toInt ∧ (xs (i + 2).toNatClampNeg).toInt ≤ (10000 : Int)) (hf : cells + 1 ≤ room_1.cells ∧ slots + 6 ≤ room_1.slots) (kk : ∀ (f1 : zz_F) (g1 : zz_G) (fm1 : zz_F) (gm1 : zz_G) (H1 : Heap) (locs1 : List Loc) (ls1 : Array Slot), ck_gI fbG gbG f1 g1 → ck_gI fbM gbM fm1 gm1 → lw_rel f1 fm1 → va_P D vN (wW cI cZ cJ ho h hm f1 g1 fm1 gm1) H1 → va_D A (wW cI cZ cJ ho h hm f1 g1 fm1 gm1) → va_S A s.heap H1 locs1 → lv_has ls1 7 [(0, .ref b), (1, .ref (h 0)), (2, .ref (hm 0)), (3, .ref ho), (4, .int i)] → W p l e room_1 s m args below meth c H1 locs1 (cells + 1) (slots + 6) Q (F0 m 673 ls1 [])) : W p l e room_1 s m args below meth c H locs cells slots Q (F0 m 322 ls []) := by
  refine W.widen (k := cells + 1) (n := slots + 6) (Nat.le_succ _) (Nat.le_add_right _ _) ?_
  refine lv_aload_n C.1.1 C.1.2.1 dl_322 rfl (lv_at hl 1 rfl) ?_
  refine lv_aload_n C.1.1 C.1.2.1 dl_323 rfl (lv_at hl 0 rfl) ?_
  refine lv_iload C.1.1 C.1.2.1 dl_324 (lv_at hl 4 rfl) ?_
  refine lv_iconst (v := 1) C.1.1 C.1.2.1 dl_326 (by decide) ?_
  refine lv_iadd C.1.1 C.1.2.1 dl_327 ?_
  refine va_sld C.1.1 C.1.2.1 hX hbl hbA hS i1 dl_328 ?_
  refine lv_aload_n C.1.1 C.1.2.1 dl_329 rfl (lv_at hl 0 rfl) ?_
  refine lv_iload C.1.1 C.1.2.1 dl_330 (lv_at hl 4 rfl) ?_
  refine lv_iconst (v := 2) C.1.1 C.1.2.1 dl_332 (by decide) ?_
  refine lv_iadd C.1.1 C.1.2.1 dl_333 ?_
  refine va_sld C.1.1 C.1.2.1 hX hbl hbA hS i2 dl_334 ?_
  refine lw_go (h := h) (hm := hm) (As := [.int (xs (i + 1).toNatClampNeg), .int (xs (i + 2).toNatClampNeg)]) C c_g145 (cwV 2 C.1.2.2.2.2 (kk_gV kw_319 kw_320 kw_321 kw_1 kw_322) rfl rfl rfl (by decide +kernel) ⟨Nat.le_of_ble_eq_true rfl, Nat.le_of_ble_eq_true rfl⟩) hI (List.forall_mem_cons.mpr ⟨⟨by show (0 : Int) ≤ (f 0).toInt; omega, by show (f 0).toInt ≤ (0 : Int); omega⟩, List.forall_mem_cons.mpr ⟨hI.1 3, fun _ h => absurd h List.not_mem_nil⟩⟩) (⟨Or.inr ⟨0, List.mem_cons_self, rfl⟩, ⟨⟨_, rfl, hc0⟩, ⟨⟨_, rfl, hc1⟩, trivial⟩⟩⟩) hP hD hS rfl hl.1 rfl dl_335 hf (fun r f1 g1 H1 locs1 hq hI1 hP hD hS => ?_)
  obtain ⟨o, ho1, hr, hT⟩ := hq
  have h9 := List.all_eq_true.mp (show q_g145.2.all (fun o => ck_isN 0 o && ck_keep 0 o) = true by decide) o ho1
  simp only [Bool.and_eq_true] at h9
  obtain ⟨x, rfl, hx⟩ := ck_isN_ok h9.1 hr
  have hk := ck_keep_ok h9.2 hT
  show W p l e room_1 s m args below meth c H1 locs1 (cells + 1) (slots + 6) Q (F0 m 338 ls [.int x])
  refine lv_aload_n C.1.1 C.1.2.1 dl_338 rfl (lv_at hl 2 rfl) ?_
  refine lv_aload_n C.1.1 C.1.2.1 dl_339 rfl (lv_at hl 0 rfl) ?_
  refine lv_iload C.1.1 C.1.2.1 dl_340 (lv_at hl 4 rfl) ?_
  refine lv_iconst (v := 1) C.1.1 C.1.2.1 dl_342 (by decide) ?_
  refine lv_iadd C.1.1 C.1.2.1 dl_343 ?_
  refine va_sld C.1.1 C.1.2.1 hX hbl hbA hS i1 dl_344 ?_
  refine lv_aload_n C.1.1 C.1.2.1 dl_345 rfl (lv_at hl 0 rfl) ?_
  refine lv_iload C.1.1 C.1.2.1 dl_346 (lv_at hl 4 rfl) ?_
  refine lv_iconst (v := 2) C.1.1 C.1.2.1 dl_348 (by decide) ?_
  refine lv_iadd C.1.1 C.1.2.1 dl_349 ?_
  refine va_sld C.1.1 C.1.2.1 hX hbl hbA hS i2 dl_350 ?_
  refine lm_goR (h := h) (hm := hm) (As := [.int (xs (i + 1).toNatClampNeg), .int (xs (i + 2).toNatClampNeg)]) (rest := [.int x]) C (c_m98 xL_ok) (cwV 2 C.1.2.2.2.2 (kk_gV kw_949 kw_950 kw_951 kw_9 kw_952) rfl rfl rfl (by decide +kernel) ⟨Nat.le_of_ble_eq_true rfl, Nat.le_of_ble_eq_true rfl⟩) hJ (List.forall_mem_cons.mpr ⟨hJ.1 0, List.forall_mem_cons.mpr ⟨⟨by show (1 : Int) ≤ (fm 1).toInt; omega, by show (fm 1).toInt ≤ (1 : Int); omega⟩, List.forall_mem_cons.mpr ⟨hJ.1 3, List.forall_mem_cons.mpr ⟨hJ.1 13, List.forall_mem_cons.mpr ⟨hJ.1 22, fun _ h => absurd h List.not_mem_nil⟩⟩⟩⟩⟩) (⟨Or.inr ⟨0, List.mem_cons_self, rfl⟩, ⟨⟨_, rfl, hc0⟩, ⟨⟨_, rfl, hc1⟩, trivial⟩⟩⟩) hP hD hS rfl hl.1 rfl (Nat.le_of_ble_eq_true rfl) dl_351 hf (fun r f2 g2 H2 locs2 hq2 hJ2 hP hD hS => ?_)
  obtain ⟨o2, ho2, hr2, hT2⟩ := hq2
  have h8 := List.all_eq_true.mp (show q_m98.2.all (fun o => ck_isN 0 o && ck_keep 1 o) = true by decide) o2 ho2
  simp only [Bool.and_eq_true] at h8
  obtain ⟨x2, rfl, hx2⟩ := ck_isN_ok h8.1 hr2
  have hk2 := ck_keep_ok h8.2 hT2
  show W p l e room_1 s m args below meth c H2 locs2 (cells + 1) (slots + 6) Q (F0 m 354 ls [.int x2, .int x])
  refine lv_icmp_eq (tgt := 673) C.1.1 C.1.2.1 dl_354 (by decide) (fun _ => ?_) (fun hne => absurd (Int32.toInt_inj.mp (hx.trans hx2.symm)) hne)
  exact kk f1 _ f2 g2 H2 locs2 _ hI1 hJ2 (Or.inr ⟨by rw [hk]; exact hrel.1, by rw [hk2]; exact hrel.2⟩) hP hD hS hl
theorem lo_7_c0g146 {p : Program} {l : Launch} {e : Env} {s : State} {m : MethodId} {args : Array Value} {below : List Frame} {meth : Method} {c : Code} {H : Heap} {locs : List Loc} {cells slots : Nat} {Q : State → Prop} {D : va_G} {B : Nat} {A : Nat → Prop} {h hm : Nat → Nat} {cI cZ cJ : ClassId} {ho : Nat} {f fm : zz_F} {g gm : zz_G} {ls : Array Slot} {b L : Nat} {xs : Nat → Int32} {i : Int32} {cx : Cond} (hfl : l.flags = flags0) (C : zz_Cx p m meth c code 7 ret s args (cx :: kk_W) "NightCyclerLaw" D vN (tyN cI cZ cJ) A B (xL B h)) (hX : va_X b L xs s s.heap) (hbl : b < s.heap.size) (hbA : ¬ A b) (i1 : vp_in (i + 1) L) (i2 : vp_in (i + 2) L) (hI : ck_gI fbG gbG f g) (hJ : ck_gI fbM gbM fm gm) (hrel : (f 0).toInt = 0 ∧ (fm 1).toInt = 1) (hP : va_P D vN (wW cI cZ cJ ho h hm f g fm gm) H) (hD : va_D A (wW cI cZ cJ ho h hm f g fm gm)) (hS : va_S A s.heap H locs) (hl : lv_has ls 7 [(0, .ref b), (1, .ref (h 0)), (2, .ref (hm 0)), (3, .ref ho), (4, .int i)]) (hc0 : (0 : Int) ≤ (xs (i + 1).toNatClampNeg).toInt ∧ (xs (i + 1).toNatClampNeg).toInt ≤ (1 : Int)) (hc1 : (10001 : Int) ≤ (xs (i + 2).toNatClampNeg).toInt ∧ (xs (i + 2).toNatClampNeg).toInt ≤ (2147483647 : Int)) (hf : cells + 1 ≤ room_1.cells ∧ slots + 6 ≤ room_1.slots) (kk : ∀ (f1 : zz_F) (g1 : zz_G) (fm1 : zz_F) (gm1 : zz_G) (H1 : Heap) (locs1 : List Loc) (ls1 : Array Slot), ck_gI fbG gbG f1 g1 → ck_gI fbM gbM fm1 gm1 → lw_rel f1 fm1 → va_P D vN (wW cI cZ cJ ho h hm f1 g1 fm1 gm1) H1 → va_D A (wW cI cZ cJ ho h hm f1 g1 fm1 gm1) → va_S A s.heap H1 locs1 → lv_has ls1 7 [(0, .ref b), (1, .ref (h 0)), (2, .ref (hm 0)), (3, .ref ho), (4, .int i)] → W p l e room_1 s m args below meth c H1 locs1 (cells + 1) (slots + 6) Q (F0 m 673 ls1 [])) : W p l e room_1 s m args below meth c H locs cells slots Q (F0 m 322 ls []) := by
  refine W.widen (k := cells + 1) (n := slots + 6) (Nat.le_succ _) (Nat.le_add_right _ _) ?_
  refine lv_aload_n C.1.1 C.1.2.1 dl_322 rfl (lv_at hl 1 rfl) ?_
  refine lv_aload_n C.1.1 C.1.2.1 dl_323 rfl (lv_at hl 0 rfl) ?_
  refine lv_iload C.1.1 C.1.2.1 dl_324 (lv_at hl 4 rfl) ?_
  refine lv_iconst (v := 1) C.1.1 C.1.2.1 dl_326 (by decide) ?_
  refine lv_iadd C.1.1 C.1.2.1 dl_327 ?_
  refine va_sld C.1.1 C.1.2.1 hX hbl hbA hS i1 dl_328 ?_
  refine lv_aload_n C.1.1 C.1.2.1 dl_329 rfl (lv_at hl 0 rfl) ?_
  refine lv_iload C.1.1 C.1.2.1 dl_330 (lv_at hl 4 rfl) ?_
  refine lv_iconst (v := 2) C.1.1 C.1.2.1 dl_332 (by decide) ?_
  refine lv_iadd C.1.1 C.1.2.1 dl_333 ?_
  refine va_sld C.1.1 C.1.2.1 hX hbl hbA hS i2 dl_334 ?_
  refine lw_go (h := h) (hm := hm) (As := [.int (xs (i + 1).toNatClampNeg), .int (xs (i + 2).toNatClampNeg)]) C c_g146 (cwV 2 C.1.2.2.2.2 (kk_gV kw_319 kw_320 kw_321 kw_1 kw_322) rfl rfl rfl (by decide +kernel) ⟨Nat.le_of_ble_eq_true rfl, Nat.le_of_ble_eq_true rfl⟩) hI (List.forall_mem_cons.mpr ⟨⟨by show (0 : Int) ≤ (f 0).toInt; omega, by show (f 0).toInt ≤ (0 : Int); omega⟩, List.forall_mem_cons.mpr ⟨hI.1 3, fun _ h => absurd h List.not_mem_nil⟩⟩) (⟨Or.inr ⟨0, List.mem_cons_self, rfl⟩, ⟨⟨_, rfl, hc0⟩, ⟨⟨_, rfl, hc1⟩, trivial⟩⟩⟩) hP hD hS rfl hl.1 rfl dl_335 hf (fun r f1 g1 H1 locs1 hq hI1 hP hD hS => ?_)
  obtain ⟨o, ho1, hr, hT⟩ := hq
  have h9 := List.all_eq_true.mp (show q_g146.2.all (fun o => ck_isN 0 o && ck_keep 0 o) = true by decide) o ho1
  simp only [Bool.and_eq_true] at h9
  obtain ⟨x, rfl, hx⟩ := ck_isN_ok h9.1 hr
  have hk := ck_keep_ok h9.2 hT
  show W p l e room_1 s m args below meth c H1 locs1 (cells + 1) (slots + 6) Q (F0 m 338 ls [.int x])
  refine lv_aload_n C.1.1 C.1.2.1 dl_338 rfl (lv_at hl 2 rfl) ?_
  refine lv_aload_n C.1.1 C.1.2.1 dl_339 rfl (lv_at hl 0 rfl) ?_
  refine lv_iload C.1.1 C.1.2.1 dl_340 (lv_at hl 4 rfl) ?_
  refine lv_iconst (v := 1) C.1.1 C.1.2.1 dl_342 (by decide) ?_
  refine lv_iadd C.1.1 C.1.2.1 dl_343 ?_
  refine va_sld C.1.1 C.1.2.1 hX hbl hbA hS i1 dl_344 ?_
  refine lv_aload_n C.1.1 C.1.2.1 dl_345 rfl (lv_at hl 0 rfl) ?_
  refine lv_iload C.1.1 C.1.2.1 dl_346 (lv_at hl 4 rfl) ?_
  refine lv_iconst (v := 2) C.1.1 C.1.2.1 dl_348 (by decide) ?_
  refine lv_iadd C.1.1 C.1.2.1 dl_349 ?_
  refine va_sld C.1.1 C.1.2.1 hX hbl hbA hS i2 dl_350 ?_
  refine lm_goR (h := h) (hm := hm) (As := [.int (xs (i + 1).toNatClampNeg), .int (xs (i + 2).toNatClampNeg)]) (rest := [.int x]) C (c_m99 xL_ok) (cwV 2 C.1.2.2.2.2 (kk_gV kw_949 kw_950 kw_951 kw_9 kw_952) rfl rfl rfl (by decide +kernel) ⟨Nat.le_of_ble_eq_true rfl, Nat.le_of_ble_eq_true rfl⟩) hJ (List.forall_mem_cons.mpr ⟨hJ.1 0, List.forall_mem_cons.mpr ⟨⟨by show (1 : Int) ≤ (fm 1).toInt; omega, by show (fm 1).toInt ≤ (1 : Int); omega⟩, List.forall_mem_cons.mpr ⟨hJ.1 3, List.forall_mem_cons.mpr ⟨hJ.1 13, List.forall_mem_cons.mpr ⟨hJ.1 22, fun _ h => absurd h List.not_mem_nil⟩⟩⟩⟩⟩) (⟨Or.inr ⟨0, List.mem_cons_self, rfl⟩, ⟨⟨_, rfl, hc0⟩, ⟨⟨_, rfl, hc1⟩, trivial⟩⟩⟩) hP hD hS rfl hl.1 rfl (Nat.le_of_ble_eq_true rfl) dl_351 hf (fun r f2 g2 H2 locs2 hq2 hJ2 hP hD hS => ?_)
  obtain ⟨o2, ho2, hr2, hT2⟩ := hq2
  have h8 := List.all_eq_true.mp (show q_m99.2.all (fun o => ck_isN 0 o && ck_keep 1 o) = true by decide) o2 ho2
  simp only [Bool.and_eq_true] at h8
  obtain ⟨x2, rfl, hx2⟩ := ck_isN_ok h8.1 hr2
  have hk2 := ck_keep_ok h8.2 hT2
  show W p l e room_1 s m args below meth c H2 locs2 (cells + 1) (slots + 6) Q (F0 m 354 ls [.int x2, .int x])
  refine lv_icmp_eq (tgt := 673) C.1.1 C.1.2.1 dl_354 (by decide) (fun _ => ?_) (fun hne => absurd (Int32.toInt_inj.mp (hx.trans hx2.symm)) hne)
  exact kk f1 _ f2 g2 H2 locs2 _ hI1 hJ2 (Or.inr ⟨by rw [hk]; exact hrel.1, by rw [hk2]; exact hrel.2⟩) hP hD hS hl
theorem lo_7_c0g147 {p : Program} {l : Launch} {e : Env} {s : State} {m : MethodId} {args : Array Value} {below : List Frame} {meth : Method} {c : Code} {H : Heap} {locs : List Loc} {cells slots : Nat} {Q : State → Prop} {D : va_G} {B : Nat} {A : Nat → Prop} {h hm : Nat → Nat} {cI cZ cJ : ClassId} {ho : Nat} {f fm : zz_F} {g gm : zz_G} {ls : Array Slot} {b L : Nat} {xs : Nat → Int32} {i : Int32} {cx : Cond} (hfl : l.flags = flags0) (C : zz_Cx p m meth c code 7 ret s args (cx :: kk_W) "NightCyclerLaw" D vN (tyN cI cZ cJ) A B (xL B h)) (hX : va_X b L xs s s.heap) (hbl : b < s.heap.size) (hbA : ¬ A b) (i1 : vp_in (i + 1) L) (i2 : vp_in (i + 2) L) (hI : ck_gI fbG gbG f g) (hJ : ck_gI fbM gbM fm gm) (hrel : (f 0).toInt = 0 ∧ (fm 1).toInt = 1) (hP : va_P D vN (wW cI cZ cJ ho h hm f g fm gm) H) (hD : va_D A (wW cI cZ cJ ho h hm f g fm gm)) (hS : va_S A s.heap H locs) (hl : lv_has ls 7 [(0, .ref b), (1, .ref (h 0)), (2, .ref (hm 0)), (3, .ref ho), (4, .int i)]) (hc0 : (2 : Int) ≤ (xs (i + 1).toNatClampNeg).toInt ∧ (xs (i + 1).toNatClampNeg).toInt ≤ (2147483647 : Int)) (hc1 : (-2147483648 : Int) ≤ (xs (i + 2).toNatClampNeg).toInt ∧ (xs (i + 2).toNatClampNeg).toInt ≤ (-5001 : Int)) (hf : cells + 1 ≤ room_1.cells ∧ slots + 6 ≤ room_1.slots) (kk : ∀ (f1 : zz_F) (g1 : zz_G) (fm1 : zz_F) (gm1 : zz_G) (H1 : Heap) (locs1 : List Loc) (ls1 : Array Slot), ck_gI fbG gbG f1 g1 → ck_gI fbM gbM fm1 gm1 → lw_rel f1 fm1 → va_P D vN (wW cI cZ cJ ho h hm f1 g1 fm1 gm1) H1 → va_D A (wW cI cZ cJ ho h hm f1 g1 fm1 gm1) → va_S A s.heap H1 locs1 → lv_has ls1 7 [(0, .ref b), (1, .ref (h 0)), (2, .ref (hm 0)), (3, .ref ho), (4, .int i)] → W p l e room_1 s m args below meth c H1 locs1 (cells + 1) (slots + 6) Q (F0 m 673 ls1 [])) : W p l e room_1 s m args below meth c H locs cells slots Q (F0 m 322 ls []) := by
  refine W.widen (k := cells + 1) (n := slots + 6) (Nat.le_succ _) (Nat.le_add_right _ _) ?_
  refine lv_aload_n C.1.1 C.1.2.1 dl_322 rfl (lv_at hl 1 rfl) ?_
  refine lv_aload_n C.1.1 C.1.2.1 dl_323 rfl (lv_at hl 0 rfl) ?_
  refine lv_iload C.1.1 C.1.2.1 dl_324 (lv_at hl 4 rfl) ?_
  refine lv_iconst (v := 1) C.1.1 C.1.2.1 dl_326 (by decide) ?_
  refine lv_iadd C.1.1 C.1.2.1 dl_327 ?_
  refine va_sld C.1.1 C.1.2.1 hX hbl hbA hS i1 dl_328 ?_
  refine lv_aload_n C.1.1 C.1.2.1 dl_329 rfl (lv_at hl 0 rfl) ?_
  refine lv_iload C.1.1 C.1.2.1 dl_330 (lv_at hl 4 rfl) ?_
  refine lv_iconst (v := 2) C.1.1 C.1.2.1 dl_332 (by decide) ?_
  refine lv_iadd C.1.1 C.1.2.1 dl_333 ?_
  refine va_sld C.1.1 C.1.2.1 hX hbl hbA hS i2 dl_334 ?_
  refine lw_go (h := h) (hm := hm) (As := [.int (xs (i + 1).toNatClampNeg), .int (xs (i + 2).toNatClampNeg)]) C c_g147 (cwV 2 C.1.2.2.2.2 (kk_gV kw_319 kw_320 kw_321 kw_1 kw_322) rfl rfl rfl (by decide +kernel) ⟨Nat.le_of_ble_eq_true rfl, Nat.le_of_ble_eq_true rfl⟩) hI (List.forall_mem_cons.mpr ⟨⟨by show (0 : Int) ≤ (f 0).toInt; omega, by show (f 0).toInt ≤ (0 : Int); omega⟩, List.forall_mem_cons.mpr ⟨hI.1 3, fun _ h => absurd h List.not_mem_nil⟩⟩) (⟨Or.inr ⟨0, List.mem_cons_self, rfl⟩, ⟨⟨_, rfl, hc0⟩, ⟨⟨_, rfl, hc1⟩, trivial⟩⟩⟩) hP hD hS rfl hl.1 rfl dl_335 hf (fun r f1 g1 H1 locs1 hq hI1 hP hD hS => ?_)
  obtain ⟨o, ho1, hr, hT⟩ := hq
  have h9 := List.all_eq_true.mp (show q_g147.2.all (fun o => ck_isN 0 o && ck_keep 0 o) = true by decide) o ho1
  simp only [Bool.and_eq_true] at h9
  obtain ⟨x, rfl, hx⟩ := ck_isN_ok h9.1 hr
  have hk := ck_keep_ok h9.2 hT
  show W p l e room_1 s m args below meth c H1 locs1 (cells + 1) (slots + 6) Q (F0 m 338 ls [.int x])
  refine lv_aload_n C.1.1 C.1.2.1 dl_338 rfl (lv_at hl 2 rfl) ?_
  refine lv_aload_n C.1.1 C.1.2.1 dl_339 rfl (lv_at hl 0 rfl) ?_
  refine lv_iload C.1.1 C.1.2.1 dl_340 (lv_at hl 4 rfl) ?_
  refine lv_iconst (v := 1) C.1.1 C.1.2.1 dl_342 (by decide) ?_
  refine lv_iadd C.1.1 C.1.2.1 dl_343 ?_
  refine va_sld C.1.1 C.1.2.1 hX hbl hbA hS i1 dl_344 ?_
  refine lv_aload_n C.1.1 C.1.2.1 dl_345 rfl (lv_at hl 0 rfl) ?_
  refine lv_iload C.1.1 C.1.2.1 dl_346 (lv_at hl 4 rfl) ?_
  refine lv_iconst (v := 2) C.1.1 C.1.2.1 dl_348 (by decide) ?_
  refine lv_iadd C.1.1 C.1.2.1 dl_349 ?_
  refine va_sld C.1.1 C.1.2.1 hX hbl hbA hS i2 dl_350 ?_
  refine lm_goR (h := h) (hm := hm) (As := [.int (xs (i + 1).toNatClampNeg), .int (xs (i + 2).toNatClampNeg)]) (rest := [.int x]) C (c_m100 xL_ok) (cwV 2 C.1.2.2.2.2 (kk_gV kw_949 kw_950 kw_951 kw_9 kw_952) rfl rfl rfl (by decide +kernel) ⟨Nat.le_of_ble_eq_true rfl, Nat.le_of_ble_eq_true rfl⟩) hJ (List.forall_mem_cons.mpr ⟨hJ.1 0, List.forall_mem_cons.mpr ⟨⟨by show (1 : Int) ≤ (fm 1).toInt; omega, by show (fm 1).toInt ≤ (1 : Int); omega⟩, List.forall_mem_cons.mpr ⟨hJ.1 3, List.forall_mem_cons.mpr ⟨hJ.1 13, List.forall_mem_cons.mpr ⟨hJ.1 22, fun _ h => absurd h List.not_mem_nil⟩⟩⟩⟩⟩) (⟨Or.inr ⟨0, List.mem_cons_self, rfl⟩, ⟨⟨_, rfl, hc0⟩, ⟨⟨_, rfl, hc1⟩, trivial⟩⟩⟩) hP hD hS rfl hl.1 rfl (Nat.le_of_ble_eq_true rfl) dl_351 hf (fun r f2 g2 H2 locs2 hq2 hJ2 hP hD hS => ?_)
  obtain ⟨o2, ho2, hr2, hT2⟩ := hq2
  have h8 := List.all_eq_true.mp (show q_m100.2.all (fun o => ck_isN 0 o && ck_keep 1 o) = true by decide) o2 ho2
  simp only [Bool.and_eq_true] at h8
  obtain ⟨x2, rfl, hx2⟩ := ck_isN_ok h8.1 hr2
  have hk2 := ck_keep_ok h8.2 hT2
  show W p l e room_1 s m args below meth c H2 locs2 (cells + 1) (slots + 6) Q (F0 m 354 ls [.int x2, .int x])
  refine lv_icmp_eq (tgt := 673) C.1.1 C.1.2.1 dl_354 (by decide) (fun _ => ?_) (fun hne => absurd (Int32.toInt_inj.mp (hx.trans hx2.symm)) hne)
  exact kk f1 _ f2 g2 H2 locs2 _ hI1 hJ2 (Or.inr ⟨by rw [hk]; exact hrel.1, by rw [hk2]; exact hrel.2⟩) hP hD hS hl
theorem lo_7_c0g148 {p : Program} {l : Launch} {e : Env} {s : State} {m : MethodId} {args : Array Value} {below : List Frame} {meth : Method} {c : Code} {H : Heap} {locs : List Loc} {cells slots : Nat} {Q : State → Prop} {D : va_G} {B : Nat} {A : Nat → Prop} {h hm : Nat → Nat} {cI cZ cJ : ClassId} {ho : Nat} {f fm : zz_F} {g gm : zz_G} {ls : Array Slot} {b L : Nat} {xs : Nat → Int32} {i : Int32} {cx : Cond} (hfl : l.flags = flags0) (C : zz_Cx p m meth c code 7 ret s args (cx :: kk_W) "NightCyclerLaw" D vN (tyN cI cZ cJ) A B (xL B h)) (hX : va_X b L xs s s.heap) (hbl : b < s.heap.size) (hbA : ¬ A b) (i1 : vp_in (i + 1) L) (i2 : vp_in (i + 2) L) (hI : ck_gI fbG gbG f g) (hJ : ck_gI fbM gbM fm gm) (hrel : (f 0).toInt = 0 ∧ (fm 1).toInt = 1) (hP : va_P D vN (wW cI cZ cJ ho h hm f g fm gm) H) (hD : va_D A (wW cI cZ cJ ho h hm f g fm gm)) (hS : va_S A s.heap H locs) (hl : lv_has ls 7 [(0, .ref b), (1, .ref (h 0)), (2, .ref (hm 0)), (3, .ref ho), (4, .int i)]) (hc0 : (2 : Int) ≤ (xs (i + 1).toNatClampNeg).toInt ∧ (xs (i + 1).toNatClampNeg).toInt ≤ (2147483647 : Int)) (hc1 : (-5000 : Int) ≤ (xs (i + 2).toNatClampNeg).toInt ∧ (xs (i + 2).toNatClampNeg).toInt ≤ (10000 : Int)) (hf : cells + 1 ≤ room_1.cells ∧ slots + 6 ≤ room_1.slots) (kk : ∀ (f1 : zz_F) (g1 : zz_G) (fm1 : zz_F) (gm1 : zz_G) (H1 : Heap) (locs1 : List Loc) (ls1 : Array Slot), ck_gI fbG gbG f1 g1 → ck_gI fbM gbM fm1 gm1 → lw_rel f1 fm1 → va_P D vN (wW cI cZ cJ ho h hm f1 g1 fm1 gm1) H1 → va_D A (wW cI cZ cJ ho h hm f1 g1 fm1 gm1) → va_S A s.heap H1 locs1 → lv_has ls1 7 [(0, .ref b), (1, .ref (h 0)), (2, .ref (hm 0)), (3, .ref ho), (4, .int i)] → W p l e room_1 s m args below meth c H1 locs1 (cells + 1) (slots + 6) Q (F0 m 673 ls1 [])) : W p l e room_1 s m args below meth c H locs cells slots Q (F0 m 322 ls []) := by
  refine W.widen (k := cells + 1) (n := slots + 6) (Nat.le_succ _) (Nat.le_add_right _ _) ?_
  refine lv_aload_n C.1.1 C.1.2.1 dl_322 rfl (lv_at hl 1 rfl) ?_
  refine lv_aload_n C.1.1 C.1.2.1 dl_323 rfl (lv_at hl 0 rfl) ?_
  refine lv_iload C.1.1 C.1.2.1 dl_324 (lv_at hl 4 rfl) ?_
  refine lv_iconst (v := 1) C.1.1 C.1.2.1 dl_326 (by decide) ?_
  refine lv_iadd C.1.1 C.1.2.1 dl_327 ?_
  refine va_sld C.1.1 C.1.2.1 hX hbl hbA hS i1 dl_328 ?_
  refine lv_aload_n C.1.1 C.1.2.1 dl_329 rfl (lv_at hl 0 rfl) ?_
  refine lv_iload C.1.1 C.1.2.1 dl_330 (lv_at hl 4 rfl) ?_
  refine lv_iconst (v := 2) C.1.1 C.1.2.1 dl_332 (by decide) ?_
  refine lv_iadd C.1.1 C.1.2.1 dl_333 ?_
  refine va_sld C.1.1 C.1.2.1 hX hbl hbA hS i2 dl_334 ?_
  refine lw_go (h := h) (hm := hm) (As := [.int (xs (i + 1).toNatClampNeg), .int (xs (i + 2).toNatClampNeg)]) C c_g148 (cwV 2 C.1.2.2.2.2 (kk_gV kw_319 kw_320 kw_321 kw_1 kw_322) rfl rfl rfl (by decide +kernel) ⟨Nat.le_of_ble_eq_true rfl, Nat.le_of_ble_eq_true rfl⟩) hI (List.forall_mem_cons.mpr ⟨⟨by show (0 : Int) ≤ (f 0).toInt; omega, by show (f 0).toInt ≤ (0 : Int); omega⟩, List.forall_mem_cons.mpr ⟨hI.1 3, fun _ h => absurd h List.not_mem_nil⟩⟩) (⟨Or.inr ⟨0, List.mem_cons_self, rfl⟩, ⟨⟨_, rfl, hc0⟩, ⟨⟨_, rfl, hc1⟩, trivial⟩⟩⟩) hP hD hS rfl hl.1 rfl dl_335 hf (fun r f1 g1 H1 locs1 hq hI1 hP hD hS => ?_)
  obtain ⟨o, ho1, hr, hT⟩ := hq
  have h9 := List.all_eq_true.mp (show q_g148.2.all (fun o => ck_isN 0 o && ck_keep 0 o) = true by decide) o ho1
  simp only [Bool.and_eq_true] at h9
  obtain ⟨x, rfl, hx⟩ := ck_isN_ok h9.1 hr
  have hk := ck_keep_ok h9.2 hT
  show W p l e room_1 s m args below meth c H1 locs1 (cells + 1) (slots + 6) Q (F0 m 338 ls [.int x])
  refine lv_aload_n C.1.1 C.1.2.1 dl_338 rfl (lv_at hl 2 rfl) ?_
  refine lv_aload_n C.1.1 C.1.2.1 dl_339 rfl (lv_at hl 0 rfl) ?_
  refine lv_iload C.1.1 C.1.2.1 dl_340 (lv_at hl 4 rfl) ?_
  refine lv_iconst (v := 1) C.1.1 C.1.2.1 dl_342 (by decide) ?_
  refine lv_iadd C.1.1 C.1.2.1 dl_343 ?_
  refine va_sld C.1.1 C.1.2.1 hX hbl hbA hS i1 dl_344 ?_
  refine lv_aload_n C.1.1 C.1.2.1 dl_345 rfl (lv_at hl 0 rfl) ?_
  refine lv_iload C.1.1 C.1.2.1 dl_346 (lv_at hl 4 rfl) ?_
  refine lv_iconst (v := 2) C.1.1 C.1.2.1 dl_348 (by decide) ?_
  refine lv_iadd C.1.1 C.1.2.1 dl_349 ?_
  refine va_sld C.1.1 C.1.2.1 hX hbl hbA hS i2 dl_350 ?_
  refine lm_goR (h := h) (hm := hm) (As := [.int (xs (i + 1).toNatClampNeg), .int (xs (i + 2).toNatClampNeg)]) (rest := [.int x]) C (c_m101 xL_ok) (cwV 2 C.1.2.2.2.2 (kk_gV kw_949 kw_950 kw_951 kw_9 kw_952) rfl rfl rfl (by decide +kernel) ⟨Nat.le_of_ble_eq_true rfl, Nat.le_of_ble_eq_true rfl⟩) hJ (List.forall_mem_cons.mpr ⟨hJ.1 0, List.forall_mem_cons.mpr ⟨⟨by show (1 : Int) ≤ (fm 1).toInt; omega, by show (fm 1).toInt ≤ (1 : Int); omega⟩, List.forall_mem_cons.mpr ⟨hJ.1 3, List.forall_mem_cons.mpr ⟨hJ.1 13, List.forall_mem_cons.mpr ⟨hJ.1 22, fun _ h => absurd h List.not_mem_nil⟩⟩⟩⟩⟩) (⟨Or.inr ⟨0, List.mem_cons_self, rfl⟩, ⟨⟨_, rfl, hc0⟩, ⟨⟨_, rfl, hc1⟩, trivial⟩⟩⟩) hP hD hS rfl hl.1 rfl (Nat.le_of_ble_eq_true rfl) dl_351 hf (fun r f2 g2 H2 locs2 hq2 hJ2 hP hD hS => ?_)
  obtain ⟨o2, ho2, hr2, hT2⟩ := hq2
  have h8 := List.all_eq_true.mp (show q_m101.2.all (fun o => ck_isN 0 o && ck_keep 1 o) = true by decide) o2 ho2
  simp only [Bool.and_eq_true] at h8
  obtain ⟨x2, rfl, hx2⟩ := ck_isN_ok h8.1 hr2
  have hk2 := ck_keep_ok h8.2 hT2
  show W p l e room_1 s m args below meth c H2 locs2 (cells + 1) (slots + 6) Q (F0 m 354 ls [.int x2, .int x])
  refine lv_icmp_eq (tgt := 673) C.1.1 C.1.2.1 dl_354 (by decide) (fun _ => ?_) (fun hne => absurd (Int32.toInt_inj.mp (hx.trans hx2.symm)) hne)
  exact kk f1 _ f2 g2 H2 locs2 _ hI1 hJ2 (Or.inr ⟨by rw [hk]; exact hrel.1, by rw [hk2]; exact hrel.2⟩) hP hD hS hl
theorem lo_7_c0g149 {p : Program} {l : Launch} {e : Env} {s : State} {m : MethodId} {args : Array Value} {below : List Frame} {meth : Method} {c : Code} {H : Heap} {locs : List Loc} {cells slots : Nat} {Q : State → Prop} {D : va_G} {B : Nat} {A : Nat → Prop} {h hm : Nat → Nat} {cI cZ cJ : ClassId} {ho : Nat} {f fm : zz_F} {g gm : zz_G} {ls : Array Slot} {b L : Nat} {xs : Nat → Int32} {i : Int32} {cx : Cond} (hfl : l.flags = flags0) (C : zz_Cx p m meth c code 7 ret s args (cx :: kk_W) "NightCyclerLaw" D vN (tyN cI cZ cJ) A B (xL B h)) (hX : va_X b L xs s s.heap) (hbl : b < s.heap.size) (hbA : ¬ A b) (i1 : vp_in (i + 1) L) (i2 : vp_in (i + 2) L) (hI : ck_gI fbG gbG f g) (hJ : ck_gI fbM gbM fm gm) (hrel : (f 0).toInt = 0 ∧ (fm 1).toInt = 1) (hP : va_P D vN (wW cI cZ cJ ho h hm f g fm gm) H) (hD : va_D A (wW cI cZ cJ ho h hm f g fm gm)) (hS : va_S A s.heap H locs) (hl : lv_has ls 7 [(0, .ref b), (1, .ref (h 0)), (2, .ref (hm 0)), (3, .ref ho), (4, .int i)]) (hc0 : (2 : Int) ≤ (xs (i + 1).toNatClampNeg).toInt ∧ (xs (i + 1).toNatClampNeg).toInt ≤ (2147483647 : Int)) (hc1 : (10001 : Int) ≤ (xs (i + 2).toNatClampNeg).toInt ∧ (xs (i + 2).toNatClampNeg).toInt ≤ (2147483647 : Int)) (hf : cells + 1 ≤ room_1.cells ∧ slots + 6 ≤ room_1.slots) (kk : ∀ (f1 : zz_F) (g1 : zz_G) (fm1 : zz_F) (gm1 : zz_G) (H1 : Heap) (locs1 : List Loc) (ls1 : Array Slot), ck_gI fbG gbG f1 g1 → ck_gI fbM gbM fm1 gm1 → lw_rel f1 fm1 → va_P D vN (wW cI cZ cJ ho h hm f1 g1 fm1 gm1) H1 → va_D A (wW cI cZ cJ ho h hm f1 g1 fm1 gm1) → va_S A s.heap H1 locs1 → lv_has ls1 7 [(0, .ref b), (1, .ref (h 0)), (2, .ref (hm 0)), (3, .ref ho), (4, .int i)] → W p l e room_1 s m args below meth c H1 locs1 (cells + 1) (slots + 6) Q (F0 m 673 ls1 [])) : W p l e room_1 s m args below meth c H locs cells slots Q (F0 m 322 ls []) := by
  refine W.widen (k := cells + 1) (n := slots + 6) (Nat.le_succ _) (Nat.le_add_right _ _) ?_
  refine lv_aload_n C.1.1 C.1.2.1 dl_322 rfl (lv_at hl 1 rfl) ?_
  refine lv_aload_n C.1.1 C.1.2.1 dl_323 rfl (lv_at hl 0 rfl) ?_
  refine lv_iload C.1.1 C.1.2.1 dl_324 (lv_at hl 4 rfl) ?_
  refine lv_iconst (v := 1) C.1.1 C.1.2.1 dl_326 (by decide) ?_
  refine lv_iadd C.1.1 C.1.2.1 dl_327 ?_
  refine va_sld C.1.1 C.1.2.1 hX hbl hbA hS i1 dl_328 ?_
  refine lv_aload_n C.1.1 C.1.2.1 dl_329 rfl (lv_at hl 0 rfl) ?_
  refine lv_iload C.1.1 C.1.2.1 dl_330 (lv_at hl 4 rfl) ?_
  refine lv_iconst (v := 2) C.1.1 C.1.2.1 dl_332 (by decide) ?_
  refine lv_iadd C.1.1 C.1.2.1 dl_333 ?_
  refine va_sld C.1.1 C.1.2.1 hX hbl hbA hS i2 dl_334 ?_
  refine lw_go (h := h) (hm := hm) (As := [.int (xs (i + 1).toNatClampNeg), .int (xs (i + 2).toNatClampNeg)]) C c_g149 (cwV 2 C.1.2.2.2.2 (kk_gV kw_319 kw_320 kw_321 kw_1 kw_322) rfl rfl rfl (by decide +kernel) ⟨Nat.le_of_ble_eq_true rfl, Nat.le_of_ble_eq_true rfl⟩) hI (List.forall_mem_cons.mpr ⟨⟨by show (0 : Int) ≤ (f 0).toInt; omega, by show (f 0).toInt ≤ (0 : Int); omega⟩, List.forall_mem_cons.mpr ⟨hI.1 3, fun _ h => absurd h List.not_mem_nil⟩⟩) (⟨Or.inr ⟨0, List.mem_cons_self, rfl⟩, ⟨⟨_, rfl, hc0⟩, ⟨⟨_, rfl, hc1⟩, trivial⟩⟩⟩) hP hD hS rfl hl.1 rfl dl_335 hf (fun r f1 g1 H1 locs1 hq hI1 hP hD hS => ?_)
  obtain ⟨o, ho1, hr, hT⟩ := hq
  have h9 := List.all_eq_true.mp (show q_g149.2.all (fun o => ck_isN 0 o && ck_keep 0 o) = true by decide) o ho1
  simp only [Bool.and_eq_true] at h9
  obtain ⟨x, rfl, hx⟩ := ck_isN_ok h9.1 hr
  have hk := ck_keep_ok h9.2 hT
  show W p l e room_1 s m args below meth c H1 locs1 (cells + 1) (slots + 6) Q (F0 m 338 ls [.int x])
  refine lv_aload_n C.1.1 C.1.2.1 dl_338 rfl (lv_at hl 2 rfl) ?_
  refine lv_aload_n C.1.1 C.1.2.1 dl_339 rfl (lv_at hl 0 rfl) ?_
  refine lv_iload C.1.1 C.1.2.1 dl_340 (lv_at hl 4 rfl) ?_
  refine lv_iconst (v := 1) C.1.1 C.1.2.1 dl_342 (by decide) ?_
  refine lv_iadd C.1.1 C.1.2.1 dl_343 ?_
  refine va_sld C.1.1 C.1.2.1 hX hbl hbA hS i1 dl_344 ?_
  refine lv_aload_n C.1.1 C.1.2.1 dl_345 rfl (lv_at hl 0 rfl) ?_
  refine lv_iload C.1.1 C.1.2.1 dl_346 (lv_at hl 4 rfl) ?_
  refine lv_iconst (v := 2) C.1.1 C.1.2.1 dl_348 (by decide) ?_
  refine lv_iadd C.1.1 C.1.2.1 dl_349 ?_
  refine va_sld C.1.1 C.1.2.1 hX hbl hbA hS i2 dl_350 ?_
  refine lm_goR (h := h) (hm := hm) (As := [.int (xs (i + 1).toNatClampNeg), .int (xs (i + 2).toNatClampNeg)]) (rest := [.int x]) C (c_m102 xL_ok) (cwV 2 C.1.2.2.2.2 (kk_gV kw_949 kw_950 kw_951 kw_9 kw_952) rfl rfl rfl (by decide +kernel) ⟨Nat.le_of_ble_eq_true rfl, Nat.le_of_ble_eq_true rfl⟩) hJ (List.forall_mem_cons.mpr ⟨hJ.1 0, List.forall_mem_cons.mpr ⟨⟨by show (1 : Int) ≤ (fm 1).toInt; omega, by show (fm 1).toInt ≤ (1 : Int); omega⟩, List.forall_mem_cons.mpr ⟨hJ.1 3, List.forall_mem_cons.mpr ⟨hJ.1 13, List.forall_mem_cons.mpr ⟨hJ.1 22, fun _ h => absurd h List.not_mem_nil⟩⟩⟩⟩⟩) (⟨Or.inr ⟨0, List.mem_cons_self, rfl⟩, ⟨⟨_, rfl, hc0⟩, ⟨⟨_, rfl, hc1⟩, trivial⟩⟩⟩) hP hD hS rfl hl.1 rfl (Nat.le_of_ble_eq_true rfl) dl_351 hf (fun r f2 g2 H2 locs2 hq2 hJ2 hP hD hS => ?_)
  obtain ⟨o2, ho2, hr2, hT2⟩ := hq2
  have h8 := List.all_eq_true.mp (show q_m102.2.all (fun o => ck_isN 0 o && ck_keep 1 o) = true by decide) o2 ho2
  simp only [Bool.and_eq_true] at h8
  obtain ⟨x2, rfl, hx2⟩ := ck_isN_ok h8.1 hr2
  have hk2 := ck_keep_ok h8.2 hT2
  show W p l e room_1 s m args below meth c H2 locs2 (cells + 1) (slots + 6) Q (F0 m 354 ls [.int x2, .int x])
  refine lv_icmp_eq (tgt := 673) C.1.1 C.1.2.1 dl_354 (by decide) (fun _ => ?_) (fun hne => absurd (Int32.toInt_inj.mp (hx.trans hx2.symm)) hne)
  exact kk f1 _ f2 g2 H2 locs2 _ hI1 hJ2 (Or.inr ⟨by rw [hk]; exact hrel.1, by rw [hk2]; exact hrel.2⟩) hP hD hS hl
theorem lo_7_c1g159 {p : Program} {l : Launch} {e : Env} {s : State} {m : MethodId} {args : Array Value} {below : List Frame} {meth : Method} {c : Code} {H : Heap} {locs : List Loc} {cells slots : Nat} {Q : State → Prop} {D : va_G} {B : Nat} {A : Nat → Prop} {h hm : Nat → Nat} {cI cZ cJ : ClassId} {ho : Nat} {f fm : zz_F} {g gm : zz_G} {ls : Array Slot} {b L : Nat} {xs : Nat → Int32} {i : Int32} {cx : Cond} (hfl : l.flags = flags0) (C : zz_Cx p m meth c code 7 ret s args (cx :: kk_W) "NightCyclerLaw" D vN (tyN cI cZ cJ) A B (xL B h)) (hX : va_X b L xs s s.heap) (hbl : b < s.heap.size) (hbA : ¬ A b) (i1 : vp_in (i + 1) L) (i2 : vp_in (i + 2) L) (hI : ck_gI fbG gbG f g) (hJ : ck_gI fbM gbM fm gm) (hrel : (f 0).toInt = 1 ∧ (fm 1).toInt = 0) (hP : va_P D vN (wW cI cZ cJ ho h hm f g fm gm) H) (hD : va_D A (wW cI cZ cJ ho h hm f g fm gm)) (hS : va_S A s.heap H locs) (hl : lv_has ls 7 [(0, .ref b), (1, .ref (h 0)), (2, .ref (hm 0)), (3, .ref ho), (4, .int i)]) (hc0 : (-2147483648 : Int) ≤ (xs (i + 1).toNatClampNeg).toInt ∧ (xs (i + 1).toNatClampNeg).toInt ≤ (-1 : Int)) (hc1 : (-2147483648 : Int) ≤ (xs (i + 2).toNatClampNeg).toInt ∧ (xs (i + 2).toNatClampNeg).toInt ≤ (-5001 : Int)) (hf : cells + 1 ≤ room_1.cells ∧ slots + 6 ≤ room_1.slots) (kk : ∀ (f1 : zz_F) (g1 : zz_G) (fm1 : zz_F) (gm1 : zz_G) (H1 : Heap) (locs1 : List Loc) (ls1 : Array Slot), ck_gI fbG gbG f1 g1 → ck_gI fbM gbM fm1 gm1 → lw_rel f1 fm1 → va_P D vN (wW cI cZ cJ ho h hm f1 g1 fm1 gm1) H1 → va_D A (wW cI cZ cJ ho h hm f1 g1 fm1 gm1) → va_S A s.heap H1 locs1 → lv_has ls1 7 [(0, .ref b), (1, .ref (h 0)), (2, .ref (hm 0)), (3, .ref ho), (4, .int i)] → W p l e room_1 s m args below meth c H1 locs1 (cells + 1) (slots + 6) Q (F0 m 673 ls1 [])) : W p l e room_1 s m args below meth c H locs cells slots Q (F0 m 322 ls []) := by
  refine W.widen (k := cells + 1) (n := slots + 6) (Nat.le_succ _) (Nat.le_add_right _ _) ?_
  refine lv_aload_n C.1.1 C.1.2.1 dl_322 rfl (lv_at hl 1 rfl) ?_
  refine lv_aload_n C.1.1 C.1.2.1 dl_323 rfl (lv_at hl 0 rfl) ?_
  refine lv_iload C.1.1 C.1.2.1 dl_324 (lv_at hl 4 rfl) ?_
  refine lv_iconst (v := 1) C.1.1 C.1.2.1 dl_326 (by decide) ?_
  refine lv_iadd C.1.1 C.1.2.1 dl_327 ?_
  refine va_sld C.1.1 C.1.2.1 hX hbl hbA hS i1 dl_328 ?_
  refine lv_aload_n C.1.1 C.1.2.1 dl_329 rfl (lv_at hl 0 rfl) ?_
  refine lv_iload C.1.1 C.1.2.1 dl_330 (lv_at hl 4 rfl) ?_
  refine lv_iconst (v := 2) C.1.1 C.1.2.1 dl_332 (by decide) ?_
  refine lv_iadd C.1.1 C.1.2.1 dl_333 ?_
  refine va_sld C.1.1 C.1.2.1 hX hbl hbA hS i2 dl_334 ?_
  refine lw_go (h := h) (hm := hm) (As := [.int (xs (i + 1).toNatClampNeg), .int (xs (i + 2).toNatClampNeg)]) C c_g159 (cwV 2 C.1.2.2.2.2 (kk_gV kw_319 kw_320 kw_321 kw_1 kw_322) rfl rfl rfl (by decide +kernel) ⟨Nat.le_of_ble_eq_true rfl, Nat.le_of_ble_eq_true rfl⟩) hI (List.forall_mem_cons.mpr ⟨⟨by show (1 : Int) ≤ (f 0).toInt; omega, by show (f 0).toInt ≤ (1 : Int); omega⟩, List.forall_mem_cons.mpr ⟨hI.1 3, fun _ h => absurd h List.not_mem_nil⟩⟩) (⟨Or.inr ⟨0, List.mem_cons_self, rfl⟩, ⟨⟨_, rfl, hc0⟩, ⟨⟨_, rfl, hc1⟩, trivial⟩⟩⟩) hP hD hS rfl hl.1 rfl dl_335 hf (fun r f1 g1 H1 locs1 hq hI1 hP hD hS => ?_)
  obtain ⟨o, ho1, hr, hT⟩ := hq
  have h9 := List.all_eq_true.mp (show q_g159.2.all (fun o => ck_isN 0 o && ck_keep 0 o) = true by decide) o ho1
  simp only [Bool.and_eq_true] at h9
  obtain ⟨x, rfl, hx⟩ := ck_isN_ok h9.1 hr
  have hk := ck_keep_ok h9.2 hT
  show W p l e room_1 s m args below meth c H1 locs1 (cells + 1) (slots + 6) Q (F0 m 338 ls [.int x])
  refine lv_aload_n C.1.1 C.1.2.1 dl_338 rfl (lv_at hl 2 rfl) ?_
  refine lv_aload_n C.1.1 C.1.2.1 dl_339 rfl (lv_at hl 0 rfl) ?_
  refine lv_iload C.1.1 C.1.2.1 dl_340 (lv_at hl 4 rfl) ?_
  refine lv_iconst (v := 1) C.1.1 C.1.2.1 dl_342 (by decide) ?_
  refine lv_iadd C.1.1 C.1.2.1 dl_343 ?_
  refine va_sld C.1.1 C.1.2.1 hX hbl hbA hS i1 dl_344 ?_
  refine lv_aload_n C.1.1 C.1.2.1 dl_345 rfl (lv_at hl 0 rfl) ?_
  refine lv_iload C.1.1 C.1.2.1 dl_346 (lv_at hl 4 rfl) ?_
  refine lv_iconst (v := 2) C.1.1 C.1.2.1 dl_348 (by decide) ?_
  refine lv_iadd C.1.1 C.1.2.1 dl_349 ?_
  refine va_sld C.1.1 C.1.2.1 hX hbl hbA hS i2 dl_350 ?_
  refine lm_goR (h := h) (hm := hm) (As := [.int (xs (i + 1).toNatClampNeg), .int (xs (i + 2).toNatClampNeg)]) (rest := [.int x]) C (c_m75 xL_ok) (cwV 2 C.1.2.2.2.2 (kk_gV kw_949 kw_950 kw_951 kw_9 kw_952) rfl rfl rfl (by decide +kernel) ⟨Nat.le_of_ble_eq_true rfl, Nat.le_of_ble_eq_true rfl⟩) hJ (List.forall_mem_cons.mpr ⟨hJ.1 0, List.forall_mem_cons.mpr ⟨⟨by show (0 : Int) ≤ (fm 1).toInt; omega, by show (fm 1).toInt ≤ (0 : Int); omega⟩, List.forall_mem_cons.mpr ⟨hJ.1 3, List.forall_mem_cons.mpr ⟨hJ.1 13, List.forall_mem_cons.mpr ⟨hJ.1 22, fun _ h => absurd h List.not_mem_nil⟩⟩⟩⟩⟩) (⟨Or.inr ⟨0, List.mem_cons_self, rfl⟩, ⟨⟨_, rfl, hc0⟩, ⟨⟨_, rfl, hc1⟩, trivial⟩⟩⟩) hP hD hS rfl hl.1 rfl (Nat.le_of_ble_eq_true rfl) dl_351 hf (fun r f2 g2 H2 locs2 hq2 hJ2 hP hD hS => ?_)
  obtain ⟨o2, ho2, hr2, hT2⟩ := hq2
  have h8 := List.all_eq_true.mp (show q_m75.2.all (fun o => ck_isN 0 o && ck_keep 1 o) = true by decide) o2 ho2
  simp only [Bool.and_eq_true] at h8
  obtain ⟨x2, rfl, hx2⟩ := ck_isN_ok h8.1 hr2
  have hk2 := ck_keep_ok h8.2 hT2
  show W p l e room_1 s m args below meth c H2 locs2 (cells + 1) (slots + 6) Q (F0 m 354 ls [.int x2, .int x])
  refine lv_icmp_eq (tgt := 673) C.1.1 C.1.2.1 dl_354 (by decide) (fun _ => ?_) (fun hne => absurd (Int32.toInt_inj.mp (hx.trans hx2.symm)) hne)
  exact kk f1 _ f2 g2 H2 locs2 _ hI1 hJ2 (Or.inl ⟨by rw [hk]; exact hrel.1, by rw [hk2]; exact hrel.2⟩) hP hD hS hl
theorem lo_7_c1g161 {p : Program} {l : Launch} {e : Env} {s : State} {m : MethodId} {args : Array Value} {below : List Frame} {meth : Method} {c : Code} {H : Heap} {locs : List Loc} {cells slots : Nat} {Q : State → Prop} {D : va_G} {B : Nat} {A : Nat → Prop} {h hm : Nat → Nat} {cI cZ cJ : ClassId} {ho : Nat} {f fm : zz_F} {g gm : zz_G} {ls : Array Slot} {b L : Nat} {xs : Nat → Int32} {i : Int32} {cx : Cond} (hfl : l.flags = flags0) (C : zz_Cx p m meth c code 7 ret s args (cx :: kk_W) "NightCyclerLaw" D vN (tyN cI cZ cJ) A B (xL B h)) (hX : va_X b L xs s s.heap) (hbl : b < s.heap.size) (hbA : ¬ A b) (i1 : vp_in (i + 1) L) (i2 : vp_in (i + 2) L) (hI : ck_gI fbG gbG f g) (hJ : ck_gI fbM gbM fm gm) (hrel : (f 0).toInt = 1 ∧ (fm 1).toInt = 0) (hP : va_P D vN (wW cI cZ cJ ho h hm f g fm gm) H) (hD : va_D A (wW cI cZ cJ ho h hm f g fm gm)) (hS : va_S A s.heap H locs) (hl : lv_has ls 7 [(0, .ref b), (1, .ref (h 0)), (2, .ref (hm 0)), (3, .ref ho), (4, .int i)]) (hc0 : (-2147483648 : Int) ≤ (xs (i + 1).toNatClampNeg).toInt ∧ (xs (i + 1).toNatClampNeg).toInt ≤ (-1 : Int)) (hc1 : (-5000 : Int) ≤ (xs (i + 2).toNatClampNeg).toInt ∧ (xs (i + 2).toNatClampNeg).toInt ≤ (10000 : Int)) (hf : cells + 1 ≤ room_1.cells ∧ slots + 6 ≤ room_1.slots) (kk : ∀ (f1 : zz_F) (g1 : zz_G) (fm1 : zz_F) (gm1 : zz_G) (H1 : Heap) (locs1 : List Loc) (ls1 : Array Slot), ck_gI fbG gbG f1 g1 → ck_gI fbM gbM fm1 gm1 → lw_rel f1 fm1 → va_P D vN (wW cI cZ cJ ho h hm f1 g1 fm1 gm1) H1 → va_D A (wW cI cZ cJ ho h hm f1 g1 fm1 gm1) → va_S A s.heap H1 locs1 → lv_has ls1 7 [(0, .ref b), (1, .ref (h 0)), (2, .ref (hm 0)), (3, .ref ho), (4, .int i)] → W p l e room_1 s m args below meth c H1 locs1 (cells + 1) (slots + 6) Q (F0 m 673 ls1 [])) : W p l e room_1 s m args below meth c H locs cells slots Q (F0 m 322 ls []) := by
  refine W.widen (k := cells + 1) (n := slots + 6) (Nat.le_succ _) (Nat.le_add_right _ _) ?_
  refine lv_aload_n C.1.1 C.1.2.1 dl_322 rfl (lv_at hl 1 rfl) ?_
  refine lv_aload_n C.1.1 C.1.2.1 dl_323 rfl (lv_at hl 0 rfl) ?_
  refine lv_iload C.1.1 C.1.2.1 dl_324 (lv_at hl 4 rfl) ?_
  refine lv_iconst (v := 1) C.1.1 C.1.2.1 dl_326 (by decide) ?_
  refine lv_iadd C.1.1 C.1.2.1 dl_327 ?_
  refine va_sld C.1.1 C.1.2.1 hX hbl hbA hS i1 dl_328 ?_
  refine lv_aload_n C.1.1 C.1.2.1 dl_329 rfl (lv_at hl 0 rfl) ?_
  refine lv_iload C.1.1 C.1.2.1 dl_330 (lv_at hl 4 rfl) ?_
  refine lv_iconst (v := 2) C.1.1 C.1.2.1 dl_332 (by decide) ?_
  refine lv_iadd C.1.1 C.1.2.1 dl_333 ?_
  refine va_sld C.1.1 C.1.2.1 hX hbl hbA hS i2 dl_334 ?_
  refine lw_go (h := h) (hm := hm) (As := [.int (xs (i + 1).toNatClampNeg), .int (xs (i + 2).toNatClampNeg)]) C c_g161 (cwV 2 C.1.2.2.2.2 (kk_gV kw_319 kw_320 kw_321 kw_1 kw_322) rfl rfl rfl (by decide +kernel) ⟨Nat.le_of_ble_eq_true rfl, Nat.le_of_ble_eq_true rfl⟩) hI (List.forall_mem_cons.mpr ⟨⟨by show (1 : Int) ≤ (f 0).toInt; omega, by show (f 0).toInt ≤ (1 : Int); omega⟩, List.forall_mem_cons.mpr ⟨hI.1 3, fun _ h => absurd h List.not_mem_nil⟩⟩) (⟨Or.inr ⟨0, List.mem_cons_self, rfl⟩, ⟨⟨_, rfl, hc0⟩, ⟨⟨_, rfl, hc1⟩, trivial⟩⟩⟩) hP hD hS rfl hl.1 rfl dl_335 hf (fun r f1 g1 H1 locs1 hq hI1 hP hD hS => ?_)
  obtain ⟨o, ho1, hr, hT⟩ := hq
  have h9 := List.all_eq_true.mp (show q_g161.2.all (fun o => ck_isN 0 o && ck_keep 0 o) = true by decide) o ho1
  simp only [Bool.and_eq_true] at h9
  obtain ⟨x, rfl, hx⟩ := ck_isN_ok h9.1 hr
  have hk := ck_keep_ok h9.2 hT
  show W p l e room_1 s m args below meth c H1 locs1 (cells + 1) (slots + 6) Q (F0 m 338 ls [.int x])
  refine lv_aload_n C.1.1 C.1.2.1 dl_338 rfl (lv_at hl 2 rfl) ?_
  refine lv_aload_n C.1.1 C.1.2.1 dl_339 rfl (lv_at hl 0 rfl) ?_
  refine lv_iload C.1.1 C.1.2.1 dl_340 (lv_at hl 4 rfl) ?_
  refine lv_iconst (v := 1) C.1.1 C.1.2.1 dl_342 (by decide) ?_
  refine lv_iadd C.1.1 C.1.2.1 dl_343 ?_
  refine va_sld C.1.1 C.1.2.1 hX hbl hbA hS i1 dl_344 ?_
  refine lv_aload_n C.1.1 C.1.2.1 dl_345 rfl (lv_at hl 0 rfl) ?_
  refine lv_iload C.1.1 C.1.2.1 dl_346 (lv_at hl 4 rfl) ?_
  refine lv_iconst (v := 2) C.1.1 C.1.2.1 dl_348 (by decide) ?_
  refine lv_iadd C.1.1 C.1.2.1 dl_349 ?_
  refine va_sld C.1.1 C.1.2.1 hX hbl hbA hS i2 dl_350 ?_
  refine lm_goR (h := h) (hm := hm) (As := [.int (xs (i + 1).toNatClampNeg), .int (xs (i + 2).toNatClampNeg)]) (rest := [.int x]) C (c_m76 xL_ok) (cwV 2 C.1.2.2.2.2 (kk_gV kw_949 kw_950 kw_951 kw_9 kw_952) rfl rfl rfl (by decide +kernel) ⟨Nat.le_of_ble_eq_true rfl, Nat.le_of_ble_eq_true rfl⟩) hJ (List.forall_mem_cons.mpr ⟨hJ.1 0, List.forall_mem_cons.mpr ⟨⟨by show (0 : Int) ≤ (fm 1).toInt; omega, by show (fm 1).toInt ≤ (0 : Int); omega⟩, List.forall_mem_cons.mpr ⟨hJ.1 3, List.forall_mem_cons.mpr ⟨hJ.1 13, List.forall_mem_cons.mpr ⟨hJ.1 22, fun _ h => absurd h List.not_mem_nil⟩⟩⟩⟩⟩) (⟨Or.inr ⟨0, List.mem_cons_self, rfl⟩, ⟨⟨_, rfl, hc0⟩, ⟨⟨_, rfl, hc1⟩, trivial⟩⟩⟩) hP hD hS rfl hl.1 rfl (Nat.le_of_ble_eq_true rfl) dl_351 hf (fun r f2 g2 H2 locs2 hq2 hJ2 hP hD hS => ?_)
  obtain ⟨o2, ho2, hr2, hT2⟩ := hq2
  have h8 := List.all_eq_true.mp (show q_m76.2.all (fun o => ck_isN 0 o && ck_keep 1 o) = true by decide) o2 ho2
  simp only [Bool.and_eq_true] at h8
  obtain ⟨x2, rfl, hx2⟩ := ck_isN_ok h8.1 hr2
  have hk2 := ck_keep_ok h8.2 hT2
  show W p l e room_1 s m args below meth c H2 locs2 (cells + 1) (slots + 6) Q (F0 m 354 ls [.int x2, .int x])
  refine lv_icmp_eq (tgt := 673) C.1.1 C.1.2.1 dl_354 (by decide) (fun _ => ?_) (fun hne => absurd (Int32.toInt_inj.mp (hx.trans hx2.symm)) hne)
  exact kk f1 _ f2 g2 H2 locs2 _ hI1 hJ2 (Or.inl ⟨by rw [hk]; exact hrel.1, by rw [hk2]; exact hrel.2⟩) hP hD hS hl
theorem lo_7_c1g163 {p : Program} {l : Launch} {e : Env} {s : State} {m : MethodId} {args : Array Value} {below : List Frame} {meth : Method} {c : Code} {H : Heap} {locs : List Loc} {cells slots : Nat} {Q : State → Prop} {D : va_G} {B : Nat} {A : Nat → Prop} {h hm : Nat → Nat} {cI cZ cJ : ClassId} {ho : Nat} {f fm : zz_F} {g gm : zz_G} {ls : Array Slot} {b L : Nat} {xs : Nat → Int32} {i : Int32} {cx : Cond} (hfl : l.flags = flags0) (C : zz_Cx p m meth c code 7 ret s args (cx :: kk_W) "NightCyclerLaw" D vN (tyN cI cZ cJ) A B (xL B h)) (hX : va_X b L xs s s.heap) (hbl : b < s.heap.size) (hbA : ¬ A b) (i1 : vp_in (i + 1) L) (i2 : vp_in (i + 2) L) (hI : ck_gI fbG gbG f g) (hJ : ck_gI fbM gbM fm gm) (hrel : (f 0).toInt = 1 ∧ (fm 1).toInt = 0) (hP : va_P D vN (wW cI cZ cJ ho h hm f g fm gm) H) (hD : va_D A (wW cI cZ cJ ho h hm f g fm gm)) (hS : va_S A s.heap H locs) (hl : lv_has ls 7 [(0, .ref b), (1, .ref (h 0)), (2, .ref (hm 0)), (3, .ref ho), (4, .int i)]) (hc0 : (-2147483648 : Int) ≤ (xs (i + 1).toNatClampNeg).toInt ∧ (xs (i + 1).toNatClampNeg).toInt ≤ (-1 : Int)) (hc1 : (10001 : Int) ≤ (xs (i + 2).toNatClampNeg).toInt ∧ (xs (i + 2).toNatClampNeg).toInt ≤ (2147483647 : Int)) (hf : cells + 1 ≤ room_1.cells ∧ slots + 6 ≤ room_1.slots) (kk : ∀ (f1 : zz_F) (g1 : zz_G) (fm1 : zz_F) (gm1 : zz_G) (H1 : Heap) (locs1 : List Loc) (ls1 : Array Slot), ck_gI fbG gbG f1 g1 → ck_gI fbM gbM fm1 gm1 → lw_rel f1 fm1 → va_P D vN (wW cI cZ cJ ho h hm f1 g1 fm1 gm1) H1 → va_D A (wW cI cZ cJ ho h hm f1 g1 fm1 gm1) → va_S A s.heap H1 locs1 → lv_has ls1 7 [(0, .ref b), (1, .ref (h 0)), (2, .ref (hm 0)), (3, .ref ho), (4, .int i)] → W p l e room_1 s m args below meth c H1 locs1 (cells + 1) (slots + 6) Q (F0 m 673 ls1 [])) : W p l e room_1 s m args below meth c H locs cells slots Q (F0 m 322 ls []) := by
  refine W.widen (k := cells + 1) (n := slots + 6) (Nat.le_succ _) (Nat.le_add_right _ _) ?_
  refine lv_aload_n C.1.1 C.1.2.1 dl_322 rfl (lv_at hl 1 rfl) ?_
  refine lv_aload_n C.1.1 C.1.2.1 dl_323 rfl (lv_at hl 0 rfl) ?_
  refine lv_iload C.1.1 C.1.2.1 dl_324 (lv_at hl 4 rfl) ?_
  refine lv_iconst (v := 1) C.1.1 C.1.2.1 dl_326 (by decide) ?_
  refine lv_iadd C.1.1 C.1.2.1 dl_327 ?_
  refine va_sld C.1.1 C.1.2.1 hX hbl hbA hS i1 dl_328 ?_
  refine lv_aload_n C.1.1 C.1.2.1 dl_329 rfl (lv_at hl 0 rfl) ?_
  refine lv_iload C.1.1 C.1.2.1 dl_330 (lv_at hl 4 rfl) ?_
  refine lv_iconst (v := 2) C.1.1 C.1.2.1 dl_332 (by decide) ?_
  refine lv_iadd C.1.1 C.1.2.1 dl_333 ?_
  refine va_sld C.1.1 C.1.2.1 hX hbl hbA hS i2 dl_334 ?_
  refine lw_go (h := h) (hm := hm) (As := [.int (xs (i + 1).toNatClampNeg), .int (xs (i + 2).toNatClampNeg)]) C c_g163 (cwV 2 C.1.2.2.2.2 (kk_gV kw_319 kw_320 kw_321 kw_1 kw_322) rfl rfl rfl (by decide +kernel) ⟨Nat.le_of_ble_eq_true rfl, Nat.le_of_ble_eq_true rfl⟩) hI (List.forall_mem_cons.mpr ⟨⟨by show (1 : Int) ≤ (f 0).toInt; omega, by show (f 0).toInt ≤ (1 : Int); omega⟩, List.forall_mem_cons.mpr ⟨hI.1 3, fun _ h => absurd h List.not_mem_nil⟩⟩) (⟨Or.inr ⟨0, List.mem_cons_self, rfl⟩, ⟨⟨_, rfl, hc0⟩, ⟨⟨_, rfl, hc1⟩, trivial⟩⟩⟩) hP hD hS rfl hl.1 rfl dl_335 hf (fun r f1 g1 H1 locs1 hq hI1 hP hD hS => ?_)
  obtain ⟨o, ho1, hr, hT⟩ := hq
  have h9 := List.all_eq_true.mp (show q_g163.2.all (fun o => ck_isN 0 o && ck_keep 0 o) = true by decide) o ho1
  simp only [Bool.and_eq_true] at h9
  obtain ⟨x, rfl, hx⟩ := ck_isN_ok h9.1 hr
  have hk := ck_keep_ok h9.2 hT
  show W p l e room_1 s m args below meth c H1 locs1 (cells + 1) (slots + 6) Q (F0 m 338 ls [.int x])
  refine lv_aload_n C.1.1 C.1.2.1 dl_338 rfl (lv_at hl 2 rfl) ?_
  refine lv_aload_n C.1.1 C.1.2.1 dl_339 rfl (lv_at hl 0 rfl) ?_
  refine lv_iload C.1.1 C.1.2.1 dl_340 (lv_at hl 4 rfl) ?_
  refine lv_iconst (v := 1) C.1.1 C.1.2.1 dl_342 (by decide) ?_
  refine lv_iadd C.1.1 C.1.2.1 dl_343 ?_
  refine va_sld C.1.1 C.1.2.1 hX hbl hbA hS i1 dl_344 ?_
  refine lv_aload_n C.1.1 C.1.2.1 dl_345 rfl (lv_at hl 0 rfl) ?_
  refine lv_iload C.1.1 C.1.2.1 dl_346 (lv_at hl 4 rfl) ?_
  refine lv_iconst (v := 2) C.1.1 C.1.2.1 dl_348 (by decide) ?_
  refine lv_iadd C.1.1 C.1.2.1 dl_349 ?_
  refine va_sld C.1.1 C.1.2.1 hX hbl hbA hS i2 dl_350 ?_
  refine lm_goR (h := h) (hm := hm) (As := [.int (xs (i + 1).toNatClampNeg), .int (xs (i + 2).toNatClampNeg)]) (rest := [.int x]) C (c_m77 xL_ok) (cwV 2 C.1.2.2.2.2 (kk_gV kw_949 kw_950 kw_951 kw_9 kw_952) rfl rfl rfl (by decide +kernel) ⟨Nat.le_of_ble_eq_true rfl, Nat.le_of_ble_eq_true rfl⟩) hJ (List.forall_mem_cons.mpr ⟨hJ.1 0, List.forall_mem_cons.mpr ⟨⟨by show (0 : Int) ≤ (fm 1).toInt; omega, by show (fm 1).toInt ≤ (0 : Int); omega⟩, List.forall_mem_cons.mpr ⟨hJ.1 3, List.forall_mem_cons.mpr ⟨hJ.1 13, List.forall_mem_cons.mpr ⟨hJ.1 22, fun _ h => absurd h List.not_mem_nil⟩⟩⟩⟩⟩) (⟨Or.inr ⟨0, List.mem_cons_self, rfl⟩, ⟨⟨_, rfl, hc0⟩, ⟨⟨_, rfl, hc1⟩, trivial⟩⟩⟩) hP hD hS rfl hl.1 rfl (Nat.le_of_ble_eq_true rfl) dl_351 hf (fun r f2 g2 H2 locs2 hq2 hJ2 hP hD hS => ?_)
  obtain ⟨o2, ho2, hr2, hT2⟩ := hq2
  have h8 := List.all_eq_true.mp (show q_m77.2.all (fun o => ck_isN 0 o && ck_keep 1 o) = true by decide) o2 ho2
  simp only [Bool.and_eq_true] at h8
  obtain ⟨x2, rfl, hx2⟩ := ck_isN_ok h8.1 hr2
  have hk2 := ck_keep_ok h8.2 hT2
  show W p l e room_1 s m args below meth c H2 locs2 (cells + 1) (slots + 6) Q (F0 m 354 ls [.int x2, .int x])
  refine lv_icmp_eq (tgt := 673) C.1.1 C.1.2.1 dl_354 (by decide) (fun _ => ?_) (fun hne => absurd (Int32.toInt_inj.mp (hx.trans hx2.symm)) hne)
  exact kk f1 _ f2 g2 H2 locs2 _ hI1 hJ2 (Or.inl ⟨by rw [hk]; exact hrel.1, by rw [hk2]; exact hrel.2⟩) hP hD hS hl
theorem lo_7_c1g165 {p : Program} {l : Launch} {e : Env} {s : State} {m : MethodId} {args : Array Value} {below : List Frame} {meth : Method} {c : Code} {H : Heap} {locs : List Loc} {cells slots : Nat} {Q : State → Prop} {D : va_G} {B : Nat} {A : Nat → Prop} {h hm : Nat → Nat} {cI cZ cJ : ClassId} {ho : Nat} {f fm : zz_F} {g gm : zz_G} {ls : Array Slot} {b L : Nat} {xs : Nat → Int32} {i : Int32} {cx : Cond} (hfl : l.flags = flags0) (C : zz_Cx p m meth c code 7 ret s args (cx :: kk_W) "NightCyclerLaw" D vN (tyN cI cZ cJ) A B (xL B h)) (hX : va_X b L xs s s.heap) (hbl : b < s.heap.size) (hbA : ¬ A b) (i1 : vp_in (i + 1) L) (i2 : vp_in (i + 2) L) (hI : ck_gI fbG gbG f g) (hJ : ck_gI fbM gbM fm gm) (hrel : (f 0).toInt = 1 ∧ (fm 1).toInt = 0) (hP : va_P D vN (wW cI cZ cJ ho h hm f g fm gm) H) (hD : va_D A (wW cI cZ cJ ho h hm f g fm gm)) (hS : va_S A s.heap H locs) (hl : lv_has ls 7 [(0, .ref b), (1, .ref (h 0)), (2, .ref (hm 0)), (3, .ref ho), (4, .int i)]) (hc0 : (0 : Int) ≤ (xs (i + 1).toNatClampNeg).toInt ∧ (xs (i + 1).toNatClampNeg).toInt ≤ (1 : Int)) (hc1 : (-2147483648 : Int) ≤ (xs (i + 2).toNatClampNeg).toInt ∧ (xs (i + 2).toNatClampNeg).toInt ≤ (-5001 : Int)) (hf : cells + 1 ≤ room_1.cells ∧ slots + 6 ≤ room_1.slots) (kk : ∀ (f1 : zz_F) (g1 : zz_G) (fm1 : zz_F) (gm1 : zz_G) (H1 : Heap) (locs1 : List Loc) (ls1 : Array Slot), ck_gI fbG gbG f1 g1 → ck_gI fbM gbM fm1 gm1 → lw_rel f1 fm1 → va_P D vN (wW cI cZ cJ ho h hm f1 g1 fm1 gm1) H1 → va_D A (wW cI cZ cJ ho h hm f1 g1 fm1 gm1) → va_S A s.heap H1 locs1 → lv_has ls1 7 [(0, .ref b), (1, .ref (h 0)), (2, .ref (hm 0)), (3, .ref ho), (4, .int i)] → W p l e room_1 s m args below meth c H1 locs1 (cells + 1) (slots + 6) Q (F0 m 673 ls1 [])) : W p l e room_1 s m args below meth c H locs cells slots Q (F0 m 322 ls []) := by
  refine W.widen (k := cells + 1) (n := slots + 6) (Nat.le_succ _) (Nat.le_add_right _ _) ?_
  refine lv_aload_n C.1.1 C.1.2.1 dl_322 rfl (lv_at hl 1 rfl) ?_
  refine lv_aload_n C.1.1 C.1.2.1 dl_323 rfl (lv_at hl 0 rfl) ?_
  refine lv_iload C.1.1 C.1.2.1 dl_324 (lv_at hl 4 rfl) ?_
  refine lv_iconst (v := 1) C.1.1 C.1.2.1 dl_326 (by decide) ?_
  refine lv_iadd C.1.1 C.1.2.1 dl_327 ?_
  refine va_sld C.1.1 C.1.2.1 hX hbl hbA hS i1 dl_328 ?_
  refine lv_aload_n C.1.1 C.1.2.1 dl_329 rfl (lv_at hl 0 rfl) ?_
  refine lv_iload C.1.1 C.1.2.1 dl_330 (lv_at hl 4 rfl) ?_
  refine lv_iconst (v := 2) C.1.1 C.1.2.1 dl_332 (by decide) ?_
  refine lv_iadd C.1.1 C.1.2.1 dl_333 ?_
  refine va_sld C.1.1 C.1.2.1 hX hbl hbA hS i2 dl_334 ?_
  refine lw_go (h := h) (hm := hm) (As := [.int (xs (i + 1).toNatClampNeg), .int (xs (i + 2).toNatClampNeg)]) C c_g165 (cwV 2 C.1.2.2.2.2 (kk_gV kw_319 kw_320 kw_321 kw_1 kw_322) rfl rfl rfl (by decide +kernel) ⟨Nat.le_of_ble_eq_true rfl, Nat.le_of_ble_eq_true rfl⟩) hI (List.forall_mem_cons.mpr ⟨⟨by show (1 : Int) ≤ (f 0).toInt; omega, by show (f 0).toInt ≤ (1 : Int); omega⟩, List.forall_mem_cons.mpr ⟨hI.1 3, fun _ h => absurd h List.not_mem_nil⟩⟩) (⟨Or.inr ⟨0, List.mem_cons_self, rfl⟩, ⟨⟨_, rfl, hc0⟩, ⟨⟨_, rfl, hc1⟩, trivial⟩⟩⟩) hP hD hS rfl hl.1 rfl dl_335 hf (fun r f1 g1 H1 locs1 hq hI1 hP hD hS => ?_)
  obtain ⟨o, ho1, hr, hT⟩ := hq
  have h9 := List.all_eq_true.mp (show q_g165.2.all (fun o => ck_isN 0 o && ck_keep 0 o) = true by decide) o ho1
  simp only [Bool.and_eq_true] at h9
  obtain ⟨x, rfl, hx⟩ := ck_isN_ok h9.1 hr
  have hk := ck_keep_ok h9.2 hT
  show W p l e room_1 s m args below meth c H1 locs1 (cells + 1) (slots + 6) Q (F0 m 338 ls [.int x])
  refine lv_aload_n C.1.1 C.1.2.1 dl_338 rfl (lv_at hl 2 rfl) ?_
  refine lv_aload_n C.1.1 C.1.2.1 dl_339 rfl (lv_at hl 0 rfl) ?_
  refine lv_iload C.1.1 C.1.2.1 dl_340 (lv_at hl 4 rfl) ?_
  refine lv_iconst (v := 1) C.1.1 C.1.2.1 dl_342 (by decide) ?_
  refine lv_iadd C.1.1 C.1.2.1 dl_343 ?_
  refine va_sld C.1.1 C.1.2.1 hX hbl hbA hS i1 dl_344 ?_
  refine lv_aload_n C.1.1 C.1.2.1 dl_345 rfl (lv_at hl 0 rfl) ?_
  refine lv_iload C.1.1 C.1.2.1 dl_346 (lv_at hl 4 rfl) ?_
  refine lv_iconst (v := 2) C.1.1 C.1.2.1 dl_348 (by decide) ?_
  refine lv_iadd C.1.1 C.1.2.1 dl_349 ?_
  refine va_sld C.1.1 C.1.2.1 hX hbl hbA hS i2 dl_350 ?_
  refine lm_goR (h := h) (hm := hm) (As := [.int (xs (i + 1).toNatClampNeg), .int (xs (i + 2).toNatClampNeg)]) (rest := [.int x]) C (c_m78 xL_ok) (cwV 2 C.1.2.2.2.2 (kk_gV kw_949 kw_950 kw_951 kw_9 kw_952) rfl rfl rfl (by decide +kernel) ⟨Nat.le_of_ble_eq_true rfl, Nat.le_of_ble_eq_true rfl⟩) hJ (List.forall_mem_cons.mpr ⟨hJ.1 0, List.forall_mem_cons.mpr ⟨⟨by show (0 : Int) ≤ (fm 1).toInt; omega, by show (fm 1).toInt ≤ (0 : Int); omega⟩, List.forall_mem_cons.mpr ⟨hJ.1 3, List.forall_mem_cons.mpr ⟨hJ.1 13, List.forall_mem_cons.mpr ⟨hJ.1 22, fun _ h => absurd h List.not_mem_nil⟩⟩⟩⟩⟩) (⟨Or.inr ⟨0, List.mem_cons_self, rfl⟩, ⟨⟨_, rfl, hc0⟩, ⟨⟨_, rfl, hc1⟩, trivial⟩⟩⟩) hP hD hS rfl hl.1 rfl (Nat.le_of_ble_eq_true rfl) dl_351 hf (fun r f2 g2 H2 locs2 hq2 hJ2 hP hD hS => ?_)
  obtain ⟨o2, ho2, hr2, hT2⟩ := hq2
  have h8 := List.all_eq_true.mp (show q_m78.2.all (fun o => ck_isN 0 o && ck_keep 1 o) = true by decide) o2 ho2
  simp only [Bool.and_eq_true] at h8
  obtain ⟨x2, rfl, hx2⟩ := ck_isN_ok h8.1 hr2
  have hk2 := ck_keep_ok h8.2 hT2
  show W p l e room_1 s m args below meth c H2 locs2 (cells + 1) (slots + 6) Q (F0 m 354 ls [.int x2, .int x])
  refine lv_icmp_eq (tgt := 673) C.1.1 C.1.2.1 dl_354 (by decide) (fun _ => ?_) (fun hne => absurd (Int32.toInt_inj.mp (hx.trans hx2.symm)) hne)
  exact kk f1 _ f2 g2 H2 locs2 _ hI1 hJ2 (Or.inl ⟨by rw [hk]; exact hrel.1, by rw [hk2]; exact hrel.2⟩) hP hD hS hl
theorem lo_7_c1g167 {p : Program} {l : Launch} {e : Env} {s : State} {m : MethodId} {args : Array Value} {below : List Frame} {meth : Method} {c : Code} {H : Heap} {locs : List Loc} {cells slots : Nat} {Q : State → Prop} {D : va_G} {B : Nat} {A : Nat → Prop} {h hm : Nat → Nat} {cI cZ cJ : ClassId} {ho : Nat} {f fm : zz_F} {g gm : zz_G} {ls : Array Slot} {b L : Nat} {xs : Nat → Int32} {i : Int32} {cx : Cond} (hfl : l.flags = flags0) (C : zz_Cx p m meth c code 7 ret s args (cx :: kk_W) "NightCyclerLaw" D vN (tyN cI cZ cJ) A B (xL B h)) (hX : va_X b L xs s s.heap) (hbl : b < s.heap.size) (hbA : ¬ A b) (i1 : vp_in (i + 1) L) (i2 : vp_in (i + 2) L) (hI : ck_gI fbG gbG f g) (hJ : ck_gI fbM gbM fm gm) (hrel : (f 0).toInt = 1 ∧ (fm 1).toInt = 0) (hP : va_P D vN (wW cI cZ cJ ho h hm f g fm gm) H) (hD : va_D A (wW cI cZ cJ ho h hm f g fm gm)) (hS : va_S A s.heap H locs) (hl : lv_has ls 7 [(0, .ref b), (1, .ref (h 0)), (2, .ref (hm 0)), (3, .ref ho), (4, .int i)]) (hc0 : (0 : Int) ≤ (xs (i + 1).toNatClampNeg).toInt ∧ (xs (i + 1).toNatClampNeg).toInt ≤ (1 : Int)) (hc1 : (-5000 : Int) ≤ (xs (i + 2).toNatClampNeg).toInt ∧ (xs (i + 2).toNatClampNeg).toInt ≤ (10000 : Int)) (hf : cells + 1 ≤ room_1.cells ∧ slots + 6 ≤ room_1.slots) (kk : ∀ (f1 : zz_F) (g1 : zz_G) (fm1 : zz_F) (gm1 : zz_G) (H1 : Heap) (locs1 : List Loc) (ls1 : Array Slot), ck_gI fbG gbG f1 g1 → ck_gI fbM gbM fm1 gm1 → lw_rel f1 fm1 → va_P D vN (wW cI cZ cJ ho h hm f1 g1 fm1 gm1) H1 → va_D A (wW cI cZ cJ ho h hm f1 g1 fm1 gm1) → va_S A s.heap H1 locs1 → lv_has ls1 7 [(0, .ref b), (1, .ref (h 0)), (2, .ref (hm 0)), (3, .ref ho), (4, .int i)] → W p l e room_1 s m args below meth c H1 locs1 (cells + 1) (slots + 6) Q (F0 m 673 ls1 [])) : W p l e room_1 s m args below meth c H locs cells slots Q (F0 m 322 ls []) := by
  refine W.widen (k := cells + 1) (n := slots + 6) (Nat.le_succ _) (Nat.le_add_right _ _) ?_
  refine lv_aload_n C.1.1 C.1.2.1 dl_322 rfl (lv_at hl 1 rfl) ?_
  refine lv_aload_n C.1.1 C.1.2.1 dl_323 rfl (lv_at hl 0 rfl) ?_
  refine lv_iload C.1.1 C.1.2.1 dl_324 (lv_at hl 4 rfl) ?_
  refine lv_iconst (v := 1) C.1.1 C.1.2.1 dl_326 (by decide) ?_
  refine lv_iadd C.1.1 C.1.2.1 dl_327 ?_
  refine va_sld C.1.1 C.1.2.1 hX hbl hbA hS i1 dl_328 ?_
  refine lv_aload_n C.1.1 C.1.2.1 dl_329 rfl (lv_at hl 0 rfl) ?_
  refine lv_iload C.1.1 C.1.2.1 dl_330 (lv_at hl 4 rfl) ?_
  refine lv_iconst (v := 2) C.1.1 C.1.2.1 dl_332 (by decide) ?_
  refine lv_iadd C.1.1 C.1.2.1 dl_333 ?_
  refine va_sld C.1.1 C.1.2.1 hX hbl hbA hS i2 dl_334 ?_
  refine lw_go (h := h) (hm := hm) (As := [.int (xs (i + 1).toNatClampNeg), .int (xs (i + 2).toNatClampNeg)]) C c_g167 (cwV 2 C.1.2.2.2.2 (kk_gV kw_319 kw_320 kw_321 kw_1 kw_322) rfl rfl rfl (by decide +kernel) ⟨Nat.le_of_ble_eq_true rfl, Nat.le_of_ble_eq_true rfl⟩) hI (List.forall_mem_cons.mpr ⟨⟨by show (1 : Int) ≤ (f 0).toInt; omega, by show (f 0).toInt ≤ (1 : Int); omega⟩, List.forall_mem_cons.mpr ⟨hI.1 3, fun _ h => absurd h List.not_mem_nil⟩⟩) (⟨Or.inr ⟨0, List.mem_cons_self, rfl⟩, ⟨⟨_, rfl, hc0⟩, ⟨⟨_, rfl, hc1⟩, trivial⟩⟩⟩) hP hD hS rfl hl.1 rfl dl_335 hf (fun r f1 g1 H1 locs1 hq hI1 hP hD hS => ?_)
  obtain ⟨o, ho1, hr, hT⟩ := hq
  have h9 := List.all_eq_true.mp (show q_g167.2.all (fun o => ck_isN 1 o && ck_keep 0 o) = true by decide) o ho1
  simp only [Bool.and_eq_true] at h9
  obtain ⟨x, rfl, hx⟩ := ck_isN_ok h9.1 hr
  have hk := ck_keep_ok h9.2 hT
  show W p l e room_1 s m args below meth c H1 locs1 (cells + 1) (slots + 6) Q (F0 m 338 ls [.int x])
  refine lv_aload_n C.1.1 C.1.2.1 dl_338 rfl (lv_at hl 2 rfl) ?_
  refine lv_aload_n C.1.1 C.1.2.1 dl_339 rfl (lv_at hl 0 rfl) ?_
  refine lv_iload C.1.1 C.1.2.1 dl_340 (lv_at hl 4 rfl) ?_
  refine lv_iconst (v := 1) C.1.1 C.1.2.1 dl_342 (by decide) ?_
  refine lv_iadd C.1.1 C.1.2.1 dl_343 ?_
  refine va_sld C.1.1 C.1.2.1 hX hbl hbA hS i1 dl_344 ?_
  refine lv_aload_n C.1.1 C.1.2.1 dl_345 rfl (lv_at hl 0 rfl) ?_
  refine lv_iload C.1.1 C.1.2.1 dl_346 (lv_at hl 4 rfl) ?_
  refine lv_iconst (v := 2) C.1.1 C.1.2.1 dl_348 (by decide) ?_
  refine lv_iadd C.1.1 C.1.2.1 dl_349 ?_
  refine va_sld C.1.1 C.1.2.1 hX hbl hbA hS i2 dl_350 ?_
  refine lm_goR (h := h) (hm := hm) (As := [.int (xs (i + 1).toNatClampNeg), .int (xs (i + 2).toNatClampNeg)]) (rest := [.int x]) C (c_m79 xL_ok) (cwV 2 C.1.2.2.2.2 (kk_gV kw_949 kw_950 kw_951 kw_9 kw_952) rfl rfl rfl (by decide +kernel) ⟨Nat.le_of_ble_eq_true rfl, Nat.le_of_ble_eq_true rfl⟩) hJ (List.forall_mem_cons.mpr ⟨hJ.1 0, List.forall_mem_cons.mpr ⟨⟨by show (0 : Int) ≤ (fm 1).toInt; omega, by show (fm 1).toInt ≤ (0 : Int); omega⟩, List.forall_mem_cons.mpr ⟨hJ.1 3, List.forall_mem_cons.mpr ⟨hJ.1 13, List.forall_mem_cons.mpr ⟨hJ.1 22, fun _ h => absurd h List.not_mem_nil⟩⟩⟩⟩⟩) (⟨Or.inr ⟨0, List.mem_cons_self, rfl⟩, ⟨⟨_, rfl, hc0⟩, ⟨⟨_, rfl, hc1⟩, trivial⟩⟩⟩) hP hD hS rfl hl.1 rfl (Nat.le_of_ble_eq_true rfl) dl_351 hf (fun r f2 g2 H2 locs2 hq2 hJ2 hP hD hS => ?_)
  obtain ⟨o2, ho2, hr2, hT2⟩ := hq2
  have h8 := List.all_eq_true.mp (show q_m79.2.all (fun o => ck_isN 1 o && ck_keep 1 o) = true by decide) o2 ho2
  simp only [Bool.and_eq_true] at h8
  obtain ⟨x2, rfl, hx2⟩ := ck_isN_ok h8.1 hr2
  have hk2 := ck_keep_ok h8.2 hT2
  show W p l e room_1 s m args below meth c H2 locs2 (cells + 1) (slots + 6) Q (F0 m 354 ls [.int x2, .int x])
  refine lv_icmp_eq (tgt := 673) C.1.1 C.1.2.1 dl_354 (by decide) (fun _ => ?_) (fun hne => absurd (Int32.toInt_inj.mp (hx.trans hx2.symm)) hne)
  exact kk f1 _ f2 g2 H2 locs2 _ hI1 hJ2 (Or.inl ⟨by rw [hk]; exact hrel.1, by rw [hk2]; exact hrel.2⟩) hP hD hS hl
theorem lo_7_c1g169 {p : Program} {l : Launch} {e : Env} {s : State} {m : MethodId} {args : Array Value} {below : List Frame} {meth : Method} {c : Code} {H : Heap} {locs : List Loc} {cells slots : Nat} {Q : State → Prop} {D : va_G} {B : Nat} {A : Nat → Prop} {h hm : Nat → Nat} {cI cZ cJ : ClassId} {ho : Nat} {f fm : zz_F} {g gm : zz_G} {ls : Array Slot} {b L : Nat} {xs : Nat → Int32} {i : Int32} {cx : Cond} (hfl : l.flags = flags0) (C : zz_Cx p m meth c code 7 ret s args (cx :: kk_W) "NightCyclerLaw" D vN (tyN cI cZ cJ) A B (xL B h)) (hX : va_X b L xs s s.heap) (hbl : b < s.heap.size) (hbA : ¬ A b) (i1 : vp_in (i + 1) L) (i2 : vp_in (i + 2) L) (hI : ck_gI fbG gbG f g) (hJ : ck_gI fbM gbM fm gm) (hrel : (f 0).toInt = 1 ∧ (fm 1).toInt = 0) (hP : va_P D vN (wW cI cZ cJ ho h hm f g fm gm) H) (hD : va_D A (wW cI cZ cJ ho h hm f g fm gm)) (hS : va_S A s.heap H locs) (hl : lv_has ls 7 [(0, .ref b), (1, .ref (h 0)), (2, .ref (hm 0)), (3, .ref ho), (4, .int i)]) (hc0 : (0 : Int) ≤ (xs (i + 1).toNatClampNeg).toInt ∧ (xs (i + 1).toNatClampNeg).toInt ≤ (1 : Int)) (hc1 : (10001 : Int) ≤ (xs (i + 2).toNatClampNeg).toInt ∧ (xs (i + 2).toNatClampNeg).toInt ≤ (2147483647 : Int)) (hf : cells + 1 ≤ room_1.cells ∧ slots + 6 ≤ room_1.slots) (kk : ∀ (f1 : zz_F) (g1 : zz_G) (fm1 : zz_F) (gm1 : zz_G) (H1 : Heap) (locs1 : List Loc) (ls1 : Array Slot), ck_gI fbG gbG f1 g1 → ck_gI fbM gbM fm1 gm1 → lw_rel f1 fm1 → va_P D vN (wW cI cZ cJ ho h hm f1 g1 fm1 gm1) H1 → va_D A (wW cI cZ cJ ho h hm f1 g1 fm1 gm1) → va_S A s.heap H1 locs1 → lv_has ls1 7 [(0, .ref b), (1, .ref (h 0)), (2, .ref (hm 0)), (3, .ref ho), (4, .int i)] → W p l e room_1 s m args below meth c H1 locs1 (cells + 1) (slots + 6) Q (F0 m 673 ls1 [])) : W p l e room_1 s m args below meth c H locs cells slots Q (F0 m 322 ls []) := by
  refine W.widen (k := cells + 1) (n := slots + 6) (Nat.le_succ _) (Nat.le_add_right _ _) ?_
  refine lv_aload_n C.1.1 C.1.2.1 dl_322 rfl (lv_at hl 1 rfl) ?_
  refine lv_aload_n C.1.1 C.1.2.1 dl_323 rfl (lv_at hl 0 rfl) ?_
  refine lv_iload C.1.1 C.1.2.1 dl_324 (lv_at hl 4 rfl) ?_
  refine lv_iconst (v := 1) C.1.1 C.1.2.1 dl_326 (by decide) ?_
  refine lv_iadd C.1.1 C.1.2.1 dl_327 ?_
  refine va_sld C.1.1 C.1.2.1 hX hbl hbA hS i1 dl_328 ?_
  refine lv_aload_n C.1.1 C.1.2.1 dl_329 rfl (lv_at hl 0 rfl) ?_
  refine lv_iload C.1.1 C.1.2.1 dl_330 (lv_at hl 4 rfl) ?_
  refine lv_iconst (v := 2) C.1.1 C.1.2.1 dl_332 (by decide) ?_
  refine lv_iadd C.1.1 C.1.2.1 dl_333 ?_
  refine va_sld C.1.1 C.1.2.1 hX hbl hbA hS i2 dl_334 ?_
  refine lw_go (h := h) (hm := hm) (As := [.int (xs (i + 1).toNatClampNeg), .int (xs (i + 2).toNatClampNeg)]) C c_g169 (cwV 2 C.1.2.2.2.2 (kk_gV kw_319 kw_320 kw_321 kw_1 kw_322) rfl rfl rfl (by decide +kernel) ⟨Nat.le_of_ble_eq_true rfl, Nat.le_of_ble_eq_true rfl⟩) hI (List.forall_mem_cons.mpr ⟨⟨by show (1 : Int) ≤ (f 0).toInt; omega, by show (f 0).toInt ≤ (1 : Int); omega⟩, List.forall_mem_cons.mpr ⟨hI.1 3, fun _ h => absurd h List.not_mem_nil⟩⟩) (⟨Or.inr ⟨0, List.mem_cons_self, rfl⟩, ⟨⟨_, rfl, hc0⟩, ⟨⟨_, rfl, hc1⟩, trivial⟩⟩⟩) hP hD hS rfl hl.1 rfl dl_335 hf (fun r f1 g1 H1 locs1 hq hI1 hP hD hS => ?_)
  obtain ⟨o, ho1, hr, hT⟩ := hq
  have h9 := List.all_eq_true.mp (show q_g169.2.all (fun o => ck_isN 0 o && ck_keep 0 o) = true by decide) o ho1
  simp only [Bool.and_eq_true] at h9
  obtain ⟨x, rfl, hx⟩ := ck_isN_ok h9.1 hr
  have hk := ck_keep_ok h9.2 hT
  show W p l e room_1 s m args below meth c H1 locs1 (cells + 1) (slots + 6) Q (F0 m 338 ls [.int x])
  refine lv_aload_n C.1.1 C.1.2.1 dl_338 rfl (lv_at hl 2 rfl) ?_
  refine lv_aload_n C.1.1 C.1.2.1 dl_339 rfl (lv_at hl 0 rfl) ?_
  refine lv_iload C.1.1 C.1.2.1 dl_340 (lv_at hl 4 rfl) ?_
  refine lv_iconst (v := 1) C.1.1 C.1.2.1 dl_342 (by decide) ?_
  refine lv_iadd C.1.1 C.1.2.1 dl_343 ?_
  refine va_sld C.1.1 C.1.2.1 hX hbl hbA hS i1 dl_344 ?_
  refine lv_aload_n C.1.1 C.1.2.1 dl_345 rfl (lv_at hl 0 rfl) ?_
  refine lv_iload C.1.1 C.1.2.1 dl_346 (lv_at hl 4 rfl) ?_
  refine lv_iconst (v := 2) C.1.1 C.1.2.1 dl_348 (by decide) ?_
  refine lv_iadd C.1.1 C.1.2.1 dl_349 ?_
  refine va_sld C.1.1 C.1.2.1 hX hbl hbA hS i2 dl_350 ?_
  refine lm_goR (h := h) (hm := hm) (As := [.int (xs (i + 1).toNatClampNeg), .int (xs (i + 2).toNatClampNeg)]) (rest := [.int x]) C (c_m80 xL_ok) (cwV 2 C.1.2.2.2.2 (kk_gV kw_949 kw_950 kw_951 kw_9 kw_952) rfl rfl rfl (by decide +kernel) ⟨Nat.le_of_ble_eq_true rfl, Nat.le_of_ble_eq_true rfl⟩) hJ (List.forall_mem_cons.mpr ⟨hJ.1 0, List.forall_mem_cons.mpr ⟨⟨by show (0 : Int) ≤ (fm 1).toInt; omega, by show (fm 1).toInt ≤ (0 : Int); omega⟩, List.forall_mem_cons.mpr ⟨hJ.1 3, List.forall_mem_cons.mpr ⟨hJ.1 13, List.forall_mem_cons.mpr ⟨hJ.1 22, fun _ h => absurd h List.not_mem_nil⟩⟩⟩⟩⟩) (⟨Or.inr ⟨0, List.mem_cons_self, rfl⟩, ⟨⟨_, rfl, hc0⟩, ⟨⟨_, rfl, hc1⟩, trivial⟩⟩⟩) hP hD hS rfl hl.1 rfl (Nat.le_of_ble_eq_true rfl) dl_351 hf (fun r f2 g2 H2 locs2 hq2 hJ2 hP hD hS => ?_)
  obtain ⟨o2, ho2, hr2, hT2⟩ := hq2
  have h8 := List.all_eq_true.mp (show q_m80.2.all (fun o => ck_isN 0 o && ck_keep 1 o) = true by decide) o2 ho2
  simp only [Bool.and_eq_true] at h8
  obtain ⟨x2, rfl, hx2⟩ := ck_isN_ok h8.1 hr2
  have hk2 := ck_keep_ok h8.2 hT2
  show W p l e room_1 s m args below meth c H2 locs2 (cells + 1) (slots + 6) Q (F0 m 354 ls [.int x2, .int x])
  refine lv_icmp_eq (tgt := 673) C.1.1 C.1.2.1 dl_354 (by decide) (fun _ => ?_) (fun hne => absurd (Int32.toInt_inj.mp (hx.trans hx2.symm)) hne)
  exact kk f1 _ f2 g2 H2 locs2 _ hI1 hJ2 (Or.inl ⟨by rw [hk]; exact hrel.1, by rw [hk2]; exact hrel.2⟩) hP hD hS hl
theorem lo_7_c1g171 {p : Program} {l : Launch} {e : Env} {s : State} {m : MethodId} {args : Array Value} {below : List Frame} {meth : Method} {c : Code} {H : Heap} {locs : List Loc} {cells slots : Nat} {Q : State → Prop} {D : va_G} {B : Nat} {A : Nat → Prop} {h hm : Nat → Nat} {cI cZ cJ : ClassId} {ho : Nat} {f fm : zz_F} {g gm : zz_G} {ls : Array Slot} {b L : Nat} {xs : Nat → Int32} {i : Int32} {cx : Cond} (hfl : l.flags = flags0) (C : zz_Cx p m meth c code 7 ret s args (cx :: kk_W) "NightCyclerLaw" D vN (tyN cI cZ cJ) A B (xL B h)) (hX : va_X b L xs s s.heap) (hbl : b < s.heap.size) (hbA : ¬ A b) (i1 : vp_in (i + 1) L) (i2 : vp_in (i + 2) L) (hI : ck_gI fbG gbG f g) (hJ : ck_gI fbM gbM fm gm) (hrel : (f 0).toInt = 1 ∧ (fm 1).toInt = 0) (hP : va_P D vN (wW cI cZ cJ ho h hm f g fm gm) H) (hD : va_D A (wW cI cZ cJ ho h hm f g fm gm)) (hS : va_S A s.heap H locs) (hl : lv_has ls 7 [(0, .ref b), (1, .ref (h 0)), (2, .ref (hm 0)), (3, .ref ho), (4, .int i)]) (hc0 : (2 : Int) ≤ (xs (i + 1).toNatClampNeg).toInt ∧ (xs (i + 1).toNatClampNeg).toInt ≤ (2147483647 : Int)) (hc1 : (-2147483648 : Int) ≤ (xs (i + 2).toNatClampNeg).toInt ∧ (xs (i + 2).toNatClampNeg).toInt ≤ (-5001 : Int)) (hf : cells + 1 ≤ room_1.cells ∧ slots + 6 ≤ room_1.slots) (kk : ∀ (f1 : zz_F) (g1 : zz_G) (fm1 : zz_F) (gm1 : zz_G) (H1 : Heap) (locs1 : List Loc) (ls1 : Array Slot), ck_gI fbG gbG f1 g1 → ck_gI fbM gbM fm1 gm1 → lw_rel f1 fm1 → va_P D vN (wW cI cZ cJ ho h hm f1 g1 fm1 gm1) H1 → va_D A (wW cI cZ cJ ho h hm f1 g1 fm1 gm1) → va_S A s.heap H1 locs1 → lv_has ls1 7 [(0, .ref b), (1, .ref (h 0)), (2, .ref (hm 0)), (3, .ref ho), (4, .int i)] → W p l e room_1 s m args below meth c H1 locs1 (cells + 1) (slots + 6) Q (F0 m 673 ls1 [])) : W p l e room_1 s m args below meth c H locs cells slots Q (F0 m 322 ls []) := by
  refine W.widen (k := cells + 1) (n := slots + 6) (Nat.le_succ _) (Nat.le_add_right _ _) ?_
  refine lv_aload_n C.1.1 C.1.2.1 dl_322 rfl (lv_at hl 1 rfl) ?_
  refine lv_aload_n C.1.1 C.1.2.1 dl_323 rfl (lv_at hl 0 rfl) ?_
  refine lv_iload C.1.1 C.1.2.1 dl_324 (lv_at hl 4 rfl) ?_
  refine lv_iconst (v := 1) C.1.1 C.1.2.1 dl_326 (by decide) ?_
  refine lv_iadd C.1.1 C.1.2.1 dl_327 ?_
  refine va_sld C.1.1 C.1.2.1 hX hbl hbA hS i1 dl_328 ?_
  refine lv_aload_n C.1.1 C.1.2.1 dl_329 rfl (lv_at hl 0 rfl) ?_
  refine lv_iload C.1.1 C.1.2.1 dl_330 (lv_at hl 4 rfl) ?_
  refine lv_iconst (v := 2) C.1.1 C.1.2.1 dl_332 (by decide) ?_
  refine lv_iadd C.1.1 C.1.2.1 dl_333 ?_
  refine va_sld C.1.1 C.1.2.1 hX hbl hbA hS i2 dl_334 ?_
  refine lw_go (h := h) (hm := hm) (As := [.int (xs (i + 1).toNatClampNeg), .int (xs (i + 2).toNatClampNeg)]) C c_g171 (cwV 2 C.1.2.2.2.2 (kk_gV kw_319 kw_320 kw_321 kw_1 kw_322) rfl rfl rfl (by decide +kernel) ⟨Nat.le_of_ble_eq_true rfl, Nat.le_of_ble_eq_true rfl⟩) hI (List.forall_mem_cons.mpr ⟨⟨by show (1 : Int) ≤ (f 0).toInt; omega, by show (f 0).toInt ≤ (1 : Int); omega⟩, List.forall_mem_cons.mpr ⟨hI.1 3, fun _ h => absurd h List.not_mem_nil⟩⟩) (⟨Or.inr ⟨0, List.mem_cons_self, rfl⟩, ⟨⟨_, rfl, hc0⟩, ⟨⟨_, rfl, hc1⟩, trivial⟩⟩⟩) hP hD hS rfl hl.1 rfl dl_335 hf (fun r f1 g1 H1 locs1 hq hI1 hP hD hS => ?_)
  obtain ⟨o, ho1, hr, hT⟩ := hq
  have h9 := List.all_eq_true.mp (show q_g171.2.all (fun o => ck_isN 0 o && ck_keep 0 o) = true by decide) o ho1
  simp only [Bool.and_eq_true] at h9
  obtain ⟨x, rfl, hx⟩ := ck_isN_ok h9.1 hr
  have hk := ck_keep_ok h9.2 hT
  show W p l e room_1 s m args below meth c H1 locs1 (cells + 1) (slots + 6) Q (F0 m 338 ls [.int x])
  refine lv_aload_n C.1.1 C.1.2.1 dl_338 rfl (lv_at hl 2 rfl) ?_
  refine lv_aload_n C.1.1 C.1.2.1 dl_339 rfl (lv_at hl 0 rfl) ?_
  refine lv_iload C.1.1 C.1.2.1 dl_340 (lv_at hl 4 rfl) ?_
  refine lv_iconst (v := 1) C.1.1 C.1.2.1 dl_342 (by decide) ?_
  refine lv_iadd C.1.1 C.1.2.1 dl_343 ?_
  refine va_sld C.1.1 C.1.2.1 hX hbl hbA hS i1 dl_344 ?_
  refine lv_aload_n C.1.1 C.1.2.1 dl_345 rfl (lv_at hl 0 rfl) ?_
  refine lv_iload C.1.1 C.1.2.1 dl_346 (lv_at hl 4 rfl) ?_
  refine lv_iconst (v := 2) C.1.1 C.1.2.1 dl_348 (by decide) ?_
  refine lv_iadd C.1.1 C.1.2.1 dl_349 ?_
  refine va_sld C.1.1 C.1.2.1 hX hbl hbA hS i2 dl_350 ?_
  refine lm_goR (h := h) (hm := hm) (As := [.int (xs (i + 1).toNatClampNeg), .int (xs (i + 2).toNatClampNeg)]) (rest := [.int x]) C (c_m81 xL_ok) (cwV 2 C.1.2.2.2.2 (kk_gV kw_949 kw_950 kw_951 kw_9 kw_952) rfl rfl rfl (by decide +kernel) ⟨Nat.le_of_ble_eq_true rfl, Nat.le_of_ble_eq_true rfl⟩) hJ (List.forall_mem_cons.mpr ⟨hJ.1 0, List.forall_mem_cons.mpr ⟨⟨by show (0 : Int) ≤ (fm 1).toInt; omega, by show (fm 1).toInt ≤ (0 : Int); omega⟩, List.forall_mem_cons.mpr ⟨hJ.1 3, List.forall_mem_cons.mpr ⟨hJ.1 13, List.forall_mem_cons.mpr ⟨hJ.1 22, fun _ h => absurd h List.not_mem_nil⟩⟩⟩⟩⟩) (⟨Or.inr ⟨0, List.mem_cons_self, rfl⟩, ⟨⟨_, rfl, hc0⟩, ⟨⟨_, rfl, hc1⟩, trivial⟩⟩⟩) hP hD hS rfl hl.1 rfl (Nat.le_of_ble_eq_true rfl) dl_351 hf (fun r f2 g2 H2 locs2 hq2 hJ2 hP hD hS => ?_)
  obtain ⟨o2, ho2, hr2, hT2⟩ := hq2
  have h8 := List.all_eq_true.mp (show q_m81.2.all (fun o => ck_isN 0 o && ck_keep 1 o) = true by decide) o2 ho2
  simp only [Bool.and_eq_true] at h8
  obtain ⟨x2, rfl, hx2⟩ := ck_isN_ok h8.1 hr2
  have hk2 := ck_keep_ok h8.2 hT2
  show W p l e room_1 s m args below meth c H2 locs2 (cells + 1) (slots + 6) Q (F0 m 354 ls [.int x2, .int x])
  refine lv_icmp_eq (tgt := 673) C.1.1 C.1.2.1 dl_354 (by decide) (fun _ => ?_) (fun hne => absurd (Int32.toInt_inj.mp (hx.trans hx2.symm)) hne)
  exact kk f1 _ f2 g2 H2 locs2 _ hI1 hJ2 (Or.inl ⟨by rw [hk]; exact hrel.1, by rw [hk2]; exact hrel.2⟩) hP hD hS hl
theorem lo_7_c1g173 {p : Program} {l : Launch} {e : Env} {s : State} {m : MethodId} {args : Array Value} {below : List Frame} {meth : Method} {c : Code} {H : Heap} {locs : List Loc} {cells slots : Nat} {Q : State → Prop} {D : va_G} {B : Nat} {A : Nat → Prop} {h hm : Nat → Nat} {cI cZ cJ : ClassId} {ho : Nat} {f fm : zz_F} {g gm : zz_G} {ls : Array Slot} {b L : Nat} {xs : Nat → Int32} {i : Int32} {cx : Cond} (hfl : l.flags = flags0) (C : zz_Cx p m meth c code 7 ret s args (cx :: kk_W) "NightCyclerLaw" D vN (tyN cI cZ cJ) A B (xL B h)) (hX : va_X b L xs s s.heap) (hbl : b < s.heap.size) (hbA : ¬ A b) (i1 : vp_in (i + 1) L) (i2 : vp_in (i + 2) L) (hI : ck_gI fbG gbG f g) (hJ : ck_gI fbM gbM fm gm) (hrel : (f 0).toInt = 1 ∧ (fm 1).toInt = 0) (hP : va_P D vN (wW cI cZ cJ ho h hm f g fm gm) H) (hD : va_D A (wW cI cZ cJ ho h hm f g fm gm)) (hS : va_S A s.heap H locs) (hl : lv_has ls 7 [(0, .ref b), (1, .ref (h 0)), (2, .ref (hm 0)), (3, .ref ho), (4, .int i)]) (hc0 : (2 : Int) ≤ (xs (i + 1).toNatClampNeg).toInt ∧ (xs (i + 1).toNatClampNeg).toInt ≤ (2147483647 : Int)) (hc1 : (-5000 : Int) ≤ (xs (i + 2).toNatClampNeg).toInt ∧ (xs (i + 2).toNatClampNeg).toInt ≤ (10000 : Int)) (hf : cells + 1 ≤ room_1.cells ∧ slots + 6 ≤ room_1.slots) (kk : ∀ (f1 : zz_F) (g1 : zz_G) (fm1 : zz_F) (gm1 : zz_G) (H1 : Heap) (locs1 : List Loc) (ls1 : Array Slot), ck_gI fbG gbG f1 g1 → ck_gI fbM gbM fm1 gm1 → lw_rel f1 fm1 → va_P D vN (wW cI cZ cJ ho h hm f1 g1 fm1 gm1) H1 → va_D A (wW cI cZ cJ ho h hm f1 g1 fm1 gm1) → va_S A s.heap H1 locs1 → lv_has ls1 7 [(0, .ref b), (1, .ref (h 0)), (2, .ref (hm 0)), (3, .ref ho), (4, .int i)] → W p l e room_1 s m args below meth c H1 locs1 (cells + 1) (slots + 6) Q (F0 m 673 ls1 [])) : W p l e room_1 s m args below meth c H locs cells slots Q (F0 m 322 ls []) := by
  refine W.widen (k := cells + 1) (n := slots + 6) (Nat.le_succ _) (Nat.le_add_right _ _) ?_
  refine lv_aload_n C.1.1 C.1.2.1 dl_322 rfl (lv_at hl 1 rfl) ?_
  refine lv_aload_n C.1.1 C.1.2.1 dl_323 rfl (lv_at hl 0 rfl) ?_
  refine lv_iload C.1.1 C.1.2.1 dl_324 (lv_at hl 4 rfl) ?_
  refine lv_iconst (v := 1) C.1.1 C.1.2.1 dl_326 (by decide) ?_
  refine lv_iadd C.1.1 C.1.2.1 dl_327 ?_
  refine va_sld C.1.1 C.1.2.1 hX hbl hbA hS i1 dl_328 ?_
  refine lv_aload_n C.1.1 C.1.2.1 dl_329 rfl (lv_at hl 0 rfl) ?_
  refine lv_iload C.1.1 C.1.2.1 dl_330 (lv_at hl 4 rfl) ?_
  refine lv_iconst (v := 2) C.1.1 C.1.2.1 dl_332 (by decide) ?_
  refine lv_iadd C.1.1 C.1.2.1 dl_333 ?_
  refine va_sld C.1.1 C.1.2.1 hX hbl hbA hS i2 dl_334 ?_
  refine lw_go (h := h) (hm := hm) (As := [.int (xs (i + 1).toNatClampNeg), .int (xs (i + 2).toNatClampNeg)]) C c_g173 (cwV 2 C.1.2.2.2.2 (kk_gV kw_319 kw_320 kw_321 kw_1 kw_322) rfl rfl rfl (by decide +kernel) ⟨Nat.le_of_ble_eq_true rfl, Nat.le_of_ble_eq_true rfl⟩) hI (List.forall_mem_cons.mpr ⟨⟨by show (1 : Int) ≤ (f 0).toInt; omega, by show (f 0).toInt ≤ (1 : Int); omega⟩, List.forall_mem_cons.mpr ⟨hI.1 3, fun _ h => absurd h List.not_mem_nil⟩⟩) (⟨Or.inr ⟨0, List.mem_cons_self, rfl⟩, ⟨⟨_, rfl, hc0⟩, ⟨⟨_, rfl, hc1⟩, trivial⟩⟩⟩) hP hD hS rfl hl.1 rfl dl_335 hf (fun r f1 g1 H1 locs1 hq hI1 hP hD hS => ?_)
  obtain ⟨o, ho1, hr, hT⟩ := hq
  have h9 := List.all_eq_true.mp (show q_g173.2.all (fun o => ck_isN 0 o && ck_keep 0 o) = true by decide) o ho1
  simp only [Bool.and_eq_true] at h9
  obtain ⟨x, rfl, hx⟩ := ck_isN_ok h9.1 hr
  have hk := ck_keep_ok h9.2 hT
  show W p l e room_1 s m args below meth c H1 locs1 (cells + 1) (slots + 6) Q (F0 m 338 ls [.int x])
  refine lv_aload_n C.1.1 C.1.2.1 dl_338 rfl (lv_at hl 2 rfl) ?_
  refine lv_aload_n C.1.1 C.1.2.1 dl_339 rfl (lv_at hl 0 rfl) ?_
  refine lv_iload C.1.1 C.1.2.1 dl_340 (lv_at hl 4 rfl) ?_
  refine lv_iconst (v := 1) C.1.1 C.1.2.1 dl_342 (by decide) ?_
  refine lv_iadd C.1.1 C.1.2.1 dl_343 ?_
  refine va_sld C.1.1 C.1.2.1 hX hbl hbA hS i1 dl_344 ?_
  refine lv_aload_n C.1.1 C.1.2.1 dl_345 rfl (lv_at hl 0 rfl) ?_
  refine lv_iload C.1.1 C.1.2.1 dl_346 (lv_at hl 4 rfl) ?_
  refine lv_iconst (v := 2) C.1.1 C.1.2.1 dl_348 (by decide) ?_
  refine lv_iadd C.1.1 C.1.2.1 dl_349 ?_
  refine va_sld C.1.1 C.1.2.1 hX hbl hbA hS i2 dl_350 ?_
  refine lm_goR (h := h) (hm := hm) (As := [.int (xs (i + 1).toNatClampNeg), .int (xs (i + 2).toNatClampNeg)]) (rest := [.int x]) C (c_m82 xL_ok) (cwV 2 C.1.2.2.2.2 (kk_gV kw_949 kw_950 kw_951 kw_9 kw_952) rfl rfl rfl (by decide +kernel) ⟨Nat.le_of_ble_eq_true rfl, Nat.le_of_ble_eq_true rfl⟩) hJ (List.forall_mem_cons.mpr ⟨hJ.1 0, List.forall_mem_cons.mpr ⟨⟨by show (0 : Int) ≤ (fm 1).toInt; omega, by show (fm 1).toInt ≤ (0 : Int); omega⟩, List.forall_mem_cons.mpr ⟨hJ.1 3, List.forall_mem_cons.mpr ⟨hJ.1 13, List.forall_mem_cons.mpr ⟨hJ.1 22, fun _ h => absurd h List.not_mem_nil⟩⟩⟩⟩⟩) (⟨Or.inr ⟨0, List.mem_cons_self, rfl⟩, ⟨⟨_, rfl, hc0⟩, ⟨⟨_, rfl, hc1⟩, trivial⟩⟩⟩) hP hD hS rfl hl.1 rfl (Nat.le_of_ble_eq_true rfl) dl_351 hf (fun r f2 g2 H2 locs2 hq2 hJ2 hP hD hS => ?_)
  obtain ⟨o2, ho2, hr2, hT2⟩ := hq2
  have h8 := List.all_eq_true.mp (show q_m82.2.all (fun o => ck_isN 0 o && ck_keep 1 o) = true by decide) o2 ho2
  simp only [Bool.and_eq_true] at h8
  obtain ⟨x2, rfl, hx2⟩ := ck_isN_ok h8.1 hr2
  have hk2 := ck_keep_ok h8.2 hT2
  show W p l e room_1 s m args below meth c H2 locs2 (cells + 1) (slots + 6) Q (F0 m 354 ls [.int x2, .int x])
  refine lv_icmp_eq (tgt := 673) C.1.1 C.1.2.1 dl_354 (by decide) (fun _ => ?_) (fun hne => absurd (Int32.toInt_inj.mp (hx.trans hx2.symm)) hne)
  exact kk f1 _ f2 g2 H2 locs2 _ hI1 hJ2 (Or.inl ⟨by rw [hk]; exact hrel.1, by rw [hk2]; exact hrel.2⟩) hP hD hS hl
theorem lo_7_c1g175 {p : Program} {l : Launch} {e : Env} {s : State} {m : MethodId} {args : Array Value} {below : List Frame} {meth : Method} {c : Code} {H : Heap} {locs : List Loc} {cells slots : Nat} {Q : State → Prop} {D : va_G} {B : Nat} {A : Nat → Prop} {h hm : Nat → Nat} {cI cZ cJ : ClassId} {ho : Nat} {f fm : zz_F} {g gm : zz_G} {ls : Array Slot} {b L : Nat} {xs : Nat → Int32} {i : Int32} {cx : Cond} (hfl : l.flags = flags0) (C : zz_Cx p m meth c code 7 ret s args (cx :: kk_W) "NightCyclerLaw" D vN (tyN cI cZ cJ) A B (xL B h)) (hX : va_X b L xs s s.heap) (hbl : b < s.heap.size) (hbA : ¬ A b) (i1 : vp_in (i + 1) L) (i2 : vp_in (i + 2) L) (hI : ck_gI fbG gbG f g) (hJ : ck_gI fbM gbM fm gm) (hrel : (f 0).toInt = 1 ∧ (fm 1).toInt = 0) (hP : va_P D vN (wW cI cZ cJ ho h hm f g fm gm) H) (hD : va_D A (wW cI cZ cJ ho h hm f g fm gm)) (hS : va_S A s.heap H locs) (hl : lv_has ls 7 [(0, .ref b), (1, .ref (h 0)), (2, .ref (hm 0)), (3, .ref ho), (4, .int i)]) (hc0 : (2 : Int) ≤ (xs (i + 1).toNatClampNeg).toInt ∧ (xs (i + 1).toNatClampNeg).toInt ≤ (2147483647 : Int)) (hc1 : (10001 : Int) ≤ (xs (i + 2).toNatClampNeg).toInt ∧ (xs (i + 2).toNatClampNeg).toInt ≤ (2147483647 : Int)) (hf : cells + 1 ≤ room_1.cells ∧ slots + 6 ≤ room_1.slots) (kk : ∀ (f1 : zz_F) (g1 : zz_G) (fm1 : zz_F) (gm1 : zz_G) (H1 : Heap) (locs1 : List Loc) (ls1 : Array Slot), ck_gI fbG gbG f1 g1 → ck_gI fbM gbM fm1 gm1 → lw_rel f1 fm1 → va_P D vN (wW cI cZ cJ ho h hm f1 g1 fm1 gm1) H1 → va_D A (wW cI cZ cJ ho h hm f1 g1 fm1 gm1) → va_S A s.heap H1 locs1 → lv_has ls1 7 [(0, .ref b), (1, .ref (h 0)), (2, .ref (hm 0)), (3, .ref ho), (4, .int i)] → W p l e room_1 s m args below meth c H1 locs1 (cells + 1) (slots + 6) Q (F0 m 673 ls1 [])) : W p l e room_1 s m args below meth c H locs cells slots Q (F0 m 322 ls []) := by
  refine W.widen (k := cells + 1) (n := slots + 6) (Nat.le_succ _) (Nat.le_add_right _ _) ?_
  refine lv_aload_n C.1.1 C.1.2.1 dl_322 rfl (lv_at hl 1 rfl) ?_
  refine lv_aload_n C.1.1 C.1.2.1 dl_323 rfl (lv_at hl 0 rfl) ?_
  refine lv_iload C.1.1 C.1.2.1 dl_324 (lv_at hl 4 rfl) ?_
  refine lv_iconst (v := 1) C.1.1 C.1.2.1 dl_326 (by decide) ?_
  refine lv_iadd C.1.1 C.1.2.1 dl_327 ?_
  refine va_sld C.1.1 C.1.2.1 hX hbl hbA hS i1 dl_328 ?_
  refine lv_aload_n C.1.1 C.1.2.1 dl_329 rfl (lv_at hl 0 rfl) ?_
  refine lv_iload C.1.1 C.1.2.1 dl_330 (lv_at hl 4 rfl) ?_
  refine lv_iconst (v := 2) C.1.1 C.1.2.1 dl_332 (by decide) ?_
  refine lv_iadd C.1.1 C.1.2.1 dl_333 ?_
  refine va_sld C.1.1 C.1.2.1 hX hbl hbA hS i2 dl_334 ?_
  refine lw_go (h := h) (hm := hm) (As := [.int (xs (i + 1).toNatClampNeg), .int (xs (i + 2).toNatClampNeg)]) C c_g175 (cwV 2 C.1.2.2.2.2 (kk_gV kw_319 kw_320 kw_321 kw_1 kw_322) rfl rfl rfl (by decide +kernel) ⟨Nat.le_of_ble_eq_true rfl, Nat.le_of_ble_eq_true rfl⟩) hI (List.forall_mem_cons.mpr ⟨⟨by show (1 : Int) ≤ (f 0).toInt; omega, by show (f 0).toInt ≤ (1 : Int); omega⟩, List.forall_mem_cons.mpr ⟨hI.1 3, fun _ h => absurd h List.not_mem_nil⟩⟩) (⟨Or.inr ⟨0, List.mem_cons_self, rfl⟩, ⟨⟨_, rfl, hc0⟩, ⟨⟨_, rfl, hc1⟩, trivial⟩⟩⟩) hP hD hS rfl hl.1 rfl dl_335 hf (fun r f1 g1 H1 locs1 hq hI1 hP hD hS => ?_)
  obtain ⟨o, ho1, hr, hT⟩ := hq
  have h9 := List.all_eq_true.mp (show q_g175.2.all (fun o => ck_isN 0 o && ck_keep 0 o) = true by decide) o ho1
  simp only [Bool.and_eq_true] at h9
  obtain ⟨x, rfl, hx⟩ := ck_isN_ok h9.1 hr
  have hk := ck_keep_ok h9.2 hT
  show W p l e room_1 s m args below meth c H1 locs1 (cells + 1) (slots + 6) Q (F0 m 338 ls [.int x])
  refine lv_aload_n C.1.1 C.1.2.1 dl_338 rfl (lv_at hl 2 rfl) ?_
  refine lv_aload_n C.1.1 C.1.2.1 dl_339 rfl (lv_at hl 0 rfl) ?_
  refine lv_iload C.1.1 C.1.2.1 dl_340 (lv_at hl 4 rfl) ?_
  refine lv_iconst (v := 1) C.1.1 C.1.2.1 dl_342 (by decide) ?_
  refine lv_iadd C.1.1 C.1.2.1 dl_343 ?_
  refine va_sld C.1.1 C.1.2.1 hX hbl hbA hS i1 dl_344 ?_
  refine lv_aload_n C.1.1 C.1.2.1 dl_345 rfl (lv_at hl 0 rfl) ?_
  refine lv_iload C.1.1 C.1.2.1 dl_346 (lv_at hl 4 rfl) ?_
  refine lv_iconst (v := 2) C.1.1 C.1.2.1 dl_348 (by decide) ?_
  refine lv_iadd C.1.1 C.1.2.1 dl_349 ?_
  refine va_sld C.1.1 C.1.2.1 hX hbl hbA hS i2 dl_350 ?_
  refine lm_goR (h := h) (hm := hm) (As := [.int (xs (i + 1).toNatClampNeg), .int (xs (i + 2).toNatClampNeg)]) (rest := [.int x]) C (c_m83 xL_ok) (cwV 2 C.1.2.2.2.2 (kk_gV kw_949 kw_950 kw_951 kw_9 kw_952) rfl rfl rfl (by decide +kernel) ⟨Nat.le_of_ble_eq_true rfl, Nat.le_of_ble_eq_true rfl⟩) hJ (List.forall_mem_cons.mpr ⟨hJ.1 0, List.forall_mem_cons.mpr ⟨⟨by show (0 : Int) ≤ (fm 1).toInt; omega, by show (fm 1).toInt ≤ (0 : Int); omega⟩, List.forall_mem_cons.mpr ⟨hJ.1 3, List.forall_mem_cons.mpr ⟨hJ.1 13, List.forall_mem_cons.mpr ⟨hJ.1 22, fun _ h => absurd h List.not_mem_nil⟩⟩⟩⟩⟩) (⟨Or.inr ⟨0, List.mem_cons_self, rfl⟩, ⟨⟨_, rfl, hc0⟩, ⟨⟨_, rfl, hc1⟩, trivial⟩⟩⟩) hP hD hS rfl hl.1 rfl (Nat.le_of_ble_eq_true rfl) dl_351 hf (fun r f2 g2 H2 locs2 hq2 hJ2 hP hD hS => ?_)
  obtain ⟨o2, ho2, hr2, hT2⟩ := hq2
  have h8 := List.all_eq_true.mp (show q_m83.2.all (fun o => ck_isN 0 o && ck_keep 1 o) = true by decide) o2 ho2
  simp only [Bool.and_eq_true] at h8
  obtain ⟨x2, rfl, hx2⟩ := ck_isN_ok h8.1 hr2
  have hk2 := ck_keep_ok h8.2 hT2
  show W p l e room_1 s m args below meth c H2 locs2 (cells + 1) (slots + 6) Q (F0 m 354 ls [.int x2, .int x])
  refine lv_icmp_eq (tgt := 673) C.1.1 C.1.2.1 dl_354 (by decide) (fun _ => ?_) (fun hne => absurd (Int32.toInt_inj.mp (hx.trans hx2.symm)) hne)
  exact kk f1 _ f2 g2 H2 locs2 _ hI1 hJ2 (Or.inl ⟨by rw [hk]; exact hrel.1, by rw [hk2]; exact hrel.2⟩) hP hD hS hl
theorem lo_7 {p : Program} {l : Launch} {e : Env} {s : State} {m : MethodId} {args : Array Value} {below : List Frame} {meth : Method} {c : Code} {H : Heap} {locs : List Loc} {cells slots : Nat} {Q : State → Prop} {D : va_G} {B : Nat} {A : Nat → Prop} {h hm : Nat → Nat} {cI cZ cJ : ClassId} {ho : Nat} {f fm : zz_F} {g gm : zz_G} {ls : Array Slot} {b L : Nat} {xs : Nat → Int32} {i : Int32} {cx : Cond} (hfl : l.flags = flags0) (C : zz_Cx p m meth c code 7 ret s args (cx :: kk_W) "NightCyclerLaw" D vN (tyN cI cZ cJ) A B (xL B h)) (hX : va_X b L xs s s.heap) (hbl : b < s.heap.size) (hbA : ¬ A b) (i1 : vp_in (i + 1) L) (i2 : vp_in (i + 2) L) (hI : ck_gI fbG gbG f g) (hJ : ck_gI fbM gbM fm gm) (hrel : lw_rel f fm) (hP : va_P D vN (wW cI cZ cJ ho h hm f g fm gm) H) (hD : va_D A (wW cI cZ cJ ho h hm f g fm gm)) (hS : va_S A s.heap H locs) (hl : lv_has ls 7 [(0, .ref b), (1, .ref (h 0)), (2, .ref (hm 0)), (3, .ref ho), (4, .int i)]) (hf : cells + 1 ≤ room_1.cells ∧ slots + 6 ≤ room_1.slots) (kk : ∀ (f1 : zz_F) (g1 : zz_G) (fm1 : zz_F) (gm1 : zz_G) (H1 : Heap) (locs1 : List Loc) (ls1 : Array Slot), ck_gI fbG gbG f1 g1 → ck_gI fbM gbM fm1 gm1 → lw_rel f1 fm1 → va_P D vN (wW cI cZ cJ ho h hm f1 g1 fm1 gm1) H1 → va_D A (wW cI cZ cJ ho h hm f1 g1 fm1 gm1) → va_S A s.heap H1 locs1 → lv_has ls1 7 [(0, .ref b), (1, .ref (h 0)), (2, .ref (hm 0)), (3, .ref ho), (4, .int i)] → W p l e room_1 s m args below meth c H1 locs1 (cells + 1) (slots + 6) Q (F0 m 673 ls1 [])) : W p l e room_1 s m args below meth c H locs cells slots Q (F0 m 322 ls []) := by
  have hlo0 := i32_lo (xs (i + 1).toNatClampNeg)
  have hhi0 := i32_hi (xs (i + 1).toNatClampNeg)
  have hlo1 := i32_lo (xs (i + 2).toNatClampNeg)
  have hhi1 := i32_hi (xs (i + 2).toNatClampNeg)
  rcases hrel with hrel | hrel
  · rcases (show (((-2147483648 : Int) ≤ (xs (i + 1).toNatClampNeg).toInt ∧ (xs (i + 1).toNatClampNeg).toInt ≤ (-1 : Int)) ∧ ((-2147483648 : Int) ≤ (xs (i + 2).toNatClampNeg).toInt ∧ (xs (i + 2).toNatClampNeg).toInt ≤ (-5001 : Int))) ∨ (((-2147483648 : Int) ≤ (xs (i + 1).toNatClampNeg).toInt ∧ (xs (i + 1).toNatClampNeg).toInt ≤ (-1 : Int)) ∧ ((-5000 : Int) ≤ (xs (i + 2).toNatClampNeg).toInt ∧ (xs (i + 2).toNatClampNeg).toInt ≤ (10000 : Int))) ∨ (((-2147483648 : Int) ≤ (xs (i + 1).toNatClampNeg).toInt ∧ (xs (i + 1).toNatClampNeg).toInt ≤ (-1 : Int)) ∧ ((10001 : Int) ≤ (xs (i + 2).toNatClampNeg).toInt ∧ (xs (i + 2).toNatClampNeg).toInt ≤ (2147483647 : Int))) ∨ (((0 : Int) ≤ (xs (i + 1).toNatClampNeg).toInt ∧ (xs (i + 1).toNatClampNeg).toInt ≤ (1 : Int)) ∧ ((-2147483648 : Int) ≤ (xs (i + 2).toNatClampNeg).toInt ∧ (xs (i + 2).toNatClampNeg).toInt ≤ (-5001 : Int))) ∨ (((0 : Int) ≤ (xs (i + 1).toNatClampNeg).toInt ∧ (xs (i + 1).toNatClampNeg).toInt ≤ (1 : Int)) ∧ ((-5000 : Int) ≤ (xs (i + 2).toNatClampNeg).toInt ∧ (xs (i + 2).toNatClampNeg).toInt ≤ (10000 : Int))) ∨ (((0 : Int) ≤ (xs (i + 1).toNatClampNeg).toInt ∧ (xs (i + 1).toNatClampNeg).toInt ≤ (1 : Int)) ∧ ((10001 : Int) ≤ (xs (i + 2).toNatClampNeg).toInt ∧ (xs (i + 2).toNatClampNeg).toInt ≤ (2147483647 : Int))) ∨ (((2 : Int) ≤ (xs (i + 1).toNatClampNeg).toInt ∧ (xs (i + 1).toNatClampNeg).toInt ≤ (2147483647 : Int)) ∧ ((-2147483648 : Int) ≤ (xs (i + 2).toNatClampNeg).toInt ∧ (xs (i + 2).toNatClampNeg).toInt ≤ (-5001 : Int))) ∨ (((2 : Int) ≤ (xs (i + 1).toNatClampNeg).toInt ∧ (xs (i + 1).toNatClampNeg).toInt ≤ (2147483647 : Int)) ∧ ((-5000 : Int) ≤ (xs (i + 2).toNatClampNeg).toInt ∧ (xs (i + 2).toNatClampNeg).toInt ≤ (10000 : Int))) ∨ (((2 : Int) ≤ (xs (i + 1).toNatClampNeg).toInt ∧ (xs (i + 1).toNatClampNeg).toInt ≤ (2147483647 : Int)) ∧ ((10001 : Int) ≤ (xs (i + 2).toNatClampNeg).toInt ∧ (xs (i + 2).toNatClampNeg).toInt ≤ (2147483647 : Int))) by omega) with ⟨hc0, hc1⟩ | ⟨hc0, hc1⟩ | ⟨hc0, hc1⟩ | ⟨hc0, hc1⟩ | ⟨hc0, hc1⟩ | ⟨hc0, hc1⟩ | ⟨hc0, hc1⟩ | ⟨hc0, hc1⟩ | ⟨hc0, hc1⟩
    · exact lo_7_c1g159 hfl C hX hbl hbA i1 i2 hI hJ hrel hP hD hS hl hc0 hc1 hf kk
    · exact lo_7_c1g161 hfl C hX hbl hbA i1 i2 hI hJ hrel hP hD hS hl hc0 hc1 hf kk
    · exact lo_7_c1g163 hfl C hX hbl hbA i1 i2 hI hJ hrel hP hD hS hl hc0 hc1 hf kk
    · exact lo_7_c1g165 hfl C hX hbl hbA i1 i2 hI hJ hrel hP hD hS hl hc0 hc1 hf kk
    · exact lo_7_c1g167 hfl C hX hbl hbA i1 i2 hI hJ hrel hP hD hS hl hc0 hc1 hf kk
    · exact lo_7_c1g169 hfl C hX hbl hbA i1 i2 hI hJ hrel hP hD hS hl hc0 hc1 hf kk
    · exact lo_7_c1g171 hfl C hX hbl hbA i1 i2 hI hJ hrel hP hD hS hl hc0 hc1 hf kk
    · exact lo_7_c1g173 hfl C hX hbl hbA i1 i2 hI hJ hrel hP hD hS hl hc0 hc1 hf kk
    · exact lo_7_c1g175 hfl C hX hbl hbA i1 i2 hI hJ hrel hP hD hS hl hc0 hc1 hf kk
  · rcases (show (((-2147483648 : Int) ≤ (xs (i + 1).toNatClampNeg).toInt ∧ (xs (i + 1).toNatClampNeg).toInt ≤ (-1 : Int)) ∧ ((-2147483648 : Int) ≤ (xs (i + 2).toNatClampNeg).toInt ∧ (xs (i + 2).toNatClampNeg).toInt ≤ (-5001 : Int))) ∨ (((-2147483648 : Int) ≤ (xs (i + 1).toNatClampNeg).toInt ∧ (xs (i + 1).toNatClampNeg).toInt ≤ (-1 : Int)) ∧ ((-5000 : Int) ≤ (xs (i + 2).toNatClampNeg).toInt ∧ (xs (i + 2).toNatClampNeg).toInt ≤ (10000 : Int))) ∨ (((-2147483648 : Int) ≤ (xs (i + 1).toNatClampNeg).toInt ∧ (xs (i + 1).toNatClampNeg).toInt ≤ (-1 : Int)) ∧ ((10001 : Int) ≤ (xs (i + 2).toNatClampNeg).toInt ∧ (xs (i + 2).toNatClampNeg).toInt ≤ (2147483647 : Int))) ∨ (((0 : Int) ≤ (xs (i + 1).toNatClampNeg).toInt ∧ (xs (i + 1).toNatClampNeg).toInt ≤ (1 : Int)) ∧ ((-2147483648 : Int) ≤ (xs (i + 2).toNatClampNeg).toInt ∧ (xs (i + 2).toNatClampNeg).toInt ≤ (-5001 : Int))) ∨ (((0 : Int) ≤ (xs (i + 1).toNatClampNeg).toInt ∧ (xs (i + 1).toNatClampNeg).toInt ≤ (1 : Int)) ∧ ((-5000 : Int) ≤ (xs (i + 2).toNatClampNeg).toInt ∧ (xs (i + 2).toNatClampNeg).toInt ≤ (10000 : Int))) ∨ (((0 : Int) ≤ (xs (i + 1).toNatClampNeg).toInt ∧ (xs (i + 1).toNatClampNeg).toInt ≤ (1 : Int)) ∧ ((10001 : Int) ≤ (xs (i + 2).toNatClampNeg).toInt ∧ (xs (i + 2).toNatClampNeg).toInt ≤ (2147483647 : Int))) ∨ (((2 : Int) ≤ (xs (i + 1).toNatClampNeg).toInt ∧ (xs (i + 1).toNatClampNeg).toInt ≤ (2147483647 : Int)) ∧ ((-2147483648 : Int) ≤ (xs (i + 2).toNatClampNeg).toInt ∧ (xs (i + 2).toNatClampNeg).toInt ≤ (-5001 : Int))) ∨ (((2 : Int) ≤ (xs (i + 1).toNatClampNeg).toInt ∧ (xs (i + 1).toNatClampNeg).toInt ≤ (2147483647 : Int)) ∧ ((-5000 : Int) ≤ (xs (i + 2).toNatClampNeg).toInt ∧ (xs (i + 2).toNatClampNeg).toInt ≤ (10000 : Int))) ∨ (((2 : Int) ≤ (xs (i + 1).toNatClampNeg).toInt ∧ (xs (i + 1).toNatClampNeg).toInt ≤ (2147483647 : Int)) ∧ ((10001 : Int) ≤ (xs (i + 2).toNatClampNeg).toInt ∧ (xs (i + 2).toNatClampNeg).toInt ≤ (2147483647 : Int))) by omega) with ⟨hc0, hc1⟩ | ⟨hc0, hc1⟩ | ⟨hc0, hc1⟩ | ⟨hc0, hc1⟩ | ⟨hc0, hc1⟩ | ⟨hc0, hc1⟩ | ⟨hc0, hc1⟩ | ⟨hc0, hc1⟩ | ⟨hc0, hc1⟩
    · exact lo_7_c0g141 hfl C hX hbl hbA i1 i2 hI hJ hrel hP hD hS hl hc0 hc1 hf kk
    · exact lo_7_c0g142 hfl C hX hbl hbA i1 i2 hI hJ hrel hP hD hS hl hc0 hc1 hf kk
    · exact lo_7_c0g143 hfl C hX hbl hbA i1 i2 hI hJ hrel hP hD hS hl hc0 hc1 hf kk
    · exact lo_7_c0g144 hfl C hX hbl hbA i1 i2 hI hJ hrel hP hD hS hl hc0 hc1 hf kk
    · exact lo_7_c0g145 hfl C hX hbl hbA i1 i2 hI hJ hrel hP hD hS hl hc0 hc1 hf kk
    · exact lo_7_c0g146 hfl C hX hbl hbA i1 i2 hI hJ hrel hP hD hS hl hc0 hc1 hf kk
    · exact lo_7_c0g147 hfl C hX hbl hbA i1 i2 hI hJ hrel hP hD hS hl hc0 hc1 hf kk
    · exact lo_7_c0g148 hfl C hX hbl hbA i1 i2 hI hJ hrel hP hD hS hl hc0 hc1 hf kk
    · exact lo_7_c0g149 hfl C hX hbl hbA i1 i2 hI hJ hrel hP hD hS hl hc0 hc1 hf kk
theorem lo_8_m {p : Program} {l : Launch} {e : Env} {s : State} {m : MethodId} {args : Array Value} {below : List Frame} {meth : Method} {c : Code} {H : Heap} {locs : List Loc} {cells slots : Nat} {Q : State → Prop} {D : va_G} {B : Nat} {A : Nat → Prop} {h hm : Nat → Nat} {cI cZ cJ : ClassId} {ho : Nat} {f fm : zz_F} {g gm : zz_G} {ls : Array Slot} {b L : Nat} {xs : Nat → Int32} {i : Int32} {cx : Cond} (hfl : l.flags = flags0) (C : zz_Cx p m meth c code 7 ret s args (cx :: kk_W) "NightCyclerLaw" D vN (tyN cI cZ cJ) A B (xL B h)) (hX : va_X b L xs s s.heap) (hbl : b < s.heap.size) (hbA : ¬ A b) (i1 : vp_in (i + 1) L) (i2 : vp_in (i + 2) L) (hI : ck_gI fbG gbG f g) (hJ : ck_gI fbM gbM fm gm) (hrel : lw_rel f fm) (hP : va_P D vN (wW cI cZ cJ ho h hm f g fm gm) H) (hD : va_D A (wW cI cZ cJ ho h hm f g fm gm)) (hS : va_S A s.heap H locs) (hl : lv_has ls 7 [(0, .ref b), (1, .ref (h 0)), (2, .ref (hm 0)), (3, .ref ho), (4, .int i)]) (hf : cells ≤ room_1.cells ∧ slots ≤ room_1.slots) (kk : ∀ (f1 : zz_F) (g1 : zz_G) (fm1 : zz_F) (gm1 : zz_G) (H1 : Heap) (locs1 : List Loc) (ls1 : Array Slot), ck_gI fbG gbG f1 g1 → ck_gI fbM gbM fm1 gm1 → lw_rel f1 fm1 → va_P D vN (wW cI cZ cJ ho h hm f1 g1 fm1 gm1) H1 → va_D A (wW cI cZ cJ ho h hm f1 g1 fm1 gm1) → va_S A s.heap H1 locs1 → lv_has ls1 7 [(0, .ref b), (1, .ref (h 0)), (2, .ref (hm 0)), (3, .ref ho), (4, .int i)] → W p l e room_1 s m args below meth c H1 locs1 cells slots Q (F0 m 673 ls1 [])) : W p l e room_1 s m args below meth c H locs cells slots Q (F0 m 377 ls []) := by
  refine lv_aload_n C.1.1 C.1.2.1 dl_377 rfl (lv_at hl 2 rfl) ?_
  refine lv_aload_n C.1.1 C.1.2.1 dl_378 rfl (lv_at hl 0 rfl) ?_
  refine lv_iload C.1.1 C.1.2.1 dl_379 (lv_at hl 4 rfl) ?_
  refine lv_iconst (v := 1) C.1.1 C.1.2.1 dl_381 (by decide) ?_
  refine lv_iadd C.1.1 C.1.2.1 dl_382 ?_
  refine va_sld C.1.1 C.1.2.1 hX hbl hbA hS i1 dl_383 ?_
  refine lw_bool C.1.1 C.1.2.1 dl_384 dl_387 dl_388 dl_391 (fun y hy => ?_)
  have K : ∀ (os : List ck_O), os.all (fun o => ck_isV o && ck_keep 1 o) = true → ∀ (r : Option Value) (f1 : zz_F) (g1 : zz_G) (H1 : Heap) (locs1 : List Loc), (∃ o ∈ os, ck_gO hm o.1 r ∧ ck_gT fm f1 o.2) → ck_gI fbM gbM f1 g1 → va_P D vN (wW cI cZ cJ ho h hm f g f1 g1) H1 → va_D A (wW cI cZ cJ ho h hm f g f1 g1) → va_S A s.heap H1 locs1 → W p l e room_1 s m args below meth c H1 locs1 cells slots Q (F0 m (392 + 3) ls (r.toList ++ [])) := by
    intro os hos r f1 g1 H1 locs1 hq hI1 hP hD hS
    obtain ⟨o, ho1, hr, hT⟩ := hq
    have h9 := List.all_eq_true.mp hos o ho1
    simp only [Bool.and_eq_true] at h9
    have hk := ck_keep_ok h9.2 hT
    obtain rfl := ck_isV_ok h9.1 hr
    show W p l e room_1 s m args below meth c H1 locs1 cells slots Q (F0 m 395 ls [])
    refine lv_goto (tgt := 673) C.1.1 C.1.2.1 dl_395 (by decide) ?_
    exact kk f g f1 g1 H1 locs1 _ hI hI1 (by unfold lw_rel at hrel ⊢; rw [hk]; exact hrel) hP hD hS hl
  exact lm_go (h := h) (hm := hm) (As := [.int y]) C (c_m35 xL_ok) (cwV 1 C.1.2.2.2.2 (kk_gV kw_953 kw_954 kw_955 kw_9 kw_956) rfl rfl rfl (by decide +kernel) ⟨Nat.le_of_ble_eq_true rfl, Nat.le_of_ble_eq_true rfl⟩) hJ (List.forall_mem_cons.mpr ⟨hJ.1 0, List.forall_mem_cons.mpr ⟨hJ.1 1, List.forall_mem_cons.mpr ⟨hJ.1 3, List.forall_mem_cons.mpr ⟨hJ.1 13, List.forall_mem_cons.mpr ⟨hJ.1 22, fun _ h => absurd h List.not_mem_nil⟩⟩⟩⟩⟩) (⟨Or.inr ⟨0, List.mem_cons_self, rfl⟩, ⟨⟨_, rfl, hy⟩, trivial⟩⟩) hP hD hS rfl hl.1 rfl dl_392 hf (K _ (by decide))
theorem lo_8 {p : Program} {l : Launch} {e : Env} {s : State} {m : MethodId} {args : Array Value} {below : List Frame} {meth : Method} {c : Code} {H : Heap} {locs : List Loc} {cells slots : Nat} {Q : State → Prop} {D : va_G} {B : Nat} {A : Nat → Prop} {h hm : Nat → Nat} {cI cZ cJ : ClassId} {ho : Nat} {f fm : zz_F} {g gm : zz_G} {ls : Array Slot} {b L : Nat} {xs : Nat → Int32} {i : Int32} {cx : Cond} (hfl : l.flags = flags0) (C : zz_Cx p m meth c code 7 ret s args (cx :: kk_W) "NightCyclerLaw" D vN (tyN cI cZ cJ) A B (xL B h)) (hX : va_X b L xs s s.heap) (hbl : b < s.heap.size) (hbA : ¬ A b) (i1 : vp_in (i + 1) L) (i2 : vp_in (i + 2) L) (hI : ck_gI fbG gbG f g) (hJ : ck_gI fbM gbM fm gm) (hrel : lw_rel f fm) (hP : va_P D vN (wW cI cZ cJ ho h hm f g fm gm) H) (hD : va_D A (wW cI cZ cJ ho h hm f g fm gm)) (hS : va_S A s.heap H locs) (hl : lv_has ls 7 [(0, .ref b), (1, .ref (h 0)), (2, .ref (hm 0)), (3, .ref ho), (4, .int i)]) (hf : cells + 1 ≤ room_1.cells ∧ slots + 6 ≤ room_1.slots) (kk : ∀ (f1 : zz_F) (g1 : zz_G) (fm1 : zz_F) (gm1 : zz_G) (H1 : Heap) (locs1 : List Loc) (ls1 : Array Slot), ck_gI fbG gbG f1 g1 → ck_gI fbM gbM fm1 gm1 → lw_rel f1 fm1 → va_P D vN (wW cI cZ cJ ho h hm f1 g1 fm1 gm1) H1 → va_D A (wW cI cZ cJ ho h hm f1 g1 fm1 gm1) → va_S A s.heap H1 locs1 → lv_has ls1 7 [(0, .ref b), (1, .ref (h 0)), (2, .ref (hm 0)), (3, .ref ho), (4, .int i)] → W p l e room_1 s m args below meth c H1 locs1 (cells + 1) (slots + 6) Q (F0 m 673 ls1 [])) : W p l e room_1 s m args below meth c H locs cells slots Q (F0 m 359 ls []) := by
  refine W.widen (k := cells + 1) (n := slots + 6) (Nat.le_succ _) (Nat.le_add_right _ _) ?_
  refine lv_aload_n C.1.1 C.1.2.1 dl_359 rfl (lv_at hl 1 rfl) ?_
  refine lv_aload_n C.1.1 C.1.2.1 dl_360 rfl (lv_at hl 0 rfl) ?_
  refine lv_iload C.1.1 C.1.2.1 dl_361 (lv_at hl 4 rfl) ?_
  refine lv_iconst (v := 1) C.1.1 C.1.2.1 dl_363 (by decide) ?_
  refine lv_iadd C.1.1 C.1.2.1 dl_364 ?_
  refine va_sld C.1.1 C.1.2.1 hX hbl hbA hS i1 dl_365 ?_
  refine lw_bool C.1.1 C.1.2.1 dl_366 dl_369 dl_370 dl_373 (fun y hy => ?_)
  have K : ∀ (os : List ck_O), os.all (fun o => ck_isV o && ck_keep 0 o) = true → ∀ (r : Option Value) (f1 : zz_F) (g1 : zz_G) (H1 : Heap) (locs1 : List Loc), (∃ o ∈ os, ck_gO h o.1 r ∧ ck_gT f f1 o.2) → ck_gI fbG gbG f1 g1 → va_P D vN (wW cI cZ cJ ho h hm f1 g1 fm gm) H1 → va_D A (wW cI cZ cJ ho h hm f1 g1 fm gm) → va_S A s.heap H1 locs1 → W p l e room_1 s m args below meth c H1 locs1 (cells + 1) (slots + 6) Q (F0 m (374 + 3) ls (r.toList ++ [])) := by
    intro os hos r f1 g1 H1 locs1 hq hI1 hP hD hS
    obtain ⟨o, ho1, hr, hT⟩ := hq
    have h9 := List.all_eq_true.mp hos o ho1
    simp only [Bool.and_eq_true] at h9
    have hk := ck_keep_ok h9.2 hT
    obtain rfl := ck_isV_ok h9.1 hr
    show W p l e room_1 s m args below meth c H1 locs1 (cells + 1) (slots + 6) Q (F0 m 377 ls [])
    exact lo_8_m hfl C hX hbl hbA i1 i2 hI1 hJ (by unfold lw_rel at hrel ⊢; rw [hk]; exact hrel) hP hD hS hl hf kk
  exact lw_go (h := h) (hm := hm) (As := [.int y]) C c_g76 (cwV 1 C.1.2.2.2.2 (kk_gV kw_331 kw_332 kw_333 kw_1 kw_334) rfl rfl rfl (by decide +kernel) ⟨Nat.le_of_ble_eq_true rfl, Nat.le_of_ble_eq_true rfl⟩) hI (List.forall_mem_cons.mpr ⟨hI.1 0, List.forall_mem_cons.mpr ⟨hI.1 3, fun _ h => absurd h List.not_mem_nil⟩⟩) (⟨Or.inr ⟨0, List.mem_cons_self, rfl⟩, ⟨⟨_, rfl, hy⟩, trivial⟩⟩) hP hD hS rfl hl.1 rfl dl_374 hf (K _ (by decide))
theorem lo_9_m {p : Program} {l : Launch} {e : Env} {s : State} {m : MethodId} {args : Array Value} {below : List Frame} {meth : Method} {c : Code} {H : Heap} {locs : List Loc} {cells slots : Nat} {Q : State → Prop} {D : va_G} {B : Nat} {A : Nat → Prop} {h hm : Nat → Nat} {cI cZ cJ : ClassId} {ho : Nat} {f fm : zz_F} {g gm : zz_G} {ls : Array Slot} {b L : Nat} {xs : Nat → Int32} {i : Int32} {cx : Cond} (hfl : l.flags = flags0) (C : zz_Cx p m meth c code 7 ret s args (cx :: kk_W) "NightCyclerLaw" D vN (tyN cI cZ cJ) A B (xL B h)) (hX : va_X b L xs s s.heap) (hbl : b < s.heap.size) (hbA : ¬ A b) (i1 : vp_in (i + 1) L) (i2 : vp_in (i + 2) L) (hI : ck_gI fbG gbG f g) (hJ : ck_gI fbM gbM fm gm) (hrel : lw_rel f fm) (hP : va_P D vN (wW cI cZ cJ ho h hm f g fm gm) H) (hD : va_D A (wW cI cZ cJ ho h hm f g fm gm)) (hS : va_S A s.heap H locs) (hl : lv_has ls 7 [(0, .ref b), (1, .ref (h 0)), (2, .ref (hm 0)), (3, .ref ho), (4, .int i)]) (hf : cells ≤ room_1.cells ∧ slots ≤ room_1.slots) (kk : ∀ (f1 : zz_F) (g1 : zz_G) (fm1 : zz_F) (gm1 : zz_G) (H1 : Heap) (locs1 : List Loc) (ls1 : Array Slot), ck_gI fbG gbG f1 g1 → ck_gI fbM gbM fm1 gm1 → lw_rel f1 fm1 → va_P D vN (wW cI cZ cJ ho h hm f1 g1 fm1 gm1) H1 → va_D A (wW cI cZ cJ ho h hm f1 g1 fm1 gm1) → va_S A s.heap H1 locs1 → lv_has ls1 7 [(0, .ref b), (1, .ref (h 0)), (2, .ref (hm 0)), (3, .ref ho), (4, .int i)] → W p l e room_1 s m args below meth c H1 locs1 cells slots Q (F0 m 673 ls1 [])) : W p l e room_1 s m args below meth c H locs cells slots Q (F0 m 416 ls []) := by
  refine lv_aload_n C.1.1 C.1.2.1 dl_416 rfl (lv_at hl 2 rfl) ?_
  refine lv_aload_n C.1.1 C.1.2.1 dl_417 rfl (lv_at hl 0 rfl) ?_
  refine lv_iload C.1.1 C.1.2.1 dl_418 (lv_at hl 4 rfl) ?_
  refine lv_iconst (v := 1) C.1.1 C.1.2.1 dl_420 (by decide) ?_
  refine lv_iadd C.1.1 C.1.2.1 dl_421 ?_
  refine va_sld C.1.1 C.1.2.1 hX hbl hbA hS i1 dl_422 ?_
  refine lw_bool C.1.1 C.1.2.1 dl_423 dl_426 dl_427 dl_430 (fun y hy => ?_)
  have K : ∀ (os : List ck_O), os.all (fun o => ck_isV o && ck_keep 1 o) = true → ∀ (r : Option Value) (f1 : zz_F) (g1 : zz_G) (H1 : Heap) (locs1 : List Loc), (∃ o ∈ os, ck_gO hm o.1 r ∧ ck_gT fm f1 o.2) → ck_gI fbM gbM f1 g1 → va_P D vN (wW cI cZ cJ ho h hm f g f1 g1) H1 → va_D A (wW cI cZ cJ ho h hm f g f1 g1) → va_S A s.heap H1 locs1 → W p l e room_1 s m args below meth c H1 locs1 cells slots Q (F0 m (431 + 3) ls (r.toList ++ [])) := by
    intro os hos r f1 g1 H1 locs1 hq hI1 hP hD hS
    obtain ⟨o, ho1, hr, hT⟩ := hq
    have h9 := List.all_eq_true.mp hos o ho1
    simp only [Bool.and_eq_true] at h9
    have hk := ck_keep_ok h9.2 hT
    obtain rfl := ck_isV_ok h9.1 hr
    show W p l e room_1 s m args below meth c H1 locs1 cells slots Q (F0 m 434 ls [])
    refine lv_goto (tgt := 673) C.1.1 C.1.2.1 dl_434 (by decide) ?_
    exact kk f g f1 g1 H1 locs1 _ hI hI1 (by unfold lw_rel at hrel ⊢; rw [hk]; exact hrel) hP hD hS hl
  exact lm_go (h := h) (hm := hm) (As := [.int y]) C (c_m36 xL_ok) (cwV 1 C.1.2.2.2.2 (kk_gV kw_957 kw_958 kw_959 kw_9 kw_960) rfl rfl rfl (by decide +kernel) ⟨Nat.le_of_ble_eq_true rfl, Nat.le_of_ble_eq_true rfl⟩) hJ (List.forall_mem_cons.mpr ⟨hJ.1 0, List.forall_mem_cons.mpr ⟨hJ.1 1, List.forall_mem_cons.mpr ⟨hJ.1 3, List.forall_mem_cons.mpr ⟨hJ.1 13, List.forall_mem_cons.mpr ⟨hJ.1 22, fun _ h => absurd h List.not_mem_nil⟩⟩⟩⟩⟩) (⟨Or.inr ⟨0, List.mem_cons_self, rfl⟩, ⟨⟨_, rfl, hy⟩, trivial⟩⟩) hP hD hS rfl hl.1 rfl dl_431 hf (K _ (by decide))
theorem lo_9 {p : Program} {l : Launch} {e : Env} {s : State} {m : MethodId} {args : Array Value} {below : List Frame} {meth : Method} {c : Code} {H : Heap} {locs : List Loc} {cells slots : Nat} {Q : State → Prop} {D : va_G} {B : Nat} {A : Nat → Prop} {h hm : Nat → Nat} {cI cZ cJ : ClassId} {ho : Nat} {f fm : zz_F} {g gm : zz_G} {ls : Array Slot} {b L : Nat} {xs : Nat → Int32} {i : Int32} {cx : Cond} (hfl : l.flags = flags0) (C : zz_Cx p m meth c code 7 ret s args (cx :: kk_W) "NightCyclerLaw" D vN (tyN cI cZ cJ) A B (xL B h)) (hX : va_X b L xs s s.heap) (hbl : b < s.heap.size) (hbA : ¬ A b) (i1 : vp_in (i + 1) L) (i2 : vp_in (i + 2) L) (hI : ck_gI fbG gbG f g) (hJ : ck_gI fbM gbM fm gm) (hrel : lw_rel f fm) (hP : va_P D vN (wW cI cZ cJ ho h hm f g fm gm) H) (hD : va_D A (wW cI cZ cJ ho h hm f g fm gm)) (hS : va_S A s.heap H locs) (hl : lv_has ls 7 [(0, .ref b), (1, .ref (h 0)), (2, .ref (hm 0)), (3, .ref ho), (4, .int i)]) (hf : cells + 1 ≤ room_1.cells ∧ slots + 6 ≤ room_1.slots) (kk : ∀ (f1 : zz_F) (g1 : zz_G) (fm1 : zz_F) (gm1 : zz_G) (H1 : Heap) (locs1 : List Loc) (ls1 : Array Slot), ck_gI fbG gbG f1 g1 → ck_gI fbM gbM fm1 gm1 → lw_rel f1 fm1 → va_P D vN (wW cI cZ cJ ho h hm f1 g1 fm1 gm1) H1 → va_D A (wW cI cZ cJ ho h hm f1 g1 fm1 gm1) → va_S A s.heap H1 locs1 → lv_has ls1 7 [(0, .ref b), (1, .ref (h 0)), (2, .ref (hm 0)), (3, .ref ho), (4, .int i)] → W p l e room_1 s m args below meth c H1 locs1 (cells + 1) (slots + 6) Q (F0 m 673 ls1 [])) : W p l e room_1 s m args below meth c H locs cells slots Q (F0 m 398 ls []) := by
  refine W.widen (k := cells + 1) (n := slots + 6) (Nat.le_succ _) (Nat.le_add_right _ _) ?_
  refine lv_aload_n C.1.1 C.1.2.1 dl_398 rfl (lv_at hl 1 rfl) ?_
  refine lv_aload_n C.1.1 C.1.2.1 dl_399 rfl (lv_at hl 0 rfl) ?_
  refine lv_iload C.1.1 C.1.2.1 dl_400 (lv_at hl 4 rfl) ?_
  refine lv_iconst (v := 1) C.1.1 C.1.2.1 dl_402 (by decide) ?_
  refine lv_iadd C.1.1 C.1.2.1 dl_403 ?_
  refine va_sld C.1.1 C.1.2.1 hX hbl hbA hS i1 dl_404 ?_
  refine lw_bool C.1.1 C.1.2.1 dl_405 dl_408 dl_409 dl_412 (fun y hy => ?_)
  have K : ∀ (os : List ck_O), os.all (fun o => ck_isV o && ck_keep 0 o) = true → ∀ (r : Option Value) (f1 : zz_F) (g1 : zz_G) (H1 : Heap) (locs1 : List Loc), (∃ o ∈ os, ck_gO h o.1 r ∧ ck_gT f f1 o.2) → ck_gI fbG gbG f1 g1 → va_P D vN (wW cI cZ cJ ho h hm f1 g1 fm gm) H1 → va_D A (wW cI cZ cJ ho h hm f1 g1 fm gm) → va_S A s.heap H1 locs1 → W p l e room_1 s m args below meth c H1 locs1 (cells + 1) (slots + 6) Q (F0 m (413 + 3) ls (r.toList ++ [])) := by
    intro os hos r f1 g1 H1 locs1 hq hI1 hP hD hS
    obtain ⟨o, ho1, hr, hT⟩ := hq
    have h9 := List.all_eq_true.mp hos o ho1
    simp only [Bool.and_eq_true] at h9
    have hk := ck_keep_ok h9.2 hT
    obtain rfl := ck_isV_ok h9.1 hr
    show W p l e room_1 s m args below meth c H1 locs1 (cells + 1) (slots + 6) Q (F0 m 416 ls [])
    exact lo_9_m hfl C hX hbl hbA i1 i2 hI1 hJ (by unfold lw_rel at hrel ⊢; rw [hk]; exact hrel) hP hD hS hl hf kk
  exact lw_go (h := h) (hm := hm) (As := [.int y]) C c_g77 (cwV 1 C.1.2.2.2.2 (kk_gV kw_335 kw_336 kw_337 kw_1 kw_338) rfl rfl rfl (by decide +kernel) ⟨Nat.le_of_ble_eq_true rfl, Nat.le_of_ble_eq_true rfl⟩) hI (List.forall_mem_cons.mpr ⟨hI.1 0, List.forall_mem_cons.mpr ⟨hI.1 3, fun _ h => absurd h List.not_mem_nil⟩⟩) (⟨Or.inr ⟨0, List.mem_cons_self, rfl⟩, ⟨⟨_, rfl, hy⟩, trivial⟩⟩) hP hD hS rfl hl.1 rfl dl_413 hf (K _ (by decide))
theorem lo_10_m {p : Program} {l : Launch} {e : Env} {s : State} {m : MethodId} {args : Array Value} {below : List Frame} {meth : Method} {c : Code} {H : Heap} {locs : List Loc} {cells slots : Nat} {Q : State → Prop} {D : va_G} {B : Nat} {A : Nat → Prop} {h hm : Nat → Nat} {cI cZ cJ : ClassId} {ho : Nat} {f fm : zz_F} {g gm : zz_G} {ls : Array Slot} {b L : Nat} {xs : Nat → Int32} {i : Int32} {cx : Cond} (hfl : l.flags = flags0) (C : zz_Cx p m meth c code 7 ret s args (cx :: kk_W) "NightCyclerLaw" D vN (tyN cI cZ cJ) A B (xL B h)) (hX : va_X b L xs s s.heap) (hbl : b < s.heap.size) (hbA : ¬ A b) (i1 : vp_in (i + 1) L) (i2 : vp_in (i + 2) L) (hI : ck_gI fbG gbG f g) (hJ : ck_gI fbM gbM fm gm) (hrel : lw_rel f fm) (hP : va_P D vN (wW cI cZ cJ ho h hm f g fm gm) H) (hD : va_D A (wW cI cZ cJ ho h hm f g fm gm)) (hS : va_S A s.heap H locs) (hl : lv_has ls 7 [(0, .ref b), (1, .ref (h 0)), (2, .ref (hm 0)), (3, .ref ho), (4, .int i)]) (hf : cells ≤ room_1.cells ∧ slots ≤ room_1.slots) (kk : ∀ (f1 : zz_F) (g1 : zz_G) (fm1 : zz_F) (gm1 : zz_G) (H1 : Heap) (locs1 : List Loc) (ls1 : Array Slot), ck_gI fbG gbG f1 g1 → ck_gI fbM gbM fm1 gm1 → lw_rel f1 fm1 → va_P D vN (wW cI cZ cJ ho h hm f1 g1 fm1 gm1) H1 → va_D A (wW cI cZ cJ ho h hm f1 g1 fm1 gm1) → va_S A s.heap H1 locs1 → lv_has ls1 7 [(0, .ref b), (1, .ref (h 0)), (2, .ref (hm 0)), (3, .ref ho), (4, .int i)] → W p l e room_1 s m args below meth c H1 locs1 cells slots Q (F0 m 673 ls1 [])) : W p l e room_1 s m args below meth c H locs cells slots Q (F0 m 455 ls []) := by
  refine lv_aload_n C.1.1 C.1.2.1 dl_455 rfl (lv_at hl 2 rfl) ?_
  refine lv_aload_n C.1.1 C.1.2.1 dl_456 rfl (lv_at hl 0 rfl) ?_
  refine lv_iload C.1.1 C.1.2.1 dl_457 (lv_at hl 4 rfl) ?_
  refine lv_iconst (v := 1) C.1.1 C.1.2.1 dl_459 (by decide) ?_
  refine lv_iadd C.1.1 C.1.2.1 dl_460 ?_
  refine va_sld C.1.1 C.1.2.1 hX hbl hbA hS i1 dl_461 ?_
  refine lw_bool C.1.1 C.1.2.1 dl_462 dl_465 dl_466 dl_469 (fun y hy => ?_)
  have K : ∀ (os : List ck_O), os.all (fun o => ck_isV o && ck_keep 1 o) = true → ∀ (r : Option Value) (f1 : zz_F) (g1 : zz_G) (H1 : Heap) (locs1 : List Loc), (∃ o ∈ os, ck_gO hm o.1 r ∧ ck_gT fm f1 o.2) → ck_gI fbM gbM f1 g1 → va_P D vN (wW cI cZ cJ ho h hm f g f1 g1) H1 → va_D A (wW cI cZ cJ ho h hm f g f1 g1) → va_S A s.heap H1 locs1 → W p l e room_1 s m args below meth c H1 locs1 cells slots Q (F0 m (470 + 3) ls (r.toList ++ [])) := by
    intro os hos r f1 g1 H1 locs1 hq hI1 hP hD hS
    obtain ⟨o, ho1, hr, hT⟩ := hq
    have h9 := List.all_eq_true.mp hos o ho1
    simp only [Bool.and_eq_true] at h9
    have hk := ck_keep_ok h9.2 hT
    obtain rfl := ck_isV_ok h9.1 hr
    show W p l e room_1 s m args below meth c H1 locs1 cells slots Q (F0 m 473 ls [])
    refine lv_goto (tgt := 673) C.1.1 C.1.2.1 dl_473 (by decide) ?_
    exact kk f g f1 g1 H1 locs1 _ hI hI1 (by unfold lw_rel at hrel ⊢; rw [hk]; exact hrel) hP hD hS hl
  exact lm_go (h := h) (hm := hm) (As := [.int y]) C (c_m37 xL_ok) (cwV 1 C.1.2.2.2.2 (kk_gV kw_961 kw_962 kw_963 kw_9 kw_964) rfl rfl rfl (by decide +kernel) ⟨Nat.le_of_ble_eq_true rfl, Nat.le_of_ble_eq_true rfl⟩) hJ (List.forall_mem_cons.mpr ⟨hJ.1 0, List.forall_mem_cons.mpr ⟨hJ.1 1, List.forall_mem_cons.mpr ⟨hJ.1 3, List.forall_mem_cons.mpr ⟨hJ.1 13, List.forall_mem_cons.mpr ⟨hJ.1 22, fun _ h => absurd h List.not_mem_nil⟩⟩⟩⟩⟩) (⟨Or.inr ⟨0, List.mem_cons_self, rfl⟩, ⟨⟨_, rfl, hy⟩, trivial⟩⟩) hP hD hS rfl hl.1 rfl dl_470 hf (K _ (by decide))
theorem lo_10 {p : Program} {l : Launch} {e : Env} {s : State} {m : MethodId} {args : Array Value} {below : List Frame} {meth : Method} {c : Code} {H : Heap} {locs : List Loc} {cells slots : Nat} {Q : State → Prop} {D : va_G} {B : Nat} {A : Nat → Prop} {h hm : Nat → Nat} {cI cZ cJ : ClassId} {ho : Nat} {f fm : zz_F} {g gm : zz_G} {ls : Array Slot} {b L : Nat} {xs : Nat → Int32} {i : Int32} {cx : Cond} (hfl : l.flags = flags0) (C : zz_Cx p m meth c code 7 ret s args (cx :: kk_W) "NightCyclerLaw" D vN (tyN cI cZ cJ) A B (xL B h)) (hX : va_X b L xs s s.heap) (hbl : b < s.heap.size) (hbA : ¬ A b) (i1 : vp_in (i + 1) L) (i2 : vp_in (i + 2) L) (hI : ck_gI fbG gbG f g) (hJ : ck_gI fbM gbM fm gm) (hrel : lw_rel f fm) (hP : va_P D vN (wW cI cZ cJ ho h hm f g fm gm) H) (hD : va_D A (wW cI cZ cJ ho h hm f g fm gm)) (hS : va_S A s.heap H locs) (hl : lv_has ls 7 [(0, .ref b), (1, .ref (h 0)), (2, .ref (hm 0)), (3, .ref ho), (4, .int i)]) (hf : cells + 1 ≤ room_1.cells ∧ slots + 6 ≤ room_1.slots) (kk : ∀ (f1 : zz_F) (g1 : zz_G) (fm1 : zz_F) (gm1 : zz_G) (H1 : Heap) (locs1 : List Loc) (ls1 : Array Slot), ck_gI fbG gbG f1 g1 → ck_gI fbM gbM fm1 gm1 → lw_rel f1 fm1 → va_P D vN (wW cI cZ cJ ho h hm f1 g1 fm1 gm1) H1 → va_D A (wW cI cZ cJ ho h hm f1 g1 fm1 gm1) → va_S A s.heap H1 locs1 → lv_has ls1 7 [(0, .ref b), (1, .ref (h 0)), (2, .ref (hm 0)), (3, .ref ho), (4, .int i)] → W p l e room_1 s m args below meth c H1 locs1 (cells + 1) (slots + 6) Q (F0 m 673 ls1 [])) : W p l e room_1 s m args below meth c H locs cells slots Q (F0 m 437 ls []) := by
  refine W.widen (k := cells + 1) (n := slots + 6) (Nat.le_succ _) (Nat.le_add_right _ _) ?_
  refine lv_aload_n C.1.1 C.1.2.1 dl_437 rfl (lv_at hl 1 rfl) ?_
  refine lv_aload_n C.1.1 C.1.2.1 dl_438 rfl (lv_at hl 0 rfl) ?_
  refine lv_iload C.1.1 C.1.2.1 dl_439 (lv_at hl 4 rfl) ?_
  refine lv_iconst (v := 1) C.1.1 C.1.2.1 dl_441 (by decide) ?_
  refine lv_iadd C.1.1 C.1.2.1 dl_442 ?_
  refine va_sld C.1.1 C.1.2.1 hX hbl hbA hS i1 dl_443 ?_
  refine lw_bool C.1.1 C.1.2.1 dl_444 dl_447 dl_448 dl_451 (fun y hy => ?_)
  have K : ∀ (os : List ck_O), os.all (fun o => ck_isV o && ck_keep 0 o) = true → ∀ (r : Option Value) (f1 : zz_F) (g1 : zz_G) (H1 : Heap) (locs1 : List Loc), (∃ o ∈ os, ck_gO h o.1 r ∧ ck_gT f f1 o.2) → ck_gI fbG gbG f1 g1 → va_P D vN (wW cI cZ cJ ho h hm f1 g1 fm gm) H1 → va_D A (wW cI cZ cJ ho h hm f1 g1 fm gm) → va_S A s.heap H1 locs1 → W p l e room_1 s m args below meth c H1 locs1 (cells + 1) (slots + 6) Q (F0 m (452 + 3) ls (r.toList ++ [])) := by
    intro os hos r f1 g1 H1 locs1 hq hI1 hP hD hS
    obtain ⟨o, ho1, hr, hT⟩ := hq
    have h9 := List.all_eq_true.mp hos o ho1
    simp only [Bool.and_eq_true] at h9
    have hk := ck_keep_ok h9.2 hT
    obtain rfl := ck_isV_ok h9.1 hr
    show W p l e room_1 s m args below meth c H1 locs1 (cells + 1) (slots + 6) Q (F0 m 455 ls [])
    exact lo_10_m hfl C hX hbl hbA i1 i2 hI1 hJ (by unfold lw_rel at hrel ⊢; rw [hk]; exact hrel) hP hD hS hl hf kk
  exact lw_go (h := h) (hm := hm) (As := [.int y]) C c_g78 (cwV 1 C.1.2.2.2.2 (kk_gV kw_339 kw_340 kw_341 kw_1 kw_342) rfl rfl rfl (by decide +kernel) ⟨Nat.le_of_ble_eq_true rfl, Nat.le_of_ble_eq_true rfl⟩) hI (List.forall_mem_cons.mpr ⟨hI.1 0, List.forall_mem_cons.mpr ⟨hI.1 3, fun _ h => absurd h List.not_mem_nil⟩⟩) (⟨Or.inr ⟨0, List.mem_cons_self, rfl⟩, ⟨⟨_, rfl, hy⟩, trivial⟩⟩) hP hD hS rfl hl.1 rfl dl_452 hf (K _ (by decide))
theorem lo_11_m {p : Program} {l : Launch} {e : Env} {s : State} {m : MethodId} {args : Array Value} {below : List Frame} {meth : Method} {c : Code} {H : Heap} {locs : List Loc} {cells slots : Nat} {Q : State → Prop} {D : va_G} {B : Nat} {A : Nat → Prop} {h hm : Nat → Nat} {cI cZ cJ : ClassId} {ho : Nat} {f fm : zz_F} {g gm : zz_G} {ls : Array Slot} {b L : Nat} {xs : Nat → Int32} {i : Int32} {cx : Cond} (hfl : l.flags = flags0) (C : zz_Cx p m meth c code 7 ret s args (cx :: kk_W) "NightCyclerLaw" D vN (tyN cI cZ cJ) A B (xL B h)) (hX : va_X b L xs s s.heap) (hbl : b < s.heap.size) (hbA : ¬ A b) (i1 : vp_in (i + 1) L) (i2 : vp_in (i + 2) L) (hI : ck_gI fbG gbG f g) (hJ : ck_gI fbM gbM fm gm) (hrel : lw_rel f fm) (hP : va_P D vN (wW cI cZ cJ ho h hm f g fm gm) H) (hD : va_D A (wW cI cZ cJ ho h hm f g fm gm)) (hS : va_S A s.heap H locs) (hl : lv_has ls 7 [(0, .ref b), (1, .ref (h 0)), (2, .ref (hm 0)), (3, .ref ho), (4, .int i)]) (hf : cells ≤ room_1.cells ∧ slots ≤ room_1.slots) (kk : ∀ (f1 : zz_F) (g1 : zz_G) (fm1 : zz_F) (gm1 : zz_G) (H1 : Heap) (locs1 : List Loc) (ls1 : Array Slot), ck_gI fbG gbG f1 g1 → ck_gI fbM gbM fm1 gm1 → lw_rel f1 fm1 → va_P D vN (wW cI cZ cJ ho h hm f1 g1 fm1 gm1) H1 → va_D A (wW cI cZ cJ ho h hm f1 g1 fm1 gm1) → va_S A s.heap H1 locs1 → lv_has ls1 7 [(0, .ref b), (1, .ref (h 0)), (2, .ref (hm 0)), (3, .ref ho), (4, .int i)] → W p l e room_1 s m args below meth c H1 locs1 cells slots Q (F0 m 673 ls1 [])) : W p l e room_1 s m args below meth c H locs cells slots Q (F0 m 487 ls []) := by
  refine lv_aload_n C.1.1 C.1.2.1 dl_487 rfl (lv_at hl 2 rfl) ?_
  refine lv_aload_n C.1.1 C.1.2.1 dl_488 rfl (lv_at hl 0 rfl) ?_
  refine lv_iload C.1.1 C.1.2.1 dl_489 (lv_at hl 4 rfl) ?_
  refine lv_iconst (v := 1) C.1.1 C.1.2.1 dl_491 (by decide) ?_
  refine lv_iadd C.1.1 C.1.2.1 dl_492 ?_
  refine va_sld C.1.1 C.1.2.1 hX hbl hbA hS i1 dl_493 ?_
  have K : ∀ (os : List ck_O), os.all (fun o => ck_isI o && ck_keep 1 o) = true → ∀ (r : Option Value) (f1 : zz_F) (g1 : zz_G) (H1 : Heap) (locs1 : List Loc), (∃ o ∈ os, ck_gO hm o.1 r ∧ ck_gT fm f1 o.2) → ck_gI fbM gbM f1 g1 → va_P D vN (wW cI cZ cJ ho h hm f g f1 g1) H1 → va_D A (wW cI cZ cJ ho h hm f g f1 g1) → va_S A s.heap H1 locs1 → W p l e room_1 s m args below meth c H1 locs1 cells slots Q (F0 m (494 + 3) ls (r.toList ++ [])) := by
    intro os hos r f1 g1 H1 locs1 hq hI1 hP hD hS
    obtain ⟨o, ho1, hr, hT⟩ := hq
    have h9 := List.all_eq_true.mp hos o ho1
    simp only [Bool.and_eq_true] at h9
    have hk := ck_keep_ok h9.2 hT
    obtain ⟨x, rfl⟩ := ck_isI_ok h9.1 hr
    show W p l e room_1 s m args below meth c H1 locs1 cells slots Q (F0 m 497 ls [.int x])
    refine lv_pop C.1.1 C.1.2.1 dl_497 rfl ?_
    refine lv_goto (tgt := 673) C.1.1 C.1.2.1 dl_498 (by decide) ?_
    exact kk f g f1 g1 H1 locs1 _ hI hI1 (by unfold lw_rel at hrel ⊢; rw [hk]; exact hrel) hP hD hS hl
  exact lm_go (h := h) (hm := hm) (As := [.int (xs (i + 1).toNatClampNeg)]) C (c_m39 xL_ok) (cwV 1 C.1.2.2.2.2 (kk_gV kw_965 kw_966 kw_967 kw_9 kw_968) rfl rfl rfl (by decide +kernel) ⟨Nat.le_of_ble_eq_true rfl, Nat.le_of_ble_eq_true rfl⟩) hJ (List.forall_mem_cons.mpr ⟨hJ.1 0, List.forall_mem_cons.mpr ⟨hJ.1 1, List.forall_mem_cons.mpr ⟨hJ.1 3, List.forall_mem_cons.mpr ⟨hJ.1 13, List.forall_mem_cons.mpr ⟨hJ.1 22, fun _ h => absurd h List.not_mem_nil⟩⟩⟩⟩⟩) (⟨Or.inr ⟨0, List.mem_cons_self, rfl⟩, ⟨⟨_, rfl, ck_in_top _⟩, trivial⟩⟩) hP hD hS rfl hl.1 rfl dl_494 hf (K _ (by decide))
theorem lo_11 {p : Program} {l : Launch} {e : Env} {s : State} {m : MethodId} {args : Array Value} {below : List Frame} {meth : Method} {c : Code} {H : Heap} {locs : List Loc} {cells slots : Nat} {Q : State → Prop} {D : va_G} {B : Nat} {A : Nat → Prop} {h hm : Nat → Nat} {cI cZ cJ : ClassId} {ho : Nat} {f fm : zz_F} {g gm : zz_G} {ls : Array Slot} {b L : Nat} {xs : Nat → Int32} {i : Int32} {cx : Cond} (hfl : l.flags = flags0) (C : zz_Cx p m meth c code 7 ret s args (cx :: kk_W) "NightCyclerLaw" D vN (tyN cI cZ cJ) A B (xL B h)) (hX : va_X b L xs s s.heap) (hbl : b < s.heap.size) (hbA : ¬ A b) (i1 : vp_in (i + 1) L) (i2 : vp_in (i + 2) L) (hI : ck_gI fbG gbG f g) (hJ : ck_gI fbM gbM fm gm) (hrel : lw_rel f fm) (hP : va_P D vN (wW cI cZ cJ ho h hm f g fm gm) H) (hD : va_D A (wW cI cZ cJ ho h hm f g fm gm)) (hS : va_S A s.heap H locs) (hl : lv_has ls 7 [(0, .ref b), (1, .ref (h 0)), (2, .ref (hm 0)), (3, .ref ho), (4, .int i)]) (hf : cells + 1 ≤ room_1.cells ∧ slots + 6 ≤ room_1.slots) (kk : ∀ (f1 : zz_F) (g1 : zz_G) (fm1 : zz_F) (gm1 : zz_G) (H1 : Heap) (locs1 : List Loc) (ls1 : Array Slot), ck_gI fbG gbG f1 g1 → ck_gI fbM gbM fm1 gm1 → lw_rel f1 fm1 → va_P D vN (wW cI cZ cJ ho h hm f1 g1 fm1 gm1) H1 → va_D A (wW cI cZ cJ ho h hm f1 g1 fm1 gm1) → va_S A s.heap H1 locs1 → lv_has ls1 7 [(0, .ref b), (1, .ref (h 0)), (2, .ref (hm 0)), (3, .ref ho), (4, .int i)] → W p l e room_1 s m args below meth c H1 locs1 (cells + 1) (slots + 6) Q (F0 m 673 ls1 [])) : W p l e room_1 s m args below meth c H locs cells slots Q (F0 m 476 ls []) := by
  refine W.widen (k := cells + 1) (n := slots + 6) (Nat.le_succ _) (Nat.le_add_right _ _) ?_
  refine lv_aload_n C.1.1 C.1.2.1 dl_476 rfl (lv_at hl 1 rfl) ?_
  refine lv_aload_n C.1.1 C.1.2.1 dl_477 rfl (lv_at hl 0 rfl) ?_
  refine lv_iload C.1.1 C.1.2.1 dl_478 (lv_at hl 4 rfl) ?_
  refine lv_iconst (v := 1) C.1.1 C.1.2.1 dl_480 (by decide) ?_
  refine lv_iadd C.1.1 C.1.2.1 dl_481 ?_
  refine va_sld C.1.1 C.1.2.1 hX hbl hbA hS i1 dl_482 ?_
  have K : ∀ (os : List ck_O), os.all (fun o => ck_isI o && ck_keep 0 o) = true → ∀ (r : Option Value) (f1 : zz_F) (g1 : zz_G) (H1 : Heap) (locs1 : List Loc), (∃ o ∈ os, ck_gO h o.1 r ∧ ck_gT f f1 o.2) → ck_gI fbG gbG f1 g1 → va_P D vN (wW cI cZ cJ ho h hm f1 g1 fm gm) H1 → va_D A (wW cI cZ cJ ho h hm f1 g1 fm gm) → va_S A s.heap H1 locs1 → W p l e room_1 s m args below meth c H1 locs1 (cells + 1) (slots + 6) Q (F0 m (483 + 3) ls (r.toList ++ [])) := by
    intro os hos r f1 g1 H1 locs1 hq hI1 hP hD hS
    obtain ⟨o, ho1, hr, hT⟩ := hq
    have h9 := List.all_eq_true.mp hos o ho1
    simp only [Bool.and_eq_true] at h9
    have hk := ck_keep_ok h9.2 hT
    obtain ⟨x, rfl⟩ := ck_isI_ok h9.1 hr
    show W p l e room_1 s m args below meth c H1 locs1 (cells + 1) (slots + 6) Q (F0 m 486 ls [.int x])
    refine lv_pop C.1.1 C.1.2.1 dl_486 rfl ?_
    exact lo_11_m hfl C hX hbl hbA i1 i2 hI1 hJ (by unfold lw_rel at hrel ⊢; rw [hk]; exact hrel) hP hD hS hl hf kk
  rcases (show ((-2147483648 : Int) ≤ (xs (i + 1).toNatClampNeg).toInt ∧ (xs (i + 1).toNatClampNeg).toInt ≤ (-1 : Int)) ∨ ((0 : Int) ≤ (xs (i + 1).toNatClampNeg).toInt ∧ (xs (i + 1).toNatClampNeg).toInt ≤ (4 : Int)) ∨ ((5 : Int) ≤ (xs (i + 1).toNatClampNeg).toInt ∧ (xs (i + 1).toNatClampNeg).toInt ≤ (2147483647 : Int)) by have := i32_lo (xs (i + 1).toNatClampNeg); have := i32_hi (xs (i + 1).toNatClampNeg); have j0 : (0 : Int) ≤ (f 0).toInt ∧ (f 0).toInt ≤ 1 := hI.1 0; omega) with hc | hc | hc
  · exact lw_go (h := h) (hm := hm) (As := [.int (xs (i + 1).toNatClampNeg)]) C c_g105 (cwV 1 C.1.2.2.2.2 (kk_gV kw_343 kw_344 kw_345 kw_1 kw_346) rfl rfl rfl (by decide +kernel) ⟨Nat.le_of_ble_eq_true rfl, Nat.le_of_ble_eq_true rfl⟩) hI (List.forall_mem_cons.mpr ⟨hI.1 0, List.forall_mem_cons.mpr ⟨hI.1 3, fun _ h => absurd h List.not_mem_nil⟩⟩) (⟨Or.inr ⟨0, List.mem_cons_self, rfl⟩, ⟨⟨_, rfl, hc⟩, trivial⟩⟩) hP hD hS rfl hl.1 rfl dl_483 hf (K _ (by decide))
  · exact lw_go (h := h) (hm := hm) (As := [.int (xs (i + 1).toNatClampNeg)]) C c_g109 (cwV 1 C.1.2.2.2.2 (kk_gV kw_343 kw_344 kw_345 kw_1 kw_346) rfl rfl rfl (by decide +kernel) ⟨Nat.le_of_ble_eq_true rfl, Nat.le_of_ble_eq_true rfl⟩) hI (List.forall_mem_cons.mpr ⟨hI.1 0, List.forall_mem_cons.mpr ⟨hI.1 3, fun _ h => absurd h List.not_mem_nil⟩⟩) (⟨Or.inr ⟨0, List.mem_cons_self, rfl⟩, ⟨⟨_, rfl, hc⟩, trivial⟩⟩) hP hD hS rfl hl.1 rfl dl_483 hf (K _ (by decide))
  · exact lw_go (h := h) (hm := hm) (As := [.int (xs (i + 1).toNatClampNeg)]) C c_g111 (cwV 1 C.1.2.2.2.2 (kk_gV kw_343 kw_344 kw_345 kw_1 kw_346) rfl rfl rfl (by decide +kernel) ⟨Nat.le_of_ble_eq_true rfl, Nat.le_of_ble_eq_true rfl⟩) hI (List.forall_mem_cons.mpr ⟨hI.1 0, List.forall_mem_cons.mpr ⟨hI.1 3, fun _ h => absurd h List.not_mem_nil⟩⟩) (⟨Or.inr ⟨0, List.mem_cons_self, rfl⟩, ⟨⟨_, rfl, hc⟩, trivial⟩⟩) hP hD hS rfl hl.1 rfl dl_483 hf (K _ (by decide))

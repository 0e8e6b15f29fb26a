theorem lo_6_g155 {p : Program} {l : Launch} {e : Env} {s : State} {m : MethodId} {args : Array Value} {below : List Frame} {meth : Method} {c : Code} {H : Heap} {locs : List Loc} {cells slots : Nat} {Q : State → Prop} {D : va_G} {B : Nat} {A : Nat → Prop} {h hm : Nat → Nat} {cI cZ cJ : ClassId} {ho : Nat} {ls : Array Slot} {b L : Nat} {xs : Nat → Int32} {i : Int32} {cx : Cond} (hfl : l.flags = flags0) (C : zz_Cx p m meth c code 7 ret s args (cx :: kk_W) "NightCyclerLaw" D vN (tyN cI cZ cJ) A B (xL B h)) (hX : va_X b L xs s s.heap) (hbl : b < s.heap.size) (hbA : ¬ A b) (i1 : vp_in (i + 1) L) (i2 : vp_in (i + 2) L) (hP : va_P D vN (wW cI cZ cJ ho h hm fN0 gN0 fM0 gM0) H) (hD : va_D A (wW cI cZ cJ ho h hm fN0 gN0 fM0 gM0)) (hS : va_S A s.heap H locs) (hl : lv_has ls 7 [(0, .ref b), (1, .ref (h 0)), (2, .ref (hm 0)), (3, .ref ho), (4, .int i)]) (hf : cells + 1 ≤ room_1.cells ∧ slots + 6 ≤ room_1.slots) (hc0 : (-2147483648 : Int) ≤ (xs (i + 1).toNatClampNeg).toInt ∧ (xs (i + 1).toNatClampNeg).toInt ≤ (-1 : Int)) (kk : ∀ (H1 : Heap) (locs1 : List Loc) (ls1 : Array Slot), va_S A s.heap H1 locs1 → lv_has ls1 7 [(0, .ref b), (1, .ref (h 0)), (2, .ref (hm 0)), (3, .ref ho), (4, .int i)] → W p l e room_1 s m args below meth c H1 locs1 (cells + 1) (slots + 6) Q (F0 m 840 ls1 [])) : W p l e room_1 s m args below meth c H locs cells slots Q (F0 m 369 ls []) := by
  refine W.widen (k := cells + 1) (n := slots + 6) (Nat.le_succ _) (Nat.le_add_right _ _) ?_
  refine lv_aload_n C.1.1 C.1.2.1 dl_369 rfl (lv_at hl 1 rfl) ?_
  refine lv_aload_n C.1.1 C.1.2.1 dl_370 rfl (lv_at hl 0 rfl) ?_
  refine lv_iload C.1.1 C.1.2.1 dl_371 (lv_at hl 4 rfl) ?_
  refine lv_iconst (v := 1) C.1.1 C.1.2.1 dl_373 (by decide) ?_
  refine lv_iadd C.1.1 C.1.2.1 dl_374 ?_
  refine va_sld C.1.1 C.1.2.1 hX hbl hbA hS i1 dl_375 ?_
  refine lw_goF (h := h) (hm := hm) (As := [.int (xs (i + 1).toNatClampNeg)]) C c_g155 (cwV 1 C.1.2.2.2.2 (kk_gV kw_302 kw_303 kw_304 kw_1 kw_305) rfl rfl rfl (by decide +kernel) ⟨Nat.le_of_ble_eq_true rfl, Nat.le_of_ble_eq_true rfl⟩) gI_N0 (List.forall_mem_cons.mpr ⟨⟨by decide, by decide⟩, List.forall_mem_cons.mpr ⟨⟨by decide, by decide⟩, fun _ h => absurd h List.not_mem_nil⟩⟩) (⟨Or.inr ⟨0, List.mem_cons_self, rfl⟩, ⟨⟨_, rfl, hc0⟩, trivial⟩⟩) hP hD hS rfl hl.1 rfl dl_376 hf (fun r f1 g1 H1 locs1 hq hP hD hS => ?_)
  obtain ⟨o, ho1, hr, hT⟩ := hq
  obtain ⟨x, rfl, hx⟩ := ck_isN_ok (List.all_eq_true.mp (show q_g155.2.all (ck_isN 0) = true by decide) o ho1) hr
  show W p l e room_1 s m args below meth c H1 locs1 (cells + 1) (slots + 6) Q (F0 m 379 ls [.int x])
  refine lv_aload_n C.1.1 C.1.2.1 dl_379 rfl (lv_at hl 2 rfl) ?_
  refine lv_aload_n C.1.1 C.1.2.1 dl_380 rfl (lv_at hl 0 rfl) ?_
  refine lv_iload C.1.1 C.1.2.1 dl_381 (lv_at hl 4 rfl) ?_
  refine lv_iconst (v := 1) C.1.1 C.1.2.1 dl_383 (by decide) ?_
  refine lv_iadd C.1.1 C.1.2.1 dl_384 ?_
  refine va_sld C.1.1 C.1.2.1 hX hbl hbA hS i1 dl_385 ?_
  refine lm_goR (h := h) (hm := hm) (As := [.int (xs (i + 1).toNatClampNeg)]) (rest := [.int x]) C (c_m76 xL_ok) (cwV 1 C.1.2.2.2.2 (kk_gV kw_948 kw_949 kw_950 kw_9 kw_951) rfl rfl rfl (by decide +kernel) ⟨Nat.le_of_ble_eq_true rfl, Nat.le_of_ble_eq_true rfl⟩) gI_M0 (List.forall_mem_cons.mpr ⟨⟨by decide, by decide⟩, List.forall_mem_cons.mpr ⟨⟨by decide, by decide⟩, List.forall_mem_cons.mpr ⟨⟨by decide, by decide⟩, List.forall_mem_cons.mpr ⟨⟨by decide, by decide⟩, List.forall_mem_cons.mpr ⟨⟨by decide, by decide⟩, fun _ h => absurd h List.not_mem_nil⟩⟩⟩⟩⟩) (⟨Or.inr ⟨0, List.mem_cons_self, rfl⟩, ⟨⟨_, rfl, hc0⟩, trivial⟩⟩) hP hD hS rfl hl.1 rfl (Nat.le_of_ble_eq_true rfl) dl_386 hf (fun r f2 g2 H2 locs2 hq2 hJ2 hP hD hS => ?_)
  obtain ⟨o2, ho2, hr2, hT2⟩ := hq2
  have h8 := List.all_eq_true.mp (show q_m76.2.all (fun o => ck_isN 0 o && true) = true by decide) o2 ho2
  simp only [Bool.and_eq_true] at h8
  obtain ⟨x2, rfl, hx2⟩ := ck_isN_ok h8.1 hr2
  show W p l e room_1 s m args below meth c H2 locs2 (cells + 1) (slots + 6) Q (F0 m 389 ls [.int x2, .int x])
  refine lv_icmp_eq (tgt := 840) C.1.1 C.1.2.1 dl_389 (by decide) (fun _ => ?_) (fun hne => absurd (Int32.toInt_inj.mp (hx.trans hx2.symm)) hne)
  exact kk H2 locs2 _ hS hl
theorem lo_6_g156 {p : Program} {l : Launch} {e : Env} {s : State} {m : MethodId} {args : Array Value} {below : List Frame} {meth : Method} {c : Code} {H : Heap} {locs : List Loc} {cells slots : Nat} {Q : State → Prop} {D : va_G} {B : Nat} {A : Nat → Prop} {h hm : Nat → Nat} {cI cZ cJ : ClassId} {ho : Nat} {ls : Array Slot} {b L : Nat} {xs : Nat → Int32} {i : Int32} {cx : Cond} (hfl : l.flags = flags0) (C : zz_Cx p m meth c code 7 ret s args (cx :: kk_W) "NightCyclerLaw" D vN (tyN cI cZ cJ) A B (xL B h)) (hX : va_X b L xs s s.heap) (hbl : b < s.heap.size) (hbA : ¬ A b) (i1 : vp_in (i + 1) L) (i2 : vp_in (i + 2) L) (hP : va_P D vN (wW cI cZ cJ ho h hm fN0 gN0 fM0 gM0) H) (hD : va_D A (wW cI cZ cJ ho h hm fN0 gN0 fM0 gM0)) (hS : va_S A s.heap H locs) (hl : lv_has ls 7 [(0, .ref b), (1, .ref (h 0)), (2, .ref (hm 0)), (3, .ref ho), (4, .int i)]) (hf : cells + 1 ≤ room_1.cells ∧ slots + 6 ≤ room_1.slots) (hc0 : (0 : Int) ≤ (xs (i + 1).toNatClampNeg).toInt ∧ (xs (i + 1).toNatClampNeg).toInt ≤ (100000 : Int)) (kk : ∀ (H1 : Heap) (locs1 : List Loc) (ls1 : Array Slot), va_S A s.heap H1 locs1 → lv_has ls1 7 [(0, .ref b), (1, .ref (h 0)), (2, .ref (hm 0)), (3, .ref ho), (4, .int i)] → W p l e room_1 s m args below meth c H1 locs1 (cells + 1) (slots + 6) Q (F0 m 840 ls1 [])) : W p l e room_1 s m args below meth c H locs cells slots Q (F0 m 369 ls []) := by
  refine W.widen (k := cells + 1) (n := slots + 6) (Nat.le_succ _) (Nat.le_add_right _ _) ?_
  refine lv_aload_n C.1.1 C.1.2.1 dl_369 rfl (lv_at hl 1 rfl) ?_
  refine lv_aload_n C.1.1 C.1.2.1 dl_370 rfl (lv_at hl 0 rfl) ?_
  refine lv_iload C.1.1 C.1.2.1 dl_371 (lv_at hl 4 rfl) ?_
  refine lv_iconst (v := 1) C.1.1 C.1.2.1 dl_373 (by decide) ?_
  refine lv_iadd C.1.1 C.1.2.1 dl_374 ?_
  refine va_sld C.1.1 C.1.2.1 hX hbl hbA hS i1 dl_375 ?_
  refine lw_goF (h := h) (hm := hm) (As := [.int (xs (i + 1).toNatClampNeg)]) C c_g156 (cwV 1 C.1.2.2.2.2 (kk_gV kw_302 kw_303 kw_304 kw_1 kw_305) rfl rfl rfl (by decide +kernel) ⟨Nat.le_of_ble_eq_true rfl, Nat.le_of_ble_eq_true rfl⟩) gI_N0 (List.forall_mem_cons.mpr ⟨⟨by decide, by decide⟩, List.forall_mem_cons.mpr ⟨⟨by decide, by decide⟩, fun _ h => absurd h List.not_mem_nil⟩⟩) (⟨Or.inr ⟨0, List.mem_cons_self, rfl⟩, ⟨⟨_, rfl, hc0⟩, trivial⟩⟩) hP hD hS rfl hl.1 rfl dl_376 hf (fun r f1 g1 H1 locs1 hq hP hD hS => ?_)
  obtain ⟨o, ho1, hr, hT⟩ := hq
  obtain ⟨x, rfl, hx⟩ := ck_isN_ok (List.all_eq_true.mp (show q_g156.2.all (ck_isN 1) = true by decide) o ho1) hr
  show W p l e room_1 s m args below meth c H1 locs1 (cells + 1) (slots + 6) Q (F0 m 379 ls [.int x])
  refine lv_aload_n C.1.1 C.1.2.1 dl_379 rfl (lv_at hl 2 rfl) ?_
  refine lv_aload_n C.1.1 C.1.2.1 dl_380 rfl (lv_at hl 0 rfl) ?_
  refine lv_iload C.1.1 C.1.2.1 dl_381 (lv_at hl 4 rfl) ?_
  refine lv_iconst (v := 1) C.1.1 C.1.2.1 dl_383 (by decide) ?_
  refine lv_iadd C.1.1 C.1.2.1 dl_384 ?_
  refine va_sld C.1.1 C.1.2.1 hX hbl hbA hS i1 dl_385 ?_
  refine lm_goR (h := h) (hm := hm) (As := [.int (xs (i + 1).toNatClampNeg)]) (rest := [.int x]) C (c_m77 xL_ok) (cwV 1 C.1.2.2.2.2 (kk_gV kw_948 kw_949 kw_950 kw_9 kw_951) rfl rfl rfl (by decide +kernel) ⟨Nat.le_of_ble_eq_true rfl, Nat.le_of_ble_eq_true rfl⟩) gI_M0 (List.forall_mem_cons.mpr ⟨⟨by decide, by decide⟩, List.forall_mem_cons.mpr ⟨⟨by decide, by decide⟩, List.forall_mem_cons.mpr ⟨⟨by decide, by decide⟩, List.forall_mem_cons.mpr ⟨⟨by decide, by decide⟩, List.forall_mem_cons.mpr ⟨⟨by decide, by decide⟩, fun _ h => absurd h List.not_mem_nil⟩⟩⟩⟩⟩) (⟨Or.inr ⟨0, List.mem_cons_self, rfl⟩, ⟨⟨_, rfl, hc0⟩, trivial⟩⟩) hP hD hS rfl hl.1 rfl (Nat.le_of_ble_eq_true rfl) dl_386 hf (fun r f2 g2 H2 locs2 hq2 hJ2 hP hD hS => ?_)
  obtain ⟨o2, ho2, hr2, hT2⟩ := hq2
  have h8 := List.all_eq_true.mp (show q_m77.2.all (fun o => ck_isN 1 o && true) = true by decide) o2 ho2
  simp only [Bool.and_eq_true] at h8
  obtain ⟨x2, rfl, hx2⟩ := ck_isN_ok h8.1 hr2
  show W p l e room_1 s m args below meth c H2 locs2 (cells + 1) (slots + 6) Q (F0 m 389 ls [.int x2, .int x])
  refine lv_icmp_eq (tgt := 840) C.1.1 C.1.2.1 dl_389 (by decide) (fun _ => ?_) (fun hne => absurd (Int32.toInt_inj.mp (hx.trans hx2.symm)) hne)
  exact kk H2 locs2 _ hS hl
theorem lo_6_g157 {p : Program} {l : Launch} {e : Env} {s : State} {m : MethodId} {args : Array Value} {below : List Frame} {meth : Method} {c : Code} {H : Heap} {locs : List Loc} {cells slots : Nat} {Q : State → Prop} {D : va_G} {B : Nat} {A : Nat → Prop} {h hm : Nat → Nat} {cI cZ cJ : ClassId} {ho : Nat} {ls : Array Slot} {b L : Nat} {xs : Nat → Int32} {i : Int32} {cx : Cond} (hfl : l.flags = flags0) (C : zz_Cx p m meth c code 7 ret s args (cx :: kk_W) "NightCyclerLaw" D vN (tyN cI cZ cJ) A B (xL B h)) (hX : va_X b L xs s s.heap) (hbl : b < s.heap.size) (hbA : ¬ A b) (i1 : vp_in (i + 1) L) (i2 : vp_in (i + 2) L) (hP : va_P D vN (wW cI cZ cJ ho h hm fN0 gN0 fM0 gM0) H) (hD : va_D A (wW cI cZ cJ ho h hm fN0 gN0 fM0 gM0)) (hS : va_S A s.heap H locs) (hl : lv_has ls 7 [(0, .ref b), (1, .ref (h 0)), (2, .ref (hm 0)), (3, .ref ho), (4, .int i)]) (hf : cells + 1 ≤ room_1.cells ∧ slots + 6 ≤ room_1.slots) (hc0 : (100001 : Int) ≤ (xs (i + 1).toNatClampNeg).toInt ∧ (xs (i + 1).toNatClampNeg).toInt ≤ (2147483647 : Int)) (kk : ∀ (H1 : Heap) (locs1 : List Loc) (ls1 : Array Slot), va_S A s.heap H1 locs1 → lv_has ls1 7 [(0, .ref b), (1, .ref (h 0)), (2, .ref (hm 0)), (3, .ref ho), (4, .int i)] → W p l e room_1 s m args below meth c H1 locs1 (cells + 1) (slots + 6) Q (F0 m 840 ls1 [])) : W p l e room_1 s m args below meth c H locs cells slots Q (F0 m 369 ls []) := by
  refine W.widen (k := cells + 1) (n := slots + 6) (Nat.le_succ _) (Nat.le_add_right _ _) ?_
  refine lv_aload_n C.1.1 C.1.2.1 dl_369 rfl (lv_at hl 1 rfl) ?_
  refine lv_aload_n C.1.1 C.1.2.1 dl_370 rfl (lv_at hl 0 rfl) ?_
  refine lv_iload C.1.1 C.1.2.1 dl_371 (lv_at hl 4 rfl) ?_
  refine lv_iconst (v := 1) C.1.1 C.1.2.1 dl_373 (by decide) ?_
  refine lv_iadd C.1.1 C.1.2.1 dl_374 ?_
  refine va_sld C.1.1 C.1.2.1 hX hbl hbA hS i1 dl_375 ?_
  refine lw_goF (h := h) (hm := hm) (As := [.int (xs (i + 1).toNatClampNeg)]) C c_g157 (cwV 1 C.1.2.2.2.2 (kk_gV kw_302 kw_303 kw_304 kw_1 kw_305) rfl rfl rfl (by decide +kernel) ⟨Nat.le_of_ble_eq_true rfl, Nat.le_of_ble_eq_true rfl⟩) gI_N0 (List.forall_mem_cons.mpr ⟨⟨by decide, by decide⟩, List.forall_mem_cons.mpr ⟨⟨by decide, by decide⟩, fun _ h => absurd h List.not_mem_nil⟩⟩) (⟨Or.inr ⟨0, List.mem_cons_self, rfl⟩, ⟨⟨_, rfl, hc0⟩, trivial⟩⟩) hP hD hS rfl hl.1 rfl dl_376 hf (fun r f1 g1 H1 locs1 hq hP hD hS => ?_)
  obtain ⟨o, ho1, hr, hT⟩ := hq
  obtain ⟨x, rfl, hx⟩ := ck_isN_ok (List.all_eq_true.mp (show q_g157.2.all (ck_isN 0) = true by decide) o ho1) hr
  show W p l e room_1 s m args below meth c H1 locs1 (cells + 1) (slots + 6) Q (F0 m 379 ls [.int x])
  refine lv_aload_n C.1.1 C.1.2.1 dl_379 rfl (lv_at hl 2 rfl) ?_
  refine lv_aload_n C.1.1 C.1.2.1 dl_380 rfl (lv_at hl 0 rfl) ?_
  refine lv_iload C.1.1 C.1.2.1 dl_381 (lv_at hl 4 rfl) ?_
  refine lv_iconst (v := 1) C.1.1 C.1.2.1 dl_383 (by decide) ?_
  refine lv_iadd C.1.1 C.1.2.1 dl_384 ?_
  refine va_sld C.1.1 C.1.2.1 hX hbl hbA hS i1 dl_385 ?_
  refine lm_goR (h := h) (hm := hm) (As := [.int (xs (i + 1).toNatClampNeg)]) (rest := [.int x]) C (c_m78 xL_ok) (cwV 1 C.1.2.2.2.2 (kk_gV kw_948 kw_949 kw_950 kw_9 kw_951) rfl rfl rfl (by decide +kernel) ⟨Nat.le_of_ble_eq_true rfl, Nat.le_of_ble_eq_true rfl⟩) gI_M0 (List.forall_mem_cons.mpr ⟨⟨by decide, by decide⟩, List.forall_mem_cons.mpr ⟨⟨by decide, by decide⟩, List.forall_mem_cons.mpr ⟨⟨by decide, by decide⟩, List.forall_mem_cons.mpr ⟨⟨by decide, by decide⟩, List.forall_mem_cons.mpr ⟨⟨by decide, by decide⟩, fun _ h => absurd h List.not_mem_nil⟩⟩⟩⟩⟩) (⟨Or.inr ⟨0, List.mem_cons_self, rfl⟩, ⟨⟨_, rfl, hc0⟩, trivial⟩⟩) hP hD hS rfl hl.1 rfl (Nat.le_of_ble_eq_true rfl) dl_386 hf (fun r f2 g2 H2 locs2 hq2 hJ2 hP hD hS => ?_)
  obtain ⟨o2, ho2, hr2, hT2⟩ := hq2
  have h8 := List.all_eq_true.mp (show q_m78.2.all (fun o => ck_isN 0 o && true) = true by decide) o2 ho2
  simp only [Bool.and_eq_true] at h8
  obtain ⟨x2, rfl, hx2⟩ := ck_isN_ok h8.1 hr2
  show W p l e room_1 s m args below meth c H2 locs2 (cells + 1) (slots + 6) Q (F0 m 389 ls [.int x2, .int x])
  refine lv_icmp_eq (tgt := 840) C.1.1 C.1.2.1 dl_389 (by decide) (fun _ => ?_) (fun hne => absurd (Int32.toInt_inj.mp (hx.trans hx2.symm)) hne)
  exact kk H2 locs2 _ hS hl
theorem lo_6 {p : Program} {l : Launch} {e : Env} {s : State} {m : MethodId} {args : Array Value} {below : List Frame} {meth : Method} {c : Code} {H : Heap} {locs : List Loc} {cells slots : Nat} {Q : State → Prop} {D : va_G} {B : Nat} {A : Nat → Prop} {h hm : Nat → Nat} {cI cZ cJ : ClassId} {ho : Nat} {ls : Array Slot} {b L : Nat} {xs : Nat → Int32} {i : Int32} {cx : Cond} (hfl : l.flags = flags0) (C : zz_Cx p m meth c code 7 ret s args (cx :: kk_W) "NightCyclerLaw" D vN (tyN cI cZ cJ) A B (xL B h)) (hX : va_X b L xs s s.heap) (hbl : b < s.heap.size) (hbA : ¬ A b) (i1 : vp_in (i + 1) L) (i2 : vp_in (i + 2) L) (hP : va_P D vN (wW cI cZ cJ ho h hm fN0 gN0 fM0 gM0) H) (hD : va_D A (wW cI cZ cJ ho h hm fN0 gN0 fM0 gM0)) (hS : va_S A s.heap H locs) (hl : lv_has ls 7 [(0, .ref b), (1, .ref (h 0)), (2, .ref (hm 0)), (3, .ref ho), (4, .int i)]) (hf : cells + 1 ≤ room_1.cells ∧ slots + 6 ≤ room_1.slots) (kk : ∀ (H1 : Heap) (locs1 : List Loc) (ls1 : Array Slot), va_S A s.heap H1 locs1 → lv_has ls1 7 [(0, .ref b), (1, .ref (h 0)), (2, .ref (hm 0)), (3, .ref ho), (4, .int i)] → W p l e room_1 s m args below meth c H1 locs1 (cells + 1) (slots + 6) Q (F0 m 840 ls1 [])) : W p l e room_1 s m args below meth c H locs cells slots Q (F0 m 369 ls []) := by
  have hlo0 := i32_lo (xs (i + 1).toNatClampNeg)
  have hhi0 := i32_hi (xs (i + 1).toNatClampNeg)
  rcases (show ((-2147483648 : Int) ≤ (xs (i + 1).toNatClampNeg).toInt ∧ (xs (i + 1).toNatClampNeg).toInt ≤ (-1 : Int)) ∨ ((0 : Int) ≤ (xs (i + 1).toNatClampNeg).toInt ∧ (xs (i + 1).toNatClampNeg).toInt ≤ (100000 : Int)) ∨ ((100001 : Int) ≤ (xs (i + 1).toNatClampNeg).toInt ∧ (xs (i + 1).toNatClampNeg).toInt ≤ (2147483647 : Int)) by omega) with hc0 | hc0 | hc0
  · exact lo_6_g155 hfl C hX hbl hbA i1 i2 hP hD hS hl hf hc0 kk
  · exact lo_6_g156 hfl C hX hbl hbA i1 i2 hP hD hS hl hf hc0 kk
  · exact lo_6_g157 hfl C hX hbl hbA i1 i2 hP hD hS hl hf hc0 kk
theorem lo_7_g159 {p : Program} {l : Launch} {e : Env} {s : State} {m : MethodId} {args : Array Value} {below : List Frame} {meth : Method} {c : Code} {H : Heap} {locs : List Loc} {cells slots : Nat} {Q : State → Prop} {D : va_G} {B : Nat} {A : Nat → Prop} {h hm : Nat → Nat} {cI cZ cJ : ClassId} {ho : Nat} {ls : Array Slot} {b L : Nat} {xs : Nat → Int32} {i : Int32} {cx : Cond} (hfl : l.flags = flags0) (C : zz_Cx p m meth c code 7 ret s args (cx :: kk_W) "NightCyclerLaw" D vN (tyN cI cZ cJ) A B (xL B h)) (hX : va_X b L xs s s.heap) (hbl : b < s.heap.size) (hbA : ¬ A b) (i1 : vp_in (i + 1) L) (i2 : vp_in (i + 2) L) (hP : va_P D vN (wW cI cZ cJ ho h hm fN0 gN0 fM0 gM0) H) (hD : va_D A (wW cI cZ cJ ho h hm fN0 gN0 fM0 gM0)) (hS : va_S A s.heap H locs) (hl : lv_has ls 7 [(0, .ref b), (1, .ref (h 0)), (2, .ref (hm 0)), (3, .ref ho), (4, .int i)]) (hf : cells + 1 ≤ room_1.cells ∧ slots + 6 ≤ room_1.slots) (hc0 : (-2147483648 : Int) ≤ (xs (i + 1).toNatClampNeg).toInt ∧ (xs (i + 1).toNatClampNeg).toInt ≤ (-1 : Int)) (hc1 : (-2147483648 : Int) ≤ (xs (i + 2).toNatClampNeg).toInt ∧ (xs (i + 2).toNatClampNeg).toInt ≤ (-5001 : Int)) (kk : ∀ (H1 : Heap) (locs1 : List Loc) (ls1 : Array Slot), va_S A s.heap H1 locs1 → lv_has ls1 7 [(0, .ref b), (1, .ref (h 0)), (2, .ref (hm 0)), (3, .ref ho), (4, .int i)] → W p l e room_1 s m args below meth c H1 locs1 (cells + 1) (slots + 6) Q (F0 m 840 ls1 [])) : W p l e room_1 s m args below meth c H locs cells slots Q (F0 m 394 ls []) := by
  refine W.widen (k := cells + 1) (n := slots + 6) (Nat.le_succ _) (Nat.le_add_right _ _) ?_
  refine lv_aload_n C.1.1 C.1.2.1 dl_394 rfl (lv_at hl 1 rfl) ?_
  refine lv_aload_n C.1.1 C.1.2.1 dl_395 rfl (lv_at hl 0 rfl) ?_
  refine lv_iload C.1.1 C.1.2.1 dl_396 (lv_at hl 4 rfl) ?_
  refine lv_iconst (v := 1) C.1.1 C.1.2.1 dl_398 (by decide) ?_
  refine lv_iadd C.1.1 C.1.2.1 dl_399 ?_
  refine va_sld C.1.1 C.1.2.1 hX hbl hbA hS i1 dl_400 ?_
  refine lv_aload_n C.1.1 C.1.2.1 dl_401 rfl (lv_at hl 0 rfl) ?_
  refine lv_iload C.1.1 C.1.2.1 dl_402 (lv_at hl 4 rfl) ?_
  refine lv_iconst (v := 2) C.1.1 C.1.2.1 dl_404 (by decide) ?_
  refine lv_iadd C.1.1 C.1.2.1 dl_405 ?_
  refine va_sld C.1.1 C.1.2.1 hX hbl hbA hS i2 dl_406 ?_
  refine lw_goF (h := h) (hm := hm) (As := [.int (xs (i + 1).toNatClampNeg), .int (xs (i + 2).toNatClampNeg)]) C c_g159 (cwV 2 C.1.2.2.2.2 (kk_gV kw_319 kw_320 kw_321 kw_1 kw_322) rfl rfl rfl (by decide +kernel) ⟨Nat.le_of_ble_eq_true rfl, Nat.le_of_ble_eq_true rfl⟩) gI_N0 (List.forall_mem_cons.mpr ⟨⟨by decide, by decide⟩, List.forall_mem_cons.mpr ⟨⟨by decide, by decide⟩, fun _ h => absurd h List.not_mem_nil⟩⟩) (⟨Or.inr ⟨0, List.mem_cons_self, rfl⟩, ⟨⟨_, rfl, hc0⟩, ⟨⟨_, rfl, hc1⟩, trivial⟩⟩⟩) hP hD hS rfl hl.1 rfl dl_407 hf (fun r f1 g1 H1 locs1 hq hP hD hS => ?_)
  obtain ⟨o, ho1, hr, hT⟩ := hq
  obtain ⟨x, rfl, hx⟩ := ck_isN_ok (List.all_eq_true.mp (show q_g159.2.all (ck_isN 0) = true by decide) o ho1) hr
  show W p l e room_1 s m args below meth c H1 locs1 (cells + 1) (slots + 6) Q (F0 m 410 ls [.int x])
  refine lv_aload_n C.1.1 C.1.2.1 dl_410 rfl (lv_at hl 2 rfl) ?_
  refine lv_aload_n C.1.1 C.1.2.1 dl_411 rfl (lv_at hl 0 rfl) ?_
  refine lv_iload C.1.1 C.1.2.1 dl_412 (lv_at hl 4 rfl) ?_
  refine lv_iconst (v := 1) C.1.1 C.1.2.1 dl_414 (by decide) ?_
  refine lv_iadd C.1.1 C.1.2.1 dl_415 ?_
  refine va_sld C.1.1 C.1.2.1 hX hbl hbA hS i1 dl_416 ?_
  refine lv_aload_n C.1.1 C.1.2.1 dl_417 rfl (lv_at hl 0 rfl) ?_
  refine lv_iload C.1.1 C.1.2.1 dl_418 (lv_at hl 4 rfl) ?_
  refine lv_iconst (v := 2) C.1.1 C.1.2.1 dl_420 (by decide) ?_
  refine lv_iadd C.1.1 C.1.2.1 dl_421 ?_
  refine va_sld C.1.1 C.1.2.1 hX hbl hbA hS i2 dl_422 ?_
  refine lm_goR (h := h) (hm := hm) (As := [.int (xs (i + 1).toNatClampNeg), .int (xs (i + 2).toNatClampNeg)]) (rest := [.int x]) C (c_m79 xL_ok) (cwV 2 C.1.2.2.2.2 (kk_gV kw_953 kw_954 kw_955 kw_9 kw_956) rfl rfl rfl (by decide +kernel) ⟨Nat.le_of_ble_eq_true rfl, Nat.le_of_ble_eq_true rfl⟩) gI_M0 (List.forall_mem_cons.mpr ⟨⟨by decide, by decide⟩, List.forall_mem_cons.mpr ⟨⟨by decide, by decide⟩, List.forall_mem_cons.mpr ⟨⟨by decide, by decide⟩, List.forall_mem_cons.mpr ⟨⟨by decide, by decide⟩, List.forall_mem_cons.mpr ⟨⟨by decide, by decide⟩, fun _ h => absurd h List.not_mem_nil⟩⟩⟩⟩⟩) (⟨Or.inr ⟨0, List.mem_cons_self, rfl⟩, ⟨⟨_, rfl, hc0⟩, ⟨⟨_, rfl, hc1⟩, trivial⟩⟩⟩) hP hD hS rfl hl.1 rfl (Nat.le_of_ble_eq_true rfl) dl_423 hf (fun r f2 g2 H2 locs2 hq2 hJ2 hP hD hS => ?_)
  obtain ⟨o2, ho2, hr2, hT2⟩ := hq2
  have h8 := List.all_eq_true.mp (show q_m79.2.all (fun o => ck_isN 0 o && true) = true by decide) o2 ho2
  simp only [Bool.and_eq_true] at h8
  obtain ⟨x2, rfl, hx2⟩ := ck_isN_ok h8.1 hr2
  show W p l e room_1 s m args below meth c H2 locs2 (cells + 1) (slots + 6) Q (F0 m 426 ls [.int x2, .int x])
  refine lv_icmp_eq (tgt := 840) C.1.1 C.1.2.1 dl_426 (by decide) (fun _ => ?_) (fun hne => absurd (Int32.toInt_inj.mp (hx.trans hx2.symm)) hne)
  exact kk H2 locs2 _ hS hl
theorem lo_7_g161 {p : Program} {l : Launch} {e : Env} {s : State} {m : MethodId} {args : Array Value} {below : List Frame} {meth : Method} {c : Code} {H : Heap} {locs : List Loc} {cells slots : Nat} {Q : State → Prop} {D : va_G} {B : Nat} {A : Nat → Prop} {h hm : Nat → Nat} {cI cZ cJ : ClassId} {ho : Nat} {ls : Array Slot} {b L : Nat} {xs : Nat → Int32} {i : Int32} {cx : Cond} (hfl : l.flags = flags0) (C : zz_Cx p m meth c code 7 ret s args (cx :: kk_W) "NightCyclerLaw" D vN (tyN cI cZ cJ) A B (xL B h)) (hX : va_X b L xs s s.heap) (hbl : b < s.heap.size) (hbA : ¬ A b) (i1 : vp_in (i + 1) L) (i2 : vp_in (i + 2) L) (hP : va_P D vN (wW cI cZ cJ ho h hm fN0 gN0 fM0 gM0) H) (hD : va_D A (wW cI cZ cJ ho h hm fN0 gN0 fM0 gM0)) (hS : va_S A s.heap H locs) (hl : lv_has ls 7 [(0, .ref b), (1, .ref (h 0)), (2, .ref (hm 0)), (3, .ref ho), (4, .int i)]) (hf : cells + 1 ≤ room_1.cells ∧ slots + 6 ≤ room_1.slots) (hc0 : (-2147483648 : Int) ≤ (xs (i + 1).toNatClampNeg).toInt ∧ (xs (i + 1).toNatClampNeg).toInt ≤ (-1 : Int)) (hc1 : (-5000 : Int) ≤ (xs (i + 2).toNatClampNeg).toInt ∧ (xs (i + 2).toNatClampNeg).toInt ≤ (10000 : Int)) (kk : ∀ (H1 : Heap) (locs1 : List Loc) (ls1 : Array Slot), va_S A s.heap H1 locs1 → lv_has ls1 7 [(0, .ref b), (1, .ref (h 0)), (2, .ref (hm 0)), (3, .ref ho), (4, .int i)] → W p l e room_1 s m args below meth c H1 locs1 (cells + 1) (slots + 6) Q (F0 m 840 ls1 [])) : W p l e room_1 s m args below meth c H locs cells slots Q (F0 m 394 ls []) := by
  refine W.widen (k := cells + 1) (n := slots + 6) (Nat.le_succ _) (Nat.le_add_right _ _) ?_
  refine lv_aload_n C.1.1 C.1.2.1 dl_394 rfl (lv_at hl 1 rfl) ?_
  refine lv_aload_n C.1.1 C.1.2.1 dl_395 rfl (lv_at hl 0 rfl) ?_
  refine lv_iload C.1.1 C.1.2.1 dl_396 (lv_at hl 4 rfl) ?_
  refine lv_iconst (v := 1) C.1.1 C.1.2.1 dl_398 (by decide) ?_
  refine lv_iadd C.1.1 C.1.2.1 dl_399 ?_
  refine va_sld C.1.1 C.1.2.1 hX hbl hbA hS i1 dl_400 ?_
  refine lv_aload_n C.1.1 C.1.2.1 dl_401 rfl (lv_at hl 0 rfl) ?_
  refine lv_iload C.1.1 C.1.2.1 dl_402 (lv_at hl 4 rfl) ?_
  refine lv_iconst (v := 2) C.1.1 C.1.2.1 dl_404 (by decide) ?_
  refine lv_iadd C.1.1 C.1.2.1 dl_405 ?_
  refine va_sld C.1.1 C.1.2.1 hX hbl hbA hS i2 dl_406 ?_
  refine lw_goF (h := h) (hm := hm) (As := [.int (xs (i + 1).toNatClampNeg), .int (xs (i + 2).toNatClampNeg)]) C c_g161 (cwV 2 C.1.2.2.2.2 (kk_gV kw_319 kw_320 kw_321 kw_1 kw_322) rfl rfl rfl (by decide +kernel) ⟨Nat.le_of_ble_eq_true rfl, Nat.le_of_ble_eq_true rfl⟩) gI_N0 (List.forall_mem_cons.mpr ⟨⟨by decide, by decide⟩, List.forall_mem_cons.mpr ⟨⟨by decide, by decide⟩, fun _ h => absurd h List.not_mem_nil⟩⟩) (⟨Or.inr ⟨0, List.mem_cons_self, rfl⟩, ⟨⟨_, rfl, hc0⟩, ⟨⟨_, rfl, hc1⟩, trivial⟩⟩⟩) hP hD hS rfl hl.1 rfl dl_407 hf (fun r f1 g1 H1 locs1 hq hP hD hS => ?_)
  obtain ⟨o, ho1, hr, hT⟩ := hq
  obtain ⟨x, rfl, hx⟩ := ck_isN_ok (List.all_eq_true.mp (show q_g161.2.all (ck_isN 0) = true by decide) o ho1) hr
  show W p l e room_1 s m args below meth c H1 locs1 (cells + 1) (slots + 6) Q (F0 m 410 ls [.int x])
  refine lv_aload_n C.1.1 C.1.2.1 dl_410 rfl (lv_at hl 2 rfl) ?_
  refine lv_aload_n C.1.1 C.1.2.1 dl_411 rfl (lv_at hl 0 rfl) ?_
  refine lv_iload C.1.1 C.1.2.1 dl_412 (lv_at hl 4 rfl) ?_
  refine lv_iconst (v := 1) C.1.1 C.1.2.1 dl_414 (by decide) ?_
  refine lv_iadd C.1.1 C.1.2.1 dl_415 ?_
  refine va_sld C.1.1 C.1.2.1 hX hbl hbA hS i1 dl_416 ?_
  refine lv_aload_n C.1.1 C.1.2.1 dl_417 rfl (lv_at hl 0 rfl) ?_
  refine lv_iload C.1.1 C.1.2.1 dl_418 (lv_at hl 4 rfl) ?_
  refine lv_iconst (v := 2) C.1.1 C.1.2.1 dl_420 (by decide) ?_
  refine lv_iadd C.1.1 C.1.2.1 dl_421 ?_
  refine va_sld C.1.1 C.1.2.1 hX hbl hbA hS i2 dl_422 ?_
  refine lm_goR (h := h) (hm := hm) (As := [.int (xs (i + 1).toNatClampNeg), .int (xs (i + 2).toNatClampNeg)]) (rest := [.int x]) C (c_m80 xL_ok) (cwV 2 C.1.2.2.2.2 (kk_gV kw_953 kw_954 kw_955 kw_9 kw_956) rfl rfl rfl (by decide +kernel) ⟨Nat.le_of_ble_eq_true rfl, Nat.le_of_ble_eq_true rfl⟩) gI_M0 (List.forall_mem_cons.mpr ⟨⟨by decide, by decide⟩, List.forall_mem_cons.mpr ⟨⟨by decide, by decide⟩, List.forall_mem_cons.mpr ⟨⟨by decide, by decide⟩, List.forall_mem_cons.mpr ⟨⟨by decide, by decide⟩, List.forall_mem_cons.mpr ⟨⟨by decide, by decide⟩, fun _ h => absurd h List.not_mem_nil⟩⟩⟩⟩⟩) (⟨Or.inr ⟨0, List.mem_cons_self, rfl⟩, ⟨⟨_, rfl, hc0⟩, ⟨⟨_, rfl, hc1⟩, trivial⟩⟩⟩) hP hD hS rfl hl.1 rfl (Nat.le_of_ble_eq_true rfl) dl_423 hf (fun r f2 g2 H2 locs2 hq2 hJ2 hP hD hS => ?_)
  obtain ⟨o2, ho2, hr2, hT2⟩ := hq2
  have h8 := List.all_eq_true.mp (show q_m80.2.all (fun o => ck_isN 0 o && true) = true by decide) o2 ho2
  simp only [Bool.and_eq_true] at h8
  obtain ⟨x2, rfl, hx2⟩ := ck_isN_ok h8.1 hr2
  show W p l e room_1 s m args below meth c H2 locs2 (cells + 1) (slots + 6) Q (F0 m 426 ls [.int x2, .int x])
  refine lv_icmp_eq (tgt := 840) C.1.1 C.1.2.1 dl_426 (by decide) (fun _ => ?_) (fun hne => absurd (Int32.toInt_inj.mp (hx.trans hx2.symm)) hne)
  exact kk H2 locs2 _ hS hl
theorem lo_7_g163 {p : Program} {l : Launch} {e : Env} {s : State} {m : MethodId} {args : Array Value} {below : List Frame} {meth : Method} {c : Code} {H : Heap} {locs : List Loc} {cells slots : Nat} {Q : State → Prop} {D : va_G} {B : Nat} {A : Nat → Prop} {h hm : Nat → Nat} {cI cZ cJ : ClassId} {ho : Nat} {ls : Array Slot} {b L : Nat} {xs : Nat → Int32} {i : Int32} {cx : Cond} (hfl : l.flags = flags0) (C : zz_Cx p m meth c code 7 ret s args (cx :: kk_W) "NightCyclerLaw" D vN (tyN cI cZ cJ) A B (xL B h)) (hX : va_X b L xs s s.heap) (hbl : b < s.heap.size) (hbA : ¬ A b) (i1 : vp_in (i + 1) L) (i2 : vp_in (i + 2) L) (hP : va_P D vN (wW cI cZ cJ ho h hm fN0 gN0 fM0 gM0) H) (hD : va_D A (wW cI cZ cJ ho h hm fN0 gN0 fM0 gM0)) (hS : va_S A s.heap H locs) (hl : lv_has ls 7 [(0, .ref b), (1, .ref (h 0)), (2, .ref (hm 0)), (3, .ref ho), (4, .int i)]) (hf : cells + 1 ≤ room_1.cells ∧ slots + 6 ≤ room_1.slots) (hc0 : (-2147483648 : Int) ≤ (xs (i + 1).toNatClampNeg).toInt ∧ (xs (i + 1).toNatClampNeg).toInt ≤ (-1 : Int)) (hc1 : (10001 : Int) ≤ (xs (i + 2).toNatClampNeg).toInt ∧ (xs (i + 2).toNatClampNeg).toInt ≤ (2147483647 : Int)) (kk : ∀ (H1 : Heap) (locs1 : List Loc) (ls1 : Array Slot), va_S A s.heap H1 locs1 → lv_has ls1 7 [(0, .ref b), (1, .ref (h 0)), (2, .ref (hm 0)), (3, .ref ho), (4, .int i)] → W p l e room_1 s m args below meth c H1 locs1 (cells + 1) (slots + 6) Q (F0 m 840 ls1 [])) : W p l e room_1 s m args below meth c H locs cells slots Q (F0 m 394 ls []) := by
  refine W.widen (k := cells + 1) (n := slots + 6) (Nat.le_succ _) (Nat.le_add_right _ _) ?_
  refine lv_aload_n C.1.1 C.1.2.1 dl_394 rfl (lv_at hl 1 rfl) ?_
  refine lv_aload_n C.1.1 C.1.2.1 dl_395 rfl (lv_at hl 0 rfl) ?_
  refine lv_iload C.1.1 C.1.2.1 dl_396 (lv_at hl 4 rfl) ?_
  refine lv_iconst (v := 1) C.1.1 C.1.2.1 dl_398 (by decide) ?_
  refine lv_iadd C.1.1 C.1.2.1 dl_399 ?_
  refine va_sld C.1.1 C.1.2.1 hX hbl hbA hS i1 dl_400 ?_
  refine lv_aload_n C.1.1 C.1.2.1 dl_401 rfl (lv_at hl 0 rfl) ?_
  refine lv_iload C.1.1 C.1.2.1 dl_402 (lv_at hl 4 rfl) ?_
  refine lv_iconst (v := 2) C.1.1 C.1.2.1 dl_404 (by decide) ?_
  refine lv_iadd C.1.1 C.1.2.1 dl_405 ?_
  refine va_sld C.1.1 C.1.2.1 hX hbl hbA hS i2 dl_406 ?_
  refine lw_goF (h := h) (hm := hm) (As := [.int (xs (i + 1).toNatClampNeg), .int (xs (i + 2).toNatClampNeg)]) C c_g163 (cwV 2 C.1.2.2.2.2 (kk_gV kw_319 kw_320 kw_321 kw_1 kw_322) rfl rfl rfl (by decide +kernel) ⟨Nat.le_of_ble_eq_true rfl, Nat.le_of_ble_eq_true rfl⟩) gI_N0 (List.forall_mem_cons.mpr ⟨⟨by decide, by decide⟩, List.forall_mem_cons.mpr ⟨⟨by decide, by decide⟩, fun _ h => absurd h List.not_mem_nil⟩⟩) (⟨Or.inr ⟨0, List.mem_cons_self, rfl⟩, ⟨⟨_, rfl, hc0⟩, ⟨⟨_, rfl, hc1⟩, trivial⟩⟩⟩) hP hD hS rfl hl.1 rfl dl_407 hf (fun r f1 g1 H1 locs1 hq hP hD hS => ?_)
  obtain ⟨o, ho1, hr, hT⟩ := hq
  obtain ⟨x, rfl, hx⟩ := ck_isN_ok (List.all_eq_true.mp (show q_g163.2.all (ck_isN 0) = true by decide) o ho1) hr
  show W p l e room_1 s m args below meth c H1 locs1 (cells + 1) (slots + 6) Q (F0 m 410 ls [.int x])
  refine lv_aload_n C.1.1 C.1.2.1 dl_410 rfl (lv_at hl 2 rfl) ?_
  refine lv_aload_n C.1.1 C.1.2.1 dl_411 rfl (lv_at hl 0 rfl) ?_
  refine lv_iload C.1.1 C.1.2.1 dl_412 (lv_at hl 4 rfl) ?_
  refine lv_iconst (v := 1) C.1.1 C.1.2.1 dl_414 (by decide) ?_
  refine lv_iadd C.1.1 C.1.2.1 dl_415 ?_
  refine va_sld C.1.1 C.1.2.1 hX hbl hbA hS i1 dl_416 ?_
  refine lv_aload_n C.1.1 C.1.2.1 dl_417 rfl (lv_at hl 0 rfl) ?_
  refine lv_iload C.1.1 C.1.2.1 dl_418 (lv_at hl 4 rfl) ?_
  refine lv_iconst (v := 2) C.1.1 C.1.2.1 dl_420 (by decide) ?_
  refine lv_iadd C.1.1 C.1.2.1 dl_421 ?_
  refine va_sld C.1.1 C.1.2.1 hX hbl hbA hS i2 dl_422 ?_
  refine lm_goR (h := h) (hm := hm) (As := [.int (xs (i + 1).toNatClampNeg), .int (xs (i + 2).toNatClampNeg)]) (rest := [.int x]) C (c_m81 xL_ok) (cwV 2 C.1.2.2.2.2 (kk_gV kw_953 kw_954 kw_955 kw_9 kw_956) rfl rfl rfl (by decide +kernel) ⟨Nat.le_of_ble_eq_true rfl, Nat.le_of_ble_eq_true rfl⟩) gI_M0 (List.forall_mem_cons.mpr ⟨⟨by decide, by decide⟩, List.forall_mem_cons.mpr ⟨⟨by decide, by decide⟩, List.forall_mem_cons.mpr ⟨⟨by decide, by decide⟩, List.forall_mem_cons.mpr ⟨⟨by decide, by decide⟩, List.forall_mem_cons.mpr ⟨⟨by decide, by decide⟩, fun _ h => absurd h List.not_mem_nil⟩⟩⟩⟩⟩) (⟨Or.inr ⟨0, List.mem_cons_self, rfl⟩, ⟨⟨_, rfl, hc0⟩, ⟨⟨_, rfl, hc1⟩, trivial⟩⟩⟩) hP hD hS rfl hl.1 rfl (Nat.le_of_ble_eq_true rfl) dl_423 hf (fun r f2 g2 H2 locs2 hq2 hJ2 hP hD hS => ?_)
  obtain ⟨o2, ho2, hr2, hT2⟩ := hq2
  have h8 := List.all_eq_true.mp (show q_m81.2.all (fun o => ck_isN 0 o && true) = true by decide) o2 ho2
  simp only [Bool.and_eq_true] at h8
  obtain ⟨x2, rfl, hx2⟩ := ck_isN_ok h8.1 hr2
  show W p l e room_1 s m args below meth c H2 locs2 (cells + 1) (slots + 6) Q (F0 m 426 ls [.int x2, .int x])
  refine lv_icmp_eq (tgt := 840) C.1.1 C.1.2.1 dl_426 (by decide) (fun _ => ?_) (fun hne => absurd (Int32.toInt_inj.mp (hx.trans hx2.symm)) hne)
  exact kk H2 locs2 _ hS hl
theorem lo_7_g165 {p : Program} {l : Launch} {e : Env} {s : State} {m : MethodId} {args : Array Value} {below : List Frame} {meth : Method} {c : Code} {H : Heap} {locs : List Loc} {cells slots : Nat} {Q : State → Prop} {D : va_G} {B : Nat} {A : Nat → Prop} {h hm : Nat → Nat} {cI cZ cJ : ClassId} {ho : Nat} {ls : Array Slot} {b L : Nat} {xs : Nat → Int32} {i : Int32} {cx : Cond} (hfl : l.flags = flags0) (C : zz_Cx p m meth c code 7 ret s args (cx :: kk_W) "NightCyclerLaw" D vN (tyN cI cZ cJ) A B (xL B h)) (hX : va_X b L xs s s.heap) (hbl : b < s.heap.size) (hbA : ¬ A b) (i1 : vp_in (i + 1) L) (i2 : vp_in (i + 2) L) (hP : va_P D vN (wW cI cZ cJ ho h hm fN0 gN0 fM0 gM0) H) (hD : va_D A (wW cI cZ cJ ho h hm fN0 gN0 fM0 gM0)) (hS : va_S A s.heap H locs) (hl : lv_has ls 7 [(0, .ref b), (1, .ref (h 0)), (2, .ref (hm 0)), (3, .ref ho), (4, .int i)]) (hf : cells + 1 ≤ room_1.cells ∧ slots + 6 ≤ room_1.slots) (hc0 : (0 : Int) ≤ (xs (i + 1).toNatClampNeg).toInt ∧ (xs (i + 1).toNatClampNeg).toInt ≤ (1 : Int)) (hc1 : (-2147483648 : Int) ≤ (xs (i + 2).toNatClampNeg).toInt ∧ (xs (i + 2).toNatClampNeg).toInt ≤ (-5001 : Int)) (kk : ∀ (H1 : Heap) (locs1 : List Loc) (ls1 : Array Slot), va_S A s.heap H1 locs1 → lv_has ls1 7 [(0, .ref b), (1, .ref (h 0)), (2, .ref (hm 0)), (3, .ref ho), (4, .int i)] → W p l e room_1 s m args below meth c H1 locs1 (cells + 1) (slots + 6) Q (F0 m 840 ls1 [])) : W p l e room_1 s m args below meth c H locs cells slots Q (F0 m 394 ls []) := by
  refine W.widen (k := cells + 1) (n := slots + 6) (Nat.le_succ _) (Nat.le_add_right _ _) ?_
  refine lv_aload_n C.1.1 C.1.2.1 dl_394 rfl (lv_at hl 1 rfl) ?_
  refine lv_aload_n C.1.1 C.1.2.1 dl_395 rfl (lv_at hl 0 rfl) ?_
  refine lv_iload C.1.1 C.1.2.1 dl_396 (lv_at hl 4 rfl) ?_
  refine lv_iconst (v := 1) C.1.1 C.1.2.1 dl_398 (by decide) ?_
  refine lv_iadd C.1.1 C.1.2.1 dl_399 ?_
  refine va_sld C.1.1 C.1.2.1 hX hbl hbA hS i1 dl_400 ?_
  refine lv_aload_n C.1.1 C.1.2.1 dl_401 rfl (lv_at hl 0 rfl) ?_
  refine lv_iload C.1.1 C.1.2.1 dl_402 (lv_at hl 4 rfl) ?_
  refine lv_iconst (v := 2) C.1.1 C.1.2.1 dl_404 (by decide) ?_
  refine lv_iadd C.1.1 C.1.2.1 dl_405 ?_
  refine va_sld C.1.1 C.1.2.1 hX hbl hbA hS i2 dl_406 ?_
  refine lw_goF (h := h) (hm := hm) (As := [.int (xs (i + 1).toNatClampNeg), .int (xs (i + 2).toNatClampNeg)]) C c_g165 (cwV 2 C.1.2.2.2.2 (kk_gV kw_319 kw_320 kw_321 kw_1 kw_322) rfl rfl rfl (by decide +kernel) ⟨Nat.le_of_ble_eq_true rfl, Nat.le_of_ble_eq_true rfl⟩) gI_N0 (List.forall_mem_cons.mpr ⟨⟨by decide, by decide⟩, List.forall_mem_cons.mpr ⟨⟨by decide, by decide⟩, fun _ h => absurd h List.not_mem_nil⟩⟩) (⟨Or.inr ⟨0, List.mem_cons_self, rfl⟩, ⟨⟨_, rfl, hc0⟩, ⟨⟨_, rfl, hc1⟩, trivial⟩⟩⟩) hP hD hS rfl hl.1 rfl dl_407 hf (fun r f1 g1 H1 locs1 hq hP hD hS => ?_)
  obtain ⟨o, ho1, hr, hT⟩ := hq
  obtain ⟨x, rfl, hx⟩ := ck_isN_ok (List.all_eq_true.mp (show q_g165.2.all (ck_isN 0) = true by decide) o ho1) hr
  show W p l e room_1 s m args below meth c H1 locs1 (cells + 1) (slots + 6) Q (F0 m 410 ls [.int x])
  refine lv_aload_n C.1.1 C.1.2.1 dl_410 rfl (lv_at hl 2 rfl) ?_
  refine lv_aload_n C.1.1 C.1.2.1 dl_411 rfl (lv_at hl 0 rfl) ?_
  refine lv_iload C.1.1 C.1.2.1 dl_412 (lv_at hl 4 rfl) ?_
  refine lv_iconst (v := 1) C.1.1 C.1.2.1 dl_414 (by decide) ?_
  refine lv_iadd C.1.1 C.1.2.1 dl_415 ?_
  refine va_sld C.1.1 C.1.2.1 hX hbl hbA hS i1 dl_416 ?_
  refine lv_aload_n C.1.1 C.1.2.1 dl_417 rfl (lv_at hl 0 rfl) ?_
  refine lv_iload C.1.1 C.1.2.1 dl_418 (lv_at hl 4 rfl) ?_
  refine lv_iconst (v := 2) C.1.1 C.1.2.1 dl_420 (by decide) ?_
  refine lv_iadd C.1.1 C.1.2.1 dl_421 ?_
  refine va_sld C.1.1 C.1.2.1 hX hbl hbA hS i2 dl_422 ?_
  refine lm_goR (h := h) (hm := hm) (As := [.int (xs (i + 1).toNatClampNeg), .int (xs (i + 2).toNatClampNeg)]) (rest := [.int x]) C (c_m82 xL_ok) (cwV 2 C.1.2.2.2.2 (kk_gV kw_953 kw_954 kw_955 kw_9 kw_956) rfl rfl rfl (by decide +kernel) ⟨Nat.le_of_ble_eq_true rfl, Nat.le_of_ble_eq_true rfl⟩) gI_M0 (List.forall_mem_cons.mpr ⟨⟨by decide, by decide⟩, List.forall_mem_cons.mpr ⟨⟨by decide, by decide⟩, List.forall_mem_cons.mpr ⟨⟨by decide, by decide⟩, List.forall_mem_cons.mpr ⟨⟨by decide, by decide⟩, List.forall_mem_cons.mpr ⟨⟨by decide, by decide⟩, fun _ h => absurd h List.not_mem_nil⟩⟩⟩⟩⟩) (⟨Or.inr ⟨0, List.mem_cons_self, rfl⟩, ⟨⟨_, rfl, hc0⟩, ⟨⟨_, rfl, hc1⟩, trivial⟩⟩⟩) hP hD hS rfl hl.1 rfl (Nat.le_of_ble_eq_true rfl) dl_423 hf (fun r f2 g2 H2 locs2 hq2 hJ2 hP hD hS => ?_)
  obtain ⟨o2, ho2, hr2, hT2⟩ := hq2
  have h8 := List.all_eq_true.mp (show q_m82.2.all (fun o => ck_isN 0 o && true) = true by decide) o2 ho2
  simp only [Bool.and_eq_true] at h8
  obtain ⟨x2, rfl, hx2⟩ := ck_isN_ok h8.1 hr2
  show W p l e room_1 s m args below meth c H2 locs2 (cells + 1) (slots + 6) Q (F0 m 426 ls [.int x2, .int x])
  refine lv_icmp_eq (tgt := 840) C.1.1 C.1.2.1 dl_426 (by decide) (fun _ => ?_) (fun hne => absurd (Int32.toInt_inj.mp (hx.trans hx2.symm)) hne)
  exact kk H2 locs2 _ hS hl
theorem lo_7_g167 {p : Program} {l : Launch} {e : Env} {s : State} {m : MethodId} {args : Array Value} {below : List Frame} {meth : Method} {c : Code} {H : Heap} {locs : List Loc} {cells slots : Nat} {Q : State → Prop} {D : va_G} {B : Nat} {A : Nat → Prop} {h hm : Nat → Nat} {cI cZ cJ : ClassId} {ho : Nat} {ls : Array Slot} {b L : Nat} {xs : Nat → Int32} {i : Int32} {cx : Cond} (hfl : l.flags = flags0) (C : zz_Cx p m meth c code 7 ret s args (cx :: kk_W) "NightCyclerLaw" D vN (tyN cI cZ cJ) A B (xL B h)) (hX : va_X b L xs s s.heap) (hbl : b < s.heap.size) (hbA : ¬ A b) (i1 : vp_in (i + 1) L) (i2 : vp_in (i + 2) L) (hP : va_P D vN (wW cI cZ cJ ho h hm fN0 gN0 fM0 gM0) H) (hD : va_D A (wW cI cZ cJ ho h hm fN0 gN0 fM0 gM0)) (hS : va_S A s.heap H locs) (hl : lv_has ls 7 [(0, .ref b), (1, .ref (h 0)), (2, .ref (hm 0)), (3, .ref ho), (4, .int i)]) (hf : cells + 1 ≤ room_1.cells ∧ slots + 6 ≤ room_1.slots) (hc0 : (0 : Int) ≤ (xs (i + 1).toNatClampNeg).toInt ∧ (xs (i + 1).toNatClampNeg).toInt ≤ (1 : Int)) (hc1 : (-5000 : Int) ≤ (xs (i + 2).toNatClampNeg).toInt ∧ (xs (i + 2).toNatClampNeg).toInt ≤ (10000 : Int)) (kk : ∀ (H1 : Heap) (locs1 : List Loc) (ls1 : Array Slot), va_S A s.heap H1 locs1 → lv_has ls1 7 [(0, .ref b), (1, .ref (h 0)), (2, .ref (hm 0)), (3, .ref ho), (4, .int i)] → W p l e room_1 s m args below meth c H1 locs1 (cells + 1) (slots + 6) Q (F0 m 840 ls1 [])) : W p l e room_1 s m args below meth c H locs cells slots Q (F0 m 394 ls []) := by
  refine W.widen (k := cells + 1) (n := slots + 6) (Nat.le_succ _) (Nat.le_add_right _ _) ?_
  refine lv_aload_n C.1.1 C.1.2.1 dl_394 rfl (lv_at hl 1 rfl) ?_
  refine lv_aload_n C.1.1 C.1.2.1 dl_395 rfl (lv_at hl 0 rfl) ?_
  refine lv_iload C.1.1 C.1.2.1 dl_396 (lv_at hl 4 rfl) ?_
  refine lv_iconst (v := 1) C.1.1 C.1.2.1 dl_398 (by decide) ?_
  refine lv_iadd C.1.1 C.1.2.1 dl_399 ?_
  refine va_sld C.1.1 C.1.2.1 hX hbl hbA hS i1 dl_400 ?_
  refine lv_aload_n C.1.1 C.1.2.1 dl_401 rfl (lv_at hl 0 rfl) ?_
  refine lv_iload C.1.1 C.1.2.1 dl_402 (lv_at hl 4 rfl) ?_
  refine lv_iconst (v := 2) C.1.1 C.1.2.1 dl_404 (by decide) ?_
  refine lv_iadd C.1.1 C.1.2.1 dl_405 ?_
  refine va_sld C.1.1 C.1.2.1 hX hbl hbA hS i2 dl_406 ?_
  refine lw_goF (h := h) (hm := hm) (As := [.int (xs (i + 1).toNatClampNeg), .int (xs (i + 2).toNatClampNeg)]) C c_g167 (cwV 2 C.1.2.2.2.2 (kk_gV kw_319 kw_320 kw_321 kw_1 kw_322) rfl rfl rfl (by decide +kernel) ⟨Nat.le_of_ble_eq_true rfl, Nat.le_of_ble_eq_true rfl⟩) gI_N0 (List.forall_mem_cons.mpr ⟨⟨by decide, by decide⟩, List.forall_mem_cons.mpr ⟨⟨by decide, by decide⟩, fun _ h => absurd h List.not_mem_nil⟩⟩) (⟨Or.inr ⟨0, List.mem_cons_self, rfl⟩, ⟨⟨_, rfl, hc0⟩, ⟨⟨_, rfl, hc1⟩, trivial⟩⟩⟩) hP hD hS rfl hl.1 rfl dl_407 hf (fun r f1 g1 H1 locs1 hq hP hD hS => ?_)
  obtain ⟨o, ho1, hr, hT⟩ := hq
  obtain ⟨x, rfl, hx⟩ := ck_isN_ok (List.all_eq_true.mp (show q_g167.2.all (ck_isN 1) = true by decide) o ho1) hr
  show W p l e room_1 s m args below meth c H1 locs1 (cells + 1) (slots + 6) Q (F0 m 410 ls [.int x])
  refine lv_aload_n C.1.1 C.1.2.1 dl_410 rfl (lv_at hl 2 rfl) ?_
  refine lv_aload_n C.1.1 C.1.2.1 dl_411 rfl (lv_at hl 0 rfl) ?_
  refine lv_iload C.1.1 C.1.2.1 dl_412 (lv_at hl 4 rfl) ?_
  refine lv_iconst (v := 1) C.1.1 C.1.2.1 dl_414 (by decide) ?_
  refine lv_iadd C.1.1 C.1.2.1 dl_415 ?_
  refine va_sld C.1.1 C.1.2.1 hX hbl hbA hS i1 dl_416 ?_
  refine lv_aload_n C.1.1 C.1.2.1 dl_417 rfl (lv_at hl 0 rfl) ?_
  refine lv_iload C.1.1 C.1.2.1 dl_418 (lv_at hl 4 rfl) ?_
  refine lv_iconst (v := 2) C.1.1 C.1.2.1 dl_420 (by decide) ?_
  refine lv_iadd C.1.1 C.1.2.1 dl_421 ?_
  refine va_sld C.1.1 C.1.2.1 hX hbl hbA hS i2 dl_422 ?_
  refine lm_goR (h := h) (hm := hm) (As := [.int (xs (i + 1).toNatClampNeg), .int (xs (i + 2).toNatClampNeg)]) (rest := [.int x]) C (c_m83 xL_ok) (cwV 2 C.1.2.2.2.2 (kk_gV kw_953 kw_954 kw_955 kw_9 kw_956) rfl rfl rfl (by decide +kernel) ⟨Nat.le_of_ble_eq_true rfl, Nat.le_of_ble_eq_true rfl⟩) gI_M0 (List.forall_mem_cons.mpr ⟨⟨by decide, by decide⟩, List.forall_mem_cons.mpr ⟨⟨by decide, by decide⟩, List.forall_mem_cons.mpr ⟨⟨by decide, by decide⟩, List.forall_mem_cons.mpr ⟨⟨by decide, by decide⟩, List.forall_mem_cons.mpr ⟨⟨by decide, by decide⟩, fun _ h => absurd h List.not_mem_nil⟩⟩⟩⟩⟩) (⟨Or.inr ⟨0, List.mem_cons_self, rfl⟩, ⟨⟨_, rfl, hc0⟩, ⟨⟨_, rfl, hc1⟩, trivial⟩⟩⟩) hP hD hS rfl hl.1 rfl (Nat.le_of_ble_eq_true rfl) dl_423 hf (fun r f2 g2 H2 locs2 hq2 hJ2 hP hD hS => ?_)
  obtain ⟨o2, ho2, hr2, hT2⟩ := hq2
  have h8 := List.all_eq_true.mp (show q_m83.2.all (fun o => ck_isN 1 o && true) = true by decide) o2 ho2
  simp only [Bool.and_eq_true] at h8
  obtain ⟨x2, rfl, hx2⟩ := ck_isN_ok h8.1 hr2
  show W p l e room_1 s m args below meth c H2 locs2 (cells + 1) (slots + 6) Q (F0 m 426 ls [.int x2, .int x])
  refine lv_icmp_eq (tgt := 840) C.1.1 C.1.2.1 dl_426 (by decide) (fun _ => ?_) (fun hne => absurd (Int32.toInt_inj.mp (hx.trans hx2.symm)) hne)
  exact kk H2 locs2 _ hS hl
theorem lo_7_g169 {p : Program} {l : Launch} {e : Env} {s : State} {m : MethodId} {args : Array Value} {below : List Frame} {meth : Method} {c : Code} {H : Heap} {locs : List Loc} {cells slots : Nat} {Q : State → Prop} {D : va_G} {B : Nat} {A : Nat → Prop} {h hm : Nat → Nat} {cI cZ cJ : ClassId} {ho : Nat} {ls : Array Slot} {b L : Nat} {xs : Nat → Int32} {i : Int32} {cx : Cond} (hfl : l.flags = flags0) (C : zz_Cx p m meth c code 7 ret s args (cx :: kk_W) "NightCyclerLaw" D vN (tyN cI cZ cJ) A B (xL B h)) (hX : va_X b L xs s s.heap) (hbl : b < s.heap.size) (hbA : ¬ A b) (i1 : vp_in (i + 1) L) (i2 : vp_in (i + 2) L) (hP : va_P D vN (wW cI cZ cJ ho h hm fN0 gN0 fM0 gM0) H) (hD : va_D A (wW cI cZ cJ ho h hm fN0 gN0 fM0 gM0)) (hS : va_S A s.heap H locs) (hl : lv_has ls 7 [(0, .ref b), (1, .ref (h 0)), (2, .ref (hm 0)), (3, .ref ho), (4, .int i)]) (hf : cells + 1 ≤ room_1.cells ∧ slots + 6 ≤ room_1.slots) (hc0 : (0 : Int) ≤ (xs (i + 1).toNatClampNeg).toInt ∧ (xs (i + 1).toNatClampNeg).toInt ≤ (1 : Int)) (hc1 : (10001 : Int) ≤ (xs (i + 2).toNatClampNeg).toInt ∧ (xs (i + 2).toNatClampNeg).toInt ≤ (2147483647 : Int)) (kk : ∀ (H1 : Heap) (locs1 : List Loc) (ls1 : Array Slot), va_S A s.heap H1 locs1 → lv_has ls1 7 [(0, .ref b), (1, .ref (h 0)), (2, .ref (hm 0)), (3, .ref ho), (4, .int i)] → W p l e room_1 s m args below meth c H1 locs1 (cells + 1) (slots + 6) Q (F0 m 840 ls1 [])) : W p l e room_1 s m args below meth c H locs cells slots Q (F0 m 394 ls []) := by
  refine W.widen (k := cells + 1) (n := slots + 6) (Nat.le_succ _) (Nat.le_add_right _ _) ?_
  refine lv_aload_n C.1.1 C.1.2.1 dl_394 rfl (lv_at hl 1 rfl) ?_
  refine lv_aload_n C.1.1 C.1.2.1 dl_395 rfl (lv_at hl 0 rfl) ?_
  refine lv_iload C.1.1 C.1.2.1 dl_396 (lv_at hl 4 rfl) ?_
  refine lv_iconst (v := 1) C.1.1 C.1.2.1 dl_398 (by decide) ?_
  refine lv_iadd C.1.1 C.1.2.1 dl_399 ?_
  refine va_sld C.1.1 C.1.2.1 hX hbl hbA hS i1 dl_400 ?_
  refine lv_aload_n C.1.1 C.1.2.1 dl_401 rfl (lv_at hl 0 rfl) ?_
  refine lv_iload C.1.1 C.1.2.1 dl_402 (lv_at hl 4 rfl) ?_
  refine lv_iconst (v := 2) C.1.1 C.1.2.1 dl_404 (by decide) ?_
  refine lv_iadd C.1.1 C.1.2.1 dl_405 ?_
  refine va_sld C.1.1 C.1.2.1 hX hbl hbA hS i2 dl_406 ?_
  refine lw_goF (h := h) (hm := hm) (As := [.int (xs (i + 1).toNatClampNeg), .int (xs (i + 2).toNatClampNeg)]) C c_g169 (cwV 2 C.1.2.2.2.2 (kk_gV kw_319 kw_320 kw_321 kw_1 kw_322) rfl rfl rfl (by decide +kernel) ⟨Nat.le_of_ble_eq_true rfl, Nat.le_of_ble_eq_true rfl⟩) gI_N0 (List.forall_mem_cons.mpr ⟨⟨by decide, by decide⟩, List.forall_mem_cons.mpr ⟨⟨by decide, by decide⟩, fun _ h => absurd h List.not_mem_nil⟩⟩) (⟨Or.inr ⟨0, List.mem_cons_self, rfl⟩, ⟨⟨_, rfl, hc0⟩, ⟨⟨_, rfl, hc1⟩, trivial⟩⟩⟩) hP hD hS rfl hl.1 rfl dl_407 hf (fun r f1 g1 H1 locs1 hq hP hD hS => ?_)
  obtain ⟨o, ho1, hr, hT⟩ := hq
  obtain ⟨x, rfl, hx⟩ := ck_isN_ok (List.all_eq_true.mp (show q_g169.2.all (ck_isN 0) = true by decide) o ho1) hr
  show W p l e room_1 s m args below meth c H1 locs1 (cells + 1) (slots + 6) Q (F0 m 410 ls [.int x])
  refine lv_aload_n C.1.1 C.1.2.1 dl_410 rfl (lv_at hl 2 rfl) ?_
  refine lv_aload_n C.1.1 C.1.2.1 dl_411 rfl (lv_at hl 0 rfl) ?_
  refine lv_iload C.1.1 C.1.2.1 dl_412 (lv_at hl 4 rfl) ?_
  refine lv_iconst (v := 1) C.1.1 C.1.2.1 dl_414 (by decide) ?_
  refine lv_iadd C.1.1 C.1.2.1 dl_415 ?_
  refine va_sld C.1.1 C.1.2.1 hX hbl hbA hS i1 dl_416 ?_
  refine lv_aload_n C.1.1 C.1.2.1 dl_417 rfl (lv_at hl 0 rfl) ?_
  refine lv_iload C.1.1 C.1.2.1 dl_418 (lv_at hl 4 rfl) ?_
  refine lv_iconst (v := 2) C.1.1 C.1.2.1 dl_420 (by decide) ?_
  refine lv_iadd C.1.1 C.1.2.1 dl_421 ?_
  refine va_sld C.1.1 C.1.2.1 hX hbl hbA hS i2 dl_422 ?_
  refine lm_goR (h := h) (hm := hm) (As := [.int (xs (i + 1).toNatClampNeg), .int (xs (i + 2).toNatClampNeg)]) (rest := [.int x]) C (c_m84 xL_ok) (cwV 2 C.1.2.2.2.2 (kk_gV kw_953 kw_954 kw_955 kw_9 kw_956) rfl rfl rfl (by decide +kernel) ⟨Nat.le_of_ble_eq_true rfl, Nat.le_of_ble_eq_true rfl⟩) gI_M0 (List.forall_mem_cons.mpr ⟨⟨by decide, by decide⟩, List.forall_mem_cons.mpr ⟨⟨by decide, by decide⟩, List.forall_mem_cons.mpr ⟨⟨by decide, by decide⟩, List.forall_mem_cons.mpr ⟨⟨by decide, by decide⟩, List.forall_mem_cons.mpr ⟨⟨by decide, by decide⟩, fun _ h => absurd h List.not_mem_nil⟩⟩⟩⟩⟩) (⟨Or.inr ⟨0, List.mem_cons_self, rfl⟩, ⟨⟨_, rfl, hc0⟩, ⟨⟨_, rfl, hc1⟩, trivial⟩⟩⟩) hP hD hS rfl hl.1 rfl (Nat.le_of_ble_eq_true rfl) dl_423 hf (fun r f2 g2 H2 locs2 hq2 hJ2 hP hD hS => ?_)
  obtain ⟨o2, ho2, hr2, hT2⟩ := hq2
  have h8 := List.all_eq_true.mp (show q_m84.2.all (fun o => ck_isN 0 o && true) = true by decide) o2 ho2
  simp only [Bool.and_eq_true] at h8
  obtain ⟨x2, rfl, hx2⟩ := ck_isN_ok h8.1 hr2
  show W p l e room_1 s m args below meth c H2 locs2 (cells + 1) (slots + 6) Q (F0 m 426 ls [.int x2, .int x])
  refine lv_icmp_eq (tgt := 840) C.1.1 C.1.2.1 dl_426 (by decide) (fun _ => ?_) (fun hne => absurd (Int32.toInt_inj.mp (hx.trans hx2.symm)) hne)
  exact kk H2 locs2 _ hS hl
theorem lo_7_g171 {p : Program} {l : Launch} {e : Env} {s : State} {m : MethodId} {args : Array Value} {below : List Frame} {meth : Method} {c : Code} {H : Heap} {locs : List Loc} {cells slots : Nat} {Q : State → Prop} {D : va_G} {B : Nat} {A : Nat → Prop} {h hm : Nat → Nat} {cI cZ cJ : ClassId} {ho : Nat} {ls : Array Slot} {b L : Nat} {xs : Nat → Int32} {i : Int32} {cx : Cond} (hfl : l.flags = flags0) (C : zz_Cx p m meth c code 7 ret s args (cx :: kk_W) "NightCyclerLaw" D vN (tyN cI cZ cJ) A B (xL B h)) (hX : va_X b L xs s s.heap) (hbl : b < s.heap.size) (hbA : ¬ A b) (i1 : vp_in (i + 1) L) (i2 : vp_in (i + 2) L) (hP : va_P D vN (wW cI cZ cJ ho h hm fN0 gN0 fM0 gM0) H) (hD : va_D A (wW cI cZ cJ ho h hm fN0 gN0 fM0 gM0)) (hS : va_S A s.heap H locs) (hl : lv_has ls 7 [(0, .ref b), (1, .ref (h 0)), (2, .ref (hm 0)), (3, .ref ho), (4, .int i)]) (hf : cells + 1 ≤ room_1.cells ∧ slots + 6 ≤ room_1.slots) (hc0 : (2 : Int) ≤ (xs (i + 1).toNatClampNeg).toInt ∧ (xs (i + 1).toNatClampNeg).toInt ≤ (2147483647 : Int)) (hc1 : (-2147483648 : Int) ≤ (xs (i + 2).toNatClampNeg).toInt ∧ (xs (i + 2).toNatClampNeg).toInt ≤ (-5001 : Int)) (kk : ∀ (H1 : Heap) (locs1 : List Loc) (ls1 : Array Slot), va_S A s.heap H1 locs1 → lv_has ls1 7 [(0, .ref b), (1, .ref (h 0)), (2, .ref (hm 0)), (3, .ref ho), (4, .int i)] → W p l e room_1 s m args below meth c H1 locs1 (cells + 1) (slots + 6) Q (F0 m 840 ls1 [])) : W p l e room_1 s m args below meth c H locs cells slots Q (F0 m 394 ls []) := by
  refine W.widen (k := cells + 1) (n := slots + 6) (Nat.le_succ _) (Nat.le_add_right _ _) ?_
  refine lv_aload_n C.1.1 C.1.2.1 dl_394 rfl (lv_at hl 1 rfl) ?_
  refine lv_aload_n C.1.1 C.1.2.1 dl_395 rfl (lv_at hl 0 rfl) ?_
  refine lv_iload C.1.1 C.1.2.1 dl_396 (lv_at hl 4 rfl) ?_
  refine lv_iconst (v := 1) C.1.1 C.1.2.1 dl_398 (by decide) ?_
  refine lv_iadd C.1.1 C.1.2.1 dl_399 ?_
  refine va_sld C.1.1 C.1.2.1 hX hbl hbA hS i1 dl_400 ?_
  refine lv_aload_n C.1.1 C.1.2.1 dl_401 rfl (lv_at hl 0 rfl) ?_
  refine lv_iload C.1.1 C.1.2.1 dl_402 (lv_at hl 4 rfl) ?_
  refine lv_iconst (v := 2) C.1.1 C.1.2.1 dl_404 (by decide) ?_
  refine lv_iadd C.1.1 C.1.2.1 dl_405 ?_
  refine va_sld C.1.1 C.1.2.1 hX hbl hbA hS i2 dl_406 ?_
  refine lw_goF (h := h) (hm := hm) (As := [.int (xs (i + 1).toNatClampNeg), .int (xs (i + 2).toNatClampNeg)]) C c_g171 (cwV 2 C.1.2.2.2.2 (kk_gV kw_319 kw_320 kw_321 kw_1 kw_322) rfl rfl rfl (by decide +kernel) ⟨Nat.le_of_ble_eq_true rfl, Nat.le_of_ble_eq_true rfl⟩) gI_N0 (List.forall_mem_cons.mpr ⟨⟨by decide, by decide⟩, List.forall_mem_cons.mpr ⟨⟨by decide, by decide⟩, fun _ h => absurd h List.not_mem_nil⟩⟩) (⟨Or.inr ⟨0, List.mem_cons_self, rfl⟩, ⟨⟨_, rfl, hc0⟩, ⟨⟨_, rfl, hc1⟩, trivial⟩⟩⟩) hP hD hS rfl hl.1 rfl dl_407 hf (fun r f1 g1 H1 locs1 hq hP hD hS => ?_)
  obtain ⟨o, ho1, hr, hT⟩ := hq
  obtain ⟨x, rfl, hx⟩ := ck_isN_ok (List.all_eq_true.mp (show q_g171.2.all (ck_isN 0) = true by decide) o ho1) hr
  show W p l e room_1 s m args below meth c H1 locs1 (cells + 1) (slots + 6) Q (F0 m 410 ls [.int x])
  refine lv_aload_n C.1.1 C.1.2.1 dl_410 rfl (lv_at hl 2 rfl) ?_
  refine lv_aload_n C.1.1 C.1.2.1 dl_411 rfl (lv_at hl 0 rfl) ?_
  refine lv_iload C.1.1 C.1.2.1 dl_412 (lv_at hl 4 rfl) ?_
  refine lv_iconst (v := 1) C.1.1 C.1.2.1 dl_414 (by decide) ?_
  refine lv_iadd C.1.1 C.1.2.1 dl_415 ?_
  refine va_sld C.1.1 C.1.2.1 hX hbl hbA hS i1 dl_416 ?_
  refine lv_aload_n C.1.1 C.1.2.1 dl_417 rfl (lv_at hl 0 rfl) ?_
  refine lv_iload C.1.1 C.1.2.1 dl_418 (lv_at hl 4 rfl) ?_
  refine lv_iconst (v := 2) C.1.1 C.1.2.1 dl_420 (by decide) ?_
  refine lv_iadd C.1.1 C.1.2.1 dl_421 ?_
  refine va_sld C.1.1 C.1.2.1 hX hbl hbA hS i2 dl_422 ?_
  refine lm_goR (h := h) (hm := hm) (As := [.int (xs (i + 1).toNatClampNeg), .int (xs (i + 2).toNatClampNeg)]) (rest := [.int x]) C (c_m85 xL_ok) (cwV 2 C.1.2.2.2.2 (kk_gV kw_953 kw_954 kw_955 kw_9 kw_956) rfl rfl rfl (by decide +kernel) ⟨Nat.le_of_ble_eq_true rfl, Nat.le_of_ble_eq_true rfl⟩) gI_M0 (List.forall_mem_cons.mpr ⟨⟨by decide, by decide⟩, List.forall_mem_cons.mpr ⟨⟨by decide, by decide⟩, List.forall_mem_cons.mpr ⟨⟨by decide, by decide⟩, List.forall_mem_cons.mpr ⟨⟨by decide, by decide⟩, List.forall_mem_cons.mpr ⟨⟨by decide, by decide⟩, fun _ h => absurd h List.not_mem_nil⟩⟩⟩⟩⟩) (⟨Or.inr ⟨0, List.mem_cons_self, rfl⟩, ⟨⟨_, rfl, hc0⟩, ⟨⟨_, rfl, hc1⟩, trivial⟩⟩⟩) hP hD hS rfl hl.1 rfl (Nat.le_of_ble_eq_true rfl) dl_423 hf (fun r f2 g2 H2 locs2 hq2 hJ2 hP hD hS => ?_)
  obtain ⟨o2, ho2, hr2, hT2⟩ := hq2
  have h8 := List.all_eq_true.mp (show q_m85.2.all (fun o => ck_isN 0 o && true) = true by decide) o2 ho2
  simp only [Bool.and_eq_true] at h8
  obtain ⟨x2, rfl, hx2⟩ := ck_isN_ok h8.1 hr2
  show W p l e room_1 s m args below meth c H2 locs2 (cells + 1) (slots + 6) Q (F0 m 426 ls [.int x2, .int x])
  refine lv_icmp_eq (tgt := 840) C.1.1 C.1.2.1 dl_426 (by decide) (fun _ => ?_) (fun hne => absurd (Int32.toInt_inj.mp (hx.trans hx2.symm)) hne)
  exact kk H2 locs2 _ hS hl
theorem lo_7_g173 {p : Program} {l : Launch} {e : Env} {s : State} {m : MethodId} {args : Array Value} {below : List Frame} {meth : Method} {c : Code} {H : Heap} {locs : List Loc} {cells slots : Nat} {Q : State → Prop} {D : va_G} {B : Nat} {A : Nat → Prop} {h hm : Nat → Nat} {cI cZ cJ : ClassId} {ho : Nat} {ls : Array Slot} {b L : Nat} {xs : Nat → Int32} {i : Int32} {cx : Cond} (hfl : l.flags = flags0) (C : zz_Cx p m meth c code 7 ret s args (cx :: kk_W) "NightCyclerLaw" D vN (tyN cI cZ cJ) A B (xL B h)) (hX : va_X b L xs s s.heap) (hbl : b < s.heap.size) (hbA : ¬ A b) (i1 : vp_in (i + 1) L) (i2 : vp_in (i + 2) L) (hP : va_P D vN (wW cI cZ cJ ho h hm fN0 gN0 fM0 gM0) H) (hD : va_D A (wW cI cZ cJ ho h hm fN0 gN0 fM0 gM0)) (hS : va_S A s.heap H locs) (hl : lv_has ls 7 [(0, .ref b), (1, .ref (h 0)), (2, .ref (hm 0)), (3, .ref ho), (4, .int i)]) (hf : cells + 1 ≤ room_1.cells ∧ slots + 6 ≤ room_1.slots) (hc0 : (2 : Int) ≤ (xs (i + 1).toNatClampNeg).toInt ∧ (xs (i + 1).toNatClampNeg).toInt ≤ (2147483647 : Int)) (hc1 : (-5000 : Int) ≤ (xs (i + 2).toNatClampNeg).toInt ∧ (xs (i + 2).toNatClampNeg).toInt ≤ (10000 : Int)) (kk : ∀ (H1 : Heap) (locs1 : List Loc) (ls1 : Array Slot), va_S A s.heap H1 locs1 → lv_has ls1 7 [(0, .ref b), (1, .ref (h 0)), (2, .ref (hm 0)), (3, .ref ho), (4, .int i)] → W p l e room_1 s m args below meth c H1 locs1 (cells + 1) (slots + 6) Q (F0 m 840 ls1 [])) : W p l e room_1 s m args below meth c H locs cells slots Q (F0 m 394 ls []) := by
  refine W.widen (k := cells + 1) (n := slots + 6) (Nat.le_succ _) (Nat.le_add_right _ _) ?_
  refine lv_aload_n C.1.1 C.1.2.1 dl_394 rfl (lv_at hl 1 rfl) ?_
  refine lv_aload_n C.1.1 C.1.2.1 dl_395 rfl (lv_at hl 0 rfl) ?_
  refine lv_iload C.1.1 C.1.2.1 dl_396 (lv_at hl 4 rfl) ?_
  refine lv_iconst (v := 1) C.1.1 C.1.2.1 dl_398 (by decide) ?_
  refine lv_iadd C.1.1 C.1.2.1 dl_399 ?_
  refine va_sld C.1.1 C.1.2.1 hX hbl hbA hS i1 dl_400 ?_
  refine lv_aload_n C.1.1 C.1.2.1 dl_401 rfl (lv_at hl 0 rfl) ?_
  refine lv_iload C.1.1 C.1.2.1 dl_402 (lv_at hl 4 rfl) ?_
  refine lv_iconst (v := 2) C.1.1 C.1.2.1 dl_404 (by decide) ?_
  refine lv_iadd C.1.1 C.1.2.1 dl_405 ?_
  refine va_sld C.1.1 C.1.2.1 hX hbl hbA hS i2 dl_406 ?_
  refine lw_goF (h := h) (hm := hm) (As := [.int (xs (i + 1).toNatClampNeg), .int (xs (i + 2).toNatClampNeg)]) C c_g173 (cwV 2 C.1.2.2.2.2 (kk_gV kw_319 kw_320 kw_321 kw_1 kw_322) rfl rfl rfl (by decide +kernel) ⟨Nat.le_of_ble_eq_true rfl, Nat.le_of_ble_eq_true rfl⟩) gI_N0 (List.forall_mem_cons.mpr ⟨⟨by decide, by decide⟩, List.forall_mem_cons.mpr ⟨⟨by decide, by decide⟩, fun _ h => absurd h List.not_mem_nil⟩⟩) (⟨Or.inr ⟨0, List.mem_cons_self, rfl⟩, ⟨⟨_, rfl, hc0⟩, ⟨⟨_, rfl, hc1⟩, trivial⟩⟩⟩) hP hD hS rfl hl.1 rfl dl_407 hf (fun r f1 g1 H1 locs1 hq hP hD hS => ?_)
  obtain ⟨o, ho1, hr, hT⟩ := hq
  obtain ⟨x, rfl, hx⟩ := ck_isN_ok (List.all_eq_true.mp (show q_g173.2.all (ck_isN 0) = true by decide) o ho1) hr
  show W p l e room_1 s m args below meth c H1 locs1 (cells + 1) (slots + 6) Q (F0 m 410 ls [.int x])
  refine lv_aload_n C.1.1 C.1.2.1 dl_410 rfl (lv_at hl 2 rfl) ?_
  refine lv_aload_n C.1.1 C.1.2.1 dl_411 rfl (lv_at hl 0 rfl) ?_
  refine lv_iload C.1.1 C.1.2.1 dl_412 (lv_at hl 4 rfl) ?_
  refine lv_iconst (v := 1) C.1.1 C.1.2.1 dl_414 (by decide) ?_
  refine lv_iadd C.1.1 C.1.2.1 dl_415 ?_
  refine va_sld C.1.1 C.1.2.1 hX hbl hbA hS i1 dl_416 ?_
  refine lv_aload_n C.1.1 C.1.2.1 dl_417 rfl (lv_at hl 0 rfl) ?_
  refine lv_iload C.1.1 C.1.2.1 dl_418 (lv_at hl 4 rfl) ?_
  refine lv_iconst (v := 2) C.1.1 C.1.2.1 dl_420 (by decide) ?_
  refine lv_iadd C.1.1 C.1.2.1 dl_421 ?_
  refine va_sld C.1.1 C.1.2.1 hX hbl hbA hS i2 dl_422 ?_
  refine lm_goR (h := h) (hm := hm) (As := [.int (xs (i + 1).toNatClampNeg), .int (xs (i + 2).toNatClampNeg)]) (rest := [.int x]) C (c_m86 xL_ok) (cwV 2 C.1.2.2.2.2 (kk_gV kw_953 kw_954 kw_955 kw_9 kw_956) rfl rfl rfl (by decide +kernel) ⟨Nat.le_of_ble_eq_true rfl, Nat.le_of_ble_eq_true rfl⟩) gI_M0 (List.forall_mem_cons.mpr ⟨⟨by decide, by decide⟩, List.forall_mem_cons.mpr ⟨⟨by decide, by decide⟩, List.forall_mem_cons.mpr ⟨⟨by decide, by decide⟩, List.forall_mem_cons.mpr ⟨⟨by decide, by decide⟩, List.forall_mem_cons.mpr ⟨⟨by decide, by decide⟩, fun _ h => absurd h List.not_mem_nil⟩⟩⟩⟩⟩) (⟨Or.inr ⟨0, List.mem_cons_self, rfl⟩, ⟨⟨_, rfl, hc0⟩, ⟨⟨_, rfl, hc1⟩, trivial⟩⟩⟩) hP hD hS rfl hl.1 rfl (Nat.le_of_ble_eq_true rfl) dl_423 hf (fun r f2 g2 H2 locs2 hq2 hJ2 hP hD hS => ?_)
  obtain ⟨o2, ho2, hr2, hT2⟩ := hq2
  have h8 := List.all_eq_true.mp (show q_m86.2.all (fun o => ck_isN 0 o && true) = true by decide) o2 ho2
  simp only [Bool.and_eq_true] at h8
  obtain ⟨x2, rfl, hx2⟩ := ck_isN_ok h8.1 hr2
  show W p l e room_1 s m args below meth c H2 locs2 (cells + 1) (slots + 6) Q (F0 m 426 ls [.int x2, .int x])
  refine lv_icmp_eq (tgt := 840) C.1.1 C.1.2.1 dl_426 (by decide) (fun _ => ?_) (fun hne => absurd (Int32.toInt_inj.mp (hx.trans hx2.symm)) hne)
  exact kk H2 locs2 _ hS hl
theorem lo_7_g175 {p : Program} {l : Launch} {e : Env} {s : State} {m : MethodId} {args : Array Value} {below : List Frame} {meth : Method} {c : Code} {H : Heap} {locs : List Loc} {cells slots : Nat} {Q : State → Prop} {D : va_G} {B : Nat} {A : Nat → Prop} {h hm : Nat → Nat} {cI cZ cJ : ClassId} {ho : Nat} {ls : Array Slot} {b L : Nat} {xs : Nat → Int32} {i : Int32} {cx : Cond} (hfl : l.flags = flags0) (C : zz_Cx p m meth c code 7 ret s args (cx :: kk_W) "NightCyclerLaw" D vN (tyN cI cZ cJ) A B (xL B h)) (hX : va_X b L xs s s.heap) (hbl : b < s.heap.size) (hbA : ¬ A b) (i1 : vp_in (i + 1) L) (i2 : vp_in (i + 2) L) (hP : va_P D vN (wW cI cZ cJ ho h hm fN0 gN0 fM0 gM0) H) (hD : va_D A (wW cI cZ cJ ho h hm fN0 gN0 fM0 gM0)) (hS : va_S A s.heap H locs) (hl : lv_has ls 7 [(0, .ref b), (1, .ref (h 0)), (2, .ref (hm 0)), (3, .ref ho), (4, .int i)]) (hf : cells + 1 ≤ room_1.cells ∧ slots + 6 ≤ room_1.slots) (hc0 : (2 : Int) ≤ (xs (i + 1).toNatClampNeg).toInt ∧ (xs (i + 1).toNatClampNeg).toInt ≤ (2147483647 : Int)) (hc1 : (10001 : Int) ≤ (xs (i + 2).toNatClampNeg).toInt ∧ (xs (i + 2).toNatClampNeg).toInt ≤ (2147483647 : Int)) (kk : ∀ (H1 : Heap) (locs1 : List Loc) (ls1 : Array Slot), va_S A s.heap H1 locs1 → lv_has ls1 7 [(0, .ref b), (1, .ref (h 0)), (2, .ref (hm 0)), (3, .ref ho), (4, .int i)] → W p l e room_1 s m args below meth c H1 locs1 (cells + 1) (slots + 6) Q (F0 m 840 ls1 [])) : W p l e room_1 s m args below meth c H locs cells slots Q (F0 m 394 ls []) := by
  refine W.widen (k := cells + 1) (n := slots + 6) (Nat.le_succ _) (Nat.le_add_right _ _) ?_
  refine lv_aload_n C.1.1 C.1.2.1 dl_394 rfl (lv_at hl 1 rfl) ?_
  refine lv_aload_n C.1.1 C.1.2.1 dl_395 rfl (lv_at hl 0 rfl) ?_
  refine lv_iload C.1.1 C.1.2.1 dl_396 (lv_at hl 4 rfl) ?_
  refine lv_iconst (v := 1) C.1.1 C.1.2.1 dl_398 (by decide) ?_
  refine lv_iadd C.1.1 C.1.2.1 dl_399 ?_
  refine va_sld C.1.1 C.1.2.1 hX hbl hbA hS i1 dl_400 ?_
  refine lv_aload_n C.1.1 C.1.2.1 dl_401 rfl (lv_at hl 0 rfl) ?_
  refine lv_iload C.1.1 C.1.2.1 dl_402 (lv_at hl 4 rfl) ?_
  refine lv_iconst (v := 2) C.1.1 C.1.2.1 dl_404 (by decide) ?_
  refine lv_iadd C.1.1 C.1.2.1 dl_405 ?_
  refine va_sld C.1.1 C.1.2.1 hX hbl hbA hS i2 dl_406 ?_
  refine lw_goF (h := h) (hm := hm) (As := [.int (xs (i + 1).toNatClampNeg), .int (xs (i + 2).toNatClampNeg)]) C c_g175 (cwV 2 C.1.2.2.2.2 (kk_gV kw_319 kw_320 kw_321 kw_1 kw_322) rfl rfl rfl (by decide +kernel) ⟨Nat.le_of_ble_eq_true rfl, Nat.le_of_ble_eq_true rfl⟩) gI_N0 (List.forall_mem_cons.mpr ⟨⟨by decide, by decide⟩, List.forall_mem_cons.mpr ⟨⟨by decide, by decide⟩, fun _ h => absurd h List.not_mem_nil⟩⟩) (⟨Or.inr ⟨0, List.mem_cons_self, rfl⟩, ⟨⟨_, rfl, hc0⟩, ⟨⟨_, rfl, hc1⟩, trivial⟩⟩⟩) hP hD hS rfl hl.1 rfl dl_407 hf (fun r f1 g1 H1 locs1 hq hP hD hS => ?_)
  obtain ⟨o, ho1, hr, hT⟩ := hq
  obtain ⟨x, rfl, hx⟩ := ck_isN_ok (List.all_eq_true.mp (show q_g175.2.all (ck_isN 0) = true by decide) o ho1) hr
  show W p l e room_1 s m args below meth c H1 locs1 (cells + 1) (slots + 6) Q (F0 m 410 ls [.int x])
  refine lv_aload_n C.1.1 C.1.2.1 dl_410 rfl (lv_at hl 2 rfl) ?_
  refine lv_aload_n C.1.1 C.1.2.1 dl_411 rfl (lv_at hl 0 rfl) ?_
  refine lv_iload C.1.1 C.1.2.1 dl_412 (lv_at hl 4 rfl) ?_
  refine lv_iconst (v := 1) C.1.1 C.1.2.1 dl_414 (by decide) ?_
  refine lv_iadd C.1.1 C.1.2.1 dl_415 ?_
  refine va_sld C.1.1 C.1.2.1 hX hbl hbA hS i1 dl_416 ?_
  refine lv_aload_n C.1.1 C.1.2.1 dl_417 rfl (lv_at hl 0 rfl) ?_
  refine lv_iload C.1.1 C.1.2.1 dl_418 (lv_at hl 4 rfl) ?_
  refine lv_iconst (v := 2) C.1.1 C.1.2.1 dl_420 (by decide) ?_
  refine lv_iadd C.1.1 C.1.2.1 dl_421 ?_
  refine va_sld C.1.1 C.1.2.1 hX hbl hbA hS i2 dl_422 ?_
  refine lm_goR (h := h) (hm := hm) (As := [.int (xs (i + 1).toNatClampNeg), .int (xs (i + 2).toNatClampNeg)]) (rest := [.int x]) C (c_m87 xL_ok) (cwV 2 C.1.2.2.2.2 (kk_gV kw_953 kw_954 kw_955 kw_9 kw_956) rfl rfl rfl (by decide +kernel) ⟨Nat.le_of_ble_eq_true rfl, Nat.le_of_ble_eq_true rfl⟩) gI_M0 (List.forall_mem_cons.mpr ⟨⟨by decide, by decide⟩, List.forall_mem_cons.mpr ⟨⟨by decide, by decide⟩, List.forall_mem_cons.mpr ⟨⟨by decide, by decide⟩, List.forall_mem_cons.mpr ⟨⟨by decide, by decide⟩, List.forall_mem_cons.mpr ⟨⟨by decide, by decide⟩, fun _ h => absurd h List.not_mem_nil⟩⟩⟩⟩⟩) (⟨Or.inr ⟨0, List.mem_cons_self, rfl⟩, ⟨⟨_, rfl, hc0⟩, ⟨⟨_, rfl, hc1⟩, trivial⟩⟩⟩) hP hD hS rfl hl.1 rfl (Nat.le_of_ble_eq_true rfl) dl_423 hf (fun r f2 g2 H2 locs2 hq2 hJ2 hP hD hS => ?_)
  obtain ⟨o2, ho2, hr2, hT2⟩ := hq2
  have h8 := List.all_eq_true.mp (show q_m87.2.all (fun o => ck_isN 0 o && true) = true by decide) o2 ho2
  simp only [Bool.and_eq_true] at h8
  obtain ⟨x2, rfl, hx2⟩ := ck_isN_ok h8.1 hr2
  show W p l e room_1 s m args below meth c H2 locs2 (cells + 1) (slots + 6) Q (F0 m 426 ls [.int x2, .int x])
  refine lv_icmp_eq (tgt := 840) C.1.1 C.1.2.1 dl_426 (by decide) (fun _ => ?_) (fun hne => absurd (Int32.toInt_inj.mp (hx.trans hx2.symm)) hne)
  exact kk H2 locs2 _ hS hl
theorem lo_7 {p : Program} {l : Launch} {e : Env} {s : State} {m : MethodId} {args : Array Value} {below : List Frame} {meth : Method} {c : Code} {H : Heap} {locs : List Loc} {cells slots : Nat} {Q : State → Prop} {D : va_G} {B : Nat} {A : Nat → Prop} {h hm : Nat → Nat} {cI cZ cJ : ClassId} {ho : Nat} {ls : Array Slot} {b L : Nat} {xs : Nat → Int32} {i : Int32} {cx : Cond} (hfl : l.flags = flags0) (C : zz_Cx p m meth c code 7 ret s args (cx :: kk_W) "NightCyclerLaw" D vN (tyN cI cZ cJ) A B (xL B h)) (hX : va_X b L xs s s.heap) (hbl : b < s.heap.size) (hbA : ¬ A b) (i1 : vp_in (i + 1) L) (i2 : vp_in (i + 2) L) (hP : va_P D vN (wW cI cZ cJ ho h hm fN0 gN0 fM0 gM0) H) (hD : va_D A (wW cI cZ cJ ho h hm fN0 gN0 fM0 gM0)) (hS : va_S A s.heap H locs) (hl : lv_has ls 7 [(0, .ref b), (1, .ref (h 0)), (2, .ref (hm 0)), (3, .ref ho), (4, .int i)]) (hf : cells + 1 ≤ room_1.cells ∧ slots + 6 ≤ room_1.slots) (kk : ∀ (H1 : Heap) (locs1 : List Loc) (ls1 : Array Slot), va_S A s.heap H1 locs1 → lv_has ls1 7 [(0, .ref b), (1, .ref (h 0)), (2, .ref (hm 0)), (3, .ref ho), (4, .int i)] → W p l e room_1 s m args below meth c H1 locs1 (cells + 1) (slots + 6) Q (F0 m 840 ls1 [])) : W p l e room_1 s m args below meth c H locs cells slots Q (F0 m 394 ls []) := by
  have hlo0 := i32_lo (xs (i + 1).toNatClampNeg)
  have hhi0 := i32_hi (xs (i + 1).toNatClampNeg)
  have hlo1 := i32_lo (xs (i + 2).toNatClampNeg)
  have hhi1 := i32_hi (xs (i + 2).toNatClampNeg)
  rcases (show ((-2147483648 : Int) ≤ (xs (i + 1).toNatClampNeg).toInt ∧ (xs (i + 1).toNatClampNeg).toInt ≤ (-1 : Int)) ∨ ((0 : Int) ≤ (xs (i + 1).toNatClampNeg).toInt ∧ (xs (i + 1).toNatClampNeg).toInt ≤ (1 : Int)) ∨ ((2 : Int) ≤ (xs (i + 1).toNatClampNeg).toInt ∧ (xs (i + 1).toNatClampNeg).toInt ≤ (2147483647 : Int)) by clear hlo1 hhi1; omega) with hc0 | hc0 | hc0
  · clear hlo0 hhi0
    rcases (show ((-2147483648 : Int) ≤ (xs (i + 2).toNatClampNeg).toInt ∧ (xs (i + 2).toNatClampNeg).toInt ≤ (-5001 : Int)) ∨ ((-5000 : Int) ≤ (xs (i + 2).toNatClampNeg).toInt ∧ (xs (i + 2).toNatClampNeg).toInt ≤ (10000 : Int)) ∨ ((10001 : Int) ≤ (xs (i + 2).toNatClampNeg).toInt ∧ (xs (i + 2).toNatClampNeg).toInt ≤ (2147483647 : Int)) by clear hc0; omega) with hc1 | hc1 | hc1
    · exact lo_7_g159 hfl C hX hbl hbA i1 i2 hP hD hS hl hf hc0 hc1 kk
    · exact lo_7_g161 hfl C hX hbl hbA i1 i2 hP hD hS hl hf hc0 hc1 kk
    · exact lo_7_g163 hfl C hX hbl hbA i1 i2 hP hD hS hl hf hc0 hc1 kk
  · clear hlo0 hhi0
    rcases (show ((-2147483648 : Int) ≤ (xs (i + 2).toNatClampNeg).toInt ∧ (xs (i + 2).toNatClampNeg).toInt ≤ (-5001 : Int)) ∨ ((-5000 : Int) ≤ (xs (i + 2).toNatClampNeg).toInt ∧ (xs (i + 2).toNatClampNeg).toInt ≤ (10000 : Int)) ∨ ((10001 : Int) ≤ (xs (i + 2).toNatClampNeg).toInt ∧ (xs (i + 2).toNatClampNeg).toInt ≤ (2147483647 : Int)) by clear hc0; omega) with hc1 | hc1 | hc1
    · exact lo_7_g165 hfl C hX hbl hbA i1 i2 hP hD hS hl hf hc0 hc1 kk
    · exact lo_7_g167 hfl C hX hbl hbA i1 i2 hP hD hS hl hf hc0 hc1 kk
    · exact lo_7_g169 hfl C hX hbl hbA i1 i2 hP hD hS hl hf hc0 hc1 kk
  · clear hlo0 hhi0
    rcases (show ((-2147483648 : Int) ≤ (xs (i + 2).toNatClampNeg).toInt ∧ (xs (i + 2).toNatClampNeg).toInt ≤ (-5001 : Int)) ∨ ((-5000 : Int) ≤ (xs (i + 2).toNatClampNeg).toInt ∧ (xs (i + 2).toNatClampNeg).toInt ≤ (10000 : Int)) ∨ ((10001 : Int) ≤ (xs (i + 2).toNatClampNeg).toInt ∧ (xs (i + 2).toNatClampNeg).toInt ≤ (2147483647 : Int)) by clear hc0; omega) with hc1 | hc1 | hc1
    · exact lo_7_g171 hfl C hX hbl hbA i1 i2 hP hD hS hl hf hc0 hc1 kk
    · exact lo_7_g173 hfl C hX hbl hbA i1 i2 hP hD hS hl hf hc0 hc1 kk
    · exact lo_7_g175 hfl C hX hbl hbA i1 i2 hP hD hS hl hf hc0 hc1 kk
theorem lo_8_g76 {p : Program} {l : Launch} {e : Env} {s : State} {m : MethodId} {args : Array Value} {below : List Frame} {meth : Method} {c : Code} {H : Heap} {locs : List Loc} {cells slots : Nat} {Q : State → Prop} {D : va_G} {B : Nat} {A : Nat → Prop} {h hm : Nat → Nat} {cI cZ cJ : ClassId} {ho : Nat} {ls : Array Slot} {b L : Nat} {xs : Nat → Int32} {i : Int32} {cx : Cond} (hfl : l.flags = flags0) (C : zz_Cx p m meth c code 7 ret s args (cx :: kk_W) "NightCyclerLaw" D vN (tyN cI cZ cJ) A B (xL B h)) (hX : va_X b L xs s s.heap) (hbl : b < s.heap.size) (hbA : ¬ A b) (i1 : vp_in (i + 1) L) (i2 : vp_in (i + 2) L) (hP : va_P D vN (wW cI cZ cJ ho h hm fN0 gN0 fM0 gM0) H) (hD : va_D A (wW cI cZ cJ ho h hm fN0 gN0 fM0 gM0)) (hS : va_S A s.heap H locs) (hl : lv_has ls 7 [(0, .ref b), (1, .ref (h 0)), (2, .ref (hm 0)), (3, .ref ho), (4, .int i)]) (hf : cells + 1 ≤ room_1.cells ∧ slots + 6 ≤ room_1.slots)  (kk : ∀ (H1 : Heap) (locs1 : List Loc) (ls1 : Array Slot), va_S A s.heap H1 locs1 → lv_has ls1 7 [(0, .ref b), (1, .ref (h 0)), (2, .ref (hm 0)), (3, .ref ho), (4, .int i)] → W p l e room_1 s m args below meth c H1 locs1 (cells + 1) (slots + 6) Q (F0 m 840 ls1 [])) : W p l e room_1 s m args below meth c H locs cells slots Q (F0 m 431 ls []) := by
  refine W.widen (k := cells + 1) (n := slots + 6) (Nat.le_succ _) (Nat.le_add_right _ _) ?_
  refine lv_aload_n C.1.1 C.1.2.1 dl_431 rfl (lv_at hl 1 rfl) ?_
  refine lv_aload_n C.1.1 C.1.2.1 dl_432 rfl (lv_at hl 0 rfl) ?_
  refine lv_iload C.1.1 C.1.2.1 dl_433 (lv_at hl 4 rfl) ?_
  refine lv_iconst (v := 1) C.1.1 C.1.2.1 dl_435 (by decide) ?_
  refine lv_iadd C.1.1 C.1.2.1 dl_436 ?_
  refine va_sld C.1.1 C.1.2.1 hX hbl hbA hS i1 dl_437 ?_
  refine lw_bool C.1.1 C.1.2.1 dl_438 dl_441 dl_442 dl_445 (fun y hy => ?_)
  refine lw_goF (h := h) (hm := hm) (As := [.int y]) C c_g76 (cwV 1 C.1.2.2.2.2 (kk_gV kw_331 kw_332 kw_333 kw_1 kw_334) rfl rfl rfl (by decide +kernel) ⟨Nat.le_of_ble_eq_true rfl, Nat.le_of_ble_eq_true rfl⟩) gI_N0 (List.forall_mem_cons.mpr ⟨⟨by decide, by decide⟩, List.forall_mem_cons.mpr ⟨⟨by decide, by decide⟩, fun _ h => absurd h List.not_mem_nil⟩⟩) (⟨Or.inr ⟨0, List.mem_cons_self, rfl⟩, ⟨⟨_, rfl, hy⟩, trivial⟩⟩) hP hD hS rfl hl.1 rfl dl_446 hf (fun r f1 g1 H1 locs1 hq hP hD hS => ?_)
  obtain ⟨o, ho1, hr, hT⟩ := hq
  obtain rfl := ck_isV_ok (List.all_eq_true.mp (show q_g76.2.all ck_isV = true by decide) o ho1) hr
  show W p l e room_1 s m args below meth c H1 locs1 (cells + 1) (slots + 6) Q (F0 m 449 ls [])
  refine lv_aload_n C.1.1 C.1.2.1 dl_449 rfl (lv_at hl 2 rfl) ?_
  refine lv_aload_n C.1.1 C.1.2.1 dl_450 rfl (lv_at hl 0 rfl) ?_
  refine lv_iload C.1.1 C.1.2.1 dl_451 (lv_at hl 4 rfl) ?_
  refine lv_iconst (v := 1) C.1.1 C.1.2.1 dl_453 (by decide) ?_
  refine lv_iadd C.1.1 C.1.2.1 dl_454 ?_
  refine va_sld C.1.1 C.1.2.1 hX hbl hbA hS i1 dl_455 ?_
  refine lw_bool C.1.1 C.1.2.1 dl_456 dl_459 dl_460 dl_463 (fun y hy => ?_)
  refine lm_goR (h := h) (hm := hm) (As := [.int y]) (rest := []) C (c_m36 xL_ok) (cwV 1 C.1.2.2.2.2 (kk_gV kw_957 kw_958 kw_959 kw_9 kw_960) rfl rfl rfl (by decide +kernel) ⟨Nat.le_of_ble_eq_true rfl, Nat.le_of_ble_eq_true rfl⟩) gI_M0 (List.forall_mem_cons.mpr ⟨⟨by decide, by decide⟩, List.forall_mem_cons.mpr ⟨⟨by decide, by decide⟩, List.forall_mem_cons.mpr ⟨⟨by decide, by decide⟩, List.forall_mem_cons.mpr ⟨⟨by decide, by decide⟩, List.forall_mem_cons.mpr ⟨⟨by decide, by decide⟩, fun _ h => absurd h List.not_mem_nil⟩⟩⟩⟩⟩) (⟨Or.inr ⟨0, List.mem_cons_self, rfl⟩, ⟨⟨_, rfl, hy⟩, trivial⟩⟩) hP hD hS rfl hl.1 rfl (Nat.le_of_ble_eq_true rfl) dl_464 hf (fun r f2 g2 H2 locs2 hq2 hJ2 hP hD hS => ?_)
  obtain ⟨o2, ho2, hr2, hT2⟩ := hq2
  have h8 := List.all_eq_true.mp (show q_m36.2.all (fun o => ck_isV o && true) = true by decide) o2 ho2
  simp only [Bool.and_eq_true] at h8
  obtain rfl := ck_isV_ok h8.1 hr2
  show W p l e room_1 s m args below meth c H2 locs2 (cells + 1) (slots + 6) Q (F0 m 467 ls [])
  refine lv_goto (tgt := 840) C.1.1 C.1.2.1 dl_467 (by decide) ?_
  exact kk H2 locs2 _ hS hl
theorem lo_8 {p : Program} {l : Launch} {e : Env} {s : State} {m : MethodId} {args : Array Value} {below : List Frame} {meth : Method} {c : Code} {H : Heap} {locs : List Loc} {cells slots : Nat} {Q : State → Prop} {D : va_G} {B : Nat} {A : Nat → Prop} {h hm : Nat → Nat} {cI cZ cJ : ClassId} {ho : Nat} {ls : Array Slot} {b L : Nat} {xs : Nat → Int32} {i : Int32} {cx : Cond} (hfl : l.flags = flags0) (C : zz_Cx p m meth c code 7 ret s args (cx :: kk_W) "NightCyclerLaw" D vN (tyN cI cZ cJ) A B (xL B h)) (hX : va_X b L xs s s.heap) (hbl : b < s.heap.size) (hbA : ¬ A b) (i1 : vp_in (i + 1) L) (i2 : vp_in (i + 2) L) (hP : va_P D vN (wW cI cZ cJ ho h hm fN0 gN0 fM0 gM0) H) (hD : va_D A (wW cI cZ cJ ho h hm fN0 gN0 fM0 gM0)) (hS : va_S A s.heap H locs) (hl : lv_has ls 7 [(0, .ref b), (1, .ref (h 0)), (2, .ref (hm 0)), (3, .ref ho), (4, .int i)]) (hf : cells + 1 ≤ room_1.cells ∧ slots + 6 ≤ room_1.slots) (kk : ∀ (H1 : Heap) (locs1 : List Loc) (ls1 : Array Slot), va_S A s.heap H1 locs1 → lv_has ls1 7 [(0, .ref b), (1, .ref (h 0)), (2, .ref (hm 0)), (3, .ref ho), (4, .int i)] → W p l e room_1 s m args below meth c H1 locs1 (cells + 1) (slots + 6) Q (F0 m 840 ls1 [])) : W p l e room_1 s m args below meth c H locs cells slots Q (F0 m 431 ls []) := by
  exact lo_8_g76 hfl C hX hbl hbA i1 i2 hP hD hS hl hf kk
theorem lo_9_g77 {p : Program} {l : Launch} {e : Env} {s : State} {m : MethodId} {args : Array Value} {below : List Frame} {meth : Method} {c : Code} {H : Heap} {locs : List Loc} {cells slots : Nat} {Q : State → Prop} {D : va_G} {B : Nat} {A : Nat → Prop} {h hm : Nat → Nat} {cI cZ cJ : ClassId} {ho : Nat} {ls : Array Slot} {b L : Nat} {xs : Nat → Int32} {i : Int32} {cx : Cond} (hfl : l.flags = flags0) (C : zz_Cx p m meth c code 7 ret s args (cx :: kk_W) "NightCyclerLaw" D vN (tyN cI cZ cJ) A B (xL B h)) (hX : va_X b L xs s s.heap) (hbl : b < s.heap.size) (hbA : ¬ A b) (i1 : vp_in (i + 1) L) (i2 : vp_in (i + 2) L) (hP : va_P D vN (wW cI cZ cJ ho h hm fN0 gN0 fM0 gM0) H) (hD : va_D A (wW cI cZ cJ ho h hm fN0 gN0 fM0 gM0)) (hS : va_S A s.heap H locs) (hl : lv_has ls 7 [(0, .ref b), (1, .ref (h 0)), (2, .ref (hm 0)), (3, .ref ho), (4, .int i)]) (hf : cells + 1 ≤ room_1.cells ∧ slots + 6 ≤ room_1.slots)  (kk : ∀ (H1 : Heap) (locs1 : List Loc) (ls1 : Array Slot), va_S A s.heap H1 locs1 → lv_has ls1 7 [(0, .ref b), (1, .ref (h 0)), (2, .ref (hm 0)), (3, .ref ho), (4, .int i)] → W p l e room_1 s m args below meth c H1 locs1 (cells + 1) (slots + 6) Q (F0 m 840 ls1 [])) : W p l e room_1 s m args below meth c H locs cells slots Q (F0 m 470 ls []) := by
  refine W.widen (k := cells + 1) (n := slots + 6) (Nat.le_succ _) (Nat.le_add_right _ _) ?_
  refine lv_aload_n C.1.1 C.1.2.1 dl_470 rfl (lv_at hl 1 rfl) ?_
  refine lv_aload_n C.1.1 C.1.2.1 dl_471 rfl (lv_at hl 0 rfl) ?_
  refine lv_iload C.1.1 C.1.2.1 dl_472 (lv_at hl 4 rfl) ?_
  refine lv_iconst (v := 1) C.1.1 C.1.2.1 dl_474 (by decide) ?_
  refine lv_iadd C.1.1 C.1.2.1 dl_475 ?_
  refine va_sld C.1.1 C.1.2.1 hX hbl hbA hS i1 dl_476 ?_
  refine lw_bool C.1.1 C.1.2.1 dl_477 dl_480 dl_481 dl_484 (fun y hy => ?_)
  refine lw_goF (h := h) (hm := hm) (As := [.int y]) C c_g77 (cwV 1 C.1.2.2.2.2 (kk_gV kw_335 kw_336 kw_337 kw_1 kw_338) rfl rfl rfl (by decide +kernel) ⟨Nat.le_of_ble_eq_true rfl, Nat.le_of_ble_eq_true rfl⟩) gI_N0 (List.forall_mem_cons.mpr ⟨⟨by decide, by decide⟩, List.forall_mem_cons.mpr ⟨⟨by decide, by decide⟩, fun _ h => absurd h List.not_mem_nil⟩⟩) (⟨Or.inr ⟨0, List.mem_cons_self, rfl⟩, ⟨⟨_, rfl, hy⟩, trivial⟩⟩) hP hD hS rfl hl.1 rfl dl_485 hf (fun r f1 g1 H1 locs1 hq hP hD hS => ?_)
  obtain ⟨o, ho1, hr, hT⟩ := hq
  obtain rfl := ck_isV_ok (List.all_eq_true.mp (show q_g77.2.all ck_isV = true by decide) o ho1) hr
  show W p l e room_1 s m args below meth c H1 locs1 (cells + 1) (slots + 6) Q (F0 m 488 ls [])
  refine lv_aload_n C.1.1 C.1.2.1 dl_488 rfl (lv_at hl 2 rfl) ?_
  refine lv_aload_n C.1.1 C.1.2.1 dl_489 rfl (lv_at hl 0 rfl) ?_
  refine lv_iload C.1.1 C.1.2.1 dl_490 (lv_at hl 4 rfl) ?_
  refine lv_iconst (v := 1) C.1.1 C.1.2.1 dl_492 (by decide) ?_
  refine lv_iadd C.1.1 C.1.2.1 dl_493 ?_
  refine va_sld C.1.1 C.1.2.1 hX hbl hbA hS i1 dl_494 ?_
  refine lw_bool C.1.1 C.1.2.1 dl_495 dl_498 dl_499 dl_502 (fun y hy => ?_)
  refine lm_goR (h := h) (hm := hm) (As := [.int y]) (rest := []) C (c_m37 xL_ok) (cwV 1 C.1.2.2.2.2 (kk_gV kw_961 kw_962 kw_963 kw_9 kw_964) rfl rfl rfl (by decide +kernel) ⟨Nat.le_of_ble_eq_true rfl, Nat.le_of_ble_eq_true rfl⟩) gI_M0 (List.forall_mem_cons.mpr ⟨⟨by decide, by decide⟩, List.forall_mem_cons.mpr ⟨⟨by decide, by decide⟩, List.forall_mem_cons.mpr ⟨⟨by decide, by decide⟩, List.forall_mem_cons.mpr ⟨⟨by decide, by decide⟩, List.forall_mem_cons.mpr ⟨⟨by decide, by decide⟩, fun _ h => absurd h List.not_mem_nil⟩⟩⟩⟩⟩) (⟨Or.inr ⟨0, List.mem_cons_self, rfl⟩, ⟨⟨_, rfl, hy⟩, trivial⟩⟩) hP hD hS rfl hl.1 rfl (Nat.le_of_ble_eq_true rfl) dl_503 hf (fun r f2 g2 H2 locs2 hq2 hJ2 hP hD hS => ?_)
  obtain ⟨o2, ho2, hr2, hT2⟩ := hq2
  have h8 := List.all_eq_true.mp (show q_m37.2.all (fun o => ck_isV o && true) = true by decide) o2 ho2
  simp only [Bool.and_eq_true] at h8
  obtain rfl := ck_isV_ok h8.1 hr2
  show W p l e room_1 s m args below meth c H2 locs2 (cells + 1) (slots + 6) Q (F0 m 506 ls [])
  refine lv_goto (tgt := 840) C.1.1 C.1.2.1 dl_506 (by decide) ?_
  exact kk H2 locs2 _ hS hl
theorem lo_9 {p : Program} {l : Launch} {e : Env} {s : State} {m : MethodId} {args : Array Value} {below : List Frame} {meth : Method} {c : Code} {H : Heap} {locs : List Loc} {cells slots : Nat} {Q : State → Prop} {D : va_G} {B : Nat} {A : Nat → Prop} {h hm : Nat → Nat} {cI cZ cJ : ClassId} {ho : Nat} {ls : Array Slot} {b L : Nat} {xs : Nat → Int32} {i : Int32} {cx : Cond} (hfl : l.flags = flags0) (C : zz_Cx p m meth c code 7 ret s args (cx :: kk_W) "NightCyclerLaw" D vN (tyN cI cZ cJ) A B (xL B h)) (hX : va_X b L xs s s.heap) (hbl : b < s.heap.size) (hbA : ¬ A b) (i1 : vp_in (i + 1) L) (i2 : vp_in (i + 2) L) (hP : va_P D vN (wW cI cZ cJ ho h hm fN0 gN0 fM0 gM0) H) (hD : va_D A (wW cI cZ cJ ho h hm fN0 gN0 fM0 gM0)) (hS : va_S A s.heap H locs) (hl : lv_has ls 7 [(0, .ref b), (1, .ref (h 0)), (2, .ref (hm 0)), (3, .ref ho), (4, .int i)]) (hf : cells + 1 ≤ room_1.cells ∧ slots + 6 ≤ room_1.slots) (kk : ∀ (H1 : Heap) (locs1 : List Loc) (ls1 : Array Slot), va_S A s.heap H1 locs1 → lv_has ls1 7 [(0, .ref b), (1, .ref (h 0)), (2, .ref (hm 0)), (3, .ref ho), (4, .int i)] → W p l e room_1 s m args below meth c H1 locs1 (cells + 1) (slots + 6) Q (F0 m 840 ls1 [])) : W p l e room_1 s m args below meth c H locs cells slots Q (F0 m 470 ls []) := by
  exact lo_9_g77 hfl C hX hbl hbA i1 i2 hP hD hS hl hf kk
theorem lo_10_g78 {p : Program} {l : Launch} {e : Env} {s : State} {m : MethodId} {args : Array Value} {below : List Frame} {meth : Method} {c : Code} {H : Heap} {locs : List Loc} {cells slots : Nat} {Q : State → Prop} {D : va_G} {B : Nat} {A : Nat → Prop} {h hm : Nat → Nat} {cI cZ cJ : ClassId} {ho : Nat} {ls : Array Slot} {b L : Nat} {xs : Nat → Int32} {i : Int32} {cx : Cond} (hfl : l.flags = flags0) (C : zz_Cx p m meth c code 7 ret s args (cx :: kk_W) "NightCyclerLaw" D vN (tyN cI cZ cJ) A B (xL B h)) (hX : va_X b L xs s s.heap) (hbl : b < s.heap.size) (hbA : ¬ A b) (i1 : vp_in (i + 1) L) (i2 : vp_in (i + 2) L) (hP : va_P D vN (wW cI cZ cJ ho h hm fN0 gN0 fM0 gM0) H) (hD : va_D A (wW cI cZ cJ ho h hm fN0 gN0 fM0 gM0)) (hS : va_S A s.heap H locs) (hl : lv_has ls 7 [(0, .ref b), (1, .ref (h 0)), (2, .ref (hm 0)), (3, .ref ho), (4, .int i)]) (hf : cells + 1 ≤ room_1.cells ∧ slots + 6 ≤ room_1.slots)  (kk : ∀ (H1 : Heap) (locs1 : List Loc) (ls1 : Array Slot), va_S A s.heap H1 locs1 → lv_has ls1 7 [(0, .ref b), (1, .ref (h 0)), (2, .ref (hm 0)), (3, .ref ho), (4, .int i)] → W p l e room_1 s m args below meth c H1 locs1 (cells + 1) (slots + 6) Q (F0 m 840 ls1 [])) : W p l e room_1 s m args below meth c H locs cells slots Q (F0 m 509 ls []) := by
  refine W.widen (k := cells + 1) (n := slots + 6) (Nat.le_succ _) (Nat.le_add_right _ _) ?_
  refine lv_aload_n C.1.1 C.1.2.1 dl_509 rfl (lv_at hl 1 rfl) ?_
  refine lv_aload_n C.1.1 C.1.2.1 dl_510 rfl (lv_at hl 0 rfl) ?_
  refine lv_iload C.1.1 C.1.2.1 dl_511 (lv_at hl 4 rfl) ?_
  refine lv_iconst (v := 1) C.1.1 C.1.2.1 dl_513 (by decide) ?_
  refine lv_iadd C.1.1 C.1.2.1 dl_514 ?_
  refine va_sld C.1.1 C.1.2.1 hX hbl hbA hS i1 dl_515 ?_
  refine lw_bool C.1.1 C.1.2.1 dl_516 dl_519 dl_520 dl_523 (fun y hy => ?_)
  refine lw_goF (h := h) (hm := hm) (As := [.int y]) C c_g78 (cwV 1 C.1.2.2.2.2 (kk_gV kw_339 kw_340 kw_341 kw_1 kw_342) rfl rfl rfl (by decide +kernel) ⟨Nat.le_of_ble_eq_true rfl, Nat.le_of_ble_eq_true rfl⟩) gI_N0 (List.forall_mem_cons.mpr ⟨⟨by decide, by decide⟩, List.forall_mem_cons.mpr ⟨⟨by decide, by decide⟩, fun _ h => absurd h List.not_mem_nil⟩⟩) (⟨Or.inr ⟨0, List.mem_cons_self, rfl⟩, ⟨⟨_, rfl, hy⟩, trivial⟩⟩) hP hD hS rfl hl.1 rfl dl_524 hf (fun r f1 g1 H1 locs1 hq hP hD hS => ?_)
  obtain ⟨o, ho1, hr, hT⟩ := hq
  obtain rfl := ck_isV_ok (List.all_eq_true.mp (show q_g78.2.all ck_isV = true by decide) o ho1) hr
  show W p l e room_1 s m args below meth c H1 locs1 (cells + 1) (slots + 6) Q (F0 m 527 ls [])
  refine lv_aload_n C.1.1 C.1.2.1 dl_527 rfl (lv_at hl 2 rfl) ?_
  refine lv_aload_n C.1.1 C.1.2.1 dl_528 rfl (lv_at hl 0 rfl) ?_
  refine lv_iload C.1.1 C.1.2.1 dl_529 (lv_at hl 4 rfl) ?_
  refine lv_iconst (v := 1) C.1.1 C.1.2.1 dl_531 (by decide) ?_
  refine lv_iadd C.1.1 C.1.2.1 dl_532 ?_
  refine va_sld C.1.1 C.1.2.1 hX hbl hbA hS i1 dl_533 ?_
  refine lw_bool C.1.1 C.1.2.1 dl_534 dl_537 dl_538 dl_541 (fun y hy => ?_)
  refine lm_goR (h := h) (hm := hm) (As := [.int y]) (rest := []) C (c_m38 xL_ok) (cwV 1 C.1.2.2.2.2 (kk_gV kw_965 kw_966 kw_967 kw_9 kw_968) rfl rfl rfl (by decide +kernel) ⟨Nat.le_of_ble_eq_true rfl, Nat.le_of_ble_eq_true rfl⟩) gI_M0 (List.forall_mem_cons.mpr ⟨⟨by decide, by decide⟩, List.forall_mem_cons.mpr ⟨⟨by decide, by decide⟩, List.forall_mem_cons.mpr ⟨⟨by decide, by decide⟩, List.forall_mem_cons.mpr ⟨⟨by decide, by decide⟩, List.forall_mem_cons.mpr ⟨⟨by decide, by decide⟩, fun _ h => absurd h List.not_mem_nil⟩⟩⟩⟩⟩) (⟨Or.inr ⟨0, List.mem_cons_self, rfl⟩, ⟨⟨_, rfl, hy⟩, trivial⟩⟩) hP hD hS rfl hl.1 rfl (Nat.le_of_ble_eq_true rfl) dl_542 hf (fun r f2 g2 H2 locs2 hq2 hJ2 hP hD hS => ?_)
  obtain ⟨o2, ho2, hr2, hT2⟩ := hq2
  have h8 := List.all_eq_true.mp (show q_m38.2.all (fun o => ck_isV o && true) = true by decide) o2 ho2
  simp only [Bool.and_eq_true] at h8
  obtain rfl := ck_isV_ok h8.1 hr2
  show W p l e room_1 s m args below meth c H2 locs2 (cells + 1) (slots + 6) Q (F0 m 545 ls [])
  refine lv_goto (tgt := 840) C.1.1 C.1.2.1 dl_545 (by decide) ?_
  exact kk H2 locs2 _ hS hl
theorem lo_10 {p : Program} {l : Launch} {e : Env} {s : State} {m : MethodId} {args : Array Value} {below : List Frame} {meth : Method} {c : Code} {H : Heap} {locs : List Loc} {cells slots : Nat} {Q : State → Prop} {D : va_G} {B : Nat} {A : Nat → Prop} {h hm : Nat → Nat} {cI cZ cJ : ClassId} {ho : Nat} {ls : Array Slot} {b L : Nat} {xs : Nat → Int32} {i : Int32} {cx : Cond} (hfl : l.flags = flags0) (C : zz_Cx p m meth c code 7 ret s args (cx :: kk_W) "NightCyclerLaw" D vN (tyN cI cZ cJ) A B (xL B h)) (hX : va_X b L xs s s.heap) (hbl : b < s.heap.size) (hbA : ¬ A b) (i1 : vp_in (i + 1) L) (i2 : vp_in (i + 2) L) (hP : va_P D vN (wW cI cZ cJ ho h hm fN0 gN0 fM0 gM0) H) (hD : va_D A (wW cI cZ cJ ho h hm fN0 gN0 fM0 gM0)) (hS : va_S A s.heap H locs) (hl : lv_has ls 7 [(0, .ref b), (1, .ref (h 0)), (2, .ref (hm 0)), (3, .ref ho), (4, .int i)]) (hf : cells + 1 ≤ room_1.cells ∧ slots + 6 ≤ room_1.slots) (kk : ∀ (H1 : Heap) (locs1 : List Loc) (ls1 : Array Slot), va_S A s.heap H1 locs1 → lv_has ls1 7 [(0, .ref b), (1, .ref (h 0)), (2, .ref (hm 0)), (3, .ref ho), (4, .int i)] → W p l e room_1 s m args below meth c H1 locs1 (cells + 1) (slots + 6) Q (F0 m 840 ls1 [])) : W p l e room_1 s m args below meth c H locs cells slots Q (F0 m 509 ls []) := by
  exact lo_10_g78 hfl C hX hbl hbA i1 i2 hP hD hS hl hf kk
theorem lo_11_fa42 {p : Program} {l : Launch} {e : Env} {s : State} {m : MethodId} {args : Array Value} {below : List Frame} {meth : Method} {c : Code} {H : Heap} {locs : List Loc} {cells slots : Nat} {Q : State → Prop} {D : va_G} {B : Nat} {A : Nat → Prop} {h hm : Nat → Nat} {cI cZ cJ : ClassId} {ho : Nat} {ls : Array Slot} {b L : Nat} {xs : Nat → Int32} {i : Int32} {cx : Cond} (hfl : l.flags = flags0) (C : zz_Cx p m meth c code 7 ret s args (cx :: kk_W) "NightCyclerLaw" D vN (tyN cI cZ cJ) A B (xL B h)) (hX : va_X b L xs s s.heap) (hbl : b < s.heap.size) (hbA : ¬ A b) (i1 : vp_in (i + 1) L) (i2 : vp_in (i + 2) L) (hP : va_P D vN (wW cI cZ cJ ho h hm fN0 gN0 fM0 gM0) H) (hD : va_D A (wW cI cZ cJ ho h hm fN0 gN0 fM0 gM0)) (hS : va_S A s.heap H locs) (hl : lv_has ls 7 [(0, .ref b), (1, .ref (h 0)), (2, .ref (hm 0)), (3, .ref ho), (4, .int i)]) (hf : cells + 1 ≤ room_1.cells ∧ slots + 6 ≤ room_1.slots) (hc0 : (-2147483648 : Int) ≤ (xs (i + 1).toNatClampNeg).toInt ∧ (xs (i + 1).toNatClampNeg).toInt ≤ (-1 : Int)) (kk : ∀ (H1 : Heap) (locs1 : List Loc) (ls1 : Array Slot), va_S A s.heap H1 locs1 → lv_has ls1 7 [(0, .ref b), (1, .ref (h 0)), (2, .ref (hm 0)), (3, .ref ho), (4, .int i)] → W p l e room_1 s m args below meth c H1 locs1 (cells + 1) (slots + 6) Q (F0 m 840 ls1 [])) : W p l e room_1 s m args below meth c H locs cells slots Q (F0 m 548 ls []) := by
  refine W.widen (k := cells + 1) (n := slots + 6) (Nat.le_succ _) (Nat.le_add_right _ _) ?_
  refine lv_aload_n C.1.1 C.1.2.1 dl_548 rfl (lv_at hl 1 rfl) ?_
  refine lv_aload_n C.1.1 C.1.2.1 dl_549 rfl (lv_at hl 0 rfl) ?_
  refine lv_iload C.1.1 C.1.2.1 dl_550 (lv_at hl 4 rfl) ?_
  refine lv_iconst (v := 1) C.1.1 C.1.2.1 dl_552 (by decide) ?_
  refine lv_iadd C.1.1 C.1.2.1 dl_553 ?_
  refine va_sld C.1.1 C.1.2.1 hX hbl hbA hS i1 dl_554 ?_
  refine lw_goF (h := h) (hm := hm) (As := [.int (xs (i + 1).toNatClampNeg)]) C c_fa42 (cwV 1 C.1.2.2.2.2 (kk_gV kw_343 kw_344 kw_345 kw_1 kw_346) rfl rfl rfl (by decide +kernel) ⟨Nat.le_of_ble_eq_true rfl, Nat.le_of_ble_eq_true rfl⟩) gI_A (List.forall_mem_cons.mpr ⟨⟨by decide, by decide⟩, List.forall_mem_cons.mpr ⟨⟨by decide, by decide⟩, List.forall_mem_cons.mpr ⟨⟨by decide, by decide⟩, fun _ h => absurd h List.not_mem_nil⟩⟩⟩) (⟨Or.inr ⟨0, List.mem_cons_self, rfl⟩, ⟨⟨_, rfl, hc0⟩, trivial⟩⟩) hP hD hS rfl hl.1 rfl dl_555 hf (fun r f1 g1 H1 locs1 hq hP hD hS => ?_)
  obtain ⟨o, ho1, hr, hT⟩ := hq
  obtain ⟨x, rfl, hx⟩ := ck_isN_ok (List.all_eq_true.mp (show q_fa42.2.all (ck_isN 0) = true by decide) o ho1) hr
  show W p l e room_1 s m args below meth c H1 locs1 (cells + 1) (slots + 6) Q (F0 m 558 ls [.int x])
  refine lv_aload_n C.1.1 C.1.2.1 dl_558 rfl (lv_at hl 2 rfl) ?_
  refine lv_aload_n C.1.1 C.1.2.1 dl_559 rfl (lv_at hl 0 rfl) ?_
  refine lv_iload C.1.1 C.1.2.1 dl_560 (lv_at hl 4 rfl) ?_
  refine lv_iconst (v := 1) C.1.1 C.1.2.1 dl_562 (by decide) ?_
  refine lv_iadd C.1.1 C.1.2.1 dl_563 ?_
  refine va_sld C.1.1 C.1.2.1 hX hbl hbA hS i1 dl_564 ?_
  refine lm_goR (h := h) (hm := hm) (As := [.int (xs (i + 1).toNatClampNeg)]) (rest := [.int x]) C (c_fm29 xL_ok) (cwV 1 C.1.2.2.2.2 (kk_gV kw_969 kw_970 kw_971 kw_9 kw_972) rfl rfl rfl (by decide +kernel) ⟨Nat.le_of_ble_eq_true rfl, Nat.le_of_ble_eq_true rfl⟩) gI_FM (List.forall_mem_cons.mpr ⟨⟨by decide, by decide⟩, List.forall_mem_cons.mpr ⟨⟨by decide, by decide⟩, List.forall_mem_cons.mpr ⟨⟨by decide, by decide⟩, List.forall_mem_cons.mpr ⟨⟨by decide, by decide⟩, fun _ h => absurd h List.not_mem_nil⟩⟩⟩⟩) (⟨Or.inr ⟨0, List.mem_cons_self, rfl⟩, ⟨⟨_, rfl, hc0⟩, trivial⟩⟩) hP hD hS rfl hl.1 rfl (Nat.le_of_ble_eq_true rfl) dl_565 hf (fun r f2 g2 H2 locs2 hq2 hJ2 hP hD hS => ?_)
  obtain ⟨o2, ho2, hr2, hT2⟩ := hq2
  have h8 := List.all_eq_true.mp (show q_fm29.2.all (fun o => ck_isN 0 o && true) = true by decide) o2 ho2
  simp only [Bool.and_eq_true] at h8
  obtain ⟨x2, rfl, hx2⟩ := ck_isN_ok h8.1 hr2
  show W p l e room_1 s m args below meth c H2 locs2 (cells + 1) (slots + 6) Q (F0 m 568 ls [.int x2, .int x])
  refine lv_icmp_eq (tgt := 840) C.1.1 C.1.2.1 dl_568 (by decide) (fun _ => ?_) (fun hne => absurd (Int32.toInt_inj.mp (hx.trans hx2.symm)) hne)
  exact kk H2 locs2 _ hS hl
theorem lo_11_fa44 {p : Program} {l : Launch} {e : Env} {s : State} {m : MethodId} {args : Array Value} {below : List Frame} {meth : Method} {c : Code} {H : Heap} {locs : List Loc} {cells slots : Nat} {Q : State → Prop} {D : va_G} {B : Nat} {A : Nat → Prop} {h hm : Nat → Nat} {cI cZ cJ : ClassId} {ho : Nat} {ls : Array Slot} {b L : Nat} {xs : Nat → Int32} {i : Int32} {cx : Cond} (hfl : l.flags = flags0) (C : zz_Cx p m meth c code 7 ret s args (cx :: kk_W) "NightCyclerLaw" D vN (tyN cI cZ cJ) A B (xL B h)) (hX : va_X b L xs s s.heap) (hbl : b < s.heap.size) (hbA : ¬ A b) (i1 : vp_in (i + 1) L) (i2 : vp_in (i + 2) L) (hP : va_P D vN (wW cI cZ cJ ho h hm fN0 gN0 fM0 gM0) H) (hD : va_D A (wW cI cZ cJ ho h hm fN0 gN0 fM0 gM0)) (hS : va_S A s.heap H locs) (hl : lv_has ls 7 [(0, .ref b), (1, .ref (h 0)), (2, .ref (hm 0)), (3, .ref ho), (4, .int i)]) (hf : cells + 1 ≤ room_1.cells ∧ slots + 6 ≤ room_1.slots) (hc0 : (0 : Int) ≤ (xs (i + 1).toNatClampNeg).toInt ∧ (xs (i + 1).toNatClampNeg).toInt ≤ (0 : Int)) (kk : ∀ (H1 : Heap) (locs1 : List Loc) (ls1 : Array Slot), va_S A s.heap H1 locs1 → lv_has ls1 7 [(0, .ref b), (1, .ref (h 0)), (2, .ref (hm 0)), (3, .ref ho), (4, .int i)] → W p l e room_1 s m args below meth c H1 locs1 (cells + 1) (slots + 6) Q (F0 m 840 ls1 [])) : W p l e room_1 s m args below meth c H locs cells slots Q (F0 m 548 ls []) := by
  refine W.widen (k := cells + 1) (n := slots + 6) (Nat.le_succ _) (Nat.le_add_right _ _) ?_
  refine lv_aload_n C.1.1 C.1.2.1 dl_548 rfl (lv_at hl 1 rfl) ?_
  refine lv_aload_n C.1.1 C.1.2.1 dl_549 rfl (lv_at hl 0 rfl) ?_
  refine lv_iload C.1.1 C.1.2.1 dl_550 (lv_at hl 4 rfl) ?_
  refine lv_iconst (v := 1) C.1.1 C.1.2.1 dl_552 (by decide) ?_
  refine lv_iadd C.1.1 C.1.2.1 dl_553 ?_
  refine va_sld C.1.1 C.1.2.1 hX hbl hbA hS i1 dl_554 ?_
  refine lw_goF (h := h) (hm := hm) (As := [.int (xs (i + 1).toNatClampNeg)]) C c_fa44 (cwV 1 C.1.2.2.2.2 (kk_gV kw_343 kw_344 kw_345 kw_1 kw_346) rfl rfl rfl (by decide +kernel) ⟨Nat.le_of_ble_eq_true rfl, Nat.le_of_ble_eq_true rfl⟩) gI_A (List.forall_mem_cons.mpr ⟨⟨by decide, by decide⟩, List.forall_mem_cons.mpr ⟨⟨by decide, by decide⟩, List.forall_mem_cons.mpr ⟨⟨by decide, by decide⟩, fun _ h => absurd h List.not_mem_nil⟩⟩⟩) (⟨Or.inr ⟨0, List.mem_cons_self, rfl⟩, ⟨⟨_, rfl, hc0⟩, trivial⟩⟩) hP hD hS rfl hl.1 rfl dl_555 hf (fun r f1 g1 H1 locs1 hq hP hD hS => ?_)
  obtain ⟨o, ho1, hr, hT⟩ := hq
  obtain ⟨x, rfl, hx⟩ := ck_isN_ok (List.all_eq_true.mp (show q_fa44.2.all (ck_isN 0) = true by decide) o ho1) hr
  show W p l e room_1 s m args below meth c H1 locs1 (cells + 1) (slots + 6) Q (F0 m 558 ls [.int x])
  refine lv_aload_n C.1.1 C.1.2.1 dl_558 rfl (lv_at hl 2 rfl) ?_
  refine lv_aload_n C.1.1 C.1.2.1 dl_559 rfl (lv_at hl 0 rfl) ?_
  refine lv_iload C.1.1 C.1.2.1 dl_560 (lv_at hl 4 rfl) ?_
  refine lv_iconst (v := 1) C.1.1 C.1.2.1 dl_562 (by decide) ?_
  refine lv_iadd C.1.1 C.1.2.1 dl_563 ?_
  refine va_sld C.1.1 C.1.2.1 hX hbl hbA hS i1 dl_564 ?_
  refine lm_goR (h := h) (hm := hm) (As := [.int (xs (i + 1).toNatClampNeg)]) (rest := [.int x]) C (c_fm30 xL_ok) (cwV 1 C.1.2.2.2.2 (kk_gV kw_969 kw_970 kw_971 kw_9 kw_972) rfl rfl rfl (by decide +kernel) ⟨Nat.le_of_ble_eq_true rfl, Nat.le_of_ble_eq_true rfl⟩) gI_FM (List.forall_mem_cons.mpr ⟨⟨by decide, by decide⟩, List.forall_mem_cons.mpr ⟨⟨by decide, by decide⟩, List.forall_mem_cons.mpr ⟨⟨by decide, by decide⟩, List.forall_mem_cons.mpr ⟨⟨by decide, by decide⟩, fun _ h => absurd h List.not_mem_nil⟩⟩⟩⟩) (⟨Or.inr ⟨0, List.mem_cons_self, rfl⟩, ⟨⟨_, rfl, hc0⟩, trivial⟩⟩) hP hD hS rfl hl.1 rfl (Nat.le_of_ble_eq_true rfl) dl_565 hf (fun r f2 g2 H2 locs2 hq2 hJ2 hP hD hS => ?_)
  obtain ⟨o2, ho2, hr2, hT2⟩ := hq2
  have h8 := List.all_eq_true.mp (show q_fm30.2.all (fun o => ck_isN 0 o && true) = true by decide) o2 ho2
  simp only [Bool.and_eq_true] at h8
  obtain ⟨x2, rfl, hx2⟩ := ck_isN_ok h8.1 hr2
  show W p l e room_1 s m args below meth c H2 locs2 (cells + 1) (slots + 6) Q (F0 m 568 ls [.int x2, .int x])
  refine lv_icmp_eq (tgt := 840) C.1.1 C.1.2.1 dl_568 (by decide) (fun _ => ?_) (fun hne => absurd (Int32.toInt_inj.mp (hx.trans hx2.symm)) hne)
  exact kk H2 locs2 _ hS hl
theorem lo_11_fa46 {p : Program} {l : Launch} {e : Env} {s : State} {m : MethodId} {args : Array Value} {below : List Frame} {meth : Method} {c : Code} {H : Heap} {locs : List Loc} {cells slots : Nat} {Q : State → Prop} {D : va_G} {B : Nat} {A : Nat → Prop} {h hm : Nat → Nat} {cI cZ cJ : ClassId} {ho : Nat} {ls : Array Slot} {b L : Nat} {xs : Nat → Int32} {i : Int32} {cx : Cond} (hfl : l.flags = flags0) (C : zz_Cx p m meth c code 7 ret s args (cx :: kk_W) "NightCyclerLaw" D vN (tyN cI cZ cJ) A B (xL B h)) (hX : va_X b L xs s s.heap) (hbl : b < s.heap.size) (hbA : ¬ A b) (i1 : vp_in (i + 1) L) (i2 : vp_in (i + 2) L) (hP : va_P D vN (wW cI cZ cJ ho h hm fN0 gN0 fM0 gM0) H) (hD : va_D A (wW cI cZ cJ ho h hm fN0 gN0 fM0 gM0)) (hS : va_S A s.heap H locs) (hl : lv_has ls 7 [(0, .ref b), (1, .ref (h 0)), (2, .ref (hm 0)), (3, .ref ho), (4, .int i)]) (hf : cells + 1 ≤ room_1.cells ∧ slots + 6 ≤ room_1.slots) (hc0 : (1 : Int) ≤ (xs (i + 1).toNatClampNeg).toInt ∧ (xs (i + 1).toNatClampNeg).toInt ≤ (1 : Int)) (kk : ∀ (H1 : Heap) (locs1 : List Loc) (ls1 : Array Slot), va_S A s.heap H1 locs1 → lv_has ls1 7 [(0, .ref b), (1, .ref (h 0)), (2, .ref (hm 0)), (3, .ref ho), (4, .int i)] → W p l e room_1 s m args below meth c H1 locs1 (cells + 1) (slots + 6) Q (F0 m 840 ls1 [])) : W p l e room_1 s m args below meth c H locs cells slots Q (F0 m 548 ls []) := by
  refine W.widen (k := cells + 1) (n := slots + 6) (Nat.le_succ _) (Nat.le_add_right _ _) ?_
  refine lv_aload_n C.1.1 C.1.2.1 dl_548 rfl (lv_at hl 1 rfl) ?_
  refine lv_aload_n C.1.1 C.1.2.1 dl_549 rfl (lv_at hl 0 rfl) ?_
  refine lv_iload C.1.1 C.1.2.1 dl_550 (lv_at hl 4 rfl) ?_
  refine lv_iconst (v := 1) C.1.1 C.1.2.1 dl_552 (by decide) ?_
  refine lv_iadd C.1.1 C.1.2.1 dl_553 ?_
  refine va_sld C.1.1 C.1.2.1 hX hbl hbA hS i1 dl_554 ?_
  refine lw_goF (h := h) (hm := hm) (As := [.int (xs (i + 1).toNatClampNeg)]) C c_fa46 (cwV 1 C.1.2.2.2.2 (kk_gV kw_343 kw_344 kw_345 kw_1 kw_346) rfl rfl rfl (by decide +kernel) ⟨Nat.le_of_ble_eq_true rfl, Nat.le_of_ble_eq_true rfl⟩) gI_A (List.forall_mem_cons.mpr ⟨⟨by decide, by decide⟩, List.forall_mem_cons.mpr ⟨⟨by decide, by decide⟩, List.forall_mem_cons.mpr ⟨⟨by decide, by decide⟩, fun _ h => absurd h List.not_mem_nil⟩⟩⟩) (⟨Or.inr ⟨0, List.mem_cons_self, rfl⟩, ⟨⟨_, rfl, hc0⟩, trivial⟩⟩) hP hD hS rfl hl.1 rfl dl_555 hf (fun r f1 g1 H1 locs1 hq hP hD hS => ?_)
  obtain ⟨o, ho1, hr, hT⟩ := hq
  obtain ⟨x, rfl, hx⟩ := ck_isN_ok (List.all_eq_true.mp (show q_fa46.2.all (ck_isN 0) = true by decide) o ho1) hr
  show W p l e room_1 s m args below meth c H1 locs1 (cells + 1) (slots + 6) Q (F0 m 558 ls [.int x])
  refine lv_aload_n C.1.1 C.1.2.1 dl_558 rfl (lv_at hl 2 rfl) ?_
  refine lv_aload_n C.1.1 C.1.2.1 dl_559 rfl (lv_at hl 0 rfl) ?_
  refine lv_iload C.1.1 C.1.2.1 dl_560 (lv_at hl 4 rfl) ?_
  refine lv_iconst (v := 1) C.1.1 C.1.2.1 dl_562 (by decide) ?_
  refine lv_iadd C.1.1 C.1.2.1 dl_563 ?_
  refine va_sld C.1.1 C.1.2.1 hX hbl hbA hS i1 dl_564 ?_
  refine lm_goR (h := h) (hm := hm) (As := [.int (xs (i + 1).toNatClampNeg)]) (rest := [.int x]) C (c_fm31 xL_ok) (cwV 1 C.1.2.2.2.2 (kk_gV kw_969 kw_970 kw_971 kw_9 kw_972) rfl rfl rfl (by decide +kernel) ⟨Nat.le_of_ble_eq_true rfl, Nat.le_of_ble_eq_true rfl⟩) gI_FM (List.forall_mem_cons.mpr ⟨⟨by decide, by decide⟩, List.forall_mem_cons.mpr ⟨⟨by decide, by decide⟩, List.forall_mem_cons.mpr ⟨⟨by decide, by decide⟩, List.forall_mem_cons.mpr ⟨⟨by decide, by decide⟩, fun _ h => absurd h List.not_mem_nil⟩⟩⟩⟩) (⟨Or.inr ⟨0, List.mem_cons_self, rfl⟩, ⟨⟨_, rfl, hc0⟩, trivial⟩⟩) hP hD hS rfl hl.1 rfl (Nat.le_of_ble_eq_true rfl) dl_565 hf (fun r f2 g2 H2 locs2 hq2 hJ2 hP hD hS => ?_)
  obtain ⟨o2, ho2, hr2, hT2⟩ := hq2
  have h8 := List.all_eq_true.mp (show q_fm31.2.all (fun o => ck_isN 0 o && true) = true by decide) o2 ho2
  simp only [Bool.and_eq_true] at h8
  obtain ⟨x2, rfl, hx2⟩ := ck_isN_ok h8.1 hr2
  show W p l e room_1 s m args below meth c H2 locs2 (cells + 1) (slots + 6) Q (F0 m 568 ls [.int x2, .int x])
  refine lv_icmp_eq (tgt := 840) C.1.1 C.1.2.1 dl_568 (by decide) (fun _ => ?_) (fun hne => absurd (Int32.toInt_inj.mp (hx.trans hx2.symm)) hne)
  exact kk H2 locs2 _ hS hl
theorem lo_11_fa48 {p : Program} {l : Launch} {e : Env} {s : State} {m : MethodId} {args : Array Value} {below : List Frame} {meth : Method} {c : Code} {H : Heap} {locs : List Loc} {cells slots : Nat} {Q : State → Prop} {D : va_G} {B : Nat} {A : Nat → Prop} {h hm : Nat → Nat} {cI cZ cJ : ClassId} {ho : Nat} {ls : Array Slot} {b L : Nat} {xs : Nat → Int32} {i : Int32} {cx : Cond} (hfl : l.flags = flags0) (C : zz_Cx p m meth c code 7 ret s args (cx :: kk_W) "NightCyclerLaw" D vN (tyN cI cZ cJ) A B (xL B h)) (hX : va_X b L xs s s.heap) (hbl : b < s.heap.size) (hbA : ¬ A b) (i1 : vp_in (i + 1) L) (i2 : vp_in (i + 2) L) (hP : va_P D vN (wW cI cZ cJ ho h hm fN0 gN0 fM0 gM0) H) (hD : va_D A (wW cI cZ cJ ho h hm fN0 gN0 fM0 gM0)) (hS : va_S A s.heap H locs) (hl : lv_has ls 7 [(0, .ref b), (1, .ref (h 0)), (2, .ref (hm 0)), (3, .ref ho), (4, .int i)]) (hf : cells + 1 ≤ room_1.cells ∧ slots + 6 ≤ room_1.slots) (hc0 : (2 : Int) ≤ (xs (i + 1).toNatClampNeg).toInt ∧ (xs (i + 1).toNatClampNeg).toInt ≤ (2 : Int)) (kk : ∀ (H1 : Heap) (locs1 : List Loc) (ls1 : Array Slot), va_S A s.heap H1 locs1 → lv_has ls1 7 [(0, .ref b), (1, .ref (h 0)), (2, .ref (hm 0)), (3, .ref ho), (4, .int i)] → W p l e room_1 s m args below meth c H1 locs1 (cells + 1) (slots + 6) Q (F0 m 840 ls1 [])) : W p l e room_1 s m args below meth c H locs cells slots Q (F0 m 548 ls []) := by
  refine W.widen (k := cells + 1) (n := slots + 6) (Nat.le_succ _) (Nat.le_add_right _ _) ?_
  refine lv_aload_n C.1.1 C.1.2.1 dl_548 rfl (lv_at hl 1 rfl) ?_
  refine lv_aload_n C.1.1 C.1.2.1 dl_549 rfl (lv_at hl 0 rfl) ?_
  refine lv_iload C.1.1 C.1.2.1 dl_550 (lv_at hl 4 rfl) ?_
  refine lv_iconst (v := 1) C.1.1 C.1.2.1 dl_552 (by decide) ?_
  refine lv_iadd C.1.1 C.1.2.1 dl_553 ?_
  refine va_sld C.1.1 C.1.2.1 hX hbl hbA hS i1 dl_554 ?_
  refine lw_goF (h := h) (hm := hm) (As := [.int (xs (i + 1).toNatClampNeg)]) C c_fa48 (cwV 1 C.1.2.2.2.2 (kk_gV kw_343 kw_344 kw_345 kw_1 kw_346) rfl rfl rfl (by decide +kernel) ⟨Nat.le_of_ble_eq_true rfl, Nat.le_of_ble_eq_true rfl⟩) gI_A (List.forall_mem_cons.mpr ⟨⟨by decide, by decide⟩, List.forall_mem_cons.mpr ⟨⟨by decide, by decide⟩, List.forall_mem_cons.mpr ⟨⟨by decide, by decide⟩, fun _ h => absurd h List.not_mem_nil⟩⟩⟩) (⟨Or.inr ⟨0, List.mem_cons_self, rfl⟩, ⟨⟨_, rfl, hc0⟩, trivial⟩⟩) hP hD hS rfl hl.1 rfl dl_555 hf (fun r f1 g1 H1 locs1 hq hP hD hS => ?_)
  obtain ⟨o, ho1, hr, hT⟩ := hq
  obtain ⟨x, rfl, hx⟩ := ck_isN_ok (List.all_eq_true.mp (show q_fa48.2.all (ck_isN 0) = true by decide) o ho1) hr
  show W p l e room_1 s m args below meth c H1 locs1 (cells + 1) (slots + 6) Q (F0 m 558 ls [.int x])
  refine lv_aload_n C.1.1 C.1.2.1 dl_558 rfl (lv_at hl 2 rfl) ?_
  refine lv_aload_n C.1.1 C.1.2.1 dl_559 rfl (lv_at hl 0 rfl) ?_
  refine lv_iload C.1.1 C.1.2.1 dl_560 (lv_at hl 4 rfl) ?_
  refine lv_iconst (v := 1) C.1.1 C.1.2.1 dl_562 (by decide) ?_
  refine lv_iadd C.1.1 C.1.2.1 dl_563 ?_
  refine va_sld C.1.1 C.1.2.1 hX hbl hbA hS i1 dl_564 ?_
  refine lm_goR (h := h) (hm := hm) (As := [.int (xs (i + 1).toNatClampNeg)]) (rest := [.int x]) C (c_fm32 xL_ok) (cwV 1 C.1.2.2.2.2 (kk_gV kw_969 kw_970 kw_971 kw_9 kw_972) rfl rfl rfl (by decide +kernel) ⟨Nat.le_of_ble_eq_true rfl, Nat.le_of_ble_eq_true rfl⟩) gI_FM (List.forall_mem_cons.mpr ⟨⟨by decide, by decide⟩, List.forall_mem_cons.mpr ⟨⟨by decide, by decide⟩, List.forall_mem_cons.mpr ⟨⟨by decide, by decide⟩, List.forall_mem_cons.mpr ⟨⟨by decide, by decide⟩, fun _ h => absurd h List.not_mem_nil⟩⟩⟩⟩) (⟨Or.inr ⟨0, List.mem_cons_self, rfl⟩, ⟨⟨_, rfl, hc0⟩, trivial⟩⟩) hP hD hS rfl hl.1 rfl (Nat.le_of_ble_eq_true rfl) dl_565 hf (fun r f2 g2 H2 locs2 hq2 hJ2 hP hD hS => ?_)
  obtain ⟨o2, ho2, hr2, hT2⟩ := hq2
  have h8 := List.all_eq_true.mp (show q_fm32.2.all (fun o => ck_isN 0 o && true) = true by decide) o2 ho2
  simp only [Bool.and_eq_true] at h8
  obtain ⟨x2, rfl, hx2⟩ := ck_isN_ok h8.1 hr2
  show W p l e room_1 s m args below meth c H2 locs2 (cells + 1) (slots + 6) Q (F0 m 568 ls [.int x2, .int x])
  refine lv_icmp_eq (tgt := 840) C.1.1 C.1.2.1 dl_568 (by decide) (fun _ => ?_) (fun hne => absurd (Int32.toInt_inj.mp (hx.trans hx2.symm)) hne)
  exact kk H2 locs2 _ hS hl
theorem lo_11_fa50 {p : Program} {l : Launch} {e : Env} {s : State} {m : MethodId} {args : Array Value} {below : List Frame} {meth : Method} {c : Code} {H : Heap} {locs : List Loc} {cells slots : Nat} {Q : State → Prop} {D : va_G} {B : Nat} {A : Nat → Prop} {h hm : Nat → Nat} {cI cZ cJ : ClassId} {ho : Nat} {ls : Array Slot} {b L : Nat} {xs : Nat → Int32} {i : Int32} {cx : Cond} (hfl : l.flags = flags0) (C : zz_Cx p m meth c code 7 ret s args (cx :: kk_W) "NightCyclerLaw" D vN (tyN cI cZ cJ) A B (xL B h)) (hX : va_X b L xs s s.heap) (hbl : b < s.heap.size) (hbA : ¬ A b) (i1 : vp_in (i + 1) L) (i2 : vp_in (i + 2) L) (hP : va_P D vN (wW cI cZ cJ ho h hm fN0 gN0 fM0 gM0) H) (hD : va_D A (wW cI cZ cJ ho h hm fN0 gN0 fM0 gM0)) (hS : va_S A s.heap H locs) (hl : lv_has ls 7 [(0, .ref b), (1, .ref (h 0)), (2, .ref (hm 0)), (3, .ref ho), (4, .int i)]) (hf : cells + 1 ≤ room_1.cells ∧ slots + 6 ≤ room_1.slots) (hc0 : (3 : Int) ≤ (xs (i + 1).toNatClampNeg).toInt ∧ (xs (i + 1).toNatClampNeg).toInt ≤ (3 : Int)) (kk : ∀ (H1 : Heap) (locs1 : List Loc) (ls1 : Array Slot), va_S A s.heap H1 locs1 → lv_has ls1 7 [(0, .ref b), (1, .ref (h 0)), (2, .ref (hm 0)), (3, .ref ho), (4, .int i)] → W p l e room_1 s m args below meth c H1 locs1 (cells + 1) (slots + 6) Q (F0 m 840 ls1 [])) : W p l e room_1 s m args below meth c H locs cells slots Q (F0 m 548 ls []) := by
  refine W.widen (k := cells + 1) (n := slots + 6) (Nat.le_succ _) (Nat.le_add_right _ _) ?_
  refine lv_aload_n C.1.1 C.1.2.1 dl_548 rfl (lv_at hl 1 rfl) ?_
  refine lv_aload_n C.1.1 C.1.2.1 dl_549 rfl (lv_at hl 0 rfl) ?_
  refine lv_iload C.1.1 C.1.2.1 dl_550 (lv_at hl 4 rfl) ?_
  refine lv_iconst (v := 1) C.1.1 C.1.2.1 dl_552 (by decide) ?_
  refine lv_iadd C.1.1 C.1.2.1 dl_553 ?_
  refine va_sld C.1.1 C.1.2.1 hX hbl hbA hS i1 dl_554 ?_
  refine lw_goF (h := h) (hm := hm) (As := [.int (xs (i + 1).toNatClampNeg)]) C c_fa50 (cwV 1 C.1.2.2.2.2 (kk_gV kw_343 kw_344 kw_345 kw_1 kw_346) rfl rfl rfl (by decide +kernel) ⟨Nat.le_of_ble_eq_true rfl, Nat.le_of_ble_eq_true rfl⟩) gI_A (List.forall_mem_cons.mpr ⟨⟨by decide, by decide⟩, List.forall_mem_cons.mpr ⟨⟨by decide, by decide⟩, List.forall_mem_cons.mpr ⟨⟨by decide, by decide⟩, fun _ h => absurd h List.not_mem_nil⟩⟩⟩) (⟨Or.inr ⟨0, List.mem_cons_self, rfl⟩, ⟨⟨_, rfl, hc0⟩, trivial⟩⟩) hP hD hS rfl hl.1 rfl dl_555 hf (fun r f1 g1 H1 locs1 hq hP hD hS => ?_)
  obtain ⟨o, ho1, hr, hT⟩ := hq
  obtain ⟨x, rfl, hx⟩ := ck_isN_ok (List.all_eq_true.mp (show q_fa50.2.all (ck_isN 0) = true by decide) o ho1) hr
  show W p l e room_1 s m args below meth c H1 locs1 (cells + 1) (slots + 6) Q (F0 m 558 ls [.int x])
  refine lv_aload_n C.1.1 C.1.2.1 dl_558 rfl (lv_at hl 2 rfl) ?_
  refine lv_aload_n C.1.1 C.1.2.1 dl_559 rfl (lv_at hl 0 rfl) ?_
  refine lv_iload C.1.1 C.1.2.1 dl_560 (lv_at hl 4 rfl) ?_
  refine lv_iconst (v := 1) C.1.1 C.1.2.1 dl_562 (by decide) ?_
  refine lv_iadd C.1.1 C.1.2.1 dl_563 ?_
  refine va_sld C.1.1 C.1.2.1 hX hbl hbA hS i1 dl_564 ?_
  refine lm_goR (h := h) (hm := hm) (As := [.int (xs (i + 1).toNatClampNeg)]) (rest := [.int x]) C (c_fm33 xL_ok) (cwV 1 C.1.2.2.2.2 (kk_gV kw_969 kw_970 kw_971 kw_9 kw_972) rfl rfl rfl (by decide +kernel) ⟨Nat.le_of_ble_eq_true rfl, Nat.le_of_ble_eq_true rfl⟩) gI_FM (List.forall_mem_cons.mpr ⟨⟨by decide, by decide⟩, List.forall_mem_cons.mpr ⟨⟨by decide, by decide⟩, List.forall_mem_cons.mpr ⟨⟨by decide, by decide⟩, List.forall_mem_cons.mpr ⟨⟨by decide, by decide⟩, fun _ h => absurd h List.not_mem_nil⟩⟩⟩⟩) (⟨Or.inr ⟨0, List.mem_cons_self, rfl⟩, ⟨⟨_, rfl, hc0⟩, trivial⟩⟩) hP hD hS rfl hl.1 rfl (Nat.le_of_ble_eq_true rfl) dl_565 hf (fun r f2 g2 H2 locs2 hq2 hJ2 hP hD hS => ?_)
  obtain ⟨o2, ho2, hr2, hT2⟩ := hq2
  have h8 := List.all_eq_true.mp (show q_fm33.2.all (fun o => ck_isN 0 o && true) = true by decide) o2 ho2
  simp only [Bool.and_eq_true] at h8
  obtain ⟨x2, rfl, hx2⟩ := ck_isN_ok h8.1 hr2
  show W p l e room_1 s m args below meth c H2 locs2 (cells + 1) (slots + 6) Q (F0 m 568 ls [.int x2, .int x])
  refine lv_icmp_eq (tgt := 840) C.1.1 C.1.2.1 dl_568 (by decide) (fun _ => ?_) (fun hne => absurd (Int32.toInt_inj.mp (hx.trans hx2.symm)) hne)
  exact kk H2 locs2 _ hS hl
theorem lo_11_fa52 {p : Program} {l : Launch} {e : Env} {s : State} {m : MethodId} {args : Array Value} {below : List Frame} {meth : Method} {c : Code} {H : Heap} {locs : List Loc} {cells slots : Nat} {Q : State → Prop} {D : va_G} {B : Nat} {A : Nat → Prop} {h hm : Nat → Nat} {cI cZ cJ : ClassId} {ho : Nat} {ls : Array Slot} {b L : Nat} {xs : Nat → Int32} {i : Int32} {cx : Cond} (hfl : l.flags = flags0) (C : zz_Cx p m meth c code 7 ret s args (cx :: kk_W) "NightCyclerLaw" D vN (tyN cI cZ cJ) A B (xL B h)) (hX : va_X b L xs s s.heap) (hbl : b < s.heap.size) (hbA : ¬ A b) (i1 : vp_in (i + 1) L) (i2 : vp_in (i + 2) L) (hP : va_P D vN (wW cI cZ cJ ho h hm fN0 gN0 fM0 gM0) H) (hD : va_D A (wW cI cZ cJ ho h hm fN0 gN0 fM0 gM0)) (hS : va_S A s.heap H locs) (hl : lv_has ls 7 [(0, .ref b), (1, .ref (h 0)), (2, .ref (hm 0)), (3, .ref ho), (4, .int i)]) (hf : cells + 1 ≤ room_1.cells ∧ slots + 6 ≤ room_1.slots) (hc0 : (4 : Int) ≤ (xs (i + 1).toNatClampNeg).toInt ∧ (xs (i + 1).toNatClampNeg).toInt ≤ (4 : Int)) (kk : ∀ (H1 : Heap) (locs1 : List Loc) (ls1 : Array Slot), va_S A s.heap H1 locs1 → lv_has ls1 7 [(0, .ref b), (1, .ref (h 0)), (2, .ref (hm 0)), (3, .ref ho), (4, .int i)] → W p l e room_1 s m args below meth c H1 locs1 (cells + 1) (slots + 6) Q (F0 m 840 ls1 [])) : W p l e room_1 s m args below meth c H locs cells slots Q (F0 m 548 ls []) := by
  refine W.widen (k := cells + 1) (n := slots + 6) (Nat.le_succ _) (Nat.le_add_right _ _) ?_
  refine lv_aload_n C.1.1 C.1.2.1 dl_548 rfl (lv_at hl 1 rfl) ?_
  refine lv_aload_n C.1.1 C.1.2.1 dl_549 rfl (lv_at hl 0 rfl) ?_
  refine lv_iload C.1.1 C.1.2.1 dl_550 (lv_at hl 4 rfl) ?_
  refine lv_iconst (v := 1) C.1.1 C.1.2.1 dl_552 (by decide) ?_
  refine lv_iadd C.1.1 C.1.2.1 dl_553 ?_
  refine va_sld C.1.1 C.1.2.1 hX hbl hbA hS i1 dl_554 ?_
  refine lw_goF (h := h) (hm := hm) (As := [.int (xs (i + 1).toNatClampNeg)]) C c_fa52 (cwV 1 C.1.2.2.2.2 (kk_gV kw_343 kw_344 kw_345 kw_1 kw_346) rfl rfl rfl (by decide +kernel) ⟨Nat.le_of_ble_eq_true rfl, Nat.le_of_ble_eq_true rfl⟩) gI_A (List.forall_mem_cons.mpr ⟨⟨by decide, by decide⟩, List.forall_mem_cons.mpr ⟨⟨by decide, by decide⟩, List.forall_mem_cons.mpr ⟨⟨by decide, by decide⟩, fun _ h => absurd h List.not_mem_nil⟩⟩⟩) (⟨Or.inr ⟨0, List.mem_cons_self, rfl⟩, ⟨⟨_, rfl, hc0⟩, trivial⟩⟩) hP hD hS rfl hl.1 rfl dl_555 hf (fun r f1 g1 H1 locs1 hq hP hD hS => ?_)
  obtain ⟨o, ho1, hr, hT⟩ := hq
  obtain ⟨x, rfl, hx⟩ := ck_isN_ok (List.all_eq_true.mp (show q_fa52.2.all (ck_isN 0) = true by decide) o ho1) hr
  show W p l e room_1 s m args below meth c H1 locs1 (cells + 1) (slots + 6) Q (F0 m 558 ls [.int x])
  refine lv_aload_n C.1.1 C.1.2.1 dl_558 rfl (lv_at hl 2 rfl) ?_
  refine lv_aload_n C.1.1 C.1.2.1 dl_559 rfl (lv_at hl 0 rfl) ?_
  refine lv_iload C.1.1 C.1.2.1 dl_560 (lv_at hl 4 rfl) ?_
  refine lv_iconst (v := 1) C.1.1 C.1.2.1 dl_562 (by decide) ?_
  refine lv_iadd C.1.1 C.1.2.1 dl_563 ?_
  refine va_sld C.1.1 C.1.2.1 hX hbl hbA hS i1 dl_564 ?_
  refine lm_goR (h := h) (hm := hm) (As := [.int (xs (i + 1).toNatClampNeg)]) (rest := [.int x]) C (c_fm34 xL_ok) (cwV 1 C.1.2.2.2.2 (kk_gV kw_969 kw_970 kw_971 kw_9 kw_972) rfl rfl rfl (by decide +kernel) ⟨Nat.le_of_ble_eq_true rfl, Nat.le_of_ble_eq_true rfl⟩) gI_FM (List.forall_mem_cons.mpr ⟨⟨by decide, by decide⟩, List.forall_mem_cons.mpr ⟨⟨by decide, by decide⟩, List.forall_mem_cons.mpr ⟨⟨by decide, by decide⟩, List.forall_mem_cons.mpr ⟨⟨by decide, by decide⟩, fun _ h => absurd h List.not_mem_nil⟩⟩⟩⟩) (⟨Or.inr ⟨0, List.mem_cons_self, rfl⟩, ⟨⟨_, rfl, hc0⟩, trivial⟩⟩) hP hD hS rfl hl.1 rfl (Nat.le_of_ble_eq_true rfl) dl_565 hf (fun r f2 g2 H2 locs2 hq2 hJ2 hP hD hS => ?_)
  obtain ⟨o2, ho2, hr2, hT2⟩ := hq2
  have h8 := List.all_eq_true.mp (show q_fm34.2.all (fun o => ck_isN 0 o && true) = true by decide) o2 ho2
  simp only [Bool.and_eq_true] at h8
  obtain ⟨x2, rfl, hx2⟩ := ck_isN_ok h8.1 hr2
  show W p l e room_1 s m args below meth c H2 locs2 (cells + 1) (slots + 6) Q (F0 m 568 ls [.int x2, .int x])
  refine lv_icmp_eq (tgt := 840) C.1.1 C.1.2.1 dl_568 (by decide) (fun _ => ?_) (fun hne => absurd (Int32.toInt_inj.mp (hx.trans hx2.symm)) hne)
  exact kk H2 locs2 _ hS hl
theorem lo_11_fa54 {p : Program} {l : Launch} {e : Env} {s : State} {m : MethodId} {args : Array Value} {below : List Frame} {meth : Method} {c : Code} {H : Heap} {locs : List Loc} {cells slots : Nat} {Q : State → Prop} {D : va_G} {B : Nat} {A : Nat → Prop} {h hm : Nat → Nat} {cI cZ cJ : ClassId} {ho : Nat} {ls : Array Slot} {b L : Nat} {xs : Nat → Int32} {i : Int32} {cx : Cond} (hfl : l.flags = flags0) (C : zz_Cx p m meth c code 7 ret s args (cx :: kk_W) "NightCyclerLaw" D vN (tyN cI cZ cJ) A B (xL B h)) (hX : va_X b L xs s s.heap) (hbl : b < s.heap.size) (hbA : ¬ A b) (i1 : vp_in (i + 1) L) (i2 : vp_in (i + 2) L) (hP : va_P D vN (wW cI cZ cJ ho h hm fN0 gN0 fM0 gM0) H) (hD : va_D A (wW cI cZ cJ ho h hm fN0 gN0 fM0 gM0)) (hS : va_S A s.heap H locs) (hl : lv_has ls 7 [(0, .ref b), (1, .ref (h 0)), (2, .ref (hm 0)), (3, .ref ho), (4, .int i)]) (hf : cells + 1 ≤ room_1.cells ∧ slots + 6 ≤ room_1.slots) (hc0 : (5 : Int) ≤ (xs (i + 1).toNatClampNeg).toInt ∧ (xs (i + 1).toNatClampNeg).toInt ≤ (2147483647 : Int)) (kk : ∀ (H1 : Heap) (locs1 : List Loc) (ls1 : Array Slot), va_S A s.heap H1 locs1 → lv_has ls1 7 [(0, .ref b), (1, .ref (h 0)), (2, .ref (hm 0)), (3, .ref ho), (4, .int i)] → W p l e room_1 s m args below meth c H1 locs1 (cells + 1) (slots + 6) Q (F0 m 840 ls1 [])) : W p l e room_1 s m args below meth c H locs cells slots Q (F0 m 548 ls []) := by
  refine W.widen (k := cells + 1) (n := slots + 6) (Nat.le_succ _) (Nat.le_add_right _ _) ?_
  refine lv_aload_n C.1.1 C.1.2.1 dl_548 rfl (lv_at hl 1 rfl) ?_
  refine lv_aload_n C.1.1 C.1.2.1 dl_549 rfl (lv_at hl 0 rfl) ?_
  refine lv_iload C.1.1 C.1.2.1 dl_550 (lv_at hl 4 rfl) ?_
  refine lv_iconst (v := 1) C.1.1 C.1.2.1 dl_552 (by decide) ?_
  refine lv_iadd C.1.1 C.1.2.1 dl_553 ?_
  refine va_sld C.1.1 C.1.2.1 hX hbl hbA hS i1 dl_554 ?_
  refine lw_goF (h := h) (hm := hm) (As := [.int (xs (i + 1).toNatClampNeg)]) C c_fa54 (cwV 1 C.1.2.2.2.2 (kk_gV kw_343 kw_344 kw_345 kw_1 kw_346) rfl rfl rfl (by decide +kernel) ⟨Nat.le_of_ble_eq_true rfl, Nat.le_of_ble_eq_true rfl⟩) gI_A (List.forall_mem_cons.mpr ⟨⟨by decide, by decide⟩, List.forall_mem_cons.mpr ⟨⟨by decide, by decide⟩, List.forall_mem_cons.mpr ⟨⟨by decide, by decide⟩, fun _ h => absurd h List.not_mem_nil⟩⟩⟩) (⟨Or.inr ⟨0, List.mem_cons_self, rfl⟩, ⟨⟨_, rfl, hc0⟩, trivial⟩⟩) hP hD hS rfl hl.1 rfl dl_555 hf (fun r f1 g1 H1 locs1 hq hP hD hS => ?_)
  obtain ⟨o, ho1, hr, hT⟩ := hq
  obtain ⟨x, rfl, hx⟩ := ck_isN_ok (List.all_eq_true.mp (show q_fa54.2.all (ck_isN 0) = true by decide) o ho1) hr
  show W p l e room_1 s m args below meth c H1 locs1 (cells + 1) (slots + 6) Q (F0 m 558 ls [.int x])
  refine lv_aload_n C.1.1 C.1.2.1 dl_558 rfl (lv_at hl 2 rfl) ?_
  refine lv_aload_n C.1.1 C.1.2.1 dl_559 rfl (lv_at hl 0 rfl) ?_
  refine lv_iload C.1.1 C.1.2.1 dl_560 (lv_at hl 4 rfl) ?_
  refine lv_iconst (v := 1) C.1.1 C.1.2.1 dl_562 (by decide) ?_
  refine lv_iadd C.1.1 C.1.2.1 dl_563 ?_
  refine va_sld C.1.1 C.1.2.1 hX hbl hbA hS i1 dl_564 ?_
  refine lm_goR (h := h) (hm := hm) (As := [.int (xs (i + 1).toNatClampNeg)]) (rest := [.int x]) C (c_fm35 xL_ok) (cwV 1 C.1.2.2.2.2 (kk_gV kw_969 kw_970 kw_971 kw_9 kw_972) rfl rfl rfl (by decide +kernel) ⟨Nat.le_of_ble_eq_true rfl, Nat.le_of_ble_eq_true rfl⟩) gI_FM (List.forall_mem_cons.mpr ⟨⟨by decide, by decide⟩, List.forall_mem_cons.mpr ⟨⟨by decide, by decide⟩, List.forall_mem_cons.mpr ⟨⟨by decide, by decide⟩, List.forall_mem_cons.mpr ⟨⟨by decide, by decide⟩, fun _ h => absurd h List.not_mem_nil⟩⟩⟩⟩) (⟨Or.inr ⟨0, List.mem_cons_self, rfl⟩, ⟨⟨_, rfl, hc0⟩, trivial⟩⟩) hP hD hS rfl hl.1 rfl (Nat.le_of_ble_eq_true rfl) dl_565 hf (fun r f2 g2 H2 locs2 hq2 hJ2 hP hD hS => ?_)
  obtain ⟨o2, ho2, hr2, hT2⟩ := hq2
  have h8 := List.all_eq_true.mp (show q_fm35.2.all (fun o => ck_isN 0 o && true) = true by decide) o2 ho2
  simp only [Bool.and_eq_true] at h8
  obtain ⟨x2, rfl, hx2⟩ := ck_isN_ok h8.1 hr2
  show W p l e room_1 s m args below meth c H2 locs2 (cells + 1) (slots + 6) Q (F0 m 568 ls [.int x2, .int x])
  refine lv_icmp_eq (tgt := 840) C.1.1 C.1.2.1 dl_568 (by decide) (fun _ => ?_) (fun hne => absurd (Int32.toInt_inj.mp (hx.trans hx2.symm)) hne)
  exact kk H2 locs2 _ hS hl
theorem lo_11 {p : Program} {l : Launch} {e : Env} {s : State} {m : MethodId} {args : Array Value} {below : List Frame} {meth : Method} {c : Code} {H : Heap} {locs : List Loc} {cells slots : Nat} {Q : State → Prop} {D : va_G} {B : Nat} {A : Nat → Prop} {h hm : Nat → Nat} {cI cZ cJ : ClassId} {ho : Nat} {ls : Array Slot} {b L : Nat} {xs : Nat → Int32} {i : Int32} {cx : Cond} (hfl : l.flags = flags0) (C : zz_Cx p m meth c code 7 ret s args (cx :: kk_W) "NightCyclerLaw" D vN (tyN cI cZ cJ) A B (xL B h)) (hX : va_X b L xs s s.heap) (hbl : b < s.heap.size) (hbA : ¬ A b) (i1 : vp_in (i + 1) L) (i2 : vp_in (i + 2) L) (hP : va_P D vN (wW cI cZ cJ ho h hm fN0 gN0 fM0 gM0) H) (hD : va_D A (wW cI cZ cJ ho h hm fN0 gN0 fM0 gM0)) (hS : va_S A s.heap H locs) (hl : lv_has ls 7 [(0, .ref b), (1, .ref (h 0)), (2, .ref (hm 0)), (3, .ref ho), (4, .int i)]) (hf : cells + 1 ≤ room_1.cells ∧ slots + 6 ≤ room_1.slots) (kk : ∀ (H1 : Heap) (locs1 : List Loc) (ls1 : Array Slot), va_S A s.heap H1 locs1 → lv_has ls1 7 [(0, .ref b), (1, .ref (h 0)), (2, .ref (hm 0)), (3, .ref ho), (4, .int i)] → W p l e room_1 s m args below meth c H1 locs1 (cells + 1) (slots + 6) Q (F0 m 840 ls1 [])) : W p l e room_1 s m args below meth c H locs cells slots Q (F0 m 548 ls []) := by
  have hlo0 := i32_lo (xs (i + 1).toNatClampNeg)
  have hhi0 := i32_hi (xs (i + 1).toNatClampNeg)
  rcases (show ((-2147483648 : Int) ≤ (xs (i + 1).toNatClampNeg).toInt ∧ (xs (i + 1).toNatClampNeg).toInt ≤ (-1 : Int)) ∨ ((0 : Int) ≤ (xs (i + 1).toNatClampNeg).toInt ∧ (xs (i + 1).toNatClampNeg).toInt ≤ (0 : Int)) ∨ ((1 : Int) ≤ (xs (i + 1).toNatClampNeg).toInt ∧ (xs (i + 1).toNatClampNeg).toInt ≤ (1 : Int)) ∨ ((2 : Int) ≤ (xs (i + 1).toNatClampNeg).toInt ∧ (xs (i + 1).toNatClampNeg).toInt ≤ (2 : Int)) ∨ ((3 : Int) ≤ (xs (i + 1).toNatClampNeg).toInt ∧ (xs (i + 1).toNatClampNeg).toInt ≤ (3 : Int)) ∨ ((4 : Int) ≤ (xs (i + 1).toNatClampNeg).toInt ∧ (xs (i + 1).toNatClampNeg).toInt ≤ (4 : Int)) ∨ ((5 : Int) ≤ (xs (i + 1).toNatClampNeg).toInt ∧ (xs (i + 1).toNatClampNeg).toInt ≤ (2147483647 : Int)) by omega) with hc0 | hc0 | hc0 | hc0 | hc0 | hc0 | hc0
  · exact lo_11_fa42 hfl C hX hbl hbA i1 i2 hP hD hS hl hf hc0 kk
  · exact lo_11_fa44 hfl C hX hbl hbA i1 i2 hP hD hS hl hf hc0 kk
  · exact lo_11_fa46 hfl C hX hbl hbA i1 i2 hP hD hS hl hf hc0 kk
  · exact lo_11_fa48 hfl C hX hbl hbA i1 i2 hP hD hS hl hf hc0 kk
  · exact lo_11_fa50 hfl C hX hbl hbA i1 i2 hP hD hS hl hf hc0 kk
  · exact lo_11_fa52 hfl C hX hbl hbA i1 i2 hP hD hS hl hf hc0 kk
  · exact lo_11_fa54 hfl C hX hbl hbA i1 i2 hP hD hS hl hf hc0 kk

theorem lo_12_fa32 {p : Program} {l : Launch} {e : Env} {s : State} {m : MethodId} {args : Array Value} {below : List Frame} {meth : Method} {c : Code} {H : Heap} {locs : List Loc} {cells slots : Nat} {Q : State → Prop} {D : va_G} {B : Nat} {A : Nat → Prop} {h hm : Nat → Nat} {cI cZ cJ : ClassId} {ho : Nat} {ls : Array Slot} {b L : Nat} {xs : Nat → Int32} {i : Int32} {cx : Cond} (hfl : l.flags = flags0) (C : zz_Cx p m meth c code 7 ret s args (cx :: kk_W) "NightCyclerLaw" D vN (tyN cI cZ cJ) A B (xL B h)) (hX : va_X b L xs s s.heap) (hbl : b < s.heap.size) (hbA : ¬ A b) (i1 : vp_in (i + 1) L) (i2 : vp_in (i + 2) L) (hP : va_P D vN (wW cI cZ cJ ho h hm fN0 gN0 fM0 gM0) H) (hD : va_D A (wW cI cZ cJ ho h hm fN0 gN0 fM0 gM0)) (hS : va_S A s.heap H locs) (hl : lv_has ls 7 [(0, .ref b), (1, .ref (h 0)), (2, .ref (hm 0)), (3, .ref ho), (4, .int i)]) (hf : cells + 1 ≤ room_1.cells ∧ slots + 6 ≤ room_1.slots)  (kk : ∀ (H1 : Heap) (locs1 : List Loc) (ls1 : Array Slot), va_S A s.heap H1 locs1 → lv_has ls1 7 [(0, .ref b), (1, .ref (h 0)), (2, .ref (hm 0)), (3, .ref ho), (4, .int i)] → W p l e room_1 s m args below meth c H1 locs1 (cells + 1) (slots + 6) Q (F0 m 840 ls1 [])) : W p l e room_1 s m args below meth c H locs cells slots Q (F0 m 573 ls []) := by
  refine W.widen (k := cells + 1) (n := slots + 6) (Nat.le_succ _) (Nat.le_add_right _ _) ?_
  refine lv_aload_n C.1.1 C.1.2.1 dl_573 rfl (lv_at hl 1 rfl) ?_
  refine lv_aload_n C.1.1 C.1.2.1 dl_574 rfl (lv_at hl 0 rfl) ?_
  refine lv_iload C.1.1 C.1.2.1 dl_575 (lv_at hl 4 rfl) ?_
  refine lv_iconst (v := 1) C.1.1 C.1.2.1 dl_577 (by decide) ?_
  refine lv_iadd C.1.1 C.1.2.1 dl_578 ?_
  refine va_sld C.1.1 C.1.2.1 hX hbl hbA hS i1 dl_579 ?_
  refine lw_goF (h := h) (hm := hm) (As := [.int (xs (i + 1).toNatClampNeg)]) C c_fa32 (cwV 1 C.1.2.2.2.2 (kk_gV kw_355 kw_356 kw_357 kw_1 kw_358) rfl rfl rfl (by decide +kernel) ⟨Nat.le_of_ble_eq_true rfl, Nat.le_of_ble_eq_true rfl⟩) gI_A (List.forall_mem_cons.mpr ⟨⟨by decide, by decide⟩, List.forall_mem_cons.mpr ⟨⟨by decide, by decide⟩, List.forall_mem_cons.mpr ⟨⟨by decide, by decide⟩, fun _ h => absurd h List.not_mem_nil⟩⟩⟩) (⟨Or.inr ⟨0, List.mem_cons_self, rfl⟩, ⟨⟨_, rfl, ck_in_top _⟩, trivial⟩⟩) hP hD hS rfl hl.1 rfl dl_580 hf (fun r f1 g1 H1 locs1 hq hP hD hS => ?_)
  obtain ⟨o, ho1, hr, hT⟩ := hq
  obtain ⟨x, rfl, hx⟩ := ck_isN_ok (List.all_eq_true.mp (show q_fa32.2.all (ck_isN (-1)) = true by decide) o ho1) hr
  show W p l e room_1 s m args below meth c H1 locs1 (cells + 1) (slots + 6) Q (F0 m 583 ls [.int x])
  refine lv_aload_n C.1.1 C.1.2.1 dl_583 rfl (lv_at hl 2 rfl) ?_
  refine lv_aload_n C.1.1 C.1.2.1 dl_584 rfl (lv_at hl 0 rfl) ?_
  refine lv_iload C.1.1 C.1.2.1 dl_585 (lv_at hl 4 rfl) ?_
  refine lv_iconst (v := 1) C.1.1 C.1.2.1 dl_587 (by decide) ?_
  refine lv_iadd C.1.1 C.1.2.1 dl_588 ?_
  refine va_sld C.1.1 C.1.2.1 hX hbl hbA hS i1 dl_589 ?_
  refine lm_goR (h := h) (hm := hm) (As := [.int (xs (i + 1).toNatClampNeg)]) (rest := [.int x]) C (c_fm22 xL_ok) (cwV 1 C.1.2.2.2.2 (kk_gV kw_973 kw_974 kw_975 kw_9 kw_976) rfl rfl rfl (by decide +kernel) ⟨Nat.le_of_ble_eq_true rfl, Nat.le_of_ble_eq_true rfl⟩) gI_FM (List.forall_mem_cons.mpr ⟨⟨by decide, by decide⟩, List.forall_mem_cons.mpr ⟨⟨by decide, by decide⟩, List.forall_mem_cons.mpr ⟨⟨by decide, by decide⟩, List.forall_mem_cons.mpr ⟨⟨by decide, by decide⟩, fun _ h => absurd h List.not_mem_nil⟩⟩⟩⟩) (⟨Or.inr ⟨0, List.mem_cons_self, rfl⟩, ⟨⟨_, rfl, ck_in_top _⟩, trivial⟩⟩) hP hD hS rfl hl.1 rfl (Nat.le_of_ble_eq_true rfl) dl_590 hf (fun r f2 g2 H2 locs2 hq2 hJ2 hP hD hS => ?_)
  obtain ⟨o2, ho2, hr2, hT2⟩ := hq2
  have h8 := List.all_eq_true.mp (show q_fm22.2.all (fun o => ck_isN (-1) o && true) = true by decide) o2 ho2
  simp only [Bool.and_eq_true] at h8
  obtain ⟨x2, rfl, hx2⟩ := ck_isN_ok h8.1 hr2
  show W p l e room_1 s m args below meth c H2 locs2 (cells + 1) (slots + 6) Q (F0 m 593 ls [.int x2, .int x])
  refine lv_icmp_eq (tgt := 840) C.1.1 C.1.2.1 dl_593 (by decide) (fun _ => ?_) (fun hne => absurd (Int32.toInt_inj.mp (hx.trans hx2.symm)) hne)
  exact kk H2 locs2 _ hS hl
theorem lo_12 {p : Program} {l : Launch} {e : Env} {s : State} {m : MethodId} {args : Array Value} {below : List Frame} {meth : Method} {c : Code} {H : Heap} {locs : List Loc} {cells slots : Nat} {Q : State → Prop} {D : va_G} {B : Nat} {A : Nat → Prop} {h hm : Nat → Nat} {cI cZ cJ : ClassId} {ho : Nat} {ls : Array Slot} {b L : Nat} {xs : Nat → Int32} {i : Int32} {cx : Cond} (hfl : l.flags = flags0) (C : zz_Cx p m meth c code 7 ret s args (cx :: kk_W) "NightCyclerLaw" D vN (tyN cI cZ cJ) A B (xL B h)) (hX : va_X b L xs s s.heap) (hbl : b < s.heap.size) (hbA : ¬ A b) (i1 : vp_in (i + 1) L) (i2 : vp_in (i + 2) L) (hP : va_P D vN (wW cI cZ cJ ho h hm fN0 gN0 fM0 gM0) H) (hD : va_D A (wW cI cZ cJ ho h hm fN0 gN0 fM0 gM0)) (hS : va_S A s.heap H locs) (hl : lv_has ls 7 [(0, .ref b), (1, .ref (h 0)), (2, .ref (hm 0)), (3, .ref ho), (4, .int i)]) (hf : cells + 1 ≤ room_1.cells ∧ slots + 6 ≤ room_1.slots) (kk : ∀ (H1 : Heap) (locs1 : List Loc) (ls1 : Array Slot), va_S A s.heap H1 locs1 → lv_has ls1 7 [(0, .ref b), (1, .ref (h 0)), (2, .ref (hm 0)), (3, .ref ho), (4, .int i)] → W p l e room_1 s m args below meth c H1 locs1 (cells + 1) (slots + 6) Q (F0 m 840 ls1 [])) : W p l e room_1 s m args below meth c H locs cells slots Q (F0 m 573 ls []) := by
  exact lo_12_fa32 hfl C hX hbl hbA i1 i2 hP hD hS hl hf kk
theorem lo_13_fa34 {p : Program} {l : Launch} {e : Env} {s : State} {m : MethodId} {args : Array Value} {below : List Frame} {meth : Method} {c : Code} {H : Heap} {locs : List Loc} {cells slots : Nat} {Q : State → Prop} {D : va_G} {B : Nat} {A : Nat → Prop} {h hm : Nat → Nat} {cI cZ cJ : ClassId} {ho : Nat} {ls : Array Slot} {b L : Nat} {xs : Nat → Int32} {i : Int32} {cx : Cond} (hfl : l.flags = flags0) (C : zz_Cx p m meth c code 7 ret s args (cx :: kk_W) "NightCyclerLaw" D vN (tyN cI cZ cJ) A B (xL B h)) (hX : va_X b L xs s s.heap) (hbl : b < s.heap.size) (hbA : ¬ A b) (i1 : vp_in (i + 1) L) (i2 : vp_in (i + 2) L) (hP : va_P D vN (wW cI cZ cJ ho h hm fN0 gN0 fM0 gM0) H) (hD : va_D A (wW cI cZ cJ ho h hm fN0 gN0 fM0 gM0)) (hS : va_S A s.heap H locs) (hl : lv_has ls 7 [(0, .ref b), (1, .ref (h 0)), (2, .ref (hm 0)), (3, .ref ho), (4, .int i)]) (hf : cells + 1 ≤ room_1.cells ∧ slots + 6 ≤ room_1.slots)  (kk : ∀ (H1 : Heap) (locs1 : List Loc) (ls1 : Array Slot), va_S A s.heap H1 locs1 → lv_has ls1 7 [(0, .ref b), (1, .ref (h 0)), (2, .ref (hm 0)), (3, .ref ho), (4, .int i)] → W p l e room_1 s m args below meth c H1 locs1 (cells + 1) (slots + 6) Q (F0 m 840 ls1 [])) : W p l e room_1 s m args below meth c H locs cells slots Q (F0 m 598 ls []) := by
  refine W.widen (k := cells + 1) (n := slots + 6) (Nat.le_succ _) (Nat.le_add_right _ _) ?_
  refine lv_aload_n C.1.1 C.1.2.1 dl_598 rfl (lv_at hl 1 rfl) ?_
  refine lw_goF (h := h) (hm := hm) (As := []) C c_fa34 (cwV 0 C.1.2.2.2.2 (kk_gV kw_363 kw_364 kw_365 kw_1 kw_366) rfl rfl rfl (by decide +kernel) ⟨Nat.le_of_ble_eq_true rfl, Nat.le_of_ble_eq_true rfl⟩) gI_A (List.forall_mem_cons.mpr ⟨⟨by decide, by decide⟩, List.forall_mem_cons.mpr ⟨⟨by decide, by decide⟩, List.forall_mem_cons.mpr ⟨⟨by decide, by decide⟩, fun _ h => absurd h List.not_mem_nil⟩⟩⟩) (⟨Or.inr ⟨0, List.mem_cons_self, rfl⟩, trivial⟩) hP hD hS rfl hl.1 rfl dl_599 hf (fun r f1 g1 H1 locs1 hq hP hD hS => ?_)
  obtain ⟨o, ho1, hr, hT⟩ := hq
  obtain ⟨x, rfl, hx⟩ := ck_isN_ok (List.all_eq_true.mp (show q_fa34.2.all (ck_isN 0) = true by decide) o ho1) hr
  show W p l e room_1 s m args below meth c H1 locs1 (cells + 1) (slots + 6) Q (F0 m 602 ls [.int x])
  refine lv_aload_n C.1.1 C.1.2.1 dl_602 rfl (lv_at hl 2 rfl) ?_
  refine lm_goR (h := h) (hm := hm) (As := []) (rest := [.int x]) C (c_fm23 xL_ok) (cwV 0 C.1.2.2.2.2 (kk_gV kw_977 kw_978 kw_979 kw_9 kw_980) rfl rfl rfl (by decide +kernel) ⟨Nat.le_of_ble_eq_true rfl, Nat.le_of_ble_eq_true rfl⟩) gI_FM (List.forall_mem_cons.mpr ⟨⟨by decide, by decide⟩, List.forall_mem_cons.mpr ⟨⟨by decide, by decide⟩, List.forall_mem_cons.mpr ⟨⟨by decide, by decide⟩, List.forall_mem_cons.mpr ⟨⟨by decide, by decide⟩, fun _ h => absurd h List.not_mem_nil⟩⟩⟩⟩) (⟨Or.inr ⟨0, List.mem_cons_self, rfl⟩, trivial⟩) hP hD hS rfl hl.1 rfl (Nat.le_of_ble_eq_true rfl) dl_603 hf (fun r f2 g2 H2 locs2 hq2 hJ2 hP hD hS => ?_)
  obtain ⟨o2, ho2, hr2, hT2⟩ := hq2
  have h8 := List.all_eq_true.mp (show q_fm23.2.all (fun o => ck_isN 0 o && true) = true by decide) o2 ho2
  simp only [Bool.and_eq_true] at h8
  obtain ⟨x2, rfl, hx2⟩ := ck_isN_ok h8.1 hr2
  show W p l e room_1 s m args below meth c H2 locs2 (cells + 1) (slots + 6) Q (F0 m 606 ls [.int x2, .int x])
  refine lv_icmp_eq (tgt := 840) C.1.1 C.1.2.1 dl_606 (by decide) (fun _ => ?_) (fun hne => absurd (Int32.toInt_inj.mp (hx.trans hx2.symm)) hne)
  exact kk H2 locs2 _ hS hl
theorem lo_13 {p : Program} {l : Launch} {e : Env} {s : State} {m : MethodId} {args : Array Value} {below : List Frame} {meth : Method} {c : Code} {H : Heap} {locs : List Loc} {cells slots : Nat} {Q : State → Prop} {D : va_G} {B : Nat} {A : Nat → Prop} {h hm : Nat → Nat} {cI cZ cJ : ClassId} {ho : Nat} {ls : Array Slot} {b L : Nat} {xs : Nat → Int32} {i : Int32} {cx : Cond} (hfl : l.flags = flags0) (C : zz_Cx p m meth c code 7 ret s args (cx :: kk_W) "NightCyclerLaw" D vN (tyN cI cZ cJ) A B (xL B h)) (hX : va_X b L xs s s.heap) (hbl : b < s.heap.size) (hbA : ¬ A b) (i1 : vp_in (i + 1) L) (i2 : vp_in (i + 2) L) (hP : va_P D vN (wW cI cZ cJ ho h hm fN0 gN0 fM0 gM0) H) (hD : va_D A (wW cI cZ cJ ho h hm fN0 gN0 fM0 gM0)) (hS : va_S A s.heap H locs) (hl : lv_has ls 7 [(0, .ref b), (1, .ref (h 0)), (2, .ref (hm 0)), (3, .ref ho), (4, .int i)]) (hf : cells + 1 ≤ room_1.cells ∧ slots + 6 ≤ room_1.slots) (kk : ∀ (H1 : Heap) (locs1 : List Loc) (ls1 : Array Slot), va_S A s.heap H1 locs1 → lv_has ls1 7 [(0, .ref b), (1, .ref (h 0)), (2, .ref (hm 0)), (3, .ref ho), (4, .int i)] → W p l e room_1 s m args below meth c H1 locs1 (cells + 1) (slots + 6) Q (F0 m 840 ls1 [])) : W p l e room_1 s m args below meth c H locs cells slots Q (F0 m 598 ls []) := by
  exact lo_13_fa34 hfl C hX hbl hbA i1 i2 hP hD hS hl hf kk
theorem lo_14_fa35 {p : Program} {l : Launch} {e : Env} {s : State} {m : MethodId} {args : Array Value} {below : List Frame} {meth : Method} {c : Code} {H : Heap} {locs : List Loc} {cells slots : Nat} {Q : State → Prop} {D : va_G} {B : Nat} {A : Nat → Prop} {h hm : Nat → Nat} {cI cZ cJ : ClassId} {ho : Nat} {ls : Array Slot} {b L : Nat} {xs : Nat → Int32} {i : Int32} {cx : Cond} (hfl : l.flags = flags0) (C : zz_Cx p m meth c code 7 ret s args (cx :: kk_W) "NightCyclerLaw" D vN (tyN cI cZ cJ) A B (xL B h)) (hX : va_X b L xs s s.heap) (hbl : b < s.heap.size) (hbA : ¬ A b) (i1 : vp_in (i + 1) L) (i2 : vp_in (i + 2) L) (hP : va_P D vN (wW cI cZ cJ ho h hm fN0 gN0 fM0 gM0) H) (hD : va_D A (wW cI cZ cJ ho h hm fN0 gN0 fM0 gM0)) (hS : va_S A s.heap H locs) (hl : lv_has ls 7 [(0, .ref b), (1, .ref (h 0)), (2, .ref (hm 0)), (3, .ref ho), (4, .int i)]) (hf : cells + 1 ≤ room_1.cells ∧ slots + 6 ≤ room_1.slots)  (kk : ∀ (H1 : Heap) (locs1 : List Loc) (ls1 : Array Slot), va_S A s.heap H1 locs1 → lv_has ls1 7 [(0, .ref b), (1, .ref (h 0)), (2, .ref (hm 0)), (3, .ref ho), (4, .int i)] → W p l e room_1 s m args below meth c H1 locs1 (cells + 1) (slots + 6) Q (F0 m 840 ls1 [])) : W p l e room_1 s m args below meth c H locs cells slots Q (F0 m 611 ls []) := by
  refine W.widen (k := cells + 1) (n := slots + 6) (Nat.le_succ _) (Nat.le_add_right _ _) ?_
  refine lv_aload_n C.1.1 C.1.2.1 dl_611 rfl (lv_at hl 1 rfl) ?_
  refine lw_goF (h := h) (hm := hm) (As := []) C c_fa35 (cwV 0 C.1.2.2.2.2 (kk_gV kw_375 kw_376 kw_377 kw_1 kw_378) rfl rfl rfl (by decide +kernel) ⟨Nat.le_of_ble_eq_true rfl, Nat.le_of_ble_eq_true rfl⟩) gI_A (List.forall_mem_cons.mpr ⟨⟨by decide, by decide⟩, List.forall_mem_cons.mpr ⟨⟨by decide, by decide⟩, List.forall_mem_cons.mpr ⟨⟨by decide, by decide⟩, fun _ h => absurd h List.not_mem_nil⟩⟩⟩) (⟨Or.inr ⟨0, List.mem_cons_self, rfl⟩, trivial⟩) hP hD hS rfl hl.1 rfl dl_612 hf (fun r f1 g1 H1 locs1 hq hP hD hS => ?_)
  obtain ⟨o, ho1, hr, hT⟩ := hq
  obtain ⟨x, rfl, hx⟩ := ck_isN_ok (List.all_eq_true.mp (show q_fa35.2.all (ck_isN 0) = true by decide) o ho1) hr
  show W p l e room_1 s m args below meth c H1 locs1 (cells + 1) (slots + 6) Q (F0 m 615 ls [.int x])
  refine lv_aload_n C.1.1 C.1.2.1 dl_615 rfl (lv_at hl 2 rfl) ?_
  refine lm_goR (h := h) (hm := hm) (As := []) (rest := [.int x]) C (c_fm24 xL_ok) (cwV 0 C.1.2.2.2.2 (kk_gV kw_981 kw_982 kw_983 kw_9 kw_984) rfl rfl rfl (by decide +kernel) ⟨Nat.le_of_ble_eq_true rfl, Nat.le_of_ble_eq_true rfl⟩) gI_FM (List.forall_mem_cons.mpr ⟨⟨by decide, by decide⟩, List.forall_mem_cons.mpr ⟨⟨by decide, by decide⟩, List.forall_mem_cons.mpr ⟨⟨by decide, by decide⟩, List.forall_mem_cons.mpr ⟨⟨by decide, by decide⟩, fun _ h => absurd h List.not_mem_nil⟩⟩⟩⟩) (⟨Or.inr ⟨0, List.mem_cons_self, rfl⟩, trivial⟩) hP hD hS rfl hl.1 rfl (Nat.le_of_ble_eq_true rfl) dl_616 hf (fun r f2 g2 H2 locs2 hq2 hJ2 hP hD hS => ?_)
  obtain ⟨o2, ho2, hr2, hT2⟩ := hq2
  have h8 := List.all_eq_true.mp (show q_fm24.2.all (fun o => ck_isN 0 o && true) = true by decide) o2 ho2
  simp only [Bool.and_eq_true] at h8
  obtain ⟨x2, rfl, hx2⟩ := ck_isN_ok h8.1 hr2
  show W p l e room_1 s m args below meth c H2 locs2 (cells + 1) (slots + 6) Q (F0 m 619 ls [.int x2, .int x])
  refine lv_icmp_eq (tgt := 840) C.1.1 C.1.2.1 dl_619 (by decide) (fun _ => ?_) (fun hne => absurd (Int32.toInt_inj.mp (hx.trans hx2.symm)) hne)
  exact kk H2 locs2 _ hS hl
theorem lo_14 {p : Program} {l : Launch} {e : Env} {s : State} {m : MethodId} {args : Array Value} {below : List Frame} {meth : Method} {c : Code} {H : Heap} {locs : List Loc} {cells slots : Nat} {Q : State → Prop} {D : va_G} {B : Nat} {A : Nat → Prop} {h hm : Nat → Nat} {cI cZ cJ : ClassId} {ho : Nat} {ls : Array Slot} {b L : Nat} {xs : Nat → Int32} {i : Int32} {cx : Cond} (hfl : l.flags = flags0) (C : zz_Cx p m meth c code 7 ret s args (cx :: kk_W) "NightCyclerLaw" D vN (tyN cI cZ cJ) A B (xL B h)) (hX : va_X b L xs s s.heap) (hbl : b < s.heap.size) (hbA : ¬ A b) (i1 : vp_in (i + 1) L) (i2 : vp_in (i + 2) L) (hP : va_P D vN (wW cI cZ cJ ho h hm fN0 gN0 fM0 gM0) H) (hD : va_D A (wW cI cZ cJ ho h hm fN0 gN0 fM0 gM0)) (hS : va_S A s.heap H locs) (hl : lv_has ls 7 [(0, .ref b), (1, .ref (h 0)), (2, .ref (hm 0)), (3, .ref ho), (4, .int i)]) (hf : cells + 1 ≤ room_1.cells ∧ slots + 6 ≤ room_1.slots) (kk : ∀ (H1 : Heap) (locs1 : List Loc) (ls1 : Array Slot), va_S A s.heap H1 locs1 → lv_has ls1 7 [(0, .ref b), (1, .ref (h 0)), (2, .ref (hm 0)), (3, .ref ho), (4, .int i)] → W p l e room_1 s m args below meth c H1 locs1 (cells + 1) (slots + 6) Q (F0 m 840 ls1 [])) : W p l e room_1 s m args below meth c H locs cells slots Q (F0 m 611 ls []) := by
  exact lo_14_fa35 hfl C hX hbl hbA i1 i2 hP hD hS hl hf kk
theorem lo_15_g150 {p : Program} {l : Launch} {e : Env} {s : State} {m : MethodId} {args : Array Value} {below : List Frame} {meth : Method} {c : Code} {H : Heap} {locs : List Loc} {cells slots : Nat} {Q : State → Prop} {D : va_G} {B : Nat} {A : Nat → Prop} {h hm : Nat → Nat} {cI cZ cJ : ClassId} {ho : Nat} {ls : Array Slot} {b L : Nat} {xs : Nat → Int32} {i : Int32} {cx : Cond} (hfl : l.flags = flags0) (C : zz_Cx p m meth c code 7 ret s args (cx :: kk_W) "NightCyclerLaw" D vN (tyN cI cZ cJ) A B (xL B h)) (hX : va_X b L xs s s.heap) (hbl : b < s.heap.size) (hbA : ¬ A b) (i1 : vp_in (i + 1) L) (i2 : vp_in (i + 2) L) (hP : va_P D vN (wW cI cZ cJ ho h hm fN0 gN0 fM0 gM0) H) (hD : va_D A (wW cI cZ cJ ho h hm fN0 gN0 fM0 gM0)) (hS : va_S A s.heap H locs) (hl : lv_has ls 7 [(0, .ref b), (1, .ref (h 0)), (2, .ref (hm 0)), (3, .ref ho), (4, .int i)]) (hf : cells + 1 ≤ room_1.cells ∧ slots + 6 ≤ room_1.slots) (hc0 : (-2147483648 : Int) ≤ (xs (i + 1).toNatClampNeg).toInt ∧ (xs (i + 1).toNatClampNeg).toInt ≤ (-1 : Int)) (kk : ∀ (H1 : Heap) (locs1 : List Loc) (ls1 : Array Slot), va_S A s.heap H1 locs1 → lv_has ls1 7 [(0, .ref b), (1, .ref (h 0)), (2, .ref (hm 0)), (3, .ref ho), (4, .int i)] → W p l e room_1 s m args below meth c H1 locs1 (cells + 1) (slots + 6) Q (F0 m 840 ls1 [])) : W p l e room_1 s m args below meth c H locs cells slots Q (F0 m 624 ls []) := by
  refine lv_aload_n C.1.1 C.1.2.1 dl_624 rfl (lv_at hl 1 rfl) ?_
  refine lv_aload_n C.1.1 C.1.2.1 dl_625 rfl (lv_at hl 0 rfl) ?_
  refine lv_iload C.1.1 C.1.2.1 dl_626 (lv_at hl 4 rfl) ?_
  refine lv_iconst (v := 1) C.1.1 C.1.2.1 dl_628 (by decide) ?_
  refine lv_iadd C.1.1 C.1.2.1 dl_629 ?_
  refine va_sld C.1.1 C.1.2.1 hX hbl hbA hS i1 dl_630 ?_
  refine lw_goS (n := 2) C (ww_cut (post := ck_poF fbG gbG h fN0 q_g150.2) (px := ck_pxF fbG gbG fN0 q_g150.2) (fun sz => x_g150 hfl fN0 gN0 sz [.ref (h 0), .int (xs (i + 1).toNatClampNeg)] gI_N0 (List.forall_mem_cons.mpr ⟨⟨by decide, by decide⟩, List.forall_mem_cons.mpr ⟨⟨by decide, by decide⟩, fun _ h => absurd h List.not_mem_nil⟩⟩) (⟨Or.inr ⟨0, List.mem_cons_self, rfl⟩, ⟨⟨_, rfl, hc0⟩, trivial⟩⟩)) ⟨rfl, rfl, by decide, by decide⟩ (ck_noIF (by decide)) (ck_ex2F (by decide))) kw_645 kw_646 kw_0 kw_647 (by decide +kernel) rfl rfl ⟨Nat.le_of_ble_eq_true rfl, Nat.le_of_ble_eq_true rfl⟩ hP hD hS rfl hl.1 rfl dl_631 hf (fun r f1 g1 H1 locs1 hq hP hD hS => ?_)
  obtain rfl := ck_anS (n := 2) (v := 0) (show q_g150.2.all (ck_an "java/lang/IllegalStateException" "java/lang/IllegalArgumentException" 2 0) = true by decide) (by decide) hq
  show W p l e room_1 s m args below meth c H1 locs1 (cells + 1) (slots + 6) Q (F0 m 634 ls [.int (Int32.ofNat 2)])
  refine lv_istore (lv' := [(5, .int (Int32.ofNat 2)), (0, .ref b), (1, .ref (h 0)), (2, .ref (hm 0)), (3, .ref ho), (4, .int i)]) C.1.1 C.1.2.1 dl_634 hl (by decide) rfl (fun ls hl => ?_)
  refine lv_aload_n C.1.1 C.1.2.1 dl_636 rfl (lv_at hl 3 rfl) ?_
  refine lv_aload_n C.1.1 C.1.2.1 dl_637 rfl (lv_at hl 1 rfl) ?_
  refine lv_iload C.1.1 C.1.2.1 dl_638 (lv_at hl 5 rfl) ?_
  refine lv_iconst (v := 1) C.1.1 C.1.2.1 dl_640 (by decide) ?_
  refine lv_iadd C.1.1 C.1.2.1 dl_641 ?_
  refine va_sld C.1.1 C.1.2.1 hX hbl hbA hS i1 dl_642 ?_
  refine lm_goR (h := h) (hm := hm) (As := [.int (xs (i + 1).toNatClampNeg)]) (rest := []) C (c_m69 xL_ok) (cwV 1 C.1.2.2.2.2 (kk_gV kw_985 kw_986 kw_987 kw_9 kw_988) rfl rfl rfl (by decide +kernel) ⟨Nat.le_of_ble_eq_true rfl, Nat.le_of_ble_eq_true rfl⟩) gI_M0 (List.forall_mem_cons.mpr ⟨⟨by decide, by decide⟩, List.forall_mem_cons.mpr ⟨⟨by decide, by decide⟩, List.forall_mem_cons.mpr ⟨⟨by decide, by decide⟩, List.forall_mem_cons.mpr ⟨⟨by decide, by decide⟩, List.forall_mem_cons.mpr ⟨⟨by decide, by decide⟩, fun _ h => absurd h List.not_mem_nil⟩⟩⟩⟩⟩) (⟨Or.inr ⟨0, List.mem_cons_self, rfl⟩, ⟨⟨_, rfl, hc0⟩, trivial⟩⟩) hP hD hS rfl hl.1 rfl (Nat.le_of_ble_eq_true rfl) dl_643 hf (fun r f2 g2 H2 locs2 hq2 hJ2 hP hD hS => ?_)
  obtain ⟨o2, ho2, hr2, hT2⟩ := hq2
  have h8 := List.all_eq_true.mp (show q_m69.2.all (fun o => ck_isV o && ck_val 0 2 o) = true by decide) o2 ho2
  simp only [Bool.and_eq_true] at h8
  obtain rfl := ck_isV_ok h8.1 hr2
  show W p l e room_1 s m args below meth c H2 locs2 (cells + 1) (slots + 6) Q (F0 m 646 ls [])
  have hc9 := ck_val_ok h8.2 hT2
  refine lv_aload_n C.1.1 C.1.2.1 dl_646 rfl (lv_at hl 3 rfl) ?_
  refine lm_goR (h := h) (hm := hm) (As := []) (rest := []) C (c_m68 xL_ok) (cwV 0 C.1.2.2.2.2 (kk_gV kw_853 kw_854 kw_855 kw_9 kw_856) rfl rfl rfl (by decide +kernel) ⟨Nat.le_of_ble_eq_true rfl, Nat.le_of_ble_eq_true rfl⟩) hJ2 (List.forall_mem_cons.mpr ⟨⟨by show (2 : Int) ≤ (f2 0).toInt; omega, by show (f2 0).toInt ≤ (2 : Int); omega⟩, List.forall_mem_cons.mpr ⟨hJ2.1 1, List.forall_mem_cons.mpr ⟨hJ2.1 3, List.forall_mem_cons.mpr ⟨hJ2.1 13, List.forall_mem_cons.mpr ⟨hJ2.1 22, fun _ h => absurd h List.not_mem_nil⟩⟩⟩⟩⟩) ⟨Or.inr ⟨0, List.mem_cons_self, rfl⟩, trivial⟩ hP hD hS rfl hl.1 rfl (Nat.le_of_ble_eq_true rfl) dl_647 hf (fun r f3 g3 H3 locs3 hq3 hJ3 hP hD hS => ?_)
  obtain ⟨o3, ho3, hr3, hT3⟩ := hq3
  obtain ⟨x3, rfl, hx3⟩ := ck_isN_ok (List.all_eq_true.mp (show q_m68.2.all (ck_isN 2) = true by decide) o3 ho3) hr3
  show W p l e room_1 s m args below meth c H3 locs3 (cells + 1) (slots + 6) Q (F0 m 650 ls [.int x3])
  refine lv_iload C.1.1 C.1.2.1 dl_650 (lv_at hl 0 rfl) ?_
  refine lv_icmp_eq (tgt := 657) C.1.1 C.1.2.1 dl_652 (by decide) (fun _ => ?_) (fun hne => absurd (Int32.toInt_inj.mp (by rw [hx3]; rfl)) hne)
  refine lv_goto (tgt := 840) C.1.1 C.1.2.1 dl_657 (by decide) ?_
  exact kk H3 locs3 _ hS (lv_sub hl [1, 2, 3, 4, 5] rfl)
theorem lo_15_g151 {p : Program} {l : Launch} {e : Env} {s : State} {m : MethodId} {args : Array Value} {below : List Frame} {meth : Method} {c : Code} {H : Heap} {locs : List Loc} {cells slots : Nat} {Q : State → Prop} {D : va_G} {B : Nat} {A : Nat → Prop} {h hm : Nat → Nat} {cI cZ cJ : ClassId} {ho : Nat} {ls : Array Slot} {b L : Nat} {xs : Nat → Int32} {i : Int32} {cx : Cond} (hfl : l.flags = flags0) (C : zz_Cx p m meth c code 7 ret s args (cx :: kk_W) "NightCyclerLaw" D vN (tyN cI cZ cJ) A B (xL B h)) (hX : va_X b L xs s s.heap) (hbl : b < s.heap.size) (hbA : ¬ A b) (i1 : vp_in (i + 1) L) (i2 : vp_in (i + 2) L) (hP : va_P D vN (wW cI cZ cJ ho h hm fN0 gN0 fM0 gM0) H) (hD : va_D A (wW cI cZ cJ ho h hm fN0 gN0 fM0 gM0)) (hS : va_S A s.heap H locs) (hl : lv_has ls 7 [(0, .ref b), (1, .ref (h 0)), (2, .ref (hm 0)), (3, .ref ho), (4, .int i)]) (hf : cells + 1 ≤ room_1.cells ∧ slots + 6 ≤ room_1.slots) (hc0 : (0 : Int) ≤ (xs (i + 1).toNatClampNeg).toInt ∧ (xs (i + 1).toNatClampNeg).toInt ≤ (6 : Int)) (kk : ∀ (H1 : Heap) (locs1 : List Loc) (ls1 : Array Slot), va_S A s.heap H1 locs1 → lv_has ls1 7 [(0, .ref b), (1, .ref (h 0)), (2, .ref (hm 0)), (3, .ref ho), (4, .int i)] → W p l e room_1 s m args below meth c H1 locs1 (cells + 1) (slots + 6) Q (F0 m 840 ls1 [])) : W p l e room_1 s m args below meth c H locs cells slots Q (F0 m 624 ls []) := by
  refine lv_aload_n C.1.1 C.1.2.1 dl_624 rfl (lv_at hl 1 rfl) ?_
  refine lv_aload_n C.1.1 C.1.2.1 dl_625 rfl (lv_at hl 0 rfl) ?_
  refine lv_iload C.1.1 C.1.2.1 dl_626 (lv_at hl 4 rfl) ?_
  refine lv_iconst (v := 1) C.1.1 C.1.2.1 dl_628 (by decide) ?_
  refine lv_iadd C.1.1 C.1.2.1 dl_629 ?_
  refine va_sld C.1.1 C.1.2.1 hX hbl hbA hS i1 dl_630 ?_
  refine lw_goS (n := 2) C (ww_cut (post := ck_poF fbG gbG h fN0 q_g151.2) (px := ck_pxF fbG gbG fN0 q_g151.2) (fun sz => x_g151 hfl fN0 gN0 sz [.ref (h 0), .int (xs (i + 1).toNatClampNeg)] gI_N0 (List.forall_mem_cons.mpr ⟨⟨by decide, by decide⟩, List.forall_mem_cons.mpr ⟨⟨by decide, by decide⟩, fun _ h => absurd h List.not_mem_nil⟩⟩) (⟨Or.inr ⟨0, List.mem_cons_self, rfl⟩, ⟨⟨_, rfl, hc0⟩, trivial⟩⟩)) ⟨rfl, rfl, by decide, by decide⟩ (ck_noIF (by decide)) (ck_ex2F (by decide))) kw_645 kw_646 kw_0 kw_647 (by decide +kernel) rfl rfl ⟨Nat.le_of_ble_eq_true rfl, Nat.le_of_ble_eq_true rfl⟩ hP hD hS rfl hl.1 rfl dl_631 hf (fun r f1 g1 H1 locs1 hq hP hD hS => ?_)
  obtain rfl := ck_anS (n := 0) (v := 0) (show q_g151.2.all (ck_an "java/lang/IllegalStateException" "java/lang/IllegalArgumentException" 0 0) = true by decide) (by decide) hq
  show W p l e room_1 s m args below meth c H1 locs1 (cells + 1) (slots + 6) Q (F0 m 634 ls [.int (Int32.ofNat 0)])
  refine lv_istore (lv' := [(5, .int (Int32.ofNat 0)), (0, .ref b), (1, .ref (h 0)), (2, .ref (hm 0)), (3, .ref ho), (4, .int i)]) C.1.1 C.1.2.1 dl_634 hl (by decide) rfl (fun ls hl => ?_)
  refine lv_aload_n C.1.1 C.1.2.1 dl_636 rfl (lv_at hl 3 rfl) ?_
  refine lv_aload_n C.1.1 C.1.2.1 dl_637 rfl (lv_at hl 1 rfl) ?_
  refine lv_iload C.1.1 C.1.2.1 dl_638 (lv_at hl 5 rfl) ?_
  refine lv_iconst (v := 1) C.1.1 C.1.2.1 dl_640 (by decide) ?_
  refine lv_iadd C.1.1 C.1.2.1 dl_641 ?_
  refine va_sld C.1.1 C.1.2.1 hX hbl hbA hS i1 dl_642 ?_
  refine lm_goR (h := h) (hm := hm) (As := [.int (xs (i + 1).toNatClampNeg)]) (rest := []) C (c_m70 xL_ok) (cwV 1 C.1.2.2.2.2 (kk_gV kw_985 kw_986 kw_987 kw_9 kw_988) rfl rfl rfl (by decide +kernel) ⟨Nat.le_of_ble_eq_true rfl, Nat.le_of_ble_eq_true rfl⟩) gI_M0 (List.forall_mem_cons.mpr ⟨⟨by decide, by decide⟩, List.forall_mem_cons.mpr ⟨⟨by decide, by decide⟩, List.forall_mem_cons.mpr ⟨⟨by decide, by decide⟩, List.forall_mem_cons.mpr ⟨⟨by decide, by decide⟩, List.forall_mem_cons.mpr ⟨⟨by decide, by decide⟩, fun _ h => absurd h List.not_mem_nil⟩⟩⟩⟩⟩) (⟨Or.inr ⟨0, List.mem_cons_self, rfl⟩, ⟨⟨_, rfl, hc0⟩, trivial⟩⟩) hP hD hS rfl hl.1 rfl (Nat.le_of_ble_eq_true rfl) dl_643 hf (fun r f2 g2 H2 locs2 hq2 hJ2 hP hD hS => ?_)
  obtain ⟨o2, ho2, hr2, hT2⟩ := hq2
  have h8 := List.all_eq_true.mp (show q_m70.2.all (fun o => ck_isV o && ck_val 0 0 o) = true by decide) o2 ho2
  simp only [Bool.and_eq_true] at h8
  obtain rfl := ck_isV_ok h8.1 hr2
  show W p l e room_1 s m args below meth c H2 locs2 (cells + 1) (slots + 6) Q (F0 m 646 ls [])
  have hc9 := ck_val_ok h8.2 hT2
  refine lv_aload_n C.1.1 C.1.2.1 dl_646 rfl (lv_at hl 3 rfl) ?_
  refine lm_goR (h := h) (hm := hm) (As := []) (rest := []) C (c_m66 xL_ok) (cwV 0 C.1.2.2.2.2 (kk_gV kw_853 kw_854 kw_855 kw_9 kw_856) rfl rfl rfl (by decide +kernel) ⟨Nat.le_of_ble_eq_true rfl, Nat.le_of_ble_eq_true rfl⟩) hJ2 (List.forall_mem_cons.mpr ⟨⟨by show (0 : Int) ≤ (f2 0).toInt; omega, by show (f2 0).toInt ≤ (0 : Int); omega⟩, List.forall_mem_cons.mpr ⟨hJ2.1 1, List.forall_mem_cons.mpr ⟨hJ2.1 3, List.forall_mem_cons.mpr ⟨hJ2.1 13, List.forall_mem_cons.mpr ⟨hJ2.1 22, fun _ h => absurd h List.not_mem_nil⟩⟩⟩⟩⟩) ⟨Or.inr ⟨0, List.mem_cons_self, rfl⟩, trivial⟩ hP hD hS rfl hl.1 rfl (Nat.le_of_ble_eq_true rfl) dl_647 hf (fun r f3 g3 H3 locs3 hq3 hJ3 hP hD hS => ?_)
  obtain ⟨o3, ho3, hr3, hT3⟩ := hq3
  obtain ⟨x3, rfl, hx3⟩ := ck_isN_ok (List.all_eq_true.mp (show q_m66.2.all (ck_isN 0) = true by decide) o3 ho3) hr3
  show W p l e room_1 s m args below meth c H3 locs3 (cells + 1) (slots + 6) Q (F0 m 650 ls [.int x3])
  refine lv_iload C.1.1 C.1.2.1 dl_650 (lv_at hl 0 rfl) ?_
  refine lv_icmp_eq (tgt := 657) C.1.1 C.1.2.1 dl_652 (by decide) (fun _ => ?_) (fun hne => absurd (Int32.toInt_inj.mp (by rw [hx3]; rfl)) hne)
  refine lv_goto (tgt := 840) C.1.1 C.1.2.1 dl_657 (by decide) ?_
  exact kk H3 locs3 _ hS (lv_sub hl [1, 2, 3, 4, 5] rfl)
theorem lo_15_g152 {p : Program} {l : Launch} {e : Env} {s : State} {m : MethodId} {args : Array Value} {below : List Frame} {meth : Method} {c : Code} {H : Heap} {locs : List Loc} {cells slots : Nat} {Q : State → Prop} {D : va_G} {B : Nat} {A : Nat → Prop} {h hm : Nat → Nat} {cI cZ cJ : ClassId} {ho : Nat} {ls : Array Slot} {b L : Nat} {xs : Nat → Int32} {i : Int32} {cx : Cond} (hfl : l.flags = flags0) (C : zz_Cx p m meth c code 7 ret s args (cx :: kk_W) "NightCyclerLaw" D vN (tyN cI cZ cJ) A B (xL B h)) (hX : va_X b L xs s s.heap) (hbl : b < s.heap.size) (hbA : ¬ A b) (i1 : vp_in (i + 1) L) (i2 : vp_in (i + 2) L) (hP : va_P D vN (wW cI cZ cJ ho h hm fN0 gN0 fM0 gM0) H) (hD : va_D A (wW cI cZ cJ ho h hm fN0 gN0 fM0 gM0)) (hS : va_S A s.heap H locs) (hl : lv_has ls 7 [(0, .ref b), (1, .ref (h 0)), (2, .ref (hm 0)), (3, .ref ho), (4, .int i)]) (hf : cells + 1 ≤ room_1.cells ∧ slots + 6 ≤ room_1.slots) (hc0 : (7 : Int) ≤ (xs (i + 1).toNatClampNeg).toInt ∧ (xs (i + 1).toNatClampNeg).toInt ≤ (2147483647 : Int)) (kk : ∀ (H1 : Heap) (locs1 : List Loc) (ls1 : Array Slot), va_S A s.heap H1 locs1 → lv_has ls1 7 [(0, .ref b), (1, .ref (h 0)), (2, .ref (hm 0)), (3, .ref ho), (4, .int i)] → W p l e room_1 s m args below meth c H1 locs1 (cells + 1) (slots + 6) Q (F0 m 840 ls1 [])) : W p l e room_1 s m args below meth c H locs cells slots Q (F0 m 624 ls []) := by
  refine lv_aload_n C.1.1 C.1.2.1 dl_624 rfl (lv_at hl 1 rfl) ?_
  refine lv_aload_n C.1.1 C.1.2.1 dl_625 rfl (lv_at hl 0 rfl) ?_
  refine lv_iload C.1.1 C.1.2.1 dl_626 (lv_at hl 4 rfl) ?_
  refine lv_iconst (v := 1) C.1.1 C.1.2.1 dl_628 (by decide) ?_
  refine lv_iadd C.1.1 C.1.2.1 dl_629 ?_
  refine va_sld C.1.1 C.1.2.1 hX hbl hbA hS i1 dl_630 ?_
  refine lw_goS (n := 2) C (ww_cut (post := ck_poF fbG gbG h fN0 q_g152.2) (px := ck_pxF fbG gbG fN0 q_g152.2) (fun sz => x_g152 hfl fN0 gN0 sz [.ref (h 0), .int (xs (i + 1).toNatClampNeg)] gI_N0 (List.forall_mem_cons.mpr ⟨⟨by decide, by decide⟩, List.forall_mem_cons.mpr ⟨⟨by decide, by decide⟩, fun _ h => absurd h List.not_mem_nil⟩⟩) (⟨Or.inr ⟨0, List.mem_cons_self, rfl⟩, ⟨⟨_, rfl, hc0⟩, trivial⟩⟩)) ⟨rfl, rfl, by decide, by decide⟩ (ck_noIF (by decide)) (ck_ex2F (by decide))) kw_645 kw_646 kw_0 kw_647 (by decide +kernel) rfl rfl ⟨Nat.le_of_ble_eq_true rfl, Nat.le_of_ble_eq_true rfl⟩ hP hD hS rfl hl.1 rfl dl_631 hf (fun r f1 g1 H1 locs1 hq hP hD hS => ?_)
  obtain rfl := ck_anS (n := 2) (v := 0) (show q_g152.2.all (ck_an "java/lang/IllegalStateException" "java/lang/IllegalArgumentException" 2 0) = true by decide) (by decide) hq
  show W p l e room_1 s m args below meth c H1 locs1 (cells + 1) (slots + 6) Q (F0 m 634 ls [.int (Int32.ofNat 2)])
  refine lv_istore (lv' := [(5, .int (Int32.ofNat 2)), (0, .ref b), (1, .ref (h 0)), (2, .ref (hm 0)), (3, .ref ho), (4, .int i)]) C.1.1 C.1.2.1 dl_634 hl (by decide) rfl (fun ls hl => ?_)
  refine lv_aload_n C.1.1 C.1.2.1 dl_636 rfl (lv_at hl 3 rfl) ?_
  refine lv_aload_n C.1.1 C.1.2.1 dl_637 rfl (lv_at hl 1 rfl) ?_
  refine lv_iload C.1.1 C.1.2.1 dl_638 (lv_at hl 5 rfl) ?_
  refine lv_iconst (v := 1) C.1.1 C.1.2.1 dl_640 (by decide) ?_
  refine lv_iadd C.1.1 C.1.2.1 dl_641 ?_
  refine va_sld C.1.1 C.1.2.1 hX hbl hbA hS i1 dl_642 ?_
  refine lm_goR (h := h) (hm := hm) (As := [.int (xs (i + 1).toNatClampNeg)]) (rest := []) C (c_m71 xL_ok) (cwV 1 C.1.2.2.2.2 (kk_gV kw_985 kw_986 kw_987 kw_9 kw_988) rfl rfl rfl (by decide +kernel) ⟨Nat.le_of_ble_eq_true rfl, Nat.le_of_ble_eq_true rfl⟩) gI_M0 (List.forall_mem_cons.mpr ⟨⟨by decide, by decide⟩, List.forall_mem_cons.mpr ⟨⟨by decide, by decide⟩, List.forall_mem_cons.mpr ⟨⟨by decide, by decide⟩, List.forall_mem_cons.mpr ⟨⟨by decide, by decide⟩, List.forall_mem_cons.mpr ⟨⟨by decide, by decide⟩, fun _ h => absurd h List.not_mem_nil⟩⟩⟩⟩⟩) (⟨Or.inr ⟨0, List.mem_cons_self, rfl⟩, ⟨⟨_, rfl, hc0⟩, trivial⟩⟩) hP hD hS rfl hl.1 rfl (Nat.le_of_ble_eq_true rfl) dl_643 hf (fun r f2 g2 H2 locs2 hq2 hJ2 hP hD hS => ?_)
  obtain ⟨o2, ho2, hr2, hT2⟩ := hq2
  have h8 := List.all_eq_true.mp (show q_m71.2.all (fun o => ck_isV o && ck_val 0 2 o) = true by decide) o2 ho2
  simp only [Bool.and_eq_true] at h8
  obtain rfl := ck_isV_ok h8.1 hr2
  show W p l e room_1 s m args below meth c H2 locs2 (cells + 1) (slots + 6) Q (F0 m 646 ls [])
  have hc9 := ck_val_ok h8.2 hT2
  refine lv_aload_n C.1.1 C.1.2.1 dl_646 rfl (lv_at hl 3 rfl) ?_
  refine lm_goR (h := h) (hm := hm) (As := []) (rest := []) C (c_m68 xL_ok) (cwV 0 C.1.2.2.2.2 (kk_gV kw_853 kw_854 kw_855 kw_9 kw_856) rfl rfl rfl (by decide +kernel) ⟨Nat.le_of_ble_eq_true rfl, Nat.le_of_ble_eq_true rfl⟩) hJ2 (List.forall_mem_cons.mpr ⟨⟨by show (2 : Int) ≤ (f2 0).toInt; omega, by show (f2 0).toInt ≤ (2 : Int); omega⟩, List.forall_mem_cons.mpr ⟨hJ2.1 1, List.forall_mem_cons.mpr ⟨hJ2.1 3, List.forall_mem_cons.mpr ⟨hJ2.1 13, List.forall_mem_cons.mpr ⟨hJ2.1 22, fun _ h => absurd h List.not_mem_nil⟩⟩⟩⟩⟩) ⟨Or.inr ⟨0, List.mem_cons_self, rfl⟩, trivial⟩ hP hD hS rfl hl.1 rfl (Nat.le_of_ble_eq_true rfl) dl_647 hf (fun r f3 g3 H3 locs3 hq3 hJ3 hP hD hS => ?_)
  obtain ⟨o3, ho3, hr3, hT3⟩ := hq3
  obtain ⟨x3, rfl, hx3⟩ := ck_isN_ok (List.all_eq_true.mp (show q_m68.2.all (ck_isN 2) = true by decide) o3 ho3) hr3
  show W p l e room_1 s m args below meth c H3 locs3 (cells + 1) (slots + 6) Q (F0 m 650 ls [.int x3])
  refine lv_iload C.1.1 C.1.2.1 dl_650 (lv_at hl 0 rfl) ?_
  refine lv_icmp_eq (tgt := 657) C.1.1 C.1.2.1 dl_652 (by decide) (fun _ => ?_) (fun hne => absurd (Int32.toInt_inj.mp (by rw [hx3]; rfl)) hne)
  refine lv_goto (tgt := 840) C.1.1 C.1.2.1 dl_657 (by decide) ?_
  exact kk H3 locs3 _ hS (lv_sub hl [1, 2, 3, 4, 5] rfl)
theorem lo_15 {p : Program} {l : Launch} {e : Env} {s : State} {m : MethodId} {args : Array Value} {below : List Frame} {meth : Method} {c : Code} {H : Heap} {locs : List Loc} {cells slots : Nat} {Q : State → Prop} {D : va_G} {B : Nat} {A : Nat → Prop} {h hm : Nat → Nat} {cI cZ cJ : ClassId} {ho : Nat} {ls : Array Slot} {b L : Nat} {xs : Nat → Int32} {i : Int32} {cx : Cond} (hfl : l.flags = flags0) (C : zz_Cx p m meth c code 7 ret s args (cx :: kk_W) "NightCyclerLaw" D vN (tyN cI cZ cJ) A B (xL B h)) (hX : va_X b L xs s s.heap) (hbl : b < s.heap.size) (hbA : ¬ A b) (i1 : vp_in (i + 1) L) (i2 : vp_in (i + 2) L) (hP : va_P D vN (wW cI cZ cJ ho h hm fN0 gN0 fM0 gM0) H) (hD : va_D A (wW cI cZ cJ ho h hm fN0 gN0 fM0 gM0)) (hS : va_S A s.heap H locs) (hl : lv_has ls 7 [(0, .ref b), (1, .ref (h 0)), (2, .ref (hm 0)), (3, .ref ho), (4, .int i)]) (hf : cells + 1 ≤ room_1.cells ∧ slots + 6 ≤ room_1.slots) (kk : ∀ (H1 : Heap) (locs1 : List Loc) (ls1 : Array Slot), va_S A s.heap H1 locs1 → lv_has ls1 7 [(0, .ref b), (1, .ref (h 0)), (2, .ref (hm 0)), (3, .ref ho), (4, .int i)] → W p l e room_1 s m args below meth c H1 locs1 (cells + 1) (slots + 6) Q (F0 m 840 ls1 [])) : W p l e room_1 s m args below meth c H locs cells slots Q (F0 m 624 ls []) := by
  have hlo0 := i32_lo (xs (i + 1).toNatClampNeg)
  have hhi0 := i32_hi (xs (i + 1).toNatClampNeg)
  rcases (show ((-2147483648 : Int) ≤ (xs (i + 1).toNatClampNeg).toInt ∧ (xs (i + 1).toNatClampNeg).toInt ≤ (-1 : Int)) ∨ ((0 : Int) ≤ (xs (i + 1).toNatClampNeg).toInt ∧ (xs (i + 1).toNatClampNeg).toInt ≤ (6 : Int)) ∨ ((7 : Int) ≤ (xs (i + 1).toNatClampNeg).toInt ∧ (xs (i + 1).toNatClampNeg).toInt ≤ (2147483647 : Int)) by omega) with hc0 | hc0 | hc0
  · exact lo_15_g150 hfl C hX hbl hbA i1 i2 hP hD hS hl hf hc0 kk
  · exact lo_15_g151 hfl C hX hbl hbA i1 i2 hP hD hS hl hf hc0 kk
  · exact lo_15_g152 hfl C hX hbl hbA i1 i2 hP hD hS hl hf hc0 kk
theorem lo_16_fa36 {p : Program} {l : Launch} {e : Env} {s : State} {m : MethodId} {args : Array Value} {below : List Frame} {meth : Method} {c : Code} {H : Heap} {locs : List Loc} {cells slots : Nat} {Q : State → Prop} {D : va_G} {B : Nat} {A : Nat → Prop} {h hm : Nat → Nat} {cI cZ cJ : ClassId} {ho : Nat} {ls : Array Slot} {b L : Nat} {xs : Nat → Int32} {i : Int32} {cx : Cond} (hfl : l.flags = flags0) (C : zz_Cx p m meth c code 7 ret s args (cx :: kk_W) "NightCyclerLaw" D vN (tyN cI cZ cJ) A B (xL B h)) (hX : va_X b L xs s s.heap) (hbl : b < s.heap.size) (hbA : ¬ A b) (i1 : vp_in (i + 1) L) (i2 : vp_in (i + 2) L) (hP : va_P D vN (wW cI cZ cJ ho h hm fN0 gN0 fM0 gM0) H) (hD : va_D A (wW cI cZ cJ ho h hm fN0 gN0 fM0 gM0)) (hS : va_S A s.heap H locs) (hl : lv_has ls 7 [(0, .ref b), (1, .ref (h 0)), (2, .ref (hm 0)), (3, .ref ho), (4, .int i)]) (hf : cells + 1 ≤ room_1.cells ∧ slots + 6 ≤ room_1.slots)  (kk : ∀ (H1 : Heap) (locs1 : List Loc) (ls1 : Array Slot), va_S A s.heap H1 locs1 → lv_has ls1 7 [(0, .ref b), (1, .ref (h 0)), (2, .ref (hm 0)), (3, .ref ho), (4, .int i)] → W p l e room_1 s m args below meth c H1 locs1 (cells + 1) (slots + 6) Q (F0 m 840 ls1 [])) : W p l e room_1 s m args below meth c H locs cells slots Q (F0 m 660 ls []) := by
  refine lv_aload_n C.1.1 C.1.2.1 dl_660 rfl (lv_at hl 1 rfl) ?_
  refine lv_aload_n C.1.1 C.1.2.1 dl_661 rfl (lv_at hl 0 rfl) ?_
  refine lv_iload C.1.1 C.1.2.1 dl_662 (lv_at hl 4 rfl) ?_
  refine lv_iconst (v := 1) C.1.1 C.1.2.1 dl_664 (by decide) ?_
  refine lv_iadd C.1.1 C.1.2.1 dl_665 ?_
  refine va_sld C.1.1 C.1.2.1 hX hbl hbA hS i1 dl_666 ?_
  refine lv_aload_n C.1.1 C.1.2.1 dl_667 rfl (lv_at hl 3 rfl) ?_
  refine lw_goO (n := 3) C (ww_power (post := ck_poF fbFA gbFA h fN0 q_fa36.2) (px := ck_pxF fbFA gbFA fN0 q_fa36.2) (fun sz => x_fa36 hfl fN0 gN0 sz [.ref (h 0), .int (xs (i + 1).toNatClampNeg)] gI_A (List.forall_mem_cons.mpr ⟨⟨by decide, by decide⟩, List.forall_mem_cons.mpr ⟨⟨by decide, by decide⟩, List.forall_mem_cons.mpr ⟨⟨by decide, by decide⟩, fun _ h => absurd h List.not_mem_nil⟩⟩⟩) (⟨Or.inr ⟨0, List.mem_cons_self, rfl⟩, ⟨⟨_, rfl, ck_in_top _⟩, trivial⟩⟩)) ⟨rfl, rfl, by decide, by decide⟩ (ck_noVF (by decide)) (ck_ex2F (by decide))) kw_672 kw_673 kw_0 kw_674 (by decide +kernel) rfl rfl ⟨Nat.le_of_ble_eq_true rfl, Nat.le_of_ble_eq_true rfl⟩ hP hD hS rfl hl.1 rfl dl_668 hf (fun r f1 g1 H1 locs1 hq hP hD hS => ?_)
  obtain ⟨rfl, hv⟩ := ck_anO (n := 1) (v := 0) (show q_fa36.2.all (ck_an "java/lang/IllegalStateException" "java/lang/IllegalArgumentException" 1 0) = true by decide) (by decide) hq
  show W p l e room_1 s m args below meth c H1 locs1 (cells + 1) (slots + 6) Q (F0 m 671 ls [.int (Int32.ofNat 1)])
  refine lv_istore (lv' := [(5, .int (Int32.ofNat 1)), (0, .ref b), (1, .ref (h 0)), (2, .ref (hm 0)), (3, .ref ho), (4, .int i)]) C.1.1 C.1.2.1 dl_671 hl (by decide) rfl (fun ls hl => ?_)
  refine lv_aload_n C.1.1 C.1.2.1 dl_673 rfl (lv_at hl 3 rfl) ?_
  refine lv_aload_n C.1.1 C.1.2.1 dl_674 rfl (lv_at hl 1 rfl) ?_
  refine lv_iload C.1.1 C.1.2.1 dl_675 (lv_at hl 5 rfl) ?_
  refine lv_iconst (v := 1) C.1.1 C.1.2.1 dl_677 (by decide) ?_
  refine lv_iadd C.1.1 C.1.2.1 dl_678 ?_
  refine va_sld C.1.1 C.1.2.1 hX hbl hbA hS i1 dl_679 ?_
  refine lm_goR (h := h) (hm := hm) (As := [.int (xs (i + 1).toNatClampNeg)]) (rest := []) C (c_fm25 xL_ok) (cwV 1 C.1.2.2.2.2 (kk_gV kw_989 kw_990 kw_991 kw_9 kw_992) rfl rfl rfl (by decide +kernel) ⟨Nat.le_of_ble_eq_true rfl, Nat.le_of_ble_eq_true rfl⟩) gI_FM (List.forall_mem_cons.mpr ⟨⟨by decide, by decide⟩, List.forall_mem_cons.mpr ⟨⟨by decide, by decide⟩, List.forall_mem_cons.mpr ⟨⟨by decide, by decide⟩, List.forall_mem_cons.mpr ⟨⟨by decide, by decide⟩, fun _ h => absurd h List.not_mem_nil⟩⟩⟩⟩) (⟨Or.inr ⟨0, List.mem_cons_self, rfl⟩, ⟨⟨_, rfl, ck_in_top _⟩, trivial⟩⟩) hP hD hS rfl hl.1 rfl (Nat.le_of_ble_eq_true rfl) dl_680 hf (fun r f2 g2 H2 locs2 hq2 hJ2 hP hD hS => ?_)
  obtain ⟨o2, ho2, hr2, hT2⟩ := hq2
  have h8 := List.all_eq_true.mp (show q_fm25.2.all (fun o => ck_isI o && ck_val 0 1 o) = true by decide) o2 ho2
  simp only [Bool.and_eq_true] at h8
  obtain ⟨x2, rfl⟩ := ck_isI_ok h8.1 hr2
  show W p l e room_1 s m args below meth c H2 locs2 (cells + 1) (slots + 6) Q (F0 m 683 ls [.int x2])
  have hc9 := ck_val_ok h8.2 hT2
  refine lv_istore (lv' := [(6, .int x2), (5, .int (Int32.ofNat 1)), (0, .ref b), (1, .ref (h 0)), (2, .ref (hm 0)), (3, .ref ho), (4, .int i)]) C.1.1 C.1.2.1 dl_683 hl (by decide) rfl (fun ls hl => ?_)
  refine lv_aload_n C.1.1 C.1.2.1 dl_685 rfl (lv_at hl 4 rfl) ?_
  refine lm_goR (h := h) (hm := hm) (As := []) (rest := []) C (c_fm1 xL_ok) (cwV 0 C.1.2.2.2.2 (kk_gV kw_853 kw_854 kw_855 kw_9 kw_856) rfl rfl rfl (by decide +kernel) ⟨Nat.le_of_ble_eq_true rfl, Nat.le_of_ble_eq_true rfl⟩) hJ2 (List.forall_mem_cons.mpr ⟨⟨by show (1 : Int) ≤ (f2 0).toInt; omega, by show (f2 0).toInt ≤ (1 : Int); omega⟩, List.forall_mem_cons.mpr ⟨ck_in_top _, List.forall_mem_cons.mpr ⟨ck_in_top _, List.forall_mem_cons.mpr ⟨ck_in_top _, fun _ h => absurd h List.not_mem_nil⟩⟩⟩⟩) ⟨Or.inr ⟨0, List.mem_cons_self, rfl⟩, trivial⟩ hP hD hS rfl hl.1 rfl (Nat.le_of_ble_eq_true rfl) dl_686 hf (fun r f3 g3 H3 locs3 hq3 hJ3 hP hD hS => ?_)
  obtain ⟨o3, ho3, hr3, hT3⟩ := hq3
  obtain ⟨x3, rfl, hx3⟩ := ck_isN_ok (List.all_eq_true.mp (show q_fm1.2.all (ck_isN 1) = true by decide) o3 ho3) hr3
  show W p l e room_1 s m args below meth c H3 locs3 (cells + 1) (slots + 6) Q (F0 m 689 ls [.int x3])
  refine lv_iload C.1.1 C.1.2.1 dl_689 (lv_at hl 1 rfl) ?_
  refine lv_icmp_eq (tgt := 696) C.1.1 C.1.2.1 dl_691 (by decide) (fun _ => ?_) (fun hne => absurd (Int32.toInt_inj.mp (by rw [hx3]; rfl)) hne)
  refine lv_iload C.1.1 C.1.2.1 dl_696 (lv_at hl 1 rfl) ?_
  refine lv_if_ne (tgt := 713) C.1.1 C.1.2.1 dl_698 (by decide) (fun _ => ?_) (fun hne => absurd hne (by decide))
  refine lv_goto (tgt := 840) C.1.1 C.1.2.1 dl_713 (by decide) ?_
  exact kk H3 locs3 _ hS (lv_sub hl [2, 3, 4, 5, 6] rfl)
theorem lo_16 {p : Program} {l : Launch} {e : Env} {s : State} {m : MethodId} {args : Array Value} {below : List Frame} {meth : Method} {c : Code} {H : Heap} {locs : List Loc} {cells slots : Nat} {Q : State → Prop} {D : va_G} {B : Nat} {A : Nat → Prop} {h hm : Nat → Nat} {cI cZ cJ : ClassId} {ho : Nat} {ls : Array Slot} {b L : Nat} {xs : Nat → Int32} {i : Int32} {cx : Cond} (hfl : l.flags = flags0) (C : zz_Cx p m meth c code 7 ret s args (cx :: kk_W) "NightCyclerLaw" D vN (tyN cI cZ cJ) A B (xL B h)) (hX : va_X b L xs s s.heap) (hbl : b < s.heap.size) (hbA : ¬ A b) (i1 : vp_in (i + 1) L) (i2 : vp_in (i + 2) L) (hP : va_P D vN (wW cI cZ cJ ho h hm fN0 gN0 fM0 gM0) H) (hD : va_D A (wW cI cZ cJ ho h hm fN0 gN0 fM0 gM0)) (hS : va_S A s.heap H locs) (hl : lv_has ls 7 [(0, .ref b), (1, .ref (h 0)), (2, .ref (hm 0)), (3, .ref ho), (4, .int i)]) (hf : cells + 1 ≤ room_1.cells ∧ slots + 6 ≤ room_1.slots) (kk : ∀ (H1 : Heap) (locs1 : List Loc) (ls1 : Array Slot), va_S A s.heap H1 locs1 → lv_has ls1 7 [(0, .ref b), (1, .ref (h 0)), (2, .ref (hm 0)), (3, .ref ho), (4, .int i)] → W p l e room_1 s m args below meth c H1 locs1 (cells + 1) (slots + 6) Q (F0 m 840 ls1 [])) : W p l e room_1 s m args below meth c H locs cells slots Q (F0 m 660 ls []) := by
  exact lo_16_fa36 hfl C hX hbl hbA i1 i2 hP hD hS hl hf kk
theorem lo_17_fa55 {p : Program} {l : Launch} {e : Env} {s : State} {m : MethodId} {args : Array Value} {below : List Frame} {meth : Method} {c : Code} {H : Heap} {locs : List Loc} {cells slots : Nat} {Q : State → Prop} {D : va_G} {B : Nat} {A : Nat → Prop} {h hm : Nat → Nat} {cI cZ cJ : ClassId} {ho : Nat} {ls : Array Slot} {b L : Nat} {xs : Nat → Int32} {i : Int32} {cx : Cond} (hfl : l.flags = flags0) (C : zz_Cx p m meth c code 7 ret s args (cx :: kk_W) "NightCyclerLaw" D vN (tyN cI cZ cJ) A B (xL B h)) (hX : va_X b L xs s s.heap) (hbl : b < s.heap.size) (hbA : ¬ A b) (i1 : vp_in (i + 1) L) (i2 : vp_in (i + 2) L) (hP : va_P D vN (wW cI cZ cJ ho h hm fN0 gN0 fM0 gM0) H) (hD : va_D A (wW cI cZ cJ ho h hm fN0 gN0 fM0 gM0)) (hS : va_S A s.heap H locs) (hl : lv_has ls 7 [(0, .ref b), (1, .ref (h 0)), (2, .ref (hm 0)), (3, .ref ho), (4, .int i)]) (hf : cells + 1 ≤ room_1.cells ∧ slots + 6 ≤ room_1.slots) (hc0 : (-2147483648 : Int) ≤ (xs (i + 1).toNatClampNeg).toInt ∧ (xs (i + 1).toNatClampNeg).toInt ≤ (-1 : Int)) (kk : ∀ (H1 : Heap) (locs1 : List Loc) (ls1 : Array Slot), va_S A s.heap H1 locs1 → lv_has ls1 7 [(0, .ref b), (1, .ref (h 0)), (2, .ref (hm 0)), (3, .ref ho), (4, .int i)] → W p l e room_1 s m args below meth c H1 locs1 (cells + 1) (slots + 6) Q (F0 m 840 ls1 [])) : W p l e room_1 s m args below meth c H locs cells slots Q (F0 m 716 ls []) := by
  refine lv_aload_n C.1.1 C.1.2.1 dl_716 rfl (lv_at hl 1 rfl) ?_
  refine lv_aload_n C.1.1 C.1.2.1 dl_717 rfl (lv_at hl 0 rfl) ?_
  refine lv_iload C.1.1 C.1.2.1 dl_718 (lv_at hl 4 rfl) ?_
  refine lv_iconst (v := 1) C.1.1 C.1.2.1 dl_720 (by decide) ?_
  refine lv_iadd C.1.1 C.1.2.1 dl_721 ?_
  refine va_sld C.1.1 C.1.2.1 hX hbl hbA hS i1 dl_722 ?_
  refine lv_aload_n C.1.1 C.1.2.1 dl_723 rfl (lv_at hl 3 rfl) ?_
  refine lw_goO (n := 3) C (ww_state (post := ck_poF fbFA gbFA h fN0 q_fa55.2) (px := ck_pxF fbFA gbFA fN0 q_fa55.2) (fun sz => x_fa55 hfl fN0 gN0 sz [.ref (h 0), .int (xs (i + 1).toNatClampNeg)] gI_A (List.forall_mem_cons.mpr ⟨⟨by decide, by decide⟩, List.forall_mem_cons.mpr ⟨⟨by decide, by decide⟩, List.forall_mem_cons.mpr ⟨⟨by decide, by decide⟩, fun _ h => absurd h List.not_mem_nil⟩⟩⟩) (⟨Or.inr ⟨0, List.mem_cons_self, rfl⟩, ⟨⟨_, rfl, hc0⟩, trivial⟩⟩)) ⟨rfl, rfl, by decide, by decide⟩ (ck_noVF (by decide)) (ck_ex1F (by decide))) kw_692 kw_693 kw_0 kw_694 (by decide +kernel) rfl rfl ⟨Nat.le_of_ble_eq_true rfl, Nat.le_of_ble_eq_true rfl⟩ hP hD hS rfl hl.1 rfl dl_724 hf (fun r f1 g1 H1 locs1 hq hP hD hS => ?_)
  obtain ⟨rfl, hv⟩ := ck_anO1 (n := 1) (v := 0) (show q_fa55.2.all (ck_an "java/lang/IllegalArgumentException" "" 1 0) = true by decide) (by decide) hq
  show W p l e room_1 s m args below meth c H1 locs1 (cells + 1) (slots + 6) Q (F0 m 727 ls [.int (Int32.ofNat 1)])
  refine lv_istore (lv' := [(5, .int (Int32.ofNat 1)), (0, .ref b), (1, .ref (h 0)), (2, .ref (hm 0)), (3, .ref ho), (4, .int i)]) C.1.1 C.1.2.1 dl_727 hl (by decide) rfl (fun ls hl => ?_)
  refine lv_aload_n C.1.1 C.1.2.1 dl_729 rfl (lv_at hl 3 rfl) ?_
  refine lv_aload_n C.1.1 C.1.2.1 dl_730 rfl (lv_at hl 1 rfl) ?_
  refine lv_iload C.1.1 C.1.2.1 dl_731 (lv_at hl 5 rfl) ?_
  refine lv_iconst (v := 1) C.1.1 C.1.2.1 dl_733 (by decide) ?_
  refine lv_iadd C.1.1 C.1.2.1 dl_734 ?_
  refine va_sld C.1.1 C.1.2.1 hX hbl hbA hS i1 dl_735 ?_
  refine lm_goR (h := h) (hm := hm) (As := [.int (xs (i + 1).toNatClampNeg)]) (rest := []) C (c_fm36 xL_ok) (cwV 1 C.1.2.2.2.2 (kk_gV kw_993 kw_994 kw_995 kw_9 kw_996) rfl rfl rfl (by decide +kernel) ⟨Nat.le_of_ble_eq_true rfl, Nat.le_of_ble_eq_true rfl⟩) gI_FM (List.forall_mem_cons.mpr ⟨⟨by decide, by decide⟩, List.forall_mem_cons.mpr ⟨⟨by decide, by decide⟩, List.forall_mem_cons.mpr ⟨⟨by decide, by decide⟩, List.forall_mem_cons.mpr ⟨⟨by decide, by decide⟩, fun _ h => absurd h List.not_mem_nil⟩⟩⟩⟩) (⟨Or.inr ⟨0, List.mem_cons_self, rfl⟩, ⟨⟨_, rfl, hc0⟩, trivial⟩⟩) hP hD hS rfl hl.1 rfl (Nat.le_of_ble_eq_true rfl) dl_736 hf (fun r f2 g2 H2 locs2 hq2 hJ2 hP hD hS => ?_)
  obtain ⟨o2, ho2, hr2, hT2⟩ := hq2
  have h8 := List.all_eq_true.mp (show q_fm36.2.all (fun o => ck_isI o && ck_val 0 1 o) = true by decide) o2 ho2
  simp only [Bool.and_eq_true] at h8
  obtain ⟨x2, rfl⟩ := ck_isI_ok h8.1 hr2
  show W p l e room_1 s m args below meth c H2 locs2 (cells + 1) (slots + 6) Q (F0 m 739 ls [.int x2])
  have hc9 := ck_val_ok h8.2 hT2
  refine lv_istore (lv' := [(6, .int x2), (5, .int (Int32.ofNat 1)), (0, .ref b), (1, .ref (h 0)), (2, .ref (hm 0)), (3, .ref ho), (4, .int i)]) C.1.1 C.1.2.1 dl_739 hl (by decide) rfl (fun ls hl => ?_)
  refine lv_aload_n C.1.1 C.1.2.1 dl_741 rfl (lv_at hl 4 rfl) ?_
  refine lm_goR (h := h) (hm := hm) (As := []) (rest := []) C (c_fm1 xL_ok) (cwV 0 C.1.2.2.2.2 (kk_gV kw_853 kw_854 kw_855 kw_9 kw_856) rfl rfl rfl (by decide +kernel) ⟨Nat.le_of_ble_eq_true rfl, Nat.le_of_ble_eq_true rfl⟩) hJ2 (List.forall_mem_cons.mpr ⟨⟨by show (1 : Int) ≤ (f2 0).toInt; omega, by show (f2 0).toInt ≤ (1 : Int); omega⟩, List.forall_mem_cons.mpr ⟨ck_in_top _, List.forall_mem_cons.mpr ⟨ck_in_top _, List.forall_mem_cons.mpr ⟨ck_in_top _, fun _ h => absurd h List.not_mem_nil⟩⟩⟩⟩) ⟨Or.inr ⟨0, List.mem_cons_self, rfl⟩, trivial⟩ hP hD hS rfl hl.1 rfl (Nat.le_of_ble_eq_true rfl) dl_742 hf (fun r f3 g3 H3 locs3 hq3 hJ3 hP hD hS => ?_)
  obtain ⟨o3, ho3, hr3, hT3⟩ := hq3
  obtain ⟨x3, rfl, hx3⟩ := ck_isN_ok (List.all_eq_true.mp (show q_fm1.2.all (ck_isN 1) = true by decide) o3 ho3) hr3
  show W p l e room_1 s m args below meth c H3 locs3 (cells + 1) (slots + 6) Q (F0 m 745 ls [.int x3])
  refine lv_iload C.1.1 C.1.2.1 dl_745 (lv_at hl 1 rfl) ?_
  refine lv_icmp_eq (tgt := 752) C.1.1 C.1.2.1 dl_747 (by decide) (fun _ => ?_) (fun hne => absurd (Int32.toInt_inj.mp (by rw [hx3]; rfl)) hne)
  refine lv_iload C.1.1 C.1.2.1 dl_752 (lv_at hl 1 rfl) ?_
  refine lv_if_ne (tgt := 769) C.1.1 C.1.2.1 dl_754 (by decide) (fun _ => ?_) (fun hne => absurd hne (by decide))
  refine lv_goto (tgt := 840) C.1.1 C.1.2.1 dl_769 (by decide) ?_
  exact kk H3 locs3 _ hS (lv_sub hl [2, 3, 4, 5, 6] rfl)
theorem lo_17_fa56 {p : Program} {l : Launch} {e : Env} {s : State} {m : MethodId} {args : Array Value} {below : List Frame} {meth : Method} {c : Code} {H : Heap} {locs : List Loc} {cells slots : Nat} {Q : State → Prop} {D : va_G} {B : Nat} {A : Nat → Prop} {h hm : Nat → Nat} {cI cZ cJ : ClassId} {ho : Nat} {ls : Array Slot} {b L : Nat} {xs : Nat → Int32} {i : Int32} {cx : Cond} (hfl : l.flags = flags0) (C : zz_Cx p m meth c code 7 ret s args (cx :: kk_W) "NightCyclerLaw" D vN (tyN cI cZ cJ) A B (xL B h)) (hX : va_X b L xs s s.heap) (hbl : b < s.heap.size) (hbA : ¬ A b) (i1 : vp_in (i + 1) L) (i2 : vp_in (i + 2) L) (hP : va_P D vN (wW cI cZ cJ ho h hm fN0 gN0 fM0 gM0) H) (hD : va_D A (wW cI cZ cJ ho h hm fN0 gN0 fM0 gM0)) (hS : va_S A s.heap H locs) (hl : lv_has ls 7 [(0, .ref b), (1, .ref (h 0)), (2, .ref (hm 0)), (3, .ref ho), (4, .int i)]) (hf : cells + 1 ≤ room_1.cells ∧ slots + 6 ≤ room_1.slots) (hc0 : (0 : Int) ≤ (xs (i + 1).toNatClampNeg).toInt ∧ (xs (i + 1).toNatClampNeg).toInt ≤ (0 : Int)) (kk : ∀ (H1 : Heap) (locs1 : List Loc) (ls1 : Array Slot), va_S A s.heap H1 locs1 → lv_has ls1 7 [(0, .ref b), (1, .ref (h 0)), (2, .ref (hm 0)), (3, .ref ho), (4, .int i)] → W p l e room_1 s m args below meth c H1 locs1 (cells + 1) (slots + 6) Q (F0 m 840 ls1 [])) : W p l e room_1 s m args below meth c H locs cells slots Q (F0 m 716 ls []) := by
  refine lv_aload_n C.1.1 C.1.2.1 dl_716 rfl (lv_at hl 1 rfl) ?_
  refine lv_aload_n C.1.1 C.1.2.1 dl_717 rfl (lv_at hl 0 rfl) ?_
  refine lv_iload C.1.1 C.1.2.1 dl_718 (lv_at hl 4 rfl) ?_
  refine lv_iconst (v := 1) C.1.1 C.1.2.1 dl_720 (by decide) ?_
  refine lv_iadd C.1.1 C.1.2.1 dl_721 ?_
  refine va_sld C.1.1 C.1.2.1 hX hbl hbA hS i1 dl_722 ?_
  refine lv_aload_n C.1.1 C.1.2.1 dl_723 rfl (lv_at hl 3 rfl) ?_
  refine lw_goO (n := 3) C (ww_state (post := ck_poF fbFA gbFA h fN0 q_fa56.2) (px := ck_pxF fbFA gbFA fN0 q_fa56.2) (fun sz => x_fa56 hfl fN0 gN0 sz [.ref (h 0), .int (xs (i + 1).toNatClampNeg)] gI_A (List.forall_mem_cons.mpr ⟨⟨by decide, by decide⟩, List.forall_mem_cons.mpr ⟨⟨by decide, by decide⟩, List.forall_mem_cons.mpr ⟨⟨by decide, by decide⟩, fun _ h => absurd h List.not_mem_nil⟩⟩⟩) (⟨Or.inr ⟨0, List.mem_cons_self, rfl⟩, ⟨⟨_, rfl, hc0⟩, trivial⟩⟩)) ⟨rfl, rfl, by decide, by decide⟩ (ck_noVF (by decide)) (ck_ex1F (by decide))) kw_692 kw_693 kw_0 kw_694 (by decide +kernel) rfl rfl ⟨Nat.le_of_ble_eq_true rfl, Nat.le_of_ble_eq_true rfl⟩ hP hD hS rfl hl.1 rfl dl_724 hf (fun r f1 g1 H1 locs1 hq hP hD hS => ?_)
  obtain ⟨rfl, hv⟩ := ck_anO1 (n := 0) (v := 0) (show q_fa56.2.all (ck_an "java/lang/IllegalArgumentException" "" 0 0) = true by decide) (by decide) hq
  show W p l e room_1 s m args below meth c H1 locs1 (cells + 1) (slots + 6) Q (F0 m 727 ls [.int (Int32.ofNat 0)])
  refine lv_istore (lv' := [(5, .int (Int32.ofNat 0)), (0, .ref b), (1, .ref (h 0)), (2, .ref (hm 0)), (3, .ref ho), (4, .int i)]) C.1.1 C.1.2.1 dl_727 hl (by decide) rfl (fun ls hl => ?_)
  refine lv_aload_n C.1.1 C.1.2.1 dl_729 rfl (lv_at hl 3 rfl) ?_
  refine lv_aload_n C.1.1 C.1.2.1 dl_730 rfl (lv_at hl 1 rfl) ?_
  refine lv_iload C.1.1 C.1.2.1 dl_731 (lv_at hl 5 rfl) ?_
  refine lv_iconst (v := 1) C.1.1 C.1.2.1 dl_733 (by decide) ?_
  refine lv_iadd C.1.1 C.1.2.1 dl_734 ?_
  refine va_sld C.1.1 C.1.2.1 hX hbl hbA hS i1 dl_735 ?_
  refine lm_goR (h := h) (hm := hm) (As := [.int (xs (i + 1).toNatClampNeg)]) (rest := []) C (c_fm37 xL_ok) (cwV 1 C.1.2.2.2.2 (kk_gV kw_993 kw_994 kw_995 kw_9 kw_996) rfl rfl rfl (by decide +kernel) ⟨Nat.le_of_ble_eq_true rfl, Nat.le_of_ble_eq_true rfl⟩) gI_FM (List.forall_mem_cons.mpr ⟨⟨by decide, by decide⟩, List.forall_mem_cons.mpr ⟨⟨by decide, by decide⟩, List.forall_mem_cons.mpr ⟨⟨by decide, by decide⟩, List.forall_mem_cons.mpr ⟨⟨by decide, by decide⟩, fun _ h => absurd h List.not_mem_nil⟩⟩⟩⟩) (⟨Or.inr ⟨0, List.mem_cons_self, rfl⟩, ⟨⟨_, rfl, hc0⟩, trivial⟩⟩) hP hD hS rfl hl.1 rfl (Nat.le_of_ble_eq_true rfl) dl_736 hf (fun r f2 g2 H2 locs2 hq2 hJ2 hP hD hS => ?_)
  obtain ⟨o2, ho2, hr2, hT2⟩ := hq2
  have h8 := List.all_eq_true.mp (show q_fm37.2.all (fun o => ck_isN 0 o && ck_val 0 0 o) = true by decide) o2 ho2
  simp only [Bool.and_eq_true] at h8
  obtain ⟨x2, rfl, hx2⟩ := ck_isN_ok h8.1 hr2
  show W p l e room_1 s m args below meth c H2 locs2 (cells + 1) (slots + 6) Q (F0 m 739 ls [.int x2])
  have hc9 := ck_val_ok h8.2 hT2
  refine lv_istore (lv' := [(6, .int x2), (5, .int (Int32.ofNat 0)), (0, .ref b), (1, .ref (h 0)), (2, .ref (hm 0)), (3, .ref ho), (4, .int i)]) C.1.1 C.1.2.1 dl_739 hl (by decide) rfl (fun ls hl => ?_)
  refine lv_aload_n C.1.1 C.1.2.1 dl_741 rfl (lv_at hl 4 rfl) ?_
  refine lm_goR (h := h) (hm := hm) (As := []) (rest := []) C (c_fm0 xL_ok) (cwV 0 C.1.2.2.2.2 (kk_gV kw_853 kw_854 kw_855 kw_9 kw_856) rfl rfl rfl (by decide +kernel) ⟨Nat.le_of_ble_eq_true rfl, Nat.le_of_ble_eq_true rfl⟩) hJ2 (List.forall_mem_cons.mpr ⟨⟨by show (0 : Int) ≤ (f2 0).toInt; omega, by show (f2 0).toInt ≤ (0 : Int); omega⟩, List.forall_mem_cons.mpr ⟨ck_in_top _, List.forall_mem_cons.mpr ⟨ck_in_top _, List.forall_mem_cons.mpr ⟨ck_in_top _, fun _ h => absurd h List.not_mem_nil⟩⟩⟩⟩) ⟨Or.inr ⟨0, List.mem_cons_self, rfl⟩, trivial⟩ hP hD hS rfl hl.1 rfl (Nat.le_of_ble_eq_true rfl) dl_742 hf (fun r f3 g3 H3 locs3 hq3 hJ3 hP hD hS => ?_)
  obtain ⟨o3, ho3, hr3, hT3⟩ := hq3
  obtain ⟨x3, rfl, hx3⟩ := ck_isN_ok (List.all_eq_true.mp (show q_fm0.2.all (ck_isN 0) = true by decide) o3 ho3) hr3
  show W p l e room_1 s m args below meth c H3 locs3 (cells + 1) (slots + 6) Q (F0 m 745 ls [.int x3])
  refine lv_iload C.1.1 C.1.2.1 dl_745 (lv_at hl 1 rfl) ?_
  refine lv_icmp_eq (tgt := 752) C.1.1 C.1.2.1 dl_747 (by decide) (fun _ => ?_) (fun hne => absurd (Int32.toInt_inj.mp (by rw [hx3]; rfl)) hne)
  refine lv_iload C.1.1 C.1.2.1 dl_752 (lv_at hl 1 rfl) ?_
  refine lv_if_ne (tgt := 769) C.1.1 C.1.2.1 dl_754 (by decide) (fun hne => absurd rfl hne) (fun _ => ?_)
  refine lv_aload_n C.1.1 C.1.2.1 dl_757 rfl (lv_at hl 5 rfl) ?_
  refine lv_iconst (v := 0) C.1.1 C.1.2.1 dl_758 (by decide) ?_
  refine va_lald C.1.1 C.1.2.1 C.2.2.2.1 hP 0 2 rfl rfl (vp_in_iff.mpr (by decide)) dl_759 ?_
  refine lv_iload C.1.1 C.1.2.1 dl_760 (lv_at hl 0 rfl) ?_
  refine lv_i2l (v := x2.toInt64) C.1.1 C.1.2.1 dl_762 rfl ?_
  have e9 : (g1 200 (0 : Int32).toNatClampNeg) = x2 := Int32.toInt_inj.mp ((hv rfl).trans hx2.symm)
  refine W.lcmp C.1.1 C.1.2.1 dl_763 ?_
  refine lv_if_eq (tgt := 769) C.1.1 C.1.2.1 dl_764 (by decide) (fun _ => ?_) (fun hne => absurd (by rw [e9]; exact lw_lcmp _) hne)
  refine lv_goto (tgt := 840) C.1.1 C.1.2.1 dl_769 (by decide) ?_
  exact kk H3 locs3 _ hS (lv_sub hl [2, 3, 4, 5, 6] rfl)
theorem lo_17_fa57 {p : Program} {l : Launch} {e : Env} {s : State} {m : MethodId} {args : Array Value} {below : List Frame} {meth : Method} {c : Code} {H : Heap} {locs : List Loc} {cells slots : Nat} {Q : State → Prop} {D : va_G} {B : Nat} {A : Nat → Prop} {h hm : Nat → Nat} {cI cZ cJ : ClassId} {ho : Nat} {ls : Array Slot} {b L : Nat} {xs : Nat → Int32} {i : Int32} {cx : Cond} (hfl : l.flags = flags0) (C : zz_Cx p m meth c code 7 ret s args (cx :: kk_W) "NightCyclerLaw" D vN (tyN cI cZ cJ) A B (xL B h)) (hX : va_X b L xs s s.heap) (hbl : b < s.heap.size) (hbA : ¬ A b) (i1 : vp_in (i + 1) L) (i2 : vp_in (i + 2) L) (hP : va_P D vN (wW cI cZ cJ ho h hm fN0 gN0 fM0 gM0) H) (hD : va_D A (wW cI cZ cJ ho h hm fN0 gN0 fM0 gM0)) (hS : va_S A s.heap H locs) (hl : lv_has ls 7 [(0, .ref b), (1, .ref (h 0)), (2, .ref (hm 0)), (3, .ref ho), (4, .int i)]) (hf : cells + 1 ≤ room_1.cells ∧ slots + 6 ≤ room_1.slots) (hc0 : (1 : Int) ≤ (xs (i + 1).toNatClampNeg).toInt ∧ (xs (i + 1).toNatClampNeg).toInt ≤ (1 : Int)) (kk : ∀ (H1 : Heap) (locs1 : List Loc) (ls1 : Array Slot), va_S A s.heap H1 locs1 → lv_has ls1 7 [(0, .ref b), (1, .ref (h 0)), (2, .ref (hm 0)), (3, .ref ho), (4, .int i)] → W p l e room_1 s m args below meth c H1 locs1 (cells + 1) (slots + 6) Q (F0 m 840 ls1 [])) : W p l e room_1 s m args below meth c H locs cells slots Q (F0 m 716 ls []) := by
  refine lv_aload_n C.1.1 C.1.2.1 dl_716 rfl (lv_at hl 1 rfl) ?_
  refine lv_aload_n C.1.1 C.1.2.1 dl_717 rfl (lv_at hl 0 rfl) ?_
  refine lv_iload C.1.1 C.1.2.1 dl_718 (lv_at hl 4 rfl) ?_
  refine lv_iconst (v := 1) C.1.1 C.1.2.1 dl_720 (by decide) ?_
  refine lv_iadd C.1.1 C.1.2.1 dl_721 ?_
  refine va_sld C.1.1 C.1.2.1 hX hbl hbA hS i1 dl_722 ?_
  refine lv_aload_n C.1.1 C.1.2.1 dl_723 rfl (lv_at hl 3 rfl) ?_
  refine lw_goO (n := 3) C (ww_state (post := ck_poF fbFA gbFA h fN0 q_fa57.2) (px := ck_pxF fbFA gbFA fN0 q_fa57.2) (fun sz => x_fa57 hfl fN0 gN0 sz [.ref (h 0), .int (xs (i + 1).toNatClampNeg)] gI_A (List.forall_mem_cons.mpr ⟨⟨by decide, by decide⟩, List.forall_mem_cons.mpr ⟨⟨by decide, by decide⟩, List.forall_mem_cons.mpr ⟨⟨by decide, by decide⟩, fun _ h => absurd h List.not_mem_nil⟩⟩⟩) (⟨Or.inr ⟨0, List.mem_cons_self, rfl⟩, ⟨⟨_, rfl, hc0⟩, trivial⟩⟩)) ⟨rfl, rfl, by decide, by decide⟩ (ck_noVF (by decide)) (ck_ex1F (by decide))) kw_692 kw_693 kw_0 kw_694 (by decide +kernel) rfl rfl ⟨Nat.le_of_ble_eq_true rfl, Nat.le_of_ble_eq_true rfl⟩ hP hD hS rfl hl.1 rfl dl_724 hf (fun r f1 g1 H1 locs1 hq hP hD hS => ?_)
  obtain ⟨rfl, hv⟩ := ck_anO1 (n := 0) (v := 0) (show q_fa57.2.all (ck_an "java/lang/IllegalArgumentException" "" 0 0) = true by decide) (by decide) hq
  show W p l e room_1 s m args below meth c H1 locs1 (cells + 1) (slots + 6) Q (F0 m 727 ls [.int (Int32.ofNat 0)])
  refine lv_istore (lv' := [(5, .int (Int32.ofNat 0)), (0, .ref b), (1, .ref (h 0)), (2, .ref (hm 0)), (3, .ref ho), (4, .int i)]) C.1.1 C.1.2.1 dl_727 hl (by decide) rfl (fun ls hl => ?_)
  refine lv_aload_n C.1.1 C.1.2.1 dl_729 rfl (lv_at hl 3 rfl) ?_
  refine lv_aload_n C.1.1 C.1.2.1 dl_730 rfl (lv_at hl 1 rfl) ?_
  refine lv_iload C.1.1 C.1.2.1 dl_731 (lv_at hl 5 rfl) ?_
  refine lv_iconst (v := 1) C.1.1 C.1.2.1 dl_733 (by decide) ?_
  refine lv_iadd C.1.1 C.1.2.1 dl_734 ?_
  refine va_sld C.1.1 C.1.2.1 hX hbl hbA hS i1 dl_735 ?_
  refine lm_goR (h := h) (hm := hm) (As := [.int (xs (i + 1).toNatClampNeg)]) (rest := []) C (c_fm38 xL_ok) (cwV 1 C.1.2.2.2.2 (kk_gV kw_993 kw_994 kw_995 kw_9 kw_996) rfl rfl rfl (by decide +kernel) ⟨Nat.le_of_ble_eq_true rfl, Nat.le_of_ble_eq_true rfl⟩) gI_FM (List.forall_mem_cons.mpr ⟨⟨by decide, by decide⟩, List.forall_mem_cons.mpr ⟨⟨by decide, by decide⟩, List.forall_mem_cons.mpr ⟨⟨by decide, by decide⟩, List.forall_mem_cons.mpr ⟨⟨by decide, by decide⟩, fun _ h => absurd h List.not_mem_nil⟩⟩⟩⟩) (⟨Or.inr ⟨0, List.mem_cons_self, rfl⟩, ⟨⟨_, rfl, hc0⟩, trivial⟩⟩) hP hD hS rfl hl.1 rfl (Nat.le_of_ble_eq_true rfl) dl_736 hf (fun r f2 g2 H2 locs2 hq2 hJ2 hP hD hS => ?_)
  obtain ⟨o2, ho2, hr2, hT2⟩ := hq2
  have h8 := List.all_eq_true.mp (show q_fm38.2.all (fun o => ck_isN 0 o && ck_val 0 0 o) = true by decide) o2 ho2
  simp only [Bool.and_eq_true] at h8
  obtain ⟨x2, rfl, hx2⟩ := ck_isN_ok h8.1 hr2
  show W p l e room_1 s m args below meth c H2 locs2 (cells + 1) (slots + 6) Q (F0 m 739 ls [.int x2])
  have hc9 := ck_val_ok h8.2 hT2
  refine lv_istore (lv' := [(6, .int x2), (5, .int (Int32.ofNat 0)), (0, .ref b), (1, .ref (h 0)), (2, .ref (hm 0)), (3, .ref ho), (4, .int i)]) C.1.1 C.1.2.1 dl_739 hl (by decide) rfl (fun ls hl => ?_)
  refine lv_aload_n C.1.1 C.1.2.1 dl_741 rfl (lv_at hl 4 rfl) ?_
  refine lm_goR (h := h) (hm := hm) (As := []) (rest := []) C (c_fm0 xL_ok) (cwV 0 C.1.2.2.2.2 (kk_gV kw_853 kw_854 kw_855 kw_9 kw_856) rfl rfl rfl (by decide +kernel) ⟨Nat.le_of_ble_eq_true rfl, Nat.le_of_ble_eq_true rfl⟩) hJ2 (List.forall_mem_cons.mpr ⟨⟨by show (0 : Int) ≤ (f2 0).toInt; omega, by show (f2 0).toInt ≤ (0 : Int); omega⟩, List.forall_mem_cons.mpr ⟨ck_in_top _, List.forall_mem_cons.mpr ⟨ck_in_top _, List.forall_mem_cons.mpr ⟨ck_in_top _, fun _ h => absurd h List.not_mem_nil⟩⟩⟩⟩) ⟨Or.inr ⟨0, List.mem_cons_self, rfl⟩, trivial⟩ hP hD hS rfl hl.1 rfl (Nat.le_of_ble_eq_true rfl) dl_742 hf (fun r f3 g3 H3 locs3 hq3 hJ3 hP hD hS => ?_)
  obtain ⟨o3, ho3, hr3, hT3⟩ := hq3
  obtain ⟨x3, rfl, hx3⟩ := ck_isN_ok (List.all_eq_true.mp (show q_fm0.2.all (ck_isN 0) = true by decide) o3 ho3) hr3
  show W p l e room_1 s m args below meth c H3 locs3 (cells + 1) (slots + 6) Q (F0 m 745 ls [.int x3])
  refine lv_iload C.1.1 C.1.2.1 dl_745 (lv_at hl 1 rfl) ?_
  refine lv_icmp_eq (tgt := 752) C.1.1 C.1.2.1 dl_747 (by decide) (fun _ => ?_) (fun hne => absurd (Int32.toInt_inj.mp (by rw [hx3]; rfl)) hne)
  refine lv_iload C.1.1 C.1.2.1 dl_752 (lv_at hl 1 rfl) ?_
  refine lv_if_ne (tgt := 769) C.1.1 C.1.2.1 dl_754 (by decide) (fun hne => absurd rfl hne) (fun _ => ?_)
  refine lv_aload_n C.1.1 C.1.2.1 dl_757 rfl (lv_at hl 5 rfl) ?_
  refine lv_iconst (v := 0) C.1.1 C.1.2.1 dl_758 (by decide) ?_
  refine va_lald C.1.1 C.1.2.1 C.2.2.2.1 hP 0 2 rfl rfl (vp_in_iff.mpr (by decide)) dl_759 ?_
  refine lv_iload C.1.1 C.1.2.1 dl_760 (lv_at hl 0 rfl) ?_
  refine lv_i2l (v := x2.toInt64) C.1.1 C.1.2.1 dl_762 rfl ?_
  have e9 : (g1 200 (0 : Int32).toNatClampNeg) = x2 := Int32.toInt_inj.mp ((hv rfl).trans hx2.symm)
  refine W.lcmp C.1.1 C.1.2.1 dl_763 ?_
  refine lv_if_eq (tgt := 769) C.1.1 C.1.2.1 dl_764 (by decide) (fun _ => ?_) (fun hne => absurd (by rw [e9]; exact lw_lcmp _) hne)
  refine lv_goto (tgt := 840) C.1.1 C.1.2.1 dl_769 (by decide) ?_
  exact kk H3 locs3 _ hS (lv_sub hl [2, 3, 4, 5, 6] rfl)
theorem lo_17_fa58 {p : Program} {l : Launch} {e : Env} {s : State} {m : MethodId} {args : Array Value} {below : List Frame} {meth : Method} {c : Code} {H : Heap} {locs : List Loc} {cells slots : Nat} {Q : State → Prop} {D : va_G} {B : Nat} {A : Nat → Prop} {h hm : Nat → Nat} {cI cZ cJ : ClassId} {ho : Nat} {ls : Array Slot} {b L : Nat} {xs : Nat → Int32} {i : Int32} {cx : Cond} (hfl : l.flags = flags0) (C : zz_Cx p m meth c code 7 ret s args (cx :: kk_W) "NightCyclerLaw" D vN (tyN cI cZ cJ) A B (xL B h)) (hX : va_X b L xs s s.heap) (hbl : b < s.heap.size) (hbA : ¬ A b) (i1 : vp_in (i + 1) L) (i2 : vp_in (i + 2) L) (hP : va_P D vN (wW cI cZ cJ ho h hm fN0 gN0 fM0 gM0) H) (hD : va_D A (wW cI cZ cJ ho h hm fN0 gN0 fM0 gM0)) (hS : va_S A s.heap H locs) (hl : lv_has ls 7 [(0, .ref b), (1, .ref (h 0)), (2, .ref (hm 0)), (3, .ref ho), (4, .int i)]) (hf : cells + 1 ≤ room_1.cells ∧ slots + 6 ≤ room_1.slots) (hc0 : (2 : Int) ≤ (xs (i + 1).toNatClampNeg).toInt ∧ (xs (i + 1).toNatClampNeg).toInt ≤ (2 : Int)) (kk : ∀ (H1 : Heap) (locs1 : List Loc) (ls1 : Array Slot), va_S A s.heap H1 locs1 → lv_has ls1 7 [(0, .ref b), (1, .ref (h 0)), (2, .ref (hm 0)), (3, .ref ho), (4, .int i)] → W p l e room_1 s m args below meth c H1 locs1 (cells + 1) (slots + 6) Q (F0 m 840 ls1 [])) : W p l e room_1 s m args below meth c H locs cells slots Q (F0 m 716 ls []) := by
  refine lv_aload_n C.1.1 C.1.2.1 dl_716 rfl (lv_at hl 1 rfl) ?_
  refine lv_aload_n C.1.1 C.1.2.1 dl_717 rfl (lv_at hl 0 rfl) ?_
  refine lv_iload C.1.1 C.1.2.1 dl_718 (lv_at hl 4 rfl) ?_
  refine lv_iconst (v := 1) C.1.1 C.1.2.1 dl_720 (by decide) ?_
  refine lv_iadd C.1.1 C.1.2.1 dl_721 ?_
  refine va_sld C.1.1 C.1.2.1 hX hbl hbA hS i1 dl_722 ?_
  refine lv_aload_n C.1.1 C.1.2.1 dl_723 rfl (lv_at hl 3 rfl) ?_
  refine lw_goO (n := 3) C (ww_state (post := ck_poF fbFA gbFA h fN0 q_fa58.2) (px := ck_pxF fbFA gbFA fN0 q_fa58.2) (fun sz => x_fa58 hfl fN0 gN0 sz [.ref (h 0), .int (xs (i + 1).toNatClampNeg)] gI_A (List.forall_mem_cons.mpr ⟨⟨by decide, by decide⟩, List.forall_mem_cons.mpr ⟨⟨by decide, by decide⟩, List.forall_mem_cons.mpr ⟨⟨by decide, by decide⟩, fun _ h => absurd h List.not_mem_nil⟩⟩⟩) (⟨Or.inr ⟨0, List.mem_cons_self, rfl⟩, ⟨⟨_, rfl, hc0⟩, trivial⟩⟩)) ⟨rfl, rfl, by decide, by decide⟩ (ck_noVF (by decide)) (ck_ex1F (by decide))) kw_692 kw_693 kw_0 kw_694 (by decide +kernel) rfl rfl ⟨Nat.le_of_ble_eq_true rfl, Nat.le_of_ble_eq_true rfl⟩ hP hD hS rfl hl.1 rfl dl_724 hf (fun r f1 g1 H1 locs1 hq hP hD hS => ?_)
  obtain ⟨rfl, hv⟩ := ck_anO1 (n := 0) (v := 0) (show q_fa58.2.all (ck_an "java/lang/IllegalArgumentException" "" 0 0) = true by decide) (by decide) hq
  show W p l e room_1 s m args below meth c H1 locs1 (cells + 1) (slots + 6) Q (F0 m 727 ls [.int (Int32.ofNat 0)])
  refine lv_istore (lv' := [(5, .int (Int32.ofNat 0)), (0, .ref b), (1, .ref (h 0)), (2, .ref (hm 0)), (3, .ref ho), (4, .int i)]) C.1.1 C.1.2.1 dl_727 hl (by decide) rfl (fun ls hl => ?_)
  refine lv_aload_n C.1.1 C.1.2.1 dl_729 rfl (lv_at hl 3 rfl) ?_
  refine lv_aload_n C.1.1 C.1.2.1 dl_730 rfl (lv_at hl 1 rfl) ?_
  refine lv_iload C.1.1 C.1.2.1 dl_731 (lv_at hl 5 rfl) ?_
  refine lv_iconst (v := 1) C.1.1 C.1.2.1 dl_733 (by decide) ?_
  refine lv_iadd C.1.1 C.1.2.1 dl_734 ?_
  refine va_sld C.1.1 C.1.2.1 hX hbl hbA hS i1 dl_735 ?_
  refine lm_goR (h := h) (hm := hm) (As := [.int (xs (i + 1).toNatClampNeg)]) (rest := []) C (c_fm39 xL_ok) (cwV 1 C.1.2.2.2.2 (kk_gV kw_993 kw_994 kw_995 kw_9 kw_996) rfl rfl rfl (by decide +kernel) ⟨Nat.le_of_ble_eq_true rfl, Nat.le_of_ble_eq_true rfl⟩) gI_FM (List.forall_mem_cons.mpr ⟨⟨by decide, by decide⟩, List.forall_mem_cons.mpr ⟨⟨by decide, by decide⟩, List.forall_mem_cons.mpr ⟨⟨by decide, by decide⟩, List.forall_mem_cons.mpr ⟨⟨by decide, by decide⟩, fun _ h => absurd h List.not_mem_nil⟩⟩⟩⟩) (⟨Or.inr ⟨0, List.mem_cons_self, rfl⟩, ⟨⟨_, rfl, hc0⟩, trivial⟩⟩) hP hD hS rfl hl.1 rfl (Nat.le_of_ble_eq_true rfl) dl_736 hf (fun r f2 g2 H2 locs2 hq2 hJ2 hP hD hS => ?_)
  obtain ⟨o2, ho2, hr2, hT2⟩ := hq2
  have h8 := List.all_eq_true.mp (show q_fm39.2.all (fun o => ck_isN 0 o && ck_val 0 0 o) = true by decide) o2 ho2
  simp only [Bool.and_eq_true] at h8
  obtain ⟨x2, rfl, hx2⟩ := ck_isN_ok h8.1 hr2
  show W p l e room_1 s m args below meth c H2 locs2 (cells + 1) (slots + 6) Q (F0 m 739 ls [.int x2])
  have hc9 := ck_val_ok h8.2 hT2
  refine lv_istore (lv' := [(6, .int x2), (5, .int (Int32.ofNat 0)), (0, .ref b), (1, .ref (h 0)), (2, .ref (hm 0)), (3, .ref ho), (4, .int i)]) C.1.1 C.1.2.1 dl_739 hl (by decide) rfl (fun ls hl => ?_)
  refine lv_aload_n C.1.1 C.1.2.1 dl_741 rfl (lv_at hl 4 rfl) ?_
  refine lm_goR (h := h) (hm := hm) (As := []) (rest := []) C (c_fm0 xL_ok) (cwV 0 C.1.2.2.2.2 (kk_gV kw_853 kw_854 kw_855 kw_9 kw_856) rfl rfl rfl (by decide +kernel) ⟨Nat.le_of_ble_eq_true rfl, Nat.le_of_ble_eq_true rfl⟩) hJ2 (List.forall_mem_cons.mpr ⟨⟨by show (0 : Int) ≤ (f2 0).toInt; omega, by show (f2 0).toInt ≤ (0 : Int); omega⟩, List.forall_mem_cons.mpr ⟨ck_in_top _, List.forall_mem_cons.mpr ⟨ck_in_top _, List.forall_mem_cons.mpr ⟨ck_in_top _, fun _ h => absurd h List.not_mem_nil⟩⟩⟩⟩) ⟨Or.inr ⟨0, List.mem_cons_self, rfl⟩, trivial⟩ hP hD hS rfl hl.1 rfl (Nat.le_of_ble_eq_true rfl) dl_742 hf (fun r f3 g3 H3 locs3 hq3 hJ3 hP hD hS => ?_)
  obtain ⟨o3, ho3, hr3, hT3⟩ := hq3
  obtain ⟨x3, rfl, hx3⟩ := ck_isN_ok (List.all_eq_true.mp (show q_fm0.2.all (ck_isN 0) = true by decide) o3 ho3) hr3
  show W p l e room_1 s m args below meth c H3 locs3 (cells + 1) (slots + 6) Q (F0 m 745 ls [.int x3])
  refine lv_iload C.1.1 C.1.2.1 dl_745 (lv_at hl 1 rfl) ?_
  refine lv_icmp_eq (tgt := 752) C.1.1 C.1.2.1 dl_747 (by decide) (fun _ => ?_) (fun hne => absurd (Int32.toInt_inj.mp (by rw [hx3]; rfl)) hne)
  refine lv_iload C.1.1 C.1.2.1 dl_752 (lv_at hl 1 rfl) ?_
  refine lv_if_ne (tgt := 769) C.1.1 C.1.2.1 dl_754 (by decide) (fun hne => absurd rfl hne) (fun _ => ?_)
  refine lv_aload_n C.1.1 C.1.2.1 dl_757 rfl (lv_at hl 5 rfl) ?_
  refine lv_iconst (v := 0) C.1.1 C.1.2.1 dl_758 (by decide) ?_
  refine va_lald C.1.1 C.1.2.1 C.2.2.2.1 hP 0 2 rfl rfl (vp_in_iff.mpr (by decide)) dl_759 ?_
  refine lv_iload C.1.1 C.1.2.1 dl_760 (lv_at hl 0 rfl) ?_
  refine lv_i2l (v := x2.toInt64) C.1.1 C.1.2.1 dl_762 rfl ?_
  have e9 : (g1 200 (0 : Int32).toNatClampNeg) = x2 := Int32.toInt_inj.mp ((hv rfl).trans hx2.symm)
  refine W.lcmp C.1.1 C.1.2.1 dl_763 ?_
  refine lv_if_eq (tgt := 769) C.1.1 C.1.2.1 dl_764 (by decide) (fun _ => ?_) (fun hne => absurd (by rw [e9]; exact lw_lcmp _) hne)
  refine lv_goto (tgt := 840) C.1.1 C.1.2.1 dl_769 (by decide) ?_
  exact kk H3 locs3 _ hS (lv_sub hl [2, 3, 4, 5, 6] rfl)
theorem lo_17_fa59 {p : Program} {l : Launch} {e : Env} {s : State} {m : MethodId} {args : Array Value} {below : List Frame} {meth : Method} {c : Code} {H : Heap} {locs : List Loc} {cells slots : Nat} {Q : State → Prop} {D : va_G} {B : Nat} {A : Nat → Prop} {h hm : Nat → Nat} {cI cZ cJ : ClassId} {ho : Nat} {ls : Array Slot} {b L : Nat} {xs : Nat → Int32} {i : Int32} {cx : Cond} (hfl : l.flags = flags0) (C : zz_Cx p m meth c code 7 ret s args (cx :: kk_W) "NightCyclerLaw" D vN (tyN cI cZ cJ) A B (xL B h)) (hX : va_X b L xs s s.heap) (hbl : b < s.heap.size) (hbA : ¬ A b) (i1 : vp_in (i + 1) L) (i2 : vp_in (i + 2) L) (hP : va_P D vN (wW cI cZ cJ ho h hm fN0 gN0 fM0 gM0) H) (hD : va_D A (wW cI cZ cJ ho h hm fN0 gN0 fM0 gM0)) (hS : va_S A s.heap H locs) (hl : lv_has ls 7 [(0, .ref b), (1, .ref (h 0)), (2, .ref (hm 0)), (3, .ref ho), (4, .int i)]) (hf : cells + 1 ≤ room_1.cells ∧ slots + 6 ≤ room_1.slots) (hc0 : (3 : Int) ≤ (xs (i + 1).toNatClampNeg).toInt ∧ (xs (i + 1).toNatClampNeg).toInt ≤ (3 : Int)) (kk : ∀ (H1 : Heap) (locs1 : List Loc) (ls1 : Array Slot), va_S A s.heap H1 locs1 → lv_has ls1 7 [(0, .ref b), (1, .ref (h 0)), (2, .ref (hm 0)), (3, .ref ho), (4, .int i)] → W p l e room_1 s m args below meth c H1 locs1 (cells + 1) (slots + 6) Q (F0 m 840 ls1 [])) : W p l e room_1 s m args below meth c H locs cells slots Q (F0 m 716 ls []) := by
  refine lv_aload_n C.1.1 C.1.2.1 dl_716 rfl (lv_at hl 1 rfl) ?_
  refine lv_aload_n C.1.1 C.1.2.1 dl_717 rfl (lv_at hl 0 rfl) ?_
  refine lv_iload C.1.1 C.1.2.1 dl_718 (lv_at hl 4 rfl) ?_
  refine lv_iconst (v := 1) C.1.1 C.1.2.1 dl_720 (by decide) ?_
  refine lv_iadd C.1.1 C.1.2.1 dl_721 ?_
  refine va_sld C.1.1 C.1.2.1 hX hbl hbA hS i1 dl_722 ?_
  refine lv_aload_n C.1.1 C.1.2.1 dl_723 rfl (lv_at hl 3 rfl) ?_
  refine lw_goO (n := 3) C (ww_state (post := ck_poF fbFA gbFA h fN0 q_fa59.2) (px := ck_pxF fbFA gbFA fN0 q_fa59.2) (fun sz => x_fa59 hfl fN0 gN0 sz [.ref (h 0), .int (xs (i + 1).toNatClampNeg)] gI_A (List.forall_mem_cons.mpr ⟨⟨by decide, by decide⟩, List.forall_mem_cons.mpr ⟨⟨by decide, by decide⟩, List.forall_mem_cons.mpr ⟨⟨by decide, by decide⟩, fun _ h => absurd h List.not_mem_nil⟩⟩⟩) (⟨Or.inr ⟨0, List.mem_cons_self, rfl⟩, ⟨⟨_, rfl, hc0⟩, trivial⟩⟩)) ⟨rfl, rfl, by decide, by decide⟩ (ck_noVF (by decide)) (ck_ex1F (by decide))) kw_692 kw_693 kw_0 kw_694 (by decide +kernel) rfl rfl ⟨Nat.le_of_ble_eq_true rfl, Nat.le_of_ble_eq_true rfl⟩ hP hD hS rfl hl.1 rfl dl_724 hf (fun r f1 g1 H1 locs1 hq hP hD hS => ?_)
  obtain ⟨rfl, hv⟩ := ck_anO1 (n := 0) (v := -1000000) (show q_fa59.2.all (ck_an "java/lang/IllegalArgumentException" "" 0 (-1000000)) = true by decide) (by decide) hq
  show W p l e room_1 s m args below meth c H1 locs1 (cells + 1) (slots + 6) Q (F0 m 727 ls [.int (Int32.ofNat 0)])
  refine lv_istore (lv' := [(5, .int (Int32.ofNat 0)), (0, .ref b), (1, .ref (h 0)), (2, .ref (hm 0)), (3, .ref ho), (4, .int i)]) C.1.1 C.1.2.1 dl_727 hl (by decide) rfl (fun ls hl => ?_)
  refine lv_aload_n C.1.1 C.1.2.1 dl_729 rfl (lv_at hl 3 rfl) ?_
  refine lv_aload_n C.1.1 C.1.2.1 dl_730 rfl (lv_at hl 1 rfl) ?_
  refine lv_iload C.1.1 C.1.2.1 dl_731 (lv_at hl 5 rfl) ?_
  refine lv_iconst (v := 1) C.1.1 C.1.2.1 dl_733 (by decide) ?_
  refine lv_iadd C.1.1 C.1.2.1 dl_734 ?_
  refine va_sld C.1.1 C.1.2.1 hX hbl hbA hS i1 dl_735 ?_
  refine lm_goR (h := h) (hm := hm) (As := [.int (xs (i + 1).toNatClampNeg)]) (rest := []) C (c_fm40 xL_ok) (cwV 1 C.1.2.2.2.2 (kk_gV kw_993 kw_994 kw_995 kw_9 kw_996) rfl rfl rfl (by decide +kernel) ⟨Nat.le_of_ble_eq_true rfl, Nat.le_of_ble_eq_true rfl⟩) gI_FM (List.forall_mem_cons.mpr ⟨⟨by decide, by decide⟩, List.forall_mem_cons.mpr ⟨⟨by decide, by decide⟩, List.forall_mem_cons.mpr ⟨⟨by decide, by decide⟩, List.forall_mem_cons.mpr ⟨⟨by decide, by decide⟩, fun _ h => absurd h List.not_mem_nil⟩⟩⟩⟩) (⟨Or.inr ⟨0, List.mem_cons_self, rfl⟩, ⟨⟨_, rfl, hc0⟩, trivial⟩⟩) hP hD hS rfl hl.1 rfl (Nat.le_of_ble_eq_true rfl) dl_736 hf (fun r f2 g2 H2 locs2 hq2 hJ2 hP hD hS => ?_)
  obtain ⟨o2, ho2, hr2, hT2⟩ := hq2
  have h8 := List.all_eq_true.mp (show q_fm40.2.all (fun o => ck_isN (-1000000) o && ck_val 0 0 o) = true by decide) o2 ho2
  simp only [Bool.and_eq_true] at h8
  obtain ⟨x2, rfl, hx2⟩ := ck_isN_ok h8.1 hr2
  show W p l e room_1 s m args below meth c H2 locs2 (cells + 1) (slots + 6) Q (F0 m 739 ls [.int x2])
  have hc9 := ck_val_ok h8.2 hT2
  refine lv_istore (lv' := [(6, .int x2), (5, .int (Int32.ofNat 0)), (0, .ref b), (1, .ref (h 0)), (2, .ref (hm 0)), (3, .ref ho), (4, .int i)]) C.1.1 C.1.2.1 dl_739 hl (by decide) rfl (fun ls hl => ?_)
  refine lv_aload_n C.1.1 C.1.2.1 dl_741 rfl (lv_at hl 4 rfl) ?_
  refine lm_goR (h := h) (hm := hm) (As := []) (rest := []) C (c_fm0 xL_ok) (cwV 0 C.1.2.2.2.2 (kk_gV kw_853 kw_854 kw_855 kw_9 kw_856) rfl rfl rfl (by decide +kernel) ⟨Nat.le_of_ble_eq_true rfl, Nat.le_of_ble_eq_true rfl⟩) hJ2 (List.forall_mem_cons.mpr ⟨⟨by show (0 : Int) ≤ (f2 0).toInt; omega, by show (f2 0).toInt ≤ (0 : Int); omega⟩, List.forall_mem_cons.mpr ⟨ck_in_top _, List.forall_mem_cons.mpr ⟨ck_in_top _, List.forall_mem_cons.mpr ⟨ck_in_top _, fun _ h => absurd h List.not_mem_nil⟩⟩⟩⟩) ⟨Or.inr ⟨0, List.mem_cons_self, rfl⟩, trivial⟩ hP hD hS rfl hl.1 rfl (Nat.le_of_ble_eq_true rfl) dl_742 hf (fun r f3 g3 H3 locs3 hq3 hJ3 hP hD hS => ?_)
  obtain ⟨o3, ho3, hr3, hT3⟩ := hq3
  obtain ⟨x3, rfl, hx3⟩ := ck_isN_ok (List.all_eq_true.mp (show q_fm0.2.all (ck_isN 0) = true by decide) o3 ho3) hr3
  show W p l e room_1 s m args below meth c H3 locs3 (cells + 1) (slots + 6) Q (F0 m 745 ls [.int x3])
  refine lv_iload C.1.1 C.1.2.1 dl_745 (lv_at hl 1 rfl) ?_
  refine lv_icmp_eq (tgt := 752) C.1.1 C.1.2.1 dl_747 (by decide) (fun _ => ?_) (fun hne => absurd (Int32.toInt_inj.mp (by rw [hx3]; rfl)) hne)
  refine lv_iload C.1.1 C.1.2.1 dl_752 (lv_at hl 1 rfl) ?_
  refine lv_if_ne (tgt := 769) C.1.1 C.1.2.1 dl_754 (by decide) (fun hne => absurd rfl hne) (fun _ => ?_)
  refine lv_aload_n C.1.1 C.1.2.1 dl_757 rfl (lv_at hl 5 rfl) ?_
  refine lv_iconst (v := 0) C.1.1 C.1.2.1 dl_758 (by decide) ?_
  refine va_lald C.1.1 C.1.2.1 C.2.2.2.1 hP 0 2 rfl rfl (vp_in_iff.mpr (by decide)) dl_759 ?_
  refine lv_iload C.1.1 C.1.2.1 dl_760 (lv_at hl 0 rfl) ?_
  refine lv_i2l (v := x2.toInt64) C.1.1 C.1.2.1 dl_762 rfl ?_
  have e9 : (g1 200 (0 : Int32).toNatClampNeg) = x2 := Int32.toInt_inj.mp ((hv rfl).trans hx2.symm)
  refine W.lcmp C.1.1 C.1.2.1 dl_763 ?_
  refine lv_if_eq (tgt := 769) C.1.1 C.1.2.1 dl_764 (by decide) (fun _ => ?_) (fun hne => absurd (by rw [e9]; exact lw_lcmp _) hne)
  refine lv_goto (tgt := 840) C.1.1 C.1.2.1 dl_769 (by decide) ?_
  exact kk H3 locs3 _ hS (lv_sub hl [2, 3, 4, 5, 6] rfl)
theorem lo_17_fa60 {p : Program} {l : Launch} {e : Env} {s : State} {m : MethodId} {args : Array Value} {below : List Frame} {meth : Method} {c : Code} {H : Heap} {locs : List Loc} {cells slots : Nat} {Q : State → Prop} {D : va_G} {B : Nat} {A : Nat → Prop} {h hm : Nat → Nat} {cI cZ cJ : ClassId} {ho : Nat} {ls : Array Slot} {b L : Nat} {xs : Nat → Int32} {i : Int32} {cx : Cond} (hfl : l.flags = flags0) (C : zz_Cx p m meth c code 7 ret s args (cx :: kk_W) "NightCyclerLaw" D vN (tyN cI cZ cJ) A B (xL B h)) (hX : va_X b L xs s s.heap) (hbl : b < s.heap.size) (hbA : ¬ A b) (i1 : vp_in (i + 1) L) (i2 : vp_in (i + 2) L) (hP : va_P D vN (wW cI cZ cJ ho h hm fN0 gN0 fM0 gM0) H) (hD : va_D A (wW cI cZ cJ ho h hm fN0 gN0 fM0 gM0)) (hS : va_S A s.heap H locs) (hl : lv_has ls 7 [(0, .ref b), (1, .ref (h 0)), (2, .ref (hm 0)), (3, .ref ho), (4, .int i)]) (hf : cells + 1 ≤ room_1.cells ∧ slots + 6 ≤ room_1.slots) (hc0 : (4 : Int) ≤ (xs (i + 1).toNatClampNeg).toInt ∧ (xs (i + 1).toNatClampNeg).toInt ≤ (4 : Int)) (kk : ∀ (H1 : Heap) (locs1 : List Loc) (ls1 : Array Slot), va_S A s.heap H1 locs1 → lv_has ls1 7 [(0, .ref b), (1, .ref (h 0)), (2, .ref (hm 0)), (3, .ref ho), (4, .int i)] → W p l e room_1 s m args below meth c H1 locs1 (cells + 1) (slots + 6) Q (F0 m 840 ls1 [])) : W p l e room_1 s m args below meth c H locs cells slots Q (F0 m 716 ls []) := by
  refine lv_aload_n C.1.1 C.1.2.1 dl_716 rfl (lv_at hl 1 rfl) ?_
  refine lv_aload_n C.1.1 C.1.2.1 dl_717 rfl (lv_at hl 0 rfl) ?_
  refine lv_iload C.1.1 C.1.2.1 dl_718 (lv_at hl 4 rfl) ?_
  refine lv_iconst (v := 1) C.1.1 C.1.2.1 dl_720 (by decide) ?_
  refine lv_iadd C.1.1 C.1.2.1 dl_721 ?_
  refine va_sld C.1.1 C.1.2.1 hX hbl hbA hS i1 dl_722 ?_
  refine lv_aload_n C.1.1 C.1.2.1 dl_723 rfl (lv_at hl 3 rfl) ?_
  refine lw_goO (n := 3) C (ww_state (post := ck_poF fbFA gbFA h fN0 q_fa60.2) (px := ck_pxF fbFA gbFA fN0 q_fa60.2) (fun sz => x_fa60 hfl fN0 gN0 sz [.ref (h 0), .int (xs (i + 1).toNatClampNeg)] gI_A (List.forall_mem_cons.mpr ⟨⟨by decide, by decide⟩, List.forall_mem_cons.mpr ⟨⟨by decide, by decide⟩, List.forall_mem_cons.mpr ⟨⟨by decide, by decide⟩, fun _ h => absurd h List.not_mem_nil⟩⟩⟩) (⟨Or.inr ⟨0, List.mem_cons_self, rfl⟩, ⟨⟨_, rfl, hc0⟩, trivial⟩⟩)) ⟨rfl, rfl, by decide, by decide⟩ (ck_noVF (by decide)) (ck_ex1F (by decide))) kw_692 kw_693 kw_0 kw_694 (by decide +kernel) rfl rfl ⟨Nat.le_of_ble_eq_true rfl, Nat.le_of_ble_eq_true rfl⟩ hP hD hS rfl hl.1 rfl dl_724 hf (fun r f1 g1 H1 locs1 hq hP hD hS => ?_)
  obtain ⟨rfl, hv⟩ := ck_anO1 (n := 0) (v := 0) (show q_fa60.2.all (ck_an "java/lang/IllegalArgumentException" "" 0 0) = true by decide) (by decide) hq
  show W p l e room_1 s m args below meth c H1 locs1 (cells + 1) (slots + 6) Q (F0 m 727 ls [.int (Int32.ofNat 0)])
  refine lv_istore (lv' := [(5, .int (Int32.ofNat 0)), (0, .ref b), (1, .ref (h 0)), (2, .ref (hm 0)), (3, .ref ho), (4, .int i)]) C.1.1 C.1.2.1 dl_727 hl (by decide) rfl (fun ls hl => ?_)
  refine lv_aload_n C.1.1 C.1.2.1 dl_729 rfl (lv_at hl 3 rfl) ?_
  refine lv_aload_n C.1.1 C.1.2.1 dl_730 rfl (lv_at hl 1 rfl) ?_
  refine lv_iload C.1.1 C.1.2.1 dl_731 (lv_at hl 5 rfl) ?_
  refine lv_iconst (v := 1) C.1.1 C.1.2.1 dl_733 (by decide) ?_
  refine lv_iadd C.1.1 C.1.2.1 dl_734 ?_
  refine va_sld C.1.1 C.1.2.1 hX hbl hbA hS i1 dl_735 ?_
  refine lm_goR (h := h) (hm := hm) (As := [.int (xs (i + 1).toNatClampNeg)]) (rest := []) C (c_fm41 xL_ok) (cwV 1 C.1.2.2.2.2 (kk_gV kw_993 kw_994 kw_995 kw_9 kw_996) rfl rfl rfl (by decide +kernel) ⟨Nat.le_of_ble_eq_true rfl, Nat.le_of_ble_eq_true rfl⟩) gI_FM (List.forall_mem_cons.mpr ⟨⟨by decide, by decide⟩, List.forall_mem_cons.mpr ⟨⟨by decide, by decide⟩, List.forall_mem_cons.mpr ⟨⟨by decide, by decide⟩, List.forall_mem_cons.mpr ⟨⟨by decide, by decide⟩, fun _ h => absurd h List.not_mem_nil⟩⟩⟩⟩) (⟨Or.inr ⟨0, List.mem_cons_self, rfl⟩, ⟨⟨_, rfl, hc0⟩, trivial⟩⟩) hP hD hS rfl hl.1 rfl (Nat.le_of_ble_eq_true rfl) dl_736 hf (fun r f2 g2 H2 locs2 hq2 hJ2 hP hD hS => ?_)
  obtain ⟨o2, ho2, hr2, hT2⟩ := hq2
  have h8 := List.all_eq_true.mp (show q_fm41.2.all (fun o => ck_isN 0 o && ck_val 0 0 o) = true by decide) o2 ho2
  simp only [Bool.and_eq_true] at h8
  obtain ⟨x2, rfl, hx2⟩ := ck_isN_ok h8.1 hr2
  show W p l e room_1 s m args below meth c H2 locs2 (cells + 1) (slots + 6) Q (F0 m 739 ls [.int x2])
  have hc9 := ck_val_ok h8.2 hT2
  refine lv_istore (lv' := [(6, .int x2), (5, .int (Int32.ofNat 0)), (0, .ref b), (1, .ref (h 0)), (2, .ref (hm 0)), (3, .ref ho), (4, .int i)]) C.1.1 C.1.2.1 dl_739 hl (by decide) rfl (fun ls hl => ?_)
  refine lv_aload_n C.1.1 C.1.2.1 dl_741 rfl (lv_at hl 4 rfl) ?_
  refine lm_goR (h := h) (hm := hm) (As := []) (rest := []) C (c_fm0 xL_ok) (cwV 0 C.1.2.2.2.2 (kk_gV kw_853 kw_854 kw_855 kw_9 kw_856) rfl rfl rfl (by decide +kernel) ⟨Nat.le_of_ble_eq_true rfl, Nat.le_of_ble_eq_true rfl⟩) hJ2 (List.forall_mem_cons.mpr ⟨⟨by show (0 : Int) ≤ (f2 0).toInt; omega, by show (f2 0).toInt ≤ (0 : Int); omega⟩, List.forall_mem_cons.mpr ⟨ck_in_top _, List.forall_mem_cons.mpr ⟨ck_in_top _, List.forall_mem_cons.mpr ⟨ck_in_top _, fun _ h => absurd h List.not_mem_nil⟩⟩⟩⟩) ⟨Or.inr ⟨0, List.mem_cons_self, rfl⟩, trivial⟩ hP hD hS rfl hl.1 rfl (Nat.le_of_ble_eq_true rfl) dl_742 hf (fun r f3 g3 H3 locs3 hq3 hJ3 hP hD hS => ?_)
  obtain ⟨o3, ho3, hr3, hT3⟩ := hq3
  obtain ⟨x3, rfl, hx3⟩ := ck_isN_ok (List.all_eq_true.mp (show q_fm0.2.all (ck_isN 0) = true by decide) o3 ho3) hr3
  show W p l e room_1 s m args below meth c H3 locs3 (cells + 1) (slots + 6) Q (F0 m 745 ls [.int x3])
  refine lv_iload C.1.1 C.1.2.1 dl_745 (lv_at hl 1 rfl) ?_
  refine lv_icmp_eq (tgt := 752) C.1.1 C.1.2.1 dl_747 (by decide) (fun _ => ?_) (fun hne => absurd (Int32.toInt_inj.mp (by rw [hx3]; rfl)) hne)
  refine lv_iload C.1.1 C.1.2.1 dl_752 (lv_at hl 1 rfl) ?_
  refine lv_if_ne (tgt := 769) C.1.1 C.1.2.1 dl_754 (by decide) (fun hne => absurd rfl hne) (fun _ => ?_)
  refine lv_aload_n C.1.1 C.1.2.1 dl_757 rfl (lv_at hl 5 rfl) ?_
  refine lv_iconst (v := 0) C.1.1 C.1.2.1 dl_758 (by decide) ?_
  refine va_lald C.1.1 C.1.2.1 C.2.2.2.1 hP 0 2 rfl rfl (vp_in_iff.mpr (by decide)) dl_759 ?_
  refine lv_iload C.1.1 C.1.2.1 dl_760 (lv_at hl 0 rfl) ?_
  refine lv_i2l (v := x2.toInt64) C.1.1 C.1.2.1 dl_762 rfl ?_
  have e9 : (g1 200 (0 : Int32).toNatClampNeg) = x2 := Int32.toInt_inj.mp ((hv rfl).trans hx2.symm)
  refine W.lcmp C.1.1 C.1.2.1 dl_763 ?_
  refine lv_if_eq (tgt := 769) C.1.1 C.1.2.1 dl_764 (by decide) (fun _ => ?_) (fun hne => absurd (by rw [e9]; exact lw_lcmp _) hne)
  refine lv_goto (tgt := 840) C.1.1 C.1.2.1 dl_769 (by decide) ?_
  exact kk H3 locs3 _ hS (lv_sub hl [2, 3, 4, 5, 6] rfl)
theorem lo_17_fa61 {p : Program} {l : Launch} {e : Env} {s : State} {m : MethodId} {args : Array Value} {below : List Frame} {meth : Method} {c : Code} {H : Heap} {locs : List Loc} {cells slots : Nat} {Q : State → Prop} {D : va_G} {B : Nat} {A : Nat → Prop} {h hm : Nat → Nat} {cI cZ cJ : ClassId} {ho : Nat} {ls : Array Slot} {b L : Nat} {xs : Nat → Int32} {i : Int32} {cx : Cond} (hfl : l.flags = flags0) (C : zz_Cx p m meth c code 7 ret s args (cx :: kk_W) "NightCyclerLaw" D vN (tyN cI cZ cJ) A B (xL B h)) (hX : va_X b L xs s s.heap) (hbl : b < s.heap.size) (hbA : ¬ A b) (i1 : vp_in (i + 1) L) (i2 : vp_in (i + 2) L) (hP : va_P D vN (wW cI cZ cJ ho h hm fN0 gN0 fM0 gM0) H) (hD : va_D A (wW cI cZ cJ ho h hm fN0 gN0 fM0 gM0)) (hS : va_S A s.heap H locs) (hl : lv_has ls 7 [(0, .ref b), (1, .ref (h 0)), (2, .ref (hm 0)), (3, .ref ho), (4, .int i)]) (hf : cells + 1 ≤ room_1.cells ∧ slots + 6 ≤ room_1.slots) (hc0 : (5 : Int) ≤ (xs (i + 1).toNatClampNeg).toInt ∧ (xs (i + 1).toNatClampNeg).toInt ≤ (5 : Int)) (kk : ∀ (H1 : Heap) (locs1 : List Loc) (ls1 : Array Slot), va_S A s.heap H1 locs1 → lv_has ls1 7 [(0, .ref b), (1, .ref (h 0)), (2, .ref (hm 0)), (3, .ref ho), (4, .int i)] → W p l e room_1 s m args below meth c H1 locs1 (cells + 1) (slots + 6) Q (F0 m 840 ls1 [])) : W p l e room_1 s m args below meth c H locs cells slots Q (F0 m 716 ls []) := by
  refine lv_aload_n C.1.1 C.1.2.1 dl_716 rfl (lv_at hl 1 rfl) ?_
  refine lv_aload_n C.1.1 C.1.2.1 dl_717 rfl (lv_at hl 0 rfl) ?_
  refine lv_iload C.1.1 C.1.2.1 dl_718 (lv_at hl 4 rfl) ?_
  refine lv_iconst (v := 1) C.1.1 C.1.2.1 dl_720 (by decide) ?_
  refine lv_iadd C.1.1 C.1.2.1 dl_721 ?_
  refine va_sld C.1.1 C.1.2.1 hX hbl hbA hS i1 dl_722 ?_
  refine lv_aload_n C.1.1 C.1.2.1 dl_723 rfl (lv_at hl 3 rfl) ?_
  refine lw_goO (n := 3) C (ww_state (post := ck_poF fbFA gbFA h fN0 q_fa61.2) (px := ck_pxF fbFA gbFA fN0 q_fa61.2) (fun sz => x_fa61 hfl fN0 gN0 sz [.ref (h 0), .int (xs (i + 1).toNatClampNeg)] gI_A (List.forall_mem_cons.mpr ⟨⟨by decide, by decide⟩, List.forall_mem_cons.mpr ⟨⟨by decide, by decide⟩, List.forall_mem_cons.mpr ⟨⟨by decide, by decide⟩, fun _ h => absurd h List.not_mem_nil⟩⟩⟩) (⟨Or.inr ⟨0, List.mem_cons_self, rfl⟩, ⟨⟨_, rfl, hc0⟩, trivial⟩⟩)) ⟨rfl, rfl, by decide, by decide⟩ (ck_noVF (by decide)) (ck_ex1F (by decide))) kw_692 kw_693 kw_0 kw_694 (by decide +kernel) rfl rfl ⟨Nat.le_of_ble_eq_true rfl, Nat.le_of_ble_eq_true rfl⟩ hP hD hS rfl hl.1 rfl dl_724 hf (fun r f1 g1 H1 locs1 hq hP hD hS => ?_)
  obtain ⟨rfl, hv⟩ := ck_anO1 (n := 0) (v := 0) (show q_fa61.2.all (ck_an "java/lang/IllegalArgumentException" "" 0 0) = true by decide) (by decide) hq
  show W p l e room_1 s m args below meth c H1 locs1 (cells + 1) (slots + 6) Q (F0 m 727 ls [.int (Int32.ofNat 0)])
  refine lv_istore (lv' := [(5, .int (Int32.ofNat 0)), (0, .ref b), (1, .ref (h 0)), (2, .ref (hm 0)), (3, .ref ho), (4, .int i)]) C.1.1 C.1.2.1 dl_727 hl (by decide) rfl (fun ls hl => ?_)
  refine lv_aload_n C.1.1 C.1.2.1 dl_729 rfl (lv_at hl 3 rfl) ?_
  refine lv_aload_n C.1.1 C.1.2.1 dl_730 rfl (lv_at hl 1 rfl) ?_
  refine lv_iload C.1.1 C.1.2.1 dl_731 (lv_at hl 5 rfl) ?_
  refine lv_iconst (v := 1) C.1.1 C.1.2.1 dl_733 (by decide) ?_
  refine lv_iadd C.1.1 C.1.2.1 dl_734 ?_
  refine va_sld C.1.1 C.1.2.1 hX hbl hbA hS i1 dl_735 ?_
  refine lm_goR (h := h) (hm := hm) (As := [.int (xs (i + 1).toNatClampNeg)]) (rest := []) C (c_fm42 xL_ok) (cwV 1 C.1.2.2.2.2 (kk_gV kw_993 kw_994 kw_995 kw_9 kw_996) rfl rfl rfl (by decide +kernel) ⟨Nat.le_of_ble_eq_true rfl, Nat.le_of_ble_eq_true rfl⟩) gI_FM (List.forall_mem_cons.mpr ⟨⟨by decide, by decide⟩, List.forall_mem_cons.mpr ⟨⟨by decide, by decide⟩, List.forall_mem_cons.mpr ⟨⟨by decide, by decide⟩, List.forall_mem_cons.mpr ⟨⟨by decide, by decide⟩, fun _ h => absurd h List.not_mem_nil⟩⟩⟩⟩) (⟨Or.inr ⟨0, List.mem_cons_self, rfl⟩, ⟨⟨_, rfl, hc0⟩, trivial⟩⟩) hP hD hS rfl hl.1 rfl (Nat.le_of_ble_eq_true rfl) dl_736 hf (fun r f2 g2 H2 locs2 hq2 hJ2 hP hD hS => ?_)
  obtain ⟨o2, ho2, hr2, hT2⟩ := hq2
  have h8 := List.all_eq_true.mp (show q_fm42.2.all (fun o => ck_isN 0 o && ck_val 0 0 o) = true by decide) o2 ho2
  simp only [Bool.and_eq_true] at h8
  obtain ⟨x2, rfl, hx2⟩ := ck_isN_ok h8.1 hr2
  show W p l e room_1 s m args below meth c H2 locs2 (cells + 1) (slots + 6) Q (F0 m 739 ls [.int x2])
  have hc9 := ck_val_ok h8.2 hT2
  refine lv_istore (lv' := [(6, .int x2), (5, .int (Int32.ofNat 0)), (0, .ref b), (1, .ref (h 0)), (2, .ref (hm 0)), (3, .ref ho), (4, .int i)]) C.1.1 C.1.2.1 dl_739 hl (by decide) rfl (fun ls hl => ?_)
  refine lv_aload_n C.1.1 C.1.2.1 dl_741 rfl (lv_at hl 4 rfl) ?_
  refine lm_goR (h := h) (hm := hm) (As := []) (rest := []) C (c_fm0 xL_ok) (cwV 0 C.1.2.2.2.2 (kk_gV kw_853 kw_854 kw_855 kw_9 kw_856) rfl rfl rfl (by decide +kernel) ⟨Nat.le_of_ble_eq_true rfl, Nat.le_of_ble_eq_true rfl⟩) hJ2 (List.forall_mem_cons.mpr ⟨⟨by show (0 : Int) ≤ (f2 0).toInt; omega, by show (f2 0).toInt ≤ (0 : Int); omega⟩, List.forall_mem_cons.mpr ⟨ck_in_top _, List.forall_mem_cons.mpr ⟨ck_in_top _, List.forall_mem_cons.mpr ⟨ck_in_top _, fun _ h => absurd h List.not_mem_nil⟩⟩⟩⟩) ⟨Or.inr ⟨0, List.mem_cons_self, rfl⟩, trivial⟩ hP hD hS rfl hl.1 rfl (Nat.le_of_ble_eq_true rfl) dl_742 hf (fun r f3 g3 H3 locs3 hq3 hJ3 hP hD hS => ?_)
  obtain ⟨o3, ho3, hr3, hT3⟩ := hq3
  obtain ⟨x3, rfl, hx3⟩ := ck_isN_ok (List.all_eq_true.mp (show q_fm0.2.all (ck_isN 0) = true by decide) o3 ho3) hr3
  show W p l e room_1 s m args below meth c H3 locs3 (cells + 1) (slots + 6) Q (F0 m 745 ls [.int x3])
  refine lv_iload C.1.1 C.1.2.1 dl_745 (lv_at hl 1 rfl) ?_
  refine lv_icmp_eq (tgt := 752) C.1.1 C.1.2.1 dl_747 (by decide) (fun _ => ?_) (fun hne => absurd (Int32.toInt_inj.mp (by rw [hx3]; rfl)) hne)
  refine lv_iload C.1.1 C.1.2.1 dl_752 (lv_at hl 1 rfl) ?_
  refine lv_if_ne (tgt := 769) C.1.1 C.1.2.1 dl_754 (by decide) (fun hne => absurd rfl hne) (fun _ => ?_)
  refine lv_aload_n C.1.1 C.1.2.1 dl_757 rfl (lv_at hl 5 rfl) ?_
  refine lv_iconst (v := 0) C.1.1 C.1.2.1 dl_758 (by decide) ?_
  refine va_lald C.1.1 C.1.2.1 C.2.2.2.1 hP 0 2 rfl rfl (vp_in_iff.mpr (by decide)) dl_759 ?_
  refine lv_iload C.1.1 C.1.2.1 dl_760 (lv_at hl 0 rfl) ?_
  refine lv_i2l (v := x2.toInt64) C.1.1 C.1.2.1 dl_762 rfl ?_
  have e9 : (g1 200 (0 : Int32).toNatClampNeg) = x2 := Int32.toInt_inj.mp ((hv rfl).trans hx2.symm)
  refine W.lcmp C.1.1 C.1.2.1 dl_763 ?_
  refine lv_if_eq (tgt := 769) C.1.1 C.1.2.1 dl_764 (by decide) (fun _ => ?_) (fun hne => absurd (by rw [e9]; exact lw_lcmp _) hne)
  refine lv_goto (tgt := 840) C.1.1 C.1.2.1 dl_769 (by decide) ?_
  exact kk H3 locs3 _ hS (lv_sub hl [2, 3, 4, 5, 6] rfl)
theorem lo_17_fa62 {p : Program} {l : Launch} {e : Env} {s : State} {m : MethodId} {args : Array Value} {below : List Frame} {meth : Method} {c : Code} {H : Heap} {locs : List Loc} {cells slots : Nat} {Q : State → Prop} {D : va_G} {B : Nat} {A : Nat → Prop} {h hm : Nat → Nat} {cI cZ cJ : ClassId} {ho : Nat} {ls : Array Slot} {b L : Nat} {xs : Nat → Int32} {i : Int32} {cx : Cond} (hfl : l.flags = flags0) (C : zz_Cx p m meth c code 7 ret s args (cx :: kk_W) "NightCyclerLaw" D vN (tyN cI cZ cJ) A B (xL B h)) (hX : va_X b L xs s s.heap) (hbl : b < s.heap.size) (hbA : ¬ A b) (i1 : vp_in (i + 1) L) (i2 : vp_in (i + 2) L) (hP : va_P D vN (wW cI cZ cJ ho h hm fN0 gN0 fM0 gM0) H) (hD : va_D A (wW cI cZ cJ ho h hm fN0 gN0 fM0 gM0)) (hS : va_S A s.heap H locs) (hl : lv_has ls 7 [(0, .ref b), (1, .ref (h 0)), (2, .ref (hm 0)), (3, .ref ho), (4, .int i)]) (hf : cells + 1 ≤ room_1.cells ∧ slots + 6 ≤ room_1.slots) (hc0 : (6 : Int) ≤ (xs (i + 1).toNatClampNeg).toInt ∧ (xs (i + 1).toNatClampNeg).toInt ≤ (6 : Int)) (kk : ∀ (H1 : Heap) (locs1 : List Loc) (ls1 : Array Slot), va_S A s.heap H1 locs1 → lv_has ls1 7 [(0, .ref b), (1, .ref (h 0)), (2, .ref (hm 0)), (3, .ref ho), (4, .int i)] → W p l e room_1 s m args below meth c H1 locs1 (cells + 1) (slots + 6) Q (F0 m 840 ls1 [])) : W p l e room_1 s m args below meth c H locs cells slots Q (F0 m 716 ls []) := by
  refine lv_aload_n C.1.1 C.1.2.1 dl_716 rfl (lv_at hl 1 rfl) ?_
  refine lv_aload_n C.1.1 C.1.2.1 dl_717 rfl (lv_at hl 0 rfl) ?_
  refine lv_iload C.1.1 C.1.2.1 dl_718 (lv_at hl 4 rfl) ?_
  refine lv_iconst (v := 1) C.1.1 C.1.2.1 dl_720 (by decide) ?_
  refine lv_iadd C.1.1 C.1.2.1 dl_721 ?_
  refine va_sld C.1.1 C.1.2.1 hX hbl hbA hS i1 dl_722 ?_
  refine lv_aload_n C.1.1 C.1.2.1 dl_723 rfl (lv_at hl 3 rfl) ?_
  refine lw_goO (n := 3) C (ww_state (post := ck_poF fbFA gbFA h fN0 q_fa62.2) (px := ck_pxF fbFA gbFA fN0 q_fa62.2) (fun sz => x_fa62 hfl fN0 gN0 sz [.ref (h 0), .int (xs (i + 1).toNatClampNeg)] gI_A (List.forall_mem_cons.mpr ⟨⟨by decide, by decide⟩, List.forall_mem_cons.mpr ⟨⟨by decide, by decide⟩, List.forall_mem_cons.mpr ⟨⟨by decide, by decide⟩, fun _ h => absurd h List.not_mem_nil⟩⟩⟩) (⟨Or.inr ⟨0, List.mem_cons_self, rfl⟩, ⟨⟨_, rfl, hc0⟩, trivial⟩⟩)) ⟨rfl, rfl, by decide, by decide⟩ (ck_noVF (by decide)) (ck_ex1F (by decide))) kw_692 kw_693 kw_0 kw_694 (by decide +kernel) rfl rfl ⟨Nat.le_of_ble_eq_true rfl, Nat.le_of_ble_eq_true rfl⟩ hP hD hS rfl hl.1 rfl dl_724 hf (fun r f1 g1 H1 locs1 hq hP hD hS => ?_)
  obtain ⟨rfl, hv⟩ := ck_anO1 (n := 0) (v := 0) (show q_fa62.2.all (ck_an "java/lang/IllegalArgumentException" "" 0 0) = true by decide) (by decide) hq
  show W p l e room_1 s m args below meth c H1 locs1 (cells + 1) (slots + 6) Q (F0 m 727 ls [.int (Int32.ofNat 0)])
  refine lv_istore (lv' := [(5, .int (Int32.ofNat 0)), (0, .ref b), (1, .ref (h 0)), (2, .ref (hm 0)), (3, .ref ho), (4, .int i)]) C.1.1 C.1.2.1 dl_727 hl (by decide) rfl (fun ls hl => ?_)
  refine lv_aload_n C.1.1 C.1.2.1 dl_729 rfl (lv_at hl 3 rfl) ?_
  refine lv_aload_n C.1.1 C.1.2.1 dl_730 rfl (lv_at hl 1 rfl) ?_
  refine lv_iload C.1.1 C.1.2.1 dl_731 (lv_at hl 5 rfl) ?_
  refine lv_iconst (v := 1) C.1.1 C.1.2.1 dl_733 (by decide) ?_
  refine lv_iadd C.1.1 C.1.2.1 dl_734 ?_
  refine va_sld C.1.1 C.1.2.1 hX hbl hbA hS i1 dl_735 ?_
  refine lm_goR (h := h) (hm := hm) (As := [.int (xs (i + 1).toNatClampNeg)]) (rest := []) C (c_fm43 xL_ok) (cwV 1 C.1.2.2.2.2 (kk_gV kw_993 kw_994 kw_995 kw_9 kw_996) rfl rfl rfl (by decide +kernel) ⟨Nat.le_of_ble_eq_true rfl, Nat.le_of_ble_eq_true rfl⟩) gI_FM (List.forall_mem_cons.mpr ⟨⟨by decide, by decide⟩, List.forall_mem_cons.mpr ⟨⟨by decide, by decide⟩, List.forall_mem_cons.mpr ⟨⟨by decide, by decide⟩, List.forall_mem_cons.mpr ⟨⟨by decide, by decide⟩, fun _ h => absurd h List.not_mem_nil⟩⟩⟩⟩) (⟨Or.inr ⟨0, List.mem_cons_self, rfl⟩, ⟨⟨_, rfl, hc0⟩, trivial⟩⟩) hP hD hS rfl hl.1 rfl (Nat.le_of_ble_eq_true rfl) dl_736 hf (fun r f2 g2 H2 locs2 hq2 hJ2 hP hD hS => ?_)
  obtain ⟨o2, ho2, hr2, hT2⟩ := hq2
  have h8 := List.all_eq_true.mp (show q_fm43.2.all (fun o => ck_isN 0 o && ck_val 0 0 o) = true by decide) o2 ho2
  simp only [Bool.and_eq_true] at h8
  obtain ⟨x2, rfl, hx2⟩ := ck_isN_ok h8.1 hr2
  show W p l e room_1 s m args below meth c H2 locs2 (cells + 1) (slots + 6) Q (F0 m 739 ls [.int x2])
  have hc9 := ck_val_ok h8.2 hT2
  refine lv_istore (lv' := [(6, .int x2), (5, .int (Int32.ofNat 0)), (0, .ref b), (1, .ref (h 0)), (2, .ref (hm 0)), (3, .ref ho), (4, .int i)]) C.1.1 C.1.2.1 dl_739 hl (by decide) rfl (fun ls hl => ?_)
  refine lv_aload_n C.1.1 C.1.2.1 dl_741 rfl (lv_at hl 4 rfl) ?_
  refine lm_goR (h := h) (hm := hm) (As := []) (rest := []) C (c_fm0 xL_ok) (cwV 0 C.1.2.2.2.2 (kk_gV kw_853 kw_854 kw_855 kw_9 kw_856) rfl rfl rfl (by decide +kernel) ⟨Nat.le_of_ble_eq_true rfl, Nat.le_of_ble_eq_true rfl⟩) hJ2 (List.forall_mem_cons.mpr ⟨⟨by show (0 : Int) ≤ (f2 0).toInt; omega, by show (f2 0).toInt ≤ (0 : Int); omega⟩, List.forall_mem_cons.mpr ⟨ck_in_top _, List.forall_mem_cons.mpr ⟨ck_in_top _, List.forall_mem_cons.mpr ⟨ck_in_top _, fun _ h => absurd h List.not_mem_nil⟩⟩⟩⟩) ⟨Or.inr ⟨0, List.mem_cons_self, rfl⟩, trivial⟩ hP hD hS rfl hl.1 rfl (Nat.le_of_ble_eq_true rfl) dl_742 hf (fun r f3 g3 H3 locs3 hq3 hJ3 hP hD hS => ?_)
  obtain ⟨o3, ho3, hr3, hT3⟩ := hq3
  obtain ⟨x3, rfl, hx3⟩ := ck_isN_ok (List.all_eq_true.mp (show q_fm0.2.all (ck_isN 0) = true by decide) o3 ho3) hr3
  show W p l e room_1 s m args below meth c H3 locs3 (cells + 1) (slots + 6) Q (F0 m 745 ls [.int x3])
  refine lv_iload C.1.1 C.1.2.1 dl_745 (lv_at hl 1 rfl) ?_
  refine lv_icmp_eq (tgt := 752) C.1.1 C.1.2.1 dl_747 (by decide) (fun _ => ?_) (fun hne => absurd (Int32.toInt_inj.mp (by rw [hx3]; rfl)) hne)
  refine lv_iload C.1.1 C.1.2.1 dl_752 (lv_at hl 1 rfl) ?_
  refine lv_if_ne (tgt := 769) C.1.1 C.1.2.1 dl_754 (by decide) (fun hne => absurd rfl hne) (fun _ => ?_)
  refine lv_aload_n C.1.1 C.1.2.1 dl_757 rfl (lv_at hl 5 rfl) ?_
  refine lv_iconst (v := 0) C.1.1 C.1.2.1 dl_758 (by decide) ?_
  refine va_lald C.1.1 C.1.2.1 C.2.2.2.1 hP 0 2 rfl rfl (vp_in_iff.mpr (by decide)) dl_759 ?_
  refine lv_iload C.1.1 C.1.2.1 dl_760 (lv_at hl 0 rfl) ?_
  refine lv_i2l (v := x2.toInt64) C.1.1 C.1.2.1 dl_762 rfl ?_
  have e9 : (g1 200 (0 : Int32).toNatClampNeg) = x2 := Int32.toInt_inj.mp ((hv rfl).trans hx2.symm)
  refine W.lcmp C.1.1 C.1.2.1 dl_763 ?_
  refine lv_if_eq (tgt := 769) C.1.1 C.1.2.1 dl_764 (by decide) (fun _ => ?_) (fun hne => absurd (by rw [e9]; exact lw_lcmp _) hne)
  refine lv_goto (tgt := 840) C.1.1 C.1.2.1 dl_769 (by decide) ?_
  exact kk H3 locs3 _ hS (lv_sub hl [2, 3, 4, 5, 6] rfl)
theorem lo_17_fa63 {p : Program} {l : Launch} {e : Env} {s : State} {m : MethodId} {args : Array Value} {below : List Frame} {meth : Method} {c : Code} {H : Heap} {locs : List Loc} {cells slots : Nat} {Q : State → Prop} {D : va_G} {B : Nat} {A : Nat → Prop} {h hm : Nat → Nat} {cI cZ cJ : ClassId} {ho : Nat} {ls : Array Slot} {b L : Nat} {xs : Nat → Int32} {i : Int32} {cx : Cond} (hfl : l.flags = flags0) (C : zz_Cx p m meth c code 7 ret s args (cx :: kk_W) "NightCyclerLaw" D vN (tyN cI cZ cJ) A B (xL B h)) (hX : va_X b L xs s s.heap) (hbl : b < s.heap.size) (hbA : ¬ A b) (i1 : vp_in (i + 1) L) (i2 : vp_in (i + 2) L) (hP : va_P D vN (wW cI cZ cJ ho h hm fN0 gN0 fM0 gM0) H) (hD : va_D A (wW cI cZ cJ ho h hm fN0 gN0 fM0 gM0)) (hS : va_S A s.heap H locs) (hl : lv_has ls 7 [(0, .ref b), (1, .ref (h 0)), (2, .ref (hm 0)), (3, .ref ho), (4, .int i)]) (hf : cells + 1 ≤ room_1.cells ∧ slots + 6 ≤ room_1.slots) (hc0 : (7 : Int) ≤ (xs (i + 1).toNatClampNeg).toInt ∧ (xs (i + 1).toNatClampNeg).toInt ≤ (7 : Int)) (kk : ∀ (H1 : Heap) (locs1 : List Loc) (ls1 : Array Slot), va_S A s.heap H1 locs1 → lv_has ls1 7 [(0, .ref b), (1, .ref (h 0)), (2, .ref (hm 0)), (3, .ref ho), (4, .int i)] → W p l e room_1 s m args below meth c H1 locs1 (cells + 1) (slots + 6) Q (F0 m 840 ls1 [])) : W p l e room_1 s m args below meth c H locs cells slots Q (F0 m 716 ls []) := by
  refine lv_aload_n C.1.1 C.1.2.1 dl_716 rfl (lv_at hl 1 rfl) ?_
  refine lv_aload_n C.1.1 C.1.2.1 dl_717 rfl (lv_at hl 0 rfl) ?_
  refine lv_iload C.1.1 C.1.2.1 dl_718 (lv_at hl 4 rfl) ?_
  refine lv_iconst (v := 1) C.1.1 C.1.2.1 dl_720 (by decide) ?_
  refine lv_iadd C.1.1 C.1.2.1 dl_721 ?_
  refine va_sld C.1.1 C.1.2.1 hX hbl hbA hS i1 dl_722 ?_
  refine lv_aload_n C.1.1 C.1.2.1 dl_723 rfl (lv_at hl 3 rfl) ?_
  refine lw_goO (n := 3) C (ww_state (post := ck_poF fbFA gbFA h fN0 q_fa63.2) (px := ck_pxF fbFA gbFA fN0 q_fa63.2) (fun sz => x_fa63 hfl fN0 gN0 sz [.ref (h 0), .int (xs (i + 1).toNatClampNeg)] gI_A (List.forall_mem_cons.mpr ⟨⟨by decide, by decide⟩, List.forall_mem_cons.mpr ⟨⟨by decide, by decide⟩, List.forall_mem_cons.mpr ⟨⟨by decide, by decide⟩, fun _ h => absurd h List.not_mem_nil⟩⟩⟩) (⟨Or.inr ⟨0, List.mem_cons_self, rfl⟩, ⟨⟨_, rfl, hc0⟩, trivial⟩⟩)) ⟨rfl, rfl, by decide, by decide⟩ (ck_noVF (by decide)) (ck_ex1F (by decide))) kw_692 kw_693 kw_0 kw_694 (by decide +kernel) rfl rfl ⟨Nat.le_of_ble_eq_true rfl, Nat.le_of_ble_eq_true rfl⟩ hP hD hS rfl hl.1 rfl dl_724 hf (fun r f1 g1 H1 locs1 hq hP hD hS => ?_)
  obtain ⟨rfl, hv⟩ := ck_anO1 (n := 0) (v := 0) (show q_fa63.2.all (ck_an "java/lang/IllegalArgumentException" "" 0 0) = true by decide) (by decide) hq
  show W p l e room_1 s m args below meth c H1 locs1 (cells + 1) (slots + 6) Q (F0 m 727 ls [.int (Int32.ofNat 0)])
  refine lv_istore (lv' := [(5, .int (Int32.ofNat 0)), (0, .ref b), (1, .ref (h 0)), (2, .ref (hm 0)), (3, .ref ho), (4, .int i)]) C.1.1 C.1.2.1 dl_727 hl (by decide) rfl (fun ls hl => ?_)
  refine lv_aload_n C.1.1 C.1.2.1 dl_729 rfl (lv_at hl 3 rfl) ?_
  refine lv_aload_n C.1.1 C.1.2.1 dl_730 rfl (lv_at hl 1 rfl) ?_
  refine lv_iload C.1.1 C.1.2.1 dl_731 (lv_at hl 5 rfl) ?_
  refine lv_iconst (v := 1) C.1.1 C.1.2.1 dl_733 (by decide) ?_
  refine lv_iadd C.1.1 C.1.2.1 dl_734 ?_
  refine va_sld C.1.1 C.1.2.1 hX hbl hbA hS i1 dl_735 ?_
  refine lm_goR (h := h) (hm := hm) (As := [.int (xs (i + 1).toNatClampNeg)]) (rest := []) C (c_fm44 xL_ok) (cwV 1 C.1.2.2.2.2 (kk_gV kw_993 kw_994 kw_995 kw_9 kw_996) rfl rfl rfl (by decide +kernel) ⟨Nat.le_of_ble_eq_true rfl, Nat.le_of_ble_eq_true rfl⟩) gI_FM (List.forall_mem_cons.mpr ⟨⟨by decide, by decide⟩, List.forall_mem_cons.mpr ⟨⟨by decide, by decide⟩, List.forall_mem_cons.mpr ⟨⟨by decide, by decide⟩, List.forall_mem_cons.mpr ⟨⟨by decide, by decide⟩, fun _ h => absurd h List.not_mem_nil⟩⟩⟩⟩) (⟨Or.inr ⟨0, List.mem_cons_self, rfl⟩, ⟨⟨_, rfl, hc0⟩, trivial⟩⟩) hP hD hS rfl hl.1 rfl (Nat.le_of_ble_eq_true rfl) dl_736 hf (fun r f2 g2 H2 locs2 hq2 hJ2 hP hD hS => ?_)
  obtain ⟨o2, ho2, hr2, hT2⟩ := hq2
  have h8 := List.all_eq_true.mp (show q_fm44.2.all (fun o => ck_isN 0 o && ck_val 0 0 o) = true by decide) o2 ho2
  simp only [Bool.and_eq_true] at h8
  obtain ⟨x2, rfl, hx2⟩ := ck_isN_ok h8.1 hr2
  show W p l e room_1 s m args below meth c H2 locs2 (cells + 1) (slots + 6) Q (F0 m 739 ls [.int x2])
  have hc9 := ck_val_ok h8.2 hT2
  refine lv_istore (lv' := [(6, .int x2), (5, .int (Int32.ofNat 0)), (0, .ref b), (1, .ref (h 0)), (2, .ref (hm 0)), (3, .ref ho), (4, .int i)]) C.1.1 C.1.2.1 dl_739 hl (by decide) rfl (fun ls hl => ?_)
  refine lv_aload_n C.1.1 C.1.2.1 dl_741 rfl (lv_at hl 4 rfl) ?_
  refine lm_goR (h := h) (hm := hm) (As := []) (rest := []) C (c_fm0 xL_ok) (cwV 0 C.1.2.2.2.2 (kk_gV kw_853 kw_854 kw_855 kw_9 kw_856) rfl rfl rfl (by decide +kernel) ⟨Nat.le_of_ble_eq_true rfl, Nat.le_of_ble_eq_true rfl⟩) hJ2 (List.forall_mem_cons.mpr ⟨⟨by show (0 : Int) ≤ (f2 0).toInt; omega, by show (f2 0).toInt ≤ (0 : Int); omega⟩, List.forall_mem_cons.mpr ⟨ck_in_top _, List.forall_mem_cons.mpr ⟨ck_in_top _, List.forall_mem_cons.mpr ⟨ck_in_top _, fun _ h => absurd h List.not_mem_nil⟩⟩⟩⟩) ⟨Or.inr ⟨0, List.mem_cons_self, rfl⟩, trivial⟩ hP hD hS rfl hl.1 rfl (Nat.le_of_ble_eq_true rfl) dl_742 hf (fun r f3 g3 H3 locs3 hq3 hJ3 hP hD hS => ?_)
  obtain ⟨o3, ho3, hr3, hT3⟩ := hq3
  obtain ⟨x3, rfl, hx3⟩ := ck_isN_ok (List.all_eq_true.mp (show q_fm0.2.all (ck_isN 0) = true by decide) o3 ho3) hr3
  show W p l e room_1 s m args below meth c H3 locs3 (cells + 1) (slots + 6) Q (F0 m 745 ls [.int x3])
  refine lv_iload C.1.1 C.1.2.1 dl_745 (lv_at hl 1 rfl) ?_
  refine lv_icmp_eq (tgt := 752) C.1.1 C.1.2.1 dl_747 (by decide) (fun _ => ?_) (fun hne => absurd (Int32.toInt_inj.mp (by rw [hx3]; rfl)) hne)
  refine lv_iload C.1.1 C.1.2.1 dl_752 (lv_at hl 1 rfl) ?_
  refine lv_if_ne (tgt := 769) C.1.1 C.1.2.1 dl_754 (by decide) (fun hne => absurd rfl hne) (fun _ => ?_)
  refine lv_aload_n C.1.1 C.1.2.1 dl_757 rfl (lv_at hl 5 rfl) ?_
  refine lv_iconst (v := 0) C.1.1 C.1.2.1 dl_758 (by decide) ?_
  refine va_lald C.1.1 C.1.2.1 C.2.2.2.1 hP 0 2 rfl rfl (vp_in_iff.mpr (by decide)) dl_759 ?_
  refine lv_iload C.1.1 C.1.2.1 dl_760 (lv_at hl 0 rfl) ?_
  refine lv_i2l (v := x2.toInt64) C.1.1 C.1.2.1 dl_762 rfl ?_
  have e9 : (g1 200 (0 : Int32).toNatClampNeg) = x2 := Int32.toInt_inj.mp ((hv rfl).trans hx2.symm)
  refine W.lcmp C.1.1 C.1.2.1 dl_763 ?_
  refine lv_if_eq (tgt := 769) C.1.1 C.1.2.1 dl_764 (by decide) (fun _ => ?_) (fun hne => absurd (by rw [e9]; exact lw_lcmp _) hne)
  refine lv_goto (tgt := 840) C.1.1 C.1.2.1 dl_769 (by decide) ?_
  exact kk H3 locs3 _ hS (lv_sub hl [2, 3, 4, 5, 6] rfl)
theorem lo_17_fa64 {p : Program} {l : Launch} {e : Env} {s : State} {m : MethodId} {args : Array Value} {below : List Frame} {meth : Method} {c : Code} {H : Heap} {locs : List Loc} {cells slots : Nat} {Q : State → Prop} {D : va_G} {B : Nat} {A : Nat → Prop} {h hm : Nat → Nat} {cI cZ cJ : ClassId} {ho : Nat} {ls : Array Slot} {b L : Nat} {xs : Nat → Int32} {i : Int32} {cx : Cond} (hfl : l.flags = flags0) (C : zz_Cx p m meth c code 7 ret s args (cx :: kk_W) "NightCyclerLaw" D vN (tyN cI cZ cJ) A B (xL B h)) (hX : va_X b L xs s s.heap) (hbl : b < s.heap.size) (hbA : ¬ A b) (i1 : vp_in (i + 1) L) (i2 : vp_in (i + 2) L) (hP : va_P D vN (wW cI cZ cJ ho h hm fN0 gN0 fM0 gM0) H) (hD : va_D A (wW cI cZ cJ ho h hm fN0 gN0 fM0 gM0)) (hS : va_S A s.heap H locs) (hl : lv_has ls 7 [(0, .ref b), (1, .ref (h 0)), (2, .ref (hm 0)), (3, .ref ho), (4, .int i)]) (hf : cells + 1 ≤ room_1.cells ∧ slots + 6 ≤ room_1.slots) (hc0 : (8 : Int) ≤ (xs (i + 1).toNatClampNeg).toInt ∧ (xs (i + 1).toNatClampNeg).toInt ≤ (8 : Int)) (kk : ∀ (H1 : Heap) (locs1 : List Loc) (ls1 : Array Slot), va_S A s.heap H1 locs1 → lv_has ls1 7 [(0, .ref b), (1, .ref (h 0)), (2, .ref (hm 0)), (3, .ref ho), (4, .int i)] → W p l e room_1 s m args below meth c H1 locs1 (cells + 1) (slots + 6) Q (F0 m 840 ls1 [])) : W p l e room_1 s m args below meth c H locs cells slots Q (F0 m 716 ls []) := by
  refine lv_aload_n C.1.1 C.1.2.1 dl_716 rfl (lv_at hl 1 rfl) ?_
  refine lv_aload_n C.1.1 C.1.2.1 dl_717 rfl (lv_at hl 0 rfl) ?_
  refine lv_iload C.1.1 C.1.2.1 dl_718 (lv_at hl 4 rfl) ?_
  refine lv_iconst (v := 1) C.1.1 C.1.2.1 dl_720 (by decide) ?_
  refine lv_iadd C.1.1 C.1.2.1 dl_721 ?_
  refine va_sld C.1.1 C.1.2.1 hX hbl hbA hS i1 dl_722 ?_
  refine lv_aload_n C.1.1 C.1.2.1 dl_723 rfl (lv_at hl 3 rfl) ?_
  refine lw_goO (n := 3) C (ww_state (post := ck_poF fbFA gbFA h fN0 q_fa64.2) (px := ck_pxF fbFA gbFA fN0 q_fa64.2) (fun sz => x_fa64 hfl fN0 gN0 sz [.ref (h 0), .int (xs (i + 1).toNatClampNeg)] gI_A (List.forall_mem_cons.mpr ⟨⟨by decide, by decide⟩, List.forall_mem_cons.mpr ⟨⟨by decide, by decide⟩, List.forall_mem_cons.mpr ⟨⟨by decide, by decide⟩, fun _ h => absurd h List.not_mem_nil⟩⟩⟩) (⟨Or.inr ⟨0, List.mem_cons_self, rfl⟩, ⟨⟨_, rfl, hc0⟩, trivial⟩⟩)) ⟨rfl, rfl, by decide, by decide⟩ (ck_noVF (by decide)) (ck_ex1F (by decide))) kw_692 kw_693 kw_0 kw_694 (by decide +kernel) rfl rfl ⟨Nat.le_of_ble_eq_true rfl, Nat.le_of_ble_eq_true rfl⟩ hP hD hS rfl hl.1 rfl dl_724 hf (fun r f1 g1 H1 locs1 hq hP hD hS => ?_)
  obtain ⟨rfl, hv⟩ := ck_anO1 (n := 0) (v := 0) (show q_fa64.2.all (ck_an "java/lang/IllegalArgumentException" "" 0 0) = true by decide) (by decide) hq
  show W p l e room_1 s m args below meth c H1 locs1 (cells + 1) (slots + 6) Q (F0 m 727 ls [.int (Int32.ofNat 0)])
  refine lv_istore (lv' := [(5, .int (Int32.ofNat 0)), (0, .ref b), (1, .ref (h 0)), (2, .ref (hm 0)), (3, .ref ho), (4, .int i)]) C.1.1 C.1.2.1 dl_727 hl (by decide) rfl (fun ls hl => ?_)
  refine lv_aload_n C.1.1 C.1.2.1 dl_729 rfl (lv_at hl 3 rfl) ?_
  refine lv_aload_n C.1.1 C.1.2.1 dl_730 rfl (lv_at hl 1 rfl) ?_
  refine lv_iload C.1.1 C.1.2.1 dl_731 (lv_at hl 5 rfl) ?_
  refine lv_iconst (v := 1) C.1.1 C.1.2.1 dl_733 (by decide) ?_
  refine lv_iadd C.1.1 C.1.2.1 dl_734 ?_
  refine va_sld C.1.1 C.1.2.1 hX hbl hbA hS i1 dl_735 ?_
  refine lm_goR (h := h) (hm := hm) (As := [.int (xs (i + 1).toNatClampNeg)]) (rest := []) C (c_fm45 xL_ok) (cwV 1 C.1.2.2.2.2 (kk_gV kw_993 kw_994 kw_995 kw_9 kw_996) rfl rfl rfl (by decide +kernel) ⟨Nat.le_of_ble_eq_true rfl, Nat.le_of_ble_eq_true rfl⟩) gI_FM (List.forall_mem_cons.mpr ⟨⟨by decide, by decide⟩, List.forall_mem_cons.mpr ⟨⟨by decide, by decide⟩, List.forall_mem_cons.mpr ⟨⟨by decide, by decide⟩, List.forall_mem_cons.mpr ⟨⟨by decide, by decide⟩, fun _ h => absurd h List.not_mem_nil⟩⟩⟩⟩) (⟨Or.inr ⟨0, List.mem_cons_self, rfl⟩, ⟨⟨_, rfl, hc0⟩, trivial⟩⟩) hP hD hS rfl hl.1 rfl (Nat.le_of_ble_eq_true rfl) dl_736 hf (fun r f2 g2 H2 locs2 hq2 hJ2 hP hD hS => ?_)
  obtain ⟨o2, ho2, hr2, hT2⟩ := hq2
  have h8 := List.all_eq_true.mp (show q_fm45.2.all (fun o => ck_isN 0 o && ck_val 0 0 o) = true by decide) o2 ho2
  simp only [Bool.and_eq_true] at h8
  obtain ⟨x2, rfl, hx2⟩ := ck_isN_ok h8.1 hr2
  show W p l e room_1 s m args below meth c H2 locs2 (cells + 1) (slots + 6) Q (F0 m 739 ls [.int x2])
  have hc9 := ck_val_ok h8.2 hT2
  refine lv_istore (lv' := [(6, .int x2), (5, .int (Int32.ofNat 0)), (0, .ref b), (1, .ref (h 0)), (2, .ref (hm 0)), (3, .ref ho), (4, .int i)]) C.1.1 C.1.2.1 dl_739 hl (by decide) rfl (fun ls hl => ?_)
  refine lv_aload_n C.1.1 C.1.2.1 dl_741 rfl (lv_at hl 4 rfl) ?_
  refine lm_goR (h := h) (hm := hm) (As := []) (rest := []) C (c_fm0 xL_ok) (cwV 0 C.1.2.2.2.2 (kk_gV kw_853 kw_854 kw_855 kw_9 kw_856) rfl rfl rfl (by decide +kernel) ⟨Nat.le_of_ble_eq_true rfl, Nat.le_of_ble_eq_true rfl⟩) hJ2 (List.forall_mem_cons.mpr ⟨⟨by show (0 : Int) ≤ (f2 0).toInt; omega, by show (f2 0).toInt ≤ (0 : Int); omega⟩, List.forall_mem_cons.mpr ⟨ck_in_top _, List.forall_mem_cons.mpr ⟨ck_in_top _, List.forall_mem_cons.mpr ⟨ck_in_top _, fun _ h => absurd h List.not_mem_nil⟩⟩⟩⟩) ⟨Or.inr ⟨0, List.mem_cons_self, rfl⟩, trivial⟩ hP hD hS rfl hl.1 rfl (Nat.le_of_ble_eq_true rfl) dl_742 hf (fun r f3 g3 H3 locs3 hq3 hJ3 hP hD hS => ?_)
  obtain ⟨o3, ho3, hr3, hT3⟩ := hq3
  obtain ⟨x3, rfl, hx3⟩ := ck_isN_ok (List.all_eq_true.mp (show q_fm0.2.all (ck_isN 0) = true by decide) o3 ho3) hr3
  show W p l e room_1 s m args below meth c H3 locs3 (cells + 1) (slots + 6) Q (F0 m 745 ls [.int x3])
  refine lv_iload C.1.1 C.1.2.1 dl_745 (lv_at hl 1 rfl) ?_
  refine lv_icmp_eq (tgt := 752) C.1.1 C.1.2.1 dl_747 (by decide) (fun _ => ?_) (fun hne => absurd (Int32.toInt_inj.mp (by rw [hx3]; rfl)) hne)
  refine lv_iload C.1.1 C.1.2.1 dl_752 (lv_at hl 1 rfl) ?_
  refine lv_if_ne (tgt := 769) C.1.1 C.1.2.1 dl_754 (by decide) (fun hne => absurd rfl hne) (fun _ => ?_)
  refine lv_aload_n C.1.1 C.1.2.1 dl_757 rfl (lv_at hl 5 rfl) ?_
  refine lv_iconst (v := 0) C.1.1 C.1.2.1 dl_758 (by decide) ?_
  refine va_lald C.1.1 C.1.2.1 C.2.2.2.1 hP 0 2 rfl rfl (vp_in_iff.mpr (by decide)) dl_759 ?_
  refine lv_iload C.1.1 C.1.2.1 dl_760 (lv_at hl 0 rfl) ?_
  refine lv_i2l (v := x2.toInt64) C.1.1 C.1.2.1 dl_762 rfl ?_
  have e9 : (g1 200 (0 : Int32).toNatClampNeg) = x2 := Int32.toInt_inj.mp ((hv rfl).trans hx2.symm)
  refine W.lcmp C.1.1 C.1.2.1 dl_763 ?_
  refine lv_if_eq (tgt := 769) C.1.1 C.1.2.1 dl_764 (by decide) (fun _ => ?_) (fun hne => absurd (by rw [e9]; exact lw_lcmp _) hne)
  refine lv_goto (tgt := 840) C.1.1 C.1.2.1 dl_769 (by decide) ?_
  exact kk H3 locs3 _ hS (lv_sub hl [2, 3, 4, 5, 6] rfl)
theorem lo_17_fa65 {p : Program} {l : Launch} {e : Env} {s : State} {m : MethodId} {args : Array Value} {below : List Frame} {meth : Method} {c : Code} {H : Heap} {locs : List Loc} {cells slots : Nat} {Q : State → Prop} {D : va_G} {B : Nat} {A : Nat → Prop} {h hm : Nat → Nat} {cI cZ cJ : ClassId} {ho : Nat} {ls : Array Slot} {b L : Nat} {xs : Nat → Int32} {i : Int32} {cx : Cond} (hfl : l.flags = flags0) (C : zz_Cx p m meth c code 7 ret s args (cx :: kk_W) "NightCyclerLaw" D vN (tyN cI cZ cJ) A B (xL B h)) (hX : va_X b L xs s s.heap) (hbl : b < s.heap.size) (hbA : ¬ A b) (i1 : vp_in (i + 1) L) (i2 : vp_in (i + 2) L) (hP : va_P D vN (wW cI cZ cJ ho h hm fN0 gN0 fM0 gM0) H) (hD : va_D A (wW cI cZ cJ ho h hm fN0 gN0 fM0 gM0)) (hS : va_S A s.heap H locs) (hl : lv_has ls 7 [(0, .ref b), (1, .ref (h 0)), (2, .ref (hm 0)), (3, .ref ho), (4, .int i)]) (hf : cells + 1 ≤ room_1.cells ∧ slots + 6 ≤ room_1.slots) (hc0 : (9 : Int) ≤ (xs (i + 1).toNatClampNeg).toInt ∧ (xs (i + 1).toNatClampNeg).toInt ≤ (2147483647 : Int)) (kk : ∀ (H1 : Heap) (locs1 : List Loc) (ls1 : Array Slot), va_S A s.heap H1 locs1 → lv_has ls1 7 [(0, .ref b), (1, .ref (h 0)), (2, .ref (hm 0)), (3, .ref ho), (4, .int i)] → W p l e room_1 s m args below meth c H1 locs1 (cells + 1) (slots + 6) Q (F0 m 840 ls1 [])) : W p l e room_1 s m args below meth c H locs cells slots Q (F0 m 716 ls []) := by
  refine lv_aload_n C.1.1 C.1.2.1 dl_716 rfl (lv_at hl 1 rfl) ?_
  refine lv_aload_n C.1.1 C.1.2.1 dl_717 rfl (lv_at hl 0 rfl) ?_
  refine lv_iload C.1.1 C.1.2.1 dl_718 (lv_at hl 4 rfl) ?_
  refine lv_iconst (v := 1) C.1.1 C.1.2.1 dl_720 (by decide) ?_
  refine lv_iadd C.1.1 C.1.2.1 dl_721 ?_
  refine va_sld C.1.1 C.1.2.1 hX hbl hbA hS i1 dl_722 ?_
  refine lv_aload_n C.1.1 C.1.2.1 dl_723 rfl (lv_at hl 3 rfl) ?_
  refine lw_goO (n := 3) C (ww_state (post := ck_poF fbFA gbFA h fN0 q_fa65.2) (px := ck_pxF fbFA gbFA fN0 q_fa65.2) (fun sz => x_fa65 hfl fN0 gN0 sz [.ref (h 0), .int (xs (i + 1).toNatClampNeg)] gI_A (List.forall_mem_cons.mpr ⟨⟨by decide, by decide⟩, List.forall_mem_cons.mpr ⟨⟨by decide, by decide⟩, List.forall_mem_cons.mpr ⟨⟨by decide, by decide⟩, fun _ h => absurd h List.not_mem_nil⟩⟩⟩) (⟨Or.inr ⟨0, List.mem_cons_self, rfl⟩, ⟨⟨_, rfl, hc0⟩, trivial⟩⟩)) ⟨rfl, rfl, by decide, by decide⟩ (ck_noVF (by decide)) (ck_ex1F (by decide))) kw_692 kw_693 kw_0 kw_694 (by decide +kernel) rfl rfl ⟨Nat.le_of_ble_eq_true rfl, Nat.le_of_ble_eq_true rfl⟩ hP hD hS rfl hl.1 rfl dl_724 hf (fun r f1 g1 H1 locs1 hq hP hD hS => ?_)
  obtain ⟨rfl, hv⟩ := ck_anO1 (n := 1) (v := 0) (show q_fa65.2.all (ck_an "java/lang/IllegalArgumentException" "" 1 0) = true by decide) (by decide) hq
  show W p l e room_1 s m args below meth c H1 locs1 (cells + 1) (slots + 6) Q (F0 m 727 ls [.int (Int32.ofNat 1)])
  refine lv_istore (lv' := [(5, .int (Int32.ofNat 1)), (0, .ref b), (1, .ref (h 0)), (2, .ref (hm 0)), (3, .ref ho), (4, .int i)]) C.1.1 C.1.2.1 dl_727 hl (by decide) rfl (fun ls hl => ?_)
  refine lv_aload_n C.1.1 C.1.2.1 dl_729 rfl (lv_at hl 3 rfl) ?_
  refine lv_aload_n C.1.1 C.1.2.1 dl_730 rfl (lv_at hl 1 rfl) ?_
  refine lv_iload C.1.1 C.1.2.1 dl_731 (lv_at hl 5 rfl) ?_
  refine lv_iconst (v := 1) C.1.1 C.1.2.1 dl_733 (by decide) ?_
  refine lv_iadd C.1.1 C.1.2.1 dl_734 ?_
  refine va_sld C.1.1 C.1.2.1 hX hbl hbA hS i1 dl_735 ?_
  refine lm_goR (h := h) (hm := hm) (As := [.int (xs (i + 1).toNatClampNeg)]) (rest := []) C (c_fm46 xL_ok) (cwV 1 C.1.2.2.2.2 (kk_gV kw_993 kw_994 kw_995 kw_9 kw_996) rfl rfl rfl (by decide +kernel) ⟨Nat.le_of_ble_eq_true rfl, Nat.le_of_ble_eq_true rfl⟩) gI_FM (List.forall_mem_cons.mpr ⟨⟨by decide, by decide⟩, List.forall_mem_cons.mpr ⟨⟨by decide, by decide⟩, List.forall_mem_cons.mpr ⟨⟨by decide, by decide⟩, List.forall_mem_cons.mpr ⟨⟨by decide, by decide⟩, fun _ h => absurd h List.not_mem_nil⟩⟩⟩⟩) (⟨Or.inr ⟨0, List.mem_cons_self, rfl⟩, ⟨⟨_, rfl, hc0⟩, trivial⟩⟩) hP hD hS rfl hl.1 rfl (Nat.le_of_ble_eq_true rfl) dl_736 hf (fun r f2 g2 H2 locs2 hq2 hJ2 hP hD hS => ?_)
  obtain ⟨o2, ho2, hr2, hT2⟩ := hq2
  have h8 := List.all_eq_true.mp (show q_fm46.2.all (fun o => ck_isI o && ck_val 0 1 o) = true by decide) o2 ho2
  simp only [Bool.and_eq_true] at h8
  obtain ⟨x2, rfl⟩ := ck_isI_ok h8.1 hr2
  show W p l e room_1 s m args below meth c H2 locs2 (cells + 1) (slots + 6) Q (F0 m 739 ls [.int x2])
  have hc9 := ck_val_ok h8.2 hT2
  refine lv_istore (lv' := [(6, .int x2), (5, .int (Int32.ofNat 1)), (0, .ref b), (1, .ref (h 0)), (2, .ref (hm 0)), (3, .ref ho), (4, .int i)]) C.1.1 C.1.2.1 dl_739 hl (by decide) rfl (fun ls hl => ?_)
  refine lv_aload_n C.1.1 C.1.2.1 dl_741 rfl (lv_at hl 4 rfl) ?_
  refine lm_goR (h := h) (hm := hm) (As := []) (rest := []) C (c_fm1 xL_ok) (cwV 0 C.1.2.2.2.2 (kk_gV kw_853 kw_854 kw_855 kw_9 kw_856) rfl rfl rfl (by decide +kernel) ⟨Nat.le_of_ble_eq_true rfl, Nat.le_of_ble_eq_true rfl⟩) hJ2 (List.forall_mem_cons.mpr ⟨⟨by show (1 : Int) ≤ (f2 0).toInt; omega, by show (f2 0).toInt ≤ (1 : Int); omega⟩, List.forall_mem_cons.mpr ⟨ck_in_top _, List.forall_mem_cons.mpr ⟨ck_in_top _, List.forall_mem_cons.mpr ⟨ck_in_top _, fun _ h => absurd h List.not_mem_nil⟩⟩⟩⟩) ⟨Or.inr ⟨0, List.mem_cons_self, rfl⟩, trivial⟩ hP hD hS rfl hl.1 rfl (Nat.le_of_ble_eq_true rfl) dl_742 hf (fun r f3 g3 H3 locs3 hq3 hJ3 hP hD hS => ?_)
  obtain ⟨o3, ho3, hr3, hT3⟩ := hq3
  obtain ⟨x3, rfl, hx3⟩ := ck_isN_ok (List.all_eq_true.mp (show q_fm1.2.all (ck_isN 1) = true by decide) o3 ho3) hr3
  show W p l e room_1 s m args below meth c H3 locs3 (cells + 1) (slots + 6) Q (F0 m 745 ls [.int x3])
  refine lv_iload C.1.1 C.1.2.1 dl_745 (lv_at hl 1 rfl) ?_
  refine lv_icmp_eq (tgt := 752) C.1.1 C.1.2.1 dl_747 (by decide) (fun _ => ?_) (fun hne => absurd (Int32.toInt_inj.mp (by rw [hx3]; rfl)) hne)
  refine lv_iload C.1.1 C.1.2.1 dl_752 (lv_at hl 1 rfl) ?_
  refine lv_if_ne (tgt := 769) C.1.1 C.1.2.1 dl_754 (by decide) (fun _ => ?_) (fun hne => absurd hne (by decide))
  refine lv_goto (tgt := 840) C.1.1 C.1.2.1 dl_769 (by decide) ?_
  exact kk H3 locs3 _ hS (lv_sub hl [2, 3, 4, 5, 6] rfl)
theorem lo_17 {p : Program} {l : Launch} {e : Env} {s : State} {m : MethodId} {args : Array Value} {below : List Frame} {meth : Method} {c : Code} {H : Heap} {locs : List Loc} {cells slots : Nat} {Q : State → Prop} {D : va_G} {B : Nat} {A : Nat → Prop} {h hm : Nat → Nat} {cI cZ cJ : ClassId} {ho : Nat} {ls : Array Slot} {b L : Nat} {xs : Nat → Int32} {i : Int32} {cx : Cond} (hfl : l.flags = flags0) (C : zz_Cx p m meth c code 7 ret s args (cx :: kk_W) "NightCyclerLaw" D vN (tyN cI cZ cJ) A B (xL B h)) (hX : va_X b L xs s s.heap) (hbl : b < s.heap.size) (hbA : ¬ A b) (i1 : vp_in (i + 1) L) (i2 : vp_in (i + 2) L) (hP : va_P D vN (wW cI cZ cJ ho h hm fN0 gN0 fM0 gM0) H) (hD : va_D A (wW cI cZ cJ ho h hm fN0 gN0 fM0 gM0)) (hS : va_S A s.heap H locs) (hl : lv_has ls 7 [(0, .ref b), (1, .ref (h 0)), (2, .ref (hm 0)), (3, .ref ho), (4, .int i)]) (hf : cells + 1 ≤ room_1.cells ∧ slots + 6 ≤ room_1.slots) (kk : ∀ (H1 : Heap) (locs1 : List Loc) (ls1 : Array Slot), va_S A s.heap H1 locs1 → lv_has ls1 7 [(0, .ref b), (1, .ref (h 0)), (2, .ref (hm 0)), (3, .ref ho), (4, .int i)] → W p l e room_1 s m args below meth c H1 locs1 (cells + 1) (slots + 6) Q (F0 m 840 ls1 [])) : W p l e room_1 s m args below meth c H locs cells slots Q (F0 m 716 ls []) := by
  have hlo0 := i32_lo (xs (i + 1).toNatClampNeg)
  have hhi0 := i32_hi (xs (i + 1).toNatClampNeg)
  rcases (show ((-2147483648 : Int) ≤ (xs (i + 1).toNatClampNeg).toInt ∧ (xs (i + 1).toNatClampNeg).toInt ≤ (-1 : Int)) ∨ ((0 : Int) ≤ (xs (i + 1).toNatClampNeg).toInt ∧ (xs (i + 1).toNatClampNeg).toInt ≤ (0 : Int)) ∨ ((1 : Int) ≤ (xs (i + 1).toNatClampNeg).toInt ∧ (xs (i + 1).toNatClampNeg).toInt ≤ (1 : Int)) ∨ ((2 : Int) ≤ (xs (i + 1).toNatClampNeg).toInt ∧ (xs (i + 1).toNatClampNeg).toInt ≤ (2 : Int)) ∨ ((3 : Int) ≤ (xs (i + 1).toNatClampNeg).toInt ∧ (xs (i + 1).toNatClampNeg).toInt ≤ (3 : Int)) ∨ ((4 : Int) ≤ (xs (i + 1).toNatClampNeg).toInt ∧ (xs (i + 1).toNatClampNeg).toInt ≤ (4 : Int)) ∨ ((5 : Int) ≤ (xs (i + 1).toNatClampNeg).toInt ∧ (xs (i + 1).toNatClampNeg).toInt ≤ (5 : Int)) ∨ ((6 : Int) ≤ (xs (i + 1).toNatClampNeg).toInt ∧ (xs (i + 1).toNatClampNeg).toInt ≤ (6 : Int)) ∨ ((7 : Int) ≤ (xs (i + 1).toNatClampNeg).toInt ∧ (xs (i + 1).toNatClampNeg).toInt ≤ (7 : Int)) ∨ ((8 : Int) ≤ (xs (i + 1).toNatClampNeg).toInt ∧ (xs (i + 1).toNatClampNeg).toInt ≤ (8 : Int)) ∨ ((9 : Int) ≤ (xs (i + 1).toNatClampNeg).toInt ∧ (xs (i + 1).toNatClampNeg).toInt ≤ (2147483647 : Int)) by omega) with hc0 | hc0 | hc0 | hc0 | hc0 | hc0 | hc0 | hc0 | hc0 | hc0 | hc0
  · exact lo_17_fa55 hfl C hX hbl hbA i1 i2 hP hD hS hl hf hc0 kk
  · exact lo_17_fa56 hfl C hX hbl hbA i1 i2 hP hD hS hl hf hc0 kk
  · exact lo_17_fa57 hfl C hX hbl hbA i1 i2 hP hD hS hl hf hc0 kk
  · exact lo_17_fa58 hfl C hX hbl hbA i1 i2 hP hD hS hl hf hc0 kk
  · exact lo_17_fa59 hfl C hX hbl hbA i1 i2 hP hD hS hl hf hc0 kk
  · exact lo_17_fa60 hfl C hX hbl hbA i1 i2 hP hD hS hl hf hc0 kk
  · exact lo_17_fa61 hfl C hX hbl hbA i1 i2 hP hD hS hl hf hc0 kk
  · exact lo_17_fa62 hfl C hX hbl hbA i1 i2 hP hD hS hl hf hc0 kk
  · exact lo_17_fa63 hfl C hX hbl hbA i1 i2 hP hD hS hl hf hc0 kk
  · exact lo_17_fa64 hfl C hX hbl hbA i1 i2 hP hD hS hl hf hc0 kk
  · exact lo_17_fa65 hfl C hX hbl hbA i1 i2 hP hD hS hl hf hc0 kk

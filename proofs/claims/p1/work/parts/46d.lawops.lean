theorem lo_18_fa38 {p : Program} {l : Launch} {e : Env} {s : State} {m : MethodId} {args : Array Value} {below : List Frame} {meth : Method} {c : Code} {H : Heap} {locs : List Loc} {cells slots : Nat} {Q : State → Prop} {D : va_G} {B : Nat} {A : Nat → Prop} {h hm : Nat → Nat} {cI cZ cJ : ClassId} {ho : Nat} {ls : Array Slot} {b L : Nat} {xs : Nat → Int32} {i : Int32} {cx : Cond} (hfl : l.flags = flags0) (C : zz_Cx p m meth c code 7 ret s args (cx :: kk_W) "NightCyclerLaw" D vN (tyN cI cZ cJ) A B (xL B h)) (hX : va_X b L xs s s.heap) (hbl : b < s.heap.size) (hbA : ¬ A b) (i1 : vp_in (i + 1) L) (i2 : vp_in (i + 2) L) (hP : va_P D vN (wW cI cZ cJ ho h hm fN0 gN0 fM0 gM0) H) (hD : va_D A (wW cI cZ cJ ho h hm fN0 gN0 fM0 gM0)) (hS : va_S A s.heap H locs) (hl : lv_has ls 7 [(0, .ref b), (1, .ref (h 0)), (2, .ref (hm 0)), (3, .ref ho), (4, .int i)]) (hf : cells + 1 ≤ room_1.cells ∧ slots + 6 ≤ room_1.slots)  (kk : ∀ (H1 : Heap) (locs1 : List Loc) (ls1 : Array Slot), va_S A s.heap H1 locs1 → lv_has ls1 7 [(0, .ref b), (1, .ref (h 0)), (2, .ref (hm 0)), (3, .ref ho), (4, .int i)] → W p l e room_1 s m args below meth c H1 locs1 (cells + 1) (slots + 6) Q (F0 m 840 ls1 [])) : W p l e room_1 s m args below meth c H locs cells slots Q (F0 m 772 ls []) := by
  refine lv_aload_n C.1.1 C.1.2.1 dl_772 rfl (lv_at hl 1 rfl) ?_
  refine lv_aload_n C.1.1 C.1.2.1 dl_773 rfl (lv_at hl 0 rfl) ?_
  refine lv_iload C.1.1 C.1.2.1 dl_774 (lv_at hl 4 rfl) ?_
  refine lv_iconst (v := 1) C.1.1 C.1.2.1 dl_776 (by decide) ?_
  refine lv_iadd C.1.1 C.1.2.1 dl_777 ?_
  refine va_sld C.1.1 C.1.2.1 hX hbl hbA hS i1 dl_778 ?_
  refine lv_aload_n C.1.1 C.1.2.1 dl_779 rfl (lv_at hl 0 rfl) ?_
  refine lv_iload C.1.1 C.1.2.1 dl_780 (lv_at hl 4 rfl) ?_
  refine lv_iconst (v := 2) C.1.1 C.1.2.1 dl_782 (by decide) ?_
  refine lv_iadd C.1.1 C.1.2.1 dl_783 ?_
  refine va_sld C.1.1 C.1.2.1 hX hbl hbA hS i2 dl_784 ?_
  refine lv_aload_n C.1.1 C.1.2.1 dl_785 rfl (lv_at hl 3 rfl) ?_
  refine lw_goO (n := 4) C (ww_report (post := ck_poF fbFA gbFA h fN0 q_fa38.2) (px := ck_pxF fbFA gbFA fN0 q_fa38.2) (fun sz => x_fa38 hfl fN0 gN0 sz [.ref (h 0), .int (xs (i + 1).toNatClampNeg), .int (xs (i + 2).toNatClampNeg)] gI_A (List.forall_mem_cons.mpr ⟨⟨by decide, by decide⟩, List.forall_mem_cons.mpr ⟨⟨by decide, by decide⟩, List.forall_mem_cons.mpr ⟨⟨by decide, by decide⟩, fun _ h => absurd h List.not_mem_nil⟩⟩⟩) (⟨Or.inr ⟨0, List.mem_cons_self, rfl⟩, ⟨⟨_, rfl, ck_in_top _⟩, ⟨⟨_, rfl, ck_in_top _⟩, trivial⟩⟩⟩)) ⟨rfl, rfl, by decide, by decide⟩ (ck_noVF (by decide)) (ck_ex2F (by decide))) kw_700 kw_701 kw_0 kw_702 (by decide +kernel) rfl rfl ⟨Nat.le_of_ble_eq_true rfl, Nat.le_of_ble_eq_true rfl⟩ hP hD hS rfl hl.1 rfl dl_786 hf (fun r f1 g1 H1 locs1 hq hP hD hS => ?_)
  obtain ⟨rfl, hv⟩ := ck_anO (n := 1) (v := 0) (show q_fa38.2.all (ck_an "java/lang/IndexOutOfBoundsException" "java/lang/IllegalArgumentException" 1 0) = true by decide) (by decide) hq
  show W p l e room_1 s m args below meth c H1 locs1 (cells + 1) (slots + 6) Q (F0 m 789 ls [.int (Int32.ofNat 1)])
  refine lv_istore (lv' := [(5, .int (Int32.ofNat 1)), (0, .ref b), (1, .ref (h 0)), (2, .ref (hm 0)), (3, .ref ho), (4, .int i)]) C.1.1 C.1.2.1 dl_789 hl (by decide) rfl (fun ls hl => ?_)
  refine lv_aload_n C.1.1 C.1.2.1 dl_791 rfl (lv_at hl 3 rfl) ?_
  refine lv_aload_n C.1.1 C.1.2.1 dl_792 rfl (lv_at hl 1 rfl) ?_
  refine lv_iload C.1.1 C.1.2.1 dl_793 (lv_at hl 5 rfl) ?_
  refine lv_iconst (v := 1) C.1.1 C.1.2.1 dl_795 (by decide) ?_
  refine lv_iadd C.1.1 C.1.2.1 dl_796 ?_
  refine va_sld C.1.1 C.1.2.1 hX hbl hbA hS i1 dl_797 ?_
  refine lv_aload_n C.1.1 C.1.2.1 dl_798 rfl (lv_at hl 1 rfl) ?_
  refine lv_iload C.1.1 C.1.2.1 dl_799 (lv_at hl 5 rfl) ?_
  refine lv_iconst (v := 2) C.1.1 C.1.2.1 dl_801 (by decide) ?_
  refine lv_iadd C.1.1 C.1.2.1 dl_802 ?_
  refine va_sld C.1.1 C.1.2.1 hX hbl hbA hS i2 dl_803 ?_
  refine lm_goR (h := h) (hm := hm) (As := [.int (xs (i + 1).toNatClampNeg), .int (xs (i + 2).toNatClampNeg)]) (rest := []) C (c_fm26 xL_ok) (cwV 2 C.1.2.2.2.2 (kk_gV kw_998 kw_999 kw_1000 kw_9 kw_1001) rfl rfl rfl (by decide +kernel) ⟨Nat.le_of_ble_eq_true rfl, Nat.le_of_ble_eq_true rfl⟩) gI_FM (List.forall_mem_cons.mpr ⟨⟨by decide, by decide⟩, List.forall_mem_cons.mpr ⟨⟨by decide, by decide⟩, List.forall_mem_cons.mpr ⟨⟨by decide, by decide⟩, List.forall_mem_cons.mpr ⟨⟨by decide, by decide⟩, fun _ h => absurd h List.not_mem_nil⟩⟩⟩⟩) (⟨Or.inr ⟨0, List.mem_cons_self, rfl⟩, ⟨⟨_, rfl, ck_in_top _⟩, ⟨⟨_, rfl, ck_in_top _⟩, trivial⟩⟩⟩) hP hD hS rfl hl.1 rfl (Nat.le_of_ble_eq_true rfl) dl_804 hf (fun r f2 g2 H2 locs2 hq2 hJ2 hP hD hS => ?_)
  obtain ⟨o2, ho2, hr2, hT2⟩ := hq2
  have h8 := List.all_eq_true.mp (show q_fm26.2.all (fun o => ck_isI o && ck_val 0 1 o) = true by decide) o2 ho2
  simp only [Bool.and_eq_true] at h8
  obtain ⟨x2, rfl⟩ := ck_isI_ok h8.1 hr2
  show W p l e room_1 s m args below meth c H2 locs2 (cells + 1) (slots + 6) Q (F0 m 807 ls [.int x2])
  have hc9 := ck_val_ok h8.2 hT2
  refine lv_istore (lv' := [(6, .int x2), (5, .int (Int32.ofNat 1)), (0, .ref b), (1, .ref (h 0)), (2, .ref (hm 0)), (3, .ref ho), (4, .int i)]) C.1.1 C.1.2.1 dl_807 hl (by decide) rfl (fun ls hl => ?_)
  refine lv_aload_n C.1.1 C.1.2.1 dl_809 rfl (lv_at hl 4 rfl) ?_
  refine lm_goR (h := h) (hm := hm) (As := []) (rest := []) C (c_fm1 xL_ok) (cwV 0 C.1.2.2.2.2 (kk_gV kw_853 kw_854 kw_855 kw_9 kw_856) rfl rfl rfl (by decide +kernel) ⟨Nat.le_of_ble_eq_true rfl, Nat.le_of_ble_eq_true rfl⟩) hJ2 (List.forall_mem_cons.mpr ⟨⟨by show (1 : Int) ≤ (f2 0).toInt; omega, by show (f2 0).toInt ≤ (1 : Int); omega⟩, List.forall_mem_cons.mpr ⟨ck_in_top _, List.forall_mem_cons.mpr ⟨ck_in_top _, List.forall_mem_cons.mpr ⟨ck_in_top _, fun _ h => absurd h List.not_mem_nil⟩⟩⟩⟩) ⟨Or.inr ⟨0, List.mem_cons_self, rfl⟩, trivial⟩ hP hD hS rfl hl.1 rfl (Nat.le_of_ble_eq_true rfl) dl_810 hf (fun r f3 g3 H3 locs3 hq3 hJ3 hP hD hS => ?_)
  obtain ⟨o3, ho3, hr3, hT3⟩ := hq3
  obtain ⟨x3, rfl, hx3⟩ := ck_isN_ok (List.all_eq_true.mp (show q_fm1.2.all (ck_isN 1) = true by decide) o3 ho3) hr3
  show W p l e room_1 s m args below meth c H3 locs3 (cells + 1) (slots + 6) Q (F0 m 813 ls [.int x3])
  refine lv_iload C.1.1 C.1.2.1 dl_813 (lv_at hl 1 rfl) ?_
  refine lv_icmp_eq (tgt := 820) C.1.1 C.1.2.1 dl_815 (by decide) (fun _ => ?_) (fun hne => absurd (Int32.toInt_inj.mp (by rw [hx3]; rfl)) hne)
  refine lv_iload C.1.1 C.1.2.1 dl_820 (lv_at hl 1 rfl) ?_
  refine lv_if_ne (tgt := 837) C.1.1 C.1.2.1 dl_822 (by decide) (fun _ => ?_) (fun hne => absurd hne (by decide))
  refine lv_goto (tgt := 840) C.1.1 C.1.2.1 dl_837 (by decide) ?_
  exact kk H3 locs3 _ hS (lv_sub hl [2, 3, 4, 5, 6] rfl)
theorem lo_18 {p : Program} {l : Launch} {e : Env} {s : State} {m : MethodId} {args : Array Value} {below : List Frame} {meth : Method} {c : Code} {H : Heap} {locs : List Loc} {cells slots : Nat} {Q : State → Prop} {D : va_G} {B : Nat} {A : Nat → Prop} {h hm : Nat → Nat} {cI cZ cJ : ClassId} {ho : Nat} {ls : Array Slot} {b L : Nat} {xs : Nat → Int32} {i : Int32} {cx : Cond} (hfl : l.flags = flags0) (C : zz_Cx p m meth c code 7 ret s args (cx :: kk_W) "NightCyclerLaw" D vN (tyN cI cZ cJ) A B (xL B h)) (hX : va_X b L xs s s.heap) (hbl : b < s.heap.size) (hbA : ¬ A b) (i1 : vp_in (i + 1) L) (i2 : vp_in (i + 2) L) (hP : va_P D vN (wW cI cZ cJ ho h hm fN0 gN0 fM0 gM0) H) (hD : va_D A (wW cI cZ cJ ho h hm fN0 gN0 fM0 gM0)) (hS : va_S A s.heap H locs) (hl : lv_has ls 7 [(0, .ref b), (1, .ref (h 0)), (2, .ref (hm 0)), (3, .ref ho), (4, .int i)]) (hf : cells + 1 ≤ room_1.cells ∧ slots + 6 ≤ room_1.slots) (kk : ∀ (H1 : Heap) (locs1 : List Loc) (ls1 : Array Slot), va_S A s.heap H1 locs1 → lv_has ls1 7 [(0, .ref b), (1, .ref (h 0)), (2, .ref (hm 0)), (3, .ref ho), (4, .int i)] → W p l e room_1 s m args below meth c H1 locs1 (cells + 1) (slots + 6) Q (F0 m 840 ls1 [])) : W p l e room_1 s m args below meth c H locs cells slots Q (F0 m 772 ls []) := by
  exact lo_18_fa38 hfl C hX hbl hbA i1 i2 hP hD hS hl hf kk

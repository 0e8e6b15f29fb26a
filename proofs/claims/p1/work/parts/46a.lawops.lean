theorem lo_0_fc3 {p : Program} {l : Launch} {e : Env} {s : State} {m : MethodId} {args : Array Value} {below : List Frame} {meth : Method} {c : Code} {H : Heap} {locs : List Loc} {cells slots : Nat} {Q : State → Prop} {D : va_G} {B : Nat} {A : Nat → Prop} {h hm : Nat → Nat} {cI cZ cJ : ClassId} {ho : Nat} {ls : Array Slot} {b L : Nat} {xs : Nat → Int32} {i : Int32} {cx : Cond} (hfl : l.flags = flags0) (C : zz_Cx p m meth c code 7 ret s args (cx :: kk_W) "NightCyclerLaw" D vN (tyN cI cZ cJ) A B (xL B h)) (hX : va_X b L xs s s.heap) (hbl : b < s.heap.size) (hbA : ¬ A b) (i1 : vp_in (i + 1) L) (i2 : vp_in (i + 2) L) (hP : va_P D vN (wW cI cZ cJ ho h hm fN0 gN0 fM0 gM0) H) (hD : va_D A (wW cI cZ cJ ho h hm fN0 gN0 fM0 gM0)) (hS : va_S A s.heap H locs) (hl : lv_has ls 7 [(0, .ref b), (1, .ref (h 0)), (2, .ref (hm 0)), (3, .ref ho), (4, .int i)]) (hf : cells + 1 ≤ room_1.cells ∧ slots + 6 ≤ room_1.slots) (hc0 : (-2147483648 : Int) ≤ (xs (i + 1).toNatClampNeg).toInt ∧ (xs (i + 1).toNatClampNeg).toInt ≤ (-1 : Int)) (kk : ∀ (H1 : Heap) (locs1 : List Loc) (ls1 : Array Slot), va_S A s.heap H1 locs1 → lv_has ls1 7 [(0, .ref b), (1, .ref (h 0)), (2, .ref (hm 0)), (3, .ref ho), (4, .int i)] → W p l e room_1 s m args below meth c H1 locs1 (cells + 1) (slots + 6) Q (F0 m 840 ls1 [])) : W p l e room_1 s m args below meth c H locs cells slots Q (F0 m 128 ls []) := by
  refine lv_aload_n C.1.1 C.1.2.1 dl_128 rfl (lv_at hl 1 rfl) ?_
  refine lv_aload_n C.1.1 C.1.2.1 dl_129 rfl (lv_at hl 0 rfl) ?_
  refine lv_iload C.1.1 C.1.2.1 dl_130 (lv_at hl 4 rfl) ?_
  refine lv_iconst (v := 1) C.1.1 C.1.2.1 dl_132 (by decide) ?_
  refine lv_iadd C.1.1 C.1.2.1 dl_133 ?_
  refine va_sld C.1.1 C.1.2.1 hX hbl hbA hS i1 dl_134 ?_
  refine lv_aload_n C.1.1 C.1.2.1 dl_135 rfl (lv_at hl 0 rfl) ?_
  refine lv_iload C.1.1 C.1.2.1 dl_136 (lv_at hl 4 rfl) ?_
  refine lv_iconst (v := 2) C.1.1 C.1.2.1 dl_138 (by decide) ?_
  refine lv_iadd C.1.1 C.1.2.1 dl_139 ?_
  refine va_sld C.1.1 C.1.2.1 hX hbl hbA hS i2 dl_140 ?_
  refine lw_goS (n := 3) C (ww_prescribe (post := ck_poF fbFB gbFB h fN0 q_fc3.2) (px := ck_pxF fbFB gbFB fN0 q_fc3.2) (fun sz => x_fc3 hfl fN0 gN0 sz [.ref (h 0), .int (xs (i + 1).toNatClampNeg), .int (xs (i + 2).toNatClampNeg)] gI_B (List.forall_mem_cons.mpr ⟨⟨by decide, by decide⟩, List.forall_mem_cons.mpr ⟨⟨by decide, by decide⟩, List.forall_mem_cons.mpr ⟨⟨by decide, by decide⟩, fun _ h => absurd h List.not_mem_nil⟩⟩⟩) (⟨Or.inr ⟨0, List.mem_cons_self, rfl⟩, ⟨⟨_, rfl, hc0⟩, ⟨⟨_, rfl, ck_in_top _⟩, trivial⟩⟩⟩)) ⟨rfl, rfl, by decide, by decide⟩ (ck_noIF (by decide)) (ck_ex2F (by decide))) kw_379 kw_380 kw_0 kw_381 (by decide +kernel) rfl rfl ⟨Nat.le_of_ble_eq_true rfl, Nat.le_of_ble_eq_true rfl⟩ hP hD hS rfl hl.1 rfl dl_141 hf (fun r f1 g1 H1 locs1 hq hP hD hS => ?_)
  obtain rfl := ck_anS (n := 2) (v := 0) (show q_fc3.2.all (ck_an "java/lang/IllegalStateException" "java/lang/IllegalArgumentException" 2 0) = true by decide) (by decide) hq
  show W p l e room_1 s m args below meth c H1 locs1 (cells + 1) (slots + 6) Q (F0 m 144 ls [.int (Int32.ofNat 2)])
  refine lv_istore (lv' := [(5, .int (Int32.ofNat 2)), (0, .ref b), (1, .ref (h 0)), (2, .ref (hm 0)), (3, .ref ho), (4, .int i)]) C.1.1 C.1.2.1 dl_144 hl (by decide) rfl (fun ls hl => ?_)
  refine lv_aload_n C.1.1 C.1.2.1 dl_146 rfl (lv_at hl 3 rfl) ?_
  refine lv_aload_n C.1.1 C.1.2.1 dl_147 rfl (lv_at hl 1 rfl) ?_
  refine lv_iload C.1.1 C.1.2.1 dl_148 (lv_at hl 5 rfl) ?_
  refine lv_iconst (v := 1) C.1.1 C.1.2.1 dl_150 (by decide) ?_
  refine lv_iadd C.1.1 C.1.2.1 dl_151 ?_
  refine va_sld C.1.1 C.1.2.1 hX hbl hbA hS i1 dl_152 ?_
  refine lv_aload_n C.1.1 C.1.2.1 dl_153 rfl (lv_at hl 1 rfl) ?_
  refine lv_iload C.1.1 C.1.2.1 dl_154 (lv_at hl 5 rfl) ?_
  refine lv_iconst (v := 2) C.1.1 C.1.2.1 dl_156 (by decide) ?_
  refine lv_iadd C.1.1 C.1.2.1 dl_157 ?_
  refine va_sld C.1.1 C.1.2.1 hX hbl hbA hS i2 dl_158 ?_
  refine lm_goR (h := h) (hm := hm) (As := [.int (xs (i + 1).toNatClampNeg), .int (xs (i + 2).toNatClampNeg)]) (rest := []) C (c_fn4 xL_ok) (cwV 2 C.1.2.2.2.2 (kk_gV kw_857 kw_858 kw_859 kw_9 kw_860) rfl rfl rfl (by decide +kernel) ⟨Nat.le_of_ble_eq_true rfl, Nat.le_of_ble_eq_true rfl⟩) gI_FN (List.forall_mem_cons.mpr ⟨⟨by decide, by decide⟩, List.forall_mem_cons.mpr ⟨⟨by decide, by decide⟩, List.forall_mem_cons.mpr ⟨⟨by decide, by decide⟩, List.forall_mem_cons.mpr ⟨⟨by decide, by decide⟩, fun _ h => absurd h List.not_mem_nil⟩⟩⟩⟩) (⟨Or.inr ⟨0, List.mem_cons_self, rfl⟩, ⟨⟨_, rfl, hc0⟩, ⟨⟨_, rfl, ck_in_top _⟩, trivial⟩⟩⟩) hP hD hS rfl hl.1 rfl (Nat.le_of_ble_eq_true rfl) dl_159 hf (fun r f2 g2 H2 locs2 hq2 hJ2 hP hD hS => ?_)
  obtain ⟨o2, ho2, hr2, hT2⟩ := hq2
  have h8 := List.all_eq_true.mp (show q_fn4.2.all (fun o => ck_isV o && ck_val 0 2 o) = true by decide) o2 ho2
  simp only [Bool.and_eq_true] at h8
  obtain rfl := ck_isV_ok h8.1 hr2
  show W p l e room_1 s m args below meth c H2 locs2 (cells + 1) (slots + 6) Q (F0 m 162 ls [])
  have hc9 := ck_val_ok h8.2 hT2
  refine lv_aload_n C.1.1 C.1.2.1 dl_162 rfl (lv_at hl 3 rfl) ?_
  refine lm_goR (h := h) (hm := hm) (As := []) (rest := []) C (c_fn2 xL_ok) (cwV 0 C.1.2.2.2.2 (kk_gV kw_853 kw_854 kw_855 kw_9 kw_856) rfl rfl rfl (by decide +kernel) ⟨Nat.le_of_ble_eq_true rfl, Nat.le_of_ble_eq_true rfl⟩) hJ2 (List.forall_mem_cons.mpr ⟨⟨by show (2 : Int) ≤ (f2 0).toInt; omega, by show (f2 0).toInt ≤ (2 : Int); omega⟩, List.forall_mem_cons.mpr ⟨ck_in_top _, List.forall_mem_cons.mpr ⟨ck_in_top _, List.forall_mem_cons.mpr ⟨ck_in_top _, fun _ h => absurd h List.not_mem_nil⟩⟩⟩⟩) ⟨Or.inr ⟨0, List.mem_cons_self, rfl⟩, trivial⟩ hP hD hS rfl hl.1 rfl (Nat.le_of_ble_eq_true rfl) dl_163 hf (fun r f3 g3 H3 locs3 hq3 hJ3 hP hD hS => ?_)
  obtain ⟨o3, ho3, hr3, hT3⟩ := hq3
  obtain ⟨x3, rfl, hx3⟩ := ck_isN_ok (List.all_eq_true.mp (show q_fn2.2.all (ck_isN 2) = true by decide) o3 ho3) hr3
  show W p l e room_1 s m args below meth c H3 locs3 (cells + 1) (slots + 6) Q (F0 m 166 ls [.int x3])
  refine lv_iload C.1.1 C.1.2.1 dl_166 (lv_at hl 0 rfl) ?_
  refine lv_icmp_eq (tgt := 173) C.1.1 C.1.2.1 dl_168 (by decide) (fun _ => ?_) (fun hne => absurd (Int32.toInt_inj.mp (by rw [hx3]; rfl)) hne)
  refine lv_goto (tgt := 840) C.1.1 C.1.2.1 dl_173 (by decide) ?_
  exact kk H3 locs3 _ hS (lv_sub hl [1, 2, 3, 4, 5] rfl)
theorem lo_0_fc5 {p : Program} {l : Launch} {e : Env} {s : State} {m : MethodId} {args : Array Value} {below : List Frame} {meth : Method} {c : Code} {H : Heap} {locs : List Loc} {cells slots : Nat} {Q : State → Prop} {D : va_G} {B : Nat} {A : Nat → Prop} {h hm : Nat → Nat} {cI cZ cJ : ClassId} {ho : Nat} {ls : Array Slot} {b L : Nat} {xs : Nat → Int32} {i : Int32} {cx : Cond} (hfl : l.flags = flags0) (C : zz_Cx p m meth c code 7 ret s args (cx :: kk_W) "NightCyclerLaw" D vN (tyN cI cZ cJ) A B (xL B h)) (hX : va_X b L xs s s.heap) (hbl : b < s.heap.size) (hbA : ¬ A b) (i1 : vp_in (i + 1) L) (i2 : vp_in (i + 2) L) (hP : va_P D vN (wW cI cZ cJ ho h hm fN0 gN0 fM0 gM0) H) (hD : va_D A (wW cI cZ cJ ho h hm fN0 gN0 fM0 gM0)) (hS : va_S A s.heap H locs) (hl : lv_has ls 7 [(0, .ref b), (1, .ref (h 0)), (2, .ref (hm 0)), (3, .ref ho), (4, .int i)]) (hf : cells + 1 ≤ room_1.cells ∧ slots + 6 ≤ room_1.slots) (hc0 : (0 : Int) ≤ (xs (i + 1).toNatClampNeg).toInt ∧ (xs (i + 1).toNatClampNeg).toInt ≤ (0 : Int)) (hc1 : (-2147483648 : Int) ≤ (xs (i + 2).toNatClampNeg).toInt ∧ (xs (i + 2).toNatClampNeg).toInt ≤ (0 : Int)) (kk : ∀ (H1 : Heap) (locs1 : List Loc) (ls1 : Array Slot), va_S A s.heap H1 locs1 → lv_has ls1 7 [(0, .ref b), (1, .ref (h 0)), (2, .ref (hm 0)), (3, .ref ho), (4, .int i)] → W p l e room_1 s m args below meth c H1 locs1 (cells + 1) (slots + 6) Q (F0 m 840 ls1 [])) : W p l e room_1 s m args below meth c H locs cells slots Q (F0 m 128 ls []) := by
  refine lv_aload_n C.1.1 C.1.2.1 dl_128 rfl (lv_at hl 1 rfl) ?_
  refine lv_aload_n C.1.1 C.1.2.1 dl_129 rfl (lv_at hl 0 rfl) ?_
  refine lv_iload C.1.1 C.1.2.1 dl_130 (lv_at hl 4 rfl) ?_
  refine lv_iconst (v := 1) C.1.1 C.1.2.1 dl_132 (by decide) ?_
  refine lv_iadd C.1.1 C.1.2.1 dl_133 ?_
  refine va_sld C.1.1 C.1.2.1 hX hbl hbA hS i1 dl_134 ?_
  refine lv_aload_n C.1.1 C.1.2.1 dl_135 rfl (lv_at hl 0 rfl) ?_
  refine lv_iload C.1.1 C.1.2.1 dl_136 (lv_at hl 4 rfl) ?_
  refine lv_iconst (v := 2) C.1.1 C.1.2.1 dl_138 (by decide) ?_
  refine lv_iadd C.1.1 C.1.2.1 dl_139 ?_
  refine va_sld C.1.1 C.1.2.1 hX hbl hbA hS i2 dl_140 ?_
  refine lw_goS (n := 3) C (ww_prescribe (post := ck_poF fbFB gbFB h fN0 q_fc5.2) (px := ck_pxF fbFB gbFB fN0 q_fc5.2) (fun sz => x_fc5 hfl fN0 gN0 sz [.ref (h 0), .int (xs (i + 1).toNatClampNeg), .int (xs (i + 2).toNatClampNeg)] gI_B (List.forall_mem_cons.mpr ⟨⟨by decide, by decide⟩, List.forall_mem_cons.mpr ⟨⟨by decide, by decide⟩, List.forall_mem_cons.mpr ⟨⟨by decide, by decide⟩, fun _ h => absurd h List.not_mem_nil⟩⟩⟩) (⟨Or.inr ⟨0, List.mem_cons_self, rfl⟩, ⟨⟨_, rfl, hc0⟩, ⟨⟨_, rfl, hc1⟩, trivial⟩⟩⟩)) ⟨rfl, rfl, by decide, by decide⟩ (ck_noIF (by decide)) (ck_ex2F (by decide))) kw_379 kw_380 kw_0 kw_381 (by decide +kernel) rfl rfl ⟨Nat.le_of_ble_eq_true rfl, Nat.le_of_ble_eq_true rfl⟩ hP hD hS rfl hl.1 rfl dl_141 hf (fun r f1 g1 H1 locs1 hq hP hD hS => ?_)
  obtain rfl := ck_anS (n := 2) (v := 0) (show q_fc5.2.all (ck_an "java/lang/IllegalStateException" "java/lang/IllegalArgumentException" 2 0) = true by decide) (by decide) hq
  show W p l e room_1 s m args below meth c H1 locs1 (cells + 1) (slots + 6) Q (F0 m 144 ls [.int (Int32.ofNat 2)])
  refine lv_istore (lv' := [(5, .int (Int32.ofNat 2)), (0, .ref b), (1, .ref (h 0)), (2, .ref (hm 0)), (3, .ref ho), (4, .int i)]) C.1.1 C.1.2.1 dl_144 hl (by decide) rfl (fun ls hl => ?_)
  refine lv_aload_n C.1.1 C.1.2.1 dl_146 rfl (lv_at hl 3 rfl) ?_
  refine lv_aload_n C.1.1 C.1.2.1 dl_147 rfl (lv_at hl 1 rfl) ?_
  refine lv_iload C.1.1 C.1.2.1 dl_148 (lv_at hl 5 rfl) ?_
  refine lv_iconst (v := 1) C.1.1 C.1.2.1 dl_150 (by decide) ?_
  refine lv_iadd C.1.1 C.1.2.1 dl_151 ?_
  refine va_sld C.1.1 C.1.2.1 hX hbl hbA hS i1 dl_152 ?_
  refine lv_aload_n C.1.1 C.1.2.1 dl_153 rfl (lv_at hl 1 rfl) ?_
  refine lv_iload C.1.1 C.1.2.1 dl_154 (lv_at hl 5 rfl) ?_
  refine lv_iconst (v := 2) C.1.1 C.1.2.1 dl_156 (by decide) ?_
  refine lv_iadd C.1.1 C.1.2.1 dl_157 ?_
  refine va_sld C.1.1 C.1.2.1 hX hbl hbA hS i2 dl_158 ?_
  refine lm_goR (h := h) (hm := hm) (As := [.int (xs (i + 1).toNatClampNeg), .int (xs (i + 2).toNatClampNeg)]) (rest := []) C (c_fn5 xL_ok) (cwV 2 C.1.2.2.2.2 (kk_gV kw_857 kw_858 kw_859 kw_9 kw_860) rfl rfl rfl (by decide +kernel) ⟨Nat.le_of_ble_eq_true rfl, Nat.le_of_ble_eq_true rfl⟩) gI_FN (List.forall_mem_cons.mpr ⟨⟨by decide, by decide⟩, List.forall_mem_cons.mpr ⟨⟨by decide, by decide⟩, List.forall_mem_cons.mpr ⟨⟨by decide, by decide⟩, List.forall_mem_cons.mpr ⟨⟨by decide, by decide⟩, fun _ h => absurd h List.not_mem_nil⟩⟩⟩⟩) (⟨Or.inr ⟨0, List.mem_cons_self, rfl⟩, ⟨⟨_, rfl, hc0⟩, ⟨⟨_, rfl, hc1⟩, trivial⟩⟩⟩) hP hD hS rfl hl.1 rfl (Nat.le_of_ble_eq_true rfl) dl_159 hf (fun r f2 g2 H2 locs2 hq2 hJ2 hP hD hS => ?_)
  obtain ⟨o2, ho2, hr2, hT2⟩ := hq2
  have h8 := List.all_eq_true.mp (show q_fn5.2.all (fun o => ck_isV o && ck_val 0 2 o) = true by decide) o2 ho2
  simp only [Bool.and_eq_true] at h8
  obtain rfl := ck_isV_ok h8.1 hr2
  show W p l e room_1 s m args below meth c H2 locs2 (cells + 1) (slots + 6) Q (F0 m 162 ls [])
  have hc9 := ck_val_ok h8.2 hT2
  refine lv_aload_n C.1.1 C.1.2.1 dl_162 rfl (lv_at hl 3 rfl) ?_
  refine lm_goR (h := h) (hm := hm) (As := []) (rest := []) C (c_fn2 xL_ok) (cwV 0 C.1.2.2.2.2 (kk_gV kw_853 kw_854 kw_855 kw_9 kw_856) rfl rfl rfl (by decide +kernel) ⟨Nat.le_of_ble_eq_true rfl, Nat.le_of_ble_eq_true rfl⟩) hJ2 (List.forall_mem_cons.mpr ⟨⟨by show (2 : Int) ≤ (f2 0).toInt; omega, by show (f2 0).toInt ≤ (2 : Int); omega⟩, List.forall_mem_cons.mpr ⟨ck_in_top _, List.forall_mem_cons.mpr ⟨ck_in_top _, List.forall_mem_cons.mpr ⟨ck_in_top _, fun _ h => absurd h List.not_mem_nil⟩⟩⟩⟩) ⟨Or.inr ⟨0, List.mem_cons_self, rfl⟩, trivial⟩ hP hD hS rfl hl.1 rfl (Nat.le_of_ble_eq_true rfl) dl_163 hf (fun r f3 g3 H3 locs3 hq3 hJ3 hP hD hS => ?_)
  obtain ⟨o3, ho3, hr3, hT3⟩ := hq3
  obtain ⟨x3, rfl, hx3⟩ := ck_isN_ok (List.all_eq_true.mp (show q_fn2.2.all (ck_isN 2) = true by decide) o3 ho3) hr3
  show W p l e room_1 s m args below meth c H3 locs3 (cells + 1) (slots + 6) Q (F0 m 166 ls [.int x3])
  refine lv_iload C.1.1 C.1.2.1 dl_166 (lv_at hl 0 rfl) ?_
  refine lv_icmp_eq (tgt := 173) C.1.1 C.1.2.1 dl_168 (by decide) (fun _ => ?_) (fun hne => absurd (Int32.toInt_inj.mp (by rw [hx3]; rfl)) hne)
  refine lv_goto (tgt := 840) C.1.1 C.1.2.1 dl_173 (by decide) ?_
  exact kk H3 locs3 _ hS (lv_sub hl [1, 2, 3, 4, 5] rfl)
theorem lo_0_fc8 {p : Program} {l : Launch} {e : Env} {s : State} {m : MethodId} {args : Array Value} {below : List Frame} {meth : Method} {c : Code} {H : Heap} {locs : List Loc} {cells slots : Nat} {Q : State → Prop} {D : va_G} {B : Nat} {A : Nat → Prop} {h hm : Nat → Nat} {cI cZ cJ : ClassId} {ho : Nat} {ls : Array Slot} {b L : Nat} {xs : Nat → Int32} {i : Int32} {cx : Cond} (hfl : l.flags = flags0) (C : zz_Cx p m meth c code 7 ret s args (cx :: kk_W) "NightCyclerLaw" D vN (tyN cI cZ cJ) A B (xL B h)) (hX : va_X b L xs s s.heap) (hbl : b < s.heap.size) (hbA : ¬ A b) (i1 : vp_in (i + 1) L) (i2 : vp_in (i + 2) L) (hP : va_P D vN (wW cI cZ cJ ho h hm fN0 gN0 fM0 gM0) H) (hD : va_D A (wW cI cZ cJ ho h hm fN0 gN0 fM0 gM0)) (hS : va_S A s.heap H locs) (hl : lv_has ls 7 [(0, .ref b), (1, .ref (h 0)), (2, .ref (hm 0)), (3, .ref ho), (4, .int i)]) (hf : cells + 1 ≤ room_1.cells ∧ slots + 6 ≤ room_1.slots) (hc0 : (0 : Int) ≤ (xs (i + 1).toNatClampNeg).toInt ∧ (xs (i + 1).toNatClampNeg).toInt ≤ (0 : Int)) (hc1 : (1 : Int) ≤ (xs (i + 2).toNatClampNeg).toInt ∧ (xs (i + 2).toNatClampNeg).toInt ≤ (12 : Int)) (kk : ∀ (H1 : Heap) (locs1 : List Loc) (ls1 : Array Slot), va_S A s.heap H1 locs1 → lv_has ls1 7 [(0, .ref b), (1, .ref (h 0)), (2, .ref (hm 0)), (3, .ref ho), (4, .int i)] → W p l e room_1 s m args below meth c H1 locs1 (cells + 1) (slots + 6) Q (F0 m 840 ls1 [])) : W p l e room_1 s m args below meth c H locs cells slots Q (F0 m 128 ls []) := by
  refine lv_aload_n C.1.1 C.1.2.1 dl_128 rfl (lv_at hl 1 rfl) ?_
  refine lv_aload_n C.1.1 C.1.2.1 dl_129 rfl (lv_at hl 0 rfl) ?_
  refine lv_iload C.1.1 C.1.2.1 dl_130 (lv_at hl 4 rfl) ?_
  refine lv_iconst (v := 1) C.1.1 C.1.2.1 dl_132 (by decide) ?_
  refine lv_iadd C.1.1 C.1.2.1 dl_133 ?_
  refine va_sld C.1.1 C.1.2.1 hX hbl hbA hS i1 dl_134 ?_
  refine lv_aload_n C.1.1 C.1.2.1 dl_135 rfl (lv_at hl 0 rfl) ?_
  refine lv_iload C.1.1 C.1.2.1 dl_136 (lv_at hl 4 rfl) ?_
  refine lv_iconst (v := 2) C.1.1 C.1.2.1 dl_138 (by decide) ?_
  refine lv_iadd C.1.1 C.1.2.1 dl_139 ?_
  refine va_sld C.1.1 C.1.2.1 hX hbl hbA hS i2 dl_140 ?_
  refine lw_goS (n := 3) C (ww_prescribe (post := ck_poF fbFB gbFB h fN0 q_fc8.2) (px := ck_pxF fbFB gbFB fN0 q_fc8.2) (fun sz => x_fc8 hfl fN0 gN0 sz [.ref (h 0), .int (xs (i + 1).toNatClampNeg), .int (xs (i + 2).toNatClampNeg)] gI_B (List.forall_mem_cons.mpr ⟨⟨by decide, by decide⟩, List.forall_mem_cons.mpr ⟨⟨by decide, by decide⟩, List.forall_mem_cons.mpr ⟨⟨by decide, by decide⟩, fun _ h => absurd h List.not_mem_nil⟩⟩⟩) (⟨Or.inr ⟨0, List.mem_cons_self, rfl⟩, ⟨⟨_, rfl, hc0⟩, ⟨⟨_, rfl, hc1⟩, trivial⟩⟩⟩)) ⟨rfl, rfl, by decide, by decide⟩ (ck_noIF (by decide)) (ck_ex2F (by decide))) kw_379 kw_380 kw_0 kw_381 (by decide +kernel) rfl rfl ⟨Nat.le_of_ble_eq_true rfl, Nat.le_of_ble_eq_true rfl⟩ hP hD hS rfl hl.1 rfl dl_141 hf (fun r f1 g1 H1 locs1 hq hP hD hS => ?_)
  obtain rfl := ck_anS (n := 0) (v := 0) (show q_fc8.2.all (ck_an "java/lang/IllegalStateException" "java/lang/IllegalArgumentException" 0 0) = true by decide) (by decide) hq
  show W p l e room_1 s m args below meth c H1 locs1 (cells + 1) (slots + 6) Q (F0 m 144 ls [.int (Int32.ofNat 0)])
  refine lv_istore (lv' := [(5, .int (Int32.ofNat 0)), (0, .ref b), (1, .ref (h 0)), (2, .ref (hm 0)), (3, .ref ho), (4, .int i)]) C.1.1 C.1.2.1 dl_144 hl (by decide) rfl (fun ls hl => ?_)
  refine lv_aload_n C.1.1 C.1.2.1 dl_146 rfl (lv_at hl 3 rfl) ?_
  refine lv_aload_n C.1.1 C.1.2.1 dl_147 rfl (lv_at hl 1 rfl) ?_
  refine lv_iload C.1.1 C.1.2.1 dl_148 (lv_at hl 5 rfl) ?_
  refine lv_iconst (v := 1) C.1.1 C.1.2.1 dl_150 (by decide) ?_
  refine lv_iadd C.1.1 C.1.2.1 dl_151 ?_
  refine va_sld C.1.1 C.1.2.1 hX hbl hbA hS i1 dl_152 ?_
  refine lv_aload_n C.1.1 C.1.2.1 dl_153 rfl (lv_at hl 1 rfl) ?_
  refine lv_iload C.1.1 C.1.2.1 dl_154 (lv_at hl 5 rfl) ?_
  refine lv_iconst (v := 2) C.1.1 C.1.2.1 dl_156 (by decide) ?_
  refine lv_iadd C.1.1 C.1.2.1 dl_157 ?_
  refine va_sld C.1.1 C.1.2.1 hX hbl hbA hS i2 dl_158 ?_
  refine lm_goR (h := h) (hm := hm) (As := [.int (xs (i + 1).toNatClampNeg), .int (xs (i + 2).toNatClampNeg)]) (rest := []) C (c_fn6 xL_ok) (cwV 2 C.1.2.2.2.2 (kk_gV kw_857 kw_858 kw_859 kw_9 kw_860) rfl rfl rfl (by decide +kernel) ⟨Nat.le_of_ble_eq_true rfl, Nat.le_of_ble_eq_true rfl⟩) gI_FN (List.forall_mem_cons.mpr ⟨⟨by decide, by decide⟩, List.forall_mem_cons.mpr ⟨⟨by decide, by decide⟩, List.forall_mem_cons.mpr ⟨⟨by decide, by decide⟩, List.forall_mem_cons.mpr ⟨⟨by decide, by decide⟩, fun _ h => absurd h List.not_mem_nil⟩⟩⟩⟩) (⟨Or.inr ⟨0, List.mem_cons_self, rfl⟩, ⟨⟨_, rfl, hc0⟩, ⟨⟨_, rfl, hc1⟩, trivial⟩⟩⟩) hP hD hS rfl hl.1 rfl (Nat.le_of_ble_eq_true rfl) dl_159 hf (fun r f2 g2 H2 locs2 hq2 hJ2 hP hD hS => ?_)
  obtain ⟨o2, ho2, hr2, hT2⟩ := hq2
  have h8 := List.all_eq_true.mp (show q_fn6.2.all (fun o => ck_isV o && ck_val 0 0 o) = true by decide) o2 ho2
  simp only [Bool.and_eq_true] at h8
  obtain rfl := ck_isV_ok h8.1 hr2
  show W p l e room_1 s m args below meth c H2 locs2 (cells + 1) (slots + 6) Q (F0 m 162 ls [])
  have hc9 := ck_val_ok h8.2 hT2
  refine lv_aload_n C.1.1 C.1.2.1 dl_162 rfl (lv_at hl 3 rfl) ?_
  refine lm_goR (h := h) (hm := hm) (As := []) (rest := []) C (c_fn0 xL_ok) (cwV 0 C.1.2.2.2.2 (kk_gV kw_853 kw_854 kw_855 kw_9 kw_856) rfl rfl rfl (by decide +kernel) ⟨Nat.le_of_ble_eq_true rfl, Nat.le_of_ble_eq_true rfl⟩) hJ2 (List.forall_mem_cons.mpr ⟨⟨by show (0 : Int) ≤ (f2 0).toInt; omega, by show (f2 0).toInt ≤ (0 : Int); omega⟩, List.forall_mem_cons.mpr ⟨ck_in_top _, List.forall_mem_cons.mpr ⟨ck_in_top _, List.forall_mem_cons.mpr ⟨ck_in_top _, fun _ h => absurd h List.not_mem_nil⟩⟩⟩⟩) ⟨Or.inr ⟨0, List.mem_cons_self, rfl⟩, trivial⟩ hP hD hS rfl hl.1 rfl (Nat.le_of_ble_eq_true rfl) dl_163 hf (fun r f3 g3 H3 locs3 hq3 hJ3 hP hD hS => ?_)
  obtain ⟨o3, ho3, hr3, hT3⟩ := hq3
  obtain ⟨x3, rfl, hx3⟩ := ck_isN_ok (List.all_eq_true.mp (show q_fn0.2.all (ck_isN 0) = true by decide) o3 ho3) hr3
  show W p l e room_1 s m args below meth c H3 locs3 (cells + 1) (slots + 6) Q (F0 m 166 ls [.int x3])
  refine lv_iload C.1.1 C.1.2.1 dl_166 (lv_at hl 0 rfl) ?_
  refine lv_icmp_eq (tgt := 173) C.1.1 C.1.2.1 dl_168 (by decide) (fun _ => ?_) (fun hne => absurd (Int32.toInt_inj.mp (by rw [hx3]; rfl)) hne)
  refine lv_goto (tgt := 840) C.1.1 C.1.2.1 dl_173 (by decide) ?_
  exact kk H3 locs3 _ hS (lv_sub hl [1, 2, 3, 4, 5] rfl)
theorem lo_0_fc10 {p : Program} {l : Launch} {e : Env} {s : State} {m : MethodId} {args : Array Value} {below : List Frame} {meth : Method} {c : Code} {H : Heap} {locs : List Loc} {cells slots : Nat} {Q : State → Prop} {D : va_G} {B : Nat} {A : Nat → Prop} {h hm : Nat → Nat} {cI cZ cJ : ClassId} {ho : Nat} {ls : Array Slot} {b L : Nat} {xs : Nat → Int32} {i : Int32} {cx : Cond} (hfl : l.flags = flags0) (C : zz_Cx p m meth c code 7 ret s args (cx :: kk_W) "NightCyclerLaw" D vN (tyN cI cZ cJ) A B (xL B h)) (hX : va_X b L xs s s.heap) (hbl : b < s.heap.size) (hbA : ¬ A b) (i1 : vp_in (i + 1) L) (i2 : vp_in (i + 2) L) (hP : va_P D vN (wW cI cZ cJ ho h hm fN0 gN0 fM0 gM0) H) (hD : va_D A (wW cI cZ cJ ho h hm fN0 gN0 fM0 gM0)) (hS : va_S A s.heap H locs) (hl : lv_has ls 7 [(0, .ref b), (1, .ref (h 0)), (2, .ref (hm 0)), (3, .ref ho), (4, .int i)]) (hf : cells + 1 ≤ room_1.cells ∧ slots + 6 ≤ room_1.slots) (hc0 : (0 : Int) ≤ (xs (i + 1).toNatClampNeg).toInt ∧ (xs (i + 1).toNatClampNeg).toInt ≤ (0 : Int)) (hc1 : (13 : Int) ≤ (xs (i + 2).toNatClampNeg).toInt ∧ (xs (i + 2).toNatClampNeg).toInt ≤ (2147483647 : Int)) (kk : ∀ (H1 : Heap) (locs1 : List Loc) (ls1 : Array Slot), va_S A s.heap H1 locs1 → lv_has ls1 7 [(0, .ref b), (1, .ref (h 0)), (2, .ref (hm 0)), (3, .ref ho), (4, .int i)] → W p l e room_1 s m args below meth c H1 locs1 (cells + 1) (slots + 6) Q (F0 m 840 ls1 [])) : W p l e room_1 s m args below meth c H locs cells slots Q (F0 m 128 ls []) := by
  refine lv_aload_n C.1.1 C.1.2.1 dl_128 rfl (lv_at hl 1 rfl) ?_
  refine lv_aload_n C.1.1 C.1.2.1 dl_129 rfl (lv_at hl 0 rfl) ?_
  refine lv_iload C.1.1 C.1.2.1 dl_130 (lv_at hl 4 rfl) ?_
  refine lv_iconst (v := 1) C.1.1 C.1.2.1 dl_132 (by decide) ?_
  refine lv_iadd C.1.1 C.1.2.1 dl_133 ?_
  refine va_sld C.1.1 C.1.2.1 hX hbl hbA hS i1 dl_134 ?_
  refine lv_aload_n C.1.1 C.1.2.1 dl_135 rfl (lv_at hl 0 rfl) ?_
  refine lv_iload C.1.1 C.1.2.1 dl_136 (lv_at hl 4 rfl) ?_
  refine lv_iconst (v := 2) C.1.1 C.1.2.1 dl_138 (by decide) ?_
  refine lv_iadd C.1.1 C.1.2.1 dl_139 ?_
  refine va_sld C.1.1 C.1.2.1 hX hbl hbA hS i2 dl_140 ?_
  refine lw_goS (n := 3) C (ww_prescribe (post := ck_poF fbFB gbFB h fN0 q_fc10.2) (px := ck_pxF fbFB gbFB fN0 q_fc10.2) (fun sz => x_fc10 hfl fN0 gN0 sz [.ref (h 0), .int (xs (i + 1).toNatClampNeg), .int (xs (i + 2).toNatClampNeg)] gI_B (List.forall_mem_cons.mpr ⟨⟨by decide, by decide⟩, List.forall_mem_cons.mpr ⟨⟨by decide, by decide⟩, List.forall_mem_cons.mpr ⟨⟨by decide, by decide⟩, fun _ h => absurd h List.not_mem_nil⟩⟩⟩) (⟨Or.inr ⟨0, List.mem_cons_self, rfl⟩, ⟨⟨_, rfl, hc0⟩, ⟨⟨_, rfl, hc1⟩, trivial⟩⟩⟩)) ⟨rfl, rfl, by decide, by decide⟩ (ck_noIF (by decide)) (ck_ex2F (by decide))) kw_379 kw_380 kw_0 kw_381 (by decide +kernel) rfl rfl ⟨Nat.le_of_ble_eq_true rfl, Nat.le_of_ble_eq_true rfl⟩ hP hD hS rfl hl.1 rfl dl_141 hf (fun r f1 g1 H1 locs1 hq hP hD hS => ?_)
  obtain rfl := ck_anS (n := 2) (v := 0) (show q_fc10.2.all (ck_an "java/lang/IllegalStateException" "java/lang/IllegalArgumentException" 2 0) = true by decide) (by decide) hq
  show W p l e room_1 s m args below meth c H1 locs1 (cells + 1) (slots + 6) Q (F0 m 144 ls [.int (Int32.ofNat 2)])
  refine lv_istore (lv' := [(5, .int (Int32.ofNat 2)), (0, .ref b), (1, .ref (h 0)), (2, .ref (hm 0)), (3, .ref ho), (4, .int i)]) C.1.1 C.1.2.1 dl_144 hl (by decide) rfl (fun ls hl => ?_)
  refine lv_aload_n C.1.1 C.1.2.1 dl_146 rfl (lv_at hl 3 rfl) ?_
  refine lv_aload_n C.1.1 C.1.2.1 dl_147 rfl (lv_at hl 1 rfl) ?_
  refine lv_iload C.1.1 C.1.2.1 dl_148 (lv_at hl 5 rfl) ?_
  refine lv_iconst (v := 1) C.1.1 C.1.2.1 dl_150 (by decide) ?_
  refine lv_iadd C.1.1 C.1.2.1 dl_151 ?_
  refine va_sld C.1.1 C.1.2.1 hX hbl hbA hS i1 dl_152 ?_
  refine lv_aload_n C.1.1 C.1.2.1 dl_153 rfl (lv_at hl 1 rfl) ?_
  refine lv_iload C.1.1 C.1.2.1 dl_154 (lv_at hl 5 rfl) ?_
  refine lv_iconst (v := 2) C.1.1 C.1.2.1 dl_156 (by decide) ?_
  refine lv_iadd C.1.1 C.1.2.1 dl_157 ?_
  refine va_sld C.1.1 C.1.2.1 hX hbl hbA hS i2 dl_158 ?_
  refine lm_goR (h := h) (hm := hm) (As := [.int (xs (i + 1).toNatClampNeg), .int (xs (i + 2).toNatClampNeg)]) (rest := []) C (c_fn7 xL_ok) (cwV 2 C.1.2.2.2.2 (kk_gV kw_857 kw_858 kw_859 kw_9 kw_860) rfl rfl rfl (by decide +kernel) ⟨Nat.le_of_ble_eq_true rfl, Nat.le_of_ble_eq_true rfl⟩) gI_FN (List.forall_mem_cons.mpr ⟨⟨by decide, by decide⟩, List.forall_mem_cons.mpr ⟨⟨by decide, by decide⟩, List.forall_mem_cons.mpr ⟨⟨by decide, by decide⟩, List.forall_mem_cons.mpr ⟨⟨by decide, by decide⟩, fun _ h => absurd h List.not_mem_nil⟩⟩⟩⟩) (⟨Or.inr ⟨0, List.mem_cons_self, rfl⟩, ⟨⟨_, rfl, hc0⟩, ⟨⟨_, rfl, hc1⟩, trivial⟩⟩⟩) hP hD hS rfl hl.1 rfl (Nat.le_of_ble_eq_true rfl) dl_159 hf (fun r f2 g2 H2 locs2 hq2 hJ2 hP hD hS => ?_)
  obtain ⟨o2, ho2, hr2, hT2⟩ := hq2
  have h8 := List.all_eq_true.mp (show q_fn7.2.all (fun o => ck_isV o && ck_val 0 2 o) = true by decide) o2 ho2
  simp only [Bool.and_eq_true] at h8
  obtain rfl := ck_isV_ok h8.1 hr2
  show W p l e room_1 s m args below meth c H2 locs2 (cells + 1) (slots + 6) Q (F0 m 162 ls [])
  have hc9 := ck_val_ok h8.2 hT2
  refine lv_aload_n C.1.1 C.1.2.1 dl_162 rfl (lv_at hl 3 rfl) ?_
  refine lm_goR (h := h) (hm := hm) (As := []) (rest := []) C (c_fn2 xL_ok) (cwV 0 C.1.2.2.2.2 (kk_gV kw_853 kw_854 kw_855 kw_9 kw_856) rfl rfl rfl (by decide +kernel) ⟨Nat.le_of_ble_eq_true rfl, Nat.le_of_ble_eq_true rfl⟩) hJ2 (List.forall_mem_cons.mpr ⟨⟨by show (2 : Int) ≤ (f2 0).toInt; omega, by show (f2 0).toInt ≤ (2 : Int); omega⟩, List.forall_mem_cons.mpr ⟨ck_in_top _, List.forall_mem_cons.mpr ⟨ck_in_top _, List.forall_mem_cons.mpr ⟨ck_in_top _, fun _ h => absurd h List.not_mem_nil⟩⟩⟩⟩) ⟨Or.inr ⟨0, List.mem_cons_self, rfl⟩, trivial⟩ hP hD hS rfl hl.1 rfl (Nat.le_of_ble_eq_true rfl) dl_163 hf (fun r f3 g3 H3 locs3 hq3 hJ3 hP hD hS => ?_)
  obtain ⟨o3, ho3, hr3, hT3⟩ := hq3
  obtain ⟨x3, rfl, hx3⟩ := ck_isN_ok (List.all_eq_true.mp (show q_fn2.2.all (ck_isN 2) = true by decide) o3 ho3) hr3
  show W p l e room_1 s m args below meth c H3 locs3 (cells + 1) (slots + 6) Q (F0 m 166 ls [.int x3])
  refine lv_iload C.1.1 C.1.2.1 dl_166 (lv_at hl 0 rfl) ?_
  refine lv_icmp_eq (tgt := 173) C.1.1 C.1.2.1 dl_168 (by decide) (fun _ => ?_) (fun hne => absurd (Int32.toInt_inj.mp (by rw [hx3]; rfl)) hne)
  refine lv_goto (tgt := 840) C.1.1 C.1.2.1 dl_173 (by decide) ?_
  exact kk H3 locs3 _ hS (lv_sub hl [1, 2, 3, 4, 5] rfl)
theorem lo_0_fc12 {p : Program} {l : Launch} {e : Env} {s : State} {m : MethodId} {args : Array Value} {below : List Frame} {meth : Method} {c : Code} {H : Heap} {locs : List Loc} {cells slots : Nat} {Q : State → Prop} {D : va_G} {B : Nat} {A : Nat → Prop} {h hm : Nat → Nat} {cI cZ cJ : ClassId} {ho : Nat} {ls : Array Slot} {b L : Nat} {xs : Nat → Int32} {i : Int32} {cx : Cond} (hfl : l.flags = flags0) (C : zz_Cx p m meth c code 7 ret s args (cx :: kk_W) "NightCyclerLaw" D vN (tyN cI cZ cJ) A B (xL B h)) (hX : va_X b L xs s s.heap) (hbl : b < s.heap.size) (hbA : ¬ A b) (i1 : vp_in (i + 1) L) (i2 : vp_in (i + 2) L) (hP : va_P D vN (wW cI cZ cJ ho h hm fN0 gN0 fM0 gM0) H) (hD : va_D A (wW cI cZ cJ ho h hm fN0 gN0 fM0 gM0)) (hS : va_S A s.heap H locs) (hl : lv_has ls 7 [(0, .ref b), (1, .ref (h 0)), (2, .ref (hm 0)), (3, .ref ho), (4, .int i)]) (hf : cells + 1 ≤ room_1.cells ∧ slots + 6 ≤ room_1.slots) (hc0 : (1 : Int) ≤ (xs (i + 1).toNatClampNeg).toInt ∧ (xs (i + 1).toNatClampNeg).toInt ≤ (1 : Int)) (hc1 : (-2147483648 : Int) ≤ (xs (i + 2).toNatClampNeg).toInt ∧ (xs (i + 2).toNatClampNeg).toInt ≤ (499 : Int)) (kk : ∀ (H1 : Heap) (locs1 : List Loc) (ls1 : Array Slot), va_S A s.heap H1 locs1 → lv_has ls1 7 [(0, .ref b), (1, .ref (h 0)), (2, .ref (hm 0)), (3, .ref ho), (4, .int i)] → W p l e room_1 s m args below meth c H1 locs1 (cells + 1) (slots + 6) Q (F0 m 840 ls1 [])) : W p l e room_1 s m args below meth c H locs cells slots Q (F0 m 128 ls []) := by
  refine lv_aload_n C.1.1 C.1.2.1 dl_128 rfl (lv_at hl 1 rfl) ?_
  refine lv_aload_n C.1.1 C.1.2.1 dl_129 rfl (lv_at hl 0 rfl) ?_
  refine lv_iload C.1.1 C.1.2.1 dl_130 (lv_at hl 4 rfl) ?_
  refine lv_iconst (v := 1) C.1.1 C.1.2.1 dl_132 (by decide) ?_
  refine lv_iadd C.1.1 C.1.2.1 dl_133 ?_
  refine va_sld C.1.1 C.1.2.1 hX hbl hbA hS i1 dl_134 ?_
  refine lv_aload_n C.1.1 C.1.2.1 dl_135 rfl (lv_at hl 0 rfl) ?_
  refine lv_iload C.1.1 C.1.2.1 dl_136 (lv_at hl 4 rfl) ?_
  refine lv_iconst (v := 2) C.1.1 C.1.2.1 dl_138 (by decide) ?_
  refine lv_iadd C.1.1 C.1.2.1 dl_139 ?_
  refine va_sld C.1.1 C.1.2.1 hX hbl hbA hS i2 dl_140 ?_
  refine lw_goS (n := 3) C (ww_prescribe (post := ck_poF fbFB gbFB h fN0 q_fc12.2) (px := ck_pxF fbFB gbFB fN0 q_fc12.2) (fun sz => x_fc12 hfl fN0 gN0 sz [.ref (h 0), .int (xs (i + 1).toNatClampNeg), .int (xs (i + 2).toNatClampNeg)] gI_B (List.forall_mem_cons.mpr ⟨⟨by decide, by decide⟩, List.forall_mem_cons.mpr ⟨⟨by decide, by decide⟩, List.forall_mem_cons.mpr ⟨⟨by decide, by decide⟩, fun _ h => absurd h List.not_mem_nil⟩⟩⟩) (⟨Or.inr ⟨0, List.mem_cons_self, rfl⟩, ⟨⟨_, rfl, hc0⟩, ⟨⟨_, rfl, hc1⟩, trivial⟩⟩⟩)) ⟨rfl, rfl, by decide, by decide⟩ (ck_noIF (by decide)) (ck_ex2F (by decide))) kw_379 kw_380 kw_0 kw_381 (by decide +kernel) rfl rfl ⟨Nat.le_of_ble_eq_true rfl, Nat.le_of_ble_eq_true rfl⟩ hP hD hS rfl hl.1 rfl dl_141 hf (fun r f1 g1 H1 locs1 hq hP hD hS => ?_)
  obtain rfl := ck_anS (n := 2) (v := 0) (show q_fc12.2.all (ck_an "java/lang/IllegalStateException" "java/lang/IllegalArgumentException" 2 0) = true by decide) (by decide) hq
  show W p l e room_1 s m args below meth c H1 locs1 (cells + 1) (slots + 6) Q (F0 m 144 ls [.int (Int32.ofNat 2)])
  refine lv_istore (lv' := [(5, .int (Int32.ofNat 2)), (0, .ref b), (1, .ref (h 0)), (2, .ref (hm 0)), (3, .ref ho), (4, .int i)]) C.1.1 C.1.2.1 dl_144 hl (by decide) rfl (fun ls hl => ?_)
  refine lv_aload_n C.1.1 C.1.2.1 dl_146 rfl (lv_at hl 3 rfl) ?_
  refine lv_aload_n C.1.1 C.1.2.1 dl_147 rfl (lv_at hl 1 rfl) ?_
  refine lv_iload C.1.1 C.1.2.1 dl_148 (lv_at hl 5 rfl) ?_
  refine lv_iconst (v := 1) C.1.1 C.1.2.1 dl_150 (by decide) ?_
  refine lv_iadd C.1.1 C.1.2.1 dl_151 ?_
  refine va_sld C.1.1 C.1.2.1 hX hbl hbA hS i1 dl_152 ?_
  refine lv_aload_n C.1.1 C.1.2.1 dl_153 rfl (lv_at hl 1 rfl) ?_
  refine lv_iload C.1.1 C.1.2.1 dl_154 (lv_at hl 5 rfl) ?_
  refine lv_iconst (v := 2) C.1.1 C.1.2.1 dl_156 (by decide) ?_
  refine lv_iadd C.1.1 C.1.2.1 dl_157 ?_
  refine va_sld C.1.1 C.1.2.1 hX hbl hbA hS i2 dl_158 ?_
  refine lm_goR (h := h) (hm := hm) (As := [.int (xs (i + 1).toNatClampNeg), .int (xs (i + 2).toNatClampNeg)]) (rest := []) C (c_fn8 xL_ok) (cwV 2 C.1.2.2.2.2 (kk_gV kw_857 kw_858 kw_859 kw_9 kw_860) rfl rfl rfl (by decide +kernel) ⟨Nat.le_of_ble_eq_true rfl, Nat.le_of_ble_eq_true rfl⟩) gI_FN (List.forall_mem_cons.mpr ⟨⟨by decide, by decide⟩, List.forall_mem_cons.mpr ⟨⟨by decide, by decide⟩, List.forall_mem_cons.mpr ⟨⟨by decide, by decide⟩, List.forall_mem_cons.mpr ⟨⟨by decide, by decide⟩, fun _ h => absurd h List.not_mem_nil⟩⟩⟩⟩) (⟨Or.inr ⟨0, List.mem_cons_self, rfl⟩, ⟨⟨_, rfl, hc0⟩, ⟨⟨_, rfl, hc1⟩, trivial⟩⟩⟩) hP hD hS rfl hl.1 rfl (Nat.le_of_ble_eq_true rfl) dl_159 hf (fun r f2 g2 H2 locs2 hq2 hJ2 hP hD hS => ?_)
  obtain ⟨o2, ho2, hr2, hT2⟩ := hq2
  have h8 := List.all_eq_true.mp (show q_fn8.2.all (fun o => ck_isV o && ck_val 0 2 o) = true by decide) o2 ho2
  simp only [Bool.and_eq_true] at h8
  obtain rfl := ck_isV_ok h8.1 hr2
  show W p l e room_1 s m args below meth c H2 locs2 (cells + 1) (slots + 6) Q (F0 m 162 ls [])
  have hc9 := ck_val_ok h8.2 hT2
  refine lv_aload_n C.1.1 C.1.2.1 dl_162 rfl (lv_at hl 3 rfl) ?_
  refine lm_goR (h := h) (hm := hm) (As := []) (rest := []) C (c_fn2 xL_ok) (cwV 0 C.1.2.2.2.2 (kk_gV kw_853 kw_854 kw_855 kw_9 kw_856) rfl rfl rfl (by decide +kernel) ⟨Nat.le_of_ble_eq_true rfl, Nat.le_of_ble_eq_true rfl⟩) hJ2 (List.forall_mem_cons.mpr ⟨⟨by show (2 : Int) ≤ (f2 0).toInt; omega, by show (f2 0).toInt ≤ (2 : Int); omega⟩, List.forall_mem_cons.mpr ⟨ck_in_top _, List.forall_mem_cons.mpr ⟨ck_in_top _, List.forall_mem_cons.mpr ⟨ck_in_top _, fun _ h => absurd h List.not_mem_nil⟩⟩⟩⟩) ⟨Or.inr ⟨0, List.mem_cons_self, rfl⟩, trivial⟩ hP hD hS rfl hl.1 rfl (Nat.le_of_ble_eq_true rfl) dl_163 hf (fun r f3 g3 H3 locs3 hq3 hJ3 hP hD hS => ?_)
  obtain ⟨o3, ho3, hr3, hT3⟩ := hq3
  obtain ⟨x3, rfl, hx3⟩ := ck_isN_ok (List.all_eq_true.mp (show q_fn2.2.all (ck_isN 2) = true by decide) o3 ho3) hr3
  show W p l e room_1 s m args below meth c H3 locs3 (cells + 1) (slots + 6) Q (F0 m 166 ls [.int x3])
  refine lv_iload C.1.1 C.1.2.1 dl_166 (lv_at hl 0 rfl) ?_
  refine lv_icmp_eq (tgt := 173) C.1.1 C.1.2.1 dl_168 (by decide) (fun _ => ?_) (fun hne => absurd (Int32.toInt_inj.mp (by rw [hx3]; rfl)) hne)
  refine lv_goto (tgt := 840) C.1.1 C.1.2.1 dl_173 (by decide) ?_
  exact kk H3 locs3 _ hS (lv_sub hl [1, 2, 3, 4, 5] rfl)
theorem lo_0_fc15 {p : Program} {l : Launch} {e : Env} {s : State} {m : MethodId} {args : Array Value} {below : List Frame} {meth : Method} {c : Code} {H : Heap} {locs : List Loc} {cells slots : Nat} {Q : State → Prop} {D : va_G} {B : Nat} {A : Nat → Prop} {h hm : Nat → Nat} {cI cZ cJ : ClassId} {ho : Nat} {ls : Array Slot} {b L : Nat} {xs : Nat → Int32} {i : Int32} {cx : Cond} (hfl : l.flags = flags0) (C : zz_Cx p m meth c code 7 ret s args (cx :: kk_W) "NightCyclerLaw" D vN (tyN cI cZ cJ) A B (xL B h)) (hX : va_X b L xs s s.heap) (hbl : b < s.heap.size) (hbA : ¬ A b) (i1 : vp_in (i + 1) L) (i2 : vp_in (i + 2) L) (hP : va_P D vN (wW cI cZ cJ ho h hm fN0 gN0 fM0 gM0) H) (hD : va_D A (wW cI cZ cJ ho h hm fN0 gN0 fM0 gM0)) (hS : va_S A s.heap H locs) (hl : lv_has ls 7 [(0, .ref b), (1, .ref (h 0)), (2, .ref (hm 0)), (3, .ref ho), (4, .int i)]) (hf : cells + 1 ≤ room_1.cells ∧ slots + 6 ≤ room_1.slots) (hc0 : (1 : Int) ≤ (xs (i + 1).toNatClampNeg).toInt ∧ (xs (i + 1).toNatClampNeg).toInt ≤ (1 : Int)) (hc1 : (500 : Int) ≤ (xs (i + 2).toNatClampNeg).toInt ∧ (xs (i + 2).toNatClampNeg).toInt ≤ (30000 : Int)) (kk : ∀ (H1 : Heap) (locs1 : List Loc) (ls1 : Array Slot), va_S A s.heap H1 locs1 → lv_has ls1 7 [(0, .ref b), (1, .ref (h 0)), (2, .ref (hm 0)), (3, .ref ho), (4, .int i)] → W p l e room_1 s m args below meth c H1 locs1 (cells + 1) (slots + 6) Q (F0 m 840 ls1 [])) : W p l e room_1 s m args below meth c H locs cells slots Q (F0 m 128 ls []) := by
  refine lv_aload_n C.1.1 C.1.2.1 dl_128 rfl (lv_at hl 1 rfl) ?_
  refine lv_aload_n C.1.1 C.1.2.1 dl_129 rfl (lv_at hl 0 rfl) ?_
  refine lv_iload C.1.1 C.1.2.1 dl_130 (lv_at hl 4 rfl) ?_
  refine lv_iconst (v := 1) C.1.1 C.1.2.1 dl_132 (by decide) ?_
  refine lv_iadd C.1.1 C.1.2.1 dl_133 ?_
  refine va_sld C.1.1 C.1.2.1 hX hbl hbA hS i1 dl_134 ?_
  refine lv_aload_n C.1.1 C.1.2.1 dl_135 rfl (lv_at hl 0 rfl) ?_
  refine lv_iload C.1.1 C.1.2.1 dl_136 (lv_at hl 4 rfl) ?_
  refine lv_iconst (v := 2) C.1.1 C.1.2.1 dl_138 (by decide) ?_
  refine lv_iadd C.1.1 C.1.2.1 dl_139 ?_
  refine va_sld C.1.1 C.1.2.1 hX hbl hbA hS i2 dl_140 ?_
  refine lw_goS (n := 3) C (ww_prescribe (post := ck_poF fbFB gbFB h fN0 q_fc15.2) (px := ck_pxF fbFB gbFB fN0 q_fc15.2) (fun sz => x_fc15 hfl fN0 gN0 sz [.ref (h 0), .int (xs (i + 1).toNatClampNeg), .int (xs (i + 2).toNatClampNeg)] gI_B (List.forall_mem_cons.mpr ⟨⟨by decide, by decide⟩, List.forall_mem_cons.mpr ⟨⟨by decide, by decide⟩, List.forall_mem_cons.mpr ⟨⟨by decide, by decide⟩, fun _ h => absurd h List.not_mem_nil⟩⟩⟩) (⟨Or.inr ⟨0, List.mem_cons_self, rfl⟩, ⟨⟨_, rfl, hc0⟩, ⟨⟨_, rfl, hc1⟩, trivial⟩⟩⟩)) ⟨rfl, rfl, by decide, by decide⟩ (ck_noIF (by decide)) (ck_ex2F (by decide))) kw_379 kw_380 kw_0 kw_381 (by decide +kernel) rfl rfl ⟨Nat.le_of_ble_eq_true rfl, Nat.le_of_ble_eq_true rfl⟩ hP hD hS rfl hl.1 rfl dl_141 hf (fun r f1 g1 H1 locs1 hq hP hD hS => ?_)
  obtain rfl := ck_anS (n := 0) (v := 0) (show q_fc15.2.all (ck_an "java/lang/IllegalStateException" "java/lang/IllegalArgumentException" 0 0) = true by decide) (by decide) hq
  show W p l e room_1 s m args below meth c H1 locs1 (cells + 1) (slots + 6) Q (F0 m 144 ls [.int (Int32.ofNat 0)])
  refine lv_istore (lv' := [(5, .int (Int32.ofNat 0)), (0, .ref b), (1, .ref (h 0)), (2, .ref (hm 0)), (3, .ref ho), (4, .int i)]) C.1.1 C.1.2.1 dl_144 hl (by decide) rfl (fun ls hl => ?_)
  refine lv_aload_n C.1.1 C.1.2.1 dl_146 rfl (lv_at hl 3 rfl) ?_
  refine lv_aload_n C.1.1 C.1.2.1 dl_147 rfl (lv_at hl 1 rfl) ?_
  refine lv_iload C.1.1 C.1.2.1 dl_148 (lv_at hl 5 rfl) ?_
  refine lv_iconst (v := 1) C.1.1 C.1.2.1 dl_150 (by decide) ?_
  refine lv_iadd C.1.1 C.1.2.1 dl_151 ?_
  refine va_sld C.1.1 C.1.2.1 hX hbl hbA hS i1 dl_152 ?_
  refine lv_aload_n C.1.1 C.1.2.1 dl_153 rfl (lv_at hl 1 rfl) ?_
  refine lv_iload C.1.1 C.1.2.1 dl_154 (lv_at hl 5 rfl) ?_
  refine lv_iconst (v := 2) C.1.1 C.1.2.1 dl_156 (by decide) ?_
  refine lv_iadd C.1.1 C.1.2.1 dl_157 ?_
  refine va_sld C.1.1 C.1.2.1 hX hbl hbA hS i2 dl_158 ?_
  refine lm_goR (h := h) (hm := hm) (As := [.int (xs (i + 1).toNatClampNeg), .int (xs (i + 2).toNatClampNeg)]) (rest := []) C (c_fn9 xL_ok) (cwV 2 C.1.2.2.2.2 (kk_gV kw_857 kw_858 kw_859 kw_9 kw_860) rfl rfl rfl (by decide +kernel) ⟨Nat.le_of_ble_eq_true rfl, Nat.le_of_ble_eq_true rfl⟩) gI_FN (List.forall_mem_cons.mpr ⟨⟨by decide, by decide⟩, List.forall_mem_cons.mpr ⟨⟨by decide, by decide⟩, List.forall_mem_cons.mpr ⟨⟨by decide, by decide⟩, List.forall_mem_cons.mpr ⟨⟨by decide, by decide⟩, fun _ h => absurd h List.not_mem_nil⟩⟩⟩⟩) (⟨Or.inr ⟨0, List.mem_cons_self, rfl⟩, ⟨⟨_, rfl, hc0⟩, ⟨⟨_, rfl, hc1⟩, trivial⟩⟩⟩) hP hD hS rfl hl.1 rfl (Nat.le_of_ble_eq_true rfl) dl_159 hf (fun r f2 g2 H2 locs2 hq2 hJ2 hP hD hS => ?_)
  obtain ⟨o2, ho2, hr2, hT2⟩ := hq2
  have h8 := List.all_eq_true.mp (show q_fn9.2.all (fun o => ck_isV o && ck_val 0 0 o) = true by decide) o2 ho2
  simp only [Bool.and_eq_true] at h8
  obtain rfl := ck_isV_ok h8.1 hr2
  show W p l e room_1 s m args below meth c H2 locs2 (cells + 1) (slots + 6) Q (F0 m 162 ls [])
  have hc9 := ck_val_ok h8.2 hT2
  refine lv_aload_n C.1.1 C.1.2.1 dl_162 rfl (lv_at hl 3 rfl) ?_
  refine lm_goR (h := h) (hm := hm) (As := []) (rest := []) C (c_fn0 xL_ok) (cwV 0 C.1.2.2.2.2 (kk_gV kw_853 kw_854 kw_855 kw_9 kw_856) rfl rfl rfl (by decide +kernel) ⟨Nat.le_of_ble_eq_true rfl, Nat.le_of_ble_eq_true rfl⟩) hJ2 (List.forall_mem_cons.mpr ⟨⟨by show (0 : Int) ≤ (f2 0).toInt; omega, by show (f2 0).toInt ≤ (0 : Int); omega⟩, List.forall_mem_cons.mpr ⟨ck_in_top _, List.forall_mem_cons.mpr ⟨ck_in_top _, List.forall_mem_cons.mpr ⟨ck_in_top _, fun _ h => absurd h List.not_mem_nil⟩⟩⟩⟩) ⟨Or.inr ⟨0, List.mem_cons_self, rfl⟩, trivial⟩ hP hD hS rfl hl.1 rfl (Nat.le_of_ble_eq_true rfl) dl_163 hf (fun r f3 g3 H3 locs3 hq3 hJ3 hP hD hS => ?_)
  obtain ⟨o3, ho3, hr3, hT3⟩ := hq3
  obtain ⟨x3, rfl, hx3⟩ := ck_isN_ok (List.all_eq_true.mp (show q_fn0.2.all (ck_isN 0) = true by decide) o3 ho3) hr3
  show W p l e room_1 s m args below meth c H3 locs3 (cells + 1) (slots + 6) Q (F0 m 166 ls [.int x3])
  refine lv_iload C.1.1 C.1.2.1 dl_166 (lv_at hl 0 rfl) ?_
  refine lv_icmp_eq (tgt := 173) C.1.1 C.1.2.1 dl_168 (by decide) (fun _ => ?_) (fun hne => absurd (Int32.toInt_inj.mp (by rw [hx3]; rfl)) hne)
  refine lv_goto (tgt := 840) C.1.1 C.1.2.1 dl_173 (by decide) ?_
  exact kk H3 locs3 _ hS (lv_sub hl [1, 2, 3, 4, 5] rfl)
theorem lo_0_fc17 {p : Program} {l : Launch} {e : Env} {s : State} {m : MethodId} {args : Array Value} {below : List Frame} {meth : Method} {c : Code} {H : Heap} {locs : List Loc} {cells slots : Nat} {Q : State → Prop} {D : va_G} {B : Nat} {A : Nat → Prop} {h hm : Nat → Nat} {cI cZ cJ : ClassId} {ho : Nat} {ls : Array Slot} {b L : Nat} {xs : Nat → Int32} {i : Int32} {cx : Cond} (hfl : l.flags = flags0) (C : zz_Cx p m meth c code 7 ret s args (cx :: kk_W) "NightCyclerLaw" D vN (tyN cI cZ cJ) A B (xL B h)) (hX : va_X b L xs s s.heap) (hbl : b < s.heap.size) (hbA : ¬ A b) (i1 : vp_in (i + 1) L) (i2 : vp_in (i + 2) L) (hP : va_P D vN (wW cI cZ cJ ho h hm fN0 gN0 fM0 gM0) H) (hD : va_D A (wW cI cZ cJ ho h hm fN0 gN0 fM0 gM0)) (hS : va_S A s.heap H locs) (hl : lv_has ls 7 [(0, .ref b), (1, .ref (h 0)), (2, .ref (hm 0)), (3, .ref ho), (4, .int i)]) (hf : cells + 1 ≤ room_1.cells ∧ slots + 6 ≤ room_1.slots) (hc0 : (1 : Int) ≤ (xs (i + 1).toNatClampNeg).toInt ∧ (xs (i + 1).toNatClampNeg).toInt ≤ (1 : Int)) (hc1 : (30001 : Int) ≤ (xs (i + 2).toNatClampNeg).toInt ∧ (xs (i + 2).toNatClampNeg).toInt ≤ (2147483647 : Int)) (kk : ∀ (H1 : Heap) (locs1 : List Loc) (ls1 : Array Slot), va_S A s.heap H1 locs1 → lv_has ls1 7 [(0, .ref b), (1, .ref (h 0)), (2, .ref (hm 0)), (3, .ref ho), (4, .int i)] → W p l e room_1 s m args below meth c H1 locs1 (cells + 1) (slots + 6) Q (F0 m 840 ls1 [])) : W p l e room_1 s m args below meth c H locs cells slots Q (F0 m 128 ls []) := by
  refine lv_aload_n C.1.1 C.1.2.1 dl_128 rfl (lv_at hl 1 rfl) ?_
  refine lv_aload_n C.1.1 C.1.2.1 dl_129 rfl (lv_at hl 0 rfl) ?_
  refine lv_iload C.1.1 C.1.2.1 dl_130 (lv_at hl 4 rfl) ?_
  refine lv_iconst (v := 1) C.1.1 C.1.2.1 dl_132 (by decide) ?_
  refine lv_iadd C.1.1 C.1.2.1 dl_133 ?_
  refine va_sld C.1.1 C.1.2.1 hX hbl hbA hS i1 dl_134 ?_
  refine lv_aload_n C.1.1 C.1.2.1 dl_135 rfl (lv_at hl 0 rfl) ?_
  refine lv_iload C.1.1 C.1.2.1 dl_136 (lv_at hl 4 rfl) ?_
  refine lv_iconst (v := 2) C.1.1 C.1.2.1 dl_138 (by decide) ?_
  refine lv_iadd C.1.1 C.1.2.1 dl_139 ?_
  refine va_sld C.1.1 C.1.2.1 hX hbl hbA hS i2 dl_140 ?_
  refine lw_goS (n := 3) C (ww_prescribe (post := ck_poF fbFB gbFB h fN0 q_fc17.2) (px := ck_pxF fbFB gbFB fN0 q_fc17.2) (fun sz => x_fc17 hfl fN0 gN0 sz [.ref (h 0), .int (xs (i + 1).toNatClampNeg), .int (xs (i + 2).toNatClampNeg)] gI_B (List.forall_mem_cons.mpr ⟨⟨by decide, by decide⟩, List.forall_mem_cons.mpr ⟨⟨by decide, by decide⟩, List.forall_mem_cons.mpr ⟨⟨by decide, by decide⟩, fun _ h => absurd h List.not_mem_nil⟩⟩⟩) (⟨Or.inr ⟨0, List.mem_cons_self, rfl⟩, ⟨⟨_, rfl, hc0⟩, ⟨⟨_, rfl, hc1⟩, trivial⟩⟩⟩)) ⟨rfl, rfl, by decide, by decide⟩ (ck_noIF (by decide)) (ck_ex2F (by decide))) kw_379 kw_380 kw_0 kw_381 (by decide +kernel) rfl rfl ⟨Nat.le_of_ble_eq_true rfl, Nat.le_of_ble_eq_true rfl⟩ hP hD hS rfl hl.1 rfl dl_141 hf (fun r f1 g1 H1 locs1 hq hP hD hS => ?_)
  obtain rfl := ck_anS (n := 2) (v := 0) (show q_fc17.2.all (ck_an "java/lang/IllegalStateException" "java/lang/IllegalArgumentException" 2 0) = true by decide) (by decide) hq
  show W p l e room_1 s m args below meth c H1 locs1 (cells + 1) (slots + 6) Q (F0 m 144 ls [.int (Int32.ofNat 2)])
  refine lv_istore (lv' := [(5, .int (Int32.ofNat 2)), (0, .ref b), (1, .ref (h 0)), (2, .ref (hm 0)), (3, .ref ho), (4, .int i)]) C.1.1 C.1.2.1 dl_144 hl (by decide) rfl (fun ls hl => ?_)
  refine lv_aload_n C.1.1 C.1.2.1 dl_146 rfl (lv_at hl 3 rfl) ?_
  refine lv_aload_n C.1.1 C.1.2.1 dl_147 rfl (lv_at hl 1 rfl) ?_
  refine lv_iload C.1.1 C.1.2.1 dl_148 (lv_at hl 5 rfl) ?_
  refine lv_iconst (v := 1) C.1.1 C.1.2.1 dl_150 (by decide) ?_
  refine lv_iadd C.1.1 C.1.2.1 dl_151 ?_
  refine va_sld C.1.1 C.1.2.1 hX hbl hbA hS i1 dl_152 ?_
  refine lv_aload_n C.1.1 C.1.2.1 dl_153 rfl (lv_at hl 1 rfl) ?_
  refine lv_iload C.1.1 C.1.2.1 dl_154 (lv_at hl 5 rfl) ?_
  refine lv_iconst (v := 2) C.1.1 C.1.2.1 dl_156 (by decide) ?_
  refine lv_iadd C.1.1 C.1.2.1 dl_157 ?_
  refine va_sld C.1.1 C.1.2.1 hX hbl hbA hS i2 dl_158 ?_
  refine lm_goR (h := h) (hm := hm) (As := [.int (xs (i + 1).toNatClampNeg), .int (xs (i + 2).toNatClampNeg)]) (rest := []) C (c_fn10 xL_ok) (cwV 2 C.1.2.2.2.2 (kk_gV kw_857 kw_858 kw_859 kw_9 kw_860) rfl rfl rfl (by decide +kernel) ⟨Nat.le_of_ble_eq_true rfl, Nat.le_of_ble_eq_true rfl⟩) gI_FN (List.forall_mem_cons.mpr ⟨⟨by decide, by decide⟩, List.forall_mem_cons.mpr ⟨⟨by decide, by decide⟩, List.forall_mem_cons.mpr ⟨⟨by decide, by decide⟩, List.forall_mem_cons.mpr ⟨⟨by decide, by decide⟩, fun _ h => absurd h List.not_mem_nil⟩⟩⟩⟩) (⟨Or.inr ⟨0, List.mem_cons_self, rfl⟩, ⟨⟨_, rfl, hc0⟩, ⟨⟨_, rfl, hc1⟩, trivial⟩⟩⟩) hP hD hS rfl hl.1 rfl (Nat.le_of_ble_eq_true rfl) dl_159 hf (fun r f2 g2 H2 locs2 hq2 hJ2 hP hD hS => ?_)
  obtain ⟨o2, ho2, hr2, hT2⟩ := hq2
  have h8 := List.all_eq_true.mp (show q_fn10.2.all (fun o => ck_isV o && ck_val 0 2 o) = true by decide) o2 ho2
  simp only [Bool.and_eq_true] at h8
  obtain rfl := ck_isV_ok h8.1 hr2
  show W p l e room_1 s m args below meth c H2 locs2 (cells + 1) (slots + 6) Q (F0 m 162 ls [])
  have hc9 := ck_val_ok h8.2 hT2
  refine lv_aload_n C.1.1 C.1.2.1 dl_162 rfl (lv_at hl 3 rfl) ?_
  refine lm_goR (h := h) (hm := hm) (As := []) (rest := []) C (c_fn2 xL_ok) (cwV 0 C.1.2.2.2.2 (kk_gV kw_853 kw_854 kw_855 kw_9 kw_856) rfl rfl rfl (by decide +kernel) ⟨Nat.le_of_ble_eq_true rfl, Nat.le_of_ble_eq_true rfl⟩) hJ2 (List.forall_mem_cons.mpr ⟨⟨by show (2 : Int) ≤ (f2 0).toInt; omega, by show (f2 0).toInt ≤ (2 : Int); omega⟩, List.forall_mem_cons.mpr ⟨ck_in_top _, List.forall_mem_cons.mpr ⟨ck_in_top _, List.forall_mem_cons.mpr ⟨ck_in_top _, fun _ h => absurd h List.not_mem_nil⟩⟩⟩⟩) ⟨Or.inr ⟨0, List.mem_cons_self, rfl⟩, trivial⟩ hP hD hS rfl hl.1 rfl (Nat.le_of_ble_eq_true rfl) dl_163 hf (fun r f3 g3 H3 locs3 hq3 hJ3 hP hD hS => ?_)
  obtain ⟨o3, ho3, hr3, hT3⟩ := hq3
  obtain ⟨x3, rfl, hx3⟩ := ck_isN_ok (List.all_eq_true.mp (show q_fn2.2.all (ck_isN 2) = true by decide) o3 ho3) hr3
  show W p l e room_1 s m args below meth c H3 locs3 (cells + 1) (slots + 6) Q (F0 m 166 ls [.int x3])
  refine lv_iload C.1.1 C.1.2.1 dl_166 (lv_at hl 0 rfl) ?_
  refine lv_icmp_eq (tgt := 173) C.1.1 C.1.2.1 dl_168 (by decide) (fun _ => ?_) (fun hne => absurd (Int32.toInt_inj.mp (by rw [hx3]; rfl)) hne)
  refine lv_goto (tgt := 840) C.1.1 C.1.2.1 dl_173 (by decide) ?_
  exact kk H3 locs3 _ hS (lv_sub hl [1, 2, 3, 4, 5] rfl)
theorem lo_0_fc19 {p : Program} {l : Launch} {e : Env} {s : State} {m : MethodId} {args : Array Value} {below : List Frame} {meth : Method} {c : Code} {H : Heap} {locs : List Loc} {cells slots : Nat} {Q : State → Prop} {D : va_G} {B : Nat} {A : Nat → Prop} {h hm : Nat → Nat} {cI cZ cJ : ClassId} {ho : Nat} {ls : Array Slot} {b L : Nat} {xs : Nat → Int32} {i : Int32} {cx : Cond} (hfl : l.flags = flags0) (C : zz_Cx p m meth c code 7 ret s args (cx :: kk_W) "NightCyclerLaw" D vN (tyN cI cZ cJ) A B (xL B h)) (hX : va_X b L xs s s.heap) (hbl : b < s.heap.size) (hbA : ¬ A b) (i1 : vp_in (i + 1) L) (i2 : vp_in (i + 2) L) (hP : va_P D vN (wW cI cZ cJ ho h hm fN0 gN0 fM0 gM0) H) (hD : va_D A (wW cI cZ cJ ho h hm fN0 gN0 fM0 gM0)) (hS : va_S A s.heap H locs) (hl : lv_has ls 7 [(0, .ref b), (1, .ref (h 0)), (2, .ref (hm 0)), (3, .ref ho), (4, .int i)]) (hf : cells + 1 ≤ room_1.cells ∧ slots + 6 ≤ room_1.slots) (hc0 : (2 : Int) ≤ (xs (i + 1).toNatClampNeg).toInt ∧ (xs (i + 1).toNatClampNeg).toInt ≤ (2 : Int)) (hc1 : (-2147483648 : Int) ≤ (xs (i + 2).toNatClampNeg).toInt ∧ (xs (i + 2).toNatClampNeg).toInt ≤ (0 : Int)) (kk : ∀ (H1 : Heap) (locs1 : List Loc) (ls1 : Array Slot), va_S A s.heap H1 locs1 → lv_has ls1 7 [(0, .ref b), (1, .ref (h 0)), (2, .ref (hm 0)), (3, .ref ho), (4, .int i)] → W p l e room_1 s m args below meth c H1 locs1 (cells + 1) (slots + 6) Q (F0 m 840 ls1 [])) : W p l e room_1 s m args below meth c H locs cells slots Q (F0 m 128 ls []) := by
  refine lv_aload_n C.1.1 C.1.2.1 dl_128 rfl (lv_at hl 1 rfl) ?_
  refine lv_aload_n C.1.1 C.1.2.1 dl_129 rfl (lv_at hl 0 rfl) ?_
  refine lv_iload C.1.1 C.1.2.1 dl_130 (lv_at hl 4 rfl) ?_
  refine lv_iconst (v := 1) C.1.1 C.1.2.1 dl_132 (by decide) ?_
  refine lv_iadd C.1.1 C.1.2.1 dl_133 ?_
  refine va_sld C.1.1 C.1.2.1 hX hbl hbA hS i1 dl_134 ?_
  refine lv_aload_n C.1.1 C.1.2.1 dl_135 rfl (lv_at hl 0 rfl) ?_
  refine lv_iload C.1.1 C.1.2.1 dl_136 (lv_at hl 4 rfl) ?_
  refine lv_iconst (v := 2) C.1.1 C.1.2.1 dl_138 (by decide) ?_
  refine lv_iadd C.1.1 C.1.2.1 dl_139 ?_
  refine va_sld C.1.1 C.1.2.1 hX hbl hbA hS i2 dl_140 ?_
  refine lw_goS (n := 3) C (ww_prescribe (post := ck_poF fbFB gbFB h fN0 q_fc19.2) (px := ck_pxF fbFB gbFB fN0 q_fc19.2) (fun sz => x_fc19 hfl fN0 gN0 sz [.ref (h 0), .int (xs (i + 1).toNatClampNeg), .int (xs (i + 2).toNatClampNeg)] gI_B (List.forall_mem_cons.mpr ⟨⟨by decide, by decide⟩, List.forall_mem_cons.mpr ⟨⟨by decide, by decide⟩, List.forall_mem_cons.mpr ⟨⟨by decide, by decide⟩, fun _ h => absurd h List.not_mem_nil⟩⟩⟩) (⟨Or.inr ⟨0, List.mem_cons_self, rfl⟩, ⟨⟨_, rfl, hc0⟩, ⟨⟨_, rfl, hc1⟩, trivial⟩⟩⟩)) ⟨rfl, rfl, by decide, by decide⟩ (ck_noIF (by decide)) (ck_ex2F (by decide))) kw_379 kw_380 kw_0 kw_381 (by decide +kernel) rfl rfl ⟨Nat.le_of_ble_eq_true rfl, Nat.le_of_ble_eq_true rfl⟩ hP hD hS rfl hl.1 rfl dl_141 hf (fun r f1 g1 H1 locs1 hq hP hD hS => ?_)
  obtain rfl := ck_anS (n := 2) (v := 0) (show q_fc19.2.all (ck_an "java/lang/IllegalStateException" "java/lang/IllegalArgumentException" 2 0) = true by decide) (by decide) hq
  show W p l e room_1 s m args below meth c H1 locs1 (cells + 1) (slots + 6) Q (F0 m 144 ls [.int (Int32.ofNat 2)])
  refine lv_istore (lv' := [(5, .int (Int32.ofNat 2)), (0, .ref b), (1, .ref (h 0)), (2, .ref (hm 0)), (3, .ref ho), (4, .int i)]) C.1.1 C.1.2.1 dl_144 hl (by decide) rfl (fun ls hl => ?_)
  refine lv_aload_n C.1.1 C.1.2.1 dl_146 rfl (lv_at hl 3 rfl) ?_
  refine lv_aload_n C.1.1 C.1.2.1 dl_147 rfl (lv_at hl 1 rfl) ?_
  refine lv_iload C.1.1 C.1.2.1 dl_148 (lv_at hl 5 rfl) ?_
  refine lv_iconst (v := 1) C.1.1 C.1.2.1 dl_150 (by decide) ?_
  refine lv_iadd C.1.1 C.1.2.1 dl_151 ?_
  refine va_sld C.1.1 C.1.2.1 hX hbl hbA hS i1 dl_152 ?_
  refine lv_aload_n C.1.1 C.1.2.1 dl_153 rfl (lv_at hl 1 rfl) ?_
  refine lv_iload C.1.1 C.1.2.1 dl_154 (lv_at hl 5 rfl) ?_
  refine lv_iconst (v := 2) C.1.1 C.1.2.1 dl_156 (by decide) ?_
  refine lv_iadd C.1.1 C.1.2.1 dl_157 ?_
  refine va_sld C.1.1 C.1.2.1 hX hbl hbA hS i2 dl_158 ?_
  refine lm_goR (h := h) (hm := hm) (As := [.int (xs (i + 1).toNatClampNeg), .int (xs (i + 2).toNatClampNeg)]) (rest := []) C (c_fn11 xL_ok) (cwV 2 C.1.2.2.2.2 (kk_gV kw_857 kw_858 kw_859 kw_9 kw_860) rfl rfl rfl (by decide +kernel) ⟨Nat.le_of_ble_eq_true rfl, Nat.le_of_ble_eq_true rfl⟩) gI_FN (List.forall_mem_cons.mpr ⟨⟨by decide, by decide⟩, List.forall_mem_cons.mpr ⟨⟨by decide, by decide⟩, List.forall_mem_cons.mpr ⟨⟨by decide, by decide⟩, List.forall_mem_cons.mpr ⟨⟨by decide, by decide⟩, fun _ h => absurd h List.not_mem_nil⟩⟩⟩⟩) (⟨Or.inr ⟨0, List.mem_cons_self, rfl⟩, ⟨⟨_, rfl, hc0⟩, ⟨⟨_, rfl, hc1⟩, trivial⟩⟩⟩) hP hD hS rfl hl.1 rfl (Nat.le_of_ble_eq_true rfl) dl_159 hf (fun r f2 g2 H2 locs2 hq2 hJ2 hP hD hS => ?_)
  obtain ⟨o2, ho2, hr2, hT2⟩ := hq2
  have h8 := List.all_eq_true.mp (show q_fn11.2.all (fun o => ck_isV o && ck_val 0 2 o) = true by decide) o2 ho2
  simp only [Bool.and_eq_true] at h8
  obtain rfl := ck_isV_ok h8.1 hr2
  show W p l e room_1 s m args below meth c H2 locs2 (cells + 1) (slots + 6) Q (F0 m 162 ls [])
  have hc9 := ck_val_ok h8.2 hT2
  refine lv_aload_n C.1.1 C.1.2.1 dl_162 rfl (lv_at hl 3 rfl) ?_
  refine lm_goR (h := h) (hm := hm) (As := []) (rest := []) C (c_fn2 xL_ok) (cwV 0 C.1.2.2.2.2 (kk_gV kw_853 kw_854 kw_855 kw_9 kw_856) rfl rfl rfl (by decide +kernel) ⟨Nat.le_of_ble_eq_true rfl, Nat.le_of_ble_eq_true rfl⟩) hJ2 (List.forall_mem_cons.mpr ⟨⟨by show (2 : Int) ≤ (f2 0).toInt; omega, by show (f2 0).toInt ≤ (2 : Int); omega⟩, List.forall_mem_cons.mpr ⟨ck_in_top _, List.forall_mem_cons.mpr ⟨ck_in_top _, List.forall_mem_cons.mpr ⟨ck_in_top _, fun _ h => absurd h List.not_mem_nil⟩⟩⟩⟩) ⟨Or.inr ⟨0, List.mem_cons_self, rfl⟩, trivial⟩ hP hD hS rfl hl.1 rfl (Nat.le_of_ble_eq_true rfl) dl_163 hf (fun r f3 g3 H3 locs3 hq3 hJ3 hP hD hS => ?_)
  obtain ⟨o3, ho3, hr3, hT3⟩ := hq3
  obtain ⟨x3, rfl, hx3⟩ := ck_isN_ok (List.all_eq_true.mp (show q_fn2.2.all (ck_isN 2) = true by decide) o3 ho3) hr3
  show W p l e room_1 s m args below meth c H3 locs3 (cells + 1) (slots + 6) Q (F0 m 166 ls [.int x3])
  refine lv_iload C.1.1 C.1.2.1 dl_166 (lv_at hl 0 rfl) ?_
  refine lv_icmp_eq (tgt := 173) C.1.1 C.1.2.1 dl_168 (by decide) (fun _ => ?_) (fun hne => absurd (Int32.toInt_inj.mp (by rw [hx3]; rfl)) hne)
  refine lv_goto (tgt := 840) C.1.1 C.1.2.1 dl_173 (by decide) ?_
  exact kk H3 locs3 _ hS (lv_sub hl [1, 2, 3, 4, 5] rfl)
theorem lo_0_fc22 {p : Program} {l : Launch} {e : Env} {s : State} {m : MethodId} {args : Array Value} {below : List Frame} {meth : Method} {c : Code} {H : Heap} {locs : List Loc} {cells slots : Nat} {Q : State → Prop} {D : va_G} {B : Nat} {A : Nat → Prop} {h hm : Nat → Nat} {cI cZ cJ : ClassId} {ho : Nat} {ls : Array Slot} {b L : Nat} {xs : Nat → Int32} {i : Int32} {cx : Cond} (hfl : l.flags = flags0) (C : zz_Cx p m meth c code 7 ret s args (cx :: kk_W) "NightCyclerLaw" D vN (tyN cI cZ cJ) A B (xL B h)) (hX : va_X b L xs s s.heap) (hbl : b < s.heap.size) (hbA : ¬ A b) (i1 : vp_in (i + 1) L) (i2 : vp_in (i + 2) L) (hP : va_P D vN (wW cI cZ cJ ho h hm fN0 gN0 fM0 gM0) H) (hD : va_D A (wW cI cZ cJ ho h hm fN0 gN0 fM0 gM0)) (hS : va_S A s.heap H locs) (hl : lv_has ls 7 [(0, .ref b), (1, .ref (h 0)), (2, .ref (hm 0)), (3, .ref ho), (4, .int i)]) (hf : cells + 1 ≤ room_1.cells ∧ slots + 6 ≤ room_1.slots) (hc0 : (2 : Int) ≤ (xs (i + 1).toNatClampNeg).toInt ∧ (xs (i + 1).toNatClampNeg).toInt ≤ (2 : Int)) (hc1 : (1 : Int) ≤ (xs (i + 2).toNatClampNeg).toInt ∧ (xs (i + 2).toNatClampNeg).toInt ≤ (240 : Int)) (kk : ∀ (H1 : Heap) (locs1 : List Loc) (ls1 : Array Slot), va_S A s.heap H1 locs1 → lv_has ls1 7 [(0, .ref b), (1, .ref (h 0)), (2, .ref (hm 0)), (3, .ref ho), (4, .int i)] → W p l e room_1 s m args below meth c H1 locs1 (cells + 1) (slots + 6) Q (F0 m 840 ls1 [])) : W p l e room_1 s m args below meth c H locs cells slots Q (F0 m 128 ls []) := by
  refine lv_aload_n C.1.1 C.1.2.1 dl_128 rfl (lv_at hl 1 rfl) ?_
  refine lv_aload_n C.1.1 C.1.2.1 dl_129 rfl (lv_at hl 0 rfl) ?_
  refine lv_iload C.1.1 C.1.2.1 dl_130 (lv_at hl 4 rfl) ?_
  refine lv_iconst (v := 1) C.1.1 C.1.2.1 dl_132 (by decide) ?_
  refine lv_iadd C.1.1 C.1.2.1 dl_133 ?_
  refine va_sld C.1.1 C.1.2.1 hX hbl hbA hS i1 dl_134 ?_
  refine lv_aload_n C.1.1 C.1.2.1 dl_135 rfl (lv_at hl 0 rfl) ?_
  refine lv_iload C.1.1 C.1.2.1 dl_136 (lv_at hl 4 rfl) ?_
  refine lv_iconst (v := 2) C.1.1 C.1.2.1 dl_138 (by decide) ?_
  refine lv_iadd C.1.1 C.1.2.1 dl_139 ?_
  refine va_sld C.1.1 C.1.2.1 hX hbl hbA hS i2 dl_140 ?_
  refine lw_goS (n := 3) C (ww_prescribe (post := ck_poF fbFB gbFB h fN0 q_fc22.2) (px := ck_pxF fbFB gbFB fN0 q_fc22.2) (fun sz => x_fc22 hfl fN0 gN0 sz [.ref (h 0), .int (xs (i + 1).toNatClampNeg), .int (xs (i + 2).toNatClampNeg)] gI_B (List.forall_mem_cons.mpr ⟨⟨by decide, by decide⟩, List.forall_mem_cons.mpr ⟨⟨by decide, by decide⟩, List.forall_mem_cons.mpr ⟨⟨by decide, by decide⟩, fun _ h => absurd h List.not_mem_nil⟩⟩⟩) (⟨Or.inr ⟨0, List.mem_cons_self, rfl⟩, ⟨⟨_, rfl, hc0⟩, ⟨⟨_, rfl, hc1⟩, trivial⟩⟩⟩)) ⟨rfl, rfl, by decide, by decide⟩ (ck_noIF (by decide)) (ck_ex2F (by decide))) kw_379 kw_380 kw_0 kw_381 (by decide +kernel) rfl rfl ⟨Nat.le_of_ble_eq_true rfl, Nat.le_of_ble_eq_true rfl⟩ hP hD hS rfl hl.1 rfl dl_141 hf (fun r f1 g1 H1 locs1 hq hP hD hS => ?_)
  obtain rfl := ck_anS (n := 0) (v := 0) (show q_fc22.2.all (ck_an "java/lang/IllegalStateException" "java/lang/IllegalArgumentException" 0 0) = true by decide) (by decide) hq
  show W p l e room_1 s m args below meth c H1 locs1 (cells + 1) (slots + 6) Q (F0 m 144 ls [.int (Int32.ofNat 0)])
  refine lv_istore (lv' := [(5, .int (Int32.ofNat 0)), (0, .ref b), (1, .ref (h 0)), (2, .ref (hm 0)), (3, .ref ho), (4, .int i)]) C.1.1 C.1.2.1 dl_144 hl (by decide) rfl (fun ls hl => ?_)
  refine lv_aload_n C.1.1 C.1.2.1 dl_146 rfl (lv_at hl 3 rfl) ?_
  refine lv_aload_n C.1.1 C.1.2.1 dl_147 rfl (lv_at hl 1 rfl) ?_
  refine lv_iload C.1.1 C.1.2.1 dl_148 (lv_at hl 5 rfl) ?_
  refine lv_iconst (v := 1) C.1.1 C.1.2.1 dl_150 (by decide) ?_
  refine lv_iadd C.1.1 C.1.2.1 dl_151 ?_
  refine va_sld C.1.1 C.1.2.1 hX hbl hbA hS i1 dl_152 ?_
  refine lv_aload_n C.1.1 C.1.2.1 dl_153 rfl (lv_at hl 1 rfl) ?_
  refine lv_iload C.1.1 C.1.2.1 dl_154 (lv_at hl 5 rfl) ?_
  refine lv_iconst (v := 2) C.1.1 C.1.2.1 dl_156 (by decide) ?_
  refine lv_iadd C.1.1 C.1.2.1 dl_157 ?_
  refine va_sld C.1.1 C.1.2.1 hX hbl hbA hS i2 dl_158 ?_
  refine lm_goR (h := h) (hm := hm) (As := [.int (xs (i + 1).toNatClampNeg), .int (xs (i + 2).toNatClampNeg)]) (rest := []) C (c_fn12 xL_ok) (cwV 2 C.1.2.2.2.2 (kk_gV kw_857 kw_858 kw_859 kw_9 kw_860) rfl rfl rfl (by decide +kernel) ⟨Nat.le_of_ble_eq_true rfl, Nat.le_of_ble_eq_true rfl⟩) gI_FN (List.forall_mem_cons.mpr ⟨⟨by decide, by decide⟩, List.forall_mem_cons.mpr ⟨⟨by decide, by decide⟩, List.forall_mem_cons.mpr ⟨⟨by decide, by decide⟩, List.forall_mem_cons.mpr ⟨⟨by decide, by decide⟩, fun _ h => absurd h List.not_mem_nil⟩⟩⟩⟩) (⟨Or.inr ⟨0, List.mem_cons_self, rfl⟩, ⟨⟨_, rfl, hc0⟩, ⟨⟨_, rfl, hc1⟩, trivial⟩⟩⟩) hP hD hS rfl hl.1 rfl (Nat.le_of_ble_eq_true rfl) dl_159 hf (fun r f2 g2 H2 locs2 hq2 hJ2 hP hD hS => ?_)
  obtain ⟨o2, ho2, hr2, hT2⟩ := hq2
  have h8 := List.all_eq_true.mp (show q_fn12.2.all (fun o => ck_isV o && ck_val 0 0 o) = true by decide) o2 ho2
  simp only [Bool.and_eq_true] at h8
  obtain rfl := ck_isV_ok h8.1 hr2
  show W p l e room_1 s m args below meth c H2 locs2 (cells + 1) (slots + 6) Q (F0 m 162 ls [])
  have hc9 := ck_val_ok h8.2 hT2
  refine lv_aload_n C.1.1 C.1.2.1 dl_162 rfl (lv_at hl 3 rfl) ?_
  refine lm_goR (h := h) (hm := hm) (As := []) (rest := []) C (c_fn0 xL_ok) (cwV 0 C.1.2.2.2.2 (kk_gV kw_853 kw_854 kw_855 kw_9 kw_856) rfl rfl rfl (by decide +kernel) ⟨Nat.le_of_ble_eq_true rfl, Nat.le_of_ble_eq_true rfl⟩) hJ2 (List.forall_mem_cons.mpr ⟨⟨by show (0 : Int) ≤ (f2 0).toInt; omega, by show (f2 0).toInt ≤ (0 : Int); omega⟩, List.forall_mem_cons.mpr ⟨ck_in_top _, List.forall_mem_cons.mpr ⟨ck_in_top _, List.forall_mem_cons.mpr ⟨ck_in_top _, fun _ h => absurd h List.not_mem_nil⟩⟩⟩⟩) ⟨Or.inr ⟨0, List.mem_cons_self, rfl⟩, trivial⟩ hP hD hS rfl hl.1 rfl (Nat.le_of_ble_eq_true rfl) dl_163 hf (fun r f3 g3 H3 locs3 hq3 hJ3 hP hD hS => ?_)
  obtain ⟨o3, ho3, hr3, hT3⟩ := hq3
  obtain ⟨x3, rfl, hx3⟩ := ck_isN_ok (List.all_eq_true.mp (show q_fn0.2.all (ck_isN 0) = true by decide) o3 ho3) hr3
  show W p l e room_1 s m args below meth c H3 locs3 (cells + 1) (slots + 6) Q (F0 m 166 ls [.int x3])
  refine lv_iload C.1.1 C.1.2.1 dl_166 (lv_at hl 0 rfl) ?_
  refine lv_icmp_eq (tgt := 173) C.1.1 C.1.2.1 dl_168 (by decide) (fun _ => ?_) (fun hne => absurd (Int32.toInt_inj.mp (by rw [hx3]; rfl)) hne)
  refine lv_goto (tgt := 840) C.1.1 C.1.2.1 dl_173 (by decide) ?_
  exact kk H3 locs3 _ hS (lv_sub hl [1, 2, 3, 4, 5] rfl)
theorem lo_0_fc24 {p : Program} {l : Launch} {e : Env} {s : State} {m : MethodId} {args : Array Value} {below : List Frame} {meth : Method} {c : Code} {H : Heap} {locs : List Loc} {cells slots : Nat} {Q : State → Prop} {D : va_G} {B : Nat} {A : Nat → Prop} {h hm : Nat → Nat} {cI cZ cJ : ClassId} {ho : Nat} {ls : Array Slot} {b L : Nat} {xs : Nat → Int32} {i : Int32} {cx : Cond} (hfl : l.flags = flags0) (C : zz_Cx p m meth c code 7 ret s args (cx :: kk_W) "NightCyclerLaw" D vN (tyN cI cZ cJ) A B (xL B h)) (hX : va_X b L xs s s.heap) (hbl : b < s.heap.size) (hbA : ¬ A b) (i1 : vp_in (i + 1) L) (i2 : vp_in (i + 2) L) (hP : va_P D vN (wW cI cZ cJ ho h hm fN0 gN0 fM0 gM0) H) (hD : va_D A (wW cI cZ cJ ho h hm fN0 gN0 fM0 gM0)) (hS : va_S A s.heap H locs) (hl : lv_has ls 7 [(0, .ref b), (1, .ref (h 0)), (2, .ref (hm 0)), (3, .ref ho), (4, .int i)]) (hf : cells + 1 ≤ room_1.cells ∧ slots + 6 ≤ room_1.slots) (hc0 : (2 : Int) ≤ (xs (i + 1).toNatClampNeg).toInt ∧ (xs (i + 1).toNatClampNeg).toInt ≤ (2 : Int)) (hc1 : (241 : Int) ≤ (xs (i + 2).toNatClampNeg).toInt ∧ (xs (i + 2).toNatClampNeg).toInt ≤ (2147483647 : Int)) (kk : ∀ (H1 : Heap) (locs1 : List Loc) (ls1 : Array Slot), va_S A s.heap H1 locs1 → lv_has ls1 7 [(0, .ref b), (1, .ref (h 0)), (2, .ref (hm 0)), (3, .ref ho), (4, .int i)] → W p l e room_1 s m args below meth c H1 locs1 (cells + 1) (slots + 6) Q (F0 m 840 ls1 [])) : W p l e room_1 s m args below meth c H locs cells slots Q (F0 m 128 ls []) := by
  refine lv_aload_n C.1.1 C.1.2.1 dl_128 rfl (lv_at hl 1 rfl) ?_
  refine lv_aload_n C.1.1 C.1.2.1 dl_129 rfl (lv_at hl 0 rfl) ?_
  refine lv_iload C.1.1 C.1.2.1 dl_130 (lv_at hl 4 rfl) ?_
  refine lv_iconst (v := 1) C.1.1 C.1.2.1 dl_132 (by decide) ?_
  refine lv_iadd C.1.1 C.1.2.1 dl_133 ?_
  refine va_sld C.1.1 C.1.2.1 hX hbl hbA hS i1 dl_134 ?_
  refine lv_aload_n C.1.1 C.1.2.1 dl_135 rfl (lv_at hl 0 rfl) ?_
  refine lv_iload C.1.1 C.1.2.1 dl_136 (lv_at hl 4 rfl) ?_
  refine lv_iconst (v := 2) C.1.1 C.1.2.1 dl_138 (by decide) ?_
  refine lv_iadd C.1.1 C.1.2.1 dl_139 ?_
  refine va_sld C.1.1 C.1.2.1 hX hbl hbA hS i2 dl_140 ?_
  refine lw_goS (n := 3) C (ww_prescribe (post := ck_poF fbFB gbFB h fN0 q_fc24.2) (px := ck_pxF fbFB gbFB fN0 q_fc24.2) (fun sz => x_fc24 hfl fN0 gN0 sz [.ref (h 0), .int (xs (i + 1).toNatClampNeg), .int (xs (i + 2).toNatClampNeg)] gI_B (List.forall_mem_cons.mpr ⟨⟨by decide, by decide⟩, List.forall_mem_cons.mpr ⟨⟨by decide, by decide⟩, List.forall_mem_cons.mpr ⟨⟨by decide, by decide⟩, fun _ h => absurd h List.not_mem_nil⟩⟩⟩) (⟨Or.inr ⟨0, List.mem_cons_self, rfl⟩, ⟨⟨_, rfl, hc0⟩, ⟨⟨_, rfl, hc1⟩, trivial⟩⟩⟩)) ⟨rfl, rfl, by decide, by decide⟩ (ck_noIF (by decide)) (ck_ex2F (by decide))) kw_379 kw_380 kw_0 kw_381 (by decide +kernel) rfl rfl ⟨Nat.le_of_ble_eq_true rfl, Nat.le_of_ble_eq_true rfl⟩ hP hD hS rfl hl.1 rfl dl_141 hf (fun r f1 g1 H1 locs1 hq hP hD hS => ?_)
  obtain rfl := ck_anS (n := 2) (v := 0) (show q_fc24.2.all (ck_an "java/lang/IllegalStateException" "java/lang/IllegalArgumentException" 2 0) = true by decide) (by decide) hq
  show W p l e room_1 s m args below meth c H1 locs1 (cells + 1) (slots + 6) Q (F0 m 144 ls [.int (Int32.ofNat 2)])
  refine lv_istore (lv' := [(5, .int (Int32.ofNat 2)), (0, .ref b), (1, .ref (h 0)), (2, .ref (hm 0)), (3, .ref ho), (4, .int i)]) C.1.1 C.1.2.1 dl_144 hl (by decide) rfl (fun ls hl => ?_)
  refine lv_aload_n C.1.1 C.1.2.1 dl_146 rfl (lv_at hl 3 rfl) ?_
  refine lv_aload_n C.1.1 C.1.2.1 dl_147 rfl (lv_at hl 1 rfl) ?_
  refine lv_iload C.1.1 C.1.2.1 dl_148 (lv_at hl 5 rfl) ?_
  refine lv_iconst (v := 1) C.1.1 C.1.2.1 dl_150 (by decide) ?_
  refine lv_iadd C.1.1 C.1.2.1 dl_151 ?_
  refine va_sld C.1.1 C.1.2.1 hX hbl hbA hS i1 dl_152 ?_
  refine lv_aload_n C.1.1 C.1.2.1 dl_153 rfl (lv_at hl 1 rfl) ?_
  refine lv_iload C.1.1 C.1.2.1 dl_154 (lv_at hl 5 rfl) ?_
  refine lv_iconst (v := 2) C.1.1 C.1.2.1 dl_156 (by decide) ?_
  refine lv_iadd C.1.1 C.1.2.1 dl_157 ?_
  refine va_sld C.1.1 C.1.2.1 hX hbl hbA hS i2 dl_158 ?_
  refine lm_goR (h := h) (hm := hm) (As := [.int (xs (i + 1).toNatClampNeg), .int (xs (i + 2).toNatClampNeg)]) (rest := []) C (c_fn13 xL_ok) (cwV 2 C.1.2.2.2.2 (kk_gV kw_857 kw_858 kw_859 kw_9 kw_860) rfl rfl rfl (by decide +kernel) ⟨Nat.le_of_ble_eq_true rfl, Nat.le_of_ble_eq_true rfl⟩) gI_FN (List.forall_mem_cons.mpr ⟨⟨by decide, by decide⟩, List.forall_mem_cons.mpr ⟨⟨by decide, by decide⟩, List.forall_mem_cons.mpr ⟨⟨by decide, by decide⟩, List.forall_mem_cons.mpr ⟨⟨by decide, by decide⟩, fun _ h => absurd h List.not_mem_nil⟩⟩⟩⟩) (⟨Or.inr ⟨0, List.mem_cons_self, rfl⟩, ⟨⟨_, rfl, hc0⟩, ⟨⟨_, rfl, hc1⟩, trivial⟩⟩⟩) hP hD hS rfl hl.1 rfl (Nat.le_of_ble_eq_true rfl) dl_159 hf (fun r f2 g2 H2 locs2 hq2 hJ2 hP hD hS => ?_)
  obtain ⟨o2, ho2, hr2, hT2⟩ := hq2
  have h8 := List.all_eq_true.mp (show q_fn13.2.all (fun o => ck_isV o && ck_val 0 2 o) = true by decide) o2 ho2
  simp only [Bool.and_eq_true] at h8
  obtain rfl := ck_isV_ok h8.1 hr2
  show W p l e room_1 s m args below meth c H2 locs2 (cells + 1) (slots + 6) Q (F0 m 162 ls [])
  have hc9 := ck_val_ok h8.2 hT2
  refine lv_aload_n C.1.1 C.1.2.1 dl_162 rfl (lv_at hl 3 rfl) ?_
  refine lm_goR (h := h) (hm := hm) (As := []) (rest := []) C (c_fn2 xL_ok) (cwV 0 C.1.2.2.2.2 (kk_gV kw_853 kw_854 kw_855 kw_9 kw_856) rfl rfl rfl (by decide +kernel) ⟨Nat.le_of_ble_eq_true rfl, Nat.le_of_ble_eq_true rfl⟩) hJ2 (List.forall_mem_cons.mpr ⟨⟨by show (2 : Int) ≤ (f2 0).toInt; omega, by show (f2 0).toInt ≤ (2 : Int); omega⟩, List.forall_mem_cons.mpr ⟨ck_in_top _, List.forall_mem_cons.mpr ⟨ck_in_top _, List.forall_mem_cons.mpr ⟨ck_in_top _, fun _ h => absurd h List.not_mem_nil⟩⟩⟩⟩) ⟨Or.inr ⟨0, List.mem_cons_self, rfl⟩, trivial⟩ hP hD hS rfl hl.1 rfl (Nat.le_of_ble_eq_true rfl) dl_163 hf (fun r f3 g3 H3 locs3 hq3 hJ3 hP hD hS => ?_)
  obtain ⟨o3, ho3, hr3, hT3⟩ := hq3
  obtain ⟨x3, rfl, hx3⟩ := ck_isN_ok (List.all_eq_true.mp (show q_fn2.2.all (ck_isN 2) = true by decide) o3 ho3) hr3
  show W p l e room_1 s m args below meth c H3 locs3 (cells + 1) (slots + 6) Q (F0 m 166 ls [.int x3])
  refine lv_iload C.1.1 C.1.2.1 dl_166 (lv_at hl 0 rfl) ?_
  refine lv_icmp_eq (tgt := 173) C.1.1 C.1.2.1 dl_168 (by decide) (fun _ => ?_) (fun hne => absurd (Int32.toInt_inj.mp (by rw [hx3]; rfl)) hne)
  refine lv_goto (tgt := 840) C.1.1 C.1.2.1 dl_173 (by decide) ?_
  exact kk H3 locs3 _ hS (lv_sub hl [1, 2, 3, 4, 5] rfl)
theorem lo_0_fc26 {p : Program} {l : Launch} {e : Env} {s : State} {m : MethodId} {args : Array Value} {below : List Frame} {meth : Method} {c : Code} {H : Heap} {locs : List Loc} {cells slots : Nat} {Q : State → Prop} {D : va_G} {B : Nat} {A : Nat → Prop} {h hm : Nat → Nat} {cI cZ cJ : ClassId} {ho : Nat} {ls : Array Slot} {b L : Nat} {xs : Nat → Int32} {i : Int32} {cx : Cond} (hfl : l.flags = flags0) (C : zz_Cx p m meth c code 7 ret s args (cx :: kk_W) "NightCyclerLaw" D vN (tyN cI cZ cJ) A B (xL B h)) (hX : va_X b L xs s s.heap) (hbl : b < s.heap.size) (hbA : ¬ A b) (i1 : vp_in (i + 1) L) (i2 : vp_in (i + 2) L) (hP : va_P D vN (wW cI cZ cJ ho h hm fN0 gN0 fM0 gM0) H) (hD : va_D A (wW cI cZ cJ ho h hm fN0 gN0 fM0 gM0)) (hS : va_S A s.heap H locs) (hl : lv_has ls 7 [(0, .ref b), (1, .ref (h 0)), (2, .ref (hm 0)), (3, .ref ho), (4, .int i)]) (hf : cells + 1 ≤ room_1.cells ∧ slots + 6 ≤ room_1.slots) (hc0 : (3 : Int) ≤ (xs (i + 1).toNatClampNeg).toInt ∧ (xs (i + 1).toNatClampNeg).toInt ≤ (3 : Int)) (hc1 : (-2147483648 : Int) ≤ (xs (i + 2).toNatClampNeg).toInt ∧ (xs (i + 2).toNatClampNeg).toInt ≤ (-1 : Int)) (kk : ∀ (H1 : Heap) (locs1 : List Loc) (ls1 : Array Slot), va_S A s.heap H1 locs1 → lv_has ls1 7 [(0, .ref b), (1, .ref (h 0)), (2, .ref (hm 0)), (3, .ref ho), (4, .int i)] → W p l e room_1 s m args below meth c H1 locs1 (cells + 1) (slots + 6) Q (F0 m 840 ls1 [])) : W p l e room_1 s m args below meth c H locs cells slots Q (F0 m 128 ls []) := by
  refine lv_aload_n C.1.1 C.1.2.1 dl_128 rfl (lv_at hl 1 rfl) ?_
  refine lv_aload_n C.1.1 C.1.2.1 dl_129 rfl (lv_at hl 0 rfl) ?_
  refine lv_iload C.1.1 C.1.2.1 dl_130 (lv_at hl 4 rfl) ?_
  refine lv_iconst (v := 1) C.1.1 C.1.2.1 dl_132 (by decide) ?_
  refine lv_iadd C.1.1 C.1.2.1 dl_133 ?_
  refine va_sld C.1.1 C.1.2.1 hX hbl hbA hS i1 dl_134 ?_
  refine lv_aload_n C.1.1 C.1.2.1 dl_135 rfl (lv_at hl 0 rfl) ?_
  refine lv_iload C.1.1 C.1.2.1 dl_136 (lv_at hl 4 rfl) ?_
  refine lv_iconst (v := 2) C.1.1 C.1.2.1 dl_138 (by decide) ?_
  refine lv_iadd C.1.1 C.1.2.1 dl_139 ?_
  refine va_sld C.1.1 C.1.2.1 hX hbl hbA hS i2 dl_140 ?_
  refine lw_goS (n := 3) C (ww_prescribe (post := ck_poF fbFB gbFB h fN0 q_fc26.2) (px := ck_pxF fbFB gbFB fN0 q_fc26.2) (fun sz => x_fc26 hfl fN0 gN0 sz [.ref (h 0), .int (xs (i + 1).toNatClampNeg), .int (xs (i + 2).toNatClampNeg)] gI_B (List.forall_mem_cons.mpr ⟨⟨by decide, by decide⟩, List.forall_mem_cons.mpr ⟨⟨by decide, by decide⟩, List.forall_mem_cons.mpr ⟨⟨by decide, by decide⟩, fun _ h => absurd h List.not_mem_nil⟩⟩⟩) (⟨Or.inr ⟨0, List.mem_cons_self, rfl⟩, ⟨⟨_, rfl, hc0⟩, ⟨⟨_, rfl, hc1⟩, trivial⟩⟩⟩)) ⟨rfl, rfl, by decide, by decide⟩ (ck_noIF (by decide)) (ck_ex2F (by decide))) kw_379 kw_380 kw_0 kw_381 (by decide +kernel) rfl rfl ⟨Nat.le_of_ble_eq_true rfl, Nat.le_of_ble_eq_true rfl⟩ hP hD hS rfl hl.1 rfl dl_141 hf (fun r f1 g1 H1 locs1 hq hP hD hS => ?_)
  obtain rfl := ck_anS (n := 2) (v := 0) (show q_fc26.2.all (ck_an "java/lang/IllegalStateException" "java/lang/IllegalArgumentException" 2 0) = true by decide) (by decide) hq
  show W p l e room_1 s m args below meth c H1 locs1 (cells + 1) (slots + 6) Q (F0 m 144 ls [.int (Int32.ofNat 2)])
  refine lv_istore (lv' := [(5, .int (Int32.ofNat 2)), (0, .ref b), (1, .ref (h 0)), (2, .ref (hm 0)), (3, .ref ho), (4, .int i)]) C.1.1 C.1.2.1 dl_144 hl (by decide) rfl (fun ls hl => ?_)
  refine lv_aload_n C.1.1 C.1.2.1 dl_146 rfl (lv_at hl 3 rfl) ?_
  refine lv_aload_n C.1.1 C.1.2.1 dl_147 rfl (lv_at hl 1 rfl) ?_
  refine lv_iload C.1.1 C.1.2.1 dl_148 (lv_at hl 5 rfl) ?_
  refine lv_iconst (v := 1) C.1.1 C.1.2.1 dl_150 (by decide) ?_
  refine lv_iadd C.1.1 C.1.2.1 dl_151 ?_
  refine va_sld C.1.1 C.1.2.1 hX hbl hbA hS i1 dl_152 ?_
  refine lv_aload_n C.1.1 C.1.2.1 dl_153 rfl (lv_at hl 1 rfl) ?_
  refine lv_iload C.1.1 C.1.2.1 dl_154 (lv_at hl 5 rfl) ?_
  refine lv_iconst (v := 2) C.1.1 C.1.2.1 dl_156 (by decide) ?_
  refine lv_iadd C.1.1 C.1.2.1 dl_157 ?_
  refine va_sld C.1.1 C.1.2.1 hX hbl hbA hS i2 dl_158 ?_
  refine lm_goR (h := h) (hm := hm) (As := [.int (xs (i + 1).toNatClampNeg), .int (xs (i + 2).toNatClampNeg)]) (rest := []) C (c_fn14 xL_ok) (cwV 2 C.1.2.2.2.2 (kk_gV kw_857 kw_858 kw_859 kw_9 kw_860) rfl rfl rfl (by decide +kernel) ⟨Nat.le_of_ble_eq_true rfl, Nat.le_of_ble_eq_true rfl⟩) gI_FN (List.forall_mem_cons.mpr ⟨⟨by decide, by decide⟩, List.forall_mem_cons.mpr ⟨⟨by decide, by decide⟩, List.forall_mem_cons.mpr ⟨⟨by decide, by decide⟩, List.forall_mem_cons.mpr ⟨⟨by decide, by decide⟩, fun _ h => absurd h List.not_mem_nil⟩⟩⟩⟩) (⟨Or.inr ⟨0, List.mem_cons_self, rfl⟩, ⟨⟨_, rfl, hc0⟩, ⟨⟨_, rfl, hc1⟩, trivial⟩⟩⟩) hP hD hS rfl hl.1 rfl (Nat.le_of_ble_eq_true rfl) dl_159 hf (fun r f2 g2 H2 locs2 hq2 hJ2 hP hD hS => ?_)
  obtain ⟨o2, ho2, hr2, hT2⟩ := hq2
  have h8 := List.all_eq_true.mp (show q_fn14.2.all (fun o => ck_isV o && ck_val 0 2 o) = true by decide) o2 ho2
  simp only [Bool.and_eq_true] at h8
  obtain rfl := ck_isV_ok h8.1 hr2
  show W p l e room_1 s m args below meth c H2 locs2 (cells + 1) (slots + 6) Q (F0 m 162 ls [])
  have hc9 := ck_val_ok h8.2 hT2
  refine lv_aload_n C.1.1 C.1.2.1 dl_162 rfl (lv_at hl 3 rfl) ?_
  refine lm_goR (h := h) (hm := hm) (As := []) (rest := []) C (c_fn2 xL_ok) (cwV 0 C.1.2.2.2.2 (kk_gV kw_853 kw_854 kw_855 kw_9 kw_856) rfl rfl rfl (by decide +kernel) ⟨Nat.le_of_ble_eq_true rfl, Nat.le_of_ble_eq_true rfl⟩) hJ2 (List.forall_mem_cons.mpr ⟨⟨by show (2 : Int) ≤ (f2 0).toInt; omega, by show (f2 0).toInt ≤ (2 : Int); omega⟩, List.forall_mem_cons.mpr ⟨ck_in_top _, List.forall_mem_cons.mpr ⟨ck_in_top _, List.forall_mem_cons.mpr ⟨ck_in_top _, fun _ h => absurd h List.not_mem_nil⟩⟩⟩⟩) ⟨Or.inr ⟨0, List.mem_cons_self, rfl⟩, trivial⟩ hP hD hS rfl hl.1 rfl (Nat.le_of_ble_eq_true rfl) dl_163 hf (fun r f3 g3 H3 locs3 hq3 hJ3 hP hD hS => ?_)
  obtain ⟨o3, ho3, hr3, hT3⟩ := hq3
  obtain ⟨x3, rfl, hx3⟩ := ck_isN_ok (List.all_eq_true.mp (show q_fn2.2.all (ck_isN 2) = true by decide) o3 ho3) hr3
  show W p l e room_1 s m args below meth c H3 locs3 (cells + 1) (slots + 6) Q (F0 m 166 ls [.int x3])
  refine lv_iload C.1.1 C.1.2.1 dl_166 (lv_at hl 0 rfl) ?_
  refine lv_icmp_eq (tgt := 173) C.1.1 C.1.2.1 dl_168 (by decide) (fun _ => ?_) (fun hne => absurd (Int32.toInt_inj.mp (by rw [hx3]; rfl)) hne)
  refine lv_goto (tgt := 840) C.1.1 C.1.2.1 dl_173 (by decide) ?_
  exact kk H3 locs3 _ hS (lv_sub hl [1, 2, 3, 4, 5] rfl)
theorem lo_0_fc29 {p : Program} {l : Launch} {e : Env} {s : State} {m : MethodId} {args : Array Value} {below : List Frame} {meth : Method} {c : Code} {H : Heap} {locs : List Loc} {cells slots : Nat} {Q : State → Prop} {D : va_G} {B : Nat} {A : Nat → Prop} {h hm : Nat → Nat} {cI cZ cJ : ClassId} {ho : Nat} {ls : Array Slot} {b L : Nat} {xs : Nat → Int32} {i : Int32} {cx : Cond} (hfl : l.flags = flags0) (C : zz_Cx p m meth c code 7 ret s args (cx :: kk_W) "NightCyclerLaw" D vN (tyN cI cZ cJ) A B (xL B h)) (hX : va_X b L xs s s.heap) (hbl : b < s.heap.size) (hbA : ¬ A b) (i1 : vp_in (i + 1) L) (i2 : vp_in (i + 2) L) (hP : va_P D vN (wW cI cZ cJ ho h hm fN0 gN0 fM0 gM0) H) (hD : va_D A (wW cI cZ cJ ho h hm fN0 gN0 fM0 gM0)) (hS : va_S A s.heap H locs) (hl : lv_has ls 7 [(0, .ref b), (1, .ref (h 0)), (2, .ref (hm 0)), (3, .ref ho), (4, .int i)]) (hf : cells + 1 ≤ room_1.cells ∧ slots + 6 ≤ room_1.slots) (hc0 : (3 : Int) ≤ (xs (i + 1).toNatClampNeg).toInt ∧ (xs (i + 1).toNatClampNeg).toInt ≤ (3 : Int)) (hc1 : (0 : Int) ≤ (xs (i + 2).toNatClampNeg).toInt ∧ (xs (i + 2).toNatClampNeg).toInt ≤ (30000 : Int)) (kk : ∀ (H1 : Heap) (locs1 : List Loc) (ls1 : Array Slot), va_S A s.heap H1 locs1 → lv_has ls1 7 [(0, .ref b), (1, .ref (h 0)), (2, .ref (hm 0)), (3, .ref ho), (4, .int i)] → W p l e room_1 s m args below meth c H1 locs1 (cells + 1) (slots + 6) Q (F0 m 840 ls1 [])) : W p l e room_1 s m args below meth c H locs cells slots Q (F0 m 128 ls []) := by
  refine lv_aload_n C.1.1 C.1.2.1 dl_128 rfl (lv_at hl 1 rfl) ?_
  refine lv_aload_n C.1.1 C.1.2.1 dl_129 rfl (lv_at hl 0 rfl) ?_
  refine lv_iload C.1.1 C.1.2.1 dl_130 (lv_at hl 4 rfl) ?_
  refine lv_iconst (v := 1) C.1.1 C.1.2.1 dl_132 (by decide) ?_
  refine lv_iadd C.1.1 C.1.2.1 dl_133 ?_
  refine va_sld C.1.1 C.1.2.1 hX hbl hbA hS i1 dl_134 ?_
  refine lv_aload_n C.1.1 C.1.2.1 dl_135 rfl (lv_at hl 0 rfl) ?_
  refine lv_iload C.1.1 C.1.2.1 dl_136 (lv_at hl 4 rfl) ?_
  refine lv_iconst (v := 2) C.1.1 C.1.2.1 dl_138 (by decide) ?_
  refine lv_iadd C.1.1 C.1.2.1 dl_139 ?_
  refine va_sld C.1.1 C.1.2.1 hX hbl hbA hS i2 dl_140 ?_
  refine lw_goS (n := 3) C (ww_prescribe (post := ck_poF fbFB gbFB h fN0 q_fc29.2) (px := ck_pxF fbFB gbFB fN0 q_fc29.2) (fun sz => x_fc29 hfl fN0 gN0 sz [.ref (h 0), .int (xs (i + 1).toNatClampNeg), .int (xs (i + 2).toNatClampNeg)] gI_B (List.forall_mem_cons.mpr ⟨⟨by decide, by decide⟩, List.forall_mem_cons.mpr ⟨⟨by decide, by decide⟩, List.forall_mem_cons.mpr ⟨⟨by decide, by decide⟩, fun _ h => absurd h List.not_mem_nil⟩⟩⟩) (⟨Or.inr ⟨0, List.mem_cons_self, rfl⟩, ⟨⟨_, rfl, hc0⟩, ⟨⟨_, rfl, hc1⟩, trivial⟩⟩⟩)) ⟨rfl, rfl, by decide, by decide⟩ (ck_noIF (by decide)) (ck_ex2F (by decide))) kw_379 kw_380 kw_0 kw_381 (by decide +kernel) rfl rfl ⟨Nat.le_of_ble_eq_true rfl, Nat.le_of_ble_eq_true rfl⟩ hP hD hS rfl hl.1 rfl dl_141 hf (fun r f1 g1 H1 locs1 hq hP hD hS => ?_)
  obtain rfl := ck_anS (n := 0) (v := 0) (show q_fc29.2.all (ck_an "java/lang/IllegalStateException" "java/lang/IllegalArgumentException" 0 0) = true by decide) (by decide) hq
  show W p l e room_1 s m args below meth c H1 locs1 (cells + 1) (slots + 6) Q (F0 m 144 ls [.int (Int32.ofNat 0)])
  refine lv_istore (lv' := [(5, .int (Int32.ofNat 0)), (0, .ref b), (1, .ref (h 0)), (2, .ref (hm 0)), (3, .ref ho), (4, .int i)]) C.1.1 C.1.2.1 dl_144 hl (by decide) rfl (fun ls hl => ?_)
  refine lv_aload_n C.1.1 C.1.2.1 dl_146 rfl (lv_at hl 3 rfl) ?_
  refine lv_aload_n C.1.1 C.1.2.1 dl_147 rfl (lv_at hl 1 rfl) ?_
  refine lv_iload C.1.1 C.1.2.1 dl_148 (lv_at hl 5 rfl) ?_
  refine lv_iconst (v := 1) C.1.1 C.1.2.1 dl_150 (by decide) ?_
  refine lv_iadd C.1.1 C.1.2.1 dl_151 ?_
  refine va_sld C.1.1 C.1.2.1 hX hbl hbA hS i1 dl_152 ?_
  refine lv_aload_n C.1.1 C.1.2.1 dl_153 rfl (lv_at hl 1 rfl) ?_
  refine lv_iload C.1.1 C.1.2.1 dl_154 (lv_at hl 5 rfl) ?_
  refine lv_iconst (v := 2) C.1.1 C.1.2.1 dl_156 (by decide) ?_
  refine lv_iadd C.1.1 C.1.2.1 dl_157 ?_
  refine va_sld C.1.1 C.1.2.1 hX hbl hbA hS i2 dl_158 ?_
  refine lm_goR (h := h) (hm := hm) (As := [.int (xs (i + 1).toNatClampNeg), .int (xs (i + 2).toNatClampNeg)]) (rest := []) C (c_fn15 xL_ok) (cwV 2 C.1.2.2.2.2 (kk_gV kw_857 kw_858 kw_859 kw_9 kw_860) rfl rfl rfl (by decide +kernel) ⟨Nat.le_of_ble_eq_true rfl, Nat.le_of_ble_eq_true rfl⟩) gI_FN (List.forall_mem_cons.mpr ⟨⟨by decide, by decide⟩, List.forall_mem_cons.mpr ⟨⟨by decide, by decide⟩, List.forall_mem_cons.mpr ⟨⟨by decide, by decide⟩, List.forall_mem_cons.mpr ⟨⟨by decide, by decide⟩, fun _ h => absurd h List.not_mem_nil⟩⟩⟩⟩) (⟨Or.inr ⟨0, List.mem_cons_self, rfl⟩, ⟨⟨_, rfl, hc0⟩, ⟨⟨_, rfl, hc1⟩, trivial⟩⟩⟩) hP hD hS rfl hl.1 rfl (Nat.le_of_ble_eq_true rfl) dl_159 hf (fun r f2 g2 H2 locs2 hq2 hJ2 hP hD hS => ?_)
  obtain ⟨o2, ho2, hr2, hT2⟩ := hq2
  have h8 := List.all_eq_true.mp (show q_fn15.2.all (fun o => ck_isV o && ck_val 0 0 o) = true by decide) o2 ho2
  simp only [Bool.and_eq_true] at h8
  obtain rfl := ck_isV_ok h8.1 hr2
  show W p l e room_1 s m args below meth c H2 locs2 (cells + 1) (slots + 6) Q (F0 m 162 ls [])
  have hc9 := ck_val_ok h8.2 hT2
  refine lv_aload_n C.1.1 C.1.2.1 dl_162 rfl (lv_at hl 3 rfl) ?_
  refine lm_goR (h := h) (hm := hm) (As := []) (rest := []) C (c_fn0 xL_ok) (cwV 0 C.1.2.2.2.2 (kk_gV kw_853 kw_854 kw_855 kw_9 kw_856) rfl rfl rfl (by decide +kernel) ⟨Nat.le_of_ble_eq_true rfl, Nat.le_of_ble_eq_true rfl⟩) hJ2 (List.forall_mem_cons.mpr ⟨⟨by show (0 : Int) ≤ (f2 0).toInt; omega, by show (f2 0).toInt ≤ (0 : Int); omega⟩, List.forall_mem_cons.mpr ⟨ck_in_top _, List.forall_mem_cons.mpr ⟨ck_in_top _, List.forall_mem_cons.mpr ⟨ck_in_top _, fun _ h => absurd h List.not_mem_nil⟩⟩⟩⟩) ⟨Or.inr ⟨0, List.mem_cons_self, rfl⟩, trivial⟩ hP hD hS rfl hl.1 rfl (Nat.le_of_ble_eq_true rfl) dl_163 hf (fun r f3 g3 H3 locs3 hq3 hJ3 hP hD hS => ?_)
  obtain ⟨o3, ho3, hr3, hT3⟩ := hq3
  obtain ⟨x3, rfl, hx3⟩ := ck_isN_ok (List.all_eq_true.mp (show q_fn0.2.all (ck_isN 0) = true by decide) o3 ho3) hr3
  show W p l e room_1 s m args below meth c H3 locs3 (cells + 1) (slots + 6) Q (F0 m 166 ls [.int x3])
  refine lv_iload C.1.1 C.1.2.1 dl_166 (lv_at hl 0 rfl) ?_
  refine lv_icmp_eq (tgt := 173) C.1.1 C.1.2.1 dl_168 (by decide) (fun _ => ?_) (fun hne => absurd (Int32.toInt_inj.mp (by rw [hx3]; rfl)) hne)
  refine lv_goto (tgt := 840) C.1.1 C.1.2.1 dl_173 (by decide) ?_
  exact kk H3 locs3 _ hS (lv_sub hl [1, 2, 3, 4, 5] rfl)
theorem lo_0_fc31 {p : Program} {l : Launch} {e : Env} {s : State} {m : MethodId} {args : Array Value} {below : List Frame} {meth : Method} {c : Code} {H : Heap} {locs : List Loc} {cells slots : Nat} {Q : State → Prop} {D : va_G} {B : Nat} {A : Nat → Prop} {h hm : Nat → Nat} {cI cZ cJ : ClassId} {ho : Nat} {ls : Array Slot} {b L : Nat} {xs : Nat → Int32} {i : Int32} {cx : Cond} (hfl : l.flags = flags0) (C : zz_Cx p m meth c code 7 ret s args (cx :: kk_W) "NightCyclerLaw" D vN (tyN cI cZ cJ) A B (xL B h)) (hX : va_X b L xs s s.heap) (hbl : b < s.heap.size) (hbA : ¬ A b) (i1 : vp_in (i + 1) L) (i2 : vp_in (i + 2) L) (hP : va_P D vN (wW cI cZ cJ ho h hm fN0 gN0 fM0 gM0) H) (hD : va_D A (wW cI cZ cJ ho h hm fN0 gN0 fM0 gM0)) (hS : va_S A s.heap H locs) (hl : lv_has ls 7 [(0, .ref b), (1, .ref (h 0)), (2, .ref (hm 0)), (3, .ref ho), (4, .int i)]) (hf : cells + 1 ≤ room_1.cells ∧ slots + 6 ≤ room_1.slots) (hc0 : (3 : Int) ≤ (xs (i + 1).toNatClampNeg).toInt ∧ (xs (i + 1).toNatClampNeg).toInt ≤ (3 : Int)) (hc1 : (30001 : Int) ≤ (xs (i + 2).toNatClampNeg).toInt ∧ (xs (i + 2).toNatClampNeg).toInt ≤ (2147483647 : Int)) (kk : ∀ (H1 : Heap) (locs1 : List Loc) (ls1 : Array Slot), va_S A s.heap H1 locs1 → lv_has ls1 7 [(0, .ref b), (1, .ref (h 0)), (2, .ref (hm 0)), (3, .ref ho), (4, .int i)] → W p l e room_1 s m args below meth c H1 locs1 (cells + 1) (slots + 6) Q (F0 m 840 ls1 [])) : W p l e room_1 s m args below meth c H locs cells slots Q (F0 m 128 ls []) := by
  refine lv_aload_n C.1.1 C.1.2.1 dl_128 rfl (lv_at hl 1 rfl) ?_
  refine lv_aload_n C.1.1 C.1.2.1 dl_129 rfl (lv_at hl 0 rfl) ?_
  refine lv_iload C.1.1 C.1.2.1 dl_130 (lv_at hl 4 rfl) ?_
  refine lv_iconst (v := 1) C.1.1 C.1.2.1 dl_132 (by decide) ?_
  refine lv_iadd C.1.1 C.1.2.1 dl_133 ?_
  refine va_sld C.1.1 C.1.2.1 hX hbl hbA hS i1 dl_134 ?_
  refine lv_aload_n C.1.1 C.1.2.1 dl_135 rfl (lv_at hl 0 rfl) ?_
  refine lv_iload C.1.1 C.1.2.1 dl_136 (lv_at hl 4 rfl) ?_
  refine lv_iconst (v := 2) C.1.1 C.1.2.1 dl_138 (by decide) ?_
  refine lv_iadd C.1.1 C.1.2.1 dl_139 ?_
  refine va_sld C.1.1 C.1.2.1 hX hbl hbA hS i2 dl_140 ?_
  refine lw_goS (n := 3) C (ww_prescribe (post := ck_poF fbFB gbFB h fN0 q_fc31.2) (px := ck_pxF fbFB gbFB fN0 q_fc31.2) (fun sz => x_fc31 hfl fN0 gN0 sz [.ref (h 0), .int (xs (i + 1).toNatClampNeg), .int (xs (i + 2).toNatClampNeg)] gI_B (List.forall_mem_cons.mpr ⟨⟨by decide, by decide⟩, List.forall_mem_cons.mpr ⟨⟨by decide, by decide⟩, List.forall_mem_cons.mpr ⟨⟨by decide, by decide⟩, fun _ h => absurd h List.not_mem_nil⟩⟩⟩) (⟨Or.inr ⟨0, List.mem_cons_self, rfl⟩, ⟨⟨_, rfl, hc0⟩, ⟨⟨_, rfl, hc1⟩, trivial⟩⟩⟩)) ⟨rfl, rfl, by decide, by decide⟩ (ck_noIF (by decide)) (ck_ex2F (by decide))) kw_379 kw_380 kw_0 kw_381 (by decide +kernel) rfl rfl ⟨Nat.le_of_ble_eq_true rfl, Nat.le_of_ble_eq_true rfl⟩ hP hD hS rfl hl.1 rfl dl_141 hf (fun r f1 g1 H1 locs1 hq hP hD hS => ?_)
  obtain rfl := ck_anS (n := 2) (v := 0) (show q_fc31.2.all (ck_an "java/lang/IllegalStateException" "java/lang/IllegalArgumentException" 2 0) = true by decide) (by decide) hq
  show W p l e room_1 s m args below meth c H1 locs1 (cells + 1) (slots + 6) Q (F0 m 144 ls [.int (Int32.ofNat 2)])
  refine lv_istore (lv' := [(5, .int (Int32.ofNat 2)), (0, .ref b), (1, .ref (h 0)), (2, .ref (hm 0)), (3, .ref ho), (4, .int i)]) C.1.1 C.1.2.1 dl_144 hl (by decide) rfl (fun ls hl => ?_)
  refine lv_aload_n C.1.1 C.1.2.1 dl_146 rfl (lv_at hl 3 rfl) ?_
  refine lv_aload_n C.1.1 C.1.2.1 dl_147 rfl (lv_at hl 1 rfl) ?_
  refine lv_iload C.1.1 C.1.2.1 dl_148 (lv_at hl 5 rfl) ?_
  refine lv_iconst (v := 1) C.1.1 C.1.2.1 dl_150 (by decide) ?_
  refine lv_iadd C.1.1 C.1.2.1 dl_151 ?_
  refine va_sld C.1.1 C.1.2.1 hX hbl hbA hS i1 dl_152 ?_
  refine lv_aload_n C.1.1 C.1.2.1 dl_153 rfl (lv_at hl 1 rfl) ?_
  refine lv_iload C.1.1 C.1.2.1 dl_154 (lv_at hl 5 rfl) ?_
  refine lv_iconst (v := 2) C.1.1 C.1.2.1 dl_156 (by decide) ?_
  refine lv_iadd C.1.1 C.1.2.1 dl_157 ?_
  refine va_sld C.1.1 C.1.2.1 hX hbl hbA hS i2 dl_158 ?_
  refine lm_goR (h := h) (hm := hm) (As := [.int (xs (i + 1).toNatClampNeg), .int (xs (i + 2).toNatClampNeg)]) (rest := []) C (c_fn16 xL_ok) (cwV 2 C.1.2.2.2.2 (kk_gV kw_857 kw_858 kw_859 kw_9 kw_860) rfl rfl rfl (by decide +kernel) ⟨Nat.le_of_ble_eq_true rfl, Nat.le_of_ble_eq_true rfl⟩) gI_FN (List.forall_mem_cons.mpr ⟨⟨by decide, by decide⟩, List.forall_mem_cons.mpr ⟨⟨by decide, by decide⟩, List.forall_mem_cons.mpr ⟨⟨by decide, by decide⟩, List.forall_mem_cons.mpr ⟨⟨by decide, by decide⟩, fun _ h => absurd h List.not_mem_nil⟩⟩⟩⟩) (⟨Or.inr ⟨0, List.mem_cons_self, rfl⟩, ⟨⟨_, rfl, hc0⟩, ⟨⟨_, rfl, hc1⟩, trivial⟩⟩⟩) hP hD hS rfl hl.1 rfl (Nat.le_of_ble_eq_true rfl) dl_159 hf (fun r f2 g2 H2 locs2 hq2 hJ2 hP hD hS => ?_)
  obtain ⟨o2, ho2, hr2, hT2⟩ := hq2
  have h8 := List.all_eq_true.mp (show q_fn16.2.all (fun o => ck_isV o && ck_val 0 2 o) = true by decide) o2 ho2
  simp only [Bool.and_eq_true] at h8
  obtain rfl := ck_isV_ok h8.1 hr2
  show W p l e room_1 s m args below meth c H2 locs2 (cells + 1) (slots + 6) Q (F0 m 162 ls [])
  have hc9 := ck_val_ok h8.2 hT2
  refine lv_aload_n C.1.1 C.1.2.1 dl_162 rfl (lv_at hl 3 rfl) ?_
  refine lm_goR (h := h) (hm := hm) (As := []) (rest := []) C (c_fn2 xL_ok) (cwV 0 C.1.2.2.2.2 (kk_gV kw_853 kw_854 kw_855 kw_9 kw_856) rfl rfl rfl (by decide +kernel) ⟨Nat.le_of_ble_eq_true rfl, Nat.le_of_ble_eq_true rfl⟩) hJ2 (List.forall_mem_cons.mpr ⟨⟨by show (2 : Int) ≤ (f2 0).toInt; omega, by show (f2 0).toInt ≤ (2 : Int); omega⟩, List.forall_mem_cons.mpr ⟨ck_in_top _, List.forall_mem_cons.mpr ⟨ck_in_top _, List.forall_mem_cons.mpr ⟨ck_in_top _, fun _ h => absurd h List.not_mem_nil⟩⟩⟩⟩) ⟨Or.inr ⟨0, List.mem_cons_self, rfl⟩, trivial⟩ hP hD hS rfl hl.1 rfl (Nat.le_of_ble_eq_true rfl) dl_163 hf (fun r f3 g3 H3 locs3 hq3 hJ3 hP hD hS => ?_)
  obtain ⟨o3, ho3, hr3, hT3⟩ := hq3
  obtain ⟨x3, rfl, hx3⟩ := ck_isN_ok (List.all_eq_true.mp (show q_fn2.2.all (ck_isN 2) = true by decide) o3 ho3) hr3
  show W p l e room_1 s m args below meth c H3 locs3 (cells + 1) (slots + 6) Q (F0 m 166 ls [.int x3])
  refine lv_iload C.1.1 C.1.2.1 dl_166 (lv_at hl 0 rfl) ?_
  refine lv_icmp_eq (tgt := 173) C.1.1 C.1.2.1 dl_168 (by decide) (fun _ => ?_) (fun hne => absurd (Int32.toInt_inj.mp (by rw [hx3]; rfl)) hne)
  refine lv_goto (tgt := 840) C.1.1 C.1.2.1 dl_173 (by decide) ?_
  exact kk H3 locs3 _ hS (lv_sub hl [1, 2, 3, 4, 5] rfl)
theorem lo_0_fc33 {p : Program} {l : Launch} {e : Env} {s : State} {m : MethodId} {args : Array Value} {below : List Frame} {meth : Method} {c : Code} {H : Heap} {locs : List Loc} {cells slots : Nat} {Q : State → Prop} {D : va_G} {B : Nat} {A : Nat → Prop} {h hm : Nat → Nat} {cI cZ cJ : ClassId} {ho : Nat} {ls : Array Slot} {b L : Nat} {xs : Nat → Int32} {i : Int32} {cx : Cond} (hfl : l.flags = flags0) (C : zz_Cx p m meth c code 7 ret s args (cx :: kk_W) "NightCyclerLaw" D vN (tyN cI cZ cJ) A B (xL B h)) (hX : va_X b L xs s s.heap) (hbl : b < s.heap.size) (hbA : ¬ A b) (i1 : vp_in (i + 1) L) (i2 : vp_in (i + 2) L) (hP : va_P D vN (wW cI cZ cJ ho h hm fN0 gN0 fM0 gM0) H) (hD : va_D A (wW cI cZ cJ ho h hm fN0 gN0 fM0 gM0)) (hS : va_S A s.heap H locs) (hl : lv_has ls 7 [(0, .ref b), (1, .ref (h 0)), (2, .ref (hm 0)), (3, .ref ho), (4, .int i)]) (hf : cells + 1 ≤ room_1.cells ∧ slots + 6 ≤ room_1.slots) (hc0 : (4 : Int) ≤ (xs (i + 1).toNatClampNeg).toInt ∧ (xs (i + 1).toNatClampNeg).toInt ≤ (4 : Int)) (hc1 : (-2147483648 : Int) ≤ (xs (i + 2).toNatClampNeg).toInt ∧ (xs (i + 2).toNatClampNeg).toInt ≤ (49 : Int)) (kk : ∀ (H1 : Heap) (locs1 : List Loc) (ls1 : Array Slot), va_S A s.heap H1 locs1 → lv_has ls1 7 [(0, .ref b), (1, .ref (h 0)), (2, .ref (hm 0)), (3, .ref ho), (4, .int i)] → W p l e room_1 s m args below meth c H1 locs1 (cells + 1) (slots + 6) Q (F0 m 840 ls1 [])) : W p l e room_1 s m args below meth c H locs cells slots Q (F0 m 128 ls []) := by
  refine lv_aload_n C.1.1 C.1.2.1 dl_128 rfl (lv_at hl 1 rfl) ?_
  refine lv_aload_n C.1.1 C.1.2.1 dl_129 rfl (lv_at hl 0 rfl) ?_
  refine lv_iload C.1.1 C.1.2.1 dl_130 (lv_at hl 4 rfl) ?_
  refine lv_iconst (v := 1) C.1.1 C.1.2.1 dl_132 (by decide) ?_
  refine lv_iadd C.1.1 C.1.2.1 dl_133 ?_
  refine va_sld C.1.1 C.1.2.1 hX hbl hbA hS i1 dl_134 ?_
  refine lv_aload_n C.1.1 C.1.2.1 dl_135 rfl (lv_at hl 0 rfl) ?_
  refine lv_iload C.1.1 C.1.2.1 dl_136 (lv_at hl 4 rfl) ?_
  refine lv_iconst (v := 2) C.1.1 C.1.2.1 dl_138 (by decide) ?_
  refine lv_iadd C.1.1 C.1.2.1 dl_139 ?_
  refine va_sld C.1.1 C.1.2.1 hX hbl hbA hS i2 dl_140 ?_
  refine lw_goS (n := 3) C (ww_prescribe (post := ck_poF fbFB gbFB h fN0 q_fc33.2) (px := ck_pxF fbFB gbFB fN0 q_fc33.2) (fun sz => x_fc33 hfl fN0 gN0 sz [.ref (h 0), .int (xs (i + 1).toNatClampNeg), .int (xs (i + 2).toNatClampNeg)] gI_B (List.forall_mem_cons.mpr ⟨⟨by decide, by decide⟩, List.forall_mem_cons.mpr ⟨⟨by decide, by decide⟩, List.forall_mem_cons.mpr ⟨⟨by decide, by decide⟩, fun _ h => absurd h List.not_mem_nil⟩⟩⟩) (⟨Or.inr ⟨0, List.mem_cons_self, rfl⟩, ⟨⟨_, rfl, hc0⟩, ⟨⟨_, rfl, hc1⟩, trivial⟩⟩⟩)) ⟨rfl, rfl, by decide, by decide⟩ (ck_noIF (by decide)) (ck_ex2F (by decide))) kw_379 kw_380 kw_0 kw_381 (by decide +kernel) rfl rfl ⟨Nat.le_of_ble_eq_true rfl, Nat.le_of_ble_eq_true rfl⟩ hP hD hS rfl hl.1 rfl dl_141 hf (fun r f1 g1 H1 locs1 hq hP hD hS => ?_)
  obtain rfl := ck_anS (n := 2) (v := 0) (show q_fc33.2.all (ck_an "java/lang/IllegalStateException" "java/lang/IllegalArgumentException" 2 0) = true by decide) (by decide) hq
  show W p l e room_1 s m args below meth c H1 locs1 (cells + 1) (slots + 6) Q (F0 m 144 ls [.int (Int32.ofNat 2)])
  refine lv_istore (lv' := [(5, .int (Int32.ofNat 2)), (0, .ref b), (1, .ref (h 0)), (2, .ref (hm 0)), (3, .ref ho), (4, .int i)]) C.1.1 C.1.2.1 dl_144 hl (by decide) rfl (fun ls hl => ?_)
  refine lv_aload_n C.1.1 C.1.2.1 dl_146 rfl (lv_at hl 3 rfl) ?_
  refine lv_aload_n C.1.1 C.1.2.1 dl_147 rfl (lv_at hl 1 rfl) ?_
  refine lv_iload C.1.1 C.1.2.1 dl_148 (lv_at hl 5 rfl) ?_
  refine lv_iconst (v := 1) C.1.1 C.1.2.1 dl_150 (by decide) ?_
  refine lv_iadd C.1.1 C.1.2.1 dl_151 ?_
  refine va_sld C.1.1 C.1.2.1 hX hbl hbA hS i1 dl_152 ?_
  refine lv_aload_n C.1.1 C.1.2.1 dl_153 rfl (lv_at hl 1 rfl) ?_
  refine lv_iload C.1.1 C.1.2.1 dl_154 (lv_at hl 5 rfl) ?_
  refine lv_iconst (v := 2) C.1.1 C.1.2.1 dl_156 (by decide) ?_
  refine lv_iadd C.1.1 C.1.2.1 dl_157 ?_
  refine va_sld C.1.1 C.1.2.1 hX hbl hbA hS i2 dl_158 ?_
  refine lm_goR (h := h) (hm := hm) (As := [.int (xs (i + 1).toNatClampNeg), .int (xs (i + 2).toNatClampNeg)]) (rest := []) C (c_fn17 xL_ok) (cwV 2 C.1.2.2.2.2 (kk_gV kw_857 kw_858 kw_859 kw_9 kw_860) rfl rfl rfl (by decide +kernel) ⟨Nat.le_of_ble_eq_true rfl, Nat.le_of_ble_eq_true rfl⟩) gI_FN (List.forall_mem_cons.mpr ⟨⟨by decide, by decide⟩, List.forall_mem_cons.mpr ⟨⟨by decide, by decide⟩, List.forall_mem_cons.mpr ⟨⟨by decide, by decide⟩, List.forall_mem_cons.mpr ⟨⟨by decide, by decide⟩, fun _ h => absurd h List.not_mem_nil⟩⟩⟩⟩) (⟨Or.inr ⟨0, List.mem_cons_self, rfl⟩, ⟨⟨_, rfl, hc0⟩, ⟨⟨_, rfl, hc1⟩, trivial⟩⟩⟩) hP hD hS rfl hl.1 rfl (Nat.le_of_ble_eq_true rfl) dl_159 hf (fun r f2 g2 H2 locs2 hq2 hJ2 hP hD hS => ?_)
  obtain ⟨o2, ho2, hr2, hT2⟩ := hq2
  have h8 := List.all_eq_true.mp (show q_fn17.2.all (fun o => ck_isV o && ck_val 0 2 o) = true by decide) o2 ho2
  simp only [Bool.and_eq_true] at h8
  obtain rfl := ck_isV_ok h8.1 hr2
  show W p l e room_1 s m args below meth c H2 locs2 (cells + 1) (slots + 6) Q (F0 m 162 ls [])
  have hc9 := ck_val_ok h8.2 hT2
  refine lv_aload_n C.1.1 C.1.2.1 dl_162 rfl (lv_at hl 3 rfl) ?_
  refine lm_goR (h := h) (hm := hm) (As := []) (rest := []) C (c_fn2 xL_ok) (cwV 0 C.1.2.2.2.2 (kk_gV kw_853 kw_854 kw_855 kw_9 kw_856) rfl rfl rfl (by decide +kernel) ⟨Nat.le_of_ble_eq_true rfl, Nat.le_of_ble_eq_true rfl⟩) hJ2 (List.forall_mem_cons.mpr ⟨⟨by show (2 : Int) ≤ (f2 0).toInt; omega, by show (f2 0).toInt ≤ (2 : Int); omega⟩, List.forall_mem_cons.mpr ⟨ck_in_top _, List.forall_mem_cons.mpr ⟨ck_in_top _, List.forall_mem_cons.mpr ⟨ck_in_top _, fun _ h => absurd h List.not_mem_nil⟩⟩⟩⟩) ⟨Or.inr ⟨0, List.mem_cons_self, rfl⟩, trivial⟩ hP hD hS rfl hl.1 rfl (Nat.le_of_ble_eq_true rfl) dl_163 hf (fun r f3 g3 H3 locs3 hq3 hJ3 hP hD hS => ?_)
  obtain ⟨o3, ho3, hr3, hT3⟩ := hq3
  obtain ⟨x3, rfl, hx3⟩ := ck_isN_ok (List.all_eq_true.mp (show q_fn2.2.all (ck_isN 2) = true by decide) o3 ho3) hr3
  show W p l e room_1 s m args below meth c H3 locs3 (cells + 1) (slots + 6) Q (F0 m 166 ls [.int x3])
  refine lv_iload C.1.1 C.1.2.1 dl_166 (lv_at hl 0 rfl) ?_
  refine lv_icmp_eq (tgt := 173) C.1.1 C.1.2.1 dl_168 (by decide) (fun _ => ?_) (fun hne => absurd (Int32.toInt_inj.mp (by rw [hx3]; rfl)) hne)
  refine lv_goto (tgt := 840) C.1.1 C.1.2.1 dl_173 (by decide) ?_
  exact kk H3 locs3 _ hS (lv_sub hl [1, 2, 3, 4, 5] rfl)
theorem lo_0_fc36 {p : Program} {l : Launch} {e : Env} {s : State} {m : MethodId} {args : Array Value} {below : List Frame} {meth : Method} {c : Code} {H : Heap} {locs : List Loc} {cells slots : Nat} {Q : State → Prop} {D : va_G} {B : Nat} {A : Nat → Prop} {h hm : Nat → Nat} {cI cZ cJ : ClassId} {ho : Nat} {ls : Array Slot} {b L : Nat} {xs : Nat → Int32} {i : Int32} {cx : Cond} (hfl : l.flags = flags0) (C : zz_Cx p m meth c code 7 ret s args (cx :: kk_W) "NightCyclerLaw" D vN (tyN cI cZ cJ) A B (xL B h)) (hX : va_X b L xs s s.heap) (hbl : b < s.heap.size) (hbA : ¬ A b) (i1 : vp_in (i + 1) L) (i2 : vp_in (i + 2) L) (hP : va_P D vN (wW cI cZ cJ ho h hm fN0 gN0 fM0 gM0) H) (hD : va_D A (wW cI cZ cJ ho h hm fN0 gN0 fM0 gM0)) (hS : va_S A s.heap H locs) (hl : lv_has ls 7 [(0, .ref b), (1, .ref (h 0)), (2, .ref (hm 0)), (3, .ref ho), (4, .int i)]) (hf : cells + 1 ≤ room_1.cells ∧ slots + 6 ≤ room_1.slots) (hc0 : (4 : Int) ≤ (xs (i + 1).toNatClampNeg).toInt ∧ (xs (i + 1).toNatClampNeg).toInt ≤ (4 : Int)) (hc1 : (50 : Int) ≤ (xs (i + 2).toNatClampNeg).toInt ∧ (xs (i + 2).toNatClampNeg).toInt ≤ (100 : Int)) (kk : ∀ (H1 : Heap) (locs1 : List Loc) (ls1 : Array Slot), va_S A s.heap H1 locs1 → lv_has ls1 7 [(0, .ref b), (1, .ref (h 0)), (2, .ref (hm 0)), (3, .ref ho), (4, .int i)] → W p l e room_1 s m args below meth c H1 locs1 (cells + 1) (slots + 6) Q (F0 m 840 ls1 [])) : W p l e room_1 s m args below meth c H locs cells slots Q (F0 m 128 ls []) := by
  refine lv_aload_n C.1.1 C.1.2.1 dl_128 rfl (lv_at hl 1 rfl) ?_
  refine lv_aload_n C.1.1 C.1.2.1 dl_129 rfl (lv_at hl 0 rfl) ?_
  refine lv_iload C.1.1 C.1.2.1 dl_130 (lv_at hl 4 rfl) ?_
  refine lv_iconst (v := 1) C.1.1 C.1.2.1 dl_132 (by decide) ?_
  refine lv_iadd C.1.1 C.1.2.1 dl_133 ?_
  refine va_sld C.1.1 C.1.2.1 hX hbl hbA hS i1 dl_134 ?_
  refine lv_aload_n C.1.1 C.1.2.1 dl_135 rfl (lv_at hl 0 rfl) ?_
  refine lv_iload C.1.1 C.1.2.1 dl_136 (lv_at hl 4 rfl) ?_
  refine lv_iconst (v := 2) C.1.1 C.1.2.1 dl_138 (by decide) ?_
  refine lv_iadd C.1.1 C.1.2.1 dl_139 ?_
  refine va_sld C.1.1 C.1.2.1 hX hbl hbA hS i2 dl_140 ?_
  refine lw_goS (n := 3) C (ww_prescribe (post := ck_poF fbFB gbFB h fN0 q_fc36.2) (px := ck_pxF fbFB gbFB fN0 q_fc36.2) (fun sz => x_fc36 hfl fN0 gN0 sz [.ref (h 0), .int (xs (i + 1).toNatClampNeg), .int (xs (i + 2).toNatClampNeg)] gI_B (List.forall_mem_cons.mpr ⟨⟨by decide, by decide⟩, List.forall_mem_cons.mpr ⟨⟨by decide, by decide⟩, List.forall_mem_cons.mpr ⟨⟨by decide, by decide⟩, fun _ h => absurd h List.not_mem_nil⟩⟩⟩) (⟨Or.inr ⟨0, List.mem_cons_self, rfl⟩, ⟨⟨_, rfl, hc0⟩, ⟨⟨_, rfl, hc1⟩, trivial⟩⟩⟩)) ⟨rfl, rfl, by decide, by decide⟩ (ck_noIF (by decide)) (ck_ex2F (by decide))) kw_379 kw_380 kw_0 kw_381 (by decide +kernel) rfl rfl ⟨Nat.le_of_ble_eq_true rfl, Nat.le_of_ble_eq_true rfl⟩ hP hD hS rfl hl.1 rfl dl_141 hf (fun r f1 g1 H1 locs1 hq hP hD hS => ?_)
  obtain rfl := ck_anS (n := 0) (v := 0) (show q_fc36.2.all (ck_an "java/lang/IllegalStateException" "java/lang/IllegalArgumentException" 0 0) = true by decide) (by decide) hq
  show W p l e room_1 s m args below meth c H1 locs1 (cells + 1) (slots + 6) Q (F0 m 144 ls [.int (Int32.ofNat 0)])
  refine lv_istore (lv' := [(5, .int (Int32.ofNat 0)), (0, .ref b), (1, .ref (h 0)), (2, .ref (hm 0)), (3, .ref ho), (4, .int i)]) C.1.1 C.1.2.1 dl_144 hl (by decide) rfl (fun ls hl => ?_)
  refine lv_aload_n C.1.1 C.1.2.1 dl_146 rfl (lv_at hl 3 rfl) ?_
  refine lv_aload_n C.1.1 C.1.2.1 dl_147 rfl (lv_at hl 1 rfl) ?_
  refine lv_iload C.1.1 C.1.2.1 dl_148 (lv_at hl 5 rfl) ?_
  refine lv_iconst (v := 1) C.1.1 C.1.2.1 dl_150 (by decide) ?_
  refine lv_iadd C.1.1 C.1.2.1 dl_151 ?_
  refine va_sld C.1.1 C.1.2.1 hX hbl hbA hS i1 dl_152 ?_
  refine lv_aload_n C.1.1 C.1.2.1 dl_153 rfl (lv_at hl 1 rfl) ?_
  refine lv_iload C.1.1 C.1.2.1 dl_154 (lv_at hl 5 rfl) ?_
  refine lv_iconst (v := 2) C.1.1 C.1.2.1 dl_156 (by decide) ?_
  refine lv_iadd C.1.1 C.1.2.1 dl_157 ?_
  refine va_sld C.1.1 C.1.2.1 hX hbl hbA hS i2 dl_158 ?_
  refine lm_goR (h := h) (hm := hm) (As := [.int (xs (i + 1).toNatClampNeg), .int (xs (i + 2).toNatClampNeg)]) (rest := []) C (c_fn18 xL_ok) (cwV 2 C.1.2.2.2.2 (kk_gV kw_857 kw_858 kw_859 kw_9 kw_860) rfl rfl rfl (by decide +kernel) ⟨Nat.le_of_ble_eq_true rfl, Nat.le_of_ble_eq_true rfl⟩) gI_FN (List.forall_mem_cons.mpr ⟨⟨by decide, by decide⟩, List.forall_mem_cons.mpr ⟨⟨by decide, by decide⟩, List.forall_mem_cons.mpr ⟨⟨by decide, by decide⟩, List.forall_mem_cons.mpr ⟨⟨by decide, by decide⟩, fun _ h => absurd h List.not_mem_nil⟩⟩⟩⟩) (⟨Or.inr ⟨0, List.mem_cons_self, rfl⟩, ⟨⟨_, rfl, hc0⟩, ⟨⟨_, rfl, hc1⟩, trivial⟩⟩⟩) hP hD hS rfl hl.1 rfl (Nat.le_of_ble_eq_true rfl) dl_159 hf (fun r f2 g2 H2 locs2 hq2 hJ2 hP hD hS => ?_)
  obtain ⟨o2, ho2, hr2, hT2⟩ := hq2
  have h8 := List.all_eq_true.mp (show q_fn18.2.all (fun o => ck_isV o && ck_val 0 0 o) = true by decide) o2 ho2
  simp only [Bool.and_eq_true] at h8
  obtain rfl := ck_isV_ok h8.1 hr2
  show W p l e room_1 s m args below meth c H2 locs2 (cells + 1) (slots + 6) Q (F0 m 162 ls [])
  have hc9 := ck_val_ok h8.2 hT2
  refine lv_aload_n C.1.1 C.1.2.1 dl_162 rfl (lv_at hl 3 rfl) ?_
  refine lm_goR (h := h) (hm := hm) (As := []) (rest := []) C (c_fn0 xL_ok) (cwV 0 C.1.2.2.2.2 (kk_gV kw_853 kw_854 kw_855 kw_9 kw_856) rfl rfl rfl (by decide +kernel) ⟨Nat.le_of_ble_eq_true rfl, Nat.le_of_ble_eq_true rfl⟩) hJ2 (List.forall_mem_cons.mpr ⟨⟨by show (0 : Int) ≤ (f2 0).toInt; omega, by show (f2 0).toInt ≤ (0 : Int); omega⟩, List.forall_mem_cons.mpr ⟨ck_in_top _, List.forall_mem_cons.mpr ⟨ck_in_top _, List.forall_mem_cons.mpr ⟨ck_in_top _, fun _ h => absurd h List.not_mem_nil⟩⟩⟩⟩) ⟨Or.inr ⟨0, List.mem_cons_self, rfl⟩, trivial⟩ hP hD hS rfl hl.1 rfl (Nat.le_of_ble_eq_true rfl) dl_163 hf (fun r f3 g3 H3 locs3 hq3 hJ3 hP hD hS => ?_)
  obtain ⟨o3, ho3, hr3, hT3⟩ := hq3
  obtain ⟨x3, rfl, hx3⟩ := ck_isN_ok (List.all_eq_true.mp (show q_fn0.2.all (ck_isN 0) = true by decide) o3 ho3) hr3
  show W p l e room_1 s m args below meth c H3 locs3 (cells + 1) (slots + 6) Q (F0 m 166 ls [.int x3])
  refine lv_iload C.1.1 C.1.2.1 dl_166 (lv_at hl 0 rfl) ?_
  refine lv_icmp_eq (tgt := 173) C.1.1 C.1.2.1 dl_168 (by decide) (fun _ => ?_) (fun hne => absurd (Int32.toInt_inj.mp (by rw [hx3]; rfl)) hne)
  refine lv_goto (tgt := 840) C.1.1 C.1.2.1 dl_173 (by decide) ?_
  exact kk H3 locs3 _ hS (lv_sub hl [1, 2, 3, 4, 5] rfl)
theorem lo_0_fc38 {p : Program} {l : Launch} {e : Env} {s : State} {m : MethodId} {args : Array Value} {below : List Frame} {meth : Method} {c : Code} {H : Heap} {locs : List Loc} {cells slots : Nat} {Q : State → Prop} {D : va_G} {B : Nat} {A : Nat → Prop} {h hm : Nat → Nat} {cI cZ cJ : ClassId} {ho : Nat} {ls : Array Slot} {b L : Nat} {xs : Nat → Int32} {i : Int32} {cx : Cond} (hfl : l.flags = flags0) (C : zz_Cx p m meth c code 7 ret s args (cx :: kk_W) "NightCyclerLaw" D vN (tyN cI cZ cJ) A B (xL B h)) (hX : va_X b L xs s s.heap) (hbl : b < s.heap.size) (hbA : ¬ A b) (i1 : vp_in (i + 1) L) (i2 : vp_in (i + 2) L) (hP : va_P D vN (wW cI cZ cJ ho h hm fN0 gN0 fM0 gM0) H) (hD : va_D A (wW cI cZ cJ ho h hm fN0 gN0 fM0 gM0)) (hS : va_S A s.heap H locs) (hl : lv_has ls 7 [(0, .ref b), (1, .ref (h 0)), (2, .ref (hm 0)), (3, .ref ho), (4, .int i)]) (hf : cells + 1 ≤ room_1.cells ∧ slots + 6 ≤ room_1.slots) (hc0 : (4 : Int) ≤ (xs (i + 1).toNatClampNeg).toInt ∧ (xs (i + 1).toNatClampNeg).toInt ≤ (4 : Int)) (hc1 : (101 : Int) ≤ (xs (i + 2).toNatClampNeg).toInt ∧ (xs (i + 2).toNatClampNeg).toInt ≤ (2147483647 : Int)) (kk : ∀ (H1 : Heap) (locs1 : List Loc) (ls1 : Array Slot), va_S A s.heap H1 locs1 → lv_has ls1 7 [(0, .ref b), (1, .ref (h 0)), (2, .ref (hm 0)), (3, .ref ho), (4, .int i)] → W p l e room_1 s m args below meth c H1 locs1 (cells + 1) (slots + 6) Q (F0 m 840 ls1 [])) : W p l e room_1 s m args below meth c H locs cells slots Q (F0 m 128 ls []) := by
  refine lv_aload_n C.1.1 C.1.2.1 dl_128 rfl (lv_at hl 1 rfl) ?_
  refine lv_aload_n C.1.1 C.1.2.1 dl_129 rfl (lv_at hl 0 rfl) ?_
  refine lv_iload C.1.1 C.1.2.1 dl_130 (lv_at hl 4 rfl) ?_
  refine lv_iconst (v := 1) C.1.1 C.1.2.1 dl_132 (by decide) ?_
  refine lv_iadd C.1.1 C.1.2.1 dl_133 ?_
  refine va_sld C.1.1 C.1.2.1 hX hbl hbA hS i1 dl_134 ?_
  refine lv_aload_n C.1.1 C.1.2.1 dl_135 rfl (lv_at hl 0 rfl) ?_
  refine lv_iload C.1.1 C.1.2.1 dl_136 (lv_at hl 4 rfl) ?_
  refine lv_iconst (v := 2) C.1.1 C.1.2.1 dl_138 (by decide) ?_
  refine lv_iadd C.1.1 C.1.2.1 dl_139 ?_
  refine va_sld C.1.1 C.1.2.1 hX hbl hbA hS i2 dl_140 ?_
  refine lw_goS (n := 3) C (ww_prescribe (post := ck_poF fbFB gbFB h fN0 q_fc38.2) (px := ck_pxF fbFB gbFB fN0 q_fc38.2) (fun sz => x_fc38 hfl fN0 gN0 sz [.ref (h 0), .int (xs (i + 1).toNatClampNeg), .int (xs (i + 2).toNatClampNeg)] gI_B (List.forall_mem_cons.mpr ⟨⟨by decide, by decide⟩, List.forall_mem_cons.mpr ⟨⟨by decide, by decide⟩, List.forall_mem_cons.mpr ⟨⟨by decide, by decide⟩, fun _ h => absurd h List.not_mem_nil⟩⟩⟩) (⟨Or.inr ⟨0, List.mem_cons_self, rfl⟩, ⟨⟨_, rfl, hc0⟩, ⟨⟨_, rfl, hc1⟩, trivial⟩⟩⟩)) ⟨rfl, rfl, by decide, by decide⟩ (ck_noIF (by decide)) (ck_ex2F (by decide))) kw_379 kw_380 kw_0 kw_381 (by decide +kernel) rfl rfl ⟨Nat.le_of_ble_eq_true rfl, Nat.le_of_ble_eq_true rfl⟩ hP hD hS rfl hl.1 rfl dl_141 hf (fun r f1 g1 H1 locs1 hq hP hD hS => ?_)
  obtain rfl := ck_anS (n := 2) (v := 0) (show q_fc38.2.all (ck_an "java/lang/IllegalStateException" "java/lang/IllegalArgumentException" 2 0) = true by decide) (by decide) hq
  show W p l e room_1 s m args below meth c H1 locs1 (cells + 1) (slots + 6) Q (F0 m 144 ls [.int (Int32.ofNat 2)])
  refine lv_istore (lv' := [(5, .int (Int32.ofNat 2)), (0, .ref b), (1, .ref (h 0)), (2, .ref (hm 0)), (3, .ref ho), (4, .int i)]) C.1.1 C.1.2.1 dl_144 hl (by decide) rfl (fun ls hl => ?_)
  refine lv_aload_n C.1.1 C.1.2.1 dl_146 rfl (lv_at hl 3 rfl) ?_
  refine lv_aload_n C.1.1 C.1.2.1 dl_147 rfl (lv_at hl 1 rfl) ?_
  refine lv_iload C.1.1 C.1.2.1 dl_148 (lv_at hl 5 rfl) ?_
  refine lv_iconst (v := 1) C.1.1 C.1.2.1 dl_150 (by decide) ?_
  refine lv_iadd C.1.1 C.1.2.1 dl_151 ?_
  refine va_sld C.1.1 C.1.2.1 hX hbl hbA hS i1 dl_152 ?_
  refine lv_aload_n C.1.1 C.1.2.1 dl_153 rfl (lv_at hl 1 rfl) ?_
  refine lv_iload C.1.1 C.1.2.1 dl_154 (lv_at hl 5 rfl) ?_
  refine lv_iconst (v := 2) C.1.1 C.1.2.1 dl_156 (by decide) ?_
  refine lv_iadd C.1.1 C.1.2.1 dl_157 ?_
  refine va_sld C.1.1 C.1.2.1 hX hbl hbA hS i2 dl_158 ?_
  refine lm_goR (h := h) (hm := hm) (As := [.int (xs (i + 1).toNatClampNeg), .int (xs (i + 2).toNatClampNeg)]) (rest := []) C (c_fn19 xL_ok) (cwV 2 C.1.2.2.2.2 (kk_gV kw_857 kw_858 kw_859 kw_9 kw_860) rfl rfl rfl (by decide +kernel) ⟨Nat.le_of_ble_eq_true rfl, Nat.le_of_ble_eq_true rfl⟩) gI_FN (List.forall_mem_cons.mpr ⟨⟨by decide, by decide⟩, List.forall_mem_cons.mpr ⟨⟨by decide, by decide⟩, List.forall_mem_cons.mpr ⟨⟨by decide, by decide⟩, List.forall_mem_cons.mpr ⟨⟨by decide, by decide⟩, fun _ h => absurd h List.not_mem_nil⟩⟩⟩⟩) (⟨Or.inr ⟨0, List.mem_cons_self, rfl⟩, ⟨⟨_, rfl, hc0⟩, ⟨⟨_, rfl, hc1⟩, trivial⟩⟩⟩) hP hD hS rfl hl.1 rfl (Nat.le_of_ble_eq_true rfl) dl_159 hf (fun r f2 g2 H2 locs2 hq2 hJ2 hP hD hS => ?_)
  obtain ⟨o2, ho2, hr2, hT2⟩ := hq2
  have h8 := List.all_eq_true.mp (show q_fn19.2.all (fun o => ck_isV o && ck_val 0 2 o) = true by decide) o2 ho2
  simp only [Bool.and_eq_true] at h8
  obtain rfl := ck_isV_ok h8.1 hr2
  show W p l e room_1 s m args below meth c H2 locs2 (cells + 1) (slots + 6) Q (F0 m 162 ls [])
  have hc9 := ck_val_ok h8.2 hT2
  refine lv_aload_n C.1.1 C.1.2.1 dl_162 rfl (lv_at hl 3 rfl) ?_
  refine lm_goR (h := h) (hm := hm) (As := []) (rest := []) C (c_fn2 xL_ok) (cwV 0 C.1.2.2.2.2 (kk_gV kw_853 kw_854 kw_855 kw_9 kw_856) rfl rfl rfl (by decide +kernel) ⟨Nat.le_of_ble_eq_true rfl, Nat.le_of_ble_eq_true rfl⟩) hJ2 (List.forall_mem_cons.mpr ⟨⟨by show (2 : Int) ≤ (f2 0).toInt; omega, by show (f2 0).toInt ≤ (2 : Int); omega⟩, List.forall_mem_cons.mpr ⟨ck_in_top _, List.forall_mem_cons.mpr ⟨ck_in_top _, List.forall_mem_cons.mpr ⟨ck_in_top _, fun _ h => absurd h List.not_mem_nil⟩⟩⟩⟩) ⟨Or.inr ⟨0, List.mem_cons_self, rfl⟩, trivial⟩ hP hD hS rfl hl.1 rfl (Nat.le_of_ble_eq_true rfl) dl_163 hf (fun r f3 g3 H3 locs3 hq3 hJ3 hP hD hS => ?_)
  obtain ⟨o3, ho3, hr3, hT3⟩ := hq3
  obtain ⟨x3, rfl, hx3⟩ := ck_isN_ok (List.all_eq_true.mp (show q_fn2.2.all (ck_isN 2) = true by decide) o3 ho3) hr3
  show W p l e room_1 s m args below meth c H3 locs3 (cells + 1) (slots + 6) Q (F0 m 166 ls [.int x3])
  refine lv_iload C.1.1 C.1.2.1 dl_166 (lv_at hl 0 rfl) ?_
  refine lv_icmp_eq (tgt := 173) C.1.1 C.1.2.1 dl_168 (by decide) (fun _ => ?_) (fun hne => absurd (Int32.toInt_inj.mp (by rw [hx3]; rfl)) hne)
  refine lv_goto (tgt := 840) C.1.1 C.1.2.1 dl_173 (by decide) ?_
  exact kk H3 locs3 _ hS (lv_sub hl [1, 2, 3, 4, 5] rfl)
theorem lo_0_fc40 {p : Program} {l : Launch} {e : Env} {s : State} {m : MethodId} {args : Array Value} {below : List Frame} {meth : Method} {c : Code} {H : Heap} {locs : List Loc} {cells slots : Nat} {Q : State → Prop} {D : va_G} {B : Nat} {A : Nat → Prop} {h hm : Nat → Nat} {cI cZ cJ : ClassId} {ho : Nat} {ls : Array Slot} {b L : Nat} {xs : Nat → Int32} {i : Int32} {cx : Cond} (hfl : l.flags = flags0) (C : zz_Cx p m meth c code 7 ret s args (cx :: kk_W) "NightCyclerLaw" D vN (tyN cI cZ cJ) A B (xL B h)) (hX : va_X b L xs s s.heap) (hbl : b < s.heap.size) (hbA : ¬ A b) (i1 : vp_in (i + 1) L) (i2 : vp_in (i + 2) L) (hP : va_P D vN (wW cI cZ cJ ho h hm fN0 gN0 fM0 gM0) H) (hD : va_D A (wW cI cZ cJ ho h hm fN0 gN0 fM0 gM0)) (hS : va_S A s.heap H locs) (hl : lv_has ls 7 [(0, .ref b), (1, .ref (h 0)), (2, .ref (hm 0)), (3, .ref ho), (4, .int i)]) (hf : cells + 1 ≤ room_1.cells ∧ slots + 6 ≤ room_1.slots) (hc0 : (5 : Int) ≤ (xs (i + 1).toNatClampNeg).toInt ∧ (xs (i + 1).toNatClampNeg).toInt ≤ (5 : Int)) (hc1 : (-2147483648 : Int) ≤ (xs (i + 2).toNatClampNeg).toInt ∧ (xs (i + 2).toNatClampNeg).toInt ≤ (999 : Int)) (kk : ∀ (H1 : Heap) (locs1 : List Loc) (ls1 : Array Slot), va_S A s.heap H1 locs1 → lv_has ls1 7 [(0, .ref b), (1, .ref (h 0)), (2, .ref (hm 0)), (3, .ref ho), (4, .int i)] → W p l e room_1 s m args below meth c H1 locs1 (cells + 1) (slots + 6) Q (F0 m 840 ls1 [])) : W p l e room_1 s m args below meth c H locs cells slots Q (F0 m 128 ls []) := by
  refine lv_aload_n C.1.1 C.1.2.1 dl_128 rfl (lv_at hl 1 rfl) ?_
  refine lv_aload_n C.1.1 C.1.2.1 dl_129 rfl (lv_at hl 0 rfl) ?_
  refine lv_iload C.1.1 C.1.2.1 dl_130 (lv_at hl 4 rfl) ?_
  refine lv_iconst (v := 1) C.1.1 C.1.2.1 dl_132 (by decide) ?_
  refine lv_iadd C.1.1 C.1.2.1 dl_133 ?_
  refine va_sld C.1.1 C.1.2.1 hX hbl hbA hS i1 dl_134 ?_
  refine lv_aload_n C.1.1 C.1.2.1 dl_135 rfl (lv_at hl 0 rfl) ?_
  refine lv_iload C.1.1 C.1.2.1 dl_136 (lv_at hl 4 rfl) ?_
  refine lv_iconst (v := 2) C.1.1 C.1.2.1 dl_138 (by decide) ?_
  refine lv_iadd C.1.1 C.1.2.1 dl_139 ?_
  refine va_sld C.1.1 C.1.2.1 hX hbl hbA hS i2 dl_140 ?_
  refine lw_goS (n := 3) C (ww_prescribe (post := ck_poF fbFB gbFB h fN0 q_fc40.2) (px := ck_pxF fbFB gbFB fN0 q_fc40.2) (fun sz => x_fc40 hfl fN0 gN0 sz [.ref (h 0), .int (xs (i + 1).toNatClampNeg), .int (xs (i + 2).toNatClampNeg)] gI_B (List.forall_mem_cons.mpr ⟨⟨by decide, by decide⟩, List.forall_mem_cons.mpr ⟨⟨by decide, by decide⟩, List.forall_mem_cons.mpr ⟨⟨by decide, by decide⟩, fun _ h => absurd h List.not_mem_nil⟩⟩⟩) (⟨Or.inr ⟨0, List.mem_cons_self, rfl⟩, ⟨⟨_, rfl, hc0⟩, ⟨⟨_, rfl, hc1⟩, trivial⟩⟩⟩)) ⟨rfl, rfl, by decide, by decide⟩ (ck_noIF (by decide)) (ck_ex2F (by decide))) kw_379 kw_380 kw_0 kw_381 (by decide +kernel) rfl rfl ⟨Nat.le_of_ble_eq_true rfl, Nat.le_of_ble_eq_true rfl⟩ hP hD hS rfl hl.1 rfl dl_141 hf (fun r f1 g1 H1 locs1 hq hP hD hS => ?_)
  obtain rfl := ck_anS (n := 2) (v := 0) (show q_fc40.2.all (ck_an "java/lang/IllegalStateException" "java/lang/IllegalArgumentException" 2 0) = true by decide) (by decide) hq
  show W p l e room_1 s m args below meth c H1 locs1 (cells + 1) (slots + 6) Q (F0 m 144 ls [.int (Int32.ofNat 2)])
  refine lv_istore (lv' := [(5, .int (Int32.ofNat 2)), (0, .ref b), (1, .ref (h 0)), (2, .ref (hm 0)), (3, .ref ho), (4, .int i)]) C.1.1 C.1.2.1 dl_144 hl (by decide) rfl (fun ls hl => ?_)
  refine lv_aload_n C.1.1 C.1.2.1 dl_146 rfl (lv_at hl 3 rfl) ?_
  refine lv_aload_n C.1.1 C.1.2.1 dl_147 rfl (lv_at hl 1 rfl) ?_
  refine lv_iload C.1.1 C.1.2.1 dl_148 (lv_at hl 5 rfl) ?_
  refine lv_iconst (v := 1) C.1.1 C.1.2.1 dl_150 (by decide) ?_
  refine lv_iadd C.1.1 C.1.2.1 dl_151 ?_
  refine va_sld C.1.1 C.1.2.1 hX hbl hbA hS i1 dl_152 ?_
  refine lv_aload_n C.1.1 C.1.2.1 dl_153 rfl (lv_at hl 1 rfl) ?_
  refine lv_iload C.1.1 C.1.2.1 dl_154 (lv_at hl 5 rfl) ?_
  refine lv_iconst (v := 2) C.1.1 C.1.2.1 dl_156 (by decide) ?_
  refine lv_iadd C.1.1 C.1.2.1 dl_157 ?_
  refine va_sld C.1.1 C.1.2.1 hX hbl hbA hS i2 dl_158 ?_
  refine lm_goR (h := h) (hm := hm) (As := [.int (xs (i + 1).toNatClampNeg), .int (xs (i + 2).toNatClampNeg)]) (rest := []) C (c_fn20 xL_ok) (cwV 2 C.1.2.2.2.2 (kk_gV kw_857 kw_858 kw_859 kw_9 kw_860) rfl rfl rfl (by decide +kernel) ⟨Nat.le_of_ble_eq_true rfl, Nat.le_of_ble_eq_true rfl⟩) gI_FN (List.forall_mem_cons.mpr ⟨⟨by decide, by decide⟩, List.forall_mem_cons.mpr ⟨⟨by decide, by decide⟩, List.forall_mem_cons.mpr ⟨⟨by decide, by decide⟩, List.forall_mem_cons.mpr ⟨⟨by decide, by decide⟩, fun _ h => absurd h List.not_mem_nil⟩⟩⟩⟩) (⟨Or.inr ⟨0, List.mem_cons_self, rfl⟩, ⟨⟨_, rfl, hc0⟩, ⟨⟨_, rfl, hc1⟩, trivial⟩⟩⟩) hP hD hS rfl hl.1 rfl (Nat.le_of_ble_eq_true rfl) dl_159 hf (fun r f2 g2 H2 locs2 hq2 hJ2 hP hD hS => ?_)
  obtain ⟨o2, ho2, hr2, hT2⟩ := hq2
  have h8 := List.all_eq_true.mp (show q_fn20.2.all (fun o => ck_isV o && ck_val 0 2 o) = true by decide) o2 ho2
  simp only [Bool.and_eq_true] at h8
  obtain rfl := ck_isV_ok h8.1 hr2
  show W p l e room_1 s m args below meth c H2 locs2 (cells + 1) (slots + 6) Q (F0 m 162 ls [])
  have hc9 := ck_val_ok h8.2 hT2
  refine lv_aload_n C.1.1 C.1.2.1 dl_162 rfl (lv_at hl 3 rfl) ?_
  refine lm_goR (h := h) (hm := hm) (As := []) (rest := []) C (c_fn2 xL_ok) (cwV 0 C.1.2.2.2.2 (kk_gV kw_853 kw_854 kw_855 kw_9 kw_856) rfl rfl rfl (by decide +kernel) ⟨Nat.le_of_ble_eq_true rfl, Nat.le_of_ble_eq_true rfl⟩) hJ2 (List.forall_mem_cons.mpr ⟨⟨by show (2 : Int) ≤ (f2 0).toInt; omega, by show (f2 0).toInt ≤ (2 : Int); omega⟩, List.forall_mem_cons.mpr ⟨ck_in_top _, List.forall_mem_cons.mpr ⟨ck_in_top _, List.forall_mem_cons.mpr ⟨ck_in_top _, fun _ h => absurd h List.not_mem_nil⟩⟩⟩⟩) ⟨Or.inr ⟨0, List.mem_cons_self, rfl⟩, trivial⟩ hP hD hS rfl hl.1 rfl (Nat.le_of_ble_eq_true rfl) dl_163 hf (fun r f3 g3 H3 locs3 hq3 hJ3 hP hD hS => ?_)
  obtain ⟨o3, ho3, hr3, hT3⟩ := hq3
  obtain ⟨x3, rfl, hx3⟩ := ck_isN_ok (List.all_eq_true.mp (show q_fn2.2.all (ck_isN 2) = true by decide) o3 ho3) hr3
  show W p l e room_1 s m args below meth c H3 locs3 (cells + 1) (slots + 6) Q (F0 m 166 ls [.int x3])
  refine lv_iload C.1.1 C.1.2.1 dl_166 (lv_at hl 0 rfl) ?_
  refine lv_icmp_eq (tgt := 173) C.1.1 C.1.2.1 dl_168 (by decide) (fun _ => ?_) (fun hne => absurd (Int32.toInt_inj.mp (by rw [hx3]; rfl)) hne)
  refine lv_goto (tgt := 840) C.1.1 C.1.2.1 dl_173 (by decide) ?_
  exact kk H3 locs3 _ hS (lv_sub hl [1, 2, 3, 4, 5] rfl)
theorem lo_0_fc43 {p : Program} {l : Launch} {e : Env} {s : State} {m : MethodId} {args : Array Value} {below : List Frame} {meth : Method} {c : Code} {H : Heap} {locs : List Loc} {cells slots : Nat} {Q : State → Prop} {D : va_G} {B : Nat} {A : Nat → Prop} {h hm : Nat → Nat} {cI cZ cJ : ClassId} {ho : Nat} {ls : Array Slot} {b L : Nat} {xs : Nat → Int32} {i : Int32} {cx : Cond} (hfl : l.flags = flags0) (C : zz_Cx p m meth c code 7 ret s args (cx :: kk_W) "NightCyclerLaw" D vN (tyN cI cZ cJ) A B (xL B h)) (hX : va_X b L xs s s.heap) (hbl : b < s.heap.size) (hbA : ¬ A b) (i1 : vp_in (i + 1) L) (i2 : vp_in (i + 2) L) (hP : va_P D vN (wW cI cZ cJ ho h hm fN0 gN0 fM0 gM0) H) (hD : va_D A (wW cI cZ cJ ho h hm fN0 gN0 fM0 gM0)) (hS : va_S A s.heap H locs) (hl : lv_has ls 7 [(0, .ref b), (1, .ref (h 0)), (2, .ref (hm 0)), (3, .ref ho), (4, .int i)]) (hf : cells + 1 ≤ room_1.cells ∧ slots + 6 ≤ room_1.slots) (hc0 : (5 : Int) ≤ (xs (i + 1).toNatClampNeg).toInt ∧ (xs (i + 1).toNatClampNeg).toInt ≤ (5 : Int)) (hc1 : (1000 : Int) ≤ (xs (i + 2).toNatClampNeg).toInt ∧ (xs (i + 2).toNatClampNeg).toInt ≤ (40000 : Int)) (kk : ∀ (H1 : Heap) (locs1 : List Loc) (ls1 : Array Slot), va_S A s.heap H1 locs1 → lv_has ls1 7 [(0, .ref b), (1, .ref (h 0)), (2, .ref (hm 0)), (3, .ref ho), (4, .int i)] → W p l e room_1 s m args below meth c H1 locs1 (cells + 1) (slots + 6) Q (F0 m 840 ls1 [])) : W p l e room_1 s m args below meth c H locs cells slots Q (F0 m 128 ls []) := by
  refine lv_aload_n C.1.1 C.1.2.1 dl_128 rfl (lv_at hl 1 rfl) ?_
  refine lv_aload_n C.1.1 C.1.2.1 dl_129 rfl (lv_at hl 0 rfl) ?_
  refine lv_iload C.1.1 C.1.2.1 dl_130 (lv_at hl 4 rfl) ?_
  refine lv_iconst (v := 1) C.1.1 C.1.2.1 dl_132 (by decide) ?_
  refine lv_iadd C.1.1 C.1.2.1 dl_133 ?_
  refine va_sld C.1.1 C.1.2.1 hX hbl hbA hS i1 dl_134 ?_
  refine lv_aload_n C.1.1 C.1.2.1 dl_135 rfl (lv_at hl 0 rfl) ?_
  refine lv_iload C.1.1 C.1.2.1 dl_136 (lv_at hl 4 rfl) ?_
  refine lv_iconst (v := 2) C.1.1 C.1.2.1 dl_138 (by decide) ?_
  refine lv_iadd C.1.1 C.1.2.1 dl_139 ?_
  refine va_sld C.1.1 C.1.2.1 hX hbl hbA hS i2 dl_140 ?_
  refine lw_goS (n := 3) C (ww_prescribe (post := ck_poF fbFB gbFB h fN0 q_fc43.2) (px := ck_pxF fbFB gbFB fN0 q_fc43.2) (fun sz => x_fc43 hfl fN0 gN0 sz [.ref (h 0), .int (xs (i + 1).toNatClampNeg), .int (xs (i + 2).toNatClampNeg)] gI_B (List.forall_mem_cons.mpr ⟨⟨by decide, by decide⟩, List.forall_mem_cons.mpr ⟨⟨by decide, by decide⟩, List.forall_mem_cons.mpr ⟨⟨by decide, by decide⟩, fun _ h => absurd h List.not_mem_nil⟩⟩⟩) (⟨Or.inr ⟨0, List.mem_cons_self, rfl⟩, ⟨⟨_, rfl, hc0⟩, ⟨⟨_, rfl, hc1⟩, trivial⟩⟩⟩)) ⟨rfl, rfl, by decide, by decide⟩ (ck_noIF (by decide)) (ck_ex2F (by decide))) kw_379 kw_380 kw_0 kw_381 (by decide +kernel) rfl rfl ⟨Nat.le_of_ble_eq_true rfl, Nat.le_of_ble_eq_true rfl⟩ hP hD hS rfl hl.1 rfl dl_141 hf (fun r f1 g1 H1 locs1 hq hP hD hS => ?_)
  obtain rfl := ck_anS (n := 0) (v := 0) (show q_fc43.2.all (ck_an "java/lang/IllegalStateException" "java/lang/IllegalArgumentException" 0 0) = true by decide) (by decide) hq
  show W p l e room_1 s m args below meth c H1 locs1 (cells + 1) (slots + 6) Q (F0 m 144 ls [.int (Int32.ofNat 0)])
  refine lv_istore (lv' := [(5, .int (Int32.ofNat 0)), (0, .ref b), (1, .ref (h 0)), (2, .ref (hm 0)), (3, .ref ho), (4, .int i)]) C.1.1 C.1.2.1 dl_144 hl (by decide) rfl (fun ls hl => ?_)
  refine lv_aload_n C.1.1 C.1.2.1 dl_146 rfl (lv_at hl 3 rfl) ?_
  refine lv_aload_n C.1.1 C.1.2.1 dl_147 rfl (lv_at hl 1 rfl) ?_
  refine lv_iload C.1.1 C.1.2.1 dl_148 (lv_at hl 5 rfl) ?_
  refine lv_iconst (v := 1) C.1.1 C.1.2.1 dl_150 (by decide) ?_
  refine lv_iadd C.1.1 C.1.2.1 dl_151 ?_
  refine va_sld C.1.1 C.1.2.1 hX hbl hbA hS i1 dl_152 ?_
  refine lv_aload_n C.1.1 C.1.2.1 dl_153 rfl (lv_at hl 1 rfl) ?_
  refine lv_iload C.1.1 C.1.2.1 dl_154 (lv_at hl 5 rfl) ?_
  refine lv_iconst (v := 2) C.1.1 C.1.2.1 dl_156 (by decide) ?_
  refine lv_iadd C.1.1 C.1.2.1 dl_157 ?_
  refine va_sld C.1.1 C.1.2.1 hX hbl hbA hS i2 dl_158 ?_
  refine lm_goR (h := h) (hm := hm) (As := [.int (xs (i + 1).toNatClampNeg), .int (xs (i + 2).toNatClampNeg)]) (rest := []) C (c_fn21 xL_ok) (cwV 2 C.1.2.2.2.2 (kk_gV kw_857 kw_858 kw_859 kw_9 kw_860) rfl rfl rfl (by decide +kernel) ⟨Nat.le_of_ble_eq_true rfl, Nat.le_of_ble_eq_true rfl⟩) gI_FN (List.forall_mem_cons.mpr ⟨⟨by decide, by decide⟩, List.forall_mem_cons.mpr ⟨⟨by decide, by decide⟩, List.forall_mem_cons.mpr ⟨⟨by decide, by decide⟩, List.forall_mem_cons.mpr ⟨⟨by decide, by decide⟩, fun _ h => absurd h List.not_mem_nil⟩⟩⟩⟩) (⟨Or.inr ⟨0, List.mem_cons_self, rfl⟩, ⟨⟨_, rfl, hc0⟩, ⟨⟨_, rfl, hc1⟩, trivial⟩⟩⟩) hP hD hS rfl hl.1 rfl (Nat.le_of_ble_eq_true rfl) dl_159 hf (fun r f2 g2 H2 locs2 hq2 hJ2 hP hD hS => ?_)
  obtain ⟨o2, ho2, hr2, hT2⟩ := hq2
  have h8 := List.all_eq_true.mp (show q_fn21.2.all (fun o => ck_isV o && ck_val 0 0 o) = true by decide) o2 ho2
  simp only [Bool.and_eq_true] at h8
  obtain rfl := ck_isV_ok h8.1 hr2
  show W p l e room_1 s m args below meth c H2 locs2 (cells + 1) (slots + 6) Q (F0 m 162 ls [])
  have hc9 := ck_val_ok h8.2 hT2
  refine lv_aload_n C.1.1 C.1.2.1 dl_162 rfl (lv_at hl 3 rfl) ?_
  refine lm_goR (h := h) (hm := hm) (As := []) (rest := []) C (c_fn0 xL_ok) (cwV 0 C.1.2.2.2.2 (kk_gV kw_853 kw_854 kw_855 kw_9 kw_856) rfl rfl rfl (by decide +kernel) ⟨Nat.le_of_ble_eq_true rfl, Nat.le_of_ble_eq_true rfl⟩) hJ2 (List.forall_mem_cons.mpr ⟨⟨by show (0 : Int) ≤ (f2 0).toInt; omega, by show (f2 0).toInt ≤ (0 : Int); omega⟩, List.forall_mem_cons.mpr ⟨ck_in_top _, List.forall_mem_cons.mpr ⟨ck_in_top _, List.forall_mem_cons.mpr ⟨ck_in_top _, fun _ h => absurd h List.not_mem_nil⟩⟩⟩⟩) ⟨Or.inr ⟨0, List.mem_cons_self, rfl⟩, trivial⟩ hP hD hS rfl hl.1 rfl (Nat.le_of_ble_eq_true rfl) dl_163 hf (fun r f3 g3 H3 locs3 hq3 hJ3 hP hD hS => ?_)
  obtain ⟨o3, ho3, hr3, hT3⟩ := hq3
  obtain ⟨x3, rfl, hx3⟩ := ck_isN_ok (List.all_eq_true.mp (show q_fn0.2.all (ck_isN 0) = true by decide) o3 ho3) hr3
  show W p l e room_1 s m args below meth c H3 locs3 (cells + 1) (slots + 6) Q (F0 m 166 ls [.int x3])
  refine lv_iload C.1.1 C.1.2.1 dl_166 (lv_at hl 0 rfl) ?_
  refine lv_icmp_eq (tgt := 173) C.1.1 C.1.2.1 dl_168 (by decide) (fun _ => ?_) (fun hne => absurd (Int32.toInt_inj.mp (by rw [hx3]; rfl)) hne)
  refine lv_goto (tgt := 840) C.1.1 C.1.2.1 dl_173 (by decide) ?_
  exact kk H3 locs3 _ hS (lv_sub hl [1, 2, 3, 4, 5] rfl)
theorem lo_0_fc45 {p : Program} {l : Launch} {e : Env} {s : State} {m : MethodId} {args : Array Value} {below : List Frame} {meth : Method} {c : Code} {H : Heap} {locs : List Loc} {cells slots : Nat} {Q : State → Prop} {D : va_G} {B : Nat} {A : Nat → Prop} {h hm : Nat → Nat} {cI cZ cJ : ClassId} {ho : Nat} {ls : Array Slot} {b L : Nat} {xs : Nat → Int32} {i : Int32} {cx : Cond} (hfl : l.flags = flags0) (C : zz_Cx p m meth c code 7 ret s args (cx :: kk_W) "NightCyclerLaw" D vN (tyN cI cZ cJ) A B (xL B h)) (hX : va_X b L xs s s.heap) (hbl : b < s.heap.size) (hbA : ¬ A b) (i1 : vp_in (i + 1) L) (i2 : vp_in (i + 2) L) (hP : va_P D vN (wW cI cZ cJ ho h hm fN0 gN0 fM0 gM0) H) (hD : va_D A (wW cI cZ cJ ho h hm fN0 gN0 fM0 gM0)) (hS : va_S A s.heap H locs) (hl : lv_has ls 7 [(0, .ref b), (1, .ref (h 0)), (2, .ref (hm 0)), (3, .ref ho), (4, .int i)]) (hf : cells + 1 ≤ room_1.cells ∧ slots + 6 ≤ room_1.slots) (hc0 : (5 : Int) ≤ (xs (i + 1).toNatClampNeg).toInt ∧ (xs (i + 1).toNatClampNeg).toInt ≤ (5 : Int)) (hc1 : (40001 : Int) ≤ (xs (i + 2).toNatClampNeg).toInt ∧ (xs (i + 2).toNatClampNeg).toInt ≤ (2147483647 : Int)) (kk : ∀ (H1 : Heap) (locs1 : List Loc) (ls1 : Array Slot), va_S A s.heap H1 locs1 → lv_has ls1 7 [(0, .ref b), (1, .ref (h 0)), (2, .ref (hm 0)), (3, .ref ho), (4, .int i)] → W p l e room_1 s m args below meth c H1 locs1 (cells + 1) (slots + 6) Q (F0 m 840 ls1 [])) : W p l e room_1 s m args below meth c H locs cells slots Q (F0 m 128 ls []) := by
  refine lv_aload_n C.1.1 C.1.2.1 dl_128 rfl (lv_at hl 1 rfl) ?_
  refine lv_aload_n C.1.1 C.1.2.1 dl_129 rfl (lv_at hl 0 rfl) ?_
  refine lv_iload C.1.1 C.1.2.1 dl_130 (lv_at hl 4 rfl) ?_
  refine lv_iconst (v := 1) C.1.1 C.1.2.1 dl_132 (by decide) ?_
  refine lv_iadd C.1.1 C.1.2.1 dl_133 ?_
  refine va_sld C.1.1 C.1.2.1 hX hbl hbA hS i1 dl_134 ?_
  refine lv_aload_n C.1.1 C.1.2.1 dl_135 rfl (lv_at hl 0 rfl) ?_
  refine lv_iload C.1.1 C.1.2.1 dl_136 (lv_at hl 4 rfl) ?_
  refine lv_iconst (v := 2) C.1.1 C.1.2.1 dl_138 (by decide) ?_
  refine lv_iadd C.1.1 C.1.2.1 dl_139 ?_
  refine va_sld C.1.1 C.1.2.1 hX hbl hbA hS i2 dl_140 ?_
  refine lw_goS (n := 3) C (ww_prescribe (post := ck_poF fbFB gbFB h fN0 q_fc45.2) (px := ck_pxF fbFB gbFB fN0 q_fc45.2) (fun sz => x_fc45 hfl fN0 gN0 sz [.ref (h 0), .int (xs (i + 1).toNatClampNeg), .int (xs (i + 2).toNatClampNeg)] gI_B (List.forall_mem_cons.mpr ⟨⟨by decide, by decide⟩, List.forall_mem_cons.mpr ⟨⟨by decide, by decide⟩, List.forall_mem_cons.mpr ⟨⟨by decide, by decide⟩, fun _ h => absurd h List.not_mem_nil⟩⟩⟩) (⟨Or.inr ⟨0, List.mem_cons_self, rfl⟩, ⟨⟨_, rfl, hc0⟩, ⟨⟨_, rfl, hc1⟩, trivial⟩⟩⟩)) ⟨rfl, rfl, by decide, by decide⟩ (ck_noIF (by decide)) (ck_ex2F (by decide))) kw_379 kw_380 kw_0 kw_381 (by decide +kernel) rfl rfl ⟨Nat.le_of_ble_eq_true rfl, Nat.le_of_ble_eq_true rfl⟩ hP hD hS rfl hl.1 rfl dl_141 hf (fun r f1 g1 H1 locs1 hq hP hD hS => ?_)
  obtain rfl := ck_anS (n := 2) (v := 0) (show q_fc45.2.all (ck_an "java/lang/IllegalStateException" "java/lang/IllegalArgumentException" 2 0) = true by decide) (by decide) hq
  show W p l e room_1 s m args below meth c H1 locs1 (cells + 1) (slots + 6) Q (F0 m 144 ls [.int (Int32.ofNat 2)])
  refine lv_istore (lv' := [(5, .int (Int32.ofNat 2)), (0, .ref b), (1, .ref (h 0)), (2, .ref (hm 0)), (3, .ref ho), (4, .int i)]) C.1.1 C.1.2.1 dl_144 hl (by decide) rfl (fun ls hl => ?_)
  refine lv_aload_n C.1.1 C.1.2.1 dl_146 rfl (lv_at hl 3 rfl) ?_
  refine lv_aload_n C.1.1 C.1.2.1 dl_147 rfl (lv_at hl 1 rfl) ?_
  refine lv_iload C.1.1 C.1.2.1 dl_148 (lv_at hl 5 rfl) ?_
  refine lv_iconst (v := 1) C.1.1 C.1.2.1 dl_150 (by decide) ?_
  refine lv_iadd C.1.1 C.1.2.1 dl_151 ?_
  refine va_sld C.1.1 C.1.2.1 hX hbl hbA hS i1 dl_152 ?_
  refine lv_aload_n C.1.1 C.1.2.1 dl_153 rfl (lv_at hl 1 rfl) ?_
  refine lv_iload C.1.1 C.1.2.1 dl_154 (lv_at hl 5 rfl) ?_
  refine lv_iconst (v := 2) C.1.1 C.1.2.1 dl_156 (by decide) ?_
  refine lv_iadd C.1.1 C.1.2.1 dl_157 ?_
  refine va_sld C.1.1 C.1.2.1 hX hbl hbA hS i2 dl_158 ?_
  refine lm_goR (h := h) (hm := hm) (As := [.int (xs (i + 1).toNatClampNeg), .int (xs (i + 2).toNatClampNeg)]) (rest := []) C (c_fn22 xL_ok) (cwV 2 C.1.2.2.2.2 (kk_gV kw_857 kw_858 kw_859 kw_9 kw_860) rfl rfl rfl (by decide +kernel) ⟨Nat.le_of_ble_eq_true rfl, Nat.le_of_ble_eq_true rfl⟩) gI_FN (List.forall_mem_cons.mpr ⟨⟨by decide, by decide⟩, List.forall_mem_cons.mpr ⟨⟨by decide, by decide⟩, List.forall_mem_cons.mpr ⟨⟨by decide, by decide⟩, List.forall_mem_cons.mpr ⟨⟨by decide, by decide⟩, fun _ h => absurd h List.not_mem_nil⟩⟩⟩⟩) (⟨Or.inr ⟨0, List.mem_cons_self, rfl⟩, ⟨⟨_, rfl, hc0⟩, ⟨⟨_, rfl, hc1⟩, trivial⟩⟩⟩) hP hD hS rfl hl.1 rfl (Nat.le_of_ble_eq_true rfl) dl_159 hf (fun r f2 g2 H2 locs2 hq2 hJ2 hP hD hS => ?_)
  obtain ⟨o2, ho2, hr2, hT2⟩ := hq2
  have h8 := List.all_eq_true.mp (show q_fn22.2.all (fun o => ck_isV o && ck_val 0 2 o) = true by decide) o2 ho2
  simp only [Bool.and_eq_true] at h8
  obtain rfl := ck_isV_ok h8.1 hr2
  show W p l e room_1 s m args below meth c H2 locs2 (cells + 1) (slots + 6) Q (F0 m 162 ls [])
  have hc9 := ck_val_ok h8.2 hT2
  refine lv_aload_n C.1.1 C.1.2.1 dl_162 rfl (lv_at hl 3 rfl) ?_
  refine lm_goR (h := h) (hm := hm) (As := []) (rest := []) C (c_fn2 xL_ok) (cwV 0 C.1.2.2.2.2 (kk_gV kw_853 kw_854 kw_855 kw_9 kw_856) rfl rfl rfl (by decide +kernel) ⟨Nat.le_of_ble_eq_true rfl, Nat.le_of_ble_eq_true rfl⟩) hJ2 (List.forall_mem_cons.mpr ⟨⟨by show (2 : Int) ≤ (f2 0).toInt; omega, by show (f2 0).toInt ≤ (2 : Int); omega⟩, List.forall_mem_cons.mpr ⟨ck_in_top _, List.forall_mem_cons.mpr ⟨ck_in_top _, List.forall_mem_cons.mpr ⟨ck_in_top _, fun _ h => absurd h List.not_mem_nil⟩⟩⟩⟩) ⟨Or.inr ⟨0, List.mem_cons_self, rfl⟩, trivial⟩ hP hD hS rfl hl.1 rfl (Nat.le_of_ble_eq_true rfl) dl_163 hf (fun r f3 g3 H3 locs3 hq3 hJ3 hP hD hS => ?_)
  obtain ⟨o3, ho3, hr3, hT3⟩ := hq3
  obtain ⟨x3, rfl, hx3⟩ := ck_isN_ok (List.all_eq_true.mp (show q_fn2.2.all (ck_isN 2) = true by decide) o3 ho3) hr3
  show W p l e room_1 s m args below meth c H3 locs3 (cells + 1) (slots + 6) Q (F0 m 166 ls [.int x3])
  refine lv_iload C.1.1 C.1.2.1 dl_166 (lv_at hl 0 rfl) ?_
  refine lv_icmp_eq (tgt := 173) C.1.1 C.1.2.1 dl_168 (by decide) (fun _ => ?_) (fun hne => absurd (Int32.toInt_inj.mp (by rw [hx3]; rfl)) hne)
  refine lv_goto (tgt := 840) C.1.1 C.1.2.1 dl_173 (by decide) ?_
  exact kk H3 locs3 _ hS (lv_sub hl [1, 2, 3, 4, 5] rfl)
theorem lo_0_fc47 {p : Program} {l : Launch} {e : Env} {s : State} {m : MethodId} {args : Array Value} {below : List Frame} {meth : Method} {c : Code} {H : Heap} {locs : List Loc} {cells slots : Nat} {Q : State → Prop} {D : va_G} {B : Nat} {A : Nat → Prop} {h hm : Nat → Nat} {cI cZ cJ : ClassId} {ho : Nat} {ls : Array Slot} {b L : Nat} {xs : Nat → Int32} {i : Int32} {cx : Cond} (hfl : l.flags = flags0) (C : zz_Cx p m meth c code 7 ret s args (cx :: kk_W) "NightCyclerLaw" D vN (tyN cI cZ cJ) A B (xL B h)) (hX : va_X b L xs s s.heap) (hbl : b < s.heap.size) (hbA : ¬ A b) (i1 : vp_in (i + 1) L) (i2 : vp_in (i + 2) L) (hP : va_P D vN (wW cI cZ cJ ho h hm fN0 gN0 fM0 gM0) H) (hD : va_D A (wW cI cZ cJ ho h hm fN0 gN0 fM0 gM0)) (hS : va_S A s.heap H locs) (hl : lv_has ls 7 [(0, .ref b), (1, .ref (h 0)), (2, .ref (hm 0)), (3, .ref ho), (4, .int i)]) (hf : cells + 1 ≤ room_1.cells ∧ slots + 6 ≤ room_1.slots) (hc0 : (6 : Int) ≤ (xs (i + 1).toNatClampNeg).toInt ∧ (xs (i + 1).toNatClampNeg).toInt ≤ (6 : Int)) (hc1 : (-2147483648 : Int) ≤ (xs (i + 2).toNatClampNeg).toInt ∧ (xs (i + 2).toNatClampNeg).toInt ≤ (0 : Int)) (kk : ∀ (H1 : Heap) (locs1 : List Loc) (ls1 : Array Slot), va_S A s.heap H1 locs1 → lv_has ls1 7 [(0, .ref b), (1, .ref (h 0)), (2, .ref (hm 0)), (3, .ref ho), (4, .int i)] → W p l e room_1 s m args below meth c H1 locs1 (cells + 1) (slots + 6) Q (F0 m 840 ls1 [])) : W p l e room_1 s m args below meth c H locs cells slots Q (F0 m 128 ls []) := by
  refine lv_aload_n C.1.1 C.1.2.1 dl_128 rfl (lv_at hl 1 rfl) ?_
  refine lv_aload_n C.1.1 C.1.2.1 dl_129 rfl (lv_at hl 0 rfl) ?_
  refine lv_iload C.1.1 C.1.2.1 dl_130 (lv_at hl 4 rfl) ?_
  refine lv_iconst (v := 1) C.1.1 C.1.2.1 dl_132 (by decide) ?_
  refine lv_iadd C.1.1 C.1.2.1 dl_133 ?_
  refine va_sld C.1.1 C.1.2.1 hX hbl hbA hS i1 dl_134 ?_
  refine lv_aload_n C.1.1 C.1.2.1 dl_135 rfl (lv_at hl 0 rfl) ?_
  refine lv_iload C.1.1 C.1.2.1 dl_136 (lv_at hl 4 rfl) ?_
  refine lv_iconst (v := 2) C.1.1 C.1.2.1 dl_138 (by decide) ?_
  refine lv_iadd C.1.1 C.1.2.1 dl_139 ?_
  refine va_sld C.1.1 C.1.2.1 hX hbl hbA hS i2 dl_140 ?_
  refine lw_goS (n := 3) C (ww_prescribe (post := ck_poF fbFB gbFB h fN0 q_fc47.2) (px := ck_pxF fbFB gbFB fN0 q_fc47.2) (fun sz => x_fc47 hfl fN0 gN0 sz [.ref (h 0), .int (xs (i + 1).toNatClampNeg), .int (xs (i + 2).toNatClampNeg)] gI_B (List.forall_mem_cons.mpr ⟨⟨by decide, by decide⟩, List.forall_mem_cons.mpr ⟨⟨by decide, by decide⟩, List.forall_mem_cons.mpr ⟨⟨by decide, by decide⟩, fun _ h => absurd h List.not_mem_nil⟩⟩⟩) (⟨Or.inr ⟨0, List.mem_cons_self, rfl⟩, ⟨⟨_, rfl, hc0⟩, ⟨⟨_, rfl, hc1⟩, trivial⟩⟩⟩)) ⟨rfl, rfl, by decide, by decide⟩ (ck_noIF (by decide)) (ck_ex2F (by decide))) kw_379 kw_380 kw_0 kw_381 (by decide +kernel) rfl rfl ⟨Nat.le_of_ble_eq_true rfl, Nat.le_of_ble_eq_true rfl⟩ hP hD hS rfl hl.1 rfl dl_141 hf (fun r f1 g1 H1 locs1 hq hP hD hS => ?_)
  obtain rfl := ck_anS (n := 2) (v := 0) (show q_fc47.2.all (ck_an "java/lang/IllegalStateException" "java/lang/IllegalArgumentException" 2 0) = true by decide) (by decide) hq
  show W p l e room_1 s m args below meth c H1 locs1 (cells + 1) (slots + 6) Q (F0 m 144 ls [.int (Int32.ofNat 2)])
  refine lv_istore (lv' := [(5, .int (Int32.ofNat 2)), (0, .ref b), (1, .ref (h 0)), (2, .ref (hm 0)), (3, .ref ho), (4, .int i)]) C.1.1 C.1.2.1 dl_144 hl (by decide) rfl (fun ls hl => ?_)
  refine lv_aload_n C.1.1 C.1.2.1 dl_146 rfl (lv_at hl 3 rfl) ?_
  refine lv_aload_n C.1.1 C.1.2.1 dl_147 rfl (lv_at hl 1 rfl) ?_
  refine lv_iload C.1.1 C.1.2.1 dl_148 (lv_at hl 5 rfl) ?_
  refine lv_iconst (v := 1) C.1.1 C.1.2.1 dl_150 (by decide) ?_
  refine lv_iadd C.1.1 C.1.2.1 dl_151 ?_
  refine va_sld C.1.1 C.1.2.1 hX hbl hbA hS i1 dl_152 ?_
  refine lv_aload_n C.1.1 C.1.2.1 dl_153 rfl (lv_at hl 1 rfl) ?_
  refine lv_iload C.1.1 C.1.2.1 dl_154 (lv_at hl 5 rfl) ?_
  refine lv_iconst (v := 2) C.1.1 C.1.2.1 dl_156 (by decide) ?_
  refine lv_iadd C.1.1 C.1.2.1 dl_157 ?_
  refine va_sld C.1.1 C.1.2.1 hX hbl hbA hS i2 dl_158 ?_
  refine lm_goR (h := h) (hm := hm) (As := [.int (xs (i + 1).toNatClampNeg), .int (xs (i + 2).toNatClampNeg)]) (rest := []) C (c_fn23 xL_ok) (cwV 2 C.1.2.2.2.2 (kk_gV kw_857 kw_858 kw_859 kw_9 kw_860) rfl rfl rfl (by decide +kernel) ⟨Nat.le_of_ble_eq_true rfl, Nat.le_of_ble_eq_true rfl⟩) gI_FN (List.forall_mem_cons.mpr ⟨⟨by decide, by decide⟩, List.forall_mem_cons.mpr ⟨⟨by decide, by decide⟩, List.forall_mem_cons.mpr ⟨⟨by decide, by decide⟩, List.forall_mem_cons.mpr ⟨⟨by decide, by decide⟩, fun _ h => absurd h List.not_mem_nil⟩⟩⟩⟩) (⟨Or.inr ⟨0, List.mem_cons_self, rfl⟩, ⟨⟨_, rfl, hc0⟩, ⟨⟨_, rfl, hc1⟩, trivial⟩⟩⟩) hP hD hS rfl hl.1 rfl (Nat.le_of_ble_eq_true rfl) dl_159 hf (fun r f2 g2 H2 locs2 hq2 hJ2 hP hD hS => ?_)
  obtain ⟨o2, ho2, hr2, hT2⟩ := hq2
  have h8 := List.all_eq_true.mp (show q_fn23.2.all (fun o => ck_isV o && ck_val 0 2 o) = true by decide) o2 ho2
  simp only [Bool.and_eq_true] at h8
  obtain rfl := ck_isV_ok h8.1 hr2
  show W p l e room_1 s m args below meth c H2 locs2 (cells + 1) (slots + 6) Q (F0 m 162 ls [])
  have hc9 := ck_val_ok h8.2 hT2
  refine lv_aload_n C.1.1 C.1.2.1 dl_162 rfl (lv_at hl 3 rfl) ?_
  refine lm_goR (h := h) (hm := hm) (As := []) (rest := []) C (c_fn2 xL_ok) (cwV 0 C.1.2.2.2.2 (kk_gV kw_853 kw_854 kw_855 kw_9 kw_856) rfl rfl rfl (by decide +kernel) ⟨Nat.le_of_ble_eq_true rfl, Nat.le_of_ble_eq_true rfl⟩) hJ2 (List.forall_mem_cons.mpr ⟨⟨by show (2 : Int) ≤ (f2 0).toInt; omega, by show (f2 0).toInt ≤ (2 : Int); omega⟩, List.forall_mem_cons.mpr ⟨ck_in_top _, List.forall_mem_cons.mpr ⟨ck_in_top _, List.forall_mem_cons.mpr ⟨ck_in_top _, fun _ h => absurd h List.not_mem_nil⟩⟩⟩⟩) ⟨Or.inr ⟨0, List.mem_cons_self, rfl⟩, trivial⟩ hP hD hS rfl hl.1 rfl (Nat.le_of_ble_eq_true rfl) dl_163 hf (fun r f3 g3 H3 locs3 hq3 hJ3 hP hD hS => ?_)
  obtain ⟨o3, ho3, hr3, hT3⟩ := hq3
  obtain ⟨x3, rfl, hx3⟩ := ck_isN_ok (List.all_eq_true.mp (show q_fn2.2.all (ck_isN 2) = true by decide) o3 ho3) hr3
  show W p l e room_1 s m args below meth c H3 locs3 (cells + 1) (slots + 6) Q (F0 m 166 ls [.int x3])
  refine lv_iload C.1.1 C.1.2.1 dl_166 (lv_at hl 0 rfl) ?_
  refine lv_icmp_eq (tgt := 173) C.1.1 C.1.2.1 dl_168 (by decide) (fun _ => ?_) (fun hne => absurd (Int32.toInt_inj.mp (by rw [hx3]; rfl)) hne)
  refine lv_goto (tgt := 840) C.1.1 C.1.2.1 dl_173 (by decide) ?_
  exact kk H3 locs3 _ hS (lv_sub hl [1, 2, 3, 4, 5] rfl)
theorem lo_0_fc50 {p : Program} {l : Launch} {e : Env} {s : State} {m : MethodId} {args : Array Value} {below : List Frame} {meth : Method} {c : Code} {H : Heap} {locs : List Loc} {cells slots : Nat} {Q : State → Prop} {D : va_G} {B : Nat} {A : Nat → Prop} {h hm : Nat → Nat} {cI cZ cJ : ClassId} {ho : Nat} {ls : Array Slot} {b L : Nat} {xs : Nat → Int32} {i : Int32} {cx : Cond} (hfl : l.flags = flags0) (C : zz_Cx p m meth c code 7 ret s args (cx :: kk_W) "NightCyclerLaw" D vN (tyN cI cZ cJ) A B (xL B h)) (hX : va_X b L xs s s.heap) (hbl : b < s.heap.size) (hbA : ¬ A b) (i1 : vp_in (i + 1) L) (i2 : vp_in (i + 2) L) (hP : va_P D vN (wW cI cZ cJ ho h hm fN0 gN0 fM0 gM0) H) (hD : va_D A (wW cI cZ cJ ho h hm fN0 gN0 fM0 gM0)) (hS : va_S A s.heap H locs) (hl : lv_has ls 7 [(0, .ref b), (1, .ref (h 0)), (2, .ref (hm 0)), (3, .ref ho), (4, .int i)]) (hf : cells + 1 ≤ room_1.cells ∧ slots + 6 ≤ room_1.slots) (hc0 : (6 : Int) ≤ (xs (i + 1).toNatClampNeg).toInt ∧ (xs (i + 1).toNatClampNeg).toInt ≤ (6 : Int)) (hc1 : (1 : Int) ≤ (xs (i + 2).toNatClampNeg).toInt ∧ (xs (i + 2).toNatClampNeg).toInt ≤ (900 : Int)) (kk : ∀ (H1 : Heap) (locs1 : List Loc) (ls1 : Array Slot), va_S A s.heap H1 locs1 → lv_has ls1 7 [(0, .ref b), (1, .ref (h 0)), (2, .ref (hm 0)), (3, .ref ho), (4, .int i)] → W p l e room_1 s m args below meth c H1 locs1 (cells + 1) (slots + 6) Q (F0 m 840 ls1 [])) : W p l e room_1 s m args below meth c H locs cells slots Q (F0 m 128 ls []) := by
  refine lv_aload_n C.1.1 C.1.2.1 dl_128 rfl (lv_at hl 1 rfl) ?_
  refine lv_aload_n C.1.1 C.1.2.1 dl_129 rfl (lv_at hl 0 rfl) ?_
  refine lv_iload C.1.1 C.1.2.1 dl_130 (lv_at hl 4 rfl) ?_
  refine lv_iconst (v := 1) C.1.1 C.1.2.1 dl_132 (by decide) ?_
  refine lv_iadd C.1.1 C.1.2.1 dl_133 ?_
  refine va_sld C.1.1 C.1.2.1 hX hbl hbA hS i1 dl_134 ?_
  refine lv_aload_n C.1.1 C.1.2.1 dl_135 rfl (lv_at hl 0 rfl) ?_
  refine lv_iload C.1.1 C.1.2.1 dl_136 (lv_at hl 4 rfl) ?_
  refine lv_iconst (v := 2) C.1.1 C.1.2.1 dl_138 (by decide) ?_
  refine lv_iadd C.1.1 C.1.2.1 dl_139 ?_
  refine va_sld C.1.1 C.1.2.1 hX hbl hbA hS i2 dl_140 ?_
  refine lw_goS (n := 3) C (ww_prescribe (post := ck_poF fbFB gbFB h fN0 q_fc50.2) (px := ck_pxF fbFB gbFB fN0 q_fc50.2) (fun sz => x_fc50 hfl fN0 gN0 sz [.ref (h 0), .int (xs (i + 1).toNatClampNeg), .int (xs (i + 2).toNatClampNeg)] gI_B (List.forall_mem_cons.mpr ⟨⟨by decide, by decide⟩, List.forall_mem_cons.mpr ⟨⟨by decide, by decide⟩, List.forall_mem_cons.mpr ⟨⟨by decide, by decide⟩, fun _ h => absurd h List.not_mem_nil⟩⟩⟩) (⟨Or.inr ⟨0, List.mem_cons_self, rfl⟩, ⟨⟨_, rfl, hc0⟩, ⟨⟨_, rfl, hc1⟩, trivial⟩⟩⟩)) ⟨rfl, rfl, by decide, by decide⟩ (ck_noIF (by decide)) (ck_ex2F (by decide))) kw_379 kw_380 kw_0 kw_381 (by decide +kernel) rfl rfl ⟨Nat.le_of_ble_eq_true rfl, Nat.le_of_ble_eq_true rfl⟩ hP hD hS rfl hl.1 rfl dl_141 hf (fun r f1 g1 H1 locs1 hq hP hD hS => ?_)
  obtain rfl := ck_anS (n := 0) (v := 0) (show q_fc50.2.all (ck_an "java/lang/IllegalStateException" "java/lang/IllegalArgumentException" 0 0) = true by decide) (by decide) hq
  show W p l e room_1 s m args below meth c H1 locs1 (cells + 1) (slots + 6) Q (F0 m 144 ls [.int (Int32.ofNat 0)])
  refine lv_istore (lv' := [(5, .int (Int32.ofNat 0)), (0, .ref b), (1, .ref (h 0)), (2, .ref (hm 0)), (3, .ref ho), (4, .int i)]) C.1.1 C.1.2.1 dl_144 hl (by decide) rfl (fun ls hl => ?_)
  refine lv_aload_n C.1.1 C.1.2.1 dl_146 rfl (lv_at hl 3 rfl) ?_
  refine lv_aload_n C.1.1 C.1.2.1 dl_147 rfl (lv_at hl 1 rfl) ?_
  refine lv_iload C.1.1 C.1.2.1 dl_148 (lv_at hl 5 rfl) ?_
  refine lv_iconst (v := 1) C.1.1 C.1.2.1 dl_150 (by decide) ?_
  refine lv_iadd C.1.1 C.1.2.1 dl_151 ?_
  refine va_sld C.1.1 C.1.2.1 hX hbl hbA hS i1 dl_152 ?_
  refine lv_aload_n C.1.1 C.1.2.1 dl_153 rfl (lv_at hl 1 rfl) ?_
  refine lv_iload C.1.1 C.1.2.1 dl_154 (lv_at hl 5 rfl) ?_
  refine lv_iconst (v := 2) C.1.1 C.1.2.1 dl_156 (by decide) ?_
  refine lv_iadd C.1.1 C.1.2.1 dl_157 ?_
  refine va_sld C.1.1 C.1.2.1 hX hbl hbA hS i2 dl_158 ?_
  refine lm_goR (h := h) (hm := hm) (As := [.int (xs (i + 1).toNatClampNeg), .int (xs (i + 2).toNatClampNeg)]) (rest := []) C (c_fn24 xL_ok) (cwV 2 C.1.2.2.2.2 (kk_gV kw_857 kw_858 kw_859 kw_9 kw_860) rfl rfl rfl (by decide +kernel) ⟨Nat.le_of_ble_eq_true rfl, Nat.le_of_ble_eq_true rfl⟩) gI_FN (List.forall_mem_cons.mpr ⟨⟨by decide, by decide⟩, List.forall_mem_cons.mpr ⟨⟨by decide, by decide⟩, List.forall_mem_cons.mpr ⟨⟨by decide, by decide⟩, List.forall_mem_cons.mpr ⟨⟨by decide, by decide⟩, fun _ h => absurd h List.not_mem_nil⟩⟩⟩⟩) (⟨Or.inr ⟨0, List.mem_cons_self, rfl⟩, ⟨⟨_, rfl, hc0⟩, ⟨⟨_, rfl, hc1⟩, trivial⟩⟩⟩) hP hD hS rfl hl.1 rfl (Nat.le_of_ble_eq_true rfl) dl_159 hf (fun r f2 g2 H2 locs2 hq2 hJ2 hP hD hS => ?_)
  obtain ⟨o2, ho2, hr2, hT2⟩ := hq2
  have h8 := List.all_eq_true.mp (show q_fn24.2.all (fun o => ck_isV o && ck_val 0 0 o) = true by decide) o2 ho2
  simp only [Bool.and_eq_true] at h8
  obtain rfl := ck_isV_ok h8.1 hr2
  show W p l e room_1 s m args below meth c H2 locs2 (cells + 1) (slots + 6) Q (F0 m 162 ls [])
  have hc9 := ck_val_ok h8.2 hT2
  refine lv_aload_n C.1.1 C.1.2.1 dl_162 rfl (lv_at hl 3 rfl) ?_
  refine lm_goR (h := h) (hm := hm) (As := []) (rest := []) C (c_fn0 xL_ok) (cwV 0 C.1.2.2.2.2 (kk_gV kw_853 kw_854 kw_855 kw_9 kw_856) rfl rfl rfl (by decide +kernel) ⟨Nat.le_of_ble_eq_true rfl, Nat.le_of_ble_eq_true rfl⟩) hJ2 (List.forall_mem_cons.mpr ⟨⟨by show (0 : Int) ≤ (f2 0).toInt; omega, by show (f2 0).toInt ≤ (0 : Int); omega⟩, List.forall_mem_cons.mpr ⟨ck_in_top _, List.forall_mem_cons.mpr ⟨ck_in_top _, List.forall_mem_cons.mpr ⟨ck_in_top _, fun _ h => absurd h List.not_mem_nil⟩⟩⟩⟩) ⟨Or.inr ⟨0, List.mem_cons_self, rfl⟩, trivial⟩ hP hD hS rfl hl.1 rfl (Nat.le_of_ble_eq_true rfl) dl_163 hf (fun r f3 g3 H3 locs3 hq3 hJ3 hP hD hS => ?_)
  obtain ⟨o3, ho3, hr3, hT3⟩ := hq3
  obtain ⟨x3, rfl, hx3⟩ := ck_isN_ok (List.all_eq_true.mp (show q_fn0.2.all (ck_isN 0) = true by decide) o3 ho3) hr3
  show W p l e room_1 s m args below meth c H3 locs3 (cells + 1) (slots + 6) Q (F0 m 166 ls [.int x3])
  refine lv_iload C.1.1 C.1.2.1 dl_166 (lv_at hl 0 rfl) ?_
  refine lv_icmp_eq (tgt := 173) C.1.1 C.1.2.1 dl_168 (by decide) (fun _ => ?_) (fun hne => absurd (Int32.toInt_inj.mp (by rw [hx3]; rfl)) hne)
  refine lv_goto (tgt := 840) C.1.1 C.1.2.1 dl_173 (by decide) ?_
  exact kk H3 locs3 _ hS (lv_sub hl [1, 2, 3, 4, 5] rfl)
theorem lo_0_fc52 {p : Program} {l : Launch} {e : Env} {s : State} {m : MethodId} {args : Array Value} {below : List Frame} {meth : Method} {c : Code} {H : Heap} {locs : List Loc} {cells slots : Nat} {Q : State → Prop} {D : va_G} {B : Nat} {A : Nat → Prop} {h hm : Nat → Nat} {cI cZ cJ : ClassId} {ho : Nat} {ls : Array Slot} {b L : Nat} {xs : Nat → Int32} {i : Int32} {cx : Cond} (hfl : l.flags = flags0) (C : zz_Cx p m meth c code 7 ret s args (cx :: kk_W) "NightCyclerLaw" D vN (tyN cI cZ cJ) A B (xL B h)) (hX : va_X b L xs s s.heap) (hbl : b < s.heap.size) (hbA : ¬ A b) (i1 : vp_in (i + 1) L) (i2 : vp_in (i + 2) L) (hP : va_P D vN (wW cI cZ cJ ho h hm fN0 gN0 fM0 gM0) H) (hD : va_D A (wW cI cZ cJ ho h hm fN0 gN0 fM0 gM0)) (hS : va_S A s.heap H locs) (hl : lv_has ls 7 [(0, .ref b), (1, .ref (h 0)), (2, .ref (hm 0)), (3, .ref ho), (4, .int i)]) (hf : cells + 1 ≤ room_1.cells ∧ slots + 6 ≤ room_1.slots) (hc0 : (6 : Int) ≤ (xs (i + 1).toNatClampNeg).toInt ∧ (xs (i + 1).toNatClampNeg).toInt ≤ (6 : Int)) (hc1 : (901 : Int) ≤ (xs (i + 2).toNatClampNeg).toInt ∧ (xs (i + 2).toNatClampNeg).toInt ≤ (2147483647 : Int)) (kk : ∀ (H1 : Heap) (locs1 : List Loc) (ls1 : Array Slot), va_S A s.heap H1 locs1 → lv_has ls1 7 [(0, .ref b), (1, .ref (h 0)), (2, .ref (hm 0)), (3, .ref ho), (4, .int i)] → W p l e room_1 s m args below meth c H1 locs1 (cells + 1) (slots + 6) Q (F0 m 840 ls1 [])) : W p l e room_1 s m args below meth c H locs cells slots Q (F0 m 128 ls []) := by
  refine lv_aload_n C.1.1 C.1.2.1 dl_128 rfl (lv_at hl 1 rfl) ?_
  refine lv_aload_n C.1.1 C.1.2.1 dl_129 rfl (lv_at hl 0 rfl) ?_
  refine lv_iload C.1.1 C.1.2.1 dl_130 (lv_at hl 4 rfl) ?_
  refine lv_iconst (v := 1) C.1.1 C.1.2.1 dl_132 (by decide) ?_
  refine lv_iadd C.1.1 C.1.2.1 dl_133 ?_
  refine va_sld C.1.1 C.1.2.1 hX hbl hbA hS i1 dl_134 ?_
  refine lv_aload_n C.1.1 C.1.2.1 dl_135 rfl (lv_at hl 0 rfl) ?_
  refine lv_iload C.1.1 C.1.2.1 dl_136 (lv_at hl 4 rfl) ?_
  refine lv_iconst (v := 2) C.1.1 C.1.2.1 dl_138 (by decide) ?_
  refine lv_iadd C.1.1 C.1.2.1 dl_139 ?_
  refine va_sld C.1.1 C.1.2.1 hX hbl hbA hS i2 dl_140 ?_
  refine lw_goS (n := 3) C (ww_prescribe (post := ck_poF fbFB gbFB h fN0 q_fc52.2) (px := ck_pxF fbFB gbFB fN0 q_fc52.2) (fun sz => x_fc52 hfl fN0 gN0 sz [.ref (h 0), .int (xs (i + 1).toNatClampNeg), .int (xs (i + 2).toNatClampNeg)] gI_B (List.forall_mem_cons.mpr ⟨⟨by decide, by decide⟩, List.forall_mem_cons.mpr ⟨⟨by decide, by decide⟩, List.forall_mem_cons.mpr ⟨⟨by decide, by decide⟩, fun _ h => absurd h List.not_mem_nil⟩⟩⟩) (⟨Or.inr ⟨0, List.mem_cons_self, rfl⟩, ⟨⟨_, rfl, hc0⟩, ⟨⟨_, rfl, hc1⟩, trivial⟩⟩⟩)) ⟨rfl, rfl, by decide, by decide⟩ (ck_noIF (by decide)) (ck_ex2F (by decide))) kw_379 kw_380 kw_0 kw_381 (by decide +kernel) rfl rfl ⟨Nat.le_of_ble_eq_true rfl, Nat.le_of_ble_eq_true rfl⟩ hP hD hS rfl hl.1 rfl dl_141 hf (fun r f1 g1 H1 locs1 hq hP hD hS => ?_)
  obtain rfl := ck_anS (n := 2) (v := 0) (show q_fc52.2.all (ck_an "java/lang/IllegalStateException" "java/lang/IllegalArgumentException" 2 0) = true by decide) (by decide) hq
  show W p l e room_1 s m args below meth c H1 locs1 (cells + 1) (slots + 6) Q (F0 m 144 ls [.int (Int32.ofNat 2)])
  refine lv_istore (lv' := [(5, .int (Int32.ofNat 2)), (0, .ref b), (1, .ref (h 0)), (2, .ref (hm 0)), (3, .ref ho), (4, .int i)]) C.1.1 C.1.2.1 dl_144 hl (by decide) rfl (fun ls hl => ?_)
  refine lv_aload_n C.1.1 C.1.2.1 dl_146 rfl (lv_at hl 3 rfl) ?_
  refine lv_aload_n C.1.1 C.1.2.1 dl_147 rfl (lv_at hl 1 rfl) ?_
  refine lv_iload C.1.1 C.1.2.1 dl_148 (lv_at hl 5 rfl) ?_
  refine lv_iconst (v := 1) C.1.1 C.1.2.1 dl_150 (by decide) ?_
  refine lv_iadd C.1.1 C.1.2.1 dl_151 ?_
  refine va_sld C.1.1 C.1.2.1 hX hbl hbA hS i1 dl_152 ?_
  refine lv_aload_n C.1.1 C.1.2.1 dl_153 rfl (lv_at hl 1 rfl) ?_
  refine lv_iload C.1.1 C.1.2.1 dl_154 (lv_at hl 5 rfl) ?_
  refine lv_iconst (v := 2) C.1.1 C.1.2.1 dl_156 (by decide) ?_
  refine lv_iadd C.1.1 C.1.2.1 dl_157 ?_
  refine va_sld C.1.1 C.1.2.1 hX hbl hbA hS i2 dl_158 ?_
  refine lm_goR (h := h) (hm := hm) (As := [.int (xs (i + 1).toNatClampNeg), .int (xs (i + 2).toNatClampNeg)]) (rest := []) C (c_fn25 xL_ok) (cwV 2 C.1.2.2.2.2 (kk_gV kw_857 kw_858 kw_859 kw_9 kw_860) rfl rfl rfl (by decide +kernel) ⟨Nat.le_of_ble_eq_true rfl, Nat.le_of_ble_eq_true rfl⟩) gI_FN (List.forall_mem_cons.mpr ⟨⟨by decide, by decide⟩, List.forall_mem_cons.mpr ⟨⟨by decide, by decide⟩, List.forall_mem_cons.mpr ⟨⟨by decide, by decide⟩, List.forall_mem_cons.mpr ⟨⟨by decide, by decide⟩, fun _ h => absurd h List.not_mem_nil⟩⟩⟩⟩) (⟨Or.inr ⟨0, List.mem_cons_self, rfl⟩, ⟨⟨_, rfl, hc0⟩, ⟨⟨_, rfl, hc1⟩, trivial⟩⟩⟩) hP hD hS rfl hl.1 rfl (Nat.le_of_ble_eq_true rfl) dl_159 hf (fun r f2 g2 H2 locs2 hq2 hJ2 hP hD hS => ?_)
  obtain ⟨o2, ho2, hr2, hT2⟩ := hq2
  have h8 := List.all_eq_true.mp (show q_fn25.2.all (fun o => ck_isV o && ck_val 0 2 o) = true by decide) o2 ho2
  simp only [Bool.and_eq_true] at h8
  obtain rfl := ck_isV_ok h8.1 hr2
  show W p l e room_1 s m args below meth c H2 locs2 (cells + 1) (slots + 6) Q (F0 m 162 ls [])
  have hc9 := ck_val_ok h8.2 hT2
  refine lv_aload_n C.1.1 C.1.2.1 dl_162 rfl (lv_at hl 3 rfl) ?_
  refine lm_goR (h := h) (hm := hm) (As := []) (rest := []) C (c_fn2 xL_ok) (cwV 0 C.1.2.2.2.2 (kk_gV kw_853 kw_854 kw_855 kw_9 kw_856) rfl rfl rfl (by decide +kernel) ⟨Nat.le_of_ble_eq_true rfl, Nat.le_of_ble_eq_true rfl⟩) hJ2 (List.forall_mem_cons.mpr ⟨⟨by show (2 : Int) ≤ (f2 0).toInt; omega, by show (f2 0).toInt ≤ (2 : Int); omega⟩, List.forall_mem_cons.mpr ⟨ck_in_top _, List.forall_mem_cons.mpr ⟨ck_in_top _, List.forall_mem_cons.mpr ⟨ck_in_top _, fun _ h => absurd h List.not_mem_nil⟩⟩⟩⟩) ⟨Or.inr ⟨0, List.mem_cons_self, rfl⟩, trivial⟩ hP hD hS rfl hl.1 rfl (Nat.le_of_ble_eq_true rfl) dl_163 hf (fun r f3 g3 H3 locs3 hq3 hJ3 hP hD hS => ?_)
  obtain ⟨o3, ho3, hr3, hT3⟩ := hq3
  obtain ⟨x3, rfl, hx3⟩ := ck_isN_ok (List.all_eq_true.mp (show q_fn2.2.all (ck_isN 2) = true by decide) o3 ho3) hr3
  show W p l e room_1 s m args below meth c H3 locs3 (cells + 1) (slots + 6) Q (F0 m 166 ls [.int x3])
  refine lv_iload C.1.1 C.1.2.1 dl_166 (lv_at hl 0 rfl) ?_
  refine lv_icmp_eq (tgt := 173) C.1.1 C.1.2.1 dl_168 (by decide) (fun _ => ?_) (fun hne => absurd (Int32.toInt_inj.mp (by rw [hx3]; rfl)) hne)
  refine lv_goto (tgt := 840) C.1.1 C.1.2.1 dl_173 (by decide) ?_
  exact kk H3 locs3 _ hS (lv_sub hl [1, 2, 3, 4, 5] rfl)
theorem lo_0_fc54 {p : Program} {l : Launch} {e : Env} {s : State} {m : MethodId} {args : Array Value} {below : List Frame} {meth : Method} {c : Code} {H : Heap} {locs : List Loc} {cells slots : Nat} {Q : State → Prop} {D : va_G} {B : Nat} {A : Nat → Prop} {h hm : Nat → Nat} {cI cZ cJ : ClassId} {ho : Nat} {ls : Array Slot} {b L : Nat} {xs : Nat → Int32} {i : Int32} {cx : Cond} (hfl : l.flags = flags0) (C : zz_Cx p m meth c code 7 ret s args (cx :: kk_W) "NightCyclerLaw" D vN (tyN cI cZ cJ) A B (xL B h)) (hX : va_X b L xs s s.heap) (hbl : b < s.heap.size) (hbA : ¬ A b) (i1 : vp_in (i + 1) L) (i2 : vp_in (i + 2) L) (hP : va_P D vN (wW cI cZ cJ ho h hm fN0 gN0 fM0 gM0) H) (hD : va_D A (wW cI cZ cJ ho h hm fN0 gN0 fM0 gM0)) (hS : va_S A s.heap H locs) (hl : lv_has ls 7 [(0, .ref b), (1, .ref (h 0)), (2, .ref (hm 0)), (3, .ref ho), (4, .int i)]) (hf : cells + 1 ≤ room_1.cells ∧ slots + 6 ≤ room_1.slots) (hc0 : (7 : Int) ≤ (xs (i + 1).toNatClampNeg).toInt ∧ (xs (i + 1).toNatClampNeg).toInt ≤ (7 : Int)) (hc1 : (-2147483648 : Int) ≤ (xs (i + 2).toNatClampNeg).toInt ∧ (xs (i + 2).toNatClampNeg).toInt ≤ (2999 : Int)) (kk : ∀ (H1 : Heap) (locs1 : List Loc) (ls1 : Array Slot), va_S A s.heap H1 locs1 → lv_has ls1 7 [(0, .ref b), (1, .ref (h 0)), (2, .ref (hm 0)), (3, .ref ho), (4, .int i)] → W p l e room_1 s m args below meth c H1 locs1 (cells + 1) (slots + 6) Q (F0 m 840 ls1 [])) : W p l e room_1 s m args below meth c H locs cells slots Q (F0 m 128 ls []) := by
  refine lv_aload_n C.1.1 C.1.2.1 dl_128 rfl (lv_at hl 1 rfl) ?_
  refine lv_aload_n C.1.1 C.1.2.1 dl_129 rfl (lv_at hl 0 rfl) ?_
  refine lv_iload C.1.1 C.1.2.1 dl_130 (lv_at hl 4 rfl) ?_
  refine lv_iconst (v := 1) C.1.1 C.1.2.1 dl_132 (by decide) ?_
  refine lv_iadd C.1.1 C.1.2.1 dl_133 ?_
  refine va_sld C.1.1 C.1.2.1 hX hbl hbA hS i1 dl_134 ?_
  refine lv_aload_n C.1.1 C.1.2.1 dl_135 rfl (lv_at hl 0 rfl) ?_
  refine lv_iload C.1.1 C.1.2.1 dl_136 (lv_at hl 4 rfl) ?_
  refine lv_iconst (v := 2) C.1.1 C.1.2.1 dl_138 (by decide) ?_
  refine lv_iadd C.1.1 C.1.2.1 dl_139 ?_
  refine va_sld C.1.1 C.1.2.1 hX hbl hbA hS i2 dl_140 ?_
  refine lw_goS (n := 3) C (ww_prescribe (post := ck_poF fbFB gbFB h fN0 q_fc54.2) (px := ck_pxF fbFB gbFB fN0 q_fc54.2) (fun sz => x_fc54 hfl fN0 gN0 sz [.ref (h 0), .int (xs (i + 1).toNatClampNeg), .int (xs (i + 2).toNatClampNeg)] gI_B (List.forall_mem_cons.mpr ⟨⟨by decide, by decide⟩, List.forall_mem_cons.mpr ⟨⟨by decide, by decide⟩, List.forall_mem_cons.mpr ⟨⟨by decide, by decide⟩, fun _ h => absurd h List.not_mem_nil⟩⟩⟩) (⟨Or.inr ⟨0, List.mem_cons_self, rfl⟩, ⟨⟨_, rfl, hc0⟩, ⟨⟨_, rfl, hc1⟩, trivial⟩⟩⟩)) ⟨rfl, rfl, by decide, by decide⟩ (ck_noIF (by decide)) (ck_ex2F (by decide))) kw_379 kw_380 kw_0 kw_381 (by decide +kernel) rfl rfl ⟨Nat.le_of_ble_eq_true rfl, Nat.le_of_ble_eq_true rfl⟩ hP hD hS rfl hl.1 rfl dl_141 hf (fun r f1 g1 H1 locs1 hq hP hD hS => ?_)
  obtain rfl := ck_anS (n := 2) (v := 0) (show q_fc54.2.all (ck_an "java/lang/IllegalStateException" "java/lang/IllegalArgumentException" 2 0) = true by decide) (by decide) hq
  show W p l e room_1 s m args below meth c H1 locs1 (cells + 1) (slots + 6) Q (F0 m 144 ls [.int (Int32.ofNat 2)])
  refine lv_istore (lv' := [(5, .int (Int32.ofNat 2)), (0, .ref b), (1, .ref (h 0)), (2, .ref (hm 0)), (3, .ref ho), (4, .int i)]) C.1.1 C.1.2.1 dl_144 hl (by decide) rfl (fun ls hl => ?_)
  refine lv_aload_n C.1.1 C.1.2.1 dl_146 rfl (lv_at hl 3 rfl) ?_
  refine lv_aload_n C.1.1 C.1.2.1 dl_147 rfl (lv_at hl 1 rfl) ?_
  refine lv_iload C.1.1 C.1.2.1 dl_148 (lv_at hl 5 rfl) ?_
  refine lv_iconst (v := 1) C.1.1 C.1.2.1 dl_150 (by decide) ?_
  refine lv_iadd C.1.1 C.1.2.1 dl_151 ?_
  refine va_sld C.1.1 C.1.2.1 hX hbl hbA hS i1 dl_152 ?_
  refine lv_aload_n C.1.1 C.1.2.1 dl_153 rfl (lv_at hl 1 rfl) ?_
  refine lv_iload C.1.1 C.1.2.1 dl_154 (lv_at hl 5 rfl) ?_
  refine lv_iconst (v := 2) C.1.1 C.1.2.1 dl_156 (by decide) ?_
  refine lv_iadd C.1.1 C.1.2.1 dl_157 ?_
  refine va_sld C.1.1 C.1.2.1 hX hbl hbA hS i2 dl_158 ?_
  refine lm_goR (h := h) (hm := hm) (As := [.int (xs (i + 1).toNatClampNeg), .int (xs (i + 2).toNatClampNeg)]) (rest := []) C (c_fn26 xL_ok) (cwV 2 C.1.2.2.2.2 (kk_gV kw_857 kw_858 kw_859 kw_9 kw_860) rfl rfl rfl (by decide +kernel) ⟨Nat.le_of_ble_eq_true rfl, Nat.le_of_ble_eq_true rfl⟩) gI_FN (List.forall_mem_cons.mpr ⟨⟨by decide, by decide⟩, List.forall_mem_cons.mpr ⟨⟨by decide, by decide⟩, List.forall_mem_cons.mpr ⟨⟨by decide, by decide⟩, List.forall_mem_cons.mpr ⟨⟨by decide, by decide⟩, fun _ h => absurd h List.not_mem_nil⟩⟩⟩⟩) (⟨Or.inr ⟨0, List.mem_cons_self, rfl⟩, ⟨⟨_, rfl, hc0⟩, ⟨⟨_, rfl, hc1⟩, trivial⟩⟩⟩) hP hD hS rfl hl.1 rfl (Nat.le_of_ble_eq_true rfl) dl_159 hf (fun r f2 g2 H2 locs2 hq2 hJ2 hP hD hS => ?_)
  obtain ⟨o2, ho2, hr2, hT2⟩ := hq2
  have h8 := List.all_eq_true.mp (show q_fn26.2.all (fun o => ck_isV o && ck_val 0 2 o) = true by decide) o2 ho2
  simp only [Bool.and_eq_true] at h8
  obtain rfl := ck_isV_ok h8.1 hr2
  show W p l e room_1 s m args below meth c H2 locs2 (cells + 1) (slots + 6) Q (F0 m 162 ls [])
  have hc9 := ck_val_ok h8.2 hT2
  refine lv_aload_n C.1.1 C.1.2.1 dl_162 rfl (lv_at hl 3 rfl) ?_
  refine lm_goR (h := h) (hm := hm) (As := []) (rest := []) C (c_fn2 xL_ok) (cwV 0 C.1.2.2.2.2 (kk_gV kw_853 kw_854 kw_855 kw_9 kw_856) rfl rfl rfl (by decide +kernel) ⟨Nat.le_of_ble_eq_true rfl, Nat.le_of_ble_eq_true rfl⟩) hJ2 (List.forall_mem_cons.mpr ⟨⟨by show (2 : Int) ≤ (f2 0).toInt; omega, by show (f2 0).toInt ≤ (2 : Int); omega⟩, List.forall_mem_cons.mpr ⟨ck_in_top _, List.forall_mem_cons.mpr ⟨ck_in_top _, List.forall_mem_cons.mpr ⟨ck_in_top _, fun _ h => absurd h List.not_mem_nil⟩⟩⟩⟩) ⟨Or.inr ⟨0, List.mem_cons_self, rfl⟩, trivial⟩ hP hD hS rfl hl.1 rfl (Nat.le_of_ble_eq_true rfl) dl_163 hf (fun r f3 g3 H3 locs3 hq3 hJ3 hP hD hS => ?_)
  obtain ⟨o3, ho3, hr3, hT3⟩ := hq3
  obtain ⟨x3, rfl, hx3⟩ := ck_isN_ok (List.all_eq_true.mp (show q_fn2.2.all (ck_isN 2) = true by decide) o3 ho3) hr3
  show W p l e room_1 s m args below meth c H3 locs3 (cells + 1) (slots + 6) Q (F0 m 166 ls [.int x3])
  refine lv_iload C.1.1 C.1.2.1 dl_166 (lv_at hl 0 rfl) ?_
  refine lv_icmp_eq (tgt := 173) C.1.1 C.1.2.1 dl_168 (by decide) (fun _ => ?_) (fun hne => absurd (Int32.toInt_inj.mp (by rw [hx3]; rfl)) hne)
  refine lv_goto (tgt := 840) C.1.1 C.1.2.1 dl_173 (by decide) ?_
  exact kk H3 locs3 _ hS (lv_sub hl [1, 2, 3, 4, 5] rfl)
theorem lo_0_fc57 {p : Program} {l : Launch} {e : Env} {s : State} {m : MethodId} {args : Array Value} {below : List Frame} {meth : Method} {c : Code} {H : Heap} {locs : List Loc} {cells slots : Nat} {Q : State → Prop} {D : va_G} {B : Nat} {A : Nat → Prop} {h hm : Nat → Nat} {cI cZ cJ : ClassId} {ho : Nat} {ls : Array Slot} {b L : Nat} {xs : Nat → Int32} {i : Int32} {cx : Cond} (hfl : l.flags = flags0) (C : zz_Cx p m meth c code 7 ret s args (cx :: kk_W) "NightCyclerLaw" D vN (tyN cI cZ cJ) A B (xL B h)) (hX : va_X b L xs s s.heap) (hbl : b < s.heap.size) (hbA : ¬ A b) (i1 : vp_in (i + 1) L) (i2 : vp_in (i + 2) L) (hP : va_P D vN (wW cI cZ cJ ho h hm fN0 gN0 fM0 gM0) H) (hD : va_D A (wW cI cZ cJ ho h hm fN0 gN0 fM0 gM0)) (hS : va_S A s.heap H locs) (hl : lv_has ls 7 [(0, .ref b), (1, .ref (h 0)), (2, .ref (hm 0)), (3, .ref ho), (4, .int i)]) (hf : cells + 1 ≤ room_1.cells ∧ slots + 6 ≤ room_1.slots) (hc0 : (7 : Int) ≤ (xs (i + 1).toNatClampNeg).toInt ∧ (xs (i + 1).toNatClampNeg).toInt ≤ (7 : Int)) (hc1 : (3000 : Int) ≤ (xs (i + 2).toNatClampNeg).toInt ∧ (xs (i + 2).toNatClampNeg).toInt ≤ (3900 : Int)) (kk : ∀ (H1 : Heap) (locs1 : List Loc) (ls1 : Array Slot), va_S A s.heap H1 locs1 → lv_has ls1 7 [(0, .ref b), (1, .ref (h 0)), (2, .ref (hm 0)), (3, .ref ho), (4, .int i)] → W p l e room_1 s m args below meth c H1 locs1 (cells + 1) (slots + 6) Q (F0 m 840 ls1 [])) : W p l e room_1 s m args below meth c H locs cells slots Q (F0 m 128 ls []) := by
  refine lv_aload_n C.1.1 C.1.2.1 dl_128 rfl (lv_at hl 1 rfl) ?_
  refine lv_aload_n C.1.1 C.1.2.1 dl_129 rfl (lv_at hl 0 rfl) ?_
  refine lv_iload C.1.1 C.1.2.1 dl_130 (lv_at hl 4 rfl) ?_
  refine lv_iconst (v := 1) C.1.1 C.1.2.1 dl_132 (by decide) ?_
  refine lv_iadd C.1.1 C.1.2.1 dl_133 ?_
  refine va_sld C.1.1 C.1.2.1 hX hbl hbA hS i1 dl_134 ?_
  refine lv_aload_n C.1.1 C.1.2.1 dl_135 rfl (lv_at hl 0 rfl) ?_
  refine lv_iload C.1.1 C.1.2.1 dl_136 (lv_at hl 4 rfl) ?_
  refine lv_iconst (v := 2) C.1.1 C.1.2.1 dl_138 (by decide) ?_
  refine lv_iadd C.1.1 C.1.2.1 dl_139 ?_
  refine va_sld C.1.1 C.1.2.1 hX hbl hbA hS i2 dl_140 ?_
  refine lw_goS (n := 3) C (ww_prescribe (post := ck_poF fbFB gbFB h fN0 q_fc57.2) (px := ck_pxF fbFB gbFB fN0 q_fc57.2) (fun sz => x_fc57 hfl fN0 gN0 sz [.ref (h 0), .int (xs (i + 1).toNatClampNeg), .int (xs (i + 2).toNatClampNeg)] gI_B (List.forall_mem_cons.mpr ⟨⟨by decide, by decide⟩, List.forall_mem_cons.mpr ⟨⟨by decide, by decide⟩, List.forall_mem_cons.mpr ⟨⟨by decide, by decide⟩, fun _ h => absurd h List.not_mem_nil⟩⟩⟩) (⟨Or.inr ⟨0, List.mem_cons_self, rfl⟩, ⟨⟨_, rfl, hc0⟩, ⟨⟨_, rfl, hc1⟩, trivial⟩⟩⟩)) ⟨rfl, rfl, by decide, by decide⟩ (ck_noIF (by decide)) (ck_ex2F (by decide))) kw_379 kw_380 kw_0 kw_381 (by decide +kernel) rfl rfl ⟨Nat.le_of_ble_eq_true rfl, Nat.le_of_ble_eq_true rfl⟩ hP hD hS rfl hl.1 rfl dl_141 hf (fun r f1 g1 H1 locs1 hq hP hD hS => ?_)
  obtain rfl := ck_anS (n := 0) (v := 0) (show q_fc57.2.all (ck_an "java/lang/IllegalStateException" "java/lang/IllegalArgumentException" 0 0) = true by decide) (by decide) hq
  show W p l e room_1 s m args below meth c H1 locs1 (cells + 1) (slots + 6) Q (F0 m 144 ls [.int (Int32.ofNat 0)])
  refine lv_istore (lv' := [(5, .int (Int32.ofNat 0)), (0, .ref b), (1, .ref (h 0)), (2, .ref (hm 0)), (3, .ref ho), (4, .int i)]) C.1.1 C.1.2.1 dl_144 hl (by decide) rfl (fun ls hl => ?_)
  refine lv_aload_n C.1.1 C.1.2.1 dl_146 rfl (lv_at hl 3 rfl) ?_
  refine lv_aload_n C.1.1 C.1.2.1 dl_147 rfl (lv_at hl 1 rfl) ?_
  refine lv_iload C.1.1 C.1.2.1 dl_148 (lv_at hl 5 rfl) ?_
  refine lv_iconst (v := 1) C.1.1 C.1.2.1 dl_150 (by decide) ?_
  refine lv_iadd C.1.1 C.1.2.1 dl_151 ?_
  refine va_sld C.1.1 C.1.2.1 hX hbl hbA hS i1 dl_152 ?_
  refine lv_aload_n C.1.1 C.1.2.1 dl_153 rfl (lv_at hl 1 rfl) ?_
  refine lv_iload C.1.1 C.1.2.1 dl_154 (lv_at hl 5 rfl) ?_
  refine lv_iconst (v := 2) C.1.1 C.1.2.1 dl_156 (by decide) ?_
  refine lv_iadd C.1.1 C.1.2.1 dl_157 ?_
  refine va_sld C.1.1 C.1.2.1 hX hbl hbA hS i2 dl_158 ?_
  refine lm_goR (h := h) (hm := hm) (As := [.int (xs (i + 1).toNatClampNeg), .int (xs (i + 2).toNatClampNeg)]) (rest := []) C (c_fn27 xL_ok) (cwV 2 C.1.2.2.2.2 (kk_gV kw_857 kw_858 kw_859 kw_9 kw_860) rfl rfl rfl (by decide +kernel) ⟨Nat.le_of_ble_eq_true rfl, Nat.le_of_ble_eq_true rfl⟩) gI_FN (List.forall_mem_cons.mpr ⟨⟨by decide, by decide⟩, List.forall_mem_cons.mpr ⟨⟨by decide, by decide⟩, List.forall_mem_cons.mpr ⟨⟨by decide, by decide⟩, List.forall_mem_cons.mpr ⟨⟨by decide, by decide⟩, fun _ h => absurd h List.not_mem_nil⟩⟩⟩⟩) (⟨Or.inr ⟨0, List.mem_cons_self, rfl⟩, ⟨⟨_, rfl, hc0⟩, ⟨⟨_, rfl, hc1⟩, trivial⟩⟩⟩) hP hD hS rfl hl.1 rfl (Nat.le_of_ble_eq_true rfl) dl_159 hf (fun r f2 g2 H2 locs2 hq2 hJ2 hP hD hS => ?_)
  obtain ⟨o2, ho2, hr2, hT2⟩ := hq2
  have h8 := List.all_eq_true.mp (show q_fn27.2.all (fun o => ck_isV o && ck_val 0 0 o) = true by decide) o2 ho2
  simp only [Bool.and_eq_true] at h8
  obtain rfl := ck_isV_ok h8.1 hr2
  show W p l e room_1 s m args below meth c H2 locs2 (cells + 1) (slots + 6) Q (F0 m 162 ls [])
  have hc9 := ck_val_ok h8.2 hT2
  refine lv_aload_n C.1.1 C.1.2.1 dl_162 rfl (lv_at hl 3 rfl) ?_
  refine lm_goR (h := h) (hm := hm) (As := []) (rest := []) C (c_fn0 xL_ok) (cwV 0 C.1.2.2.2.2 (kk_gV kw_853 kw_854 kw_855 kw_9 kw_856) rfl rfl rfl (by decide +kernel) ⟨Nat.le_of_ble_eq_true rfl, Nat.le_of_ble_eq_true rfl⟩) hJ2 (List.forall_mem_cons.mpr ⟨⟨by show (0 : Int) ≤ (f2 0).toInt; omega, by show (f2 0).toInt ≤ (0 : Int); omega⟩, List.forall_mem_cons.mpr ⟨ck_in_top _, List.forall_mem_cons.mpr ⟨ck_in_top _, List.forall_mem_cons.mpr ⟨ck_in_top _, fun _ h => absurd h List.not_mem_nil⟩⟩⟩⟩) ⟨Or.inr ⟨0, List.mem_cons_self, rfl⟩, trivial⟩ hP hD hS rfl hl.1 rfl (Nat.le_of_ble_eq_true rfl) dl_163 hf (fun r f3 g3 H3 locs3 hq3 hJ3 hP hD hS => ?_)
  obtain ⟨o3, ho3, hr3, hT3⟩ := hq3
  obtain ⟨x3, rfl, hx3⟩ := ck_isN_ok (List.all_eq_true.mp (show q_fn0.2.all (ck_isN 0) = true by decide) o3 ho3) hr3
  show W p l e room_1 s m args below meth c H3 locs3 (cells + 1) (slots + 6) Q (F0 m 166 ls [.int x3])
  refine lv_iload C.1.1 C.1.2.1 dl_166 (lv_at hl 0 rfl) ?_
  refine lv_icmp_eq (tgt := 173) C.1.1 C.1.2.1 dl_168 (by decide) (fun _ => ?_) (fun hne => absurd (Int32.toInt_inj.mp (by rw [hx3]; rfl)) hne)
  refine lv_goto (tgt := 840) C.1.1 C.1.2.1 dl_173 (by decide) ?_
  exact kk H3 locs3 _ hS (lv_sub hl [1, 2, 3, 4, 5] rfl)
theorem lo_0_fc59 {p : Program} {l : Launch} {e : Env} {s : State} {m : MethodId} {args : Array Value} {below : List Frame} {meth : Method} {c : Code} {H : Heap} {locs : List Loc} {cells slots : Nat} {Q : State → Prop} {D : va_G} {B : Nat} {A : Nat → Prop} {h hm : Nat → Nat} {cI cZ cJ : ClassId} {ho : Nat} {ls : Array Slot} {b L : Nat} {xs : Nat → Int32} {i : Int32} {cx : Cond} (hfl : l.flags = flags0) (C : zz_Cx p m meth c code 7 ret s args (cx :: kk_W) "NightCyclerLaw" D vN (tyN cI cZ cJ) A B (xL B h)) (hX : va_X b L xs s s.heap) (hbl : b < s.heap.size) (hbA : ¬ A b) (i1 : vp_in (i + 1) L) (i2 : vp_in (i + 2) L) (hP : va_P D vN (wW cI cZ cJ ho h hm fN0 gN0 fM0 gM0) H) (hD : va_D A (wW cI cZ cJ ho h hm fN0 gN0 fM0 gM0)) (hS : va_S A s.heap H locs) (hl : lv_has ls 7 [(0, .ref b), (1, .ref (h 0)), (2, .ref (hm 0)), (3, .ref ho), (4, .int i)]) (hf : cells + 1 ≤ room_1.cells ∧ slots + 6 ≤ room_1.slots) (hc0 : (7 : Int) ≤ (xs (i + 1).toNatClampNeg).toInt ∧ (xs (i + 1).toNatClampNeg).toInt ≤ (7 : Int)) (hc1 : (3901 : Int) ≤ (xs (i + 2).toNatClampNeg).toInt ∧ (xs (i + 2).toNatClampNeg).toInt ≤ (2147483647 : Int)) (kk : ∀ (H1 : Heap) (locs1 : List Loc) (ls1 : Array Slot), va_S A s.heap H1 locs1 → lv_has ls1 7 [(0, .ref b), (1, .ref (h 0)), (2, .ref (hm 0)), (3, .ref ho), (4, .int i)] → W p l e room_1 s m args below meth c H1 locs1 (cells + 1) (slots + 6) Q (F0 m 840 ls1 [])) : W p l e room_1 s m args below meth c H locs cells slots Q (F0 m 128 ls []) := by
  refine lv_aload_n C.1.1 C.1.2.1 dl_128 rfl (lv_at hl 1 rfl) ?_
  refine lv_aload_n C.1.1 C.1.2.1 dl_129 rfl (lv_at hl 0 rfl) ?_
  refine lv_iload C.1.1 C.1.2.1 dl_130 (lv_at hl 4 rfl) ?_
  refine lv_iconst (v := 1) C.1.1 C.1.2.1 dl_132 (by decide) ?_
  refine lv_iadd C.1.1 C.1.2.1 dl_133 ?_
  refine va_sld C.1.1 C.1.2.1 hX hbl hbA hS i1 dl_134 ?_
  refine lv_aload_n C.1.1 C.1.2.1 dl_135 rfl (lv_at hl 0 rfl) ?_
  refine lv_iload C.1.1 C.1.2.1 dl_136 (lv_at hl 4 rfl) ?_
  refine lv_iconst (v := 2) C.1.1 C.1.2.1 dl_138 (by decide) ?_
  refine lv_iadd C.1.1 C.1.2.1 dl_139 ?_
  refine va_sld C.1.1 C.1.2.1 hX hbl hbA hS i2 dl_140 ?_
  refine lw_goS (n := 3) C (ww_prescribe (post := ck_poF fbFB gbFB h fN0 q_fc59.2) (px := ck_pxF fbFB gbFB fN0 q_fc59.2) (fun sz => x_fc59 hfl fN0 gN0 sz [.ref (h 0), .int (xs (i + 1).toNatClampNeg), .int (xs (i + 2).toNatClampNeg)] gI_B (List.forall_mem_cons.mpr ⟨⟨by decide, by decide⟩, List.forall_mem_cons.mpr ⟨⟨by decide, by decide⟩, List.forall_mem_cons.mpr ⟨⟨by decide, by decide⟩, fun _ h => absurd h List.not_mem_nil⟩⟩⟩) (⟨Or.inr ⟨0, List.mem_cons_self, rfl⟩, ⟨⟨_, rfl, hc0⟩, ⟨⟨_, rfl, hc1⟩, trivial⟩⟩⟩)) ⟨rfl, rfl, by decide, by decide⟩ (ck_noIF (by decide)) (ck_ex2F (by decide))) kw_379 kw_380 kw_0 kw_381 (by decide +kernel) rfl rfl ⟨Nat.le_of_ble_eq_true rfl, Nat.le_of_ble_eq_true rfl⟩ hP hD hS rfl hl.1 rfl dl_141 hf (fun r f1 g1 H1 locs1 hq hP hD hS => ?_)
  obtain rfl := ck_anS (n := 2) (v := 0) (show q_fc59.2.all (ck_an "java/lang/IllegalStateException" "java/lang/IllegalArgumentException" 2 0) = true by decide) (by decide) hq
  show W p l e room_1 s m args below meth c H1 locs1 (cells + 1) (slots + 6) Q (F0 m 144 ls [.int (Int32.ofNat 2)])
  refine lv_istore (lv' := [(5, .int (Int32.ofNat 2)), (0, .ref b), (1, .ref (h 0)), (2, .ref (hm 0)), (3, .ref ho), (4, .int i)]) C.1.1 C.1.2.1 dl_144 hl (by decide) rfl (fun ls hl => ?_)
  refine lv_aload_n C.1.1 C.1.2.1 dl_146 rfl (lv_at hl 3 rfl) ?_
  refine lv_aload_n C.1.1 C.1.2.1 dl_147 rfl (lv_at hl 1 rfl) ?_
  refine lv_iload C.1.1 C.1.2.1 dl_148 (lv_at hl 5 rfl) ?_
  refine lv_iconst (v := 1) C.1.1 C.1.2.1 dl_150 (by decide) ?_
  refine lv_iadd C.1.1 C.1.2.1 dl_151 ?_
  refine va_sld C.1.1 C.1.2.1 hX hbl hbA hS i1 dl_152 ?_
  refine lv_aload_n C.1.1 C.1.2.1 dl_153 rfl (lv_at hl 1 rfl) ?_
  refine lv_iload C.1.1 C.1.2.1 dl_154 (lv_at hl 5 rfl) ?_
  refine lv_iconst (v := 2) C.1.1 C.1.2.1 dl_156 (by decide) ?_
  refine lv_iadd C.1.1 C.1.2.1 dl_157 ?_
  refine va_sld C.1.1 C.1.2.1 hX hbl hbA hS i2 dl_158 ?_
  refine lm_goR (h := h) (hm := hm) (As := [.int (xs (i + 1).toNatClampNeg), .int (xs (i + 2).toNatClampNeg)]) (rest := []) C (c_fn28 xL_ok) (cwV 2 C.1.2.2.2.2 (kk_gV kw_857 kw_858 kw_859 kw_9 kw_860) rfl rfl rfl (by decide +kernel) ⟨Nat.le_of_ble_eq_true rfl, Nat.le_of_ble_eq_true rfl⟩) gI_FN (List.forall_mem_cons.mpr ⟨⟨by decide, by decide⟩, List.forall_mem_cons.mpr ⟨⟨by decide, by decide⟩, List.forall_mem_cons.mpr ⟨⟨by decide, by decide⟩, List.forall_mem_cons.mpr ⟨⟨by decide, by decide⟩, fun _ h => absurd h List.not_mem_nil⟩⟩⟩⟩) (⟨Or.inr ⟨0, List.mem_cons_self, rfl⟩, ⟨⟨_, rfl, hc0⟩, ⟨⟨_, rfl, hc1⟩, trivial⟩⟩⟩) hP hD hS rfl hl.1 rfl (Nat.le_of_ble_eq_true rfl) dl_159 hf (fun r f2 g2 H2 locs2 hq2 hJ2 hP hD hS => ?_)
  obtain ⟨o2, ho2, hr2, hT2⟩ := hq2
  have h8 := List.all_eq_true.mp (show q_fn28.2.all (fun o => ck_isV o && ck_val 0 2 o) = true by decide) o2 ho2
  simp only [Bool.and_eq_true] at h8
  obtain rfl := ck_isV_ok h8.1 hr2
  show W p l e room_1 s m args below meth c H2 locs2 (cells + 1) (slots + 6) Q (F0 m 162 ls [])
  have hc9 := ck_val_ok h8.2 hT2
  refine lv_aload_n C.1.1 C.1.2.1 dl_162 rfl (lv_at hl 3 rfl) ?_
  refine lm_goR (h := h) (hm := hm) (As := []) (rest := []) C (c_fn2 xL_ok) (cwV 0 C.1.2.2.2.2 (kk_gV kw_853 kw_854 kw_855 kw_9 kw_856) rfl rfl rfl (by decide +kernel) ⟨Nat.le_of_ble_eq_true rfl, Nat.le_of_ble_eq_true rfl⟩) hJ2 (List.forall_mem_cons.mpr ⟨⟨by show (2 : Int) ≤ (f2 0).toInt; omega, by show (f2 0).toInt ≤ (2 : Int); omega⟩, List.forall_mem_cons.mpr ⟨ck_in_top _, List.forall_mem_cons.mpr ⟨ck_in_top _, List.forall_mem_cons.mpr ⟨ck_in_top _, fun _ h => absurd h List.not_mem_nil⟩⟩⟩⟩) ⟨Or.inr ⟨0, List.mem_cons_self, rfl⟩, trivial⟩ hP hD hS rfl hl.1 rfl (Nat.le_of_ble_eq_true rfl) dl_163 hf (fun r f3 g3 H3 locs3 hq3 hJ3 hP hD hS => ?_)
  obtain ⟨o3, ho3, hr3, hT3⟩ := hq3
  obtain ⟨x3, rfl, hx3⟩ := ck_isN_ok (List.all_eq_true.mp (show q_fn2.2.all (ck_isN 2) = true by decide) o3 ho3) hr3
  show W p l e room_1 s m args below meth c H3 locs3 (cells + 1) (slots + 6) Q (F0 m 166 ls [.int x3])
  refine lv_iload C.1.1 C.1.2.1 dl_166 (lv_at hl 0 rfl) ?_
  refine lv_icmp_eq (tgt := 173) C.1.1 C.1.2.1 dl_168 (by decide) (fun _ => ?_) (fun hne => absurd (Int32.toInt_inj.mp (by rw [hx3]; rfl)) hne)
  refine lv_goto (tgt := 840) C.1.1 C.1.2.1 dl_173 (by decide) ?_
  exact kk H3 locs3 _ hS (lv_sub hl [1, 2, 3, 4, 5] rfl)
theorem lo_0_fc61 {p : Program} {l : Launch} {e : Env} {s : State} {m : MethodId} {args : Array Value} {below : List Frame} {meth : Method} {c : Code} {H : Heap} {locs : List Loc} {cells slots : Nat} {Q : State → Prop} {D : va_G} {B : Nat} {A : Nat → Prop} {h hm : Nat → Nat} {cI cZ cJ : ClassId} {ho : Nat} {ls : Array Slot} {b L : Nat} {xs : Nat → Int32} {i : Int32} {cx : Cond} (hfl : l.flags = flags0) (C : zz_Cx p m meth c code 7 ret s args (cx :: kk_W) "NightCyclerLaw" D vN (tyN cI cZ cJ) A B (xL B h)) (hX : va_X b L xs s s.heap) (hbl : b < s.heap.size) (hbA : ¬ A b) (i1 : vp_in (i + 1) L) (i2 : vp_in (i + 2) L) (hP : va_P D vN (wW cI cZ cJ ho h hm fN0 gN0 fM0 gM0) H) (hD : va_D A (wW cI cZ cJ ho h hm fN0 gN0 fM0 gM0)) (hS : va_S A s.heap H locs) (hl : lv_has ls 7 [(0, .ref b), (1, .ref (h 0)), (2, .ref (hm 0)), (3, .ref ho), (4, .int i)]) (hf : cells + 1 ≤ room_1.cells ∧ slots + 6 ≤ room_1.slots) (hc0 : (8 : Int) ≤ (xs (i + 1).toNatClampNeg).toInt ∧ (xs (i + 1).toNatClampNeg).toInt ≤ (8 : Int)) (hc1 : (-2147483648 : Int) ≤ (xs (i + 2).toNatClampNeg).toInt ∧ (xs (i + 2).toNatClampNeg).toInt ≤ (-1 : Int)) (kk : ∀ (H1 : Heap) (locs1 : List Loc) (ls1 : Array Slot), va_S A s.heap H1 locs1 → lv_has ls1 7 [(0, .ref b), (1, .ref (h 0)), (2, .ref (hm 0)), (3, .ref ho), (4, .int i)] → W p l e room_1 s m args below meth c H1 locs1 (cells + 1) (slots + 6) Q (F0 m 840 ls1 [])) : W p l e room_1 s m args below meth c H locs cells slots Q (F0 m 128 ls []) := by
  refine lv_aload_n C.1.1 C.1.2.1 dl_128 rfl (lv_at hl 1 rfl) ?_
  refine lv_aload_n C.1.1 C.1.2.1 dl_129 rfl (lv_at hl 0 rfl) ?_
  refine lv_iload C.1.1 C.1.2.1 dl_130 (lv_at hl 4 rfl) ?_
  refine lv_iconst (v := 1) C.1.1 C.1.2.1 dl_132 (by decide) ?_
  refine lv_iadd C.1.1 C.1.2.1 dl_133 ?_
  refine va_sld C.1.1 C.1.2.1 hX hbl hbA hS i1 dl_134 ?_
  refine lv_aload_n C.1.1 C.1.2.1 dl_135 rfl (lv_at hl 0 rfl) ?_
  refine lv_iload C.1.1 C.1.2.1 dl_136 (lv_at hl 4 rfl) ?_
  refine lv_iconst (v := 2) C.1.1 C.1.2.1 dl_138 (by decide) ?_
  refine lv_iadd C.1.1 C.1.2.1 dl_139 ?_
  refine va_sld C.1.1 C.1.2.1 hX hbl hbA hS i2 dl_140 ?_
  refine lw_goS (n := 3) C (ww_prescribe (post := ck_poF fbFB gbFB h fN0 q_fc61.2) (px := ck_pxF fbFB gbFB fN0 q_fc61.2) (fun sz => x_fc61 hfl fN0 gN0 sz [.ref (h 0), .int (xs (i + 1).toNatClampNeg), .int (xs (i + 2).toNatClampNeg)] gI_B (List.forall_mem_cons.mpr ⟨⟨by decide, by decide⟩, List.forall_mem_cons.mpr ⟨⟨by decide, by decide⟩, List.forall_mem_cons.mpr ⟨⟨by decide, by decide⟩, fun _ h => absurd h List.not_mem_nil⟩⟩⟩) (⟨Or.inr ⟨0, List.mem_cons_self, rfl⟩, ⟨⟨_, rfl, hc0⟩, ⟨⟨_, rfl, hc1⟩, trivial⟩⟩⟩)) ⟨rfl, rfl, by decide, by decide⟩ (ck_noIF (by decide)) (ck_ex2F (by decide))) kw_379 kw_380 kw_0 kw_381 (by decide +kernel) rfl rfl ⟨Nat.le_of_ble_eq_true rfl, Nat.le_of_ble_eq_true rfl⟩ hP hD hS rfl hl.1 rfl dl_141 hf (fun r f1 g1 H1 locs1 hq hP hD hS => ?_)
  obtain rfl := ck_anS (n := 2) (v := 0) (show q_fc61.2.all (ck_an "java/lang/IllegalStateException" "java/lang/IllegalArgumentException" 2 0) = true by decide) (by decide) hq
  show W p l e room_1 s m args below meth c H1 locs1 (cells + 1) (slots + 6) Q (F0 m 144 ls [.int (Int32.ofNat 2)])
  refine lv_istore (lv' := [(5, .int (Int32.ofNat 2)), (0, .ref b), (1, .ref (h 0)), (2, .ref (hm 0)), (3, .ref ho), (4, .int i)]) C.1.1 C.1.2.1 dl_144 hl (by decide) rfl (fun ls hl => ?_)
  refine lv_aload_n C.1.1 C.1.2.1 dl_146 rfl (lv_at hl 3 rfl) ?_
  refine lv_aload_n C.1.1 C.1.2.1 dl_147 rfl (lv_at hl 1 rfl) ?_
  refine lv_iload C.1.1 C.1.2.1 dl_148 (lv_at hl 5 rfl) ?_
  refine lv_iconst (v := 1) C.1.1 C.1.2.1 dl_150 (by decide) ?_
  refine lv_iadd C.1.1 C.1.2.1 dl_151 ?_
  refine va_sld C.1.1 C.1.2.1 hX hbl hbA hS i1 dl_152 ?_
  refine lv_aload_n C.1.1 C.1.2.1 dl_153 rfl (lv_at hl 1 rfl) ?_
  refine lv_iload C.1.1 C.1.2.1 dl_154 (lv_at hl 5 rfl) ?_
  refine lv_iconst (v := 2) C.1.1 C.1.2.1 dl_156 (by decide) ?_
  refine lv_iadd C.1.1 C.1.2.1 dl_157 ?_
  refine va_sld C.1.1 C.1.2.1 hX hbl hbA hS i2 dl_158 ?_
  refine lm_goR (h := h) (hm := hm) (As := [.int (xs (i + 1).toNatClampNeg), .int (xs (i + 2).toNatClampNeg)]) (rest := []) C (c_fn29 xL_ok) (cwV 2 C.1.2.2.2.2 (kk_gV kw_857 kw_858 kw_859 kw_9 kw_860) rfl rfl rfl (by decide +kernel) ⟨Nat.le_of_ble_eq_true rfl, Nat.le_of_ble_eq_true rfl⟩) gI_FN (List.forall_mem_cons.mpr ⟨⟨by decide, by decide⟩, List.forall_mem_cons.mpr ⟨⟨by decide, by decide⟩, List.forall_mem_cons.mpr ⟨⟨by decide, by decide⟩, List.forall_mem_cons.mpr ⟨⟨by decide, by decide⟩, fun _ h => absurd h List.not_mem_nil⟩⟩⟩⟩) (⟨Or.inr ⟨0, List.mem_cons_self, rfl⟩, ⟨⟨_, rfl, hc0⟩, ⟨⟨_, rfl, hc1⟩, trivial⟩⟩⟩) hP hD hS rfl hl.1 rfl (Nat.le_of_ble_eq_true rfl) dl_159 hf (fun r f2 g2 H2 locs2 hq2 hJ2 hP hD hS => ?_)
  obtain ⟨o2, ho2, hr2, hT2⟩ := hq2
  have h8 := List.all_eq_true.mp (show q_fn29.2.all (fun o => ck_isV o && ck_val 0 2 o) = true by decide) o2 ho2
  simp only [Bool.and_eq_true] at h8
  obtain rfl := ck_isV_ok h8.1 hr2
  show W p l e room_1 s m args below meth c H2 locs2 (cells + 1) (slots + 6) Q (F0 m 162 ls [])
  have hc9 := ck_val_ok h8.2 hT2
  refine lv_aload_n C.1.1 C.1.2.1 dl_162 rfl (lv_at hl 3 rfl) ?_
  refine lm_goR (h := h) (hm := hm) (As := []) (rest := []) C (c_fn2 xL_ok) (cwV 0 C.1.2.2.2.2 (kk_gV kw_853 kw_854 kw_855 kw_9 kw_856) rfl rfl rfl (by decide +kernel) ⟨Nat.le_of_ble_eq_true rfl, Nat.le_of_ble_eq_true rfl⟩) hJ2 (List.forall_mem_cons.mpr ⟨⟨by show (2 : Int) ≤ (f2 0).toInt; omega, by show (f2 0).toInt ≤ (2 : Int); omega⟩, List.forall_mem_cons.mpr ⟨ck_in_top _, List.forall_mem_cons.mpr ⟨ck_in_top _, List.forall_mem_cons.mpr ⟨ck_in_top _, fun _ h => absurd h List.not_mem_nil⟩⟩⟩⟩) ⟨Or.inr ⟨0, List.mem_cons_self, rfl⟩, trivial⟩ hP hD hS rfl hl.1 rfl (Nat.le_of_ble_eq_true rfl) dl_163 hf (fun r f3 g3 H3 locs3 hq3 hJ3 hP hD hS => ?_)
  obtain ⟨o3, ho3, hr3, hT3⟩ := hq3
  obtain ⟨x3, rfl, hx3⟩ := ck_isN_ok (List.all_eq_true.mp (show q_fn2.2.all (ck_isN 2) = true by decide) o3 ho3) hr3
  show W p l e room_1 s m args below meth c H3 locs3 (cells + 1) (slots + 6) Q (F0 m 166 ls [.int x3])
  refine lv_iload C.1.1 C.1.2.1 dl_166 (lv_at hl 0 rfl) ?_
  refine lv_icmp_eq (tgt := 173) C.1.1 C.1.2.1 dl_168 (by decide) (fun _ => ?_) (fun hne => absurd (Int32.toInt_inj.mp (by rw [hx3]; rfl)) hne)
  refine lv_goto (tgt := 840) C.1.1 C.1.2.1 dl_173 (by decide) ?_
  exact kk H3 locs3 _ hS (lv_sub hl [1, 2, 3, 4, 5] rfl)
theorem lo_0_fc64 {p : Program} {l : Launch} {e : Env} {s : State} {m : MethodId} {args : Array Value} {below : List Frame} {meth : Method} {c : Code} {H : Heap} {locs : List Loc} {cells slots : Nat} {Q : State → Prop} {D : va_G} {B : Nat} {A : Nat → Prop} {h hm : Nat → Nat} {cI cZ cJ : ClassId} {ho : Nat} {ls : Array Slot} {b L : Nat} {xs : Nat → Int32} {i : Int32} {cx : Cond} (hfl : l.flags = flags0) (C : zz_Cx p m meth c code 7 ret s args (cx :: kk_W) "NightCyclerLaw" D vN (tyN cI cZ cJ) A B (xL B h)) (hX : va_X b L xs s s.heap) (hbl : b < s.heap.size) (hbA : ¬ A b) (i1 : vp_in (i + 1) L) (i2 : vp_in (i + 2) L) (hP : va_P D vN (wW cI cZ cJ ho h hm fN0 gN0 fM0 gM0) H) (hD : va_D A (wW cI cZ cJ ho h hm fN0 gN0 fM0 gM0)) (hS : va_S A s.heap H locs) (hl : lv_has ls 7 [(0, .ref b), (1, .ref (h 0)), (2, .ref (hm 0)), (3, .ref ho), (4, .int i)]) (hf : cells + 1 ≤ room_1.cells ∧ slots + 6 ≤ room_1.slots) (hc0 : (8 : Int) ≤ (xs (i + 1).toNatClampNeg).toInt ∧ (xs (i + 1).toNatClampNeg).toInt ≤ (8 : Int)) (hc1 : (0 : Int) ≤ (xs (i + 2).toNatClampNeg).toInt ∧ (xs (i + 2).toNatClampNeg).toInt ≤ (20000 : Int)) (kk : ∀ (H1 : Heap) (locs1 : List Loc) (ls1 : Array Slot), va_S A s.heap H1 locs1 → lv_has ls1 7 [(0, .ref b), (1, .ref (h 0)), (2, .ref (hm 0)), (3, .ref ho), (4, .int i)] → W p l e room_1 s m args below meth c H1 locs1 (cells + 1) (slots + 6) Q (F0 m 840 ls1 [])) : W p l e room_1 s m args below meth c H locs cells slots Q (F0 m 128 ls []) := by
  refine lv_aload_n C.1.1 C.1.2.1 dl_128 rfl (lv_at hl 1 rfl) ?_
  refine lv_aload_n C.1.1 C.1.2.1 dl_129 rfl (lv_at hl 0 rfl) ?_
  refine lv_iload C.1.1 C.1.2.1 dl_130 (lv_at hl 4 rfl) ?_
  refine lv_iconst (v := 1) C.1.1 C.1.2.1 dl_132 (by decide) ?_
  refine lv_iadd C.1.1 C.1.2.1 dl_133 ?_
  refine va_sld C.1.1 C.1.2.1 hX hbl hbA hS i1 dl_134 ?_
  refine lv_aload_n C.1.1 C.1.2.1 dl_135 rfl (lv_at hl 0 rfl) ?_
  refine lv_iload C.1.1 C.1.2.1 dl_136 (lv_at hl 4 rfl) ?_
  refine lv_iconst (v := 2) C.1.1 C.1.2.1 dl_138 (by decide) ?_
  refine lv_iadd C.1.1 C.1.2.1 dl_139 ?_
  refine va_sld C.1.1 C.1.2.1 hX hbl hbA hS i2 dl_140 ?_
  refine lw_goS (n := 3) C (ww_prescribe (post := ck_poF fbFB gbFB h fN0 q_fc64.2) (px := ck_pxF fbFB gbFB fN0 q_fc64.2) (fun sz => x_fc64 hfl fN0 gN0 sz [.ref (h 0), .int (xs (i + 1).toNatClampNeg), .int (xs (i + 2).toNatClampNeg)] gI_B (List.forall_mem_cons.mpr ⟨⟨by decide, by decide⟩, List.forall_mem_cons.mpr ⟨⟨by decide, by decide⟩, List.forall_mem_cons.mpr ⟨⟨by decide, by decide⟩, fun _ h => absurd h List.not_mem_nil⟩⟩⟩) (⟨Or.inr ⟨0, List.mem_cons_self, rfl⟩, ⟨⟨_, rfl, hc0⟩, ⟨⟨_, rfl, hc1⟩, trivial⟩⟩⟩)) ⟨rfl, rfl, by decide, by decide⟩ (ck_noIF (by decide)) (ck_ex2F (by decide))) kw_379 kw_380 kw_0 kw_381 (by decide +kernel) rfl rfl ⟨Nat.le_of_ble_eq_true rfl, Nat.le_of_ble_eq_true rfl⟩ hP hD hS rfl hl.1 rfl dl_141 hf (fun r f1 g1 H1 locs1 hq hP hD hS => ?_)
  obtain rfl := ck_anS (n := 0) (v := 0) (show q_fc64.2.all (ck_an "java/lang/IllegalStateException" "java/lang/IllegalArgumentException" 0 0) = true by decide) (by decide) hq
  show W p l e room_1 s m args below meth c H1 locs1 (cells + 1) (slots + 6) Q (F0 m 144 ls [.int (Int32.ofNat 0)])
  refine lv_istore (lv' := [(5, .int (Int32.ofNat 0)), (0, .ref b), (1, .ref (h 0)), (2, .ref (hm 0)), (3, .ref ho), (4, .int i)]) C.1.1 C.1.2.1 dl_144 hl (by decide) rfl (fun ls hl => ?_)
  refine lv_aload_n C.1.1 C.1.2.1 dl_146 rfl (lv_at hl 3 rfl) ?_
  refine lv_aload_n C.1.1 C.1.2.1 dl_147 rfl (lv_at hl 1 rfl) ?_
  refine lv_iload C.1.1 C.1.2.1 dl_148 (lv_at hl 5 rfl) ?_
  refine lv_iconst (v := 1) C.1.1 C.1.2.1 dl_150 (by decide) ?_
  refine lv_iadd C.1.1 C.1.2.1 dl_151 ?_
  refine va_sld C.1.1 C.1.2.1 hX hbl hbA hS i1 dl_152 ?_
  refine lv_aload_n C.1.1 C.1.2.1 dl_153 rfl (lv_at hl 1 rfl) ?_
  refine lv_iload C.1.1 C.1.2.1 dl_154 (lv_at hl 5 rfl) ?_
  refine lv_iconst (v := 2) C.1.1 C.1.2.1 dl_156 (by decide) ?_
  refine lv_iadd C.1.1 C.1.2.1 dl_157 ?_
  refine va_sld C.1.1 C.1.2.1 hX hbl hbA hS i2 dl_158 ?_
  refine lm_goR (h := h) (hm := hm) (As := [.int (xs (i + 1).toNatClampNeg), .int (xs (i + 2).toNatClampNeg)]) (rest := []) C (c_fn30 xL_ok) (cwV 2 C.1.2.2.2.2 (kk_gV kw_857 kw_858 kw_859 kw_9 kw_860) rfl rfl rfl (by decide +kernel) ⟨Nat.le_of_ble_eq_true rfl, Nat.le_of_ble_eq_true rfl⟩) gI_FN (List.forall_mem_cons.mpr ⟨⟨by decide, by decide⟩, List.forall_mem_cons.mpr ⟨⟨by decide, by decide⟩, List.forall_mem_cons.mpr ⟨⟨by decide, by decide⟩, List.forall_mem_cons.mpr ⟨⟨by decide, by decide⟩, fun _ h => absurd h List.not_mem_nil⟩⟩⟩⟩) (⟨Or.inr ⟨0, List.mem_cons_self, rfl⟩, ⟨⟨_, rfl, hc0⟩, ⟨⟨_, rfl, hc1⟩, trivial⟩⟩⟩) hP hD hS rfl hl.1 rfl (Nat.le_of_ble_eq_true rfl) dl_159 hf (fun r f2 g2 H2 locs2 hq2 hJ2 hP hD hS => ?_)
  obtain ⟨o2, ho2, hr2, hT2⟩ := hq2
  have h8 := List.all_eq_true.mp (show q_fn30.2.all (fun o => ck_isV o && ck_val 0 0 o) = true by decide) o2 ho2
  simp only [Bool.and_eq_true] at h8
  obtain rfl := ck_isV_ok h8.1 hr2
  show W p l e room_1 s m args below meth c H2 locs2 (cells + 1) (slots + 6) Q (F0 m 162 ls [])
  have hc9 := ck_val_ok h8.2 hT2
  refine lv_aload_n C.1.1 C.1.2.1 dl_162 rfl (lv_at hl 3 rfl) ?_
  refine lm_goR (h := h) (hm := hm) (As := []) (rest := []) C (c_fn0 xL_ok) (cwV 0 C.1.2.2.2.2 (kk_gV kw_853 kw_854 kw_855 kw_9 kw_856) rfl rfl rfl (by decide +kernel) ⟨Nat.le_of_ble_eq_true rfl, Nat.le_of_ble_eq_true rfl⟩) hJ2 (List.forall_mem_cons.mpr ⟨⟨by show (0 : Int) ≤ (f2 0).toInt; omega, by show (f2 0).toInt ≤ (0 : Int); omega⟩, List.forall_mem_cons.mpr ⟨ck_in_top _, List.forall_mem_cons.mpr ⟨ck_in_top _, List.forall_mem_cons.mpr ⟨ck_in_top _, fun _ h => absurd h List.not_mem_nil⟩⟩⟩⟩) ⟨Or.inr ⟨0, List.mem_cons_self, rfl⟩, trivial⟩ hP hD hS rfl hl.1 rfl (Nat.le_of_ble_eq_true rfl) dl_163 hf (fun r f3 g3 H3 locs3 hq3 hJ3 hP hD hS => ?_)
  obtain ⟨o3, ho3, hr3, hT3⟩ := hq3
  obtain ⟨x3, rfl, hx3⟩ := ck_isN_ok (List.all_eq_true.mp (show q_fn0.2.all (ck_isN 0) = true by decide) o3 ho3) hr3
  show W p l e room_1 s m args below meth c H3 locs3 (cells + 1) (slots + 6) Q (F0 m 166 ls [.int x3])
  refine lv_iload C.1.1 C.1.2.1 dl_166 (lv_at hl 0 rfl) ?_
  refine lv_icmp_eq (tgt := 173) C.1.1 C.1.2.1 dl_168 (by decide) (fun _ => ?_) (fun hne => absurd (Int32.toInt_inj.mp (by rw [hx3]; rfl)) hne)
  refine lv_goto (tgt := 840) C.1.1 C.1.2.1 dl_173 (by decide) ?_
  exact kk H3 locs3 _ hS (lv_sub hl [1, 2, 3, 4, 5] rfl)
theorem lo_0_fc66 {p : Program} {l : Launch} {e : Env} {s : State} {m : MethodId} {args : Array Value} {below : List Frame} {meth : Method} {c : Code} {H : Heap} {locs : List Loc} {cells slots : Nat} {Q : State → Prop} {D : va_G} {B : Nat} {A : Nat → Prop} {h hm : Nat → Nat} {cI cZ cJ : ClassId} {ho : Nat} {ls : Array Slot} {b L : Nat} {xs : Nat → Int32} {i : Int32} {cx : Cond} (hfl : l.flags = flags0) (C : zz_Cx p m meth c code 7 ret s args (cx :: kk_W) "NightCyclerLaw" D vN (tyN cI cZ cJ) A B (xL B h)) (hX : va_X b L xs s s.heap) (hbl : b < s.heap.size) (hbA : ¬ A b) (i1 : vp_in (i + 1) L) (i2 : vp_in (i + 2) L) (hP : va_P D vN (wW cI cZ cJ ho h hm fN0 gN0 fM0 gM0) H) (hD : va_D A (wW cI cZ cJ ho h hm fN0 gN0 fM0 gM0)) (hS : va_S A s.heap H locs) (hl : lv_has ls 7 [(0, .ref b), (1, .ref (h 0)), (2, .ref (hm 0)), (3, .ref ho), (4, .int i)]) (hf : cells + 1 ≤ room_1.cells ∧ slots + 6 ≤ room_1.slots) (hc0 : (8 : Int) ≤ (xs (i + 1).toNatClampNeg).toInt ∧ (xs (i + 1).toNatClampNeg).toInt ≤ (8 : Int)) (hc1 : (20001 : Int) ≤ (xs (i + 2).toNatClampNeg).toInt ∧ (xs (i + 2).toNatClampNeg).toInt ≤ (2147483647 : Int)) (kk : ∀ (H1 : Heap) (locs1 : List Loc) (ls1 : Array Slot), va_S A s.heap H1 locs1 → lv_has ls1 7 [(0, .ref b), (1, .ref (h 0)), (2, .ref (hm 0)), (3, .ref ho), (4, .int i)] → W p l e room_1 s m args below meth c H1 locs1 (cells + 1) (slots + 6) Q (F0 m 840 ls1 [])) : W p l e room_1 s m args below meth c H locs cells slots Q (F0 m 128 ls []) := by
  refine lv_aload_n C.1.1 C.1.2.1 dl_128 rfl (lv_at hl 1 rfl) ?_
  refine lv_aload_n C.1.1 C.1.2.1 dl_129 rfl (lv_at hl 0 rfl) ?_
  refine lv_iload C.1.1 C.1.2.1 dl_130 (lv_at hl 4 rfl) ?_
  refine lv_iconst (v := 1) C.1.1 C.1.2.1 dl_132 (by decide) ?_
  refine lv_iadd C.1.1 C.1.2.1 dl_133 ?_
  refine va_sld C.1.1 C.1.2.1 hX hbl hbA hS i1 dl_134 ?_
  refine lv_aload_n C.1.1 C.1.2.1 dl_135 rfl (lv_at hl 0 rfl) ?_
  refine lv_iload C.1.1 C.1.2.1 dl_136 (lv_at hl 4 rfl) ?_
  refine lv_iconst (v := 2) C.1.1 C.1.2.1 dl_138 (by decide) ?_
  refine lv_iadd C.1.1 C.1.2.1 dl_139 ?_
  refine va_sld C.1.1 C.1.2.1 hX hbl hbA hS i2 dl_140 ?_
  refine lw_goS (n := 3) C (ww_prescribe (post := ck_poF fbFB gbFB h fN0 q_fc66.2) (px := ck_pxF fbFB gbFB fN0 q_fc66.2) (fun sz => x_fc66 hfl fN0 gN0 sz [.ref (h 0), .int (xs (i + 1).toNatClampNeg), .int (xs (i + 2).toNatClampNeg)] gI_B (List.forall_mem_cons.mpr ⟨⟨by decide, by decide⟩, List.forall_mem_cons.mpr ⟨⟨by decide, by decide⟩, List.forall_mem_cons.mpr ⟨⟨by decide, by decide⟩, fun _ h => absurd h List.not_mem_nil⟩⟩⟩) (⟨Or.inr ⟨0, List.mem_cons_self, rfl⟩, ⟨⟨_, rfl, hc0⟩, ⟨⟨_, rfl, hc1⟩, trivial⟩⟩⟩)) ⟨rfl, rfl, by decide, by decide⟩ (ck_noIF (by decide)) (ck_ex2F (by decide))) kw_379 kw_380 kw_0 kw_381 (by decide +kernel) rfl rfl ⟨Nat.le_of_ble_eq_true rfl, Nat.le_of_ble_eq_true rfl⟩ hP hD hS rfl hl.1 rfl dl_141 hf (fun r f1 g1 H1 locs1 hq hP hD hS => ?_)
  obtain rfl := ck_anS (n := 2) (v := 0) (show q_fc66.2.all (ck_an "java/lang/IllegalStateException" "java/lang/IllegalArgumentException" 2 0) = true by decide) (by decide) hq
  show W p l e room_1 s m args below meth c H1 locs1 (cells + 1) (slots + 6) Q (F0 m 144 ls [.int (Int32.ofNat 2)])
  refine lv_istore (lv' := [(5, .int (Int32.ofNat 2)), (0, .ref b), (1, .ref (h 0)), (2, .ref (hm 0)), (3, .ref ho), (4, .int i)]) C.1.1 C.1.2.1 dl_144 hl (by decide) rfl (fun ls hl => ?_)
  refine lv_aload_n C.1.1 C.1.2.1 dl_146 rfl (lv_at hl 3 rfl) ?_
  refine lv_aload_n C.1.1 C.1.2.1 dl_147 rfl (lv_at hl 1 rfl) ?_
  refine lv_iload C.1.1 C.1.2.1 dl_148 (lv_at hl 5 rfl) ?_
  refine lv_iconst (v := 1) C.1.1 C.1.2.1 dl_150 (by decide) ?_
  refine lv_iadd C.1.1 C.1.2.1 dl_151 ?_
  refine va_sld C.1.1 C.1.2.1 hX hbl hbA hS i1 dl_152 ?_
  refine lv_aload_n C.1.1 C.1.2.1 dl_153 rfl (lv_at hl 1 rfl) ?_
  refine lv_iload C.1.1 C.1.2.1 dl_154 (lv_at hl 5 rfl) ?_
  refine lv_iconst (v := 2) C.1.1 C.1.2.1 dl_156 (by decide) ?_
  refine lv_iadd C.1.1 C.1.2.1 dl_157 ?_
  refine va_sld C.1.1 C.1.2.1 hX hbl hbA hS i2 dl_158 ?_
  refine lm_goR (h := h) (hm := hm) (As := [.int (xs (i + 1).toNatClampNeg), .int (xs (i + 2).toNatClampNeg)]) (rest := []) C (c_fn31 xL_ok) (cwV 2 C.1.2.2.2.2 (kk_gV kw_857 kw_858 kw_859 kw_9 kw_860) rfl rfl rfl (by decide +kernel) ⟨Nat.le_of_ble_eq_true rfl, Nat.le_of_ble_eq_true rfl⟩) gI_FN (List.forall_mem_cons.mpr ⟨⟨by decide, by decide⟩, List.forall_mem_cons.mpr ⟨⟨by decide, by decide⟩, List.forall_mem_cons.mpr ⟨⟨by decide, by decide⟩, List.forall_mem_cons.mpr ⟨⟨by decide, by decide⟩, fun _ h => absurd h List.not_mem_nil⟩⟩⟩⟩) (⟨Or.inr ⟨0, List.mem_cons_self, rfl⟩, ⟨⟨_, rfl, hc0⟩, ⟨⟨_, rfl, hc1⟩, trivial⟩⟩⟩) hP hD hS rfl hl.1 rfl (Nat.le_of_ble_eq_true rfl) dl_159 hf (fun r f2 g2 H2 locs2 hq2 hJ2 hP hD hS => ?_)
  obtain ⟨o2, ho2, hr2, hT2⟩ := hq2
  have h8 := List.all_eq_true.mp (show q_fn31.2.all (fun o => ck_isV o && ck_val 0 2 o) = true by decide) o2 ho2
  simp only [Bool.and_eq_true] at h8
  obtain rfl := ck_isV_ok h8.1 hr2
  show W p l e room_1 s m args below meth c H2 locs2 (cells + 1) (slots + 6) Q (F0 m 162 ls [])
  have hc9 := ck_val_ok h8.2 hT2
  refine lv_aload_n C.1.1 C.1.2.1 dl_162 rfl (lv_at hl 3 rfl) ?_
  refine lm_goR (h := h) (hm := hm) (As := []) (rest := []) C (c_fn2 xL_ok) (cwV 0 C.1.2.2.2.2 (kk_gV kw_853 kw_854 kw_855 kw_9 kw_856) rfl rfl rfl (by decide +kernel) ⟨Nat.le_of_ble_eq_true rfl, Nat.le_of_ble_eq_true rfl⟩) hJ2 (List.forall_mem_cons.mpr ⟨⟨by show (2 : Int) ≤ (f2 0).toInt; omega, by show (f2 0).toInt ≤ (2 : Int); omega⟩, List.forall_mem_cons.mpr ⟨ck_in_top _, List.forall_mem_cons.mpr ⟨ck_in_top _, List.forall_mem_cons.mpr ⟨ck_in_top _, fun _ h => absurd h List.not_mem_nil⟩⟩⟩⟩) ⟨Or.inr ⟨0, List.mem_cons_self, rfl⟩, trivial⟩ hP hD hS rfl hl.1 rfl (Nat.le_of_ble_eq_true rfl) dl_163 hf (fun r f3 g3 H3 locs3 hq3 hJ3 hP hD hS => ?_)
  obtain ⟨o3, ho3, hr3, hT3⟩ := hq3
  obtain ⟨x3, rfl, hx3⟩ := ck_isN_ok (List.all_eq_true.mp (show q_fn2.2.all (ck_isN 2) = true by decide) o3 ho3) hr3
  show W p l e room_1 s m args below meth c H3 locs3 (cells + 1) (slots + 6) Q (F0 m 166 ls [.int x3])
  refine lv_iload C.1.1 C.1.2.1 dl_166 (lv_at hl 0 rfl) ?_
  refine lv_icmp_eq (tgt := 173) C.1.1 C.1.2.1 dl_168 (by decide) (fun _ => ?_) (fun hne => absurd (Int32.toInt_inj.mp (by rw [hx3]; rfl)) hne)
  refine lv_goto (tgt := 840) C.1.1 C.1.2.1 dl_173 (by decide) ?_
  exact kk H3 locs3 _ hS (lv_sub hl [1, 2, 3, 4, 5] rfl)
theorem lo_0_fc68 {p : Program} {l : Launch} {e : Env} {s : State} {m : MethodId} {args : Array Value} {below : List Frame} {meth : Method} {c : Code} {H : Heap} {locs : List Loc} {cells slots : Nat} {Q : State → Prop} {D : va_G} {B : Nat} {A : Nat → Prop} {h hm : Nat → Nat} {cI cZ cJ : ClassId} {ho : Nat} {ls : Array Slot} {b L : Nat} {xs : Nat → Int32} {i : Int32} {cx : Cond} (hfl : l.flags = flags0) (C : zz_Cx p m meth c code 7 ret s args (cx :: kk_W) "NightCyclerLaw" D vN (tyN cI cZ cJ) A B (xL B h)) (hX : va_X b L xs s s.heap) (hbl : b < s.heap.size) (hbA : ¬ A b) (i1 : vp_in (i + 1) L) (i2 : vp_in (i + 2) L) (hP : va_P D vN (wW cI cZ cJ ho h hm fN0 gN0 fM0 gM0) H) (hD : va_D A (wW cI cZ cJ ho h hm fN0 gN0 fM0 gM0)) (hS : va_S A s.heap H locs) (hl : lv_has ls 7 [(0, .ref b), (1, .ref (h 0)), (2, .ref (hm 0)), (3, .ref ho), (4, .int i)]) (hf : cells + 1 ≤ room_1.cells ∧ slots + 6 ≤ room_1.slots) (hc0 : (9 : Int) ≤ (xs (i + 1).toNatClampNeg).toInt ∧ (xs (i + 1).toNatClampNeg).toInt ≤ (2147483647 : Int)) (kk : ∀ (H1 : Heap) (locs1 : List Loc) (ls1 : Array Slot), va_S A s.heap H1 locs1 → lv_has ls1 7 [(0, .ref b), (1, .ref (h 0)), (2, .ref (hm 0)), (3, .ref ho), (4, .int i)] → W p l e room_1 s m args below meth c H1 locs1 (cells + 1) (slots + 6) Q (F0 m 840 ls1 [])) : W p l e room_1 s m args below meth c H locs cells slots Q (F0 m 128 ls []) := by
  refine lv_aload_n C.1.1 C.1.2.1 dl_128 rfl (lv_at hl 1 rfl) ?_
  refine lv_aload_n C.1.1 C.1.2.1 dl_129 rfl (lv_at hl 0 rfl) ?_
  refine lv_iload C.1.1 C.1.2.1 dl_130 (lv_at hl 4 rfl) ?_
  refine lv_iconst (v := 1) C.1.1 C.1.2.1 dl_132 (by decide) ?_
  refine lv_iadd C.1.1 C.1.2.1 dl_133 ?_
  refine va_sld C.1.1 C.1.2.1 hX hbl hbA hS i1 dl_134 ?_
  refine lv_aload_n C.1.1 C.1.2.1 dl_135 rfl (lv_at hl 0 rfl) ?_
  refine lv_iload C.1.1 C.1.2.1 dl_136 (lv_at hl 4 rfl) ?_
  refine lv_iconst (v := 2) C.1.1 C.1.2.1 dl_138 (by decide) ?_
  refine lv_iadd C.1.1 C.1.2.1 dl_139 ?_
  refine va_sld C.1.1 C.1.2.1 hX hbl hbA hS i2 dl_140 ?_
  refine lw_goS (n := 3) C (ww_prescribe (post := ck_poF fbFB gbFB h fN0 q_fc68.2) (px := ck_pxF fbFB gbFB fN0 q_fc68.2) (fun sz => x_fc68 hfl fN0 gN0 sz [.ref (h 0), .int (xs (i + 1).toNatClampNeg), .int (xs (i + 2).toNatClampNeg)] gI_B (List.forall_mem_cons.mpr ⟨⟨by decide, by decide⟩, List.forall_mem_cons.mpr ⟨⟨by decide, by decide⟩, List.forall_mem_cons.mpr ⟨⟨by decide, by decide⟩, fun _ h => absurd h List.not_mem_nil⟩⟩⟩) (⟨Or.inr ⟨0, List.mem_cons_self, rfl⟩, ⟨⟨_, rfl, hc0⟩, ⟨⟨_, rfl, ck_in_top _⟩, trivial⟩⟩⟩)) ⟨rfl, rfl, by decide, by decide⟩ (ck_noIF (by decide)) (ck_ex2F (by decide))) kw_379 kw_380 kw_0 kw_381 (by decide +kernel) rfl rfl ⟨Nat.le_of_ble_eq_true rfl, Nat.le_of_ble_eq_true rfl⟩ hP hD hS rfl hl.1 rfl dl_141 hf (fun r f1 g1 H1 locs1 hq hP hD hS => ?_)
  obtain rfl := ck_anS (n := 2) (v := 0) (show q_fc68.2.all (ck_an "java/lang/IllegalStateException" "java/lang/IllegalArgumentException" 2 0) = true by decide) (by decide) hq
  show W p l e room_1 s m args below meth c H1 locs1 (cells + 1) (slots + 6) Q (F0 m 144 ls [.int (Int32.ofNat 2)])
  refine lv_istore (lv' := [(5, .int (Int32.ofNat 2)), (0, .ref b), (1, .ref (h 0)), (2, .ref (hm 0)), (3, .ref ho), (4, .int i)]) C.1.1 C.1.2.1 dl_144 hl (by decide) rfl (fun ls hl => ?_)
  refine lv_aload_n C.1.1 C.1.2.1 dl_146 rfl (lv_at hl 3 rfl) ?_
  refine lv_aload_n C.1.1 C.1.2.1 dl_147 rfl (lv_at hl 1 rfl) ?_
  refine lv_iload C.1.1 C.1.2.1 dl_148 (lv_at hl 5 rfl) ?_
  refine lv_iconst (v := 1) C.1.1 C.1.2.1 dl_150 (by decide) ?_
  refine lv_iadd C.1.1 C.1.2.1 dl_151 ?_
  refine va_sld C.1.1 C.1.2.1 hX hbl hbA hS i1 dl_152 ?_
  refine lv_aload_n C.1.1 C.1.2.1 dl_153 rfl (lv_at hl 1 rfl) ?_
  refine lv_iload C.1.1 C.1.2.1 dl_154 (lv_at hl 5 rfl) ?_
  refine lv_iconst (v := 2) C.1.1 C.1.2.1 dl_156 (by decide) ?_
  refine lv_iadd C.1.1 C.1.2.1 dl_157 ?_
  refine va_sld C.1.1 C.1.2.1 hX hbl hbA hS i2 dl_158 ?_
  refine lm_goR (h := h) (hm := hm) (As := [.int (xs (i + 1).toNatClampNeg), .int (xs (i + 2).toNatClampNeg)]) (rest := []) C (c_fn32 xL_ok) (cwV 2 C.1.2.2.2.2 (kk_gV kw_857 kw_858 kw_859 kw_9 kw_860) rfl rfl rfl (by decide +kernel) ⟨Nat.le_of_ble_eq_true rfl, Nat.le_of_ble_eq_true rfl⟩) gI_FN (List.forall_mem_cons.mpr ⟨⟨by decide, by decide⟩, List.forall_mem_cons.mpr ⟨⟨by decide, by decide⟩, List.forall_mem_cons.mpr ⟨⟨by decide, by decide⟩, List.forall_mem_cons.mpr ⟨⟨by decide, by decide⟩, fun _ h => absurd h List.not_mem_nil⟩⟩⟩⟩) (⟨Or.inr ⟨0, List.mem_cons_self, rfl⟩, ⟨⟨_, rfl, hc0⟩, ⟨⟨_, rfl, ck_in_top _⟩, trivial⟩⟩⟩) hP hD hS rfl hl.1 rfl (Nat.le_of_ble_eq_true rfl) dl_159 hf (fun r f2 g2 H2 locs2 hq2 hJ2 hP hD hS => ?_)
  obtain ⟨o2, ho2, hr2, hT2⟩ := hq2
  have h8 := List.all_eq_true.mp (show q_fn32.2.all (fun o => ck_isV o && ck_val 0 2 o) = true by decide) o2 ho2
  simp only [Bool.and_eq_true] at h8
  obtain rfl := ck_isV_ok h8.1 hr2
  show W p l e room_1 s m args below meth c H2 locs2 (cells + 1) (slots + 6) Q (F0 m 162 ls [])
  have hc9 := ck_val_ok h8.2 hT2
  refine lv_aload_n C.1.1 C.1.2.1 dl_162 rfl (lv_at hl 3 rfl) ?_
  refine lm_goR (h := h) (hm := hm) (As := []) (rest := []) C (c_fn2 xL_ok) (cwV 0 C.1.2.2.2.2 (kk_gV kw_853 kw_854 kw_855 kw_9 kw_856) rfl rfl rfl (by decide +kernel) ⟨Nat.le_of_ble_eq_true rfl, Nat.le_of_ble_eq_true rfl⟩) hJ2 (List.forall_mem_cons.mpr ⟨⟨by show (2 : Int) ≤ (f2 0).toInt; omega, by show (f2 0).toInt ≤ (2 : Int); omega⟩, List.forall_mem_cons.mpr ⟨ck_in_top _, List.forall_mem_cons.mpr ⟨ck_in_top _, List.forall_mem_cons.mpr ⟨ck_in_top _, fun _ h => absurd h List.not_mem_nil⟩⟩⟩⟩) ⟨Or.inr ⟨0, List.mem_cons_self, rfl⟩, trivial⟩ hP hD hS rfl hl.1 rfl (Nat.le_of_ble_eq_true rfl) dl_163 hf (fun r f3 g3 H3 locs3 hq3 hJ3 hP hD hS => ?_)
  obtain ⟨o3, ho3, hr3, hT3⟩ := hq3
  obtain ⟨x3, rfl, hx3⟩ := ck_isN_ok (List.all_eq_true.mp (show q_fn2.2.all (ck_isN 2) = true by decide) o3 ho3) hr3
  show W p l e room_1 s m args below meth c H3 locs3 (cells + 1) (slots + 6) Q (F0 m 166 ls [.int x3])
  refine lv_iload C.1.1 C.1.2.1 dl_166 (lv_at hl 0 rfl) ?_
  refine lv_icmp_eq (tgt := 173) C.1.1 C.1.2.1 dl_168 (by decide) (fun _ => ?_) (fun hne => absurd (Int32.toInt_inj.mp (by rw [hx3]; rfl)) hne)
  refine lv_goto (tgt := 840) C.1.1 C.1.2.1 dl_173 (by decide) ?_
  exact kk H3 locs3 _ hS (lv_sub hl [1, 2, 3, 4, 5] rfl)
theorem lo_0 {p : Program} {l : Launch} {e : Env} {s : State} {m : MethodId} {args : Array Value} {below : List Frame} {meth : Method} {c : Code} {H : Heap} {locs : List Loc} {cells slots : Nat} {Q : State → Prop} {D : va_G} {B : Nat} {A : Nat → Prop} {h hm : Nat → Nat} {cI cZ cJ : ClassId} {ho : Nat} {ls : Array Slot} {b L : Nat} {xs : Nat → Int32} {i : Int32} {cx : Cond} (hfl : l.flags = flags0) (C : zz_Cx p m meth c code 7 ret s args (cx :: kk_W) "NightCyclerLaw" D vN (tyN cI cZ cJ) A B (xL B h)) (hX : va_X b L xs s s.heap) (hbl : b < s.heap.size) (hbA : ¬ A b) (i1 : vp_in (i + 1) L) (i2 : vp_in (i + 2) L) (hP : va_P D vN (wW cI cZ cJ ho h hm fN0 gN0 fM0 gM0) H) (hD : va_D A (wW cI cZ cJ ho h hm fN0 gN0 fM0 gM0)) (hS : va_S A s.heap H locs) (hl : lv_has ls 7 [(0, .ref b), (1, .ref (h 0)), (2, .ref (hm 0)), (3, .ref ho), (4, .int i)]) (hf : cells + 1 ≤ room_1.cells ∧ slots + 6 ≤ room_1.slots) (kk : ∀ (H1 : Heap) (locs1 : List Loc) (ls1 : Array Slot), va_S A s.heap H1 locs1 → lv_has ls1 7 [(0, .ref b), (1, .ref (h 0)), (2, .ref (hm 0)), (3, .ref ho), (4, .int i)] → W p l e room_1 s m args below meth c H1 locs1 (cells + 1) (slots + 6) Q (F0 m 840 ls1 [])) : W p l e room_1 s m args below meth c H locs cells slots Q (F0 m 128 ls []) := by
  have hlo0 := i32_lo (xs (i + 1).toNatClampNeg)
  have hhi0 := i32_hi (xs (i + 1).toNatClampNeg)
  have hlo1 := i32_lo (xs (i + 2).toNatClampNeg)
  have hhi1 := i32_hi (xs (i + 2).toNatClampNeg)
  rcases (show ((-2147483648 : Int) ≤ (xs (i + 1).toNatClampNeg).toInt ∧ (xs (i + 1).toNatClampNeg).toInt ≤ (-1 : Int)) ∨ ((0 : Int) ≤ (xs (i + 1).toNatClampNeg).toInt ∧ (xs (i + 1).toNatClampNeg).toInt ≤ (0 : Int)) ∨ ((1 : Int) ≤ (xs (i + 1).toNatClampNeg).toInt ∧ (xs (i + 1).toNatClampNeg).toInt ≤ (1 : Int)) ∨ ((2 : Int) ≤ (xs (i + 1).toNatClampNeg).toInt ∧ (xs (i + 1).toNatClampNeg).toInt ≤ (2 : Int)) ∨ ((3 : Int) ≤ (xs (i + 1).toNatClampNeg).toInt ∧ (xs (i + 1).toNatClampNeg).toInt ≤ (3 : Int)) ∨ ((4 : Int) ≤ (xs (i + 1).toNatClampNeg).toInt ∧ (xs (i + 1).toNatClampNeg).toInt ≤ (4 : Int)) ∨ ((5 : Int) ≤ (xs (i + 1).toNatClampNeg).toInt ∧ (xs (i + 1).toNatClampNeg).toInt ≤ (5 : Int)) ∨ ((6 : Int) ≤ (xs (i + 1).toNatClampNeg).toInt ∧ (xs (i + 1).toNatClampNeg).toInt ≤ (6 : Int)) ∨ ((7 : Int) ≤ (xs (i + 1).toNatClampNeg).toInt ∧ (xs (i + 1).toNatClampNeg).toInt ≤ (7 : Int)) ∨ ((8 : Int) ≤ (xs (i + 1).toNatClampNeg).toInt ∧ (xs (i + 1).toNatClampNeg).toInt ≤ (8 : Int)) ∨ ((9 : Int) ≤ (xs (i + 1).toNatClampNeg).toInt ∧ (xs (i + 1).toNatClampNeg).toInt ≤ (2147483647 : Int)) by clear hlo1 hhi1; omega) with hc0 | hc0 | hc0 | hc0 | hc0 | hc0 | hc0 | hc0 | hc0 | hc0 | hc0
  · exact lo_0_fc3 hfl C hX hbl hbA i1 i2 hP hD hS hl hf hc0 kk
  · clear hlo0 hhi0
    rcases (show ((-2147483648 : Int) ≤ (xs (i + 2).toNatClampNeg).toInt ∧ (xs (i + 2).toNatClampNeg).toInt ≤ (0 : Int)) ∨ ((1 : Int) ≤ (xs (i + 2).toNatClampNeg).toInt ∧ (xs (i + 2).toNatClampNeg).toInt ≤ (12 : Int)) ∨ ((13 : Int) ≤ (xs (i + 2).toNatClampNeg).toInt ∧ (xs (i + 2).toNatClampNeg).toInt ≤ (2147483647 : Int)) by clear hc0; omega) with hc1 | hc1 | hc1
    · exact lo_0_fc5 hfl C hX hbl hbA i1 i2 hP hD hS hl hf hc0 hc1 kk
    · exact lo_0_fc8 hfl C hX hbl hbA i1 i2 hP hD hS hl hf hc0 hc1 kk
    · exact lo_0_fc10 hfl C hX hbl hbA i1 i2 hP hD hS hl hf hc0 hc1 kk
  · clear hlo0 hhi0
    rcases (show ((-2147483648 : Int) ≤ (xs (i + 2).toNatClampNeg).toInt ∧ (xs (i + 2).toNatClampNeg).toInt ≤ (499 : Int)) ∨ ((500 : Int) ≤ (xs (i + 2).toNatClampNeg).toInt ∧ (xs (i + 2).toNatClampNeg).toInt ≤ (30000 : Int)) ∨ ((30001 : Int) ≤ (xs (i + 2).toNatClampNeg).toInt ∧ (xs (i + 2).toNatClampNeg).toInt ≤ (2147483647 : Int)) by clear hc0; omega) with hc1 | hc1 | hc1
    · exact lo_0_fc12 hfl C hX hbl hbA i1 i2 hP hD hS hl hf hc0 hc1 kk
    · exact lo_0_fc15 hfl C hX hbl hbA i1 i2 hP hD hS hl hf hc0 hc1 kk
    · exact lo_0_fc17 hfl C hX hbl hbA i1 i2 hP hD hS hl hf hc0 hc1 kk
  · clear hlo0 hhi0
    rcases (show ((-2147483648 : Int) ≤ (xs (i + 2).toNatClampNeg).toInt ∧ (xs (i + 2).toNatClampNeg).toInt ≤ (0 : Int)) ∨ ((1 : Int) ≤ (xs (i + 2).toNatClampNeg).toInt ∧ (xs (i + 2).toNatClampNeg).toInt ≤ (240 : Int)) ∨ ((241 : Int) ≤ (xs (i + 2).toNatClampNeg).toInt ∧ (xs (i + 2).toNatClampNeg).toInt ≤ (2147483647 : Int)) by clear hc0; omega) with hc1 | hc1 | hc1
    · exact lo_0_fc19 hfl C hX hbl hbA i1 i2 hP hD hS hl hf hc0 hc1 kk
    · exact lo_0_fc22 hfl C hX hbl hbA i1 i2 hP hD hS hl hf hc0 hc1 kk
    · exact lo_0_fc24 hfl C hX hbl hbA i1 i2 hP hD hS hl hf hc0 hc1 kk
  · clear hlo0 hhi0
    rcases (show ((-2147483648 : Int) ≤ (xs (i + 2).toNatClampNeg).toInt ∧ (xs (i + 2).toNatClampNeg).toInt ≤ (-1 : Int)) ∨ ((0 : Int) ≤ (xs (i + 2).toNatClampNeg).toInt ∧ (xs (i + 2).toNatClampNeg).toInt ≤ (30000 : Int)) ∨ ((30001 : Int) ≤ (xs (i + 2).toNatClampNeg).toInt ∧ (xs (i + 2).toNatClampNeg).toInt ≤ (2147483647 : Int)) by clear hc0; omega) with hc1 | hc1 | hc1
    · exact lo_0_fc26 hfl C hX hbl hbA i1 i2 hP hD hS hl hf hc0 hc1 kk
    · exact lo_0_fc29 hfl C hX hbl hbA i1 i2 hP hD hS hl hf hc0 hc1 kk
    · exact lo_0_fc31 hfl C hX hbl hbA i1 i2 hP hD hS hl hf hc0 hc1 kk
  · clear hlo0 hhi0
    rcases (show ((-2147483648 : Int) ≤ (xs (i + 2).toNatClampNeg).toInt ∧ (xs (i + 2).toNatClampNeg).toInt ≤ (49 : Int)) ∨ ((50 : Int) ≤ (xs (i + 2).toNatClampNeg).toInt ∧ (xs (i + 2).toNatClampNeg).toInt ≤ (100 : Int)) ∨ ((101 : Int) ≤ (xs (i + 2).toNatClampNeg).toInt ∧ (xs (i + 2).toNatClampNeg).toInt ≤ (2147483647 : Int)) by clear hc0; omega) with hc1 | hc1 | hc1
    · exact lo_0_fc33 hfl C hX hbl hbA i1 i2 hP hD hS hl hf hc0 hc1 kk
    · exact lo_0_fc36 hfl C hX hbl hbA i1 i2 hP hD hS hl hf hc0 hc1 kk
    · exact lo_0_fc38 hfl C hX hbl hbA i1 i2 hP hD hS hl hf hc0 hc1 kk
  · clear hlo0 hhi0
    rcases (show ((-2147483648 : Int) ≤ (xs (i + 2).toNatClampNeg).toInt ∧ (xs (i + 2).toNatClampNeg).toInt ≤ (999 : Int)) ∨ ((1000 : Int) ≤ (xs (i + 2).toNatClampNeg).toInt ∧ (xs (i + 2).toNatClampNeg).toInt ≤ (40000 : Int)) ∨ ((40001 : Int) ≤ (xs (i + 2).toNatClampNeg).toInt ∧ (xs (i + 2).toNatClampNeg).toInt ≤ (2147483647 : Int)) by clear hc0; omega) with hc1 | hc1 | hc1
    · exact lo_0_fc40 hfl C hX hbl hbA i1 i2 hP hD hS hl hf hc0 hc1 kk
    · exact lo_0_fc43 hfl C hX hbl hbA i1 i2 hP hD hS hl hf hc0 hc1 kk
    · exact lo_0_fc45 hfl C hX hbl hbA i1 i2 hP hD hS hl hf hc0 hc1 kk
  · clear hlo0 hhi0
    rcases (show ((-2147483648 : Int) ≤ (xs (i + 2).toNatClampNeg).toInt ∧ (xs (i + 2).toNatClampNeg).toInt ≤ (0 : Int)) ∨ ((1 : Int) ≤ (xs (i + 2).toNatClampNeg).toInt ∧ (xs (i + 2).toNatClampNeg).toInt ≤ (900 : Int)) ∨ ((901 : Int) ≤ (xs (i + 2).toNatClampNeg).toInt ∧ (xs (i + 2).toNatClampNeg).toInt ≤ (2147483647 : Int)) by clear hc0; omega) with hc1 | hc1 | hc1
    · exact lo_0_fc47 hfl C hX hbl hbA i1 i2 hP hD hS hl hf hc0 hc1 kk
    · exact lo_0_fc50 hfl C hX hbl hbA i1 i2 hP hD hS hl hf hc0 hc1 kk
    · exact lo_0_fc52 hfl C hX hbl hbA i1 i2 hP hD hS hl hf hc0 hc1 kk
  · clear hlo0 hhi0
    rcases (show ((-2147483648 : Int) ≤ (xs (i + 2).toNatClampNeg).toInt ∧ (xs (i + 2).toNatClampNeg).toInt ≤ (2999 : Int)) ∨ ((3000 : Int) ≤ (xs (i + 2).toNatClampNeg).toInt ∧ (xs (i + 2).toNatClampNeg).toInt ≤ (3900 : Int)) ∨ ((3901 : Int) ≤ (xs (i + 2).toNatClampNeg).toInt ∧ (xs (i + 2).toNatClampNeg).toInt ≤ (2147483647 : Int)) by clear hc0; omega) with hc1 | hc1 | hc1
    · exact lo_0_fc54 hfl C hX hbl hbA i1 i2 hP hD hS hl hf hc0 hc1 kk
    · exact lo_0_fc57 hfl C hX hbl hbA i1 i2 hP hD hS hl hf hc0 hc1 kk
    · exact lo_0_fc59 hfl C hX hbl hbA i1 i2 hP hD hS hl hf hc0 hc1 kk
  · clear hlo0 hhi0
    rcases (show ((-2147483648 : Int) ≤ (xs (i + 2).toNatClampNeg).toInt ∧ (xs (i + 2).toNatClampNeg).toInt ≤ (-1 : Int)) ∨ ((0 : Int) ≤ (xs (i + 2).toNatClampNeg).toInt ∧ (xs (i + 2).toNatClampNeg).toInt ≤ (20000 : Int)) ∨ ((20001 : Int) ≤ (xs (i + 2).toNatClampNeg).toInt ∧ (xs (i + 2).toNatClampNeg).toInt ≤ (2147483647 : Int)) by clear hc0; omega) with hc1 | hc1 | hc1
    · exact lo_0_fc61 hfl C hX hbl hbA i1 i2 hP hD hS hl hf hc0 hc1 kk
    · exact lo_0_fc64 hfl C hX hbl hbA i1 i2 hP hD hS hl hf hc0 hc1 kk
    · exact lo_0_fc66 hfl C hX hbl hbA i1 i2 hP hD hS hl hf hc0 hc1 kk
  · exact lo_0_fc68 hfl C hX hbl hbA i1 i2 hP hD hS hl hf hc0 kk
theorem lo_1_fa26 {p : Program} {l : Launch} {e : Env} {s : State} {m : MethodId} {args : Array Value} {below : List Frame} {meth : Method} {c : Code} {H : Heap} {locs : List Loc} {cells slots : Nat} {Q : State → Prop} {D : va_G} {B : Nat} {A : Nat → Prop} {h hm : Nat → Nat} {cI cZ cJ : ClassId} {ho : Nat} {ls : Array Slot} {b L : Nat} {xs : Nat → Int32} {i : Int32} {cx : Cond} (hfl : l.flags = flags0) (C : zz_Cx p m meth c code 7 ret s args (cx :: kk_W) "NightCyclerLaw" D vN (tyN cI cZ cJ) A B (xL B h)) (hX : va_X b L xs s s.heap) (hbl : b < s.heap.size) (hbA : ¬ A b) (i1 : vp_in (i + 1) L) (i2 : vp_in (i + 2) L) (hP : va_P D vN (wW cI cZ cJ ho h hm fN0 gN0 fM0 gM0) H) (hD : va_D A (wW cI cZ cJ ho h hm fN0 gN0 fM0 gM0)) (hS : va_S A s.heap H locs) (hl : lv_has ls 7 [(0, .ref b), (1, .ref (h 0)), (2, .ref (hm 0)), (3, .ref ho), (4, .int i)]) (hf : cells + 1 ≤ room_1.cells ∧ slots + 6 ≤ room_1.slots)  (kk : ∀ (H1 : Heap) (locs1 : List Loc) (ls1 : Array Slot), va_S A s.heap H1 locs1 → lv_has ls1 7 [(0, .ref b), (1, .ref (h 0)), (2, .ref (hm 0)), (3, .ref ho), (4, .int i)] → W p l e room_1 s m args below meth c H1 locs1 (cells + 1) (slots + 6) Q (F0 m 840 ls1 [])) : W p l e room_1 s m args below meth c H locs cells slots Q (F0 m 176 ls []) := by
  refine lv_aload_n C.1.1 C.1.2.1 dl_176 rfl (lv_at hl 1 rfl) ?_
  refine lw_goS (n := 1) C (ww_start (a0 := 0) (post := ck_poF fbFA gbFA h fN0 q_fa26.2) (px := ck_pxF fbFA gbFA fN0 q_fa26.2) (fun sz => x_fa26 hfl fN0 gN0 sz [.ref (h 0)] gI_A (List.forall_mem_cons.mpr ⟨⟨by decide, by decide⟩, List.forall_mem_cons.mpr ⟨⟨by decide, by decide⟩, List.forall_mem_cons.mpr ⟨⟨by decide, by decide⟩, fun _ h => absurd h List.not_mem_nil⟩⟩⟩) (⟨Or.inr ⟨0, List.mem_cons_self, rfl⟩, trivial⟩)) ⟨rfl, rfl, by decide, by decide⟩ (ck_noIF (by decide)) (ck_ex2F (by decide))) kw_487 kw_488 kw_0 kw_489 (by decide +kernel) rfl rfl ⟨Nat.le_of_ble_eq_true rfl, Nat.le_of_ble_eq_true rfl⟩ hP hD hS rfl hl.1 rfl dl_177 hf (fun r f1 g1 H1 locs1 hq hP hD hS => ?_)
  obtain rfl := ck_anS (n := 0) (v := 0) (show q_fa26.2.all (ck_an "java/lang/IllegalStateException" "java/lang/UnsupportedOperationException" 0 0) = true by decide) (by decide) hq
  show W p l e room_1 s m args below meth c H1 locs1 (cells + 1) (slots + 6) Q (F0 m 180 ls [.int (Int32.ofNat 0)])
  refine lv_istore (lv' := [(5, .int (Int32.ofNat 0)), (0, .ref b), (1, .ref (h 0)), (2, .ref (hm 0)), (3, .ref ho), (4, .int i)]) C.1.1 C.1.2.1 dl_180 hl (by decide) rfl (fun ls hl => ?_)
  refine lv_aload_n C.1.1 C.1.2.1 dl_182 rfl (lv_at hl 3 rfl) ?_
  refine lm_goR (h := h) (hm := hm) (As := []) (rest := []) C (c_fm18 xL_ok) (cwV 0 C.1.2.2.2.2 (kk_gV kw_865 kw_866 kw_867 kw_9 kw_868) rfl rfl rfl (by decide +kernel) ⟨Nat.le_of_ble_eq_true rfl, Nat.le_of_ble_eq_true rfl⟩) gI_FM (List.forall_mem_cons.mpr ⟨⟨by decide, by decide⟩, List.forall_mem_cons.mpr ⟨⟨by decide, by decide⟩, List.forall_mem_cons.mpr ⟨⟨by decide, by decide⟩, List.forall_mem_cons.mpr ⟨⟨by decide, by decide⟩, fun _ h => absurd h List.not_mem_nil⟩⟩⟩⟩) (⟨Or.inr ⟨0, List.mem_cons_self, rfl⟩, trivial⟩) hP hD hS rfl hl.1 rfl (Nat.le_of_ble_eq_true rfl) dl_183 hf (fun r f2 g2 H2 locs2 hq2 hJ2 hP hD hS => ?_)
  obtain ⟨o2, ho2, hr2, hT2⟩ := hq2
  have h8 := List.all_eq_true.mp (show q_fm18.2.all (fun o => ck_isV o && ck_val 0 0 o) = true by decide) o2 ho2
  simp only [Bool.and_eq_true] at h8
  obtain rfl := ck_isV_ok h8.1 hr2
  show W p l e room_1 s m args below meth c H2 locs2 (cells + 1) (slots + 6) Q (F0 m 186 ls [])
  have hc9 := ck_val_ok h8.2 hT2
  refine lv_aload_n C.1.1 C.1.2.1 dl_186 rfl (lv_at hl 3 rfl) ?_
  refine lm_goR (h := h) (hm := hm) (As := []) (rest := []) C (c_fm0 xL_ok) (cwV 0 C.1.2.2.2.2 (kk_gV kw_853 kw_854 kw_855 kw_9 kw_856) rfl rfl rfl (by decide +kernel) ⟨Nat.le_of_ble_eq_true rfl, Nat.le_of_ble_eq_true rfl⟩) hJ2 (List.forall_mem_cons.mpr ⟨⟨by show (0 : Int) ≤ (f2 0).toInt; omega, by show (f2 0).toInt ≤ (0 : Int); omega⟩, List.forall_mem_cons.mpr ⟨ck_in_top _, List.forall_mem_cons.mpr ⟨ck_in_top _, List.forall_mem_cons.mpr ⟨ck_in_top _, fun _ h => absurd h List.not_mem_nil⟩⟩⟩⟩) ⟨Or.inr ⟨0, List.mem_cons_self, rfl⟩, trivial⟩ hP hD hS rfl hl.1 rfl (Nat.le_of_ble_eq_true rfl) dl_187 hf (fun r f3 g3 H3 locs3 hq3 hJ3 hP hD hS => ?_)
  obtain ⟨o3, ho3, hr3, hT3⟩ := hq3
  obtain ⟨x3, rfl, hx3⟩ := ck_isN_ok (List.all_eq_true.mp (show q_fm0.2.all (ck_isN 0) = true by decide) o3 ho3) hr3
  show W p l e room_1 s m args below meth c H3 locs3 (cells + 1) (slots + 6) Q (F0 m 190 ls [.int x3])
  refine lv_iload C.1.1 C.1.2.1 dl_190 (lv_at hl 0 rfl) ?_
  refine lv_icmp_eq (tgt := 197) C.1.1 C.1.2.1 dl_192 (by decide) (fun _ => ?_) (fun hne => absurd (Int32.toInt_inj.mp (by rw [hx3]; rfl)) hne)
  refine lv_goto (tgt := 840) C.1.1 C.1.2.1 dl_197 (by decide) ?_
  exact kk H3 locs3 _ hS (lv_sub hl [1, 2, 3, 4, 5] rfl)
theorem lo_1 {p : Program} {l : Launch} {e : Env} {s : State} {m : MethodId} {args : Array Value} {below : List Frame} {meth : Method} {c : Code} {H : Heap} {locs : List Loc} {cells slots : Nat} {Q : State → Prop} {D : va_G} {B : Nat} {A : Nat → Prop} {h hm : Nat → Nat} {cI cZ cJ : ClassId} {ho : Nat} {ls : Array Slot} {b L : Nat} {xs : Nat → Int32} {i : Int32} {cx : Cond} (hfl : l.flags = flags0) (C : zz_Cx p m meth c code 7 ret s args (cx :: kk_W) "NightCyclerLaw" D vN (tyN cI cZ cJ) A B (xL B h)) (hX : va_X b L xs s s.heap) (hbl : b < s.heap.size) (hbA : ¬ A b) (i1 : vp_in (i + 1) L) (i2 : vp_in (i + 2) L) (hP : va_P D vN (wW cI cZ cJ ho h hm fN0 gN0 fM0 gM0) H) (hD : va_D A (wW cI cZ cJ ho h hm fN0 gN0 fM0 gM0)) (hS : va_S A s.heap H locs) (hl : lv_has ls 7 [(0, .ref b), (1, .ref (h 0)), (2, .ref (hm 0)), (3, .ref ho), (4, .int i)]) (hf : cells + 1 ≤ room_1.cells ∧ slots + 6 ≤ room_1.slots) (kk : ∀ (H1 : Heap) (locs1 : List Loc) (ls1 : Array Slot), va_S A s.heap H1 locs1 → lv_has ls1 7 [(0, .ref b), (1, .ref (h 0)), (2, .ref (hm 0)), (3, .ref ho), (4, .int i)] → W p l e room_1 s m args below meth c H1 locs1 (cells + 1) (slots + 6) Q (F0 m 840 ls1 [])) : W p l e room_1 s m args below meth c H locs cells slots Q (F0 m 176 ls []) := by
  exact lo_1_fa26 hfl C hX hbl hbA i1 i2 hP hD hS hl hf kk
theorem lo_2_fa27 {p : Program} {l : Launch} {e : Env} {s : State} {m : MethodId} {args : Array Value} {below : List Frame} {meth : Method} {c : Code} {H : Heap} {locs : List Loc} {cells slots : Nat} {Q : State → Prop} {D : va_G} {B : Nat} {A : Nat → Prop} {h hm : Nat → Nat} {cI cZ cJ : ClassId} {ho : Nat} {ls : Array Slot} {b L : Nat} {xs : Nat → Int32} {i : Int32} {cx : Cond} (hfl : l.flags = flags0) (C : zz_Cx p m meth c code 7 ret s args (cx :: kk_W) "NightCyclerLaw" D vN (tyN cI cZ cJ) A B (xL B h)) (hX : va_X b L xs s s.heap) (hbl : b < s.heap.size) (hbA : ¬ A b) (i1 : vp_in (i + 1) L) (i2 : vp_in (i + 2) L) (hP : va_P D vN (wW cI cZ cJ ho h hm fN0 gN0 fM0 gM0) H) (hD : va_D A (wW cI cZ cJ ho h hm fN0 gN0 fM0 gM0)) (hS : va_S A s.heap H locs) (hl : lv_has ls 7 [(0, .ref b), (1, .ref (h 0)), (2, .ref (hm 0)), (3, .ref ho), (4, .int i)]) (hf : cells + 1 ≤ room_1.cells ∧ slots + 6 ≤ room_1.slots)  (kk : ∀ (H1 : Heap) (locs1 : List Loc) (ls1 : Array Slot), va_S A s.heap H1 locs1 → lv_has ls1 7 [(0, .ref b), (1, .ref (h 0)), (2, .ref (hm 0)), (3, .ref ho), (4, .int i)] → W p l e room_1 s m args below meth c H1 locs1 (cells + 1) (slots + 6) Q (F0 m 840 ls1 [])) : W p l e room_1 s m args below meth c H locs cells slots Q (F0 m 200 ls []) := by
  refine lv_aload_n C.1.1 C.1.2.1 dl_200 rfl (lv_at hl 1 rfl) ?_
  refine lv_aload_n C.1.1 C.1.2.1 dl_201 rfl (lv_at hl 0 rfl) ?_
  refine lv_iload C.1.1 C.1.2.1 dl_202 (lv_at hl 4 rfl) ?_
  refine lv_iconst (v := 1) C.1.1 C.1.2.1 dl_204 (by decide) ?_
  refine lv_iadd C.1.1 C.1.2.1 dl_205 ?_
  refine va_sld C.1.1 C.1.2.1 hX hbl hbA hS i1 dl_206 ?_
  refine lw_bool C.1.1 C.1.2.1 dl_207 dl_210 dl_211 dl_214 (fun y hy => ?_)
  refine lw_goS (n := 2) C (ww_pause (post := ck_poF fbFA gbFA h fN0 q_fa27.2) (px := ck_pxF fbFA gbFA fN0 q_fa27.2) (fun sz => x_fa27 hfl fN0 gN0 sz [.ref (h 0), .int y] gI_A (List.forall_mem_cons.mpr ⟨⟨by decide, by decide⟩, List.forall_mem_cons.mpr ⟨⟨by decide, by decide⟩, List.forall_mem_cons.mpr ⟨⟨by decide, by decide⟩, fun _ h => absurd h List.not_mem_nil⟩⟩⟩) (⟨Or.inr ⟨0, List.mem_cons_self, rfl⟩, ⟨⟨_, rfl, hy⟩, trivial⟩⟩)) ⟨rfl, rfl, by decide, by decide⟩ (ck_noIF (by decide)) (ck_ex1F (by decide))) kw_531 kw_532 kw_0 kw_533 (by decide +kernel) rfl rfl ⟨Nat.le_of_ble_eq_true rfl, Nat.le_of_ble_eq_true rfl⟩ hP hD hS rfl hl.1 rfl dl_215 hf (fun r f1 g1 H1 locs1 hq hP hD hS => ?_)
  obtain rfl := ck_anS1 (n := 1) (v := 0) (show q_fa27.2.all (ck_an "java/lang/IllegalStateException" "" 1 0) = true by decide) (by decide) hq
  show W p l e room_1 s m args below meth c H1 locs1 (cells + 1) (slots + 6) Q (F0 m 218 ls [.int (Int32.ofNat 1)])
  refine lv_istore (lv' := [(5, .int (Int32.ofNat 1)), (0, .ref b), (1, .ref (h 0)), (2, .ref (hm 0)), (3, .ref ho), (4, .int i)]) C.1.1 C.1.2.1 dl_218 hl (by decide) rfl (fun ls hl => ?_)
  refine lv_aload_n C.1.1 C.1.2.1 dl_220 rfl (lv_at hl 3 rfl) ?_
  refine lv_aload_n C.1.1 C.1.2.1 dl_221 rfl (lv_at hl 1 rfl) ?_
  refine lv_iload C.1.1 C.1.2.1 dl_222 (lv_at hl 5 rfl) ?_
  refine lv_iconst (v := 1) C.1.1 C.1.2.1 dl_224 (by decide) ?_
  refine lv_iadd C.1.1 C.1.2.1 dl_225 ?_
  refine va_sld C.1.1 C.1.2.1 hX hbl hbA hS i1 dl_226 ?_
  refine lw_bool C.1.1 C.1.2.1 dl_227 dl_230 dl_231 dl_234 (fun y hy => ?_)
  refine lm_goR (h := h) (hm := hm) (As := [.int y]) (rest := []) C (c_fm19 xL_ok) (cwV 1 C.1.2.2.2.2 (kk_gV kw_885 kw_886 kw_887 kw_9 kw_888) rfl rfl rfl (by decide +kernel) ⟨Nat.le_of_ble_eq_true rfl, Nat.le_of_ble_eq_true rfl⟩) gI_FM (List.forall_mem_cons.mpr ⟨⟨by decide, by decide⟩, List.forall_mem_cons.mpr ⟨⟨by decide, by decide⟩, List.forall_mem_cons.mpr ⟨⟨by decide, by decide⟩, List.forall_mem_cons.mpr ⟨⟨by decide, by decide⟩, fun _ h => absurd h List.not_mem_nil⟩⟩⟩⟩) (⟨Or.inr ⟨0, List.mem_cons_self, rfl⟩, ⟨⟨_, rfl, hy⟩, trivial⟩⟩) hP hD hS rfl hl.1 rfl (Nat.le_of_ble_eq_true rfl) dl_235 hf (fun r f2 g2 H2 locs2 hq2 hJ2 hP hD hS => ?_)
  obtain ⟨o2, ho2, hr2, hT2⟩ := hq2
  have h8 := List.all_eq_true.mp (show q_fm19.2.all (fun o => ck_isV o && ck_val 0 1 o) = true by decide) o2 ho2
  simp only [Bool.and_eq_true] at h8
  obtain rfl := ck_isV_ok h8.1 hr2
  show W p l e room_1 s m args below meth c H2 locs2 (cells + 1) (slots + 6) Q (F0 m 238 ls [])
  have hc9 := ck_val_ok h8.2 hT2
  refine lv_aload_n C.1.1 C.1.2.1 dl_238 rfl (lv_at hl 3 rfl) ?_
  refine lm_goR (h := h) (hm := hm) (As := []) (rest := []) C (c_fm1 xL_ok) (cwV 0 C.1.2.2.2.2 (kk_gV kw_853 kw_854 kw_855 kw_9 kw_856) rfl rfl rfl (by decide +kernel) ⟨Nat.le_of_ble_eq_true rfl, Nat.le_of_ble_eq_true rfl⟩) hJ2 (List.forall_mem_cons.mpr ⟨⟨by show (1 : Int) ≤ (f2 0).toInt; omega, by show (f2 0).toInt ≤ (1 : Int); omega⟩, List.forall_mem_cons.mpr ⟨ck_in_top _, List.forall_mem_cons.mpr ⟨ck_in_top _, List.forall_mem_cons.mpr ⟨ck_in_top _, fun _ h => absurd h List.not_mem_nil⟩⟩⟩⟩) ⟨Or.inr ⟨0, List.mem_cons_self, rfl⟩, trivial⟩ hP hD hS rfl hl.1 rfl (Nat.le_of_ble_eq_true rfl) dl_239 hf (fun r f3 g3 H3 locs3 hq3 hJ3 hP hD hS => ?_)
  obtain ⟨o3, ho3, hr3, hT3⟩ := hq3
  obtain ⟨x3, rfl, hx3⟩ := ck_isN_ok (List.all_eq_true.mp (show q_fm1.2.all (ck_isN 1) = true by decide) o3 ho3) hr3
  show W p l e room_1 s m args below meth c H3 locs3 (cells + 1) (slots + 6) Q (F0 m 242 ls [.int x3])
  refine lv_iload C.1.1 C.1.2.1 dl_242 (lv_at hl 0 rfl) ?_
  refine lv_icmp_eq (tgt := 249) C.1.1 C.1.2.1 dl_244 (by decide) (fun _ => ?_) (fun hne => absurd (Int32.toInt_inj.mp (by rw [hx3]; rfl)) hne)
  refine lv_goto (tgt := 840) C.1.1 C.1.2.1 dl_249 (by decide) ?_
  exact kk H3 locs3 _ hS (lv_sub hl [1, 2, 3, 4, 5] rfl)
theorem lo_2 {p : Program} {l : Launch} {e : Env} {s : State} {m : MethodId} {args : Array Value} {below : List Frame} {meth : Method} {c : Code} {H : Heap} {locs : List Loc} {cells slots : Nat} {Q : State → Prop} {D : va_G} {B : Nat} {A : Nat → Prop} {h hm : Nat → Nat} {cI cZ cJ : ClassId} {ho : Nat} {ls : Array Slot} {b L : Nat} {xs : Nat → Int32} {i : Int32} {cx : Cond} (hfl : l.flags = flags0) (C : zz_Cx p m meth c code 7 ret s args (cx :: kk_W) "NightCyclerLaw" D vN (tyN cI cZ cJ) A B (xL B h)) (hX : va_X b L xs s s.heap) (hbl : b < s.heap.size) (hbA : ¬ A b) (i1 : vp_in (i + 1) L) (i2 : vp_in (i + 2) L) (hP : va_P D vN (wW cI cZ cJ ho h hm fN0 gN0 fM0 gM0) H) (hD : va_D A (wW cI cZ cJ ho h hm fN0 gN0 fM0 gM0)) (hS : va_S A s.heap H locs) (hl : lv_has ls 7 [(0, .ref b), (1, .ref (h 0)), (2, .ref (hm 0)), (3, .ref ho), (4, .int i)]) (hf : cells + 1 ≤ room_1.cells ∧ slots + 6 ≤ room_1.slots) (kk : ∀ (H1 : Heap) (locs1 : List Loc) (ls1 : Array Slot), va_S A s.heap H1 locs1 → lv_has ls1 7 [(0, .ref b), (1, .ref (h 0)), (2, .ref (hm 0)), (3, .ref ho), (4, .int i)] → W p l e room_1 s m args below meth c H1 locs1 (cells + 1) (slots + 6) Q (F0 m 840 ls1 [])) : W p l e room_1 s m args below meth c H locs cells slots Q (F0 m 200 ls []) := by
  exact lo_2_fa27 hfl C hX hbl hbA i1 i2 hP hD hS hl hf kk
theorem lo_3_fa28 {p : Program} {l : Launch} {e : Env} {s : State} {m : MethodId} {args : Array Value} {below : List Frame} {meth : Method} {c : Code} {H : Heap} {locs : List Loc} {cells slots : Nat} {Q : State → Prop} {D : va_G} {B : Nat} {A : Nat → Prop} {h hm : Nat → Nat} {cI cZ cJ : ClassId} {ho : Nat} {ls : Array Slot} {b L : Nat} {xs : Nat → Int32} {i : Int32} {cx : Cond} (hfl : l.flags = flags0) (C : zz_Cx p m meth c code 7 ret s args (cx :: kk_W) "NightCyclerLaw" D vN (tyN cI cZ cJ) A B (xL B h)) (hX : va_X b L xs s s.heap) (hbl : b < s.heap.size) (hbA : ¬ A b) (i1 : vp_in (i + 1) L) (i2 : vp_in (i + 2) L) (hP : va_P D vN (wW cI cZ cJ ho h hm fN0 gN0 fM0 gM0) H) (hD : va_D A (wW cI cZ cJ ho h hm fN0 gN0 fM0 gM0)) (hS : va_S A s.heap H locs) (hl : lv_has ls 7 [(0, .ref b), (1, .ref (h 0)), (2, .ref (hm 0)), (3, .ref ho), (4, .int i)]) (hf : cells + 1 ≤ room_1.cells ∧ slots + 6 ≤ room_1.slots)  (kk : ∀ (H1 : Heap) (locs1 : List Loc) (ls1 : Array Slot), va_S A s.heap H1 locs1 → lv_has ls1 7 [(0, .ref b), (1, .ref (h 0)), (2, .ref (hm 0)), (3, .ref ho), (4, .int i)] → W p l e room_1 s m args below meth c H1 locs1 (cells + 1) (slots + 6) Q (F0 m 840 ls1 [])) : W p l e room_1 s m args below meth c H locs cells slots Q (F0 m 252 ls []) := by
  refine lv_aload_n C.1.1 C.1.2.1 dl_252 rfl (lv_at hl 1 rfl) ?_
  refine lw_goS (n := 1) C (ww_end (a0 := 0) (post := ck_poF fbFA gbFA h fN0 q_fa28.2) (px := ck_pxF fbFA gbFA fN0 q_fa28.2) (fun sz => x_fa28 hfl fN0 gN0 sz [.ref (h 0)] gI_A (List.forall_mem_cons.mpr ⟨⟨by decide, by decide⟩, List.forall_mem_cons.mpr ⟨⟨by decide, by decide⟩, List.forall_mem_cons.mpr ⟨⟨by decide, by decide⟩, fun _ h => absurd h List.not_mem_nil⟩⟩⟩) (⟨Or.inr ⟨0, List.mem_cons_self, rfl⟩, trivial⟩)) ⟨rfl, rfl, by decide, by decide⟩ (ck_noIF (by decide)) (ck_ex1F (by decide))) kw_538 kw_539 kw_0 kw_540 (by decide +kernel) rfl rfl ⟨Nat.le_of_ble_eq_true rfl, Nat.le_of_ble_eq_true rfl⟩ hP hD hS rfl hl.1 rfl dl_253 hf (fun r f1 g1 H1 locs1 hq hP hD hS => ?_)
  obtain rfl := ck_anS1 (n := 1) (v := 0) (show q_fa28.2.all (ck_an "java/lang/IllegalStateException" "" 1 0) = true by decide) (by decide) hq
  show W p l e room_1 s m args below meth c H1 locs1 (cells + 1) (slots + 6) Q (F0 m 256 ls [.int (Int32.ofNat 1)])
  refine lv_istore (lv' := [(5, .int (Int32.ofNat 1)), (0, .ref b), (1, .ref (h 0)), (2, .ref (hm 0)), (3, .ref ho), (4, .int i)]) C.1.1 C.1.2.1 dl_256 hl (by decide) rfl (fun ls hl => ?_)
  refine lv_aload_n C.1.1 C.1.2.1 dl_258 rfl (lv_at hl 3 rfl) ?_
  refine lm_goR (h := h) (hm := hm) (As := []) (rest := []) C (c_fm20 xL_ok) (cwV 0 C.1.2.2.2.2 (kk_gV kw_889 kw_890 kw_891 kw_9 kw_892) rfl rfl rfl (by decide +kernel) ⟨Nat.le_of_ble_eq_true rfl, Nat.le_of_ble_eq_true rfl⟩) gI_FM (List.forall_mem_cons.mpr ⟨⟨by decide, by decide⟩, List.forall_mem_cons.mpr ⟨⟨by decide, by decide⟩, List.forall_mem_cons.mpr ⟨⟨by decide, by decide⟩, List.forall_mem_cons.mpr ⟨⟨by decide, by decide⟩, fun _ h => absurd h List.not_mem_nil⟩⟩⟩⟩) (⟨Or.inr ⟨0, List.mem_cons_self, rfl⟩, trivial⟩) hP hD hS rfl hl.1 rfl (Nat.le_of_ble_eq_true rfl) dl_259 hf (fun r f2 g2 H2 locs2 hq2 hJ2 hP hD hS => ?_)
  obtain ⟨o2, ho2, hr2, hT2⟩ := hq2
  have h8 := List.all_eq_true.mp (show q_fm20.2.all (fun o => ck_isV o && ck_val 0 1 o) = true by decide) o2 ho2
  simp only [Bool.and_eq_true] at h8
  obtain rfl := ck_isV_ok h8.1 hr2
  show W p l e room_1 s m args below meth c H2 locs2 (cells + 1) (slots + 6) Q (F0 m 262 ls [])
  have hc9 := ck_val_ok h8.2 hT2
  refine lv_aload_n C.1.1 C.1.2.1 dl_262 rfl (lv_at hl 3 rfl) ?_
  refine lm_goR (h := h) (hm := hm) (As := []) (rest := []) C (c_fm1 xL_ok) (cwV 0 C.1.2.2.2.2 (kk_gV kw_853 kw_854 kw_855 kw_9 kw_856) rfl rfl rfl (by decide +kernel) ⟨Nat.le_of_ble_eq_true rfl, Nat.le_of_ble_eq_true rfl⟩) hJ2 (List.forall_mem_cons.mpr ⟨⟨by show (1 : Int) ≤ (f2 0).toInt; omega, by show (f2 0).toInt ≤ (1 : Int); omega⟩, List.forall_mem_cons.mpr ⟨ck_in_top _, List.forall_mem_cons.mpr ⟨ck_in_top _, List.forall_mem_cons.mpr ⟨ck_in_top _, fun _ h => absurd h List.not_mem_nil⟩⟩⟩⟩) ⟨Or.inr ⟨0, List.mem_cons_self, rfl⟩, trivial⟩ hP hD hS rfl hl.1 rfl (Nat.le_of_ble_eq_true rfl) dl_263 hf (fun r f3 g3 H3 locs3 hq3 hJ3 hP hD hS => ?_)
  obtain ⟨o3, ho3, hr3, hT3⟩ := hq3
  obtain ⟨x3, rfl, hx3⟩ := ck_isN_ok (List.all_eq_true.mp (show q_fm1.2.all (ck_isN 1) = true by decide) o3 ho3) hr3
  show W p l e room_1 s m args below meth c H3 locs3 (cells + 1) (slots + 6) Q (F0 m 266 ls [.int x3])
  refine lv_iload C.1.1 C.1.2.1 dl_266 (lv_at hl 0 rfl) ?_
  refine lv_icmp_eq (tgt := 273) C.1.1 C.1.2.1 dl_268 (by decide) (fun _ => ?_) (fun hne => absurd (Int32.toInt_inj.mp (by rw [hx3]; rfl)) hne)
  refine lv_goto (tgt := 840) C.1.1 C.1.2.1 dl_273 (by decide) ?_
  exact kk H3 locs3 _ hS (lv_sub hl [1, 2, 3, 4, 5] rfl)
theorem lo_3 {p : Program} {l : Launch} {e : Env} {s : State} {m : MethodId} {args : Array Value} {below : List Frame} {meth : Method} {c : Code} {H : Heap} {locs : List Loc} {cells slots : Nat} {Q : State → Prop} {D : va_G} {B : Nat} {A : Nat → Prop} {h hm : Nat → Nat} {cI cZ cJ : ClassId} {ho : Nat} {ls : Array Slot} {b L : Nat} {xs : Nat → Int32} {i : Int32} {cx : Cond} (hfl : l.flags = flags0) (C : zz_Cx p m meth c code 7 ret s args (cx :: kk_W) "NightCyclerLaw" D vN (tyN cI cZ cJ) A B (xL B h)) (hX : va_X b L xs s s.heap) (hbl : b < s.heap.size) (hbA : ¬ A b) (i1 : vp_in (i + 1) L) (i2 : vp_in (i + 2) L) (hP : va_P D vN (wW cI cZ cJ ho h hm fN0 gN0 fM0 gM0) H) (hD : va_D A (wW cI cZ cJ ho h hm fN0 gN0 fM0 gM0)) (hS : va_S A s.heap H locs) (hl : lv_has ls 7 [(0, .ref b), (1, .ref (h 0)), (2, .ref (hm 0)), (3, .ref ho), (4, .int i)]) (hf : cells + 1 ≤ room_1.cells ∧ slots + 6 ≤ room_1.slots) (kk : ∀ (H1 : Heap) (locs1 : List Loc) (ls1 : Array Slot), va_S A s.heap H1 locs1 → lv_has ls1 7 [(0, .ref b), (1, .ref (h 0)), (2, .ref (hm 0)), (3, .ref ho), (4, .int i)] → W p l e room_1 s m args below meth c H1 locs1 (cells + 1) (slots + 6) Q (F0 m 840 ls1 [])) : W p l e room_1 s m args below meth c H locs cells slots Q (F0 m 252 ls []) := by
  exact lo_3_fa28 hfl C hX hbl hbA i1 i2 hP hD hS hl hf kk
theorem lo_4_fa39 {p : Program} {l : Launch} {e : Env} {s : State} {m : MethodId} {args : Array Value} {below : List Frame} {meth : Method} {c : Code} {H : Heap} {locs : List Loc} {cells slots : Nat} {Q : State → Prop} {D : va_G} {B : Nat} {A : Nat → Prop} {h hm : Nat → Nat} {cI cZ cJ : ClassId} {ho : Nat} {ls : Array Slot} {b L : Nat} {xs : Nat → Int32} {i : Int32} {cx : Cond} (hfl : l.flags = flags0) (C : zz_Cx p m meth c code 7 ret s args (cx :: kk_W) "NightCyclerLaw" D vN (tyN cI cZ cJ) A B (xL B h)) (hX : va_X b L xs s s.heap) (hbl : b < s.heap.size) (hbA : ¬ A b) (i1 : vp_in (i + 1) L) (i2 : vp_in (i + 2) L) (hP : va_P D vN (wW cI cZ cJ ho h hm fN0 gN0 fM0 gM0) H) (hD : va_D A (wW cI cZ cJ ho h hm fN0 gN0 fM0 gM0)) (hS : va_S A s.heap H locs) (hl : lv_has ls 7 [(0, .ref b), (1, .ref (h 0)), (2, .ref (hm 0)), (3, .ref ho), (4, .int i)]) (hf : cells + 1 ≤ room_1.cells ∧ slots + 6 ≤ room_1.slots) (hc0 : (-2147483648 : Int) ≤ (xs (i + 1).toNatClampNeg).toInt ∧ (xs (i + 1).toNatClampNeg).toInt ≤ (0 : Int)) (kk : ∀ (H1 : Heap) (locs1 : List Loc) (ls1 : Array Slot), va_S A s.heap H1 locs1 → lv_has ls1 7 [(0, .ref b), (1, .ref (h 0)), (2, .ref (hm 0)), (3, .ref ho), (4, .int i)] → W p l e room_1 s m args below meth c H1 locs1 (cells + 1) (slots + 6) Q (F0 m 840 ls1 [])) : W p l e room_1 s m args below meth c H locs cells slots Q (F0 m 276 ls []) := by
  refine lv_aload_n C.1.1 C.1.2.1 dl_276 rfl (lv_at hl 1 rfl) ?_
  refine lv_aload_n C.1.1 C.1.2.1 dl_277 rfl (lv_at hl 0 rfl) ?_
  refine lv_iload C.1.1 C.1.2.1 dl_278 (lv_at hl 4 rfl) ?_
  refine lv_iconst (v := 1) C.1.1 C.1.2.1 dl_280 (by decide) ?_
  refine lv_iadd C.1.1 C.1.2.1 dl_281 ?_
  refine va_sld C.1.1 C.1.2.1 hX hbl hbA hS i1 dl_282 ?_
  refine lv_aload_n C.1.1 C.1.2.1 dl_283 rfl (lv_at hl 3 rfl) ?_
  refine lw_goO (n := 3) C (ww_tick (post := ck_poF fbFA gbFA h fN0 q_fa39.2) (px := ck_pxF fbFA gbFA fN0 q_fa39.2) (fun sz => x_fa39 hfl fN0 gN0 sz [.ref (h 0), .int (xs (i + 1).toNatClampNeg)] gI_A (List.forall_mem_cons.mpr ⟨⟨by decide, by decide⟩, List.forall_mem_cons.mpr ⟨⟨by decide, by decide⟩, List.forall_mem_cons.mpr ⟨⟨by decide, by decide⟩, fun _ h => absurd h List.not_mem_nil⟩⟩⟩) (⟨Or.inr ⟨0, List.mem_cons_self, rfl⟩, ⟨⟨_, rfl, hc0⟩, trivial⟩⟩)) ⟨rfl, rfl, by decide, by decide⟩ (ck_noVF (by decide)) (ck_ex2F (by decide))) kw_545 kw_546 kw_0 kw_547 (by decide +kernel) rfl rfl ⟨Nat.le_of_ble_eq_true rfl, Nat.le_of_ble_eq_true rfl⟩ hP hD hS rfl hl.1 rfl dl_284 hf (fun r f1 g1 H1 locs1 hq hP hD hS => ?_)
  obtain ⟨rfl, hv⟩ := ck_anO (n := 2) (v := 0) (show q_fa39.2.all (ck_an "java/lang/IllegalStateException" "java/lang/IllegalArgumentException" 2 0) = true by decide) (by decide) hq
  show W p l e room_1 s m args below meth c H1 locs1 (cells + 1) (slots + 6) Q (F0 m 287 ls [.int (Int32.ofNat 2)])
  refine lv_istore (lv' := [(5, .int (Int32.ofNat 2)), (0, .ref b), (1, .ref (h 0)), (2, .ref (hm 0)), (3, .ref ho), (4, .int i)]) C.1.1 C.1.2.1 dl_287 hl (by decide) rfl (fun ls hl => ?_)
  refine lv_aload_n C.1.1 C.1.2.1 dl_289 rfl (lv_at hl 3 rfl) ?_
  refine lv_aload_n C.1.1 C.1.2.1 dl_290 rfl (lv_at hl 1 rfl) ?_
  refine lv_iload C.1.1 C.1.2.1 dl_291 (lv_at hl 5 rfl) ?_
  refine lv_iconst (v := 1) C.1.1 C.1.2.1 dl_293 (by decide) ?_
  refine lv_iadd C.1.1 C.1.2.1 dl_294 ?_
  refine va_sld C.1.1 C.1.2.1 hX hbl hbA hS i1 dl_295 ?_
  refine lm_goR (h := h) (hm := hm) (As := [.int (xs (i + 1).toNatClampNeg)]) (rest := []) C (c_fm27 xL_ok) (cwV 1 C.1.2.2.2.2 (kk_gV kw_893 kw_894 kw_895 kw_9 kw_896) rfl rfl rfl (by decide +kernel) ⟨Nat.le_of_ble_eq_true rfl, Nat.le_of_ble_eq_true rfl⟩) gI_FM (List.forall_mem_cons.mpr ⟨⟨by decide, by decide⟩, List.forall_mem_cons.mpr ⟨⟨by decide, by decide⟩, List.forall_mem_cons.mpr ⟨⟨by decide, by decide⟩, List.forall_mem_cons.mpr ⟨⟨by decide, by decide⟩, fun _ h => absurd h List.not_mem_nil⟩⟩⟩⟩) (⟨Or.inr ⟨0, List.mem_cons_self, rfl⟩, ⟨⟨_, rfl, hc0⟩, trivial⟩⟩) hP hD hS rfl hl.1 rfl (Nat.le_of_ble_eq_true rfl) dl_296 hf (fun r f2 g2 H2 locs2 hq2 hJ2 hP hD hS => ?_)
  obtain ⟨o2, ho2, hr2, hT2⟩ := hq2
  have h8 := List.all_eq_true.mp (show q_fm27.2.all (fun o => ck_isI o && ck_val 0 2 o) = true by decide) o2 ho2
  simp only [Bool.and_eq_true] at h8
  obtain ⟨x2, rfl⟩ := ck_isI_ok h8.1 hr2
  show W p l e room_1 s m args below meth c H2 locs2 (cells + 1) (slots + 6) Q (F0 m 299 ls [.int x2])
  have hc9 := ck_val_ok h8.2 hT2
  refine lv_istore (lv' := [(6, .int x2), (5, .int (Int32.ofNat 2)), (0, .ref b), (1, .ref (h 0)), (2, .ref (hm 0)), (3, .ref ho), (4, .int i)]) C.1.1 C.1.2.1 dl_299 hl (by decide) rfl (fun ls hl => ?_)
  refine lv_aload_n C.1.1 C.1.2.1 dl_301 rfl (lv_at hl 4 rfl) ?_
  refine lm_goR (h := h) (hm := hm) (As := []) (rest := []) C (c_fm2 xL_ok) (cwV 0 C.1.2.2.2.2 (kk_gV kw_853 kw_854 kw_855 kw_9 kw_856) rfl rfl rfl (by decide +kernel) ⟨Nat.le_of_ble_eq_true rfl, Nat.le_of_ble_eq_true rfl⟩) hJ2 (List.forall_mem_cons.mpr ⟨⟨by show (2 : Int) ≤ (f2 0).toInt; omega, by show (f2 0).toInt ≤ (2 : Int); omega⟩, List.forall_mem_cons.mpr ⟨ck_in_top _, List.forall_mem_cons.mpr ⟨ck_in_top _, List.forall_mem_cons.mpr ⟨ck_in_top _, fun _ h => absurd h List.not_mem_nil⟩⟩⟩⟩) ⟨Or.inr ⟨0, List.mem_cons_self, rfl⟩, trivial⟩ hP hD hS rfl hl.1 rfl (Nat.le_of_ble_eq_true rfl) dl_302 hf (fun r f3 g3 H3 locs3 hq3 hJ3 hP hD hS => ?_)
  obtain ⟨o3, ho3, hr3, hT3⟩ := hq3
  obtain ⟨x3, rfl, hx3⟩ := ck_isN_ok (List.all_eq_true.mp (show q_fm2.2.all (ck_isN 2) = true by decide) o3 ho3) hr3
  show W p l e room_1 s m args below meth c H3 locs3 (cells + 1) (slots + 6) Q (F0 m 305 ls [.int x3])
  refine lv_iload C.1.1 C.1.2.1 dl_305 (lv_at hl 1 rfl) ?_
  refine lv_icmp_eq (tgt := 312) C.1.1 C.1.2.1 dl_307 (by decide) (fun _ => ?_) (fun hne => absurd (Int32.toInt_inj.mp (by rw [hx3]; rfl)) hne)
  refine lv_iload C.1.1 C.1.2.1 dl_312 (lv_at hl 1 rfl) ?_
  refine lv_if_ne (tgt := 329) C.1.1 C.1.2.1 dl_314 (by decide) (fun _ => ?_) (fun hne => absurd hne (by decide))
  refine lv_goto (tgt := 840) C.1.1 C.1.2.1 dl_329 (by decide) ?_
  exact kk H3 locs3 _ hS (lv_sub hl [2, 3, 4, 5, 6] rfl)
theorem lo_4_fa40 {p : Program} {l : Launch} {e : Env} {s : State} {m : MethodId} {args : Array Value} {below : List Frame} {meth : Method} {c : Code} {H : Heap} {locs : List Loc} {cells slots : Nat} {Q : State → Prop} {D : va_G} {B : Nat} {A : Nat → Prop} {h hm : Nat → Nat} {cI cZ cJ : ClassId} {ho : Nat} {ls : Array Slot} {b L : Nat} {xs : Nat → Int32} {i : Int32} {cx : Cond} (hfl : l.flags = flags0) (C : zz_Cx p m meth c code 7 ret s args (cx :: kk_W) "NightCyclerLaw" D vN (tyN cI cZ cJ) A B (xL B h)) (hX : va_X b L xs s s.heap) (hbl : b < s.heap.size) (hbA : ¬ A b) (i1 : vp_in (i + 1) L) (i2 : vp_in (i + 2) L) (hP : va_P D vN (wW cI cZ cJ ho h hm fN0 gN0 fM0 gM0) H) (hD : va_D A (wW cI cZ cJ ho h hm fN0 gN0 fM0 gM0)) (hS : va_S A s.heap H locs) (hl : lv_has ls 7 [(0, .ref b), (1, .ref (h 0)), (2, .ref (hm 0)), (3, .ref ho), (4, .int i)]) (hf : cells + 1 ≤ room_1.cells ∧ slots + 6 ≤ room_1.slots) (hc0 : (5001 : Int) ≤ (xs (i + 1).toNatClampNeg).toInt ∧ (xs (i + 1).toNatClampNeg).toInt ≤ (2147483647 : Int)) (kk : ∀ (H1 : Heap) (locs1 : List Loc) (ls1 : Array Slot), va_S A s.heap H1 locs1 → lv_has ls1 7 [(0, .ref b), (1, .ref (h 0)), (2, .ref (hm 0)), (3, .ref ho), (4, .int i)] → W p l e room_1 s m args below meth c H1 locs1 (cells + 1) (slots + 6) Q (F0 m 840 ls1 [])) : W p l e room_1 s m args below meth c H locs cells slots Q (F0 m 276 ls []) := by
  refine lv_aload_n C.1.1 C.1.2.1 dl_276 rfl (lv_at hl 1 rfl) ?_
  refine lv_aload_n C.1.1 C.1.2.1 dl_277 rfl (lv_at hl 0 rfl) ?_
  refine lv_iload C.1.1 C.1.2.1 dl_278 (lv_at hl 4 rfl) ?_
  refine lv_iconst (v := 1) C.1.1 C.1.2.1 dl_280 (by decide) ?_
  refine lv_iadd C.1.1 C.1.2.1 dl_281 ?_
  refine va_sld C.1.1 C.1.2.1 hX hbl hbA hS i1 dl_282 ?_
  refine lv_aload_n C.1.1 C.1.2.1 dl_283 rfl (lv_at hl 3 rfl) ?_
  refine lw_goO (n := 3) C (ww_tick (post := ck_poF fbFA gbFA h fN0 q_fa40.2) (px := ck_pxF fbFA gbFA fN0 q_fa40.2) (fun sz => x_fa40 hfl fN0 gN0 sz [.ref (h 0), .int (xs (i + 1).toNatClampNeg)] gI_A (List.forall_mem_cons.mpr ⟨⟨by decide, by decide⟩, List.forall_mem_cons.mpr ⟨⟨by decide, by decide⟩, List.forall_mem_cons.mpr ⟨⟨by decide, by decide⟩, fun _ h => absurd h List.not_mem_nil⟩⟩⟩) (⟨Or.inr ⟨0, List.mem_cons_self, rfl⟩, ⟨⟨_, rfl, hc0⟩, trivial⟩⟩)) ⟨rfl, rfl, by decide, by decide⟩ (ck_noVF (by decide)) (ck_ex2F (by decide))) kw_545 kw_546 kw_0 kw_547 (by decide +kernel) rfl rfl ⟨Nat.le_of_ble_eq_true rfl, Nat.le_of_ble_eq_true rfl⟩ hP hD hS rfl hl.1 rfl dl_284 hf (fun r f1 g1 H1 locs1 hq hP hD hS => ?_)
  obtain ⟨rfl, hv⟩ := ck_anO (n := 2) (v := 0) (show q_fa40.2.all (ck_an "java/lang/IllegalStateException" "java/lang/IllegalArgumentException" 2 0) = true by decide) (by decide) hq
  show W p l e room_1 s m args below meth c H1 locs1 (cells + 1) (slots + 6) Q (F0 m 287 ls [.int (Int32.ofNat 2)])
  refine lv_istore (lv' := [(5, .int (Int32.ofNat 2)), (0, .ref b), (1, .ref (h 0)), (2, .ref (hm 0)), (3, .ref ho), (4, .int i)]) C.1.1 C.1.2.1 dl_287 hl (by decide) rfl (fun ls hl => ?_)
  refine lv_aload_n C.1.1 C.1.2.1 dl_289 rfl (lv_at hl 3 rfl) ?_
  refine lv_aload_n C.1.1 C.1.2.1 dl_290 rfl (lv_at hl 1 rfl) ?_
  refine lv_iload C.1.1 C.1.2.1 dl_291 (lv_at hl 5 rfl) ?_
  refine lv_iconst (v := 1) C.1.1 C.1.2.1 dl_293 (by decide) ?_
  refine lv_iadd C.1.1 C.1.2.1 dl_294 ?_
  refine va_sld C.1.1 C.1.2.1 hX hbl hbA hS i1 dl_295 ?_
  refine lm_goR (h := h) (hm := hm) (As := [.int (xs (i + 1).toNatClampNeg)]) (rest := []) C (c_fm28 xL_ok) (cwV 1 C.1.2.2.2.2 (kk_gV kw_893 kw_894 kw_895 kw_9 kw_896) rfl rfl rfl (by decide +kernel) ⟨Nat.le_of_ble_eq_true rfl, Nat.le_of_ble_eq_true rfl⟩) gI_FM (List.forall_mem_cons.mpr ⟨⟨by decide, by decide⟩, List.forall_mem_cons.mpr ⟨⟨by decide, by decide⟩, List.forall_mem_cons.mpr ⟨⟨by decide, by decide⟩, List.forall_mem_cons.mpr ⟨⟨by decide, by decide⟩, fun _ h => absurd h List.not_mem_nil⟩⟩⟩⟩) (⟨Or.inr ⟨0, List.mem_cons_self, rfl⟩, ⟨⟨_, rfl, hc0⟩, trivial⟩⟩) hP hD hS rfl hl.1 rfl (Nat.le_of_ble_eq_true rfl) dl_296 hf (fun r f2 g2 H2 locs2 hq2 hJ2 hP hD hS => ?_)
  obtain ⟨o2, ho2, hr2, hT2⟩ := hq2
  have h8 := List.all_eq_true.mp (show q_fm28.2.all (fun o => ck_isI o && ck_val 0 2 o) = true by decide) o2 ho2
  simp only [Bool.and_eq_true] at h8
  obtain ⟨x2, rfl⟩ := ck_isI_ok h8.1 hr2
  show W p l e room_1 s m args below meth c H2 locs2 (cells + 1) (slots + 6) Q (F0 m 299 ls [.int x2])
  have hc9 := ck_val_ok h8.2 hT2
  refine lv_istore (lv' := [(6, .int x2), (5, .int (Int32.ofNat 2)), (0, .ref b), (1, .ref (h 0)), (2, .ref (hm 0)), (3, .ref ho), (4, .int i)]) C.1.1 C.1.2.1 dl_299 hl (by decide) rfl (fun ls hl => ?_)
  refine lv_aload_n C.1.1 C.1.2.1 dl_301 rfl (lv_at hl 4 rfl) ?_
  refine lm_goR (h := h) (hm := hm) (As := []) (rest := []) C (c_fm2 xL_ok) (cwV 0 C.1.2.2.2.2 (kk_gV kw_853 kw_854 kw_855 kw_9 kw_856) rfl rfl rfl (by decide +kernel) ⟨Nat.le_of_ble_eq_true rfl, Nat.le_of_ble_eq_true rfl⟩) hJ2 (List.forall_mem_cons.mpr ⟨⟨by show (2 : Int) ≤ (f2 0).toInt; omega, by show (f2 0).toInt ≤ (2 : Int); omega⟩, List.forall_mem_cons.mpr ⟨ck_in_top _, List.forall_mem_cons.mpr ⟨ck_in_top _, List.forall_mem_cons.mpr ⟨ck_in_top _, fun _ h => absurd h List.not_mem_nil⟩⟩⟩⟩) ⟨Or.inr ⟨0, List.mem_cons_self, rfl⟩, trivial⟩ hP hD hS rfl hl.1 rfl (Nat.le_of_ble_eq_true rfl) dl_302 hf (fun r f3 g3 H3 locs3 hq3 hJ3 hP hD hS => ?_)
  obtain ⟨o3, ho3, hr3, hT3⟩ := hq3
  obtain ⟨x3, rfl, hx3⟩ := ck_isN_ok (List.all_eq_true.mp (show q_fm2.2.all (ck_isN 2) = true by decide) o3 ho3) hr3
  show W p l e room_1 s m args below meth c H3 locs3 (cells + 1) (slots + 6) Q (F0 m 305 ls [.int x3])
  refine lv_iload C.1.1 C.1.2.1 dl_305 (lv_at hl 1 rfl) ?_
  refine lv_icmp_eq (tgt := 312) C.1.1 C.1.2.1 dl_307 (by decide) (fun _ => ?_) (fun hne => absurd (Int32.toInt_inj.mp (by rw [hx3]; rfl)) hne)
  refine lv_iload C.1.1 C.1.2.1 dl_312 (lv_at hl 1 rfl) ?_
  refine lv_if_ne (tgt := 329) C.1.1 C.1.2.1 dl_314 (by decide) (fun _ => ?_) (fun hne => absurd hne (by decide))
  refine lv_goto (tgt := 840) C.1.1 C.1.2.1 dl_329 (by decide) ?_
  exact kk H3 locs3 _ hS (lv_sub hl [2, 3, 4, 5, 6] rfl)
theorem lo_4_tickF {p : Program} {l : Launch} {e : Env} {s : State} {m : MethodId} {args : Array Value} {below : List Frame} {meth : Method} {c : Code} {H : Heap} {locs : List Loc} {cells slots : Nat} {Q : State → Prop} {D : va_G} {B : Nat} {A : Nat → Prop} {h hm : Nat → Nat} {cI cZ cJ : ClassId} {ho : Nat} {ls : Array Slot} {b L : Nat} {xs : Nat → Int32} {i : Int32} {cx : Cond} (hfl : l.flags = flags0) (C : zz_Cx p m meth c code 7 ret s args (cx :: kk_W) "NightCyclerLaw" D vN (tyN cI cZ cJ) A B (xL B h)) (hX : va_X b L xs s s.heap) (hbl : b < s.heap.size) (hbA : ¬ A b) (i1 : vp_in (i + 1) L) (i2 : vp_in (i + 2) L) (hP : va_P D vN (wW cI cZ cJ ho h hm fN0 gN0 fM0 gM0) H) (hD : va_D A (wW cI cZ cJ ho h hm fN0 gN0 fM0 gM0)) (hS : va_S A s.heap H locs) (hl : lv_has ls 7 [(0, .ref b), (1, .ref (h 0)), (2, .ref (hm 0)), (3, .ref ho), (4, .int i)]) (hf : cells + 1 ≤ room_1.cells ∧ slots + 6 ≤ room_1.slots) (hc0 : (1 : Int) ≤ (xs (i + 1).toNatClampNeg).toInt ∧ (xs (i + 1).toNatClampNeg).toInt ≤ (5000 : Int)) (kk : ∀ (H1 : Heap) (locs1 : List Loc) (ls1 : Array Slot), va_S A s.heap H1 locs1 → lv_has ls1 7 [(0, .ref b), (1, .ref (h 0)), (2, .ref (hm 0)), (3, .ref ho), (4, .int i)] → W p l e room_1 s m args below meth c H1 locs1 (cells + 1) (slots + 6) Q (F0 m 840 ls1 [])) : W p l e room_1 s m args below meth c H locs cells slots Q (F0 m 276 ls []) := by
  refine lv_aload_n C.1.1 C.1.2.1 dl_276 rfl (lv_at hl 1 rfl) ?_
  refine lv_aload_n C.1.1 C.1.2.1 dl_277 rfl (lv_at hl 0 rfl) ?_
  refine lv_iload C.1.1 C.1.2.1 dl_278 (lv_at hl 4 rfl) ?_
  refine lv_iconst (v := 1) C.1.1 C.1.2.1 dl_280 (by decide) ?_
  refine lv_iadd C.1.1 C.1.2.1 dl_281 ?_
  refine va_sld C.1.1 C.1.2.1 hX hbl hbA hS i1 dl_282 ?_
  refine lv_aload_n C.1.1 C.1.2.1 dl_283 rfl (lv_at hl 3 rfl) ?_
  refine lw_goO (n := 3) C (ww_tick (post := ck_poF fbFA gbFA h fN0 q_tickF.2) (px := ck_pxF fbFA gbFA fN0 q_tickF.2) (fun sz => x_tickF hfl fN0 gN0 sz [.ref (h 0), .int (xs (i + 1).toNatClampNeg)] gI_A (List.forall_mem_cons.mpr ⟨⟨by decide, by decide⟩, List.forall_mem_cons.mpr ⟨⟨by decide, by decide⟩, List.forall_mem_cons.mpr ⟨⟨by decide, by decide⟩, fun _ h => absurd h List.not_mem_nil⟩⟩⟩) (⟨Or.inr ⟨0, List.mem_cons_self, rfl⟩, ⟨⟨_, rfl, hc0⟩, trivial⟩⟩)) ⟨rfl, rfl, by decide, by decide⟩ (ck_noVF (by decide)) (ck_ex2F (by decide))) kw_545 kw_546 kw_0 kw_547 (by decide +kernel) rfl rfl ⟨Nat.le_of_ble_eq_true rfl, Nat.le_of_ble_eq_true rfl⟩ hP hD hS rfl hl.1 rfl dl_284 hf (fun r f1 g1 H1 locs1 hq hP hD hS => ?_)
  obtain ⟨rfl, hv⟩ := ck_anO (n := 0) (v := 0) (show q_tickF.2.all (ck_an "java/lang/IllegalStateException" "java/lang/IllegalArgumentException" 0 0) = true by decide) (by decide) hq
  show W p l e room_1 s m args below meth c H1 locs1 (cells + 1) (slots + 6) Q (F0 m 287 ls [.int (Int32.ofNat 0)])
  refine lv_istore (lv' := [(5, .int (Int32.ofNat 0)), (0, .ref b), (1, .ref (h 0)), (2, .ref (hm 0)), (3, .ref ho), (4, .int i)]) C.1.1 C.1.2.1 dl_287 hl (by decide) rfl (fun ls hl => ?_)
  refine lv_aload_n C.1.1 C.1.2.1 dl_289 rfl (lv_at hl 3 rfl) ?_
  refine lv_aload_n C.1.1 C.1.2.1 dl_290 rfl (lv_at hl 1 rfl) ?_
  refine lv_iload C.1.1 C.1.2.1 dl_291 (lv_at hl 5 rfl) ?_
  refine lv_iconst (v := 1) C.1.1 C.1.2.1 dl_293 (by decide) ?_
  refine lv_iadd C.1.1 C.1.2.1 dl_294 ?_
  refine va_sld C.1.1 C.1.2.1 hX hbl hbA hS i1 dl_295 ?_
  refine lm_goR (h := h) (hm := hm) (As := [.int (xs (i + 1).toNatClampNeg)]) (rest := []) C (c_mtickF xL_ok) (cwV 1 C.1.2.2.2.2 (kk_gV kw_893 kw_894 kw_895 kw_9 kw_896) rfl rfl rfl (by decide +kernel) ⟨Nat.le_of_ble_eq_true rfl, Nat.le_of_ble_eq_true rfl⟩) gI_FM (List.forall_mem_cons.mpr ⟨⟨by decide, by decide⟩, List.forall_mem_cons.mpr ⟨⟨by decide, by decide⟩, List.forall_mem_cons.mpr ⟨⟨by decide, by decide⟩, List.forall_mem_cons.mpr ⟨⟨by decide, by decide⟩, fun _ h => absurd h List.not_mem_nil⟩⟩⟩⟩) (⟨Or.inr ⟨0, List.mem_cons_self, rfl⟩, ⟨⟨_, rfl, hc0⟩, trivial⟩⟩) hP hD hS rfl hl.1 rfl (Nat.le_of_ble_eq_true rfl) dl_296 hf (fun r f2 g2 H2 locs2 hq2 hJ2 hP hD hS => ?_)
  obtain ⟨o2, ho2, hr2, hT2⟩ := hq2
  have h8 := List.all_eq_true.mp (show q_mtickF.2.all (fun o => ck_isN 0 o && ck_val 0 0 o) = true by decide) o2 ho2
  simp only [Bool.and_eq_true] at h8
  obtain ⟨x2, rfl, hx2⟩ := ck_isN_ok h8.1 hr2
  show W p l e room_1 s m args below meth c H2 locs2 (cells + 1) (slots + 6) Q (F0 m 299 ls [.int x2])
  have hc9 := ck_val_ok h8.2 hT2
  refine lv_istore (lv' := [(6, .int x2), (5, .int (Int32.ofNat 0)), (0, .ref b), (1, .ref (h 0)), (2, .ref (hm 0)), (3, .ref ho), (4, .int i)]) C.1.1 C.1.2.1 dl_299 hl (by decide) rfl (fun ls hl => ?_)
  refine lv_aload_n C.1.1 C.1.2.1 dl_301 rfl (lv_at hl 4 rfl) ?_
  refine lm_goR (h := h) (hm := hm) (As := []) (rest := []) C (c_fm0 xL_ok) (cwV 0 C.1.2.2.2.2 (kk_gV kw_853 kw_854 kw_855 kw_9 kw_856) rfl rfl rfl (by decide +kernel) ⟨Nat.le_of_ble_eq_true rfl, Nat.le_of_ble_eq_true rfl⟩) hJ2 (List.forall_mem_cons.mpr ⟨⟨by show (0 : Int) ≤ (f2 0).toInt; omega, by show (f2 0).toInt ≤ (0 : Int); omega⟩, List.forall_mem_cons.mpr ⟨ck_in_top _, List.forall_mem_cons.mpr ⟨ck_in_top _, List.forall_mem_cons.mpr ⟨ck_in_top _, fun _ h => absurd h List.not_mem_nil⟩⟩⟩⟩) ⟨Or.inr ⟨0, List.mem_cons_self, rfl⟩, trivial⟩ hP hD hS rfl hl.1 rfl (Nat.le_of_ble_eq_true rfl) dl_302 hf (fun r f3 g3 H3 locs3 hq3 hJ3 hP hD hS => ?_)
  obtain ⟨o3, ho3, hr3, hT3⟩ := hq3
  obtain ⟨x3, rfl, hx3⟩ := ck_isN_ok (List.all_eq_true.mp (show q_fm0.2.all (ck_isN 0) = true by decide) o3 ho3) hr3
  show W p l e room_1 s m args below meth c H3 locs3 (cells + 1) (slots + 6) Q (F0 m 305 ls [.int x3])
  refine lv_iload C.1.1 C.1.2.1 dl_305 (lv_at hl 1 rfl) ?_
  refine lv_icmp_eq (tgt := 312) C.1.1 C.1.2.1 dl_307 (by decide) (fun _ => ?_) (fun hne => absurd (Int32.toInt_inj.mp (by rw [hx3]; rfl)) hne)
  refine lv_iload C.1.1 C.1.2.1 dl_312 (lv_at hl 1 rfl) ?_
  refine lv_if_ne (tgt := 329) C.1.1 C.1.2.1 dl_314 (by decide) (fun hne => absurd rfl hne) (fun _ => ?_)
  refine lv_aload_n C.1.1 C.1.2.1 dl_317 rfl (lv_at hl 5 rfl) ?_
  refine lv_iconst (v := 0) C.1.1 C.1.2.1 dl_318 (by decide) ?_
  refine va_lald C.1.1 C.1.2.1 C.2.2.2.1 hP 0 2 rfl rfl (vp_in_iff.mpr (by decide)) dl_319 ?_
  refine lv_iload C.1.1 C.1.2.1 dl_320 (lv_at hl 0 rfl) ?_
  refine lv_i2l (v := x2.toInt64) C.1.1 C.1.2.1 dl_322 rfl ?_
  have e9 : (g1 200 (0 : Int32).toNatClampNeg) = x2 := Int32.toInt_inj.mp ((hv rfl).trans hx2.symm)
  refine W.lcmp C.1.1 C.1.2.1 dl_323 ?_
  refine lv_if_eq (tgt := 329) C.1.1 C.1.2.1 dl_324 (by decide) (fun _ => ?_) (fun hne => absurd (by rw [e9]; exact lw_lcmp _) hne)
  refine lv_goto (tgt := 840) C.1.1 C.1.2.1 dl_329 (by decide) ?_
  exact kk H3 locs3 _ hS (lv_sub hl [2, 3, 4, 5, 6] rfl)
theorem lo_4 {p : Program} {l : Launch} {e : Env} {s : State} {m : MethodId} {args : Array Value} {below : List Frame} {meth : Method} {c : Code} {H : Heap} {locs : List Loc} {cells slots : Nat} {Q : State → Prop} {D : va_G} {B : Nat} {A : Nat → Prop} {h hm : Nat → Nat} {cI cZ cJ : ClassId} {ho : Nat} {ls : Array Slot} {b L : Nat} {xs : Nat → Int32} {i : Int32} {cx : Cond} (hfl : l.flags = flags0) (C : zz_Cx p m meth c code 7 ret s args (cx :: kk_W) "NightCyclerLaw" D vN (tyN cI cZ cJ) A B (xL B h)) (hX : va_X b L xs s s.heap) (hbl : b < s.heap.size) (hbA : ¬ A b) (i1 : vp_in (i + 1) L) (i2 : vp_in (i + 2) L) (hP : va_P D vN (wW cI cZ cJ ho h hm fN0 gN0 fM0 gM0) H) (hD : va_D A (wW cI cZ cJ ho h hm fN0 gN0 fM0 gM0)) (hS : va_S A s.heap H locs) (hl : lv_has ls 7 [(0, .ref b), (1, .ref (h 0)), (2, .ref (hm 0)), (3, .ref ho), (4, .int i)]) (hf : cells + 1 ≤ room_1.cells ∧ slots + 6 ≤ room_1.slots) (kk : ∀ (H1 : Heap) (locs1 : List Loc) (ls1 : Array Slot), va_S A s.heap H1 locs1 → lv_has ls1 7 [(0, .ref b), (1, .ref (h 0)), (2, .ref (hm 0)), (3, .ref ho), (4, .int i)] → W p l e room_1 s m args below meth c H1 locs1 (cells + 1) (slots + 6) Q (F0 m 840 ls1 [])) : W p l e room_1 s m args below meth c H locs cells slots Q (F0 m 276 ls []) := by
  have hlo0 := i32_lo (xs (i + 1).toNatClampNeg)
  have hhi0 := i32_hi (xs (i + 1).toNatClampNeg)
  rcases (show ((-2147483648 : Int) ≤ (xs (i + 1).toNatClampNeg).toInt ∧ (xs (i + 1).toNatClampNeg).toInt ≤ (0 : Int)) ∨ ((5001 : Int) ≤ (xs (i + 1).toNatClampNeg).toInt ∧ (xs (i + 1).toNatClampNeg).toInt ≤ (2147483647 : Int)) ∨ ((1 : Int) ≤ (xs (i + 1).toNatClampNeg).toInt ∧ (xs (i + 1).toNatClampNeg).toInt ≤ (5000 : Int)) by omega) with hc0 | hc0 | hc0
  · exact lo_4_fa39 hfl C hX hbl hbA i1 i2 hP hD hS hl hf hc0 kk
  · exact lo_4_fa40 hfl C hX hbl hbA i1 i2 hP hD hS hl hf hc0 kk
  · exact lo_4_tickF hfl C hX hbl hbA i1 i2 hP hD hS hl hf hc0 kk
theorem lo_5_fa30 {p : Program} {l : Launch} {e : Env} {s : State} {m : MethodId} {args : Array Value} {below : List Frame} {meth : Method} {c : Code} {H : Heap} {locs : List Loc} {cells slots : Nat} {Q : State → Prop} {D : va_G} {B : Nat} {A : Nat → Prop} {h hm : Nat → Nat} {cI cZ cJ : ClassId} {ho : Nat} {ls : Array Slot} {b L : Nat} {xs : Nat → Int32} {i : Int32} {cx : Cond} (hfl : l.flags = flags0) (C : zz_Cx p m meth c code 7 ret s args (cx :: kk_W) "NightCyclerLaw" D vN (tyN cI cZ cJ) A B (xL B h)) (hX : va_X b L xs s s.heap) (hbl : b < s.heap.size) (hbA : ¬ A b) (i1 : vp_in (i + 1) L) (i2 : vp_in (i + 2) L) (hP : va_P D vN (wW cI cZ cJ ho h hm fN0 gN0 fM0 gM0) H) (hD : va_D A (wW cI cZ cJ ho h hm fN0 gN0 fM0 gM0)) (hS : va_S A s.heap H locs) (hl : lv_has ls 7 [(0, .ref b), (1, .ref (h 0)), (2, .ref (hm 0)), (3, .ref ho), (4, .int i)]) (hf : cells + 1 ≤ room_1.cells ∧ slots + 6 ≤ room_1.slots)  (kk : ∀ (H1 : Heap) (locs1 : List Loc) (ls1 : Array Slot), va_S A s.heap H1 locs1 → lv_has ls1 7 [(0, .ref b), (1, .ref (h 0)), (2, .ref (hm 0)), (3, .ref ho), (4, .int i)] → W p l e room_1 s m args below meth c H1 locs1 (cells + 1) (slots + 6) Q (F0 m 840 ls1 [])) : W p l e room_1 s m args below meth c H locs cells slots Q (F0 m 332 ls []) := by
  refine W.widen (k := cells + 1) (n := slots + 6) (Nat.le_succ _) (Nat.le_add_right _ _) ?_
  refine lv_aload_n C.1.1 C.1.2.1 dl_332 rfl (lv_at hl 1 rfl) ?_
  refine lv_aload_n C.1.1 C.1.2.1 dl_333 rfl (lv_at hl 0 rfl) ?_
  refine lv_iload C.1.1 C.1.2.1 dl_334 (lv_at hl 4 rfl) ?_
  refine lv_iconst (v := 1) C.1.1 C.1.2.1 dl_336 (by decide) ?_
  refine lv_iadd C.1.1 C.1.2.1 dl_337 ?_
  refine va_sld C.1.1 C.1.2.1 hX hbl hbA hS i1 dl_338 ?_
  refine lv_aload_n C.1.1 C.1.2.1 dl_339 rfl (lv_at hl 0 rfl) ?_
  refine lv_iload C.1.1 C.1.2.1 dl_340 (lv_at hl 4 rfl) ?_
  refine lv_iconst (v := 2) C.1.1 C.1.2.1 dl_342 (by decide) ?_
  refine lv_iadd C.1.1 C.1.2.1 dl_343 ?_
  refine va_sld C.1.1 C.1.2.1 hX hbl hbA hS i2 dl_344 ?_
  refine lw_goF (h := h) (hm := hm) (As := [.int (xs (i + 1).toNatClampNeg), .int (xs (i + 2).toNatClampNeg)]) C c_fa30 (cwV 2 C.1.2.2.2.2 (kk_gV kw_213 kw_214 kw_215 kw_1 kw_216) rfl rfl rfl (by decide +kernel) ⟨Nat.le_of_ble_eq_true rfl, Nat.le_of_ble_eq_true rfl⟩) gI_A (List.forall_mem_cons.mpr ⟨⟨by decide, by decide⟩, List.forall_mem_cons.mpr ⟨⟨by decide, by decide⟩, List.forall_mem_cons.mpr ⟨⟨by decide, by decide⟩, fun _ h => absurd h List.not_mem_nil⟩⟩⟩) (⟨Or.inr ⟨0, List.mem_cons_self, rfl⟩, ⟨⟨_, rfl, ck_in_top _⟩, ⟨⟨_, rfl, ck_in_top _⟩, trivial⟩⟩⟩) hP hD hS rfl hl.1 rfl dl_345 hf (fun r f1 g1 H1 locs1 hq hP hD hS => ?_)
  obtain ⟨o, ho1, hr, hT⟩ := hq
  obtain ⟨x, rfl, hx⟩ := ck_isN_ok (List.all_eq_true.mp (show q_fa30.2.all (ck_isN 0) = true by decide) o ho1) hr
  show W p l e room_1 s m args below meth c H1 locs1 (cells + 1) (slots + 6) Q (F0 m 348 ls [.int x])
  refine lv_aload_n C.1.1 C.1.2.1 dl_348 rfl (lv_at hl 2 rfl) ?_
  refine lv_aload_n C.1.1 C.1.2.1 dl_349 rfl (lv_at hl 0 rfl) ?_
  refine lv_iload C.1.1 C.1.2.1 dl_350 (lv_at hl 4 rfl) ?_
  refine lv_iconst (v := 1) C.1.1 C.1.2.1 dl_352 (by decide) ?_
  refine lv_iadd C.1.1 C.1.2.1 dl_353 ?_
  refine va_sld C.1.1 C.1.2.1 hX hbl hbA hS i1 dl_354 ?_
  refine lv_aload_n C.1.1 C.1.2.1 dl_355 rfl (lv_at hl 0 rfl) ?_
  refine lv_iload C.1.1 C.1.2.1 dl_356 (lv_at hl 4 rfl) ?_
  refine lv_iconst (v := 2) C.1.1 C.1.2.1 dl_358 (by decide) ?_
  refine lv_iadd C.1.1 C.1.2.1 dl_359 ?_
  refine va_sld C.1.1 C.1.2.1 hX hbl hbA hS i2 dl_360 ?_
  refine lm_goR (h := h) (hm := hm) (As := [.int (xs (i + 1).toNatClampNeg), .int (xs (i + 2).toNatClampNeg)]) (rest := [.int x]) C (c_fm21 xL_ok) (cwV 2 C.1.2.2.2.2 (kk_gV kw_944 kw_945 kw_946 kw_9 kw_947) rfl rfl rfl (by decide +kernel) ⟨Nat.le_of_ble_eq_true rfl, Nat.le_of_ble_eq_true rfl⟩) gI_FM (List.forall_mem_cons.mpr ⟨⟨by decide, by decide⟩, List.forall_mem_cons.mpr ⟨⟨by decide, by decide⟩, List.forall_mem_cons.mpr ⟨⟨by decide, by decide⟩, List.forall_mem_cons.mpr ⟨⟨by decide, by decide⟩, fun _ h => absurd h List.not_mem_nil⟩⟩⟩⟩) (⟨Or.inr ⟨0, List.mem_cons_self, rfl⟩, ⟨⟨_, rfl, ck_in_top _⟩, ⟨⟨_, rfl, ck_in_top _⟩, trivial⟩⟩⟩) hP hD hS rfl hl.1 rfl (Nat.le_of_ble_eq_true rfl) dl_361 hf (fun r f2 g2 H2 locs2 hq2 hJ2 hP hD hS => ?_)
  obtain ⟨o2, ho2, hr2, hT2⟩ := hq2
  have h8 := List.all_eq_true.mp (show q_fm21.2.all (fun o => ck_isN 0 o && true) = true by decide) o2 ho2
  simp only [Bool.and_eq_true] at h8
  obtain ⟨x2, rfl, hx2⟩ := ck_isN_ok h8.1 hr2
  show W p l e room_1 s m args below meth c H2 locs2 (cells + 1) (slots + 6) Q (F0 m 364 ls [.int x2, .int x])
  refine lv_icmp_eq (tgt := 840) C.1.1 C.1.2.1 dl_364 (by decide) (fun _ => ?_) (fun hne => absurd (Int32.toInt_inj.mp (hx.trans hx2.symm)) hne)
  exact kk H2 locs2 _ hS hl
theorem lo_5 {p : Program} {l : Launch} {e : Env} {s : State} {m : MethodId} {args : Array Value} {below : List Frame} {meth : Method} {c : Code} {H : Heap} {locs : List Loc} {cells slots : Nat} {Q : State → Prop} {D : va_G} {B : Nat} {A : Nat → Prop} {h hm : Nat → Nat} {cI cZ cJ : ClassId} {ho : Nat} {ls : Array Slot} {b L : Nat} {xs : Nat → Int32} {i : Int32} {cx : Cond} (hfl : l.flags = flags0) (C : zz_Cx p m meth c code 7 ret s args (cx :: kk_W) "NightCyclerLaw" D vN (tyN cI cZ cJ) A B (xL B h)) (hX : va_X b L xs s s.heap) (hbl : b < s.heap.size) (hbA : ¬ A b) (i1 : vp_in (i + 1) L) (i2 : vp_in (i + 2) L) (hP : va_P D vN (wW cI cZ cJ ho h hm fN0 gN0 fM0 gM0) H) (hD : va_D A (wW cI cZ cJ ho h hm fN0 gN0 fM0 gM0)) (hS : va_S A s.heap H locs) (hl : lv_has ls 7 [(0, .ref b), (1, .ref (h 0)), (2, .ref (hm 0)), (3, .ref ho), (4, .int i)]) (hf : cells + 1 ≤ room_1.cells ∧ slots + 6 ≤ room_1.slots) (kk : ∀ (H1 : Heap) (locs1 : List Loc) (ls1 : Array Slot), va_S A s.heap H1 locs1 → lv_has ls1 7 [(0, .ref b), (1, .ref (h 0)), (2, .ref (hm 0)), (3, .ref ho), (4, .int i)] → W p l e room_1 s m args below meth c H1 locs1 (cells + 1) (slots + 6) Q (F0 m 840 ls1 [])) : W p l e room_1 s m args below meth c H locs cells slots Q (F0 m 332 ls []) := by
  exact lo_5_fa30 hfl C hX hbl hbA i1 i2 hP hD hS hl hf kk

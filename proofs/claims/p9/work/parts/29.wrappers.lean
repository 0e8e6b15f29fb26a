theorem kw_382 : (Jvm.Cond.classLink "NightCyclerLaw" (13 : Nat) "java/lang/IllegalStateException") ∈ kk_W := kk_in 431 (by decide +kernel) (by decide +kernel)
theorem kw_383 : (Jvm.Cond.classLink "NightCyclerLaw" (15 : Nat) "java/lang/IllegalArgumentException") ∈ kk_W := kk_in 432 (by decide +kernel) (by decide +kernel)
theorem kw_384 : (Jvm.Cond.methodLink "NightCyclerLaw" (7 : Nat) ({ cls := "NightCycler", name := "prescribe", desc := "(II)V" } : Jvm.MethodName)) ∈ kk_W := kk_in 433 (by decide +kernel) (by decide +kernel)
theorem kw_385 : (Jvm.Cond.instanceMethod ({ cls := "NightCycler", name := "prescribe", desc := "(II)V" } : Jvm.MethodName)) ∈ kk_W := kk_in 434 (by decide +kernel) (by decide +kernel)
theorem kw_386 : (Jvm.Cond.selects "NightCycler" ({ cls := "NightCycler", name := "prescribe", desc := "(II)V" } : Jvm.MethodName) ({ cls := "NightCycler", name := "prescribe", desc := "(II)V" } : Jvm.MethodName)) ∈ kk_W := kk_in 435 (by decide +kernel) (by decide +kernel)
theorem kw_387 : (Jvm.Cond.code ({ cls := "NightCycler", name := "prescribe", desc := "(II)V" } : Jvm.MethodName) prog_1_method_2_code (3 : Nat) (Option.none : Option Jvm.ClassFile.FieldType)) ∈ kk_W := kk_in 436 (by decide +kernel) (by decide +kernel)
theorem kw_490 : (Jvm.Cond.classLink "NightCyclerLaw" (20 : Nat) "java/lang/UnsupportedOperationException") ∈ kk_W := kk_in 539 (by decide +kernel) (by decide +kernel)
theorem kw_491 : (Jvm.Cond.methodLink "NightCyclerLaw" (17 : Nat) ({ cls := "NightCycler", name := "start", desc := "()V" } : Jvm.MethodName)) ∈ kk_W := kk_in 540 (by decide +kernel) (by decide +kernel)
theorem kw_492 : (Jvm.Cond.instanceMethod ({ cls := "NightCycler", name := "start", desc := "()V" } : Jvm.MethodName)) ∈ kk_W := kk_in 541 (by decide +kernel) (by decide +kernel)
theorem kw_493 : (Jvm.Cond.selects "NightCycler" ({ cls := "NightCycler", name := "start", desc := "()V" } : Jvm.MethodName) ({ cls := "NightCycler", name := "start", desc := "()V" } : Jvm.MethodName)) ∈ kk_W := kk_in 542 (by decide +kernel) (by decide +kernel)
theorem kw_494 : (Jvm.Cond.code ({ cls := "NightCycler", name := "start", desc := "()V" } : Jvm.MethodName) prog_1_method_3_code (1 : Nat) (Option.none : Option Jvm.ClassFile.FieldType)) ∈ kk_W := kk_in 543 (by decide +kernel) (by decide +kernel)
theorem kw_534 : (Jvm.Cond.methodLink "NightCyclerLaw" (22 : Nat) ({ cls := "NightCycler", name := "pause", desc := "(Z)V" } : Jvm.MethodName)) ∈ kk_W := kk_in 583 (by decide +kernel) (by decide +kernel)
theorem kw_535 : (Jvm.Cond.instanceMethod ({ cls := "NightCycler", name := "pause", desc := "(Z)V" } : Jvm.MethodName)) ∈ kk_W := kk_in 584 (by decide +kernel) (by decide +kernel)
theorem kw_536 : (Jvm.Cond.selects "NightCycler" ({ cls := "NightCycler", name := "pause", desc := "(Z)V" } : Jvm.MethodName) ({ cls := "NightCycler", name := "pause", desc := "(Z)V" } : Jvm.MethodName)) ∈ kk_W := kk_in 585 (by decide +kernel) (by decide +kernel)
theorem kw_537 : (Jvm.Cond.code ({ cls := "NightCycler", name := "pause", desc := "(Z)V" } : Jvm.MethodName) prog_1_method_4_code (2 : Nat) (Option.none : Option Jvm.ClassFile.FieldType)) ∈ kk_W := kk_in 586 (by decide +kernel) (by decide +kernel)
theorem kw_541 : (Jvm.Cond.methodLink "NightCyclerLaw" (26 : Nat) ({ cls := "NightCycler", name := "end", desc := "()V" } : Jvm.MethodName)) ∈ kk_W := kk_in 590 (by decide +kernel) (by decide +kernel)
theorem kw_542 : (Jvm.Cond.instanceMethod ({ cls := "NightCycler", name := "end", desc := "()V" } : Jvm.MethodName)) ∈ kk_W := kk_in 591 (by decide +kernel) (by decide +kernel)
theorem kw_543 : (Jvm.Cond.selects "NightCycler" ({ cls := "NightCycler", name := "end", desc := "()V" } : Jvm.MethodName) ({ cls := "NightCycler", name := "end", desc := "()V" } : Jvm.MethodName)) ∈ kk_W := kk_in 592 (by decide +kernel) (by decide +kernel)
theorem kw_544 : (Jvm.Cond.code ({ cls := "NightCycler", name := "end", desc := "()V" } : Jvm.MethodName) prog_1_method_5_code (1 : Nat) (Option.none : Option Jvm.ClassFile.FieldType)) ∈ kk_W := kk_in 593 (by decide +kernel) (by decide +kernel)
theorem kw_548 : (Jvm.Cond.methodLink "NightCyclerLaw" (29 : Nat) ({ cls := "NightCycler", name := "tick", desc := "(I)I" } : Jvm.MethodName)) ∈ kk_W := kk_in 597 (by decide +kernel) (by decide +kernel)
theorem kw_549 : (Jvm.Cond.instanceMethod ({ cls := "NightCycler", name := "tick", desc := "(I)I" } : Jvm.MethodName)) ∈ kk_W := kk_in 598 (by decide +kernel) (by decide +kernel)
theorem kw_550 : (Jvm.Cond.selects "NightCycler" ({ cls := "NightCycler", name := "tick", desc := "(I)I" } : Jvm.MethodName) ({ cls := "NightCycler", name := "tick", desc := "(I)I" } : Jvm.MethodName)) ∈ kk_W := kk_in 599 (by decide +kernel) (by decide +kernel)
theorem kw_551 : (Jvm.Cond.code ({ cls := "NightCycler", name := "tick", desc := "(I)I" } : Jvm.MethodName) prog_1_method_6_code (3 : Nat) (Option.some Jvm.ClassFile.FieldType.int)) ∈ kk_W := kk_in 600 (by decide +kernel) (by decide +kernel)
theorem kw_648 : (Jvm.Cond.methodLink "NightCyclerLaw" (33 : Nat) ({ cls := "NightCycler", name := "cut", desc := "(I)V" } : Jvm.MethodName)) ∈ kk_W := kk_in 697 (by decide +kernel) (by decide +kernel)
theorem kw_649 : (Jvm.Cond.instanceMethod ({ cls := "NightCycler", name := "cut", desc := "(I)V" } : Jvm.MethodName)) ∈ kk_W := kk_in 698 (by decide +kernel) (by decide +kernel)
theorem kw_650 : (Jvm.Cond.selects "NightCycler" ({ cls := "NightCycler", name := "cut", desc := "(I)V" } : Jvm.MethodName) ({ cls := "NightCycler", name := "cut", desc := "(I)V" } : Jvm.MethodName)) ∈ kk_W := kk_in 699 (by decide +kernel) (by decide +kernel)
theorem kw_651 : (Jvm.Cond.code ({ cls := "NightCycler", name := "cut", desc := "(I)V" } : Jvm.MethodName) prog_1_method_17_code (2 : Nat) (Option.none : Option Jvm.ClassFile.FieldType)) ∈ kk_W := kk_in 700 (by decide +kernel) (by decide +kernel)
theorem kw_675 : (Jvm.Cond.methodLink "NightCyclerLaw" (37 : Nat) ({ cls := "NightCycler", name := "power", desc := "(I)I" } : Jvm.MethodName)) ∈ kk_W := kk_in 724 (by decide +kernel) (by decide +kernel)
theorem kw_676 : (Jvm.Cond.instanceMethod ({ cls := "NightCycler", name := "power", desc := "(I)I" } : Jvm.MethodName)) ∈ kk_W := kk_in 725 (by decide +kernel) (by decide +kernel)
theorem kw_677 : (Jvm.Cond.selects "NightCycler" ({ cls := "NightCycler", name := "power", desc := "(I)I" } : Jvm.MethodName) ({ cls := "NightCycler", name := "power", desc := "(I)I" } : Jvm.MethodName)) ∈ kk_W := kk_in 726 (by decide +kernel) (by decide +kernel)
theorem kw_678 : (Jvm.Cond.code ({ cls := "NightCycler", name := "power", desc := "(I)I" } : Jvm.MethodName) prog_1_method_18_code (3 : Nat) (Option.some Jvm.ClassFile.FieldType.int)) ∈ kk_W := kk_in 727 (by decide +kernel) (by decide +kernel)
theorem kw_695 : (Jvm.Cond.methodLink "NightCyclerLaw" (40 : Nat) ({ cls := "NightCycler", name := "state", desc := "(I)I" } : Jvm.MethodName)) ∈ kk_W := kk_in 744 (by decide +kernel) (by decide +kernel)
theorem kw_696 : (Jvm.Cond.instanceMethod ({ cls := "NightCycler", name := "state", desc := "(I)I" } : Jvm.MethodName)) ∈ kk_W := kk_in 745 (by decide +kernel) (by decide +kernel)
theorem kw_697 : (Jvm.Cond.selects "NightCycler" ({ cls := "NightCycler", name := "state", desc := "(I)I" } : Jvm.MethodName) ({ cls := "NightCycler", name := "state", desc := "(I)I" } : Jvm.MethodName)) ∈ kk_W := kk_in 746 (by decide +kernel) (by decide +kernel)
theorem kw_698 : (Jvm.Cond.code ({ cls := "NightCycler", name := "state", desc := "(I)I" } : Jvm.MethodName) prog_1_method_19_code (2 : Nat) (Option.some Jvm.ClassFile.FieldType.int)) ∈ kk_W := kk_in 747 (by decide +kernel) (by decide +kernel)
theorem kw_703 : (Jvm.Cond.classLink "NightCyclerLaw" (47 : Nat) "java/lang/IndexOutOfBoundsException") ∈ kk_W := kk_in 752 (by decide +kernel) (by decide +kernel)
theorem kw_704 : (Jvm.Cond.methodLink "NightCyclerLaw" (43 : Nat) ({ cls := "NightCycler", name := "report", desc := "(II)I" } : Jvm.MethodName)) ∈ kk_W := kk_in 753 (by decide +kernel) (by decide +kernel)
theorem kw_705 : (Jvm.Cond.instanceMethod ({ cls := "NightCycler", name := "report", desc := "(II)I" } : Jvm.MethodName)) ∈ kk_W := kk_in 754 (by decide +kernel) (by decide +kernel)
theorem kw_706 : (Jvm.Cond.selects "NightCycler" ({ cls := "NightCycler", name := "report", desc := "(II)I" } : Jvm.MethodName) ({ cls := "NightCycler", name := "report", desc := "(II)I" } : Jvm.MethodName)) ∈ kk_W := kk_in 755 (by decide +kernel) (by decide +kernel)
theorem kw_707 : (Jvm.Cond.code ({ cls := "NightCycler", name := "report", desc := "(II)I" } : Jvm.MethodName) prog_1_method_20_code (3 : Nat) (Option.some Jvm.ClassFile.FieldType.int)) ∈ kk_W := kk_in 756 (by decide +kernel) (by decide +kernel)
/-! the law's wrappers -/
def nc_L : List (String × String) := [("java/lang/IllegalArgumentException", "java/lang/IllegalStateException"), ("java/lang/UnsupportedOperationException", "java/lang/IllegalStateException"), ("java/lang/IllegalArgumentException", "java/lang/IndexOutOfBoundsException")]
def xL (B : Nat) (h : Nat → Nat) (U : State) (H : Heap) : Prop := xN B h U H ∧ ∀ z ∈ nc_L, va_Nc z.1 z.2 U
theorem xL_ok {B : Nat} {h : Nat → Nat} : zz_Xok B (xL B h) := fun s U H H1 hW hX hq => ⟨xN_ok s U H H1 hW hX.1 hq, fun z hz => (hX.2 z hz).moved hW.alike⟩
/-- the class's world beside the law's array of one long -/
def wO (cI cZ cJ : ClassId) (ho : Nat) (h : Nat → Nat) (f : zz_F) (g : zz_G) : va_W := (ho, .inl (cJ, 1, .inr (.inl (fun j => (g 200 j).toInt64)))) :: wN cI cZ h f g
theorem wO_st (v : Nat → Int32) (x : Int32) : vp_updL (fun j => (v j).toInt64) (0 : Int32).toNatClampNeg x.toInt64 = fun j => (upd v 0 x j).toInt64 := by
  funext j
  by_cases hj : j = 0
  · subst hj; rfl
  · show (if j = 0 then x.toInt64 else (v j).toInt64) = (upd v 0 x j).toInt64
    rw [if_neg hj, pk_un hj]
def RNL : String := "NightCyclerLaw"
theorem dw_prescribe_0 : decode method_3_code 0 = .ok (.aload_n 0, 1) := by decide +kernel
theorem dw_prescribe_1 : decode method_3_code 1 = .ok (.iload_n 1, 1) := by decide +kernel
theorem dw_prescribe_2 : decode method_3_code 2 = .ok (.iload_n 2, 1) := by decide +kernel
theorem dw_prescribe_3 : decode method_3_code 3 = .ok (.invokevirtual 7, 3) := by decide +kernel
theorem dw_prescribe_6 : decode method_3_code 6 = .ok (.goto 9, 3) := by decide +kernel
theorem dw_prescribe_9 : decode method_3_code 9 = .ok (.astore_n 3, 1) := by decide +kernel
theorem dw_prescribe_10 : decode method_3_code 10 = .ok (.iconst 1, 1) := by decide +kernel
theorem dw_prescribe_11 : decode method_3_code 11 = .ok (.ireturn, 1) := by decide +kernel
theorem dw_prescribe_12 : decode method_3_code 12 = .ok (.astore_n 3, 1) := by decide +kernel
theorem dw_prescribe_13 : decode method_3_code 13 = .ok (.iconst 2, 1) := by decide +kernel
theorem dw_prescribe_14 : decode method_3_code 14 = .ok (.ireturn, 1) := by decide +kernel
theorem dw_prescribe_15 : decode method_3_code 15 = .ok (.iconst 0, 1) := by decide +kernel
theorem dw_prescribe_16 : decode method_3_code 16 = .ok (.ireturn, 1) := by decide +kernel
abbrev yw_prescribe : MethodName := ⟨"NightCyclerLaw", "prescribe", "(LNightCycler;II)I"⟩
set_option maxRecDepth 100000 in
theorem ww_prescribe {l : Launch} {D : va_G} {B : Nat} {h : Nat → Nat} {cI cZ cJ : ClassId} {f : zz_F} {g : zz_G} {sz : Nat} {a b : Int32} {rm : Room} {post : Option Value → zz_F → zz_G → Prop} {px : String → zz_F → zz_G → Prop} (hM : ∀ sz, zz_cx l D vN (tyN cI cZ cJ) B (wN cI cZ h) (xN B h) f g sz (⟨"NightCycler", "prescribe", "(II)V"⟩ : MethodName) (Cond.code (⟨"NightCycler", "prescribe", "(II)V"⟩ : MethodName) prog_1_method_2_code 3 (none) :: kk_W) rm [.ref (h 0), .int a, .int b] post px) (hrm : rm.cells = 1 ∧ rm.slots = 6 ∧ rm.frames ≤ 6 ∧ rm.locals ≤ 90) (hpo : ∀ r f1 g1, post r f1 g1 → r = none) (hpx : ∀ E f1 g1, px E f1 g1 → E = "java/lang/IllegalStateException" ∨ E = "java/lang/IllegalArgumentException") :
    zz_c l D vN (tyN cI cZ cJ) B (wN cI cZ h) (xL B h) f g sz yw_prescribe (Cond.codeWith yw_prescribe method_3_code 4 (some .int) [((0 : Nat), (6 : Nat), (9 : Nat), (13 : Nat)), ((0 : Nat), (6 : Nat), (12 : Nat), (15 : Nat))] :: kk_W) { frames := 7, cells := 1, slots := 6, locals := 112 } 1 6 [.ref (h 0), .int a, .int b] (fun r f1 g1 => (r = some (.int 0) ∧ (∃ r0, post r0 f1 g1)) ∨ (r = some (.int 1) ∧ px "java/lang/IllegalStateException" f1 g1) ∨ (r = some (.int 2) ∧ px "java/lang/IllegalArgumentException" f1 g1)) := by
  refine zw_of (cc := method_3_code) (ret := some .int) (maxL := 4) (hh := [((0 : Nat), (6 : Nat), (9 : Nat), (13 : Nat)), ((0 : Nat), (6 : Nat), (12 : Nat), (15 : Nat))]) (by decide) rfl (Nat.le_of_ble_eq_true rfl) xL_ok ?_
  intro p e s m below meth c A ls C htab hP hD hl
  have hl : lv_has ls 4 [(0, .ref (h 0)), (1, .int a), (2, .int b)] := hl
  have hts := C.1.2.2.2.2
  refine lv_aload_n C.1.1 C.1.2.1 dw_prescribe_0 rfl (lv_at hl 0 rfl) ?_
  refine lv_iload_n C.1.1 C.1.2.1 dw_prescribe_1 rfl (lv_at hl 1 rfl) ?_
  refine lv_iload_n C.1.1 C.1.2.1 dw_prescribe_2 rfl (lv_at hl 2 rfl) ?_
  refine zx_callV (w := wN cI cZ h) (b := h 0) (As := [.int a, .int b]) (rest := []) [] C (fun U H hx => hx.1) xN_ok (hM _) (cwV 2 hts (kk_gV kw_384 kw_385 kw_386 kw_1 kw_387) rfl hrm.1 hrm.2.1 (by decide +kernel) ⟨by have := hrm.2.2.1; show rm.frames + 1 ≤ 7; omega, by have := hrm.2.2.2; show 8 + (3 + 11) + rm.locals ≤ 112; omega⟩) (va_recv C.2.2.2.1 hP (ci := 0) (q0 := 0) rfl rfl) hP hD va_S.rf rfl hl.1 rfl (Nat.le_of_ble_eq_true rfl) dw_prescribe_3 ⟨Nat.le_refl _, Nat.le_refl _⟩ (fun r f1 g1 H locs hq hP hD hS => ?_) (fun hpl E q th f1 g1 H locs hq hP hD hS hE => ?_)
  · obtain rfl := hpo _ _ _ hq
    refine lv_goto (tgt := 15) C.1.1 C.1.2.1 dw_prescribe_6 (by decide) ?_
    refine lv_iconst (v := 0) C.1.1 C.1.2.1 dw_prescribe_15 (by decide) ?_
    exact zz_reti C rfl hP hD hS (Or.inl ⟨rfl, ⟨_, hq⟩⟩) dw_prescribe_16
  · rcases hpx E f1 g1 hq with rfl | rfl
    · refine ⟨9, by rw [htab]; exact zt_hit hpl C.1.2.2.2.1 rfl (by decide) (hts _ (List.mem_cons_of_mem _ kw_382)) (va_Nw.use rfl (C.2.2.2.2.2.2.2.1.1.1 (.castable "java/lang/IllegalStateException" "java/lang/IllegalStateException") (by decide +kernel))) hE, ?_⟩
      refine lv_astore_n (lv' := [(3, .ref q), (0, .ref (h 0)), (1, .int a), (2, .int b)]) C.1.1 C.1.2.1 dw_prescribe_9 rfl hl (by decide) rfl (fun ls hl => ?_)
      refine lv_iconst (v := 1) C.1.1 C.1.2.1 dw_prescribe_10 (by decide) ?_
      exact zz_reti C rfl hP hD hS (Or.inr (Or.inl ⟨rfl, hq⟩)) dw_prescribe_11
    · refine ⟨12, by rw [htab]; exact zt_miss (name := "java/lang/IllegalStateException") hpl C.1.2.2.2.1 rfl (by decide) (hts _ (List.mem_cons_of_mem _ kw_382)) (C.2.2.2.2.2.2.2.1.2 ("java/lang/IllegalArgumentException", "java/lang/IllegalStateException") (by decide)) hE (zt_hit hpl C.1.2.2.2.1 rfl (by decide) (hts _ (List.mem_cons_of_mem _ kw_383)) (va_Nw.use rfl (C.2.2.2.2.2.2.2.1.1.1 (.castable "java/lang/IllegalArgumentException" "java/lang/IllegalArgumentException") (by decide +kernel))) hE), ?_⟩
      refine lv_astore_n (lv' := [(3, .ref q), (0, .ref (h 0)), (1, .int a), (2, .int b)]) C.1.1 C.1.2.1 dw_prescribe_12 rfl hl (by decide) rfl (fun ls hl => ?_)
      refine lv_iconst (v := 2) C.1.1 C.1.2.1 dw_prescribe_13 (by decide) ?_
      exact zz_reti C rfl hP hD hS (Or.inr (Or.inr (⟨rfl, hq⟩))) dw_prescribe_14
theorem dw_start_0 : decode method_4_code 0 = .ok (.aload_n 0, 1) := by decide +kernel
theorem dw_start_1 : decode method_4_code 1 = .ok (.invokevirtual 17, 3) := by decide +kernel
theorem dw_start_4 : decode method_4_code 4 = .ok (.goto 9, 3) := by decide +kernel
theorem dw_start_7 : decode method_4_code 7 = .ok (.astore_n 1, 1) := by decide +kernel
theorem dw_start_8 : decode method_4_code 8 = .ok (.iconst 1, 1) := by decide +kernel
theorem dw_start_9 : decode method_4_code 9 = .ok (.ireturn, 1) := by decide +kernel
theorem dw_start_10 : decode method_4_code 10 = .ok (.astore_n 1, 1) := by decide +kernel
theorem dw_start_11 : decode method_4_code 11 = .ok (.iconst 2, 1) := by decide +kernel
theorem dw_start_12 : decode method_4_code 12 = .ok (.ireturn, 1) := by decide +kernel
theorem dw_start_13 : decode method_4_code 13 = .ok (.iconst 0, 1) := by decide +kernel
theorem dw_start_14 : decode method_4_code 14 = .ok (.ireturn, 1) := by decide +kernel
abbrev yw_start : MethodName := ⟨"NightCyclerLaw", "start", "(LNightCycler;)I"⟩
set_option maxRecDepth 100000 in
theorem ww_start {l : Launch} {D : va_G} {B : Nat} {h : Nat → Nat} {cI cZ cJ : ClassId} {f : zz_F} {g : zz_G} {sz : Nat} {a0 : Int32} {rm : Room} {post : Option Value → zz_F → zz_G → Prop} {px : String → zz_F → zz_G → Prop} (hM : ∀ sz, zz_cx l D vN (tyN cI cZ cJ) B (wN cI cZ h) (xN B h) f g sz (⟨"NightCycler", "start", "()V"⟩ : MethodName) (Cond.code (⟨"NightCycler", "start", "()V"⟩ : MethodName) prog_1_method_3_code 1 (none) :: kk_W) rm [.ref (h 0)] post px) (hrm : rm.cells = 1 ∧ rm.slots = 6 ∧ rm.frames ≤ 6 ∧ rm.locals ≤ 108) (hpo : ∀ r f1 g1, post r f1 g1 → r = none) (hpx : ∀ E f1 g1, px E f1 g1 → E = "java/lang/IllegalStateException" ∨ E = "java/lang/UnsupportedOperationException") :
    zz_c l D vN (tyN cI cZ cJ) B (wN cI cZ h) (xL B h) f g sz yw_start (Cond.codeWith yw_start method_4_code 2 (some .int) [((0 : Nat), (4 : Nat), (7 : Nat), (13 : Nat)), ((0 : Nat), (4 : Nat), (10 : Nat), (20 : Nat))] :: kk_W) { frames := 7, cells := 1, slots := 6, locals := 128 } 1 6 [.ref (h 0)] (fun r f1 g1 => (r = some (.int 0) ∧ (∃ r0, post r0 f1 g1)) ∨ (r = some (.int 1) ∧ px "java/lang/IllegalStateException" f1 g1) ∨ (r = some (.int 2) ∧ px "java/lang/UnsupportedOperationException" f1 g1)) := by
  refine zw_of (cc := method_4_code) (ret := some .int) (maxL := 2) (hh := [((0 : Nat), (4 : Nat), (7 : Nat), (13 : Nat)), ((0 : Nat), (4 : Nat), (10 : Nat), (20 : Nat))]) (by decide) rfl (Nat.le_of_ble_eq_true rfl) xL_ok ?_
  intro p e s m below meth c A ls C htab hP hD hl
  have hl : lv_has ls 2 [(0, .ref (h 0))] := hl
  have hts := C.1.2.2.2.2
  refine lv_aload_n C.1.1 C.1.2.1 dw_start_0 rfl (lv_at hl 0 rfl) ?_
  refine zx_callV (w := wN cI cZ h) (b := h 0) (As := []) (rest := []) [] C (fun U H hx => hx.1) xN_ok (hM _) (cwV 0 hts (kk_gV kw_491 kw_492 kw_493 kw_1 kw_494) rfl hrm.1 hrm.2.1 (by decide +kernel) ⟨by have := hrm.2.2.1; show rm.frames + 1 ≤ 7; omega, by have := hrm.2.2.2; show 8 + (1 + 11) + rm.locals ≤ 128; omega⟩) (va_recv C.2.2.2.1 hP (ci := 0) (q0 := 0) rfl rfl) hP hD va_S.rf rfl hl.1 rfl (Nat.le_of_ble_eq_true rfl) dw_start_1 ⟨Nat.le_refl _, Nat.le_refl _⟩ (fun r f1 g1 H locs hq hP hD hS => ?_) (fun hpl E q th f1 g1 H locs hq hP hD hS hE => ?_)
  · obtain rfl := hpo _ _ _ hq
    refine lv_goto (tgt := 13) C.1.1 C.1.2.1 dw_start_4 (by decide) ?_
    refine lv_iconst (v := 0) C.1.1 C.1.2.1 dw_start_13 (by decide) ?_
    exact zz_reti C rfl hP hD hS (Or.inl ⟨rfl, ⟨_, hq⟩⟩) dw_start_14
  · rcases hpx E f1 g1 hq with rfl | rfl
    · refine ⟨7, by rw [htab]; exact zt_hit hpl C.1.2.2.2.1 rfl (by decide) (hts _ (List.mem_cons_of_mem _ kw_382)) (va_Nw.use rfl (C.2.2.2.2.2.2.2.1.1.1 (.castable "java/lang/IllegalStateException" "java/lang/IllegalStateException") (by decide +kernel))) hE, ?_⟩
      refine lv_astore_n (lv' := [(1, .ref q), (0, .ref (h 0))]) C.1.1 C.1.2.1 dw_start_7 rfl hl (by decide) rfl (fun ls hl => ?_)
      refine lv_iconst (v := 1) C.1.1 C.1.2.1 dw_start_8 (by decide) ?_
      exact zz_reti C rfl hP hD hS (Or.inr (Or.inl ⟨rfl, hq⟩)) dw_start_9
    · refine ⟨10, by rw [htab]; exact zt_miss (name := "java/lang/IllegalStateException") hpl C.1.2.2.2.1 rfl (by decide) (hts _ (List.mem_cons_of_mem _ kw_382)) (C.2.2.2.2.2.2.2.1.2 ("java/lang/UnsupportedOperationException", "java/lang/IllegalStateException") (by decide)) hE (zt_hit hpl C.1.2.2.2.1 rfl (by decide) (hts _ (List.mem_cons_of_mem _ kw_490)) (va_Nw.use rfl (C.2.2.2.2.2.2.2.1.1.1 (.castable "java/lang/UnsupportedOperationException" "java/lang/UnsupportedOperationException") (by decide +kernel))) hE), ?_⟩
      refine lv_astore_n (lv' := [(1, .ref q), (0, .ref (h 0))]) C.1.1 C.1.2.1 dw_start_10 rfl hl (by decide) rfl (fun ls hl => ?_)
      refine lv_iconst (v := 2) C.1.1 C.1.2.1 dw_start_11 (by decide) ?_
      exact zz_reti C rfl hP hD hS (Or.inr (Or.inr (⟨rfl, hq⟩))) dw_start_12
theorem dw_pause_0 : decode method_5_code 0 = .ok (.aload_n 0, 1) := by decide +kernel
theorem dw_pause_1 : decode method_5_code 1 = .ok (.iload_n 1, 1) := by decide +kernel
theorem dw_pause_2 : decode method_5_code 2 = .ok (.invokevirtual 22, 3) := by decide +kernel
theorem dw_pause_5 : decode method_5_code 5 = .ok (.goto 6, 3) := by decide +kernel
theorem dw_pause_8 : decode method_5_code 8 = .ok (.astore_n 2, 1) := by decide +kernel
theorem dw_pause_9 : decode method_5_code 9 = .ok (.iconst 1, 1) := by decide +kernel
theorem dw_pause_10 : decode method_5_code 10 = .ok (.ireturn, 1) := by decide +kernel
theorem dw_pause_11 : decode method_5_code 11 = .ok (.iconst 0, 1) := by decide +kernel
theorem dw_pause_12 : decode method_5_code 12 = .ok (.ireturn, 1) := by decide +kernel
abbrev yw_pause : MethodName := ⟨"NightCyclerLaw", "pause", "(LNightCycler;Z)I"⟩
set_option maxRecDepth 100000 in
theorem ww_pause {l : Launch} {D : va_G} {B : Nat} {h : Nat → Nat} {cI cZ cJ : ClassId} {f : zz_F} {g : zz_G} {sz : Nat} {a : Int32} {rm : Room} {post : Option Value → zz_F → zz_G → Prop} {px : String → zz_F → zz_G → Prop} (hM : ∀ sz, zz_cx l D vN (tyN cI cZ cJ) B (wN cI cZ h) (xN B h) f g sz (⟨"NightCycler", "pause", "(Z)V"⟩ : MethodName) (Cond.code (⟨"NightCycler", "pause", "(Z)V"⟩ : MethodName) prog_1_method_4_code 2 (none) :: kk_W) rm [.ref (h 0), .int a] post px) (hrm : rm.cells = 1 ∧ rm.slots = 6 ∧ rm.frames ≤ 6 ∧ rm.locals ≤ 90) (hpo : ∀ r f1 g1, post r f1 g1 → r = none) (hpx : ∀ E f1 g1, px E f1 g1 → E = "java/lang/IllegalStateException") :
    zz_c l D vN (tyN cI cZ cJ) B (wN cI cZ h) (xL B h) f g sz yw_pause (Cond.codeWith yw_pause method_5_code 3 (some .int) [((0 : Nat), (5 : Nat), (8 : Nat), (13 : Nat))] :: kk_W) { frames := 7, cells := 1, slots := 6, locals := 111 } 1 6 [.ref (h 0), .int a] (fun r f1 g1 => (r = some (.int 0) ∧ (∃ r0, post r0 f1 g1)) ∨ (r = some (.int 1) ∧ px "java/lang/IllegalStateException" f1 g1)) := by
  refine zw_of (cc := method_5_code) (ret := some .int) (maxL := 3) (hh := [((0 : Nat), (5 : Nat), (8 : Nat), (13 : Nat))]) (by decide) rfl (Nat.le_of_ble_eq_true rfl) xL_ok ?_
  intro p e s m below meth c A ls C htab hP hD hl
  have hl : lv_has ls 3 [(0, .ref (h 0)), (1, .int a)] := hl
  have hts := C.1.2.2.2.2
  refine lv_aload_n C.1.1 C.1.2.1 dw_pause_0 rfl (lv_at hl 0 rfl) ?_
  refine lv_iload_n C.1.1 C.1.2.1 dw_pause_1 rfl (lv_at hl 1 rfl) ?_
  refine zx_callV (w := wN cI cZ h) (b := h 0) (As := [.int a]) (rest := []) [] C (fun U H hx => hx.1) xN_ok (hM _) (cwV 1 hts (kk_gV kw_534 kw_535 kw_536 kw_1 kw_537) rfl hrm.1 hrm.2.1 (by decide +kernel) ⟨by have := hrm.2.2.1; show rm.frames + 1 ≤ 7; omega, by have := hrm.2.2.2; show 8 + (2 + 11) + rm.locals ≤ 111; omega⟩) (va_recv C.2.2.2.1 hP (ci := 0) (q0 := 0) rfl rfl) hP hD va_S.rf rfl hl.1 rfl (Nat.le_of_ble_eq_true rfl) dw_pause_2 ⟨Nat.le_refl _, Nat.le_refl _⟩ (fun r f1 g1 H locs hq hP hD hS => ?_) (fun hpl E q th f1 g1 H locs hq hP hD hS hE => ?_)
  · obtain rfl := hpo _ _ _ hq
    refine lv_goto (tgt := 11) C.1.1 C.1.2.1 dw_pause_5 (by decide) ?_
    refine lv_iconst (v := 0) C.1.1 C.1.2.1 dw_pause_11 (by decide) ?_
    exact zz_reti C rfl hP hD hS (Or.inl ⟨rfl, ⟨_, hq⟩⟩) dw_pause_12
  · obtain rfl := hpx E f1 g1 hq
    refine ⟨8, by rw [htab]; exact zt_hit hpl C.1.2.2.2.1 rfl (by decide) (hts _ (List.mem_cons_of_mem _ kw_382)) (va_Nw.use rfl (C.2.2.2.2.2.2.2.1.1.1 (.castable "java/lang/IllegalStateException" "java/lang/IllegalStateException") (by decide +kernel))) hE, ?_⟩
    refine lv_astore_n (lv' := [(2, .ref q), (0, .ref (h 0)), (1, .int a)]) C.1.1 C.1.2.1 dw_pause_8 rfl hl (by decide) rfl (fun ls hl => ?_)
    refine lv_iconst (v := 1) C.1.1 C.1.2.1 dw_pause_9 (by decide) ?_
    exact zz_reti C rfl hP hD hS (Or.inr (⟨rfl, hq⟩)) dw_pause_10
theorem dw_end_0 : decode method_6_code 0 = .ok (.aload_n 0, 1) := by decide +kernel
theorem dw_end_1 : decode method_6_code 1 = .ok (.invokevirtual 26, 3) := by decide +kernel
theorem dw_end_4 : decode method_6_code 4 = .ok (.goto 6, 3) := by decide +kernel
theorem dw_end_7 : decode method_6_code 7 = .ok (.astore_n 1, 1) := by decide +kernel
theorem dw_end_8 : decode method_6_code 8 = .ok (.iconst 1, 1) := by decide +kernel
theorem dw_end_9 : decode method_6_code 9 = .ok (.ireturn, 1) := by decide +kernel
theorem dw_end_10 : decode method_6_code 10 = .ok (.iconst 0, 1) := by decide +kernel
theorem dw_end_11 : decode method_6_code 11 = .ok (.ireturn, 1) := by decide +kernel
abbrev yw_end : MethodName := ⟨"NightCyclerLaw", "end", "(LNightCycler;)I"⟩
set_option maxRecDepth 100000 in
theorem ww_end {l : Launch} {D : va_G} {B : Nat} {h : Nat → Nat} {cI cZ cJ : ClassId} {f : zz_F} {g : zz_G} {sz : Nat} {a0 : Int32} {rm : Room} {post : Option Value → zz_F → zz_G → Prop} {px : String → zz_F → zz_G → Prop} (hM : ∀ sz, zz_cx l D vN (tyN cI cZ cJ) B (wN cI cZ h) (xN B h) f g sz (⟨"NightCycler", "end", "()V"⟩ : MethodName) (Cond.code (⟨"NightCycler", "end", "()V"⟩ : MethodName) prog_1_method_5_code 1 (none) :: kk_W) rm [.ref (h 0)] post px) (hrm : rm.cells = 1 ∧ rm.slots = 6 ∧ rm.frames ≤ 6 ∧ rm.locals ≤ 108) (hpo : ∀ r f1 g1, post r f1 g1 → r = none) (hpx : ∀ E f1 g1, px E f1 g1 → E = "java/lang/IllegalStateException") :
    zz_c l D vN (tyN cI cZ cJ) B (wN cI cZ h) (xL B h) f g sz yw_end (Cond.codeWith yw_end method_6_code 2 (some .int) [((0 : Nat), (4 : Nat), (7 : Nat), (13 : Nat))] :: kk_W) { frames := 7, cells := 1, slots := 6, locals := 128 } 1 6 [.ref (h 0)] (fun r f1 g1 => (r = some (.int 0) ∧ (∃ r0, post r0 f1 g1)) ∨ (r = some (.int 1) ∧ px "java/lang/IllegalStateException" f1 g1)) := by
  refine zw_of (cc := method_6_code) (ret := some .int) (maxL := 2) (hh := [((0 : Nat), (4 : Nat), (7 : Nat), (13 : Nat))]) (by decide) rfl (Nat.le_of_ble_eq_true rfl) xL_ok ?_
  intro p e s m below meth c A ls C htab hP hD hl
  have hl : lv_has ls 2 [(0, .ref (h 0))] := hl
  have hts := C.1.2.2.2.2
  refine lv_aload_n C.1.1 C.1.2.1 dw_end_0 rfl (lv_at hl 0 rfl) ?_
  refine zx_callV (w := wN cI cZ h) (b := h 0) (As := []) (rest := []) [] C (fun U H hx => hx.1) xN_ok (hM _) (cwV 0 hts (kk_gV kw_541 kw_542 kw_543 kw_1 kw_544) rfl hrm.1 hrm.2.1 (by decide +kernel) ⟨by have := hrm.2.2.1; show rm.frames + 1 ≤ 7; omega, by have := hrm.2.2.2; show 8 + (1 + 11) + rm.locals ≤ 128; omega⟩) (va_recv C.2.2.2.1 hP (ci := 0) (q0 := 0) rfl rfl) hP hD va_S.rf rfl hl.1 rfl (Nat.le_of_ble_eq_true rfl) dw_end_1 ⟨Nat.le_refl _, Nat.le_refl _⟩ (fun r f1 g1 H locs hq hP hD hS => ?_) (fun hpl E q th f1 g1 H locs hq hP hD hS hE => ?_)
  · obtain rfl := hpo _ _ _ hq
    refine lv_goto (tgt := 10) C.1.1 C.1.2.1 dw_end_4 (by decide) ?_
    refine lv_iconst (v := 0) C.1.1 C.1.2.1 dw_end_10 (by decide) ?_
    exact zz_reti C rfl hP hD hS (Or.inl ⟨rfl, ⟨_, hq⟩⟩) dw_end_11
  · obtain rfl := hpx E f1 g1 hq
    refine ⟨7, by rw [htab]; exact zt_hit hpl C.1.2.2.2.1 rfl (by decide) (hts _ (List.mem_cons_of_mem _ kw_382)) (va_Nw.use rfl (C.2.2.2.2.2.2.2.1.1.1 (.castable "java/lang/IllegalStateException" "java/lang/IllegalStateException") (by decide +kernel))) hE, ?_⟩
    refine lv_astore_n (lv' := [(1, .ref q), (0, .ref (h 0))]) C.1.1 C.1.2.1 dw_end_7 rfl hl (by decide) rfl (fun ls hl => ?_)
    refine lv_iconst (v := 1) C.1.1 C.1.2.1 dw_end_8 (by decide) ?_
    exact zz_reti C rfl hP hD hS (Or.inr (⟨rfl, hq⟩)) dw_end_9
theorem dw_tick_0 : decode method_7_code 0 = .ok (.aload_n 2, 1) := by decide +kernel
theorem dw_tick_1 : decode method_7_code 1 = .ok (.iconst 0, 1) := by decide +kernel
theorem dw_tick_2 : decode method_7_code 2 = .ok (.aload_n 0, 1) := by decide +kernel
theorem dw_tick_3 : decode method_7_code 3 = .ok (.iload_n 1, 1) := by decide +kernel
theorem dw_tick_4 : decode method_7_code 4 = .ok (.invokevirtual 29, 3) := by decide +kernel
theorem dw_tick_7 : decode method_7_code 7 = .ok (.i2l, 1) := by decide +kernel
theorem dw_tick_8 : decode method_7_code 8 = .ok (.lastore, 1) := by decide +kernel
theorem dw_tick_9 : decode method_7_code 9 = .ok (.goto 9, 3) := by decide +kernel
theorem dw_tick_12 : decode method_7_code 12 = .ok (.astore_n 3, 1) := by decide +kernel
theorem dw_tick_13 : decode method_7_code 13 = .ok (.iconst 1, 1) := by decide +kernel
theorem dw_tick_14 : decode method_7_code 14 = .ok (.ireturn, 1) := by decide +kernel
theorem dw_tick_15 : decode method_7_code 15 = .ok (.astore_n 3, 1) := by decide +kernel
theorem dw_tick_16 : decode method_7_code 16 = .ok (.iconst 2, 1) := by decide +kernel
theorem dw_tick_17 : decode method_7_code 17 = .ok (.ireturn, 1) := by decide +kernel
theorem dw_tick_18 : decode method_7_code 18 = .ok (.iconst 0, 1) := by decide +kernel
theorem dw_tick_19 : decode method_7_code 19 = .ok (.ireturn, 1) := by decide +kernel
abbrev yw_tick : MethodName := ⟨"NightCyclerLaw", "tick", "(LNightCycler;I[J)I"⟩
set_option maxRecDepth 100000 in
theorem ww_tick {l : Launch} {D : va_G} {B : Nat} {h : Nat → Nat} {cI cZ cJ : ClassId} {f : zz_F} {g : zz_G} {sz : Nat} {ho : Nat} {a : Int32} {rm : Room} {post : Option Value → zz_F → zz_G → Prop} {px : String → zz_F → zz_G → Prop} (hM : ∀ sz, zz_cx l D vN (tyN cI cZ cJ) B (wN cI cZ h) (xN B h) f g sz (⟨"NightCycler", "tick", "(I)I"⟩ : MethodName) (Cond.code (⟨"NightCycler", "tick", "(I)I"⟩ : MethodName) prog_1_method_6_code 3 (some .int) :: kk_W) rm [.ref (h 0), .int a] post px) (hrm : rm.cells = 1 ∧ rm.slots = 6 ∧ rm.frames ≤ 6 ∧ rm.locals ≤ 140) (hpo : ∀ r f1 g1, post r f1 g1 → ∃ x : Int32, r = some (.int x)) (hpx : ∀ E f1 g1, px E f1 g1 → E = "java/lang/IllegalStateException" ∨ E = "java/lang/IllegalArgumentException") :
    zz_c l D vN (tyN cI cZ cJ) B (wO cI cZ cJ ho h) (xL B h) f g sz yw_tick (Cond.codeWith yw_tick method_7_code 4 (some .int) [((0 : Nat), (9 : Nat), (12 : Nat), (13 : Nat)), ((0 : Nat), (9 : Nat), (15 : Nat), (15 : Nat))] :: kk_W) { frames := 7, cells := 1, slots := 6, locals := 162 } 1 6 [.ref (h 0), .int a, .ref ho] (fun r f1 g1 => (r = some (.int 0) ∧ (∃ (g0 : zz_G) (x : Int32), g1 = zz_v g0 200 (upd (g 200) 0 x) ∧ post (some (.int x)) f1 g0)) ∨ (r = some (.int 1) ∧ ∃ g0 : zz_G, g1 = zz_v g0 200 (g 200) ∧ px "java/lang/IllegalStateException" f1 g0) ∨ (r = some (.int 2) ∧ ∃ g0 : zz_G, g1 = zz_v g0 200 (g 200) ∧ px "java/lang/IllegalArgumentException" f1 g0)) := by
  refine zw_of (cc := method_7_code) (ret := some .int) (maxL := 4) (hh := [((0 : Nat), (9 : Nat), (12 : Nat), (13 : Nat)), ((0 : Nat), (9 : Nat), (15 : Nat), (15 : Nat))]) (by decide) rfl (Nat.le_of_ble_eq_true rfl) xL_ok ?_
  intro p e s m below meth c A ls C htab hP hD hl
  have hl : lv_has ls 4 [(0, .ref (h 0)), (1, .int a), (2, .ref ho)] := hl
  have hts := C.1.2.2.2.2
  refine lv_aload_n C.1.1 C.1.2.1 dw_tick_0 rfl (lv_at hl 2 rfl) ?_
  refine lv_iconst (v := 0) C.1.1 C.1.2.1 dw_tick_1 (by decide) ?_
  refine lv_aload_n C.1.1 C.1.2.1 dw_tick_2 rfl (lv_at hl 0 rfl) ?_
  refine lv_iload_n C.1.1 C.1.2.1 dw_tick_3 rfl (lv_at hl 1 rfl) ?_
  refine zx_callV (w := wN cI cZ h) (b := h 0) (As := [.int a]) (rest := [.int 0, .ref ho]) [(ho, .inl (cJ, 1, .inr (.inl (fun j => (g 200 j).toInt64))))] C (fun U H hx => hx.1) xN_ok (hM _) (cwV 1 hts (kk_gV kw_548 kw_549 kw_550 kw_1 kw_551) rfl hrm.1 hrm.2.1 (by decide +kernel) ⟨by have := hrm.2.2.1; show rm.frames + 1 ≤ 7; omega, by have := hrm.2.2.2; show 8 + (3 + 11) + rm.locals ≤ 162; omega⟩) (va_recv C.2.2.2.1 hP (ci := 0) (q0 := 1) rfl rfl) hP hD va_S.rf rfl hl.1 rfl (Nat.le_of_ble_eq_true rfl) dw_tick_4 ⟨Nat.le_refl _, Nat.le_refl _⟩ (fun r f1 g1 H locs hq hP hD hS => ?_) (fun hpl E q th f1 g1 H locs hq hP hD hS hE => ?_)
  · obtain ⟨x, rfl⟩ := hpo _ _ _ hq
    refine lv_i2l (v := x.toInt64) C.1.1 C.1.2.1 dw_tick_7 rfl ?_
    have hP : va_P D vN ((ho, .inl (cJ, 1, .inr (.inl (fun j => (g 200 j).toInt64)))) :: wN cI cZ h f1 g1) H := hP
    have hD : va_D A ((ho, .inl (cJ, 1, .inr (.inl (fun j => (g 200 j).toInt64)))) :: wN cI cZ h f1 g1) := hD
    refine va_last C.1.1 C.1.2.1 C.2.2.2.1 hP hD hS 0 2 rfl rfl (vp_in_iff.mpr (by decide)) dw_tick_8 (fun H locs hP hD hS => ?_)
    have hP : va_P D vN ((ho, .inl (cJ, 1, .inr (.inl (vp_updL (fun j => (g 200 j).toInt64) (0 : Int32).toNatClampNeg x.toInt64)))) :: wN cI cZ h f1 g1) H := hP
    have hD : va_D A ((ho, .inl (cJ, 1, .inr (.inl (vp_updL (fun j => (g 200 j).toInt64) (0 : Int32).toNatClampNeg x.toInt64)))) :: wN cI cZ h f1 g1) := hD
    rw [wO_st] at hP hD
    have hP : va_P D vN (wO cI cZ cJ ho h f1 (zz_v g1 200 (upd (g 200) 0 x))) H := hP
    have hD : va_D A (wO cI cZ cJ ho h f1 (zz_v g1 200 (upd (g 200) 0 x))) := hD
    refine lv_goto (tgt := 18) C.1.1 C.1.2.1 dw_tick_9 (by decide) ?_
    refine lv_iconst (v := 0) C.1.1 C.1.2.1 dw_tick_18 (by decide) ?_
    exact zz_reti C rfl hP hD hS (Or.inl ⟨rfl, g1, x, rfl, hq⟩) dw_tick_19
  · rcases hpx E f1 g1 hq with rfl | rfl
    · refine ⟨12, by rw [htab]; exact zt_hit hpl C.1.2.2.2.1 rfl (by decide) (hts _ (List.mem_cons_of_mem _ kw_382)) (va_Nw.use rfl (C.2.2.2.2.2.2.2.1.1.1 (.castable "java/lang/IllegalStateException" "java/lang/IllegalStateException") (by decide +kernel))) hE, ?_⟩
      refine lv_astore_n (lv' := [(3, .ref q), (0, .ref (h 0)), (1, .int a), (2, .ref ho)]) C.1.1 C.1.2.1 dw_tick_12 rfl hl (by decide) rfl (fun ls hl => ?_)
      refine lv_iconst (v := 1) C.1.1 C.1.2.1 dw_tick_13 (by decide) ?_
      have hP : va_P D vN (wO cI cZ cJ ho h f1 (zz_v g1 200 (g 200))) H := hP
      have hD : va_D A (wO cI cZ cJ ho h f1 (zz_v g1 200 (g 200))) := hD
      exact zz_reti C rfl hP hD hS (Or.inr (Or.inl ⟨rfl, g1, rfl, hq⟩)) dw_tick_14
    · refine ⟨15, by rw [htab]; exact zt_miss (name := "java/lang/IllegalStateException") hpl C.1.2.2.2.1 rfl (by decide) (hts _ (List.mem_cons_of_mem _ kw_382)) (C.2.2.2.2.2.2.2.1.2 ("java/lang/IllegalArgumentException", "java/lang/IllegalStateException") (by decide)) hE (zt_hit hpl C.1.2.2.2.1 rfl (by decide) (hts _ (List.mem_cons_of_mem _ kw_383)) (va_Nw.use rfl (C.2.2.2.2.2.2.2.1.1.1 (.castable "java/lang/IllegalArgumentException" "java/lang/IllegalArgumentException") (by decide +kernel))) hE), ?_⟩
      refine lv_astore_n (lv' := [(3, .ref q), (0, .ref (h 0)), (1, .int a), (2, .ref ho)]) C.1.1 C.1.2.1 dw_tick_15 rfl hl (by decide) rfl (fun ls hl => ?_)
      refine lv_iconst (v := 2) C.1.1 C.1.2.1 dw_tick_16 (by decide) ?_
      have hP : va_P D vN (wO cI cZ cJ ho h f1 (zz_v g1 200 (g 200))) H := hP
      have hD : va_D A (wO cI cZ cJ ho h f1 (zz_v g1 200 (g 200))) := hD
      exact zz_reti C rfl hP hD hS (Or.inr (Or.inr (⟨rfl, g1, rfl, hq⟩))) dw_tick_17
theorem dw_cut_0 : decode method_8_code 0 = .ok (.aload_n 0, 1) := by decide +kernel
theorem dw_cut_1 : decode method_8_code 1 = .ok (.iload_n 1, 1) := by decide +kernel
theorem dw_cut_2 : decode method_8_code 2 = .ok (.invokevirtual 33, 3) := by decide +kernel
theorem dw_cut_5 : decode method_8_code 5 = .ok (.goto 9, 3) := by decide +kernel
theorem dw_cut_8 : decode method_8_code 8 = .ok (.astore_n 2, 1) := by decide +kernel
theorem dw_cut_9 : decode method_8_code 9 = .ok (.iconst 1, 1) := by decide +kernel
theorem dw_cut_10 : decode method_8_code 10 = .ok (.ireturn, 1) := by decide +kernel
theorem dw_cut_11 : decode method_8_code 11 = .ok (.astore_n 2, 1) := by decide +kernel
theorem dw_cut_12 : decode method_8_code 12 = .ok (.iconst 2, 1) := by decide +kernel
theorem dw_cut_13 : decode method_8_code 13 = .ok (.ireturn, 1) := by decide +kernel
theorem dw_cut_14 : decode method_8_code 14 = .ok (.iconst 0, 1) := by decide +kernel
theorem dw_cut_15 : decode method_8_code 15 = .ok (.ireturn, 1) := by decide +kernel
abbrev yw_cut : MethodName := ⟨"NightCyclerLaw", "cut", "(LNightCycler;I)I"⟩
set_option maxRecDepth 100000 in
theorem ww_cut {l : Launch} {D : va_G} {B : Nat} {h : Nat → Nat} {cI cZ cJ : ClassId} {f : zz_F} {g : zz_G} {sz : Nat} {a : Int32} {rm : Room} {post : Option Value → zz_F → zz_G → Prop} {px : String → zz_F → zz_G → Prop} (hM : ∀ sz, zz_cx l D vN (tyN cI cZ cJ) B (wN cI cZ h) (xN B h) f g sz (⟨"NightCycler", "cut", "(I)V"⟩ : MethodName) (Cond.code (⟨"NightCycler", "cut", "(I)V"⟩ : MethodName) prog_1_method_17_code 2 (none) :: kk_W) rm [.ref (h 0), .int a] post px) (hrm : rm.cells = 1 ∧ rm.slots = 6 ∧ rm.frames ≤ 6 ∧ rm.locals ≤ 90) (hpo : ∀ r f1 g1, post r f1 g1 → r = none) (hpx : ∀ E f1 g1, px E f1 g1 → E = "java/lang/IllegalStateException" ∨ E = "java/lang/IllegalArgumentException") :
    zz_c l D vN (tyN cI cZ cJ) B (wN cI cZ h) (xL B h) f g sz yw_cut (Cond.codeWith yw_cut method_8_code 3 (some .int) [((0 : Nat), (5 : Nat), (8 : Nat), (13 : Nat)), ((0 : Nat), (5 : Nat), (11 : Nat), (15 : Nat))] :: kk_W) { frames := 7, cells := 1, slots := 6, locals := 111 } 1 6 [.ref (h 0), .int a] (fun r f1 g1 => (r = some (.int 0) ∧ (∃ r0, post r0 f1 g1)) ∨ (r = some (.int 1) ∧ px "java/lang/IllegalStateException" f1 g1) ∨ (r = some (.int 2) ∧ px "java/lang/IllegalArgumentException" f1 g1)) := by
  refine zw_of (cc := method_8_code) (ret := some .int) (maxL := 3) (hh := [((0 : Nat), (5 : Nat), (8 : Nat), (13 : Nat)), ((0 : Nat), (5 : Nat), (11 : Nat), (15 : Nat))]) (by decide) rfl (Nat.le_of_ble_eq_true rfl) xL_ok ?_
  intro p e s m below meth c A ls C htab hP hD hl
  have hl : lv_has ls 3 [(0, .ref (h 0)), (1, .int a)] := hl
  have hts := C.1.2.2.2.2
  refine lv_aload_n C.1.1 C.1.2.1 dw_cut_0 rfl (lv_at hl 0 rfl) ?_
  refine lv_iload_n C.1.1 C.1.2.1 dw_cut_1 rfl (lv_at hl 1 rfl) ?_
  refine zx_callV (w := wN cI cZ h) (b := h 0) (As := [.int a]) (rest := []) [] C (fun U H hx => hx.1) xN_ok (hM _) (cwV 1 hts (kk_gV kw_648 kw_649 kw_650 kw_1 kw_651) rfl hrm.1 hrm.2.1 (by decide +kernel) ⟨by have := hrm.2.2.1; show rm.frames + 1 ≤ 7; omega, by have := hrm.2.2.2; show 8 + (2 + 11) + rm.locals ≤ 111; omega⟩) (va_recv C.2.2.2.1 hP (ci := 0) (q0 := 0) rfl rfl) hP hD va_S.rf rfl hl.1 rfl (Nat.le_of_ble_eq_true rfl) dw_cut_2 ⟨Nat.le_refl _, Nat.le_refl _⟩ (fun r f1 g1 H locs hq hP hD hS => ?_) (fun hpl E q th f1 g1 H locs hq hP hD hS hE => ?_)
  · obtain rfl := hpo _ _ _ hq
    refine lv_goto (tgt := 14) C.1.1 C.1.2.1 dw_cut_5 (by decide) ?_
    refine lv_iconst (v := 0) C.1.1 C.1.2.1 dw_cut_14 (by decide) ?_
    exact zz_reti C rfl hP hD hS (Or.inl ⟨rfl, ⟨_, hq⟩⟩) dw_cut_15
  · rcases hpx E f1 g1 hq with rfl | rfl
    · refine ⟨8, by rw [htab]; exact zt_hit hpl C.1.2.2.2.1 rfl (by decide) (hts _ (List.mem_cons_of_mem _ kw_382)) (va_Nw.use rfl (C.2.2.2.2.2.2.2.1.1.1 (.castable "java/lang/IllegalStateException" "java/lang/IllegalStateException") (by decide +kernel))) hE, ?_⟩
      refine lv_astore_n (lv' := [(2, .ref q), (0, .ref (h 0)), (1, .int a)]) C.1.1 C.1.2.1 dw_cut_8 rfl hl (by decide) rfl (fun ls hl => ?_)
      refine lv_iconst (v := 1) C.1.1 C.1.2.1 dw_cut_9 (by decide) ?_
      exact zz_reti C rfl hP hD hS (Or.inr (Or.inl ⟨rfl, hq⟩)) dw_cut_10
    · refine ⟨11, by rw [htab]; exact zt_miss (name := "java/lang/IllegalStateException") hpl C.1.2.2.2.1 rfl (by decide) (hts _ (List.mem_cons_of_mem _ kw_382)) (C.2.2.2.2.2.2.2.1.2 ("java/lang/IllegalArgumentException", "java/lang/IllegalStateException") (by decide)) hE (zt_hit hpl C.1.2.2.2.1 rfl (by decide) (hts _ (List.mem_cons_of_mem _ kw_383)) (va_Nw.use rfl (C.2.2.2.2.2.2.2.1.1.1 (.castable "java/lang/IllegalArgumentException" "java/lang/IllegalArgumentException") (by decide +kernel))) hE), ?_⟩
      refine lv_astore_n (lv' := [(2, .ref q), (0, .ref (h 0)), (1, .int a)]) C.1.1 C.1.2.1 dw_cut_11 rfl hl (by decide) rfl (fun ls hl => ?_)
      refine lv_iconst (v := 2) C.1.1 C.1.2.1 dw_cut_12 (by decide) ?_
      exact zz_reti C rfl hP hD hS (Or.inr (Or.inr (⟨rfl, hq⟩))) dw_cut_13
theorem dw_power_0 : decode method_9_code 0 = .ok (.aload_n 2, 1) := by decide +kernel
theorem dw_power_1 : decode method_9_code 1 = .ok (.iconst 0, 1) := by decide +kernel
theorem dw_power_2 : decode method_9_code 2 = .ok (.aload_n 0, 1) := by decide +kernel
theorem dw_power_3 : decode method_9_code 3 = .ok (.iload_n 1, 1) := by decide +kernel
theorem dw_power_4 : decode method_9_code 4 = .ok (.invokevirtual 37, 3) := by decide +kernel
theorem dw_power_7 : decode method_9_code 7 = .ok (.i2l, 1) := by decide +kernel
theorem dw_power_8 : decode method_9_code 8 = .ok (.lastore, 1) := by decide +kernel
theorem dw_power_9 : decode method_9_code 9 = .ok (.goto 9, 3) := by decide +kernel
theorem dw_power_12 : decode method_9_code 12 = .ok (.astore_n 3, 1) := by decide +kernel
theorem dw_power_13 : decode method_9_code 13 = .ok (.iconst 1, 1) := by decide +kernel
theorem dw_power_14 : decode method_9_code 14 = .ok (.ireturn, 1) := by decide +kernel
theorem dw_power_15 : decode method_9_code 15 = .ok (.astore_n 3, 1) := by decide +kernel
theorem dw_power_16 : decode method_9_code 16 = .ok (.iconst 2, 1) := by decide +kernel
theorem dw_power_17 : decode method_9_code 17 = .ok (.ireturn, 1) := by decide +kernel
theorem dw_power_18 : decode method_9_code 18 = .ok (.iconst 0, 1) := by decide +kernel
theorem dw_power_19 : decode method_9_code 19 = .ok (.ireturn, 1) := by decide +kernel
abbrev yw_power : MethodName := ⟨"NightCyclerLaw", "power", "(LNightCycler;I[J)I"⟩
set_option maxRecDepth 100000 in
theorem ww_power {l : Launch} {D : va_G} {B : Nat} {h : Nat → Nat} {cI cZ cJ : ClassId} {f : zz_F} {g : zz_G} {sz : Nat} {ho : Nat} {a : Int32} {rm : Room} {post : Option Value → zz_F → zz_G → Prop} {px : String → zz_F → zz_G → Prop} (hM : ∀ sz, zz_cx l D vN (tyN cI cZ cJ) B (wN cI cZ h) (xN B h) f g sz (⟨"NightCycler", "power", "(I)I"⟩ : MethodName) (Cond.code (⟨"NightCycler", "power", "(I)I"⟩ : MethodName) prog_1_method_18_code 3 (some .int) :: kk_W) rm [.ref (h 0), .int a] post px) (hrm : rm.cells = 1 ∧ rm.slots = 6 ∧ rm.frames ≤ 6 ∧ rm.locals ≤ 109) (hpo : ∀ r f1 g1, post r f1 g1 → ∃ x : Int32, r = some (.int x)) (hpx : ∀ E f1 g1, px E f1 g1 → E = "java/lang/IllegalStateException" ∨ E = "java/lang/IllegalArgumentException") :
    zz_c l D vN (tyN cI cZ cJ) B (wO cI cZ cJ ho h) (xL B h) f g sz yw_power (Cond.codeWith yw_power method_9_code 4 (some .int) [((0 : Nat), (9 : Nat), (12 : Nat), (13 : Nat)), ((0 : Nat), (9 : Nat), (15 : Nat), (15 : Nat))] :: kk_W) { frames := 7, cells := 1, slots := 6, locals := 131 } 1 6 [.ref (h 0), .int a, .ref ho] (fun r f1 g1 => (r = some (.int 0) ∧ (∃ (g0 : zz_G) (x : Int32), g1 = zz_v g0 200 (upd (g 200) 0 x) ∧ post (some (.int x)) f1 g0)) ∨ (r = some (.int 1) ∧ ∃ g0 : zz_G, g1 = zz_v g0 200 (g 200) ∧ px "java/lang/IllegalStateException" f1 g0) ∨ (r = some (.int 2) ∧ ∃ g0 : zz_G, g1 = zz_v g0 200 (g 200) ∧ px "java/lang/IllegalArgumentException" f1 g0)) := by
  refine zw_of (cc := method_9_code) (ret := some .int) (maxL := 4) (hh := [((0 : Nat), (9 : Nat), (12 : Nat), (13 : Nat)), ((0 : Nat), (9 : Nat), (15 : Nat), (15 : Nat))]) (by decide) rfl (Nat.le_of_ble_eq_true rfl) xL_ok ?_
  intro p e s m below meth c A ls C htab hP hD hl
  have hl : lv_has ls 4 [(0, .ref (h 0)), (1, .int a), (2, .ref ho)] := hl
  have hts := C.1.2.2.2.2
  refine lv_aload_n C.1.1 C.1.2.1 dw_power_0 rfl (lv_at hl 2 rfl) ?_
  refine lv_iconst (v := 0) C.1.1 C.1.2.1 dw_power_1 (by decide) ?_
  refine lv_aload_n C.1.1 C.1.2.1 dw_power_2 rfl (lv_at hl 0 rfl) ?_
  refine lv_iload_n C.1.1 C.1.2.1 dw_power_3 rfl (lv_at hl 1 rfl) ?_
  refine zx_callV (w := wN cI cZ h) (b := h 0) (As := [.int a]) (rest := [.int 0, .ref ho]) [(ho, .inl (cJ, 1, .inr (.inl (fun j => (g 200 j).toInt64))))] C (fun U H hx => hx.1) xN_ok (hM _) (cwV 1 hts (kk_gV kw_675 kw_676 kw_677 kw_1 kw_678) rfl hrm.1 hrm.2.1 (by decide +kernel) ⟨by have := hrm.2.2.1; show rm.frames + 1 ≤ 7; omega, by have := hrm.2.2.2; show 8 + (3 + 11) + rm.locals ≤ 131; omega⟩) (va_recv C.2.2.2.1 hP (ci := 0) (q0 := 1) rfl rfl) hP hD va_S.rf rfl hl.1 rfl (Nat.le_of_ble_eq_true rfl) dw_power_4 ⟨Nat.le_refl _, Nat.le_refl _⟩ (fun r f1 g1 H locs hq hP hD hS => ?_) (fun hpl E q th f1 g1 H locs hq hP hD hS hE => ?_)
  · obtain ⟨x, rfl⟩ := hpo _ _ _ hq
    refine lv_i2l (v := x.toInt64) C.1.1 C.1.2.1 dw_power_7 rfl ?_
    have hP : va_P D vN ((ho, .inl (cJ, 1, .inr (.inl (fun j => (g 200 j).toInt64)))) :: wN cI cZ h f1 g1) H := hP
    have hD : va_D A ((ho, .inl (cJ, 1, .inr (.inl (fun j => (g 200 j).toInt64)))) :: wN cI cZ h f1 g1) := hD
    refine va_last C.1.1 C.1.2.1 C.2.2.2.1 hP hD hS 0 2 rfl rfl (vp_in_iff.mpr (by decide)) dw_power_8 (fun H locs hP hD hS => ?_)
    have hP : va_P D vN ((ho, .inl (cJ, 1, .inr (.inl (vp_updL (fun j => (g 200 j).toInt64) (0 : Int32).toNatClampNeg x.toInt64)))) :: wN cI cZ h f1 g1) H := hP
    have hD : va_D A ((ho, .inl (cJ, 1, .inr (.inl (vp_updL (fun j => (g 200 j).toInt64) (0 : Int32).toNatClampNeg x.toInt64)))) :: wN cI cZ h f1 g1) := hD
    rw [wO_st] at hP hD
    have hP : va_P D vN (wO cI cZ cJ ho h f1 (zz_v g1 200 (upd (g 200) 0 x))) H := hP
    have hD : va_D A (wO cI cZ cJ ho h f1 (zz_v g1 200 (upd (g 200) 0 x))) := hD
    refine lv_goto (tgt := 18) C.1.1 C.1.2.1 dw_power_9 (by decide) ?_
    refine lv_iconst (v := 0) C.1.1 C.1.2.1 dw_power_18 (by decide) ?_
    exact zz_reti C rfl hP hD hS (Or.inl ⟨rfl, g1, x, rfl, hq⟩) dw_power_19
  · rcases hpx E f1 g1 hq with rfl | rfl
    · refine ⟨12, by rw [htab]; exact zt_hit hpl C.1.2.2.2.1 rfl (by decide) (hts _ (List.mem_cons_of_mem _ kw_382)) (va_Nw.use rfl (C.2.2.2.2.2.2.2.1.1.1 (.castable "java/lang/IllegalStateException" "java/lang/IllegalStateException") (by decide +kernel))) hE, ?_⟩
      refine lv_astore_n (lv' := [(3, .ref q), (0, .ref (h 0)), (1, .int a), (2, .ref ho)]) C.1.1 C.1.2.1 dw_power_12 rfl hl (by decide) rfl (fun ls hl => ?_)
      refine lv_iconst (v := 1) C.1.1 C.1.2.1 dw_power_13 (by decide) ?_
      have hP : va_P D vN (wO cI cZ cJ ho h f1 (zz_v g1 200 (g 200))) H := hP
      have hD : va_D A (wO cI cZ cJ ho h f1 (zz_v g1 200 (g 200))) := hD
      exact zz_reti C rfl hP hD hS (Or.inr (Or.inl ⟨rfl, g1, rfl, hq⟩)) dw_power_14
    · refine ⟨15, by rw [htab]; exact zt_miss (name := "java/lang/IllegalStateException") hpl C.1.2.2.2.1 rfl (by decide) (hts _ (List.mem_cons_of_mem _ kw_382)) (C.2.2.2.2.2.2.2.1.2 ("java/lang/IllegalArgumentException", "java/lang/IllegalStateException") (by decide)) hE (zt_hit hpl C.1.2.2.2.1 rfl (by decide) (hts _ (List.mem_cons_of_mem _ kw_383)) (va_Nw.use rfl (C.2.2.2.2.2.2.2.1.1.1 (.castable "java/lang/IllegalArgumentException" "java/lang/IllegalArgumentException") (by decide +kernel))) hE), ?_⟩
      refine lv_astore_n (lv' := [(3, .ref q), (0, .ref (h 0)), (1, .int a), (2, .ref ho)]) C.1.1 C.1.2.1 dw_power_15 rfl hl (by decide) rfl (fun ls hl => ?_)
      refine lv_iconst (v := 2) C.1.1 C.1.2.1 dw_power_16 (by decide) ?_
      have hP : va_P D vN (wO cI cZ cJ ho h f1 (zz_v g1 200 (g 200))) H := hP
      have hD : va_D A (wO cI cZ cJ ho h f1 (zz_v g1 200 (g 200))) := hD
      exact zz_reti C rfl hP hD hS (Or.inr (Or.inr (⟨rfl, g1, rfl, hq⟩))) dw_power_17
theorem dw_state_0 : decode method_10_code 0 = .ok (.aload_n 2, 1) := by decide +kernel
theorem dw_state_1 : decode method_10_code 1 = .ok (.iconst 0, 1) := by decide +kernel
theorem dw_state_2 : decode method_10_code 2 = .ok (.aload_n 0, 1) := by decide +kernel
theorem dw_state_3 : decode method_10_code 3 = .ok (.iload_n 1, 1) := by decide +kernel
theorem dw_state_4 : decode method_10_code 4 = .ok (.invokevirtual 40, 3) := by decide +kernel
theorem dw_state_7 : decode method_10_code 7 = .ok (.i2l, 1) := by decide +kernel
theorem dw_state_8 : decode method_10_code 8 = .ok (.lastore, 1) := by decide +kernel
theorem dw_state_9 : decode method_10_code 9 = .ok (.goto 6, 3) := by decide +kernel
theorem dw_state_12 : decode method_10_code 12 = .ok (.astore_n 3, 1) := by decide +kernel
theorem dw_state_13 : decode method_10_code 13 = .ok (.iconst 1, 1) := by decide +kernel
theorem dw_state_14 : decode method_10_code 14 = .ok (.ireturn, 1) := by decide +kernel
theorem dw_state_15 : decode method_10_code 15 = .ok (.iconst 0, 1) := by decide +kernel
theorem dw_state_16 : decode method_10_code 16 = .ok (.ireturn, 1) := by decide +kernel
abbrev yw_state : MethodName := ⟨"NightCyclerLaw", "state", "(LNightCycler;I[J)I"⟩
set_option maxRecDepth 100000 in
theorem ww_state {l : Launch} {D : va_G} {B : Nat} {h : Nat → Nat} {cI cZ cJ : ClassId} {f : zz_F} {g : zz_G} {sz : Nat} {ho : Nat} {a : Int32} {rm : Room} {post : Option Value → zz_F → zz_G → Prop} {px : String → zz_F → zz_G → Prop} (hM : ∀ sz, zz_cx l D vN (tyN cI cZ cJ) B (wN cI cZ h) (xN B h) f g sz (⟨"NightCycler", "state", "(I)I"⟩ : MethodName) (Cond.code (⟨"NightCycler", "state", "(I)I"⟩ : MethodName) prog_1_method_19_code 2 (some .int) :: kk_W) rm [.ref (h 0), .int a] post px) (hrm : rm.cells = 1 ∧ rm.slots = 6 ∧ rm.frames ≤ 6 ∧ rm.locals ≤ 108) (hpo : ∀ r f1 g1, post r f1 g1 → ∃ x : Int32, r = some (.int x)) (hpx : ∀ E f1 g1, px E f1 g1 → E = "java/lang/IllegalArgumentException") :
    zz_c l D vN (tyN cI cZ cJ) B (wO cI cZ cJ ho h) (xL B h) f g sz yw_state (Cond.codeWith yw_state method_10_code 4 (some .int) [((0 : Nat), (9 : Nat), (12 : Nat), (15 : Nat))] :: kk_W) { frames := 7, cells := 1, slots := 6, locals := 129 } 1 6 [.ref (h 0), .int a, .ref ho] (fun r f1 g1 => (r = some (.int 0) ∧ (∃ (g0 : zz_G) (x : Int32), g1 = zz_v g0 200 (upd (g 200) 0 x) ∧ post (some (.int x)) f1 g0)) ∨ (r = some (.int 1) ∧ ∃ g0 : zz_G, g1 = zz_v g0 200 (g 200) ∧ px "java/lang/IllegalArgumentException" f1 g0)) := by
  refine zw_of (cc := method_10_code) (ret := some .int) (maxL := 4) (hh := [((0 : Nat), (9 : Nat), (12 : Nat), (15 : Nat))]) (by decide) rfl (Nat.le_of_ble_eq_true rfl) xL_ok ?_
  intro p e s m below meth c A ls C htab hP hD hl
  have hl : lv_has ls 4 [(0, .ref (h 0)), (1, .int a), (2, .ref ho)] := hl
  have hts := C.1.2.2.2.2
  refine lv_aload_n C.1.1 C.1.2.1 dw_state_0 rfl (lv_at hl 2 rfl) ?_
  refine lv_iconst (v := 0) C.1.1 C.1.2.1 dw_state_1 (by decide) ?_
  refine lv_aload_n C.1.1 C.1.2.1 dw_state_2 rfl (lv_at hl 0 rfl) ?_
  refine lv_iload_n C.1.1 C.1.2.1 dw_state_3 rfl (lv_at hl 1 rfl) ?_
  refine zx_callV (w := wN cI cZ h) (b := h 0) (As := [.int a]) (rest := [.int 0, .ref ho]) [(ho, .inl (cJ, 1, .inr (.inl (fun j => (g 200 j).toInt64))))] C (fun U H hx => hx.1) xN_ok (hM _) (cwV 1 hts (kk_gV kw_695 kw_696 kw_697 kw_1 kw_698) rfl hrm.1 hrm.2.1 (by decide +kernel) ⟨by have := hrm.2.2.1; show rm.frames + 1 ≤ 7; omega, by have := hrm.2.2.2; show 8 + (2 + 11) + rm.locals ≤ 129; omega⟩) (va_recv C.2.2.2.1 hP (ci := 0) (q0 := 1) rfl rfl) hP hD va_S.rf rfl hl.1 rfl (Nat.le_of_ble_eq_true rfl) dw_state_4 ⟨Nat.le_refl _, Nat.le_refl _⟩ (fun r f1 g1 H locs hq hP hD hS => ?_) (fun hpl E q th f1 g1 H locs hq hP hD hS hE => ?_)
  · obtain ⟨x, rfl⟩ := hpo _ _ _ hq
    refine lv_i2l (v := x.toInt64) C.1.1 C.1.2.1 dw_state_7 rfl ?_
    have hP : va_P D vN ((ho, .inl (cJ, 1, .inr (.inl (fun j => (g 200 j).toInt64)))) :: wN cI cZ h f1 g1) H := hP
    have hD : va_D A ((ho, .inl (cJ, 1, .inr (.inl (fun j => (g 200 j).toInt64)))) :: wN cI cZ h f1 g1) := hD
    refine va_last C.1.1 C.1.2.1 C.2.2.2.1 hP hD hS 0 2 rfl rfl (vp_in_iff.mpr (by decide)) dw_state_8 (fun H locs hP hD hS => ?_)
    have hP : va_P D vN ((ho, .inl (cJ, 1, .inr (.inl (vp_updL (fun j => (g 200 j).toInt64) (0 : Int32).toNatClampNeg x.toInt64)))) :: wN cI cZ h f1 g1) H := hP
    have hD : va_D A ((ho, .inl (cJ, 1, .inr (.inl (vp_updL (fun j => (g 200 j).toInt64) (0 : Int32).toNatClampNeg x.toInt64)))) :: wN cI cZ h f1 g1) := hD
    rw [wO_st] at hP hD
    have hP : va_P D vN (wO cI cZ cJ ho h f1 (zz_v g1 200 (upd (g 200) 0 x))) H := hP
    have hD : va_D A (wO cI cZ cJ ho h f1 (zz_v g1 200 (upd (g 200) 0 x))) := hD
    refine lv_goto (tgt := 15) C.1.1 C.1.2.1 dw_state_9 (by decide) ?_
    refine lv_iconst (v := 0) C.1.1 C.1.2.1 dw_state_15 (by decide) ?_
    exact zz_reti C rfl hP hD hS (Or.inl ⟨rfl, g1, x, rfl, hq⟩) dw_state_16
  · obtain rfl := hpx E f1 g1 hq
    refine ⟨12, by rw [htab]; exact zt_hit hpl C.1.2.2.2.1 rfl (by decide) (hts _ (List.mem_cons_of_mem _ kw_383)) (va_Nw.use rfl (C.2.2.2.2.2.2.2.1.1.1 (.castable "java/lang/IllegalArgumentException" "java/lang/IllegalArgumentException") (by decide +kernel))) hE, ?_⟩
    refine lv_astore_n (lv' := [(3, .ref q), (0, .ref (h 0)), (1, .int a), (2, .ref ho)]) C.1.1 C.1.2.1 dw_state_12 rfl hl (by decide) rfl (fun ls hl => ?_)
    refine lv_iconst (v := 1) C.1.1 C.1.2.1 dw_state_13 (by decide) ?_
    have hP : va_P D vN (wO cI cZ cJ ho h f1 (zz_v g1 200 (g 200))) H := hP
    have hD : va_D A (wO cI cZ cJ ho h f1 (zz_v g1 200 (g 200))) := hD
    exact zz_reti C rfl hP hD hS (Or.inr (⟨rfl, g1, rfl, hq⟩)) dw_state_14
theorem dw_report_0 : decode method_11_code 0 = .ok (.aload_n 3, 1) := by decide +kernel
theorem dw_report_1 : decode method_11_code 1 = .ok (.iconst 0, 1) := by decide +kernel
theorem dw_report_2 : decode method_11_code 2 = .ok (.aload_n 0, 1) := by decide +kernel
theorem dw_report_3 : decode method_11_code 3 = .ok (.iload_n 1, 1) := by decide +kernel
theorem dw_report_4 : decode method_11_code 4 = .ok (.iload_n 2, 1) := by decide +kernel
theorem dw_report_5 : decode method_11_code 5 = .ok (.invokevirtual 43, 3) := by decide +kernel
theorem dw_report_8 : decode method_11_code 8 = .ok (.i2l, 1) := by decide +kernel
theorem dw_report_9 : decode method_11_code 9 = .ok (.lastore, 1) := by decide +kernel
theorem dw_report_10 : decode method_11_code 10 = .ok (.goto 11, 3) := by decide +kernel
theorem dw_report_13 : decode method_11_code 13 = .ok (.astore 4, 2) := by decide +kernel
theorem dw_report_15 : decode method_11_code 15 = .ok (.iconst 1, 1) := by decide +kernel
theorem dw_report_16 : decode method_11_code 16 = .ok (.ireturn, 1) := by decide +kernel
theorem dw_report_17 : decode method_11_code 17 = .ok (.astore 4, 2) := by decide +kernel
theorem dw_report_19 : decode method_11_code 19 = .ok (.iconst 2, 1) := by decide +kernel
theorem dw_report_20 : decode method_11_code 20 = .ok (.ireturn, 1) := by decide +kernel
theorem dw_report_21 : decode method_11_code 21 = .ok (.iconst 0, 1) := by decide +kernel
theorem dw_report_22 : decode method_11_code 22 = .ok (.ireturn, 1) := by decide +kernel
abbrev yw_report : MethodName := ⟨"NightCyclerLaw", "report", "(LNightCycler;II[J)I"⟩
set_option maxRecDepth 100000 in
theorem ww_report {l : Launch} {D : va_G} {B : Nat} {h : Nat → Nat} {cI cZ cJ : ClassId} {f : zz_F} {g : zz_G} {sz : Nat} {ho : Nat} {a b : Int32} {rm : Room} {post : Option Value → zz_F → zz_G → Prop} {px : String → zz_F → zz_G → Prop} (hM : ∀ sz, zz_cx l D vN (tyN cI cZ cJ) B (wN cI cZ h) (xN B h) f g sz (⟨"NightCycler", "report", "(II)I"⟩ : MethodName) (Cond.code (⟨"NightCycler", "report", "(II)I"⟩ : MethodName) prog_1_method_20_code 3 (some .int) :: kk_W) rm [.ref (h 0), .int a, .int b] post px) (hrm : rm.cells = 1 ∧ rm.slots = 6 ∧ rm.frames ≤ 6 ∧ rm.locals ≤ 90) (hpo : ∀ r f1 g1, post r f1 g1 → ∃ x : Int32, r = some (.int x)) (hpx : ∀ E f1 g1, px E f1 g1 → E = "java/lang/IndexOutOfBoundsException" ∨ E = "java/lang/IllegalArgumentException") :
    zz_c l D vN (tyN cI cZ cJ) B (wO cI cZ cJ ho h) (xL B h) f g sz yw_report (Cond.codeWith yw_report method_11_code 5 (some .int) [((0 : Nat), (10 : Nat), (13 : Nat), (47 : Nat)), ((0 : Nat), (10 : Nat), (17 : Nat), (15 : Nat))] :: kk_W) { frames := 7, cells := 1, slots := 6, locals := 112 } 1 6 [.ref (h 0), .int a, .int b, .ref ho] (fun r f1 g1 => (r = some (.int 0) ∧ (∃ (g0 : zz_G) (x : Int32), g1 = zz_v g0 200 (upd (g 200) 0 x) ∧ post (some (.int x)) f1 g0)) ∨ (r = some (.int 1) ∧ ∃ g0 : zz_G, g1 = zz_v g0 200 (g 200) ∧ px "java/lang/IndexOutOfBoundsException" f1 g0) ∨ (r = some (.int 2) ∧ ∃ g0 : zz_G, g1 = zz_v g0 200 (g 200) ∧ px "java/lang/IllegalArgumentException" f1 g0)) := by
  refine zw_of (cc := method_11_code) (ret := some .int) (maxL := 5) (hh := [((0 : Nat), (10 : Nat), (13 : Nat), (47 : Nat)), ((0 : Nat), (10 : Nat), (17 : Nat), (15 : Nat))]) (by decide) rfl (Nat.le_of_ble_eq_true rfl) xL_ok ?_
  intro p e s m below meth c A ls C htab hP hD hl
  have hl : lv_has ls 5 [(0, .ref (h 0)), (1, .int a), (2, .int b), (3, .ref ho)] := hl
  have hts := C.1.2.2.2.2
  refine lv_aload_n C.1.1 C.1.2.1 dw_report_0 rfl (lv_at hl 3 rfl) ?_
  refine lv_iconst (v := 0) C.1.1 C.1.2.1 dw_report_1 (by decide) ?_
  refine lv_aload_n C.1.1 C.1.2.1 dw_report_2 rfl (lv_at hl 0 rfl) ?_
  refine lv_iload_n C.1.1 C.1.2.1 dw_report_3 rfl (lv_at hl 1 rfl) ?_
  refine lv_iload_n C.1.1 C.1.2.1 dw_report_4 rfl (lv_at hl 2 rfl) ?_
  refine zx_callV (w := wN cI cZ h) (b := h 0) (As := [.int a, .int b]) (rest := [.int 0, .ref ho]) [(ho, .inl (cJ, 1, .inr (.inl (fun j => (g 200 j).toInt64))))] C (fun U H hx => hx.1) xN_ok (hM _) (cwV 2 hts (kk_gV kw_704 kw_705 kw_706 kw_1 kw_707) rfl hrm.1 hrm.2.1 (by decide +kernel) ⟨by have := hrm.2.2.1; show rm.frames + 1 ≤ 7; omega, by have := hrm.2.2.2; show 8 + (3 + 11) + rm.locals ≤ 112; omega⟩) (va_recv C.2.2.2.1 hP (ci := 0) (q0 := 1) rfl rfl) hP hD va_S.rf rfl hl.1 rfl (Nat.le_of_ble_eq_true rfl) dw_report_5 ⟨Nat.le_refl _, Nat.le_refl _⟩ (fun r f1 g1 H locs hq hP hD hS => ?_) (fun hpl E q th f1 g1 H locs hq hP hD hS hE => ?_)
  · obtain ⟨x, rfl⟩ := hpo _ _ _ hq
    refine lv_i2l (v := x.toInt64) C.1.1 C.1.2.1 dw_report_8 rfl ?_
    have hP : va_P D vN ((ho, .inl (cJ, 1, .inr (.inl (fun j => (g 200 j).toInt64)))) :: wN cI cZ h f1 g1) H := hP
    have hD : va_D A ((ho, .inl (cJ, 1, .inr (.inl (fun j => (g 200 j).toInt64)))) :: wN cI cZ h f1 g1) := hD
    refine va_last C.1.1 C.1.2.1 C.2.2.2.1 hP hD hS 0 2 rfl rfl (vp_in_iff.mpr (by decide)) dw_report_9 (fun H locs hP hD hS => ?_)
    have hP : va_P D vN ((ho, .inl (cJ, 1, .inr (.inl (vp_updL (fun j => (g 200 j).toInt64) (0 : Int32).toNatClampNeg x.toInt64)))) :: wN cI cZ h f1 g1) H := hP
    have hD : va_D A ((ho, .inl (cJ, 1, .inr (.inl (vp_updL (fun j => (g 200 j).toInt64) (0 : Int32).toNatClampNeg x.toInt64)))) :: wN cI cZ h f1 g1) := hD
    rw [wO_st] at hP hD
    have hP : va_P D vN (wO cI cZ cJ ho h f1 (zz_v g1 200 (upd (g 200) 0 x))) H := hP
    have hD : va_D A (wO cI cZ cJ ho h f1 (zz_v g1 200 (upd (g 200) 0 x))) := hD
    refine lv_goto (tgt := 21) C.1.1 C.1.2.1 dw_report_10 (by decide) ?_
    refine lv_iconst (v := 0) C.1.1 C.1.2.1 dw_report_21 (by decide) ?_
    exact zz_reti C rfl hP hD hS (Or.inl ⟨rfl, g1, x, rfl, hq⟩) dw_report_22
  · rcases hpx E f1 g1 hq with rfl | rfl
    · refine ⟨13, by rw [htab]; exact zt_hit hpl C.1.2.2.2.1 rfl (by decide) (hts _ (List.mem_cons_of_mem _ kw_703)) (va_Nw.use rfl (C.2.2.2.2.2.2.2.1.1.1 (.castable "java/lang/IndexOutOfBoundsException" "java/lang/IndexOutOfBoundsException") (by decide +kernel))) hE, ?_⟩
      refine lv_astore (lv' := [(4, .ref q), (0, .ref (h 0)), (1, .int a), (2, .int b), (3, .ref ho)]) C.1.1 C.1.2.1 dw_report_13 hl (by decide) rfl (fun ls hl => ?_)
      refine lv_iconst (v := 1) C.1.1 C.1.2.1 dw_report_15 (by decide) ?_
      have hP : va_P D vN (wO cI cZ cJ ho h f1 (zz_v g1 200 (g 200))) H := hP
      have hD : va_D A (wO cI cZ cJ ho h f1 (zz_v g1 200 (g 200))) := hD
      exact zz_reti C rfl hP hD hS (Or.inr (Or.inl ⟨rfl, g1, rfl, hq⟩)) dw_report_16
    · refine ⟨17, by rw [htab]; exact zt_miss (name := "java/lang/IndexOutOfBoundsException") hpl C.1.2.2.2.1 rfl (by decide) (hts _ (List.mem_cons_of_mem _ kw_703)) (C.2.2.2.2.2.2.2.1.2 ("java/lang/IllegalArgumentException", "java/lang/IndexOutOfBoundsException") (by decide)) hE (zt_hit hpl C.1.2.2.2.1 rfl (by decide) (hts _ (List.mem_cons_of_mem _ kw_383)) (va_Nw.use rfl (C.2.2.2.2.2.2.2.1.1.1 (.castable "java/lang/IllegalArgumentException" "java/lang/IllegalArgumentException") (by decide +kernel))) hE), ?_⟩
      refine lv_astore (lv' := [(4, .ref q), (0, .ref (h 0)), (1, .int a), (2, .int b), (3, .ref ho)]) C.1.1 C.1.2.1 dw_report_17 hl (by decide) rfl (fun ls hl => ?_)
      refine lv_iconst (v := 2) C.1.1 C.1.2.1 dw_report_19 (by decide) ?_
      have hP : va_P D vN (wO cI cZ cJ ho h f1 (zz_v g1 200 (g 200))) H := hP
      have hD : va_D A (wO cI cZ cJ ho h f1 (zz_v g1 200 (g 200))) := hD
      exact zz_reti C rfl hP hD hS (Or.inr (Or.inr (⟨rfl, g1, rfl, hq⟩))) dw_report_20

theorem kw_24 : (Jvm.Cond.instanceMethod ({ cls := "java/lang/Object", name := "<init>", desc := "()V" } : Jvm.MethodName)) ∈ kk_W := kk_in 73 (by decide +kernel) (by decide +kernel)
theorem kw_25 : (Jvm.Cond.code ({ cls := "java/lang/Object", name := "<init>", desc := "()V" } : Jvm.MethodName) object_method_1_code (1 : Nat) (Option.none : Option Jvm.ClassFile.FieldType)) ∈ kk_W := kk_in 74 (by decide +kernel) (by decide +kernel)
theorem kw_31 : (Jvm.Cond.methodLink "NightCycler$Prescription" (1 : Nat) ({ cls := "java/lang/Object", name := "<init>", desc := "()V" } : Jvm.MethodName)) ∈ kk_W := kk_in 80 (by decide +kernel) (by decide +kernel)
theorem kw_36 : (Jvm.Cond.arrayClass Jvm.ClassFile.FieldType.int) ∈ kk_W := kk_in 85 (by decide +kernel) (by decide +kernel)
theorem kw_42 : (Jvm.Cond.methodLink "NightCycler$Balance" (1 : Nat) ({ cls := "java/lang/Object", name := "<init>", desc := "()V" } : Jvm.MethodName)) ∈ kk_W := kk_in 91 (by decide +kernel) (by decide +kernel)
theorem kw_70 : (Jvm.Cond.methodLink "NightCycler$Senses" (1 : Nat) ({ cls := "java/lang/Object", name := "<init>", desc := "()V" } : Jvm.MethodName)) ∈ kk_W := kk_in 119 (by decide +kernel) (by decide +kernel)
theorem kw_95 : (Jvm.Cond.methodLink "NightCycler$Alarms" (1 : Nat) ({ cls := "java/lang/Object", name := "<init>", desc := "()V" } : Jvm.MethodName)) ∈ kk_W := kk_in 144 (by decide +kernel) (by decide +kernel)
theorem kw_104 : (Jvm.Cond.arrayClass Jvm.ClassFile.FieldType.boolean) ∈ kk_W := kk_in 153 (by decide +kernel) (by decide +kernel)
theorem kw_110 : (Jvm.Cond.methodLink "NightCycler$Flow" (3 : Nat) ({ cls := "java/lang/Object", name := "<init>", desc := "()V" } : Jvm.MethodName)) ∈ kk_W := kk_in 159 (by decide +kernel) (by decide +kernel)
theorem kw_133 : (Jvm.Cond.methodLink "NightCycler$Pages" (1 : Nat) ({ cls := "java/lang/Object", name := "<init>", desc := "()V" } : Jvm.MethodName)) ∈ kk_W := kk_in 182 (by decide +kernel) (by decide +kernel)
theorem kw_150 : (Jvm.Cond.methodLink "NightCycler$Reports" (1 : Nat) ({ cls := "java/lang/Object", name := "<init>", desc := "()V" } : Jvm.MethodName)) ∈ kk_W := kk_in 199 (by decide +kernel) (by decide +kernel)
theorem kw_736 : (Jvm.Cond.methodLink "NightCyclerModel" (1 : Nat) ({ cls := "java/lang/Object", name := "<init>", desc := "()V" } : Jvm.MethodName)) ∈ kk_W := kk_in 785 (by decide +kernel) (by decide +kernel)
theorem kw_737 : (Jvm.Cond.constant "NightCyclerModel" (16 : Nat) (40000 : Int32)) ∈ kk_W := kk_in 786 (by decide +kernel) (by decide +kernel)
abbrev y_1_init : MethodName := ⟨"NightCycler$Prescription", "<init>", "()V"⟩
theorem dk_1_init_0 : decode prog_6_method_1_code 0 = .ok (.aload_n 0, 1) := by decide +kernel
theorem dk_1_init_1 : decode prog_6_method_1_code 1 = .ok (.invokespecial 1, 3) := by decide +kernel
theorem dk_1_init_4 : decode prog_6_method_1_code 4 = .ok (.aload_n 0, 1) := by decide +kernel
theorem dk_1_init_5 : decode prog_6_method_1_code 5 = .ok (.bipush 9, 2) := by decide +kernel
theorem dk_1_init_7 : decode prog_6_method_1_code 7 = .ok (.newarray .int, 2) := by decide +kernel
theorem dk_1_init_9 : decode prog_6_method_1_code 9 = .ok (.dup, 1) := by decide +kernel
theorem dk_1_init_10 : decode prog_6_method_1_code 10 = .ok (.iconst 0, 1) := by decide +kernel
theorem dk_1_init_11 : decode prog_6_method_1_code 11 = .ok (.iconst 3, 1) := by decide +kernel
theorem dk_1_init_12 : decode prog_6_method_1_code 12 = .ok (.iastore, 1) := by decide +kernel
theorem dk_1_init_13 : decode prog_6_method_1_code 13 = .ok (.dup, 1) := by decide +kernel
theorem dk_1_init_14 : decode prog_6_method_1_code 14 = .ok (.iconst 1, 1) := by decide +kernel
theorem dk_1_init_15 : decode prog_6_method_1_code 15 = .ok (.sipush 2000, 3) := by decide +kernel
theorem dk_1_init_18 : decode prog_6_method_1_code 18 = .ok (.iastore, 1) := by decide +kernel
theorem dk_1_init_19 : decode prog_6_method_1_code 19 = .ok (.dup, 1) := by decide +kernel
theorem dk_1_init_20 : decode prog_6_method_1_code 20 = .ok (.iconst 2, 1) := by decide +kernel
theorem dk_1_init_21 : decode prog_6_method_1_code 21 = .ok (.iconst 1, 1) := by decide +kernel
theorem dk_1_init_22 : decode prog_6_method_1_code 22 = .ok (.iastore, 1) := by decide +kernel
theorem dk_1_init_23 : decode prog_6_method_1_code 23 = .ok (.dup, 1) := by decide +kernel
theorem dk_1_init_24 : decode prog_6_method_1_code 24 = .ok (.iconst 3, 1) := by decide +kernel
theorem dk_1_init_25 : decode prog_6_method_1_code 25 = .ok (.iconst 0, 1) := by decide +kernel
theorem dk_1_init_26 : decode prog_6_method_1_code 26 = .ok (.iastore, 1) := by decide +kernel
theorem dk_1_init_27 : decode prog_6_method_1_code 27 = .ok (.dup, 1) := by decide +kernel
theorem dk_1_init_28 : decode prog_6_method_1_code 28 = .ok (.iconst 4, 1) := by decide +kernel
theorem dk_1_init_29 : decode prog_6_method_1_code 29 = .ok (.bipush 80, 2) := by decide +kernel
theorem dk_1_init_31 : decode prog_6_method_1_code 31 = .ok (.iastore, 1) := by decide +kernel
theorem dk_1_init_32 : decode prog_6_method_1_code 32 = .ok (.dup, 1) := by decide +kernel
theorem dk_1_init_33 : decode prog_6_method_1_code 33 = .ok (.iconst 5, 1) := by decide +kernel
theorem dk_1_init_34 : decode prog_6_method_1_code 34 = .ok (.sipush 5000, 3) := by decide +kernel
theorem dk_1_init_37 : decode prog_6_method_1_code 37 = .ok (.iastore, 1) := by decide +kernel
theorem dk_1_init_38 : decode prog_6_method_1_code 38 = .ok (.dup, 1) := by decide +kernel
theorem dk_1_init_39 : decode prog_6_method_1_code 39 = .ok (.bipush 6, 2) := by decide +kernel
theorem dk_1_init_41 : decode prog_6_method_1_code 41 = .ok (.bipush 60, 2) := by decide +kernel
theorem dk_1_init_43 : decode prog_6_method_1_code 43 = .ok (.iastore, 1) := by decide +kernel
theorem dk_1_init_44 : decode prog_6_method_1_code 44 = .ok (.dup, 1) := by decide +kernel
theorem dk_1_init_45 : decode prog_6_method_1_code 45 = .ok (.bipush 7, 2) := by decide +kernel
theorem dk_1_init_47 : decode prog_6_method_1_code 47 = .ok (.sipush 3700, 3) := by decide +kernel
theorem dk_1_init_50 : decode prog_6_method_1_code 50 = .ok (.iastore, 1) := by decide +kernel
theorem dk_1_init_51 : decode prog_6_method_1_code 51 = .ok (.dup, 1) := by decide +kernel
theorem dk_1_init_52 : decode prog_6_method_1_code 52 = .ok (.bipush 8, 2) := by decide +kernel
theorem dk_1_init_54 : decode prog_6_method_1_code 54 = .ok (.iconst 0, 1) := by decide +kernel
theorem dk_1_init_55 : decode prog_6_method_1_code 55 = .ok (.iastore, 1) := by decide +kernel
theorem dk_1_init_56 : decode prog_6_method_1_code 56 = .ok (.putfield 7, 3) := by decide +kernel
theorem dk_1_init_59 : decode prog_6_method_1_code 59 = .ok (.return_, 1) := by decide +kernel
/-- what the cells are behind NightCycler$Prescription() -/
abbrev at_1 (D : va_G) (cI cZ cJ : ClassId) (A : Nat → Prop) (h0 : Nat) (u : Nat) (t : State) : Prop := match u with
  | q1 => va_P D vN [(h0, .inr (1, [.ref q1])), (q1, .inl (cI, 9, .inl (upd (upd (upd (upd (upd (upd (upd (upd (upd (fun _ => 0) 0 3) 1 2000) 2 1) 3 0) 4 80) 5 5000) 6 60) 7 3700) 8 0)))] t.heap ∧ va_K D vN (tyN cI cZ cJ) t ∧ va_D A [(h0, .inr (1, [.ref q1])), (q1, .inl (cI, 9, .inl (upd (upd (upd (upd (upd (upd (upd (upd (upd (fun _ => 0) 0 3) 1 2000) 2 1) 3 0) 4 80) 5 5000) 6 60) 7 3700) 8 0)))]
set_option maxHeartbeats 4000000 in
set_option maxRecDepth 100000 in
theorem k_1 (l : Launch) (D : va_G) (cI cZ cJ : ClassId) (h0 sz : Nat) : Met l y_1_init (Cond.code y_1_init prog_6_method_1_code 1 none :: kk_W) ({ frames := 1, cells := 1, slots := 9, locals := 12 }) (va_Pc [.ref h0] (fun U => U.heap.size = sz ∧ va_P D vN [(h0, .inr (1, [.null]))] U.heap ∧ va_K D vN (tyN cI cZ cJ) U ∧ va_D (fun _ => True) [(h0, .inr (1, [.null]))])) (va_Qv (fun _ : Nat => True) (at_1 D cI cZ cJ (va_A [(h0, .inr (1, [.null]))] sz) h0) (va_A [(h0, .inr (1, [.null]))] sz)) 1 9 (va_A [(h0, .inr (1, [.null]))] sz) := by
  refine Met.ofW (cc := prog_6_method_1_code) (maxL := 1) (ret := none) (by decide) rfl ?_
  intro p e s m args below meth c s₁ B hml hv
  obtain ⟨rfl, hsz, hP, hK, hD0⟩ := hv
  have hx := B.exec
  have hb := B.bytes
  have hr := B.returns
  have hts := atoms_spec (ws := (Cond.code y_1_init prog_6_method_1_code 1 none :: kk_W)) B.pre
  have hown : s.vm.findClass RN1 = some m.cls := findClass_of_methodNamed B.named
  have hlocks := B.notSynchronized
  have hin : meth.name = "<init>" := (name_of_methodNamed B.named B.method).1
  subst hsz
  have hD := hD0.self (sz := s.heap.size)
  generalize hAe : va_A [(h0, .inr (1, [.null]))] s.heap.size = A at hD ⊢
  have hA : ∀ q : Nat, s.heap.size ≤ q → A q := fun q h => by rw [← hAe]; exact Or.inr h
  have hS : va_S A s.heap s.heap [] := va_S.rf
  have hl := lv_entry ([.ref h0]) (n := 1) (Nat.le_of_ble_eq_true rfl)
  rw [lg_entry_eq]
  generalize (lg_sl ([.ref h0]) ++ List.replicate (1 - (lg_sl ([.ref h0])).length) Slot.unset).toArray = ls at hl ⊢
  have hl : lv_has ls 1 [(0, .ref h0)] := hl
  refine lv_aload_n hx hb dk_1_init_0 rfl (lv_at hl 0 rfl) ?_
  refine W.objInit hx hb hown (hts (.methodLink RN1 1 objectInit) (List.mem_cons_of_mem _ kw_31)) (hts (.instanceMethod objectInit) (List.mem_cons_of_mem _ kw_24)) (hts _ (List.mem_cons_of_mem _ kw_25)) rfl (by rw [hml]; exact hl.1) rfl dk_1_init_1 (Nat.le_of_ble_eq_true rfl) (Nat.le_of_ble_eq_true rfl) ?_
  refine W.eq (g2 := F0 m 4 ls []) rfl ?_
  refine lv_aload_n hx hb dk_1_init_4 rfl (lv_at hl 0 rfl) ?_
  refine lv_bipush (v := 9) hx hb dk_1_init_5 (by decide) ?_
  refine va_newa (atype := .int) (ty := .int) (N' := 9) (a0 := (9, .inl (fun _ => 0))) hx hb (hts _ (List.mem_cons_of_mem _ kw_36)) rfl hK hP hD hS hA (fun _ => rfl) (by decide) rfl (by decide) (Nat.le_of_ble_eq_true rfl) (Nat.le_of_ble_eq_true rfl) dk_1_init_7 (fun q1 cA H hK1 hP hD hS => ?_)
  have ecA : cI = cA := Option.some.inj ((hK1.2 0 _ rfl).2.symm.trans (hK1.2 3 _ rfl).2)
  subst ecA
  have hP : va_P D vN [(h0, .inr (1, [.null])), (q1, .inl (cI, 9, .inl (fun _ => 0)))] H := hP
  have hD : va_D A [(h0, .inr (1, [.null])), (q1, .inl (cI, 9, .inl (fun _ => 0)))] := hD
  refine lv_dup hx hb dk_1_init_9 rfl ?_
  refine lv_iconst (v := 0) hx hb dk_1_init_10 (by decide) ?_
  refine lv_iconst (v := 3) hx hb dk_1_init_11 (by decide) ?_
  refine va_iast hx hb hK hP hD hS 1 0 rfl rfl (vp_in_iff.mpr (by decide)) dk_1_init_12 (fun H locs hP hD hS => ?_)
  have hP : va_P D vN [(h0, .inr (1, [.null])), (q1, .inl (cI, 9, .inl (upd (fun _ => 0) 0 3)))] H := hP
  have hD : va_D A [(h0, .inr (1, [.null])), (q1, .inl (cI, 9, .inl (upd (fun _ => 0) 0 3)))] := hD
  refine lv_dup hx hb dk_1_init_13 rfl ?_
  refine lv_iconst (v := 1) hx hb dk_1_init_14 (by decide) ?_
  refine lv_sipush (v := 2000) hx hb dk_1_init_15 (by decide) ?_
  refine va_iast hx hb hK hP hD hS 1 0 rfl rfl (vp_in_iff.mpr (by decide)) dk_1_init_18 (fun H locs hP hD hS => ?_)
  have hP : va_P D vN [(h0, .inr (1, [.null])), (q1, .inl (cI, 9, .inl (upd (upd (fun _ => 0) 0 3) 1 2000)))] H := hP
  have hD : va_D A [(h0, .inr (1, [.null])), (q1, .inl (cI, 9, .inl (upd (upd (fun _ => 0) 0 3) 1 2000)))] := hD
  refine lv_dup hx hb dk_1_init_19 rfl ?_
  refine lv_iconst (v := 2) hx hb dk_1_init_20 (by decide) ?_
  refine lv_iconst (v := 1) hx hb dk_1_init_21 (by decide) ?_
  refine va_iast hx hb hK hP hD hS 1 0 rfl rfl (vp_in_iff.mpr (by decide)) dk_1_init_22 (fun H locs hP hD hS => ?_)
  have hP : va_P D vN [(h0, .inr (1, [.null])), (q1, .inl (cI, 9, .inl (upd (upd (upd (fun _ => 0) 0 3) 1 2000) 2 1)))] H := hP
  have hD : va_D A [(h0, .inr (1, [.null])), (q1, .inl (cI, 9, .inl (upd (upd (upd (fun _ => 0) 0 3) 1 2000) 2 1)))] := hD
  refine lv_dup hx hb dk_1_init_23 rfl ?_
  refine lv_iconst (v := 3) hx hb dk_1_init_24 (by decide) ?_
  refine lv_iconst (v := 0) hx hb dk_1_init_25 (by decide) ?_
  refine va_iast hx hb hK hP hD hS 1 0 rfl rfl (vp_in_iff.mpr (by decide)) dk_1_init_26 (fun H locs hP hD hS => ?_)
  have hP : va_P D vN [(h0, .inr (1, [.null])), (q1, .inl (cI, 9, .inl (upd (upd (upd (upd (fun _ => 0) 0 3) 1 2000) 2 1) 3 0)))] H := hP
  have hD : va_D A [(h0, .inr (1, [.null])), (q1, .inl (cI, 9, .inl (upd (upd (upd (upd (fun _ => 0) 0 3) 1 2000) 2 1) 3 0)))] := hD
  refine lv_dup hx hb dk_1_init_27 rfl ?_
  refine lv_iconst (v := 4) hx hb dk_1_init_28 (by decide) ?_
  refine lv_bipush (v := 80) hx hb dk_1_init_29 (by decide) ?_
  refine va_iast hx hb hK hP hD hS 1 0 rfl rfl (vp_in_iff.mpr (by decide)) dk_1_init_31 (fun H locs hP hD hS => ?_)
  have hP : va_P D vN [(h0, .inr (1, [.null])), (q1, .inl (cI, 9, .inl (upd (upd (upd (upd (upd (fun _ => 0) 0 3) 1 2000) 2 1) 3 0) 4 80)))] H := hP
  have hD : va_D A [(h0, .inr (1, [.null])), (q1, .inl (cI, 9, .inl (upd (upd (upd (upd (upd (fun _ => 0) 0 3) 1 2000) 2 1) 3 0) 4 80)))] := hD
  refine lv_dup hx hb dk_1_init_32 rfl ?_
  refine lv_iconst (v := 5) hx hb dk_1_init_33 (by decide) ?_
  refine lv_sipush (v := 5000) hx hb dk_1_init_34 (by decide) ?_
  refine va_iast hx hb hK hP hD hS 1 0 rfl rfl (vp_in_iff.mpr (by decide)) dk_1_init_37 (fun H locs hP hD hS => ?_)
  have hP : va_P D vN [(h0, .inr (1, [.null])), (q1, .inl (cI, 9, .inl (upd (upd (upd (upd (upd (upd (fun _ => 0) 0 3) 1 2000) 2 1) 3 0) 4 80) 5 5000)))] H := hP
  have hD : va_D A [(h0, .inr (1, [.null])), (q1, .inl (cI, 9, .inl (upd (upd (upd (upd (upd (upd (fun _ => 0) 0 3) 1 2000) 2 1) 3 0) 4 80) 5 5000)))] := hD
  refine lv_dup hx hb dk_1_init_38 rfl ?_
  refine lv_bipush (v := 6) hx hb dk_1_init_39 (by decide) ?_
  refine lv_bipush (v := 60) hx hb dk_1_init_41 (by decide) ?_
  refine va_iast hx hb hK hP hD hS 1 0 rfl rfl (vp_in_iff.mpr (by decide)) dk_1_init_43 (fun H locs hP hD hS => ?_)
  have hP : va_P D vN [(h0, .inr (1, [.null])), (q1, .inl (cI, 9, .inl (upd (upd (upd (upd (upd (upd (upd (fun _ => 0) 0 3) 1 2000) 2 1) 3 0) 4 80) 5 5000) 6 60)))] H := hP
  have hD : va_D A [(h0, .inr (1, [.null])), (q1, .inl (cI, 9, .inl (upd (upd (upd (upd (upd (upd (upd (fun _ => 0) 0 3) 1 2000) 2 1) 3 0) 4 80) 5 5000) 6 60)))] := hD
  refine lv_dup hx hb dk_1_init_44 rfl ?_
  refine lv_bipush (v := 7) hx hb dk_1_init_45 (by decide) ?_
  refine lv_sipush (v := 3700) hx hb dk_1_init_47 (by decide) ?_
  refine va_iast hx hb hK hP hD hS 1 0 rfl rfl (vp_in_iff.mpr (by decide)) dk_1_init_50 (fun H locs hP hD hS => ?_)
  have hP : va_P D vN [(h0, .inr (1, [.null])), (q1, .inl (cI, 9, .inl (upd (upd (upd (upd (upd (upd (upd (upd (fun _ => 0) 0 3) 1 2000) 2 1) 3 0) 4 80) 5 5000) 6 60) 7 3700)))] H := hP
  have hD : va_D A [(h0, .inr (1, [.null])), (q1, .inl (cI, 9, .inl (upd (upd (upd (upd (upd (upd (upd (upd (fun _ => 0) 0 3) 1 2000) 2 1) 3 0) 4 80) 5 5000) 6 60) 7 3700)))] := hD
  refine lv_dup hx hb dk_1_init_51 rfl ?_
  refine lv_bipush (v := 8) hx hb dk_1_init_52 (by decide) ?_
  refine lv_iconst (v := 0) hx hb dk_1_init_54 (by decide) ?_
  refine va_iast hx hb hK hP hD hS 1 0 rfl rfl (vp_in_iff.mpr (by decide)) dk_1_init_55 (fun H locs hP hD hS => ?_)
  have hP : va_P D vN [(h0, .inr (1, [.null])), (q1, .inl (cI, 9, .inl (upd (upd (upd (upd (upd (upd (upd (upd (upd (fun _ => 0) 0 3) 1 2000) 2 1) 3 0) 4 80) 5 5000) 6 60) 7 3700) 8 0)))] H := hP
  have hD : va_D A [(h0, .inr (1, [.null])), (q1, .inl (cI, 9, .inl (upd (upd (upd (upd (upd (upd (upd (upd (upd (fun _ => 0) 0 3) 1 2000) 2 1) 3 0) 4 80) 5 5000) 6 60) 7 3700) 8 0)))] := hD
  refine va_putF (ci := 1) (v := .ref q1) (ty := .array .int) (C := RN1) (T := TN1) (N := 1) hx hb hts (fun w h => List.mem_cons_of_mem _ (iN1 w h)) tN1 tN1_ok nN1 hown hK hP hD hS 0 rfl rfl 0 (by decide) (hts _ (List.mem_cons_of_mem _ kw_32)) (fun _ h9 => h9) rfl hin rfl (by decide +kernel) rfl rfl (Nat.le_of_ble_eq_true rfl) dk_1_init_56 (fun H locs hP hD hS => ?_)
  have hP : va_P D vN [(h0, .inr (1, [.ref q1])), (q1, .inl (cI, 9, .inl (upd (upd (upd (upd (upd (upd (upd (upd (upd (fun _ => 0) 0 3) 1 2000) 2 1) 3 0) 4 80) 5 5000) 6 60) 7 3700) 8 0)))] H := hP
  have hD : va_D A [(h0, .inr (1, [.ref q1])), (q1, .inl (cI, 9, .inl (upd (upd (upd (upd (upd (upd (upd (upd (upd (fun _ => 0) 0 3) 1 2000) 2 1) 3 0) 4 80) 5 5000) 6 60) 7 3700) 8 0)))] := hD
  refine W.widen (k := 1) (n := 9) (by omega) (by omega) ?_
  exact W.vret hx hb hr (fun t ht hW => ⟨⟨q1, rfl, trivial, by rw [ht]; exact hP, va_K.moved hW.alike hK, hD⟩, hS.F ht⟩) hS.2.2 dk_1_init_59
abbrev y_2_init : MethodName := ⟨"NightCycler$Balance", "<init>", "()V"⟩
theorem dk_2_init_0 : decode prog_3_method_1_code 0 = .ok (.aload_n 0, 1) := by decide +kernel
theorem dk_2_init_1 : decode prog_3_method_1_code 1 = .ok (.invokespecial 1, 3) := by decide +kernel
theorem dk_2_init_4 : decode prog_3_method_1_code 4 = .ok (.aload_n 0, 1) := by decide +kernel
theorem dk_2_init_5 : decode prog_3_method_1_code 5 = .ok (.bipush 8, 2) := by decide +kernel
theorem dk_2_init_7 : decode prog_3_method_1_code 7 = .ok (.newarray .int, 2) := by decide +kernel
theorem dk_2_init_9 : decode prog_3_method_1_code 9 = .ok (.putfield 9, 3) := by decide +kernel
theorem dk_2_init_12 : decode prog_3_method_1_code 12 = .ok (.aload_n 0, 1) := by decide +kernel
theorem dk_2_init_13 : decode prog_3_method_1_code 13 = .ok (.bipush 8, 2) := by decide +kernel
theorem dk_2_init_15 : decode prog_3_method_1_code 15 = .ok (.newarray .int, 2) := by decide +kernel
theorem dk_2_init_17 : decode prog_3_method_1_code 17 = .ok (.putfield 13, 3) := by decide +kernel
theorem dk_2_init_20 : decode prog_3_method_1_code 20 = .ok (.return_, 1) := by decide +kernel
/-- what the cells are behind NightCycler$Balance() -/
abbrev at_2 (D : va_G) (cI cZ cJ : ClassId) (A : Nat → Prop) (h0 : Nat) (u : Nat × Nat) (t : State) : Prop := match u with
  | (q1, q2) => va_P D vN [(h0, .inr (2, [.ref q1, .ref q2, .int 0, .int 0, .int 0, .int 0, .int 0])), (q1, .inl (cI, 8, .inl (fun _ => 0))), (q2, .inl (cI, 8, .inl (fun _ => 0)))] t.heap ∧ va_K D vN (tyN cI cZ cJ) t ∧ va_D A [(h0, .inr (2, [.ref q1, .ref q2, .int 0, .int 0, .int 0, .int 0, .int 0])), (q1, .inl (cI, 8, .inl (fun _ => 0))), (q2, .inl (cI, 8, .inl (fun _ => 0)))]
set_option maxHeartbeats 4000000 in
set_option maxRecDepth 100000 in
theorem k_2 (l : Launch) (D : va_G) (cI cZ cJ : ClassId) (h0 sz : Nat) : Met l y_2_init (Cond.code y_2_init prog_3_method_1_code 1 none :: kk_W) ({ frames := 1, cells := 2, slots := 16, locals := 12 }) (va_Pc [.ref h0] (fun U => U.heap.size = sz ∧ va_P D vN [(h0, .inr (2, [.null, .null, .int 0, .int 0, .int 0, .int 0, .int 0]))] U.heap ∧ va_K D vN (tyN cI cZ cJ) U ∧ va_D (fun _ => True) [(h0, .inr (2, [.null, .null, .int 0, .int 0, .int 0, .int 0, .int 0]))])) (va_Qv (fun _ : Nat × Nat => True) (at_2 D cI cZ cJ (va_A [(h0, .inr (2, [.null, .null, .int 0, .int 0, .int 0, .int 0, .int 0]))] sz) h0) (va_A [(h0, .inr (2, [.null, .null, .int 0, .int 0, .int 0, .int 0, .int 0]))] sz)) 2 16 (va_A [(h0, .inr (2, [.null, .null, .int 0, .int 0, .int 0, .int 0, .int 0]))] sz) := by
  refine Met.ofW (cc := prog_3_method_1_code) (maxL := 1) (ret := none) (by decide) rfl ?_
  intro p e s m args below meth c s₁ B hml hv
  obtain ⟨rfl, hsz, hP, hK, hD0⟩ := hv
  have hx := B.exec
  have hb := B.bytes
  have hr := B.returns
  have hts := atoms_spec (ws := (Cond.code y_2_init prog_3_method_1_code 1 none :: kk_W)) B.pre
  have hown : s.vm.findClass RN2 = some m.cls := findClass_of_methodNamed B.named
  have hlocks := B.notSynchronized
  have hin : meth.name = "<init>" := (name_of_methodNamed B.named B.method).1
  subst hsz
  have hD := hD0.self (sz := s.heap.size)
  generalize hAe : va_A [(h0, .inr (2, [.null, .null, .int 0, .int 0, .int 0, .int 0, .int 0]))] s.heap.size = A at hD ⊢
  have hA : ∀ q : Nat, s.heap.size ≤ q → A q := fun q h => by rw [← hAe]; exact Or.inr h
  have hS : va_S A s.heap s.heap [] := va_S.rf
  have hl := lv_entry ([.ref h0]) (n := 1) (Nat.le_of_ble_eq_true rfl)
  rw [lg_entry_eq]
  generalize (lg_sl ([.ref h0]) ++ List.replicate (1 - (lg_sl ([.ref h0])).length) Slot.unset).toArray = ls at hl ⊢
  have hl : lv_has ls 1 [(0, .ref h0)] := hl
  refine lv_aload_n hx hb dk_2_init_0 rfl (lv_at hl 0 rfl) ?_
  refine W.objInit hx hb hown (hts (.methodLink RN2 1 objectInit) (List.mem_cons_of_mem _ kw_42)) (hts (.instanceMethod objectInit) (List.mem_cons_of_mem _ kw_24)) (hts _ (List.mem_cons_of_mem _ kw_25)) rfl (by rw [hml]; exact hl.1) rfl dk_2_init_1 (Nat.le_of_ble_eq_true rfl) (Nat.le_of_ble_eq_true rfl) ?_
  refine W.eq (g2 := F0 m 4 ls []) rfl ?_
  refine lv_aload_n hx hb dk_2_init_4 rfl (lv_at hl 0 rfl) ?_
  refine lv_bipush (v := 8) hx hb dk_2_init_5 (by decide) ?_
  refine va_newa (atype := .int) (ty := .int) (N' := 8) (a0 := (8, .inl (fun _ => 0))) hx hb (hts _ (List.mem_cons_of_mem _ kw_36)) rfl hK hP hD hS hA (fun _ => rfl) (by decide) rfl (by decide) (Nat.le_of_ble_eq_true rfl) (Nat.le_of_ble_eq_true rfl) dk_2_init_7 (fun q1 cA H hK1 hP hD hS => ?_)
  have ecA : cI = cA := Option.some.inj ((hK1.2 0 _ rfl).2.symm.trans (hK1.2 3 _ rfl).2)
  subst ecA
  have hP : va_P D vN [(h0, .inr (2, [.null, .null, .int 0, .int 0, .int 0, .int 0, .int 0])), (q1, .inl (cI, 8, .inl (fun _ => 0)))] H := hP
  have hD : va_D A [(h0, .inr (2, [.null, .null, .int 0, .int 0, .int 0, .int 0, .int 0])), (q1, .inl (cI, 8, .inl (fun _ => 0)))] := hD
  refine va_putF (ci := 2) (v := .ref q1) (ty := .array .int) (C := RN2) (T := TN2) (N := 7) hx hb hts (fun w h => List.mem_cons_of_mem _ (iN2 w h)) tN2 tN2_ok nN2 hown hK hP hD hS 0 rfl rfl 0 (by decide) (hts _ (List.mem_cons_of_mem _ kw_43)) (fun _ h9 => h9) rfl hin rfl (by decide +kernel) rfl rfl (Nat.le_of_ble_eq_true rfl) dk_2_init_9 (fun H locs hP hD hS => ?_)
  have hP : va_P D vN [(h0, .inr (2, [.ref q1, .null, .int 0, .int 0, .int 0, .int 0, .int 0])), (q1, .inl (cI, 8, .inl (fun _ => 0)))] H := hP
  have hD : va_D A [(h0, .inr (2, [.ref q1, .null, .int 0, .int 0, .int 0, .int 0, .int 0])), (q1, .inl (cI, 8, .inl (fun _ => 0)))] := hD
  refine lv_aload_n hx hb dk_2_init_12 rfl (lv_at hl 0 rfl) ?_
  refine lv_bipush (v := 8) hx hb dk_2_init_13 (by decide) ?_
  refine va_newa (atype := .int) (ty := .int) (N' := 8) (a0 := (8, .inl (fun _ => 0))) hx hb (hts _ (List.mem_cons_of_mem _ kw_36)) rfl hK hP hD hS hA (fun _ => rfl) (by decide) rfl (by decide) (Nat.le_of_ble_eq_true rfl) (Nat.le_of_ble_eq_true rfl) dk_2_init_15 (fun q2 cA H hK1 hP hD hS => ?_)
  have ecA : cI = cA := Option.some.inj ((hK1.2 0 _ rfl).2.symm.trans (hK1.2 3 _ rfl).2)
  subst ecA
  have hP : va_P D vN [(h0, .inr (2, [.ref q1, .null, .int 0, .int 0, .int 0, .int 0, .int 0])), (q1, .inl (cI, 8, .inl (fun _ => 0))), (q2, .inl (cI, 8, .inl (fun _ => 0)))] H := hP
  have hD : va_D A [(h0, .inr (2, [.ref q1, .null, .int 0, .int 0, .int 0, .int 0, .int 0])), (q1, .inl (cI, 8, .inl (fun _ => 0))), (q2, .inl (cI, 8, .inl (fun _ => 0)))] := hD
  refine va_putF (ci := 2) (v := .ref q2) (ty := .array .int) (C := RN2) (T := TN2) (N := 7) hx hb hts (fun w h => List.mem_cons_of_mem _ (iN2 w h)) tN2 tN2_ok nN2 hown hK hP hD hS 0 rfl rfl 1 (by decide) (hts _ (List.mem_cons_of_mem _ kw_44)) (fun _ h9 => h9) rfl hin rfl (by decide +kernel) rfl rfl (Nat.le_of_ble_eq_true rfl) dk_2_init_17 (fun H locs hP hD hS => ?_)
  have hP : va_P D vN [(h0, .inr (2, [.ref q1, .ref q2, .int 0, .int 0, .int 0, .int 0, .int 0])), (q1, .inl (cI, 8, .inl (fun _ => 0))), (q2, .inl (cI, 8, .inl (fun _ => 0)))] H := hP
  have hD : va_D A [(h0, .inr (2, [.ref q1, .ref q2, .int 0, .int 0, .int 0, .int 0, .int 0])), (q1, .inl (cI, 8, .inl (fun _ => 0))), (q2, .inl (cI, 8, .inl (fun _ => 0)))] := hD
  refine W.widen (k := 2) (n := 16) (by omega) (by omega) ?_
  exact W.vret hx hb hr (fun t ht hW => ⟨⟨(q1, q2), rfl, trivial, by rw [ht]; exact hP, va_K.moved hW.alike hK, hD⟩, hS.F ht⟩) hS.2.2 dk_2_init_20
abbrev y_3_init : MethodName := ⟨"NightCycler$Senses", "<init>", "()V"⟩
theorem dk_3_init_0 : decode prog_8_method_1_code 0 = .ok (.aload_n 0, 1) := by decide +kernel
theorem dk_3_init_1 : decode prog_8_method_1_code 1 = .ok (.invokespecial 1, 3) := by decide +kernel
theorem dk_3_init_4 : decode prog_8_method_1_code 4 = .ok (.aload_n 0, 1) := by decide +kernel
theorem dk_3_init_5 : decode prog_8_method_1_code 5 = .ok (.sipush 3700, 3) := by decide +kernel
theorem dk_3_init_8 : decode prog_8_method_1_code 8 = .ok (.putfield 9, 3) := by decide +kernel
theorem dk_3_init_11 : decode prog_8_method_1_code 11 = .ok (.aload_n 0, 1) := by decide +kernel
theorem dk_3_init_12 : decode prog_8_method_1_code 12 = .ok (.sipush 3700, 3) := by decide +kernel
theorem dk_3_init_15 : decode prog_8_method_1_code 15 = .ok (.putfield 13, 3) := by decide +kernel
theorem dk_3_init_18 : decode prog_8_method_1_code 18 = .ok (.return_, 1) := by decide +kernel
/-- what the cells are behind NightCycler$Senses() -/
abbrev at_3 (D : va_G) (cI cZ cJ : ClassId) (A : Nat → Prop) (h0 : Nat) (u : Unit) (t : State) : Prop := match u with
  | _ => va_P D vN [(h0, .inr (3, [.int 0, .int 0, .int 0, .int 3700, .int 3700]))] t.heap ∧ va_K D vN (tyN cI cZ cJ) t ∧ va_D A [(h0, .inr (3, [.int 0, .int 0, .int 0, .int 3700, .int 3700]))]
set_option maxHeartbeats 4000000 in
set_option maxRecDepth 100000 in
theorem k_3 (l : Launch) (D : va_G) (cI cZ cJ : ClassId) (h0 sz : Nat) : Met l y_3_init (Cond.code y_3_init prog_8_method_1_code 1 none :: kk_W) ({ frames := 1, cells := 0, slots := 0, locals := 12 }) (va_Pc [.ref h0] (fun U => U.heap.size = sz ∧ va_P D vN [(h0, .inr (3, [.int 0, .int 0, .int 0, .int 0, .int 0]))] U.heap ∧ va_K D vN (tyN cI cZ cJ) U ∧ va_D (fun _ => True) [(h0, .inr (3, [.int 0, .int 0, .int 0, .int 0, .int 0]))])) (va_Qv (fun _ : Unit => True) (at_3 D cI cZ cJ (va_A [(h0, .inr (3, [.int 0, .int 0, .int 0, .int 0, .int 0]))] sz) h0) (va_A [(h0, .inr (3, [.int 0, .int 0, .int 0, .int 0, .int 0]))] sz)) 0 0 (va_A [(h0, .inr (3, [.int 0, .int 0, .int 0, .int 0, .int 0]))] sz) := by
  refine Met.ofW (cc := prog_8_method_1_code) (maxL := 1) (ret := none) (by decide) rfl ?_
  intro p e s m args below meth c s₁ B hml hv
  obtain ⟨rfl, hsz, hP, hK, hD0⟩ := hv
  have hx := B.exec
  have hb := B.bytes
  have hr := B.returns
  have hts := atoms_spec (ws := (Cond.code y_3_init prog_8_method_1_code 1 none :: kk_W)) B.pre
  have hown : s.vm.findClass RN3 = some m.cls := findClass_of_methodNamed B.named
  have hlocks := B.notSynchronized
  have hin : meth.name = "<init>" := (name_of_methodNamed B.named B.method).1
  subst hsz
  have hD := hD0.self (sz := s.heap.size)
  generalize hAe : va_A [(h0, .inr (3, [.int 0, .int 0, .int 0, .int 0, .int 0]))] s.heap.size = A at hD ⊢
  have hA : ∀ q : Nat, s.heap.size ≤ q → A q := fun q h => by rw [← hAe]; exact Or.inr h
  have hS : va_S A s.heap s.heap [] := va_S.rf
  have hl := lv_entry ([.ref h0]) (n := 1) (Nat.le_of_ble_eq_true rfl)
  rw [lg_entry_eq]
  generalize (lg_sl ([.ref h0]) ++ List.replicate (1 - (lg_sl ([.ref h0])).length) Slot.unset).toArray = ls at hl ⊢
  have hl : lv_has ls 1 [(0, .ref h0)] := hl
  refine lv_aload_n hx hb dk_3_init_0 rfl (lv_at hl 0 rfl) ?_
  refine W.objInit hx hb hown (hts (.methodLink RN3 1 objectInit) (List.mem_cons_of_mem _ kw_70)) (hts (.instanceMethod objectInit) (List.mem_cons_of_mem _ kw_24)) (hts _ (List.mem_cons_of_mem _ kw_25)) rfl (by rw [hml]; exact hl.1) rfl dk_3_init_1 (Nat.le_of_ble_eq_true rfl) (Nat.le_of_ble_eq_true rfl) ?_
  refine W.eq (g2 := F0 m 4 ls []) rfl ?_
  refine lv_aload_n hx hb dk_3_init_4 rfl (lv_at hl 0 rfl) ?_
  refine lv_sipush (v := 3700) hx hb dk_3_init_5 (by decide) ?_
  refine va_put (ci := 3) (v := .int 3700) (ty := .int) (C := RN3) (T := TN3) (N := 5) hx hb hts (fun w h => List.mem_cons_of_mem _ (iN3 w h)) tN3 tN3_ok nN3 hown hK hP hD hS 0 rfl rfl 3 (by decide) (hts _ (List.mem_cons_of_mem _ kw_77)) (fun _ h9 => h9) rfl (by decide +kernel) rfl rfl (Nat.le_of_ble_eq_true rfl) dk_3_init_8 (fun H locs hP hD hS => ?_)
  have hP : va_P D vN [(h0, .inr (3, [.int 0, .int 0, .int 0, .int 3700, .int 0]))] H := hP
  have hD : va_D A [(h0, .inr (3, [.int 0, .int 0, .int 0, .int 3700, .int 0]))] := hD
  refine lv_aload_n hx hb dk_3_init_11 rfl (lv_at hl 0 rfl) ?_
  refine lv_sipush (v := 3700) hx hb dk_3_init_12 (by decide) ?_
  refine va_put (ci := 3) (v := .int 3700) (ty := .int) (C := RN3) (T := TN3) (N := 5) hx hb hts (fun w h => List.mem_cons_of_mem _ (iN3 w h)) tN3 tN3_ok nN3 hown hK hP hD hS 0 rfl rfl 4 (by decide) (hts _ (List.mem_cons_of_mem _ kw_78)) (fun _ h9 => h9) rfl (by decide +kernel) rfl rfl (Nat.le_of_ble_eq_true rfl) dk_3_init_15 (fun H locs hP hD hS => ?_)
  have hP : va_P D vN [(h0, .inr (3, [.int 0, .int 0, .int 0, .int 3700, .int 3700]))] H := hP
  have hD : va_D A [(h0, .inr (3, [.int 0, .int 0, .int 0, .int 3700, .int 3700]))] := hD
  refine W.widen (k := 0) (n := 0) (by omega) (by omega) ?_
  exact W.vret hx hb hr (fun t ht hW => ⟨⟨(), rfl, trivial, by rw [ht]; exact hP, va_K.moved hW.alike hK, hD⟩, hS.F ht⟩) hS.2.2 dk_3_init_18
abbrev y_4_init : MethodName := ⟨"NightCycler$Alarms", "<init>", "()V"⟩
theorem dk_4_init_0 : decode prog_2_method_1_code 0 = .ok (.aload_n 0, 1) := by decide +kernel
theorem dk_4_init_1 : decode prog_2_method_1_code 1 = .ok (.invokespecial 1, 3) := by decide +kernel
theorem dk_4_init_4 : decode prog_2_method_1_code 4 = .ok (.aload_n 0, 1) := by decide +kernel
theorem dk_4_init_5 : decode prog_2_method_1_code 5 = .ok (.iconst 5, 1) := by decide +kernel
theorem dk_4_init_6 : decode prog_2_method_1_code 6 = .ok (.newarray .boolean, 2) := by decide +kernel
theorem dk_4_init_8 : decode prog_2_method_1_code 8 = .ok (.putfield 9, 3) := by decide +kernel
theorem dk_4_init_11 : decode prog_2_method_1_code 11 = .ok (.return_, 1) := by decide +kernel
/-- what the cells are behind NightCycler$Alarms() -/
abbrev at_4 (D : va_G) (cI cZ cJ : ClassId) (A : Nat → Prop) (h0 : Nat) (u : Nat) (t : State) : Prop := match u with
  | q1 => va_P D vN [(h0, .inr (4, [.ref q1, .int 0])), (q1, .inl (cZ, 5, .inl (fun _ => 0)))] t.heap ∧ va_K D vN (tyN cI cZ cJ) t ∧ va_D A [(h0, .inr (4, [.ref q1, .int 0])), (q1, .inl (cZ, 5, .inl (fun _ => 0)))]
set_option maxHeartbeats 4000000 in
set_option maxRecDepth 100000 in
theorem k_4 (l : Launch) (D : va_G) (cI cZ cJ : ClassId) (h0 sz : Nat) : Met l y_4_init (Cond.code y_4_init prog_2_method_1_code 1 none :: kk_W) ({ frames := 1, cells := 1, slots := 5, locals := 12 }) (va_Pc [.ref h0] (fun U => U.heap.size = sz ∧ va_P D vN [(h0, .inr (4, [.null, .int 0]))] U.heap ∧ va_K D vN (tyN cI cZ cJ) U ∧ va_D (fun _ => True) [(h0, .inr (4, [.null, .int 0]))])) (va_Qv (fun _ : Nat => True) (at_4 D cI cZ cJ (va_A [(h0, .inr (4, [.null, .int 0]))] sz) h0) (va_A [(h0, .inr (4, [.null, .int 0]))] sz)) 1 5 (va_A [(h0, .inr (4, [.null, .int 0]))] sz) := by
  refine Met.ofW (cc := prog_2_method_1_code) (maxL := 1) (ret := none) (by decide) rfl ?_
  intro p e s m args below meth c s₁ B hml hv
  obtain ⟨rfl, hsz, hP, hK, hD0⟩ := hv
  have hx := B.exec
  have hb := B.bytes
  have hr := B.returns
  have hts := atoms_spec (ws := (Cond.code y_4_init prog_2_method_1_code 1 none :: kk_W)) B.pre
  have hown : s.vm.findClass RN4 = some m.cls := findClass_of_methodNamed B.named
  have hlocks := B.notSynchronized
  have hin : meth.name = "<init>" := (name_of_methodNamed B.named B.method).1
  subst hsz
  have hD := hD0.self (sz := s.heap.size)
  generalize hAe : va_A [(h0, .inr (4, [.null, .int 0]))] s.heap.size = A at hD ⊢
  have hA : ∀ q : Nat, s.heap.size ≤ q → A q := fun q h => by rw [← hAe]; exact Or.inr h
  have hS : va_S A s.heap s.heap [] := va_S.rf
  have hl := lv_entry ([.ref h0]) (n := 1) (Nat.le_of_ble_eq_true rfl)
  rw [lg_entry_eq]
  generalize (lg_sl ([.ref h0]) ++ List.replicate (1 - (lg_sl ([.ref h0])).length) Slot.unset).toArray = ls at hl ⊢
  have hl : lv_has ls 1 [(0, .ref h0)] := hl
  refine lv_aload_n hx hb dk_4_init_0 rfl (lv_at hl 0 rfl) ?_
  refine W.objInit hx hb hown (hts (.methodLink RN4 1 objectInit) (List.mem_cons_of_mem _ kw_95)) (hts (.instanceMethod objectInit) (List.mem_cons_of_mem _ kw_24)) (hts _ (List.mem_cons_of_mem _ kw_25)) rfl (by rw [hml]; exact hl.1) rfl dk_4_init_1 (Nat.le_of_ble_eq_true rfl) (Nat.le_of_ble_eq_true rfl) ?_
  refine W.eq (g2 := F0 m 4 ls []) rfl ?_
  refine lv_aload_n hx hb dk_4_init_4 rfl (lv_at hl 0 rfl) ?_
  refine lv_iconst (v := 5) hx hb dk_4_init_5 (by decide) ?_
  refine va_newa (atype := .boolean) (ty := .boolean) (N' := 5) (a0 := (5, .inl (fun _ => 0))) hx hb (hts _ (List.mem_cons_of_mem _ kw_104)) rfl hK hP hD hS hA (fun _ => rfl) (by decide) rfl (by decide) (Nat.le_of_ble_eq_true rfl) (Nat.le_of_ble_eq_true rfl) dk_4_init_6 (fun q1 cA H hK1 hP hD hS => ?_)
  have ecA : cZ = cA := Option.some.inj ((hK1.2 1 _ rfl).2.symm.trans (hK1.2 3 _ rfl).2)
  subst ecA
  have hP : va_P D vN [(h0, .inr (4, [.null, .int 0])), (q1, .inl (cZ, 5, .inl (fun _ => 0)))] H := hP
  have hD : va_D A [(h0, .inr (4, [.null, .int 0])), (q1, .inl (cZ, 5, .inl (fun _ => 0)))] := hD
  refine va_putF (ci := 4) (v := .ref q1) (ty := .array .boolean) (C := RN4) (T := TN4) (N := 2) hx hb hts (fun w h => List.mem_cons_of_mem _ (iN4 w h)) tN4 tN4_ok nN4 hown hK hP hD hS 0 rfl rfl 0 (by decide) (hts _ (List.mem_cons_of_mem _ kw_96)) (fun _ h9 => h9) rfl hin rfl (by decide +kernel) rfl rfl (Nat.le_of_ble_eq_true rfl) dk_4_init_8 (fun H locs hP hD hS => ?_)
  have hP : va_P D vN [(h0, .inr (4, [.ref q1, .int 0])), (q1, .inl (cZ, 5, .inl (fun _ => 0)))] H := hP
  have hD : va_D A [(h0, .inr (4, [.ref q1, .int 0])), (q1, .inl (cZ, 5, .inl (fun _ => 0)))] := hD
  refine W.widen (k := 1) (n := 5) (by omega) (by omega) ?_
  exact W.vret hx hb hr (fun t ht hW => ⟨⟨q1, rfl, trivial, by rw [ht]; exact hP, va_K.moved hW.alike hK, hD⟩, hS.F ht⟩) hS.2.2 dk_4_init_11
abbrev y_5_init : MethodName := ⟨"NightCycler$Flow", "<init>", "()V"⟩
theorem dk_5_init_0 : decode prog_4_method_1_code 0 = .ok (.aload_n 0, 1) := by decide +kernel
theorem dk_5_init_1 : decode prog_4_method_1_code 1 = .ok (.invokespecial 3, 3) := by decide +kernel
theorem dk_5_init_4 : decode prog_4_method_1_code 4 = .ok (.aload_n 0, 1) := by decide +kernel
theorem dk_5_init_5 : decode prog_4_method_1_code 5 = .ok (.bipush 60, 2) := by decide +kernel
theorem dk_5_init_7 : decode prog_4_method_1_code 7 = .ok (.newarray .int, 2) := by decide +kernel
theorem dk_5_init_9 : decode prog_4_method_1_code 9 = .ok (.putfield 11, 3) := by decide +kernel
theorem dk_5_init_12 : decode prog_4_method_1_code 12 = .ok (.return_, 1) := by decide +kernel
/-- what the cells are behind NightCycler$Flow() -/
abbrev at_5 (D : va_G) (cI cZ cJ : ClassId) (A : Nat → Prop) (h0 : Nat) (u : Nat) (t : State) : Prop := match u with
  | q1 => va_P D vN [(h0, .inr (5, [.ref q1, .int 0, .int 0, .int 0, .int 0])), (q1, .inl (cI, 60, .inl (fun _ => 0)))] t.heap ∧ va_K D vN (tyN cI cZ cJ) t ∧ va_D A [(h0, .inr (5, [.ref q1, .int 0, .int 0, .int 0, .int 0])), (q1, .inl (cI, 60, .inl (fun _ => 0)))]
set_option maxHeartbeats 4000000 in
set_option maxRecDepth 100000 in
theorem k_5 (l : Launch) (D : va_G) (cI cZ cJ : ClassId) (h0 sz : Nat) : Met l y_5_init (Cond.code y_5_init prog_4_method_1_code 1 none :: kk_W) ({ frames := 1, cells := 1, slots := 60, locals := 12 }) (va_Pc [.ref h0] (fun U => U.heap.size = sz ∧ va_P D vN [(h0, .inr (5, [.null, .int 0, .int 0, .int 0, .int 0]))] U.heap ∧ va_K D vN (tyN cI cZ cJ) U ∧ va_D (fun _ => True) [(h0, .inr (5, [.null, .int 0, .int 0, .int 0, .int 0]))])) (va_Qv (fun _ : Nat => True) (at_5 D cI cZ cJ (va_A [(h0, .inr (5, [.null, .int 0, .int 0, .int 0, .int 0]))] sz) h0) (va_A [(h0, .inr (5, [.null, .int 0, .int 0, .int 0, .int 0]))] sz)) 1 60 (va_A [(h0, .inr (5, [.null, .int 0, .int 0, .int 0, .int 0]))] sz) := by
  refine Met.ofW (cc := prog_4_method_1_code) (maxL := 1) (ret := none) (by decide) rfl ?_
  intro p e s m args below meth c s₁ B hml hv
  obtain ⟨rfl, hsz, hP, hK, hD0⟩ := hv
  have hx := B.exec
  have hb := B.bytes
  have hr := B.returns
  have hts := atoms_spec (ws := (Cond.code y_5_init prog_4_method_1_code 1 none :: kk_W)) B.pre
  have hown : s.vm.findClass RN5 = some m.cls := findClass_of_methodNamed B.named
  have hlocks := B.notSynchronized
  have hin : meth.name = "<init>" := (name_of_methodNamed B.named B.method).1
  subst hsz
  have hD := hD0.self (sz := s.heap.size)
  generalize hAe : va_A [(h0, .inr (5, [.null, .int 0, .int 0, .int 0, .int 0]))] s.heap.size = A at hD ⊢
  have hA : ∀ q : Nat, s.heap.size ≤ q → A q := fun q h => by rw [← hAe]; exact Or.inr h
  have hS : va_S A s.heap s.heap [] := va_S.rf
  have hl := lv_entry ([.ref h0]) (n := 1) (Nat.le_of_ble_eq_true rfl)
  rw [lg_entry_eq]
  generalize (lg_sl ([.ref h0]) ++ List.replicate (1 - (lg_sl ([.ref h0])).length) Slot.unset).toArray = ls at hl ⊢
  have hl : lv_has ls 1 [(0, .ref h0)] := hl
  refine lv_aload_n hx hb dk_5_init_0 rfl (lv_at hl 0 rfl) ?_
  refine W.objInit hx hb hown (hts (.methodLink RN5 3 objectInit) (List.mem_cons_of_mem _ kw_110)) (hts (.instanceMethod objectInit) (List.mem_cons_of_mem _ kw_24)) (hts _ (List.mem_cons_of_mem _ kw_25)) rfl (by rw [hml]; exact hl.1) rfl dk_5_init_1 (Nat.le_of_ble_eq_true rfl) (Nat.le_of_ble_eq_true rfl) ?_
  refine W.eq (g2 := F0 m 4 ls []) rfl ?_
  refine lv_aload_n hx hb dk_5_init_4 rfl (lv_at hl 0 rfl) ?_
  refine lv_bipush (v := 60) hx hb dk_5_init_5 (by decide) ?_
  refine va_newa (atype := .int) (ty := .int) (N' := 60) (a0 := (60, .inl (fun _ => 0))) hx hb (hts _ (List.mem_cons_of_mem _ kw_36)) rfl hK hP hD hS hA (fun _ => rfl) (by decide) rfl (by decide) (Nat.le_of_ble_eq_true rfl) (Nat.le_of_ble_eq_true rfl) dk_5_init_7 (fun q1 cA H hK1 hP hD hS => ?_)
  have ecA : cI = cA := Option.some.inj ((hK1.2 0 _ rfl).2.symm.trans (hK1.2 3 _ rfl).2)
  subst ecA
  have hP : va_P D vN [(h0, .inr (5, [.null, .int 0, .int 0, .int 0, .int 0])), (q1, .inl (cI, 60, .inl (fun _ => 0)))] H := hP
  have hD : va_D A [(h0, .inr (5, [.null, .int 0, .int 0, .int 0, .int 0])), (q1, .inl (cI, 60, .inl (fun _ => 0)))] := hD
  refine va_putF (ci := 5) (v := .ref q1) (ty := .array .int) (C := RN5) (T := TN5) (N := 5) hx hb hts (fun w h => List.mem_cons_of_mem _ (iN5 w h)) tN5 tN5_ok nN5 hown hK hP hD hS 0 rfl rfl 0 (by decide) (hts _ (List.mem_cons_of_mem _ kw_111)) (fun _ h9 => h9) rfl hin rfl (by decide +kernel) rfl rfl (Nat.le_of_ble_eq_true rfl) dk_5_init_9 (fun H locs hP hD hS => ?_)
  have hP : va_P D vN [(h0, .inr (5, [.ref q1, .int 0, .int 0, .int 0, .int 0])), (q1, .inl (cI, 60, .inl (fun _ => 0)))] H := hP
  have hD : va_D A [(h0, .inr (5, [.ref q1, .int 0, .int 0, .int 0, .int 0])), (q1, .inl (cI, 60, .inl (fun _ => 0)))] := hD
  refine W.widen (k := 1) (n := 60) (by omega) (by omega) ?_
  exact W.vret hx hb hr (fun t ht hW => ⟨⟨q1, rfl, trivial, by rw [ht]; exact hP, va_K.moved hW.alike hK, hD⟩, hS.F ht⟩) hS.2.2 dk_5_init_12
abbrev y_6_init : MethodName := ⟨"NightCycler$Pages", "<init>", "()V"⟩
theorem dk_6_init_0 : decode prog_5_method_1_code 0 = .ok (.aload_n 0, 1) := by decide +kernel
theorem dk_6_init_1 : decode prog_5_method_1_code 1 = .ok (.invokespecial 1, 3) := by decide +kernel
theorem dk_6_init_4 : decode prog_5_method_1_code 4 = .ok (.aload_n 0, 1) := by decide +kernel
theorem dk_6_init_5 : decode prog_5_method_1_code 5 = .ok (.bipush 6, 2) := by decide +kernel
theorem dk_6_init_7 : decode prog_5_method_1_code 7 = .ok (.newarray .int, 2) := by decide +kernel
theorem dk_6_init_9 : decode prog_5_method_1_code 9 = .ok (.putfield 9, 3) := by decide +kernel
theorem dk_6_init_12 : decode prog_5_method_1_code 12 = .ok (.aload_n 0, 1) := by decide +kernel
theorem dk_6_init_13 : decode prog_5_method_1_code 13 = .ok (.bipush 6, 2) := by decide +kernel
theorem dk_6_init_15 : decode prog_5_method_1_code 15 = .ok (.newarray .int, 2) := by decide +kernel
theorem dk_6_init_17 : decode prog_5_method_1_code 17 = .ok (.putfield 13, 3) := by decide +kernel
theorem dk_6_init_20 : decode prog_5_method_1_code 20 = .ok (.return_, 1) := by decide +kernel
/-- what the cells are behind NightCycler$Pages() -/
abbrev at_6 (D : va_G) (cI cZ cJ : ClassId) (A : Nat → Prop) (h0 : Nat) (u : Nat × Nat) (t : State) : Prop := match u with
  | (q1, q2) => va_P D vN [(h0, .inr (6, [.ref q1, .ref q2, .int 0])), (q1, .inl (cI, 6, .inl (fun _ => 0))), (q2, .inl (cI, 6, .inl (fun _ => 0)))] t.heap ∧ va_K D vN (tyN cI cZ cJ) t ∧ va_D A [(h0, .inr (6, [.ref q1, .ref q2, .int 0])), (q1, .inl (cI, 6, .inl (fun _ => 0))), (q2, .inl (cI, 6, .inl (fun _ => 0)))]
set_option maxHeartbeats 4000000 in
set_option maxRecDepth 100000 in
theorem k_6 (l : Launch) (D : va_G) (cI cZ cJ : ClassId) (h0 sz : Nat) : Met l y_6_init (Cond.code y_6_init prog_5_method_1_code 1 none :: kk_W) ({ frames := 1, cells := 2, slots := 12, locals := 12 }) (va_Pc [.ref h0] (fun U => U.heap.size = sz ∧ va_P D vN [(h0, .inr (6, [.null, .null, .int 0]))] U.heap ∧ va_K D vN (tyN cI cZ cJ) U ∧ va_D (fun _ => True) [(h0, .inr (6, [.null, .null, .int 0]))])) (va_Qv (fun _ : Nat × Nat => True) (at_6 D cI cZ cJ (va_A [(h0, .inr (6, [.null, .null, .int 0]))] sz) h0) (va_A [(h0, .inr (6, [.null, .null, .int 0]))] sz)) 2 12 (va_A [(h0, .inr (6, [.null, .null, .int 0]))] sz) := by
  refine Met.ofW (cc := prog_5_method_1_code) (maxL := 1) (ret := none) (by decide) rfl ?_
  intro p e s m args below meth c s₁ B hml hv
  obtain ⟨rfl, hsz, hP, hK, hD0⟩ := hv
  have hx := B.exec
  have hb := B.bytes
  have hr := B.returns
  have hts := atoms_spec (ws := (Cond.code y_6_init prog_5_method_1_code 1 none :: kk_W)) B.pre
  have hown : s.vm.findClass RN6 = some m.cls := findClass_of_methodNamed B.named
  have hlocks := B.notSynchronized
  have hin : meth.name = "<init>" := (name_of_methodNamed B.named B.method).1
  subst hsz
  have hD := hD0.self (sz := s.heap.size)
  generalize hAe : va_A [(h0, .inr (6, [.null, .null, .int 0]))] s.heap.size = A at hD ⊢
  have hA : ∀ q : Nat, s.heap.size ≤ q → A q := fun q h => by rw [← hAe]; exact Or.inr h
  have hS : va_S A s.heap s.heap [] := va_S.rf
  have hl := lv_entry ([.ref h0]) (n := 1) (Nat.le_of_ble_eq_true rfl)
  rw [lg_entry_eq]
  generalize (lg_sl ([.ref h0]) ++ List.replicate (1 - (lg_sl ([.ref h0])).length) Slot.unset).toArray = ls at hl ⊢
  have hl : lv_has ls 1 [(0, .ref h0)] := hl
  refine lv_aload_n hx hb dk_6_init_0 rfl (lv_at hl 0 rfl) ?_
  refine W.objInit hx hb hown (hts (.methodLink RN6 1 objectInit) (List.mem_cons_of_mem _ kw_133)) (hts (.instanceMethod objectInit) (List.mem_cons_of_mem _ kw_24)) (hts _ (List.mem_cons_of_mem _ kw_25)) rfl (by rw [hml]; exact hl.1) rfl dk_6_init_1 (Nat.le_of_ble_eq_true rfl) (Nat.le_of_ble_eq_true rfl) ?_
  refine W.eq (g2 := F0 m 4 ls []) rfl ?_
  refine lv_aload_n hx hb dk_6_init_4 rfl (lv_at hl 0 rfl) ?_
  refine lv_bipush (v := 6) hx hb dk_6_init_5 (by decide) ?_
  refine va_newa (atype := .int) (ty := .int) (N' := 6) (a0 := (6, .inl (fun _ => 0))) hx hb (hts _ (List.mem_cons_of_mem _ kw_36)) rfl hK hP hD hS hA (fun _ => rfl) (by decide) rfl (by decide) (Nat.le_of_ble_eq_true rfl) (Nat.le_of_ble_eq_true rfl) dk_6_init_7 (fun q1 cA H hK1 hP hD hS => ?_)
  have ecA : cI = cA := Option.some.inj ((hK1.2 0 _ rfl).2.symm.trans (hK1.2 3 _ rfl).2)
  subst ecA
  have hP : va_P D vN [(h0, .inr (6, [.null, .null, .int 0])), (q1, .inl (cI, 6, .inl (fun _ => 0)))] H := hP
  have hD : va_D A [(h0, .inr (6, [.null, .null, .int 0])), (q1, .inl (cI, 6, .inl (fun _ => 0)))] := hD
  refine va_putF (ci := 6) (v := .ref q1) (ty := .array .int) (C := RN6) (T := TN6) (N := 3) hx hb hts (fun w h => List.mem_cons_of_mem _ (iN6 w h)) tN6 tN6_ok nN6 hown hK hP hD hS 0 rfl rfl 0 (by decide) (hts _ (List.mem_cons_of_mem _ kw_134)) (fun _ h9 => h9) rfl hin rfl (by decide +kernel) rfl rfl (Nat.le_of_ble_eq_true rfl) dk_6_init_9 (fun H locs hP hD hS => ?_)
  have hP : va_P D vN [(h0, .inr (6, [.ref q1, .null, .int 0])), (q1, .inl (cI, 6, .inl (fun _ => 0)))] H := hP
  have hD : va_D A [(h0, .inr (6, [.ref q1, .null, .int 0])), (q1, .inl (cI, 6, .inl (fun _ => 0)))] := hD
  refine lv_aload_n hx hb dk_6_init_12 rfl (lv_at hl 0 rfl) ?_
  refine lv_bipush (v := 6) hx hb dk_6_init_13 (by decide) ?_
  refine va_newa (atype := .int) (ty := .int) (N' := 6) (a0 := (6, .inl (fun _ => 0))) hx hb (hts _ (List.mem_cons_of_mem _ kw_36)) rfl hK hP hD hS hA (fun _ => rfl) (by decide) rfl (by decide) (Nat.le_of_ble_eq_true rfl) (Nat.le_of_ble_eq_true rfl) dk_6_init_15 (fun q2 cA H hK1 hP hD hS => ?_)
  have ecA : cI = cA := Option.some.inj ((hK1.2 0 _ rfl).2.symm.trans (hK1.2 3 _ rfl).2)
  subst ecA
  have hP : va_P D vN [(h0, .inr (6, [.ref q1, .null, .int 0])), (q1, .inl (cI, 6, .inl (fun _ => 0))), (q2, .inl (cI, 6, .inl (fun _ => 0)))] H := hP
  have hD : va_D A [(h0, .inr (6, [.ref q1, .null, .int 0])), (q1, .inl (cI, 6, .inl (fun _ => 0))), (q2, .inl (cI, 6, .inl (fun _ => 0)))] := hD
  refine va_putF (ci := 6) (v := .ref q2) (ty := .array .int) (C := RN6) (T := TN6) (N := 3) hx hb hts (fun w h => List.mem_cons_of_mem _ (iN6 w h)) tN6 tN6_ok nN6 hown hK hP hD hS 0 rfl rfl 1 (by decide) (hts _ (List.mem_cons_of_mem _ kw_135)) (fun _ h9 => h9) rfl hin rfl (by decide +kernel) rfl rfl (Nat.le_of_ble_eq_true rfl) dk_6_init_17 (fun H locs hP hD hS => ?_)
  have hP : va_P D vN [(h0, .inr (6, [.ref q1, .ref q2, .int 0])), (q1, .inl (cI, 6, .inl (fun _ => 0))), (q2, .inl (cI, 6, .inl (fun _ => 0)))] H := hP
  have hD : va_D A [(h0, .inr (6, [.ref q1, .ref q2, .int 0])), (q1, .inl (cI, 6, .inl (fun _ => 0))), (q2, .inl (cI, 6, .inl (fun _ => 0)))] := hD
  refine W.widen (k := 2) (n := 12) (by omega) (by omega) ?_
  exact W.vret hx hb hr (fun t ht hW => ⟨⟨(q1, q2), rfl, trivial, by rw [ht]; exact hP, va_K.moved hW.alike hK, hD⟩, hS.F ht⟩) hS.2.2 dk_6_init_20
abbrev y_7_init : MethodName := ⟨"NightCycler$Reports", "<init>", "()V"⟩
theorem dk_7_init_0 : decode prog_7_method_1_code 0 = .ok (.aload_n 0, 1) := by decide +kernel
theorem dk_7_init_1 : decode prog_7_method_1_code 1 = .ok (.invokespecial 1, 3) := by decide +kernel
theorem dk_7_init_4 : decode prog_7_method_1_code 4 = .ok (.aload_n 0, 1) := by decide +kernel
theorem dk_7_init_5 : decode prog_7_method_1_code 5 = .ok (.bipush 52, 2) := by decide +kernel
theorem dk_7_init_7 : decode prog_7_method_1_code 7 = .ok (.newarray .int, 2) := by decide +kernel
theorem dk_7_init_9 : decode prog_7_method_1_code 9 = .ok (.putfield 9, 3) := by decide +kernel
theorem dk_7_init_12 : decode prog_7_method_1_code 12 = .ok (.return_, 1) := by decide +kernel
/-- what the cells are behind NightCycler$Reports() -/
abbrev at_7 (D : va_G) (cI cZ cJ : ClassId) (A : Nat → Prop) (h0 : Nat) (u : Nat) (t : State) : Prop := match u with
  | q1 => va_P D vN [(h0, .inr (7, [.ref q1, .int 0])), (q1, .inl (cI, 52, .inl (fun _ => 0)))] t.heap ∧ va_K D vN (tyN cI cZ cJ) t ∧ va_D A [(h0, .inr (7, [.ref q1, .int 0])), (q1, .inl (cI, 52, .inl (fun _ => 0)))]
set_option maxHeartbeats 4000000 in
set_option maxRecDepth 100000 in
theorem k_7 (l : Launch) (D : va_G) (cI cZ cJ : ClassId) (h0 sz : Nat) : Met l y_7_init (Cond.code y_7_init prog_7_method_1_code 1 none :: kk_W) ({ frames := 1, cells := 1, slots := 52, locals := 12 }) (va_Pc [.ref h0] (fun U => U.heap.size = sz ∧ va_P D vN [(h0, .inr (7, [.null, .int 0]))] U.heap ∧ va_K D vN (tyN cI cZ cJ) U ∧ va_D (fun _ => True) [(h0, .inr (7, [.null, .int 0]))])) (va_Qv (fun _ : Nat => True) (at_7 D cI cZ cJ (va_A [(h0, .inr (7, [.null, .int 0]))] sz) h0) (va_A [(h0, .inr (7, [.null, .int 0]))] sz)) 1 52 (va_A [(h0, .inr (7, [.null, .int 0]))] sz) := by
  refine Met.ofW (cc := prog_7_method_1_code) (maxL := 1) (ret := none) (by decide) rfl ?_
  intro p e s m args below meth c s₁ B hml hv
  obtain ⟨rfl, hsz, hP, hK, hD0⟩ := hv
  have hx := B.exec
  have hb := B.bytes
  have hr := B.returns
  have hts := atoms_spec (ws := (Cond.code y_7_init prog_7_method_1_code 1 none :: kk_W)) B.pre
  have hown : s.vm.findClass RN7 = some m.cls := findClass_of_methodNamed B.named
  have hlocks := B.notSynchronized
  have hin : meth.name = "<init>" := (name_of_methodNamed B.named B.method).1
  subst hsz
  have hD := hD0.self (sz := s.heap.size)
  generalize hAe : va_A [(h0, .inr (7, [.null, .int 0]))] s.heap.size = A at hD ⊢
  have hA : ∀ q : Nat, s.heap.size ≤ q → A q := fun q h => by rw [← hAe]; exact Or.inr h
  have hS : va_S A s.heap s.heap [] := va_S.rf
  have hl := lv_entry ([.ref h0]) (n := 1) (Nat.le_of_ble_eq_true rfl)
  rw [lg_entry_eq]
  generalize (lg_sl ([.ref h0]) ++ List.replicate (1 - (lg_sl ([.ref h0])).length) Slot.unset).toArray = ls at hl ⊢
  have hl : lv_has ls 1 [(0, .ref h0)] := hl
  refine lv_aload_n hx hb dk_7_init_0 rfl (lv_at hl 0 rfl) ?_
  refine W.objInit hx hb hown (hts (.methodLink RN7 1 objectInit) (List.mem_cons_of_mem _ kw_150)) (hts (.instanceMethod objectInit) (List.mem_cons_of_mem _ kw_24)) (hts _ (List.mem_cons_of_mem _ kw_25)) rfl (by rw [hml]; exact hl.1) rfl dk_7_init_1 (Nat.le_of_ble_eq_true rfl) (Nat.le_of_ble_eq_true rfl) ?_
  refine W.eq (g2 := F0 m 4 ls []) rfl ?_
  refine lv_aload_n hx hb dk_7_init_4 rfl (lv_at hl 0 rfl) ?_
  refine lv_bipush (v := 52) hx hb dk_7_init_5 (by decide) ?_
  refine va_newa (atype := .int) (ty := .int) (N' := 52) (a0 := (52, .inl (fun _ => 0))) hx hb (hts _ (List.mem_cons_of_mem _ kw_36)) rfl hK hP hD hS hA (fun _ => rfl) (by decide) rfl (by decide) (Nat.le_of_ble_eq_true rfl) (Nat.le_of_ble_eq_true rfl) dk_7_init_7 (fun q1 cA H hK1 hP hD hS => ?_)
  have ecA : cI = cA := Option.some.inj ((hK1.2 0 _ rfl).2.symm.trans (hK1.2 3 _ rfl).2)
  subst ecA
  have hP : va_P D vN [(h0, .inr (7, [.null, .int 0])), (q1, .inl (cI, 52, .inl (fun _ => 0)))] H := hP
  have hD : va_D A [(h0, .inr (7, [.null, .int 0])), (q1, .inl (cI, 52, .inl (fun _ => 0)))] := hD
  refine va_putF (ci := 7) (v := .ref q1) (ty := .array .int) (C := RN7) (T := TN7) (N := 2) hx hb hts (fun w h => List.mem_cons_of_mem _ (iN7 w h)) tN7 tN7_ok nN7 hown hK hP hD hS 0 rfl rfl 0 (by decide) (hts _ (List.mem_cons_of_mem _ kw_151)) (fun _ h9 => h9) rfl hin rfl (by decide +kernel) rfl rfl (Nat.le_of_ble_eq_true rfl) dk_7_init_9 (fun H locs hP hD hS => ?_)
  have hP : va_P D vN [(h0, .inr (7, [.ref q1, .int 0])), (q1, .inl (cI, 52, .inl (fun _ => 0)))] H := hP
  have hD : va_D A [(h0, .inr (7, [.ref q1, .int 0])), (q1, .inl (cI, 52, .inl (fun _ => 0)))] := hD
  refine W.widen (k := 1) (n := 52) (by omega) (by omega) ?_
  exact W.vret hx hb hr (fun t ht hW => ⟨⟨q1, rfl, trivial, by rw [ht]; exact hP, va_K.moved hW.alike hK, hD⟩, hS.F ht⟩) hS.2.2 dk_7_init_12

theorem kw_18 : (Jvm.Cond.classLink "NightCyclerLaw" (8 : Nat) "NightCycler") ∈ kk_W := kk_in 67 (by decide +kernel) (by decide +kernel)
theorem kw_19 : (Jvm.Cond.instantiable "NightCycler" (18 : Nat)) ∈ kk_W := kk_in 68 (by decide +kernel) (by decide +kernel)
theorem kw_20 : (Jvm.Cond.methodLink "NightCyclerLaw" (49 : Nat) ({ cls := "NightCycler", name := "<init>", desc := "()V" } : Jvm.MethodName)) ∈ kk_W := kk_in 69 (by decide +kernel) (by decide +kernel)
theorem kw_21 : (Jvm.Cond.instanceMethod ({ cls := "NightCycler", name := "<init>", desc := "()V" } : Jvm.MethodName)) ∈ kk_W := kk_in 70 (by decide +kernel) (by decide +kernel)
theorem kw_22 : (Jvm.Cond.code ({ cls := "NightCycler", name := "<init>", desc := "()V" } : Jvm.MethodName) prog_1_method_1_code (1 : Nat) (Option.none : Option Jvm.ClassFile.FieldType)) ∈ kk_W := kk_in 71 (by decide +kernel) (by decide +kernel)
theorem kw_731 : (Jvm.Cond.classLink "NightCyclerLaw" (50 : Nat) "NightCyclerModel") ∈ kk_W := kk_in 780 (by decide +kernel) (by decide +kernel)
theorem kw_732 : (Jvm.Cond.instantiable "NightCyclerModel" (38 : Nat)) ∈ kk_W := kk_in 781 (by decide +kernel) (by decide +kernel)
theorem kw_733 : (Jvm.Cond.methodLink "NightCyclerLaw" (52 : Nat) ({ cls := "NightCyclerModel", name := "<init>", desc := "()V" } : Jvm.MethodName)) ∈ kk_W := kk_in 782 (by decide +kernel) (by decide +kernel)
theorem kw_734 : (Jvm.Cond.instanceMethod ({ cls := "NightCyclerModel", name := "<init>", desc := "()V" } : Jvm.MethodName)) ∈ kk_W := kk_in 783 (by decide +kernel) (by decide +kernel)
theorem kw_735 : (Jvm.Cond.code ({ cls := "NightCyclerModel", name := "<init>", desc := "()V" } : Jvm.MethodName) prog_10_method_1_code (1 : Nat) (Option.none : Option Jvm.ClassFile.FieldType)) ∈ kk_W := kk_in 784 (by decide +kernel) (by decide +kernel)
def fM0 : zz_F := fun _ => 0
def gM0 : zz_G := fun j => match j with
  | 0 => (upd (upd (upd (upd (upd (upd (upd (upd (upd (fun _ => 0) 0 3) 1 2000) 2 1) 3 0) 4 80) 5 5000) 6 60) 7 3700) 8 0)
  | 1 => (upd (upd (upd (upd (upd (upd (upd (upd (upd (fun _ => 0) 0 1) 1 500) 2 1) 3 0) 4 50) 5 1000) 6 1) 7 3000) 8 0)
  | 2 => (upd (upd (upd (upd (upd (upd (upd (upd (upd (fun _ => 0) 0 12) 1 30000) 2 240) 3 30000) 4 100) 5 40000) 6 900) 7 3900) 8 20000)
  | 3 => (fun _ => 0)
  | 4 => (fun _ => 0)
  | 5 => (fun _ => 0)
  | 6 => (upd (upd (fun _ => 0) 0 3700) 1 3700)
  | 7 => (fun _ => 0)
  | 8 => (fun _ => 0)
  | 9 => (fun _ => 0)
  | 10 => (fun _ => 0)
  | 11 => (fun _ => 0)
  | _ => fun _ => 0
theorem gI_N0 : ck_gI fbG gbG fN0 gN0 := by
  refine ⟨fun k => ?_, fun j i => ?_⟩
  · unfold fbG
    split <;> first | exact ck_in_top _ | exact ⟨by decide, by decide⟩ | exact (show ck_in _ (0 : Int32) from ⟨by decide, by decide⟩)
  · unfold gbG
    split <;> first | exact ck_in_top _ | exact ⟨by decide, by decide⟩ | exact (show ck_in _ (0 : Int32) from ⟨by decide, by decide⟩)
theorem gI_M0 : ck_gI fbM gbM fM0 gM0 := by
  refine ⟨fun k => ?_, fun j i => ?_⟩
  · unfold fbM
    split <;> first | exact ck_in_top _ | exact ⟨by decide, by decide⟩ | exact (show ck_in _ (0 : Int32) from ⟨by decide, by decide⟩)
  · unfold gbM
    split <;> first | exact ck_in_top _ | exact ⟨by decide, by decide⟩ | exact (show ck_in _ (0 : Int32) from ⟨by decide, by decide⟩)
theorem zk_arr {args : Array Value} {s : State} {ty : FieldType} (h : (Cond.arrayClass ty).before args s = true) : ∃ cA : ClassId, ArrOfT s cA ty ∧ s.vm.findClass ("[" ++ ty.toString) = some cA := by
  obtain ⟨cA, kA, comp, h1, h2, h3⟩ := Cond.arrayClass_spec h
  exact ⟨cA, fun n z => ⟨fun k h => (by cases h), kA, h2, comp, h3⟩, h1⟩
theorem zt_S_of {args : Array Value} {s : State} {C n d : String} (hl : (Cond.laysStatic C n d).before args s = true) (hr : (Cond.isRef (.static C n d)).before args s = true) : zt_S C n d s.heap.size s s.heap := by
  obtain ⟨c, k, i, f, a, cell, hc, hi, hst, ha, hcell, hs, hcls, hlt, hty⟩ := Cond.laysStatic_spec hl
  obtain ⟨v, hv⟩ : ∃ v, cell.slots[f.slot]? = some v := ⟨_, Array.getElem?_eq_getElem hlt⟩
  have he : (Term.static C n d).eval args s none [] s = some v := by
    simp [Term.eval, State.fieldNamed?, hi, hst, ha, hcell, hs, hv]
  have hr' : v.isRef = true := by
    simp only [Cond.before, Cond.holds, Cond.value, he] at hr
    cases v <;> simp_all [Value.isRef]
  exact ⟨c, k, i, f, a, cell, v, hc, hi, hst, ha, hcell, hs, hcls, hlt, hty, hv, hr', (Array.getElem?_eq_some_iff.mp hcell).1⟩
theorem xn_in : ∀ w ∈ xn_W, w ∈ lw_tbl ∧ w.onTables = true := by decide +kernel
set_option maxHeartbeats 4000000 in
set_option maxRecDepth 100000 in
theorem whole_start {p : Program} {e : Env} {s : State} {m : MethodId} {below : List Frame} {meth : Method} {c : Code} (l : Launch) (hfl : l.flags = flags0) {b L : Nat} {xs : Nat → Int32} (hL : L ≤ 1536) (C0 : lw_At p s m meth c b L xs) : W p l e room_1 s m #[Value.ref b] below meth c s.heap [] 0 0 (lw_Z below #[Value.ref b] s) (entryFrame m ([Value.ref b] : List Value).toArray 7) := by
  obtain ⟨hx, hb, hr, hml, hown, hts0, hX, hbl, hlocks, hgv⟩ := id C0
  have hown : s.vm.findClass "NightCyclerLaw" = some m.cls := hown
  have hts : ∀ w ∈ (Cond.initialized "NightCycler" :: kk_W), w.before #[Value.ref b] s = true := by
    intro w hw
    rcases List.mem_cons.mp hw with rfl | hw
    · exact hts0 _ (kk_tbl kw_1)
    · exact hts0 w (kk_tbl hw)
  have hfl2 := flat_of_before _ hgv
  have hA : ∀ q : Nat, s.heap.size ≤ q → (fun q : Nat => s.heap.size ≤ q) q := fun _ h => h
  have hbA : ¬ (fun q : Nat => s.heap.size ≤ q) b := Nat.not_le.mpr hbl
  obtain ⟨c0, iS0, hKn0⟩ := u_known (C := RN0) (T := TN0) (N := 18) (n := 18) hts (fun w h => List.mem_cons_of_mem _ (iN0 w h)) (hts _ (List.mem_cons_of_mem _ kw_19))
  obtain ⟨c1, iS1, hKn1⟩ := u_known (C := RN1) (T := TN1) (N := 1) (n := 1) hts (fun w h => List.mem_cons_of_mem _ (iN1 w h)) (hts _ (List.mem_cons_of_mem _ kw_27))
  obtain ⟨c2, iS2, hKn2⟩ := u_known (C := RN2) (T := TN2) (N := 7) (n := 7) hts (fun w h => List.mem_cons_of_mem _ (iN2 w h)) (hts _ (List.mem_cons_of_mem _ kw_38))
  obtain ⟨c3, iS3, hKn3⟩ := u_known (C := RN3) (T := TN3) (N := 5) (n := 5) hts (fun w h => List.mem_cons_of_mem _ (iN3 w h)) (hts _ (List.mem_cons_of_mem _ kw_66))
  obtain ⟨c4, iS4, hKn4⟩ := u_known (C := RN4) (T := TN4) (N := 2) (n := 2) hts (fun w h => List.mem_cons_of_mem _ (iN4 w h)) (hts _ (List.mem_cons_of_mem _ kw_91))
  obtain ⟨c5, iS5, hKn5⟩ := u_known (C := RN5) (T := TN5) (N := 5) (n := 5) hts (fun w h => List.mem_cons_of_mem _ (iN5 w h)) (hts _ (List.mem_cons_of_mem _ kw_106))
  obtain ⟨c6, iS6, hKn6⟩ := u_known (C := RN6) (T := TN6) (N := 3) (n := 3) hts (fun w h => List.mem_cons_of_mem _ (iN6 w h)) (hts _ (List.mem_cons_of_mem _ kw_129))
  obtain ⟨c7, iS7, hKn7⟩ := u_known (C := RN7) (T := TN7) (N := 2) (n := 2) hts (fun w h => List.mem_cons_of_mem _ (iN7 w h)) (hts _ (List.mem_cons_of_mem _ kw_146))
  obtain ⟨c8, iS8, hKn8⟩ := u_known (C := RN8) (T := TN8) (N := 38) (n := 38) hts (fun w h => List.mem_cons_of_mem _ (iN8 w h)) (hts _ (List.mem_cons_of_mem _ kw_732))
  obtain ⟨D, hKc⟩ : ∃ D : va_G, ∀ (k : Nat) (q : vw_C), vN[k]? = some q → u_Kn s q.1 q.2.1 q.2.2 (D.1 k) (D.2 k) := by
    refine ⟨(fun k => match k with | 0 => c0 | 1 => c1 | 2 => c2 | 3 => c3 | 4 => c4 | 5 => c5 | 6 => c6 | 7 => c7 | _ => c8, fun k => match k with | 0 => iS0 | 1 => iS1 | 2 => iS2 | 3 => iS3 | 4 => iS4 | 5 => iS5 | 6 => iS6 | 7 => iS7 | _ => iS8), ?_⟩
    intro k q hq
    match k, hq with
    | 0, hq => cases hq; exact hKn0
    | 1, hq => cases hq; exact hKn1
    | 2, hq => cases hq; exact hKn2
    | 3, hq => cases hq; exact hKn3
    | 4, hq => cases hq; exact hKn4
    | 5, hq => cases hq; exact hKn5
    | 6, hq => cases hq; exact hKn6
    | 7, hq => cases hq; exact hKn7
    | 8, hq => cases hq; exact hKn8
    | k + 9, hq => cases hq
  obtain ⟨cI, aI, nI⟩ := zk_arr (hts0 (.arrayClass .int) (by decide +kernel))
  obtain ⟨cZ, aZ, nZ⟩ := zk_arr (hts0 (.arrayClass .boolean) (by decide +kernel))
  obtain ⟨cJ, aJ, nJ⟩ := zk_arr (hts0 (.arrayClass .long) (by decide +kernel))
  have hK : va_K D vN (tyN cI cZ cJ) s := by
    refine ⟨hKc, fun k q hk => ?_⟩
    match k, hk with
    | 0, hk => cases hk; exact ⟨aI, nI⟩
    | 1, hk => cases hk; exact ⟨aZ, nZ⟩
    | 2, hk => cases hk; exact ⟨aJ, nJ⟩
    | k + 3, hk => cases hk
  have hS : va_S (fun q : Nat => s.heap.size ≤ q) s.heap s.heap [] := va_S.rf
  have hP : va_P D vN [] s.heap := fun k q h => by simp at h
  have hD : va_D (fun q : Nat => s.heap.size ≤ q) [] := ⟨fun i j p q h => by simp at h, fun k q h => by simp at h⟩
  obtain ⟨tL, eL, TL⟩ := va_Tof (args := #[Value.ref b]) (s := s) (tm := (.static "NightCycler$Prescription" "LOWEST" "[I")) (ty := .int) (N := 9) (f := fun j => .int (zlow j)) (A := fun q : Nat => s.heap.size ≤ q) (by decide) (hfl2 (.arrayOf (.static "NightCycler$Prescription" "LOWEST" "[I") .int) (by decide +kernel)) (va_eqt (hfl2 (.eq (.length (.static "NightCycler$Prescription" "LOWEST" "[I")) (.int 9)) (by decide +kernel))) (fun j hj => by
    rcases (show j = 0 ∨ j = 1 ∨ j = 2 ∨ j = 3 ∨ j = 4 ∨ j = 5 ∨ j = 6 ∨ j = 7 ∨ j = 8 by omega) with rfl | rfl | rfl | rfl | rfl | rfl | rfl | rfl | rfl
    · exact va_eqt (hfl2 (.eq (.elem (.static "NightCycler$Prescription" "LOWEST" "[I") (.int 0)) (.int 1)) (by decide +kernel))
    · exact va_eqt (hfl2 (.eq (.elem (.static "NightCycler$Prescription" "LOWEST" "[I") (.int 1)) (.int 500)) (by decide +kernel))
    · exact va_eqt (hfl2 (.eq (.elem (.static "NightCycler$Prescription" "LOWEST" "[I") (.int 2)) (.int 1)) (by decide +kernel))
    · exact va_eqt (hfl2 (.eq (.elem (.static "NightCycler$Prescription" "LOWEST" "[I") (.int 3)) (.int 0)) (by decide +kernel))
    · exact va_eqt (hfl2 (.eq (.elem (.static "NightCycler$Prescription" "LOWEST" "[I") (.int 4)) (.int 50)) (by decide +kernel))
    · exact va_eqt (hfl2 (.eq (.elem (.static "NightCycler$Prescription" "LOWEST" "[I") (.int 5)) (.int 1000)) (by decide +kernel))
    · exact va_eqt (hfl2 (.eq (.elem (.static "NightCycler$Prescription" "LOWEST" "[I") (.int 6)) (.int 1)) (by decide +kernel))
    · exact va_eqt (hfl2 (.eq (.elem (.static "NightCycler$Prescription" "LOWEST" "[I") (.int 7)) (.int 3000)) (by decide +kernel))
    · exact va_eqt (hfl2 (.eq (.elem (.static "NightCycler$Prescription" "LOWEST" "[I") (.int 8)) (.int 0)) (by decide +kernel))) (fun a h => Nat.not_le.mpr h)
  have zL := va_Zof (args := #[Value.ref b]) (A := fun q : Nat => s.heap.size ≤ q) (hts0 (.laysStatic "NightCycler$Prescription" "LOWEST" "[I") (by decide +kernel)) (hts0 (.initialized "NightCycler$Prescription") (by decide +kernel)) eL (fun a h => Nat.not_le.mpr h)
  obtain ⟨tH, eH, TH⟩ := va_Tof (args := #[Value.ref b]) (s := s) (tm := (.static "NightCycler$Prescription" "HIGHEST" "[I")) (ty := .int) (N := 9) (f := fun j => .int (zhigh j)) (A := fun q : Nat => s.heap.size ≤ q) (by decide) (hfl2 (.arrayOf (.static "NightCycler$Prescription" "HIGHEST" "[I") .int) (by decide +kernel)) (va_eqt (hfl2 (.eq (.length (.static "NightCycler$Prescription" "HIGHEST" "[I")) (.int 9)) (by decide +kernel))) (fun j hj => by
    rcases (show j = 0 ∨ j = 1 ∨ j = 2 ∨ j = 3 ∨ j = 4 ∨ j = 5 ∨ j = 6 ∨ j = 7 ∨ j = 8 by omega) with rfl | rfl | rfl | rfl | rfl | rfl | rfl | rfl | rfl
    · exact va_eqt (hfl2 (.eq (.elem (.static "NightCycler$Prescription" "HIGHEST" "[I") (.int 0)) (.int 12)) (by decide +kernel))
    · exact va_eqt (hfl2 (.eq (.elem (.static "NightCycler$Prescription" "HIGHEST" "[I") (.int 1)) (.int 30000)) (by decide +kernel))
    · exact va_eqt (hfl2 (.eq (.elem (.static "NightCycler$Prescription" "HIGHEST" "[I") (.int 2)) (.int 240)) (by decide +kernel))
    · exact va_eqt (hfl2 (.eq (.elem (.static "NightCycler$Prescription" "HIGHEST" "[I") (.int 3)) (.int 30000)) (by decide +kernel))
    · exact va_eqt (hfl2 (.eq (.elem (.static "NightCycler$Prescription" "HIGHEST" "[I") (.int 4)) (.int 100)) (by decide +kernel))
    · exact va_eqt (hfl2 (.eq (.elem (.static "NightCycler$Prescription" "HIGHEST" "[I") (.int 5)) (.int 40000)) (by decide +kernel))
    · exact va_eqt (hfl2 (.eq (.elem (.static "NightCycler$Prescription" "HIGHEST" "[I") (.int 6)) (.int 900)) (by decide +kernel))
    · exact va_eqt (hfl2 (.eq (.elem (.static "NightCycler$Prescription" "HIGHEST" "[I") (.int 7)) (.int 3900)) (by decide +kernel))
    · exact va_eqt (hfl2 (.eq (.elem (.static "NightCycler$Prescription" "HIGHEST" "[I") (.int 8)) (.int 20000)) (by decide +kernel))) (fun a h => Nat.not_le.mpr h)
  have zH := va_Zof (args := #[Value.ref b]) (A := fun q : Nat => s.heap.size ≤ q) (hts0 (.laysStatic "NightCycler$Prescription" "HIGHEST" "[I") (by decide +kernel)) (hts0 (.initialized "NightCycler$Prescription") (by decide +kernel)) eH (fun a h => Nat.not_le.mpr h)
  have hxw : ∀ w ∈ xn_W, va_Nw w s := fun w hw => va_Nw.of (xn_in w hw).2 (hts0 w (xn_in w hw).1)
  have hxL : ∀ h : Nat → Nat, h 16 = tL → h 17 = tH → xL s.heap.size h s s.heap := fun h e1 e2 => ⟨⟨hxw, by rw [e1]; exact ⟨zL, TL⟩, by rw [e2]; exact ⟨zH, TH⟩, zt_S_of (hts0 (.laysStatic "java/lang/Throwable" "UNASSIGNED_STACK" "[Ljava/lang/StackTraceElement;") (by decide +kernel)) (hfl2 (.isRef (.static "java/lang/Throwable" "UNASSIGNED_STACK" "[Ljava/lang/StackTraceElement;")) (by decide +kernel)), zt_S_of (hts0 (.laysStatic "java/lang/Throwable" "SUPPRESSED_SENTINEL" "Ljava/util/List;") (by decide +kernel)) (hfl2 (.isRef (.static "java/lang/Throwable" "SUPPRESSED_SENTINEL" "Ljava/util/List;")) (by decide +kernel))⟩, List.forall_mem_cons.mpr ⟨va_Nc.of (hfl2 (.not (.castable "java/lang/IllegalArgumentException" "java/lang/IllegalStateException")) (by decide +kernel)), List.forall_mem_cons.mpr ⟨va_Nc.of (hfl2 (.not (.castable "java/lang/UnsupportedOperationException" "java/lang/IllegalStateException")) (by decide +kernel)), List.forall_mem_cons.mpr ⟨va_Nc.of (hfl2 (.not (.castable "java/lang/IllegalArgumentException" "java/lang/IndexOutOfBoundsException")) (by decide +kernel)), fun _ h => absurd h List.not_mem_nil⟩⟩⟩⟩
  have hl := lv_entry ([.ref b]) (n := 7) (Nat.le_of_ble_eq_true rfl)
  rw [lg_entry_eq]
  generalize (lg_sl ([.ref b]) ++ List.replicate (7 - (lg_sl ([.ref b])).length) Slot.unset).toArray = ls at hl ⊢
  have hl : lv_has ls 7 [(0, .ref b)] := hl
  refine va_new (ci := 0) (fs := [.null, .null, .null, .null, .null, .null, .null, .int 0, .int 0, .int 0, .int 0, .int 0, .int 0, .int 0, .int 0, .int 0, .int 0, .int 0]) (C := RN0) (T := TN0) (N := 18) hx hb hts (fun w h => List.mem_cons_of_mem _ (iN0 w h)) tN0 tN0_ok hown (hts _ (List.mem_cons_of_mem _ kw_18)) (hts _ (List.mem_cons_of_mem _ kw_19)) (hts _ (List.mem_cons_of_mem _ kw_1)) hK hP hD hS hA rfl (fun j hj => by rcases (show j = 0 ∨ j = 1 ∨ j = 2 ∨ j = 3 ∨ j = 4 ∨ j = 5 ∨ j = 6 ∨ j = 7 ∨ j = 8 ∨ j = 9 ∨ j = 10 ∨ j = 11 ∨ j = 12 ∨ j = 13 ∨ j = 14 ∨ j = 15 ∨ j = 16 ∨ j = 17 by omega) with rfl | rfl | rfl | rfl | rfl | rfl | rfl | rfl | rfl | rfl | rfl | rfl | rfl | rfl | rfl | rfl | rfl | rfl <;> rfl) (Nat.le_of_ble_eq_true rfl) (Nat.le_of_ble_eq_true rfl) dl_0 (fun q0 H hP hD hS => ?_)
  have hP : va_P D vN [(q0, .inr (0, [.null, .null, .null, .null, .null, .null, .null, .int 0, .int 0, .int 0, .int 0, .int 0, .int 0, .int 0, .int 0, .int 0, .int 0, .int 0]))] H := hP
  have hD : va_D (fun q : Nat => s.heap.size ≤ q) [(q0, .inr (0, [.null, .null, .null, .null, .null, .null, .null, .int 0, .int 0, .int 0, .int 0, .int 0, .int 0, .int 0, .int 0, .int 0, .int 0, .int 0]))] := hD
  refine lv_dup hx hb dl_3 rfl ?_
  have hFc := va_free (wc := [(q0, .inr (0, [.null, .null, .null, .null, .null, .null, .null, .int 0, .int 0, .int 0, .int 0, .int 0, .int 0, .int 0, .int 0, .int 0, .int 0, .int 0]))]) hD hS hA [0] rfl
  refine va_callv (va_runI (As := []) (rest := [.ref q0]) ⟨hx, hb, hml, hown, hts⟩ (k_0 l D cI cZ cJ q0 H.size) (cwI 0 hts (kk_g1 kw_22) rfl rfl rfl (hts _ (List.mem_cons_of_mem _ kw_1)) (hts _ (List.mem_cons_of_mem _ kw_20)) (hts _ (List.mem_cons_of_mem _ kw_21)) rfl (by decide +kernel) ⟨Nat.le_of_ble_eq_true rfl, Nat.le_of_ble_eq_true rfl⟩) ⟨fun a U g mk q => by obtain ⟨q0, ⟨q1, qP, qK, qD⟩, qX⟩ := q; exact ⟨q0, ⟨q1, qP, va_K.moved (u := U) (U := U.calling g mk a) (Vm.Alike.refl U.vm) qK, qD⟩, fun w hw => va_Nw.same (u := U) (U := U.calling g mk a) (xn_in w hw).2 rfl (qX w hw)⟩, fun U hU hW => ⟨rfl, ⟨by rw [hU], by rw [hU]; exact hP, va_K.moved hW.alike hK, hD.weaken (fun _ _ _ _ => trivial)⟩, fun w hw => zx_warm (xn_ok w hw) hW (hxw w hw)⟩⟩ rfl rfl hl.1 rfl (lv_room (Nat.le_of_ble_eq_true rfl)) dl_4 ⟨Nat.le_of_ble_eq_true rfl, Nat.le_of_ble_eq_true rfl⟩) hS (fun q _ h => hFc q h) hFc (fun h t H1 locs ht hvm hw hB hz1 hk1 hS => ?_)
  obtain ⟨hP1, hK1, hD1⟩ := hB
  rw [ht] at hP1
  have hw : h 0 = q0 := hw
  obtain ⟨hP, hD⟩ := va_join (wr := []) (w1 := wN cI cZ h fN0 gN0) hP hD [0] [] rfl rfl (by decide) (by decide) hk1 hFc hP1 hD1
  generalize H1 = H at hP hS ⊢
  obtain ⟨h2, hh2⟩ : ∃ h2 : Nat → Nat, h2 = (fun k => if k = 16 then tL else if k = 17 then tH else h k) := ⟨_, rfl⟩
  have hP : va_P D vN (wN cI cZ (fun k => if k = 16 then tL else if k = 17 then tH else h k) fN0 gN0) H := hP
  have hD : va_D (fun q : Nat => s.heap.size ≤ q) (wN cI cZ (fun k => if k = 16 then tL else if k = 17 then tH else h k) fN0 gN0) := hD
  rw [← hh2] at hP hD
  have e0 : q0 = h2 0 := by rw [hh2]; exact hw.symm
  have e16 : h2 16 = tL := by rw [hh2]; rfl
  have e17 : h2 17 = tH := by rw [hh2]; rfl
  have hPn := hP
  have hDn := hD
  subst e0
  have hP := hPn
  have hD := hDn
  refine lv_astore_n (lv' := [(1, .ref (h2 0)), (0, .ref b)]) hx hb dl_7 rfl hl (by decide) rfl (fun ls hl => ?_)
  refine va_new (ci := 8) (fs := [.int 0, .null, .null, .null, .int 0, .int 0, .int 0, .int 0, .int 0, .int 0, .int 0, .int 0, .int 0, .int 0, .int 0, .int 0, .null, .int 0, .int 0, .null, .null, .int 0, .int 0, .null, .int 0, .int 0, .int 0, .int 0, .int 0, .null, .int 0, .int 0, .int 0, .int 0, .null, .null, .null, .null]) (C := RN8) (T := TN8) (N := 38) hx hb hts (fun w h => List.mem_cons_of_mem _ (iN8 w h)) tN8 tN8_ok hown (hts _ (List.mem_cons_of_mem _ kw_731)) (hts _ (List.mem_cons_of_mem _ kw_732)) (hts _ (List.mem_cons_of_mem _ kw_9)) hK hP hD hS hA rfl (fun j hj => by rcases (show j = 0 ∨ j = 1 ∨ j = 2 ∨ j = 3 ∨ j = 4 ∨ j = 5 ∨ j = 6 ∨ j = 7 ∨ j = 8 ∨ j = 9 ∨ j = 10 ∨ j = 11 ∨ j = 12 ∨ j = 13 ∨ j = 14 ∨ j = 15 ∨ j = 16 ∨ j = 17 ∨ j = 18 ∨ j = 19 ∨ j = 20 ∨ j = 21 ∨ j = 22 ∨ j = 23 ∨ j = 24 ∨ j = 25 ∨ j = 26 ∨ j = 27 ∨ j = 28 ∨ j = 29 ∨ j = 30 ∨ j = 31 ∨ j = 32 ∨ j = 33 ∨ j = 34 ∨ j = 35 ∨ j = 36 ∨ j = 37 by omega) with rfl | rfl | rfl | rfl | rfl | rfl | rfl | rfl | rfl | rfl | rfl | rfl | rfl | rfl | rfl | rfl | rfl | rfl | rfl | rfl | rfl | rfl | rfl | rfl | rfl | rfl | rfl | rfl | rfl | rfl | rfl | rfl | rfl | rfl | rfl | rfl | rfl | rfl <;> rfl) (Nat.le_of_ble_eq_true rfl) (Nat.le_of_ble_eq_true rfl) dl_8 (fun q8 H hP hD hS => ?_)
  refine lv_dup hx hb dl_11 rfl ?_
  have hPc := hP.sub (ws' := [(q8, .inr (8, [.int 0, .null, .null, .null, .int 0, .int 0, .int 0, .int 0, .int 0, .int 0, .int 0, .int 0, .int 0, .int 0, .int 0, .int 0, .null, .int 0, .int 0, .null, .null, .int 0, .int 0, .null, .int 0, .int 0, .int 0, .int 0, .int 0, .null, .int 0, .int 0, .int 0, .int 0, .null, .null, .null, .null]))]) [16] rfl
  have hDc := hD.sub (ws' := [(q8, .inr (8, [.int 0, .null, .null, .null, .int 0, .int 0, .int 0, .int 0, .int 0, .int 0, .int 0, .int 0, .int 0, .int 0, .int 0, .int 0, .null, .int 0, .int 0, .null, .null, .int 0, .int 0, .null, .int 0, .int 0, .int 0, .int 0, .int 0, .null, .int 0, .int 0, .int 0, .int 0, .null, .null, .null, .null]))]) [16] (by decide) rfl
  have hFc := va_free (wc := [(q8, .inr (8, [.int 0, .null, .null, .null, .int 0, .int 0, .int 0, .int 0, .int 0, .int 0, .int 0, .int 0, .int 0, .int 0, .int 0, .int 0, .null, .int 0, .int 0, .null, .null, .int 0, .int 0, .null, .int 0, .int 0, .int 0, .int 0, .int 0, .null, .int 0, .int 0, .int 0, .int 0, .null, .null, .null, .null]))]) hD hS hA [16] rfl
  refine va_callv (va_runI (As := []) (rest := [.ref q8]) ⟨hx, hb, hml, hown, hts⟩ (k_8 l D cI cZ cJ q8 H.size) (cwI 0 hts (kk_g1 kw_735) rfl rfl rfl (hts _ (List.mem_cons_of_mem _ kw_9)) (hts _ (List.mem_cons_of_mem _ kw_733)) (hts _ (List.mem_cons_of_mem _ kw_734)) rfl (by decide +kernel) ⟨Nat.le_of_ble_eq_true rfl, Nat.le_of_ble_eq_true rfl⟩) ⟨fun a U g mk q => by obtain ⟨q0, q1, qP, qK, qD⟩ := q; exact ⟨q0, q1, qP, va_K.moved (u := U) (U := U.calling g mk a) (Vm.Alike.refl U.vm) qK, qD⟩, fun U hU hW => ⟨rfl, by rw [hU], by rw [hU]; exact hPc, va_K.moved hW.alike hK, hDc.weaken (fun _ _ _ _ => trivial)⟩⟩ rfl rfl hl.1 rfl (lv_room (Nat.le_of_ble_eq_true rfl)) dl_12 ⟨Nat.le_of_ble_eq_true rfl, Nat.le_of_ble_eq_true rfl⟩) hS (fun q _ h => hFc q h) hFc (fun u t H1 locs ht hvm hw hB hz1 hk1 hS => ?_)
  obtain ⟨a1, a2, a3, a4, a5, a6, a7, a8, a9, a10, a11, a12⟩ := u
  obtain ⟨hP1, hK1, hD1⟩ := hB
  rw [ht] at hP1
  obtain ⟨hm, hhm⟩ : ∃ hm : Nat → Nat, hm = (fun k => match k with | 0 => q8 | 1 => a1 | 2 => a2 | 3 => a3 | 4 => a4 | 5 => a5 | 6 => a6 | 7 => a7 | 8 => a8 | 9 => a9 | 10 => a10 | 11 => a11 | _ => a12) := ⟨_, rfl⟩
  have hP1 : va_P D vN (wM cI cZ (fun k => match k with | 0 => q8 | 1 => a1 | 2 => a2 | 3 => a3 | 4 => a4 | 5 => a5 | 6 => a6 | 7 => a7 | 8 => a8 | 9 => a9 | 10 => a10 | 11 => a11 | _ => a12) fM0 gM0) H1 := hP1
  have hD1 : va_D (va_A [(q8, .inr (8, [.int 0, .null, .null, .null, .int 0, .int 0, .int 0, .int 0, .int 0, .int 0, .int 0, .int 0, .int 0, .int 0, .int 0, .int 0, .null, .int 0, .int 0, .null, .null, .int 0, .int 0, .null, .int 0, .int 0, .int 0, .int 0, .int 0, .null, .int 0, .int 0, .int 0, .int 0, .null, .null, .null, .null]))] H.size) (wM cI cZ (fun k => match k with | 0 => q8 | 1 => a1 | 2 => a2 | 3 => a3 | 4 => a4 | 5 => a5 | 6 => a6 | 7 => a7 | 8 => a8 | 9 => a9 | 10 => a10 | 11 => a11 | _ => a12) fM0 gM0) := hD1
  rw [← hhm] at hP1 hD1
  have e0 : q8 = hm 0 := by rw [hhm]; rfl
  have hPn := hP1
  have hDn := hD1
  subst e0
  have hP1 := hPn
  have hD1 := hDn
  obtain ⟨hP, hD⟩ := va_join (wr := wN cI cZ h2 fN0 gN0) (w1 := wM cI cZ hm fM0 gM0) hP hD [16] [0, 1, 2, 3, 4, 5, 6, 7, 8, 9, 10, 11, 12, 13, 14, 15] rfl rfl (by decide) (by decide) hk1 hFc hP1 hD1
  generalize H1 = H at hP hS ⊢
  refine lv_astore_n (lv' := [(2, .ref (hm 0)), (1, .ref (h2 0)), (0, .ref b)]) hx hb dl_15 rfl hl (by decide) rfl (fun ls hl => ?_)
  refine lv_iconst (v := 1) hx hb dl_16 (by decide) ?_
  refine va_newa (atype := .long) (ty := .long) (N' := 1) (a0 := (1, .inr (.inl (fun _ => 0)))) hx hb (hts0 (.arrayClass .long) (by decide +kernel)) rfl hK hP hD hS hA (fun _ => rfl) (by decide) rfl (by decide) (Nat.le_of_ble_eq_true rfl) (Nat.le_of_ble_eq_true rfl) dl_17 (fun ho cA H hK2 hP hD hS => ?_)
  have ecA : cJ = cA := Option.some.inj ((hK2.2 2 _ rfl).2.symm.trans (hK2.2 3 _ rfl).2)
  subst ecA
  have hP : va_P D vN (wW cI cZ cJ ho h2 hm fN0 gN0 fM0 gM0) H := va_P_swap (a := wN cI cZ h2 fN0 gN0 ++ wM cI cZ hm fM0 gM0) (b := [(ho, .inl (cJ, 1, .inr (.inl (fun j => (gN0 200 j).toInt64))))]) hP
  have hD : va_D (fun q : Nat => s.heap.size ≤ q) (wW cI cZ cJ ho h2 hm fN0 gN0 fM0 gM0) := va_D_swap (a := wN cI cZ h2 fN0 gN0 ++ wM cI cZ hm fM0 gM0) (b := [(ho, .inl (cJ, 1, .inr (.inl (fun j => (gN0 200 j).toInt64))))]) hD
  refine lv_astore_n (lv' := [(3, .ref ho), (2, .ref (hm 0)), (1, .ref (h2 0)), (0, .ref b)]) hx hb dl_19 rfl hl (by decide) rfl (fun ls hl => ?_)
  refine lv_iconst (v := 0) hx hb dl_20 (by decide) ?_
  refine lv_istore (lv' := [(4, .int 0), (3, .ref ho), (2, .ref (hm 0)), (1, .ref (h2 0)), (0, .ref b)]) hx hb dl_21 hl (by decide) rfl (fun ls hl => ?_)
  exact law_loop (cx := Cond.initialized "NightCycler") hfl hL ⟨⟨hx, hb, hml, hown, hts⟩, hr, hlocks, hK, hA, fun _ h => h, Nat.le_refl _, hxL h2 e16 e17, xL_ok⟩ hX hbl 512 0 fN0 gN0 fM0 gM0 H _ ls _ _ (by decide) (by decide) (by have h0 : (0 : Int32).toInt = 0 := rfl; omega) (by decide) (by decide) gI_N0 gI_M0 (Or.inl ⟨rfl, rfl⟩) hP hD hS (lv_sub hl [4, 3, 2, 1, 0] rfl)

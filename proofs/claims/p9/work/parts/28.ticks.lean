theorem kw_552 : (Jvm.Cond.methodLink "NightCycler" (122 : Nat) ({ cls := "NightCycler", name := "passOneTick", desc := "()V" } : Jvm.MethodName)) ∈ kk_W := kk_in 601 (by decide +kernel) (by decide +kernel)
theorem kw_554 : (Jvm.Cond.instanceMethod ({ cls := "NightCycler", name := "passOneTick", desc := "()V" } : Jvm.MethodName)) ∈ kk_W := kk_in 603 (by decide +kernel) (by decide +kernel)
theorem kw_555 : (Jvm.Cond.code ({ cls := "NightCycler", name := "passOneTick", desc := "()V" } : Jvm.MethodName) prog_1_method_29_code (1 : Nat) (Option.none : Option Jvm.ClassFile.FieldType)) ∈ kk_W := kk_in 604 (by decide +kernel) (by decide +kernel)
theorem ks_15 : (Jvm.Cond.selects "NightCycler" ({ cls := "NightCycler", name := "passOneTick", desc := "()V" } : Jvm.MethodName) ({ cls := "NightCycler", name := "passOneTick", desc := "()V" } : Jvm.MethodName)) ∈ kk_W := kk_in 15 (by decide +kernel) (by decide +kernel)
/-- the same, with states whose goodness is shown by hand -/
theorem ck_methodX2 {l : Launch} {D : va_G} {cl : List vw_C} {tys : List (ClassId × FieldType)} {B : Nat} {w : zz_F → zz_G → va_W} {X : State → Heap → Prop} {h : Nat → Nat} {fb : Nat → Int × Int} {gb : Nat → Nat → Int × Int} {y : MethodName} {ws ws' : List Cond} {rm : Room} {q : (List ck_V × ck_T) × List ck_O} {cc : ByteArray} {nL : Nat} {ret : Option FieldType}
    (hfl : l.flags = flags0) (P : ck_P) (E : ck_E) (rt : Nat) (cuts : List ck_S) (n : Nat) (hy : plainName y.cls = true) (hw : ws = Cond.code y cc nL ret :: ws') (hXk : zz_Xok B X)
    (hP : ∀ q ∈ P, ∀ z ∈ q.2, decode cc z.1 = .ok z.2) (h1 : q.1.1.all ck_one = true ∧ q.1.1.length ≤ nL) (hr : ck_rty rt ret)
    (hE : ∀ (p : Program) (e : Env) (s : State) (m : MethodId) (args : Array Value) (below : List Frame) (meth : Method) (c : Code) (A : Nat → Prop) (Q : State → Prop), zz_Cx p m meth c cc nL ret s args ws y.cls D cl tys A B X →
      (∀ z ∈ E.1, ck_oGet p l e rm s m args below meth c D cl A w h nL Q fb gb cc z) ∧ (∀ z ∈ E.2.1, ck_oPut p l e rm s m args below meth c D cl A w h nL Q fb gb cc z) ∧ (∀ z ∈ E.2.2.1, ck_oAld p l e rm s m args below meth c D cl A w h nL Q fb gb cc z ∧ (z.2.1 < 100 → ck_oAst p l e rm s m args below meth c D cl A w h nL Q fb gb cc z)) ∧ (∀ z ∈ E.2.2.2.1, ck_oCall p l e rm s m args below meth c D cl A w h nL Q fb gb cc z) ∧ (∀ z ∈ E.2.2.2.2.1, ck_oMath p l e rm s m args below meth c D cl A w h nL Q fb gb cc z) ∧ (∀ z ∈ E.2.2.2.2.2.1, ck_oLdc p l e rm s m args below meth c D cl A w h nL Q fb gb cc z) ∧ (∀ z ∈ E.2.2.2.2.2.2.1, ck_oSta p l e rm s m args below meth c D cl A w h nL Q fb gb cc z) ∧ (∀ z ∈ E.2.2.2.2.2.2.2.1, ck_oLdl p l e rm s m args below meth c D cl A w h nL Q fb gb cc z))
    (hTh : ∀ z ∈ E.2.2.2.2.2.2.2.2, ∃ names : List String, Bundle.fit z.2.2 = true ∧ (∀ n ∈ names, Bundle.fit n = true) ∧ (Cond.classLink y.cls z.1 z.2.2 ∈ ws ∧ Cond.initialized z.2.2 ∈ ws) ∧
      (∀ (s : State) (args : Array Value), X s s.heap → (∀ v ∈ ws, v.before args s = true) → ∀ v ∈ Bundle.ownAtoms0 y.cls z.2.1 z.2.2 names, v.onTables = true → v.before args s = true) ∧ (∀ v ∈ Bundle.ownAtoms0 y.cls z.2.1 z.2.2 names, v.onTables = true ∨ v ∈ zt_four) ∧ (names.length + 3 < rm.frames ∧ 13 * (names.length + 1) + 50 ≤ rm.locals))
    (hst : ∀ (U : State), X U U.heap → ∀ v ∈ zt_four, ∀ a : Array Value, v.before a U = true) (hR : 1 ≤ rm.cells ∧ 6 ≤ rm.slots)
    (hrun : ck_run P E nL fb gb q.2 rt cuts n (ck_in0 q.1) = true)
    (hcuts : ∀ (p : Program) (e : Env) (s : State) (m : MethodId) (args : Array Value) (below : List Frame) (meth : Method) (c : Code) (A : Nat → Prop) (Q : State → Prop) (f0 : zz_F), zz_Cx p m meth c cc nL ret s args ws y.cls D cl tys A B X → ck_Ok p l e rm s m args below meth c D cl A w h nL Q fb gb cc f0 P E q.2 rt → ∀ t ∈ cuts, ck_G p l e rm s m args below meth c D cl A w h nL Q f0 fb gb t) : ck_cx l D cl tys B w X h fb gb y ws rm q := by
  intro f g sz vs hI hT hs
  refine zx_of (cc := cc) (ret := ret) (maxL := nL) hfl hy hw (by rw [ck_sl h1.1 hs]; exact h1.2) hXk ?_
  intro p e s m below meth c A ls C htr hout hP1 hD1 hl
  have hx := C.1.1
  have hb := C.1.2.1
  generalize hpo : (fun (r : Option Value) (f1 : zz_F) (g1 : zz_G) => ∃ o ∈ q.2, ck_gO h o.1 r ∧ ck_gI fb gb f1 g1 ∧ ck_gT f f1 o.2) = po
  generalize hpx : (fun (E : String) (f1 : zz_F) (g1 : zz_G) => ∃ o ∈ q.2, o.1 = .inr E ∧ ck_gI fb gb f1 g1 ∧ ck_gT f f1 o.2) = px
  obtain ⟨e1, e2, e3, e4, e5, e6, e7, e8⟩ := hE p e s m vs.toArray below meth c A (zz_MX below (zz_QX D cl tys w A po px) vs.toArray s) C
  have K : ck_Ok p l e rm s m vs.toArray below meth c D cl A w h nL (zz_MX below (zz_QX D cl tys w A po px) vs.toArray s) fb gb cc f P E q.2 rt := by
    refine ⟨hx, hb, fun a b ⟨q, hq, hz⟩ => hP q hq (a, b) hz, e1, e2, e3, e4, e5, e6, e7, e8, ?_, ?_⟩
    · intro z hz f1 g1 H locs pc ls1 st hI1 ho hP2 hD2 hS2 hsz hwt d0 d3 d4 d7
      obtain ⟨names, t1, t2, ⟨t3, t3'⟩, t4, t5, t6⟩ := hTh z hz
      obtain ⟨o, ho, he, hT1⟩ := ho
      have hq : px z.2.2 f1 g1 := by rw [← hpx]; exact ⟨o, ho, he, hI1, hT1⟩
      exact zt_throw (names := names) C htr hout t1 t2 (C.1.2.2.2.2 _ t3) (C.1.2.2.2.2 _ t3') (t4 s vs.toArray C.2.2.2.2.2.2.2.1 C.1.2.2.2.2) t5 hst hP2 hD2 hS2 hq hsz hwt d0 d3 d4 d7 t6.1 t6.2 hR.1 hR.2
    · intro f1 g1 H locs pc ls1 r hI1 ho hP2 hD2 hS2 hret
      obtain ⟨o, ho, hg, hT1⟩ := ho
      have hq : po r f1 g1 := by rw [← hpo]; exact ⟨o, ho, hg, hI1, hT1⟩
      refine zx_ret ?_
      rcases hret with ⟨x, rfl, hd, hbool⟩ | ⟨v, rfl, hv, hd, h9⟩ | ⟨rfl, hd, h9⟩
      · rcases hbool with h9 | ⟨h9, b1, b2⟩
        · rw [h9] at hr
          have hr : ret = some .int := hr
          subst hr
          exact zz_reti C (vp_nar_int x) hP2 hD2 hS2 hq hd
        · rw [h9] at hr
          have hr : ret = some .boolean := hr
          subst hr
          exact zz_reti C (ck_bnn ⟨b1, b2⟩) hP2 hD2 hS2 hq hd
      · rw [h9] at hr
        have hr : ret = some (.array .int) := hr
        subst hr
        exact W.aret hx hb C.2.1 (Or.inr ⟨_, rfl⟩) hv (zz_end C hP2 hD2 hS2 hq) hS2.2.2 hd C.2.2.1
      · rw [h9] at hr
        have hr : ret = none := hr
        subst hr
        exact zz_retv C hP2 hD2 hS2 hq hd
  have hG := ck_run_ok K (hcuts p e s m vs.toArray below meth c A _ f C K) n _ hrun
  exact hG f g s.heap [] ls [] hI (fun z hz => by
    obtain ⟨u, hu, rfl⟩ := List.mem_map.mp hz
    exact ⟨hT u hu, fun _ => rfl⟩) hP1 hD1 va_S.rf ⟨_, hl, ck_args_ok h1.1 hs⟩ trivial
/-- the same, with states whose goodness is shown by hand -/
theorem ck_method2 {l : Launch} {D : va_G} {cl : List vw_C} {tys : List (ClassId × FieldType)} {B : Nat} {w : zz_F → zz_G → va_W} {X : State → Heap → Prop} {h : Nat → Nat} {fb : Nat → Int × Int} {gb : Nat → Nat → Int × Int} {y : MethodName} {ws ws' : List Cond} {rm : Room} {q : (List ck_V × ck_T) × List ck_O} {cc : ByteArray} {nL : Nat} {ret : Option FieldType}
    (P : ck_P) (E : ck_E) (rt : Nat) (cuts : List ck_S) (n : Nat) (hy : plainName y.cls = true) (hw : ws = Cond.code y cc nL ret :: ws') (hXk : zz_Xok B X)
    (hP : ∀ q ∈ P, ∀ z ∈ q.2, decode cc z.1 = .ok z.2) (h1 : q.1.1.all ck_one = true ∧ q.1.1.length ≤ nL) (hr : ck_rty rt ret)
    (hE : ∀ (p : Program) (e : Env) (s : State) (m : MethodId) (args : Array Value) (below : List Frame) (meth : Method) (c : Code) (A : Nat → Prop) (Q : State → Prop), zz_Cx p m meth c cc nL ret s args ws y.cls D cl tys A B X →
      (∀ z ∈ E.1, ck_oGet p l e rm s m args below meth c D cl A w h nL Q fb gb cc z) ∧ (∀ z ∈ E.2.1, ck_oPut p l e rm s m args below meth c D cl A w h nL Q fb gb cc z) ∧ (∀ z ∈ E.2.2.1, ck_oAld p l e rm s m args below meth c D cl A w h nL Q fb gb cc z ∧ (z.2.1 < 100 → ck_oAst p l e rm s m args below meth c D cl A w h nL Q fb gb cc z)) ∧ (∀ z ∈ E.2.2.2.1, ck_oCall p l e rm s m args below meth c D cl A w h nL Q fb gb cc z) ∧ (∀ z ∈ E.2.2.2.2.1, ck_oMath p l e rm s m args below meth c D cl A w h nL Q fb gb cc z) ∧ (∀ z ∈ E.2.2.2.2.2.1, ck_oLdc p l e rm s m args below meth c D cl A w h nL Q fb gb cc z) ∧ (∀ z ∈ E.2.2.2.2.2.2.1, ck_oSta p l e rm s m args below meth c D cl A w h nL Q fb gb cc z) ∧ (∀ z ∈ E.2.2.2.2.2.2.2.1, ck_oLdl p l e rm s m args below meth c D cl A w h nL Q fb gb cc z) ∧ E.2.2.2.2.2.2.2.2 = [])
    (hrun : ck_run P E nL fb gb q.2 rt cuts n (ck_in0 q.1) = true)
    (hcuts : ∀ (p : Program) (e : Env) (s : State) (m : MethodId) (args : Array Value) (below : List Frame) (meth : Method) (c : Code) (A : Nat → Prop) (Q : State → Prop) (f0 : zz_F), zz_Cx p m meth c cc nL ret s args ws y.cls D cl tys A B X → ck_Ok p l e rm s m args below meth c D cl A w h nL Q fb gb cc f0 P E q.2 rt → ∀ t ∈ cuts, ck_G p l e rm s m args below meth c D cl A w h nL Q f0 fb gb t) : ck_c l D cl tys B w X h fb gb y ws rm q := by
  intro f g sz vs hI hT hs
  refine zz_of (cc := cc) (ret := ret) (maxL := nL) hy hw (by rw [ck_sl h1.1 hs]; exact h1.2) hXk ?_
  intro p e s m below meth c A ls C _ hP1 hD1 hl
  have hx := C.1.1
  have hb := C.1.2.1
  obtain ⟨e1, e2, e3, e4, e5, e6, e7, e8, e9⟩ := hE p e s m vs.toArray below meth c A (MQ below (zz_Q D cl tys w A (fun r f1 g1 => ∃ o ∈ q.2, ck_gO h o.1 r ∧ ck_gI fb gb f1 g1 ∧ ck_gT f f1 o.2)) vs.toArray s 0 0 A) C
  have K : ck_Ok p l e rm s m vs.toArray below meth c D cl A w h nL (MQ below (zz_Q D cl tys w A (fun r f1 g1 => ∃ o ∈ q.2, ck_gO h o.1 r ∧ ck_gI fb gb f1 g1 ∧ ck_gT f f1 o.2)) vs.toArray s 0 0 A) fb gb cc f P E q.2 rt := by
    refine ⟨hx, hb, fun a b ⟨q, hq, hz⟩ => hP q hq (a, b) hz, e1, e2, e3, e4, e5, e6, e7, e8, (by rw [e9]; intro z hz; cases hz), ?_⟩
    intro f1 g1 H locs pc ls1 r hI1 ho hP2 hD2 hS2 hret
    obtain ⟨o, ho, hg, hT1⟩ := ho
    have hq : ∃ o ∈ q.2, ck_gO h o.1 r ∧ ck_gI fb gb f1 g1 ∧ ck_gT f f1 o.2 := ⟨o, ho, hg, hI1, hT1⟩
    rcases hret with ⟨x, rfl, hd, hbool⟩ | ⟨v, rfl, hv, hd, h9⟩ | ⟨rfl, hd, h9⟩
    · rcases hbool with h9 | ⟨h9, b1, b2⟩
      · rw [h9] at hr
        have hr : ret = some .int := hr
        subst hr
        exact zz_reti C (vp_nar_int x) hP2 hD2 hS2 hq hd
      · rw [h9] at hr
        have hr : ret = some .boolean := hr
        subst hr
        refine zz_reti C ?_ hP2 hD2 hS2 hq hd
        rcases (show x.toInt = 0 ∨ x.toInt = 1 by have h8 : (0 : Int) ≤ x.toInt := b1; have h9 : x.toInt ≤ 1 := b2; omega) with h8 | h8
        · have h9 : x = 0 := Int32.toInt_inj.mp h8
          subst h9; rfl
        · have h9 : x = 1 := Int32.toInt_inj.mp h8
          subst h9; rfl
    · rw [h9] at hr
      have hr : ret = some (.array .int) := hr
      subst hr
      exact W.aret hx hb C.2.1 (Or.inr ⟨_, rfl⟩) hv (zz_end C hP2 hD2 hS2 hq) hS2.2.2 hd C.2.2.1
    · rw [h9] at hr
      have hr : ret = none := hr
      subst hr
      exact zz_retv C hP2 hD2 hS2 hq hd
  have hG := ck_run_ok K (hcuts p e s m vs.toArray below meth c A _ f C K) n _ hrun
  exact hG f g s.heap [] ls [] hI (fun z hz => by
    obtain ⟨u, hu, rfl⟩ := List.mem_map.mp hz
    exact ⟨hT u hu, fun _ => rfl⟩) hP1 hD1 va_S.rf ⟨_, hl, ck_args_ok h1.1 hs⟩ trivial

abbrev y_0_tick : MethodName := ⟨"NightCycler", "tick", "(I)I"⟩
def p_0_tick : ck_P := [(11, [(0, .aload_n 0, 1), (1, .getfield 58, 3), (4, .ifCond .ne 11, 3), (7, .new 66, 3), (10, .dup, 1), (11, .invokespecial 68, 3)]), (21, [(14, .athrow, 1), (15, .iload_n 1, 1), (16, .iconst 1, 1), (17, .if_icmp .lt 10, 3), (20, .iload_n 1, 1), (21, .sipush 5000, 3)]), (35, [(24, .if_icmp .le 11, 3), (27, .new 73, 3), (30, .dup, 1), (31, .invokespecial 75, 3), (34, .athrow, 1), (35, .iconst 0, 1)]), (43, [(36, .istore_n 2, 1), (37, .iload_n 2, 1), (38, .iload_n 1, 1), (39, .if_icmp .ge 13, 3), (42, .aload_n 0, 1), (43, .invokevirtual 122, 3)]), (56, [(46, .iinc 2 1, 3), (49, .goto (-12), 3), (52, .aload_n 0, 1), (53, .getfield 119, 3), (56, .ireturn, 1)])]
theorem d_0_tick : ∀ q ∈ p_0_tick, ∀ z ∈ q.2, decode prog_1_method_6_code z.1 = .ok z.2 := by decide +kernel
abbrev q_tick : (List ck_V × ck_T) × List ck_O := (([.inr (.inl (false, [0])), .inl (-2147483648, 2147483647)], [(0, (0, 1), false), (3, (0, 12), false)]), [(.inr "java/lang/IllegalStateException", [(0, (0, 1), false), (3, (0, 12), false)]), (.inr "java/lang/IllegalArgumentException", [(0, (0, 1), false), (3, (0, 12), false)]), (.inl (some (.inl (-2147483648, 2147483647))), [(0, (0, 1), false), (3, (0, 12), true)])])
theorem dt_0_37 : decode prog_1_method_6_code 37 = .ok (.iload_n 2, 1) := by decide +kernel
theorem dt_0_38 : decode prog_1_method_6_code 38 = .ok (.iload_n 1, 1) := by decide +kernel
theorem dt_0_39 : decode prog_1_method_6_code 39 = .ok (.if_icmp .ge 13, 3) := by decide +kernel
theorem dt_0_42 : decode prog_1_method_6_code 42 = .ok (.aload_n 0, 1) := by decide +kernel
theorem dt_0_43 : decode prog_1_method_6_code 43 = .ok (.invokevirtual 122, 3) := by decide +kernel
theorem dt_0_46 : decode prog_1_method_6_code 46 = .ok (.iinc 2 1, 3) := by decide +kernel
theorem dt_0_49 : decode prog_1_method_6_code 49 = .ok (.goto (-12), 3) := by decide +kernel
set_option maxRecDepth 100000 in
theorem x_tick {l : Launch} {D : va_G} {B : Nat} {h : Nat → Nat} {cI cZ cJ : ClassId} (hfl : l.flags = flags0) : ck_cx l D vN (tyN cI cZ cJ) B (wN cI cZ h) (xN B h) h fbG gbG y_0_tick (Cond.code y_0_tick prog_1_method_6_code 3 (some .int) :: kk_W) { frames := 6, cells := 1, slots := 6, locals := 128 } q_tick :=
  ck_methodX2 hfl p_0_tick (gl_0, pl_0, arN, [((false, 122), q_g56), ((false, 122), q_g60)], [], [], [], [], thN) 1 [(37, [(0, .inr (.inl (false, [0]))), (1, .inl (1, 5000)), (2, .inl (0, 0))], [], [(0, (0, 1), false), (3, (0, 12), true)])] 80 (by decide) rfl xN_ok d_0_tick (by decide) rfl (fun p e s m args below meth c A Q C => ⟨hgl_0 C C.2.2.2.2.2.2.2.1.1, hpl_0 C C.2.2.2.2.2.2.2.1.1, harG C, List.forall_mem_cons.mpr ⟨ck_callV C (c_g56) (cwV 0 C.1.2.2.2.2 (kk_gV kw_552 kw_554 ks_15 kw_1 kw_555) rfl rfl rfl (by decide +kernel) ⟨Nat.le_of_ble_eq_true rfl, Nat.le_of_ble_eq_true rfl⟩) rfl (fun f g H hP => va_recv C.2.2.2.1 hP (ci := 0) (q0 := 0) rfl rfl), List.forall_mem_cons.mpr ⟨ck_callV C (c_g60) (cwV 0 C.1.2.2.2.2 (kk_gV kw_552 kw_554 ks_15 kw_1 kw_555) rfl rfl rfl (by decide +kernel) ⟨Nat.le_of_ble_eq_true rfl, Nat.le_of_ble_eq_true rfl⟩) rfl (fun f g H hP => va_recv C.2.2.2.1 hP (ci := 0) (q0 := 0) rfl rfl), fun _ h => absurd h List.not_mem_nil⟩⟩, fun _ h => absurd h List.not_mem_nil, fun _ h => absurd h List.not_mem_nil, fun _ h => absurd h List.not_mem_nil, fun _ h => absurd h List.not_mem_nil⟩) (List.forall_mem_cons.mpr ⟨⟨["java/lang/RuntimeException", "java/lang/Exception"], by decide +kernel, by decide +kernel, ⟨List.mem_cons_of_mem _ kw_396, List.mem_cons_of_mem _ kw_13⟩, xN_thr th_66, tf_66, ⟨by decide, by decide⟩⟩, List.forall_mem_cons.mpr ⟨⟨["java/lang/RuntimeException", "java/lang/Exception"], by decide +kernel, by decide +kernel, ⟨List.mem_cons_of_mem _ kw_468, List.mem_cons_of_mem _ kw_14⟩, xN_thr th_73, tf_73, ⟨by decide, by decide⟩⟩, List.forall_mem_cons.mpr ⟨⟨["java/lang/RuntimeException", "java/lang/Exception"], by decide +kernel, by decide +kernel, ⟨List.mem_cons_of_mem _ kw_500, List.mem_cons_of_mem _ kw_15⟩, xN_thr th_86, tf_86, ⟨by decide, by decide⟩⟩, List.forall_mem_cons.mpr ⟨⟨["java/lang/RuntimeException", "java/lang/Exception"], by decide +kernel, by decide +kernel, ⟨List.mem_cons_of_mem _ kw_712, List.mem_cons_of_mem _ kw_17⟩, xN_thr th_218, tf_218, ⟨by decide, by decide⟩⟩, fun _ h => absurd h List.not_mem_nil⟩⟩⟩⟩) xN_four ⟨Nat.le_refl _, Nat.le_refl _⟩ (by decide +kernel)
    (fun p e s m args below meth c A Q f0 C K => List.forall_mem_cons.mpr ⟨by
      refine ck_loop (ix := 0) (hd := 37) (ex := 52) K.1 K.2.1 (by decide) dt_0_37 dt_0_38 dt_0_39 (by decide) dt_0_42 dt_0_46 dt_0_49 (by decide) ?_ (ck_run_ok K (cuts := []) (fun _ h => absurd h List.not_mem_nil) 20 _ (by decide +kernel))
      intro f g H locs ls hsz hI hT hP hD hS kk
      have h0 : ck_in (0, 1) (f 0) := hI.1 0
      have h3 : ck_in (0, 12) (f 3) := hI.1 3
      have hs : ck_gS h [.inr (.inl (false, [0]))] [.ref (h 0)] := ⟨Or.inr ⟨0, List.mem_cons_self, rfl⟩, trivial⟩
      by_cases hc : (f 3).toInt ≤ 11
      · exact K.2.2.2.2.2.2.1 ((false, 122), q_g56) List.mem_cons_self f g H locs _ ls [] [.ref (h 0)] hI (List.forall_mem_cons.mpr ⟨h0, List.forall_mem_cons.mpr ⟨⟨h3.1, hc⟩, fun _ h => absurd h List.not_mem_nil⟩⟩) hP hD hS hs hsz (by decide) dt_0_43 (fun o ho r f1 g1 H1 locs1 hr hI1 hT1 hP1 hD1 hS1 => by
          revert hr hT1
          revert o
          refine List.forall_mem_cons.mpr ⟨?_, List.forall_mem_cons.mpr ⟨?_, fun _ h => absurd h List.not_mem_nil⟩⟩
          · intro hr hT1
            have hr : r = none := hr
            subst hr
            exact kk f1 g1 H1 locs1 hI1 (ck_leT_ok (by decide) (ck_cb_ok hI1.1 hT1 hT)) hP1 hD1 hS1
          · intro hr hT1
            have hr : r = none := hr
            subst hr
            exact kk f1 g1 H1 locs1 hI1 (ck_leT_ok (by decide) (ck_cb_ok hI1.1 hT1 hT)) hP1 hD1 hS1)
      · have h9 : (f 3).toInt ≤ 12 := h3.2
        exact K.2.2.2.2.2.2.1 ((false, 122), q_g60) (List.mem_cons_of_mem _ List.mem_cons_self) f g H locs _ ls [] [.ref (h 0)] hI (List.forall_mem_cons.mpr ⟨h0, List.forall_mem_cons.mpr ⟨⟨by show (12 : Int) ≤ (f 3).toInt; omega, h9⟩, fun _ h => absurd h List.not_mem_nil⟩⟩) hP hD hS hs hsz (by decide) dt_0_43 (fun o ho r f1 g1 H1 locs1 hr hI1 hT1 hP1 hD1 hS1 => by
          revert hr hT1
          revert o
          refine List.forall_mem_cons.mpr ⟨?_, fun _ h => absurd h List.not_mem_nil⟩
          intro hr hT1
          have hr : r = none := hr
          subst hr
          exact kk f1 g1 H1 locs1 hI1 (ck_leT_ok (by decide) (ck_cb_ok hI1.1 hT1 hT)) hP1 hD1 hS1), fun _ h => absurd h List.not_mem_nil⟩)

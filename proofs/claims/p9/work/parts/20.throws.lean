/-! throwing: out of a method of the class, into a handler of the law's -/
/-- how the search through a handler table ends for an object of class th thrown at pc: at h; rows that cover pc name classes that link -/
def zt_R (pl : Platform) (s₀ : State) (d : ClassId) (pc : Nat) (th : ClassId) : List ExceptionTableEntry → Nat → Prop
  | [], _ => False
  | y :: t, h => (covers y pc = false ∧ zt_R pl s₀ d pc th t h) ∨ (covers y pc = true ∧ y.catchType ≠ 0 ∧ ∃ c, s₀.vm.ClassLinks pl d y.catchType c ∧ ((s₀.vm.assignable th c = true ∧ h = y.handlerPc) ∨ (s₀.vm.assignable th c = false ∧ zt_R pl s₀ d pc th t h)))
theorem zt_find {e : Env} {s₀ : State} {f : JFrame} {a : Addr} {cell : Cell} (hobj : ∀ k, cell.vm ≠ .statics k) (hk0 : ∃ k, s₀.vm.classes[cell.cls]? = some k) {h : Nat} :
    ∀ (tbl : List ExceptionTableEntry) (S : State), zt_R e.platform s₀ f.method.cls f.pc cell.cls tbl h → s₀.WarmedH S.vm → S.heap[a]? = some cell →
      ∃ vm', s₀.WarmedH vm' ∧ ∀ (Q : Handler → Pre) (E : CtlPost) (d : Bool) (acts : List Action), wp (findHandler.go f a tbl) Q E e d acts S ↔ Q (.found h) d acts (S.setVm vm') := by
  obtain ⟨k0, hk0⟩ := hk0
  intro tbl
  induction tbl with
  | nil => intro S hR; exact False.elim hR
  | cons y t ih =>
    intro S hR hW hcell
    rcases hR with ⟨hc, hR⟩ | ⟨hc, h0, c, hl, hR⟩
    · obtain ⟨vm', h1, h2⟩ := ih S hR hW hcell
      exact ⟨vm', h1, fun Q E d acts => (W.findHandler_go_skip hc).trans (h2 Q E d acts)⟩
    · obtain ⟨dk, _, _, kt, hd, _, _, _, _, hkt, _, hopen⟩ := hl.here
      have hW1 : s₀.WarmedH (S.vm.noted f.method.cls y.catchType (.cls c)) := hW.noted hd hopen (State.rightAt_cls hl)
      obtain ⟨ha, ht⟩ := (resolveClass_links e.toSetting (hW.classLinks hl)).op (op := VmOp.resolveClass f.method.cls y.catchType) rfl
      obtain ⟨k1, hk1, -⟩ := hW1.alike.2.2 _ _ hk0
      obtain ⟨k2, hk2, -⟩ := hW1.alike.2.2 _ _ hkt
      simp only [covers] at hc
      rcases hR with ⟨hf, rfl⟩ | ⟨hf, hR⟩
      · refine ⟨_, hW1, fun Q E d acts => ?_⟩
        have hf' : (S.vm.noted f.method.cls y.catchType (.cls c)).assignable cell.cls c = true := by rw [hW1.alike.assignable]; exact hf
        simp [findHandler.go, hc, h0, ha, ht, hcell, hobj, hk1, hk2, hf', VmOp.dirties, VmOp.acts]
      · obtain ⟨vm', h1, h2⟩ := ih (S.setVm (S.vm.noted f.method.cls y.catchType (.cls c))) hR hW1 hcell
        refine ⟨vm', h1, fun Q E d acts => Iff.trans ?_ (h2 Q E d acts)⟩
        have hf' : (S.vm.noted f.method.cls y.catchType (.cls c)).assignable cell.cls c = false := by rw [hW1.alike.assignable]; exact hf
        simp [findHandler.go, hc, h0, ha, ht, hcell, hobj, hk1, hk2, hf', VmOp.dirties, VmOp.acts]
section ZT
variable {p : Program} {l : Launch} {e : Env} {R : Room} {s : State} {m : MethodId} {args : Array Value} {below : List Frame} {meth : Method} {c : Code} {T : State} {H : Heap} {locs : List Loc} {cells slots : Nat} {Q : State → Prop}
/-- a note laid over this method's frame goes into its handler -/
theorem zt_caught (X : Stand p l e R s m args below meth c T locs cells slots) {a : Addr} {g : JFrame} (hg : g.method = m) {cell : Cell} (hcell : T.heap[a]? = some cell) (hobj : cell.vm.isStatics = false) (hk0 : ∃ k, s.vm.classes[cell.cls]? = some k) {h : Nat}
    (hR : zt_R e.platform s m.cls g.pc cell.cls c.exceptionTable.toList h) :
    ∃ vm', Stand p l e R s m args below meth c (T.setVm vm') locs cells slots ∧ ∀ target, Steps p.tables e below ((T.setVm vm').setTop { g with pc := h, stack := [.ref a] }) target → Steps p.tables e below ((T.setTop g).pushFrame (.throwing a)) target := by
  subst hg
  obtain ⟨vm', hW', hq⟩ := zt_find (e := e) (f := g) (a := a) (VmData.ne_statics_of hobj) hk0 c.exceptionTable.toList ((T.setTop g).pushFrame (.throwing a)) hR X.warmed hcell
  refine ⟨vm', X.noted hW', fun target hrest => ?_⟩
  obtain ⟨hgo, hw⟩ := X.here.throwing (g := g) a
  obtain ⟨g₀, hg0⟩ := Option.isSome_iff_exists.mp X.here.top
  obtain ⟨r, hr⟩ := State.topJava?_eq_some.mp hg0
  have hstep : (stepThrowing e ((T.setTop g).pushFrame (.throwing a)) a (.java g :: T.frames.tail)).1 = (((T.setTop g).pushFrame (.throwing a)).setVm vm').setFrames (.java { g with pc := h, stack := [.ref a] } :: T.frames.tail) := by
    simp only [stepThrowing, searchFrame, vmDo]
    generalize hrs : Sem.go _ e false [] ((T.setTop g).pushFrame (.throwing a)) = res
    obtain ⟨as, rfl, ha⟩ := Sem.eq_ok_of hrs (a := Handler.found h) (s' := ((T.setTop g).pushFrame (.throwing a)).setVm vm') (acts' := []) (by
      have hm : ((T.setTop g).pushFrame (.throwing a)).vm.method? g.method = some meth := X.method'
      simp [W.findHandler_eq hm X.code, hq])
    rfl
  refine Steps.head hgo hw ?_
  rw [stepThread_throwing (frames_entered X.here.top _), hstep]
  have hr' : (T.setVm vm').frames = .java g₀ :: r := hr
  rw [State.setTop_of_frames _ hr'] at hrest
  have e1 : (((T.setTop g).pushFrame (.throwing a)).setVm vm').setFrames (.java { g with pc := h, stack := [.ref a] } :: T.frames.tail) = (T.setVm vm').setFrames (.java { g with pc := h, stack := [.ref a] } :: r) := by
    rw [hr, List.tail_cons, State.pushFrame, State.setTop_of_frames _ hr, State.setFrames_setFrames]
    show ((T.setVm vm').setFrames _).setFrames _ = _
    rw [State.setFrames_setFrames]
  rw [e1]
  exact hrest
/-- the same frame, as if its method had been called just now -/
theorem zt_now (X : Stand p l e R s m args below meth c T locs cells slots) {R' : Room} (hf : R'.frames ≤ R.frames) (hl : R'.locals ≤ R.locals) (hc : cells + R'.cells ≤ R.cells) (hs : slots + R'.slots ≤ R.slots) :
    Stand p l e R' ((T.setVm s.vm).setFrames (.invoking m args :: below)) m args below meth c T [] 0 0 := by
  have htop : (T.setVm s.vm).topJava?.isSome := X.here.top
  have hF : ((T.setVm s.vm).setFrames (.invoking m args :: below)).frames = .invoking m args :: below := State.frames_setFrames _ (State.cur_lt_of_top htop)
  obtain ⟨g₀, hg0⟩ := Option.isSome_iff_exists.mp htop
  obtain ⟨r, hr⟩ := State.topJava?_eq_some.mp hg0
  obtain ⟨t, ht, -⟩ := State.frames_cons hr
  refine { admits := X.admits, cas := X.cas, clock := X.clock, frames := hF, room := ?_, hears := X.hears, method := X.method, code := X.code, here := X.here, tail := X.tail, warmed := X.warmed, limits := ?_, bytes := ?_, same := ?_ }
  · have h := X.room
    have hU : ((T.setVm s.vm).setFrames (.invoking m args :: below)).localsInUse = s.localsInUse := by
      rw [State.localsInUse_invoking hF (meth := meth) (c := c) X.method X.code, State.localsInUse_invoking X.frames X.method X.code]
    have hl9 : e.platform.stackLimits (T.setVm s.vm).me = e.platform.stackLimits s.me := X.limits
    have hb9 : (T.setVm s.vm).me.stackBytes = s.me.stackBytes := X.bytes
    have q1 := X.heapSize
    have q2 := X.used
    have q3 : ((T.setVm s.vm).setFrames (.invoking m args :: below)).heap = T.heap := rfl
    have q4 : ((T.setVm s.vm).setFrames (.invoking m args :: below)).slotsUsed = T.slotsUsed := rfl
    have q5 : ((T.setVm s.vm).setFrames (.invoking m args :: below)).slotsTrue = true := X.book
    simp only [State.hasRoom, Bool.and_eq_true, decide_eq_true_eq] at h ⊢
    rw [X.frames, List.length_cons] at h
    simp only [hF, hU, List.length_cons, State.stackLimits_setFrames, State.stackBytes_setFrames, hl9, hb9, q3, q4]
    refine ⟨⟨⟨⟨by omega, by omega, by omega, by omega, by omega, h.1.1.1.2.2.2.2.2⟩, by omega⟩, by omega⟩, q5⟩
  · rw [State.stackLimits_setFrames]; rfl
  · rw [State.stackBytes_setFrames]; rfl
  · have hd : ((T.heap.toList.drop T.heap.size).map (·.slots.size)).sum = 0 := by
      rw [List.drop_eq_nil_of_le (Nat.le_of_eq Array.length_toList)]; rfl
    refine ⟨?_, Nat.le_refl _, Nat.le_refl _, ?_, ?_, fun a c9 h9 => ⟨c9, h9, rfl, rfl, fun _ _ => rfl⟩⟩
    · show T.setVm s.vm = { ((T.setVm s.vm).setFrames (.invoking m args :: below)).setFrames (T.setVm s.vm).frames with heap := T.heap, slotsUsed := T.slotsUsed }
      rw [State.setFrames_setFrames, State.setFrames_self ht]
      rfl
    · show T.slotsUsed = T.slotsUsed + ((T.heap.toList.drop T.heap.size).map (·.slots.size)).sum
      rw [hd]; rfl
    · show ((T.heap.toList.drop T.heap.size).map (·.slots.size)).sum ≤ 0
      rw [hd]; exact Nat.le_refl _
end ZT
/-! contracts of methods that may throw -/
def zz_QX (D : va_G) (cl : List vw_C) (tys : List (ClassId × FieldType)) (w : zz_F → zz_G → va_W) (A : Nat → Prop) (post : Option Value → zz_F → zz_G → Prop) (px : String → zz_F → zz_G → Prop) : Array Value → State → Outcome → State → Prop := fun a st o t =>
  (zz_Q D cl tys w A post a st o t ∧ ∃ L, FrameEnd st o t L 1 6 ∧ ∀ q ∈ L, A q.base) ∨
  ∃ (q : Addr) (E : String) (ce : Cell) (L : List Loc) (f : zz_F) (g : zz_G), o = .threw q ∧ px E f g ∧ zz_o D cl tys w A f g t ∧ va_F A st t ∧ t.heap[q]? = some ce ∧ ce.vm = .none ∧ st.vm.findClass E = some ce.cls ∧ st.WarmedH t.vm ∧ st.sameButNew ({ t with vm := st.vm } : State) L 1 6 ∧ ∀ z ∈ L, A z.base
def zz_cx (l : Launch) (D : va_G) (cl : List vw_C) (tys : List (ClassId × FieldType)) (B : Nat) (w : zz_F → zz_G → va_W) (X : State → Heap → Prop) (f : zz_F) (g : zz_G) (sz : Nat) (y : MethodName) (ws : List Cond) (rm : Room) (av : List Value) (post : Option Value → zz_F → zz_G → Prop) (px : String → zz_F → zz_G → Prop) : Prop :=
  MetFree l y (headSpec ws rm) (va_Pc av (zz_p D cl tys B (w f g) X sz)) (fun _ _ _ _ _ => True) (zz_QX D cl tys w (va_A (w f g) sz) post px)
def zz_MX (below : List Frame) (QX : Array Value → State → Outcome → State → Prop) (a : Array Value) (s : State) : State → Prop := fun t => ∃ o, t.status = .running ∧ Ended t below o ∧ QX a s o t
section ZX
variable {p : Program} {l : Launch} {e : Env} {R : Room} {s : State} {m : MethodId} {args : Array Value} {below : List Frame} {meth : Method} {c : Code} {H : Heap} {locs : List Loc} {Q : State → Prop}
variable {D : va_G} {cl : List vw_C} {tys : List (ClassId × FieldType)} {B : Nat} {w : zz_F → zz_G → va_W} {X : State → Heap → Prop} {f : zz_F} {g : zz_G} {A : Nat → Prop}
variable {cc : ByteArray} {nL : Nat} {ret : Option FieldType} {Ts : List Cond} {own : String} {pc : Nat} {ls : Array Slot} {rest st0 : List Value} {post : Option Value → zz_F → zz_G → Prop} {px : String → zz_F → zz_G → Prop}
theorem zx_of {y : MethodName} {ws ws' : List Cond} {rm : Room} {av : List Value} {maxL sz : Nat} (hfl : l.flags = flags0) (hy : plainName y.cls = true) (hw : ws = Cond.code y cc maxL ret :: ws') (hav : (lg_sl av).length ≤ maxL) (hXk : zz_Xok B X)
    (body : ∀ (p : Program) (e : Env) (s : State) (m : MethodId) (below : List Frame) (meth : Method) (c : Code) (A : Nat → Prop) (ls : Array Slot), zz_Cx p m meth c cc maxL ret s av.toArray ws y.cls D cl tys A B X → e.platform.stackTraces = false → (∀ (pc : Nat), ∀ x ∈ c.exceptionTable.toList, covers x pc = false) → va_P D cl (w f g) s.heap → va_D A (w f g) → lv_has ls maxL (lv_args 0 av) →
      W p l e rm s m av.toArray below meth c s.heap [] 0 0 (zz_MX below (zz_QX D cl tys w A post px) av.toArray s) (F0 m 0 ls [])) :
    zz_cx l D cl tys B w X f g sz y ws rm av post px := by
  refine MetFree.of_bodyS (code := cc) (maxLocals := maxL) (ret := ret) hy ?_ ?_
  · intro args s m h hn
    obtain ⟨meth, c, h1, h2, h3, h4, h5, h6, -, -⟩ := Cond.code_spec hn (atoms_spec (ws := ws) h _ (by rw [hw]; exact List.mem_cons_self))
    exact ⟨meth, c, h1, h2, h3, h4, h5, h6⟩
  · intro p e s m args below meth c s₁ Bd hml hv _
    obtain ⟨rfl, hsz, hP, hK, hD0, hB0, hX⟩ := hv
    subst hsz
    have hts := atoms_spec (ws := ws) Bd.pre
    have hne : c.exceptionTable.isEmpty = true := Bd.noHandlers (hts _ (by rw [hw]; exact List.mem_cons_self))
    have hl := lv_entry av (n := maxL) hav
    have hh0 : s₁.heap = s.heap := by rw [Bd.state]; rfl
    have K := body p e s m below meth c (va_A (w f g) s.heap.size) _ ⟨⟨Bd.exec, Bd.bytes, hml, findClass_of_methodNamed Bd.named, hts⟩, Bd.returns, Bd.notSynchronized, hK, fun q h => Or.inr h, fun q h => by
      rcases h with ⟨k, e, h⟩ | h
      · exact hD0.2 k (q, e) h
      · exact Nat.le_trans hB0 h, hB0, hX, hXk⟩ (Jvm.D.Launch.traces_off hfl Bd.admits) (fun pc => covers_of_empty hne pc) hP hD0.self hl
    rw [← lg_entry_eq] at K
    obtain ⟨t, a1, o, b1, b2, b3⟩ := K s₁ hh0 (Stand.of_body Bd)
    exact ⟨t, o, a1, b1, b2, b3⟩
/-- ends that return -/
theorem zx_ret {gf : JFrame} (k : W p l e R s m args below meth c H locs 1 6 (MQ below (zz_Q D cl tys w A post) args s 1 6 A) gf) : W p l e R s m args below meth c H locs 0 0 (zz_MX below (zz_QX D cl tys w A post px) args s) gf := by
  refine W.widen (k := 1) (n := 6) (by omega) (by omega) ?_
  intro T hT Y
  obtain ⟨t, a1, o, b1, b2, b3, b4⟩ := k T hT Y
  exact ⟨t, a1, o, b1, b2, Or.inl ⟨b3, b4⟩⟩
def zt_four : List Cond := [.laysStatic "java/lang/Throwable" "UNASSIGNED_STACK" "[Ljava/lang/StackTraceElement;", .laysStatic "java/lang/Throwable" "SUPPRESSED_SENTINEL" "Ljava/util/List;", .isRef (.static "java/lang/Throwable" "UNASSIGNED_STACK" "[Ljava/lang/StackTraceElement;"), .isRef (.static "java/lang/Throwable" "SUPPRESSED_SENTINEL" "Ljava/util/List;")]
set_option maxHeartbeats 2000000 in
/-- 'throw new E()' -/
theorem zt_throw {cls : String} {names : List String} {ik ic : Nat} (C : zz_Cx p m meth c cc nL ret s args Ts own D cl tys A B X) (htr : e.platform.stackTraces = false) (hout : ∀ (pc : Nat), ∀ x ∈ c.exceptionTable.toList, covers x pc = false)
    (hcls : Bundle.fit cls = true) (hnames : ∀ n ∈ names, Bundle.fit n = true) (hk : (Cond.classLink own ik cls).before args s = true) (hini : (Cond.initialized cls).before args s = true)
    (hat : ∀ w ∈ Bundle.ownAtoms0 own ic cls names, w.onTables = true → w.before args s = true) (h4 : ∀ w ∈ Bundle.ownAtoms0 own ic cls names, w.onTables = true ∨ w ∈ zt_four)
    (hst : ∀ (U : State), X U U.heap → ∀ w ∈ zt_four, ∀ a : Array Value, w.before a U = true)
    (hP : va_P D cl (w f g) H) (hD : va_D A (w f g)) (hS : va_S A s.heap H locs) (hq : px cls f g) (hsize : ls.size = nL) (hwt : (rest.map fun v => v.category).sum ≤ 8)
    (d0 : decode cc pc = .ok (.new ik, 3)) (d3 : decode cc (pc + 3) = .ok (.dup, 1)) (d4 : decode cc (pc + 4) = .ok (.invokespecial ic, 3)) (d7 : decode cc (pc + 7) = .ok (.athrow, 1))
    (hRf : names.length + 3 < R.frames) (hRl : 13 * (names.length + 1) + 50 ≤ R.locals) (hRc : 1 ≤ R.cells) (hRs : 6 ≤ R.slots) :
    W p l e R s m args below meth c H locs 0 0 (zz_MX below (zz_QX D cl tys w A post px) args s) (F0 m pc ls rest) := by
  intro T hT Y0
  obtain ⟨⟨hx, hb, hml, hown, -⟩, -, hlocks, hK, hA, hBA, hB0, hX, hXk⟩ := C
  have Y := zt_now Y0 (R' := { frames := R.frames, locals := R.locals, cells := 1, slots := 6 }) (Nat.le_refl _) (Nat.le_refl _) (by omega) (by omega)
  generalize hs' : (T.setVm s.vm).setFrames (.invoking m args :: below) = s' at Y
  have hvm : s.vm = s'.vm := by rw [← hs']; rfl
  have hhp : s'.heap = H := by rw [← hs']; exact hT
  have hW0 : s.WarmedH s'.vm := by rw [← hvm]; exact State.WarmedH.refl s
  have hX' : X s' s'.heap := by
    rw [hhp]
    exact hXk s s' s.heap H hW0 hX (fun a h1 h2 => hS.2.1 a h1 (fun h => absurd (hBA a h) (Nat.not_le.mpr h2)))
  have hall : ∀ z ∈ Bundle.ownAtoms0 own ic cls names, z.before args s' = true := fun z hz => by
    rcases h4 z hz with h | h
    · exact va_tabs h hvm (hat z hz h)
    · exact hst s' hX' z h args
  have hown' : s'.vm.findClass own = some m.cls := by rw [← hvm]; exact hown
  have hk' : (Cond.classLink own ik cls).before args s' = true := va_tabs rfl hvm hk
  have hini' : (Cond.initialized cls).before args s' = true := va_tabs rfl hvm hini
  have hins : (Cond.instantiable cls 6).before args s' = true := hall _ (by simp [Bundle.ownAtoms0])
  obtain ⟨vm₁, cX, kX, hfX, hkX, -, -, Y1, st1⟩ := Y.newCold hx (own := own) (C := cls) (index := ik) (n := 6) hown' hk' hins hini' (g := F0 m pc ls rest) rfl (by rw [hb]; exact d0) (Nat.le_refl _) (Nat.le_refl _)
  generalize hT1 : (T.setVm vm₁).pushCell { cls := cX, slots := kX.instanceTypes.map defaultValue, vm := .none } = T1 at Y1 st1
  have hcellA : T1.heap[T.heap.size]? = some (freshCell cX kX) := by rw [← hT1]; exact State.heap_pushCell_size _ _
  have d3' : decode c.code (pc + 3) = .ok (.dup, 1) := by rw [hb]; exact d3
  have hcat : (Value.ref T.heap.size).category = 1 := rfl
  obtain ⟨U, hsteps, hrun, hend, hW, hsame, ce, hce, hO⟩ := Y1.ctorThrow0 hx htr (own := own) (cls := cls) (names := names) (ic := ic) hown' hcls hnames hall (fun x hx => nomatch hx) hfX hkX hcellA (by rw [hhp, hT]; exact Nat.le_refl _)
    (g := { method := m, pc := pc + 4, locals := ls, stack := .ref T.heap.size :: .ref T.heap.size :: rest, locked := none }) rfl (hsize.trans hml.symm) rfl rfl (rest := rest) rfl
    (by rw [hb]; exact d4) (by rw [hb]; exact d7) (hout _) hRf (by simp only [List.map_cons, List.sum_cons, hcat]; omega) hlocks
  have hkeep : H.size ≤ U.heap.size ∧ ∀ q : Nat, q < H.size → U.heap[q]? = H[q]? := by
    obtain ⟨-, h2, -, -, -, h6⟩ := id hsame
    rw [hhp] at h2
    refine ⟨h2, fun q hq => ?_⟩
    have hq0 : H[q]? = some H[q] := Array.getElem?_eq_getElem hq
    obtain ⟨c9, e1, e2, -, e4⟩ := h6 q H[q] (by rw [hhp]; exact hq0)
    have hs9 : c9.slots = (H[q]).slots := Array.ext_getElem? fun i => e4 i (fun hm => nomatch hm)
    have e5 : U.heap[q]? = some c9 := e1
    rw [hs9] at e2
    rw [e5, e2, hq0]
  have hWs : s.WarmedH U.vm := State.WarmedH.trans hW0 hW
  have hcl : s.vm.findClass cls = some ce.cls := by rw [hvm]; exact hO.cls
  have hnew : s.sameButNew ({ U with vm := s.vm } : State) locs 1 6 := by
    subst hs'
    obtain ⟨e1, e2⟩ := hsame
    rw [State.setFrames_setFrames] at e1
    have h2 : (T.setVm s.vm).sameButNew ({ U with vm := s.vm } : State) [] (0 + 1) (0 + 6) := ⟨e1, e2⟩
    have h3 := Y0.same.trans h2
    rw [List.append_nil] at h3
    exact h3
  refine ⟨U, ?_, .threw T.heap.size, hrun, hend, Or.inr ⟨T.heap.size, cls, ce, locs, f, g, rfl, hq, ⟨fun k q hk => (hP k q hk).kept (hkeep.2 q.1 (hP k q hk).lt), va_K.moved hWs.alike hK, hD⟩, ⟨Nat.le_trans hS.1 hkeep.1, fun q h1 h2 => by rw [hkeep.2 q (Nat.lt_of_lt_of_le h1 hS.1)]; exact hS.2.1 q h1 h2⟩, hce, hO.vm, hcl, hWs, hnew, hS.2.2⟩⟩
  refine st1 _ ?_
  show Steps p.tables e below (T1.setTop { method := m, pc := pc + 3, locals := ls, stack := .ref T.heap.size :: rest, locked := none }) _
  jvm_step Y1.here [Y1.here.top, hx, d3', Value.category]
  exact hsteps
end ZX
theorem xN_four {B : Nat} {h : Nat → Nat} : ∀ (U : State), xN B h U U.heap → ∀ w ∈ zt_four, ∀ a : Array Value, w.before a U = true := by
  intro U hX
  obtain ⟨-, -, -, h6, h7⟩ := hX
  exact List.forall_mem_cons.mpr ⟨fun a => h6.lays, List.forall_mem_cons.mpr ⟨fun a => h7.lays, List.forall_mem_cons.mpr ⟨fun a => h6.isRef, List.forall_mem_cons.mpr ⟨fun a => h7.isRef, fun _ h => absurd h List.not_mem_nil⟩⟩⟩⟩

/-! pictures: the numbers of a world's fields (f), the numbers in its arrays (g); worlds as functions of them -/
abbrev zz_F : Type := Nat → Int32
abbrev zz_G : Type := Nat → Nat → Int32
def zz_v (g : zz_G) (k : Nat) (r : Nat → Int32) : zz_G := fun j => if j = k then r else g j
/-- what a contract may carry beside the world: it outlives warmer tables, and every change of cells from B on -/
def zz_Xok (B : Nat) (X : State → Heap → Prop) : Prop := ∀ (s U : State) (H H1 : Heap), s.WarmedH U.vm → X s H → (∀ a : Nat, a < H.size → a < B → H1[a]? = H[a]?) → X U H1
def zz_p (D : va_G) (cl : List vw_C) (tys : List (ClassId × FieldType)) (B : Nat) (w : va_W) (X : State → Heap → Prop) (sz : Nat) : State → Prop := fun U =>
  U.heap.size = sz ∧ va_P D cl w U.heap ∧ va_K D cl tys U ∧ va_D (fun q => B ≤ q) w ∧ B ≤ sz ∧ X U U.heap
def zz_o (D : va_G) (cl : List vw_C) (tys : List (ClassId × FieldType)) (w : zz_F → zz_G → va_W) (A : Nat → Prop) (f : zz_F) (g : zz_G) (t : State) : Prop :=
  va_P D cl (w f g) t.heap ∧ va_K D cl tys t ∧ va_D A (w f g)
def zz_Q (D : va_G) (cl : List vw_C) (tys : List (ClassId × FieldType)) (w : zz_F → zz_G → va_W) (A : Nat → Prop) (post : Option Value → zz_F → zz_G → Prop) : Array Value → State → Outcome → State → Prop := fun _ st oc t =>
  (∃ (r : Option Value) (f : zz_F) (g : zz_G), oc = .returned r ∧ post r f g ∧ zz_o D cl tys w A f g t) ∧ va_F A st t
/-- a contract over a world: it comes back, with 'post', the world's cells again there, nothing else changed -/
def zz_c (l : Launch) (D : va_G) (cl : List vw_C) (tys : List (ClassId × FieldType)) (B : Nat) (w : zz_F → zz_G → va_W) (X : State → Heap → Prop) (f : zz_F) (g : zz_G) (sz : Nat) (y : MethodName) (ws : List Cond) (rm : Room) (mc ms : Nat) (av : List Value) (post : Option Value → zz_F → zz_G → Prop) : Prop :=
  Met l y ws rm (va_Pc av (zz_p D cl tys B (w f g) X sz)) (zz_Q D cl tys w (va_A (w f g) sz) post) mc ms (va_A (w f g) sz)
theorem zz_join {A0 : Nat → Prop} {D : va_G} {cl : List vw_C} {wr wc w1 : va_W} {H H1 : Heap} (hP : va_P D cl (wr ++ wc) H) (hD : va_D A0 (wr ++ wc))
    (hk : ∀ q : Nat, q < H.size → ¬ va_A wc H.size q → H1[q]? = H[q]?) (hF : ∀ q, va_A wc H.size q → A0 q) (hP1 : va_P D cl w1 H1) (hD1 : va_D (va_A wc H.size) w1) : va_P D cl (wr ++ w1) H1 ∧ va_D A0 (wr ++ w1) := by
  have hl : ∀ (k : Nat) (q : Nat × va_E), wr[k]? = some q → (wr ++ wc)[k]? = some q := fun k q h => by
    rw [List.getElem?_append_left (List.getElem?_eq_some_iff.mp h).1]; exact h
  have hrr : ∀ (k : Nat) (q : Nat × va_E), wc[k]? = some q → (wr ++ wc)[wr.length + k]? = some q := fun k q h => by
    rw [List.getElem?_append_right (Nat.le_add_right _ _), Nat.add_sub_cancel_left]; exact h
  have apart : ∀ (k : Nat) (q : Nat × va_E), wr[k]? = some q → q.1 < H.size ∧ ¬ va_A wc H.size q.1 := by
    intro k q h
    have hlt := (hP k q (hl k q h)).lt
    refine ⟨hlt, fun hA => ?_⟩
    rcases hA with ⟨j, e, hj⟩ | hA
    · have h1 := hD.1 _ _ q (q.1, e) (hl k q h) (hrr j _ hj) rfl
      have h2 := (List.getElem?_eq_some_iff.mp h).1
      omega
    · omega
  refine ⟨va_P.app (fun k q h => (hP k q (hl k q h)).kept (hk q.1 (apart k q h).1 (apart k q h).2)) hP1, va_D.app ⟨fun i j p q hi hj e => hD.1 i j p q (hl i p hi) (hl j q hj) e, fun k q h => hD.2 k q (hl k q h)⟩ (hD1.weaken (fun k q _ h => hF q.1 h)) (fun i j x y hx hy e => (apart i x hx).2 (by rw [e]; exact hD1.2 j y hy))⟩
theorem zz_right {A0 : Nat → Prop} {D : va_G} {cl : List vw_C} {wr wc : va_W} {H : Heap} (hP : va_P D cl (wr ++ wc) H) (hD : va_D A0 (wr ++ wc)) : va_P D cl wc H ∧ va_D A0 wc := by
  have hrr : ∀ (k : Nat) (q : Nat × va_E), wc[k]? = some q → (wr ++ wc)[wr.length + k]? = some q := fun k q h => by
    rw [List.getElem?_append_right (Nat.le_add_right _ _), Nat.add_sub_cancel_left]; exact h
  exact ⟨fun k q h => hP _ q (hrr k q h), fun i j p q hi hj e => by have h1 := hD.1 _ _ p q (hrr i p hi) (hrr j q hj) e; omega, fun k q h => hD.2 _ q (hrr k q h)⟩
theorem zz_blind {D : va_G} {cl : List vw_C} {tys : List (ClassId × FieldType)} {B : Nat} {w : va_W} {X : State → Heap → Prop} {sz : Nat} {av : List Value} (hXk : zz_Xok B X) : FrameBlind (va_Pc av (zz_p D cl tys B w X sz)) := by
  intro a U g mk q
  obtain ⟨q0, q1, qP, qK, qD, qB, qX⟩ := q
  exact ⟨q0, q1, qP, va_K.moved (u := U) (U := U.calling g mk a) (Vm.Alike.refl U.vm) qK, qD, qB, hXk U (U.calling g mk a) U.heap _ (State.WarmedH.refl U) qX (fun _ _ _ => rfl)⟩
/-- what a walk knows all along -/
def zz_Cx (p : Program) (m : MethodId) (meth : Method) (c : Code) (cc : ByteArray) (nL : Nat) (ret : Option FieldType) (s : State) (args : Array Value) (Ts : List Cond) (own : String) (D : va_G) (cl : List vw_C) (tys : List (ClassId × FieldType)) (A : Nat → Prop) (B : Nat) (X : State → Heap → Prop) : Prop :=
  CallFix p m c cc nL s args Ts own ∧ meth.sig.returnType = ret ∧ meth.locks = false ∧ va_K D cl tys s ∧ (∀ q, s.heap.size ≤ q → A q) ∧ (∀ q, A q → B ≤ q) ∧ B ≤ s.heap.size ∧ X s s.heap ∧ zz_Xok B X
section ZZ
variable {p : Program} {l : Launch} {e : Env} {R : Room} {s : State} {m : MethodId} {args : Array Value} {below : List Frame} {meth : Method} {c : Code} {H : Heap} {locs : List Loc} {cells slots : Nat} {Q : State → Prop}
variable {D : va_G} {cl : List vw_C} {tys : List (ClassId × FieldType)} {B : Nat} {w : zz_F → zz_G → va_W} {X : State → Heap → Prop} {f : zz_F} {g : zz_G} {A : Nat → Prop}
variable {cc : ByteArray} {nL : Nat} {ret : Option FieldType} {Ts : List Cond} {own : String} {pc : Nat} {ls : Array Slot} {rest st0 : List Value} {mc ms : Nat}
/-- a method's walk gives its contract -/
theorem zz_of {y : MethodName} {ws ws' : List Cond} {rm : Room} {av : List Value} {maxL sz : Nat} {post : Option Value → zz_F → zz_G → Prop} (hy : plainName y.cls = true) (hw : ws = Cond.code y cc maxL ret :: ws') (hav : (lg_sl av).length ≤ maxL) (hXk : zz_Xok B X)
    (body : ∀ (p : Program) (e : Env) (s : State) (m : MethodId) (below : List Frame) (meth : Method) (c : Code) (A : Nat → Prop) (ls : Array Slot), zz_Cx p m meth c cc maxL ret s av.toArray ws y.cls D cl tys A B X → (y.name = "<init>" → meth.name = "<init>") → va_P D cl (w f g) s.heap → va_D A (w f g) → lv_has ls maxL (lv_args 0 av) →
      W p l e rm s m av.toArray below meth c s.heap [] 0 0 (MQ below (zz_Q D cl tys w A post) av.toArray s mc ms A) (F0 m 0 ls [])) :
    zz_c l D cl tys B w X f g sz y ws rm mc ms av post := by
  refine Met.ofW (cc := cc) (maxL := maxL) (ret := ret) hy hw ?_
  intro p e s m args below meth c s₁ Bd hml hv
  obtain ⟨rfl, hsz, hP, hK, hD0, hB0, hX⟩ := hv
  subst hsz
  have hl := lv_entry av (n := maxL) hav
  rw [lg_entry_eq]
  refine body p e s m below meth c (va_A (w f g) s.heap.size) _ ⟨⟨Bd.exec, Bd.bytes, hml, findClass_of_methodNamed Bd.named, atoms_spec (ws := ws) Bd.pre⟩, Bd.returns, Bd.notSynchronized, hK, fun q h => Or.inr h, fun q h => ?_, hB0, hX, hXk⟩ (fun h => by rw [← h]; exact (name_of_methodNamed Bd.named Bd.method).1) hP (hD0.self) hl
  rcases h with ⟨k, e, h⟩ | h
  · exact hD0.2 k (q, e) h
  · exact Nat.le_trans hB0 h
/-- a call of a method that has a contract over the world, the other cells wr beside it -/
theorem zz_go {post : Option Value → zz_F → zz_G → Prop} {wr : va_W} {H0 : Heap} {a : Array Value} (hr : va_Run p l e R s m args below meth c H locs cells slots mc ms (F0 m pc ls st0) rest (zz_Q D cl tys w (va_A (w f g) H.size) post a) (va_A (w f g) H.size))
    (hP : va_P D cl (wr ++ w f g) H) (hD : va_D A (wr ++ w f g)) (hS : va_S A H0 H locs) (hA : ∀ q, H0.size ≤ q → A q)
    (kk : ∀ (r : Option Value) (f1 : zz_F) (g1 : zz_G) (H1 : Heap) (locs1 : List Loc), post r f1 g1 → va_P D cl (wr ++ w f1 g1) H1 → va_D A (wr ++ w f1 g1) → va_S A H0 H1 locs1 → W p l e R s m args below meth c H1 locs1 (cells + mc) (slots + ms) Q (F0 m (pc + 3) ls (r.toList ++ rest))) :
    W p l e R s m args below meth c H locs cells slots Q (F0 m pc ls st0) := by
  intro T hT X
  obtain ⟨v, st₀, t, T', L, h0, X', hL, e1, e2, ⟨⟨r, u1, u2, hv, hp, hP1, hK1, hD1⟩, hz, hk⟩, st⟩ := hr T hT X
  cases hv
  rw [h0] at hz hk
  have hF : ∀ q, va_A (w f g) H.size q → A q := by
    intro q h
    rcases h with ⟨k, e, h⟩ | h
    · exact (zz_right hP hD).2.2 k (q, e) h
    · exact hA q (Nat.le_trans hS.1 h)
  obtain ⟨hP2, hD2⟩ := zz_join (H1 := T'.heap) hP hD (fun q h1 h2 => by rw [e1]; exact hk q h1 h2) hF (by rw [e1]; exact hP1) hD1
  obtain ⟨t2, a1, b1⟩ := kk v u1 u2 T'.heap (locs ++ L) hp hP2 hD2 ⟨Nat.le_trans hS.1 (by rw [e1]; exact hz), fun q h1 h2 => by rw [e1, hk q (Nat.lt_of_lt_of_le h1 hS.1) (fun z => h2 (hF q z))]; exact hS.2.1 q h1 h2, fun q hq => by
    rcases List.mem_append.mp hq with h | h
    · exact hS.2.2 q h
    · exact hF _ (hL q h)⟩ T' rfl X'
  exact ⟨t2, st t2 a1, b1⟩
theorem zz_pre {wr : va_W} {av : List Value} (C : zz_Cx p m meth c cc nL ret s args Ts own D cl tys A B X) (hP : va_P D cl (wr ++ w f g) H) (hD : va_D A (wr ++ w f g)) (hS : va_S A s.heap H locs) :
    ∀ U : State, U.heap = H → s.WarmedH U.vm → va_Pc av (zz_p D cl tys B (w f g) X H.size) av.toArray U := by
  obtain ⟨-, -, -, hK, hA, hBA, hB0, hX, hXk⟩ := C
  intro U hU hW
  obtain ⟨hP1, hD1⟩ := zz_right hP hD
  exact ⟨rfl, by rw [hU], by rw [hU]; exact hP1, va_K.moved hW.alike hK, hD1.weaken (fun _ q _ h => hBA q.1 h), Nat.le_trans hB0 hS.1, by rw [hU]; exact hXk s U s.heap H hW hX (fun a h1 h2 => hS.2.1 a h1 (fun h => absurd (hBA a h) (Nat.not_le.mpr h2)))⟩
theorem zz_callV {y : MethodName} {bytes : ByteArray} {maxL n index : Nat} {ret2 : Option FieldType} {ws : List Cond} {rm : Room} {Cn : String} {b : Addr} {As : List Value} {post : Option Value → zz_F → zz_G → Prop} (wr : va_W)
    (C : zz_Cx p m meth c cc nL ret s args Ts own D cl tys A B X) (hM : zz_c l D cl tys B w X f g H.size y ws rm mc ms (.ref b :: As) post) (cw : CallW R s args own Cn index y bytes maxL ret2 ws rm mc ms n)
    (hrc : ∃ cellB : Cell, H[b]? = some cellB ∧ cellB.vm.isStatics = false ∧ s.vm.findClass Cn = some cellB.cls)
    (hP : va_P D cl (wr ++ w f g) H) (hD : va_D A (wr ++ w f g)) (hS : va_S A s.heap H locs) (hn : As.length = n) (hsize : ls.size = nL) (hstack : st0 = As.reverse ++ .ref b :: rest) (hW : (rest.map fun v => v.category).sum ≤ 8) (hdg : decode cc pc = .ok (.invokevirtual index, 3)) (hf : cells + mc ≤ R.cells ∧ slots + ms ≤ R.slots)
    (kk : ∀ (r : Option Value) (f1 : zz_F) (g1 : zz_G) (H1 : Heap) (locs1 : List Loc), post r f1 g1 → va_P D cl (wr ++ w f1 g1) H1 → va_D A (wr ++ w f1 g1) → va_S A s.heap H1 locs1 → W p l e R s m args below meth c H1 locs1 (cells + mc) (slots + ms) Q (F0 m (pc + 3) ls (r.toList ++ rest))) :
    W p l e R s m args below meth c H locs cells slots Q (F0 m pc ls st0) :=
  zz_go (va_runV C.1 hM cw ⟨zz_blind C.2.2.2.2.2.2.2.2, hrc, zz_pre C hP hD hS⟩ rfl hn hsize hstack (lv_room hW) hdg hf) hP hD hS C.2.2.2.2.1 kk
/-- .. that answers a number, makes nothing -/
theorem zz_callVi {y : MethodName} {bytes : ByteArray} {maxL n index : Nat} {ret2 : Option FieldType} {ws : List Cond} {rm : Room} {Cn : String} {b : Addr} {As : List Value} {post : Int32 → zz_F → zz_G → Prop} (wr : va_W)
    (C : zz_Cx p m meth c cc nL ret s args Ts own D cl tys A B X) (hM : zz_c l D cl tys B w X f g H.size y ws rm 0 0 (.ref b :: As) (fun r f1 g1 => ∃ v : Int32, r = some (.int v) ∧ post v f1 g1)) (cw : CallW R s args own Cn index y bytes maxL ret2 ws rm 0 0 n)
    (hrc : ∃ cellB : Cell, H[b]? = some cellB ∧ cellB.vm.isStatics = false ∧ s.vm.findClass Cn = some cellB.cls)
    (hP : va_P D cl (wr ++ w f g) H) (hD : va_D A (wr ++ w f g)) (hS : va_S A s.heap H locs) (hn : As.length = n) (hsize : ls.size = nL) (hstack : st0 = As.reverse ++ .ref b :: rest) (hW : (rest.map fun v => v.category).sum ≤ 8) (hdg : decode cc pc = .ok (.invokevirtual index, 3)) (hf : cells ≤ R.cells ∧ slots ≤ R.slots)
    (kk : ∀ (r : Int32) (f1 : zz_F) (g1 : zz_G) (H1 : Heap) (locs1 : List Loc), post r f1 g1 → va_P D cl (wr ++ w f1 g1) H1 → va_D A (wr ++ w f1 g1) → va_S A s.heap H1 locs1 → W p l e R s m args below meth c H1 locs1 cells slots Q (F0 m (pc + 3) ls (.int r :: rest))) :
    W p l e R s m args below meth c H locs cells slots Q (F0 m pc ls st0) :=
  zz_callV wr C hM cw hrc hP hD hS hn hsize hstack hW hdg hf (fun r f1 g1 H1 locs1 hp h1 h2 h3 => by obtain ⟨v, rfl, hp⟩ := hp; exact kk v f1 g1 H1 locs1 hp h1 h2 h3)
/-- .. that answers nothing, makes nothing -/
theorem zz_callVv {y : MethodName} {bytes : ByteArray} {maxL n index : Nat} {ret2 : Option FieldType} {ws : List Cond} {rm : Room} {Cn : String} {b : Addr} {As : List Value} {post : zz_F → zz_G → Prop} (wr : va_W)
    (C : zz_Cx p m meth c cc nL ret s args Ts own D cl tys A B X) (hM : zz_c l D cl tys B w X f g H.size y ws rm 0 0 (.ref b :: As) (fun r f1 g1 => r = none ∧ post f1 g1)) (cw : CallW R s args own Cn index y bytes maxL ret2 ws rm 0 0 n)
    (hrc : ∃ cellB : Cell, H[b]? = some cellB ∧ cellB.vm.isStatics = false ∧ s.vm.findClass Cn = some cellB.cls)
    (hP : va_P D cl (wr ++ w f g) H) (hD : va_D A (wr ++ w f g)) (hS : va_S A s.heap H locs) (hn : As.length = n) (hsize : ls.size = nL) (hstack : st0 = As.reverse ++ .ref b :: rest) (hW : (rest.map fun v => v.category).sum ≤ 8) (hdg : decode cc pc = .ok (.invokevirtual index, 3)) (hf : cells ≤ R.cells ∧ slots ≤ R.slots)
    (kk : ∀ (f1 : zz_F) (g1 : zz_G) (H1 : Heap) (locs1 : List Loc), post f1 g1 → va_P D cl (wr ++ w f1 g1) H1 → va_D A (wr ++ w f1 g1) → va_S A s.heap H1 locs1 → W p l e R s m args below meth c H1 locs1 cells slots Q (F0 m (pc + 3) ls rest)) :
    W p l e R s m args below meth c H locs cells slots Q (F0 m pc ls st0) :=
  zz_callV wr C hM cw hrc hP hD hS hn hsize hstack hW hdg hf (fun r f1 g1 H1 locs1 hp h1 h2 h3 => by obtain ⟨rfl, hp⟩ := hp; exact kk f1 g1 H1 locs1 hp h1 h2 h3)
/-- ends -/
theorem zz_end {post : Option Value → zz_F → zz_G → Prop} {r : Option Value} (C : zz_Cx p m meth c cc nL ret s args Ts own D cl tys A B X) (hP : va_P D cl (w f g) H) (hD : va_D A (w f g)) (hS : va_S A s.heap H locs) (hq : post r f g) :
    ∀ t : State, t.heap = H → s.WarmedH t.vm → zz_Q D cl tys w A post args s (.returned r) t := fun t ht hW =>
  ⟨⟨r, f, g, rfl, hq, by rw [ht]; exact hP, va_K.moved hW.alike C.2.2.2.1, hD⟩, hS.F ht⟩
theorem zz_reti {post : Option Value → zz_F → zz_G → Prop} {v : Int32} {ty : FieldType} (C : zz_Cx p m meth c cc nL (some ty) s args Ts own D cl tys A B X) (hn : narrow ty (.int v) = .int v) (hP : va_P D cl (w f g) H) (hD : va_D A (w f g)) (hS : va_S A s.heap H locs) (hq : post (some (.int v)) f g) (hdg : decode cc pc = .ok (.ireturn, 1)) :
    W p l e R s m args below meth c H locs cells slots (MQ below (zz_Q D cl tys w A post) args s cells slots A) (F0 m pc ls [.int v]) :=
  W.zret C.1.1 C.1.2.1 C.2.1 hn (zz_end C hP hD hS hq) hS.2.2 hdg C.2.2.1
theorem zz_retv {post : Option Value → zz_F → zz_G → Prop} (C : zz_Cx p m meth c cc nL none s args Ts own D cl tys A B X) (hP : va_P D cl (w f g) H) (hD : va_D A (w f g)) (hS : va_S A s.heap H locs) (hq : post none f g) (hdg : decode cc pc = .ok (.return_, 1)) :
    W p l e R s m args below meth c H locs cells slots (MQ below (zz_Q D cl tys w A post) args s cells slots A) (F0 m pc ls []) :=
  W.vret C.1.1 C.1.2.1 C.2.1 (zz_end C hP hD hS hq) hS.2.2 hdg C.2.2.1
end ZZ

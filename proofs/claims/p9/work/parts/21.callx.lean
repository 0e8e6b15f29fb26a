/-! a call of a method that may throw, from a method with handlers -/
section ZXC
variable {p : Program} {l : Launch} {e : Env} {R : Room} {s : State} {m : MethodId} {args : Array Value} {below : List Frame} {meth : Method} {c : Code} {H : Heap} {locs : List Loc} {cells slots : Nat} {Q : State → Prop}
variable {D : va_G} {cl : List vw_C} {tys : List (ClassId × FieldType)} {B : Nat} {w : zz_F → zz_G → va_W} {X : State → Heap → Prop} {f : zz_F} {g : zz_G} {A : Nat → Prop}
variable {cc : ByteArray} {nL : Nat} {ret : Option FieldType} {Ts : List Cond} {own : String} {pc : Nat} {ls : Array Slot} {rest st0 : List Value} {post : Option Value → zz_F → zz_G → Prop} {px : String → zz_F → zz_G → Prop}
set_option maxHeartbeats 2000000 in
/-- the callee comes back or throws: the point behind it -/
theorem zx_run {y : MethodName} {ws : List Cond} {rm : Room} {bytes : ByteArray} {maxL : Nat} {ret2 : Option FieldType} {U : State} {mk : MethodId} {a : Array Value} {av : List Value} {gf : JFrame} {ig : Instr}
    (hM : zz_cx l D cl tys B w X f g U.heap.size y ws rm av post px) (Y : Stand p l e R s m args below meth c U locs cells slots) (hg : gf.method = m) (hsize : gf.locals.size = c.maxLocals) (hdg : decode c.code gf.pc = .ok (ig, 3))
    (hW : 2 * gf.monitorRoom + (gf.stack.map fun v => v.category).sum ≤ 8) (hn : U.methodNamed? y = some mk) (hav : a = av.toArray) (hp : va_Pc av (zz_p D cl tys B (w f g) X U.heap.size) a (U.calling gf mk a))
    (hws : ∀ z ∈ ws, z.before a U = true) (hcode : (Cond.code y bytes maxL ret2).before a U = true) (hini : (Cond.initialized y.cls).before a U = true) (hfr : rm.frames + 1 ≤ R.frames) (hlo : 8 + (maxL + 11) + rm.locals ≤ R.locals) (hce : cells + rm.cells ≤ R.cells) (hsl : slots + rm.slots ≤ R.slots) (hr1 : rm.cells = 1) (hr2 : rm.slots = 6) :
    (∃ (r : Option Value) (f1 : zz_F) (g1 : zz_G) (T' : State) (L : List Loc), Stand p l e R s m args below meth c T' (locs ++ L) (cells + 1) (slots + 6) ∧ (∀ q ∈ L, va_A (w f g) U.heap.size q.base) ∧ post r f1 g1 ∧ zz_o D cl tys w (va_A (w f g) U.heap.size) f1 g1 T' ∧ va_F (va_A (w f g) U.heap.size) U T' ∧
      Steps p.tables e below (doInvoke e (U.setTop gf) [] mk a).1 (T'.setTop { gf with pc := gf.pc + 3, stack := r.toList ++ gf.stack })) ∨
    (∃ (q : Addr) (E : String) (ce : Cell) (f1 : zz_F) (g1 : zz_G) (T' : State) (L : List Loc), Stand p l e R s m args below meth c T' (locs ++ L) (cells + 1) (slots + 6) ∧ (∀ q ∈ L, va_A (w f g) U.heap.size q.base) ∧ px E f1 g1 ∧ zz_o D cl tys w (va_A (w f g) U.heap.size) f1 g1 T' ∧ va_F (va_A (w f g) U.heap.size) U T' ∧ T'.heap[q]? = some ce ∧ ce.vm = .none ∧ U.vm.findClass E = some ce.cls ∧
      Steps p.tables e below (doInvoke e (U.setTop gf) [] mk a).1 ((T'.setTop gf).pushFrame (.throwing q))) := by
  obtain ⟨methY, cY, hmY, hcY, -, hlY, -, -, -, -⟩ := Cond.code_spec hn hcode
  obtain ⟨kY, hkY, -⟩ := className_of_methodNamed hn
  have hinitY : kY.init = .initialized := Cond.initialized_spec (findClass_of_methodNamed hn) hkY hini
  have hat : At U gf.method c below := by rw [hg]; exact Y.here
  have happ : (headSpec ws rm).appliesLoose y e.platform (U.calling gf mk a) = true :=
    Spec.appliesLoose_calling (g := gf) hat hdg hn hkY hinitY (Y.room_calling (g := gf) (R' := rm) hsize hmY hcY hfr (by rw [hlY]; omega) hce hsl) (atoms_intro hws)
  obtain ⟨mid, hmid⟩ := hat.above
  have hfrm : (U.setTop gf).frames = (.java gf :: mid) ++ below := by rw [State.frames_setTop' gf hat.top, hmid]; rfl
  obtain ⟨o, s₂, hsteps, -, hend, hq⟩ := Steps.callFree hM p Y.admits Y.cas Y.clock (acts := []) hfrm happ hp trivial
  have hq : zz_QX D cl tys w (va_A (w f g) U.heap.size) post px a (U.calling gf mk a) o s₂ := hq
  rw [State.frames_setTop' gf hat.top] at hend
  obtain ⟨g₀, hg0⟩ := Option.isSome_iff_exists.mp hat.top
  obtain ⟨r0, hr0⟩ := State.topJava?_eq_some.mp hg0
  have hgo : ∀ (L : List Loc), (U.calling gf mk a).WarmedH s₂.vm → (U.calling gf mk a).sameButNew ({ s₂ with vm := (U.calling gf mk a).vm } : State) L 1 6 →
      Stand p l e R s m args below meth c (({ U with heap := s₂.heap, slotsUsed := s₂.slotsUsed } : State).setVm s₂.vm) (locs ++ L) (cells + 1) (slots + 6) ∧
      s₂ = (({ U with heap := s₂.heap, slotsUsed := s₂.slotsUsed } : State).setVm s₂.vm).setFrames s₂.frames := by
    intro L hW2 hsm
    obtain ⟨e2, q2, q3, q4, q5, q6⟩ := hsm
    have hW' : U.WarmedH s₂.vm := hW2
    have hsame : U.sameButNew ({ U with heap := s₂.heap, slotsUsed := s₂.slotsUsed } : State) L 1 6 := by
      refine ⟨?_, q2, q3, q4, q5, q6⟩
      obtain ⟨t, ht, -⟩ := State.frames_cons hr0
      show ({ U with heap := s₂.heap, slotsUsed := s₂.slotsUsed } : State) = { U.setFrames U.frames with heap := s₂.heap, slotsUsed := s₂.slotsUsed }
      rw [State.setFrames_self ht]
    refine ⟨⟨Y.admits, Y.cas, Y.clock, Y.frames, Y.room, Y.hears, Y.method, Y.code, (Y.here.setHeapUsed s₂.heap s₂.slotsUsed).setVm hW'.alike, Y.tail, State.WarmedH.trans Y.warmed hW', Y.limits, Y.bytes, Y.same.trans (hsame.setVm s.vm)⟩, ?_⟩
    have e3 : s₂ = ({ (U.calling gf mk a).setFrames s₂.frames with heap := s₂.heap, slotsUsed := s₂.slotsUsed } : State).setVm s₂.vm := by
      have h9 : s₂ = ({ s₂ with vm := (U.calling gf mk a).vm } : State).setVm s₂.vm := rfl
      rw [e2] at h9
      exact h9
    refine e3.trans ?_
    rw [State.calling_eq hat.top, State.setFrames_setFrames]
    rfl
  have hrx : ∀ (V : Heap) (k : Nat) (vm : Vm), (({ U with heap := V, slotsUsed := k } : State).setVm vm).frames = .java g₀ :: r0 := fun _ _ _ => hr0
  rcases hq with ⟨⟨⟨r, f1, g1, rfl, hpo, ho⟩, hF⟩, L, ⟨-, hW2, hsm⟩, hL⟩ | ⟨q, E, ce, L, f1, g1, rfl, hpo, ho, hF, hce1, hcv, hcl, hW2, hsm, hL⟩
  · obtain ⟨hst, hs2⟩ := hgo L hW2 hsm
    obtain ⟨c₂, i₂, len₂, hc₂, hd₂, hf₂⟩ := hend
    have hW' : U.WarmedH s₂.vm := hW2
    have hcc : c₂ = c := by
      have h1 : s₂.code? gf.method = U.code? gf.method := by rw [State.code?_eq, State.code?_eq, hW'.alike.method?]
      exact Option.some.inj (hc₂.symm.trans (h1.trans hat.code))
    subst hcc
    have hlen : len₂ = 3 := by rw [hdg] at hd₂; cases hd₂; rfl
    subst hlen
    refine Or.inl ⟨r, f1, g1, _, L, hst, hL, hpo, ho, hF, ?_⟩
    have hfx : s₂.frames = .java { gf with pc := gf.pc + 3, stack := r.toList ++ gf.stack } :: r0 := by rw [hf₂, hr0]; rfl
    rw [State.setTop_of_frames _ (hrx _ _ _), ← hfx, ← hs2]
    exact hsteps
  · obtain ⟨hst, hs2⟩ := hgo L hW2 hsm
    have hf₂ : s₂.frames = .throwing q :: .java gf :: U.frames.tail := hend
    have hfx : s₂.frames = .throwing q :: .java gf :: r0 := by rw [hf₂, hr0]; rfl
    refine Or.inr ⟨q, E, ce, f1, g1, _, L, hst, hL, hpo, ho, hF, hce1, hcv, hcl, ?_⟩
    rw [State.pushFrame, State.frames_setTop _ (hrx _ _ _), State.setTop_of_frames _ (hrx _ _ _), State.setFrames_setFrames, ← hfx, ← hs2]
    exact hsteps
end ZXC
/-! from a checked method that may throw to its contract -/
def ck_cx (l : Launch) (D : va_G) (cl : List vw_C) (tys : List (ClassId × FieldType)) (B : Nat) (w : zz_F → zz_G → va_W) (X : State → Heap → Prop) (h : Nat → Nat) (fb : Nat → Int × Int) (gb : Nat → Nat → Int × Int) (y : MethodName) (ws : List Cond) (rm : Room) (q : (List ck_V × ck_T) × List ck_O) : Prop :=
  ∀ (f : zz_F) (g : zz_G) (sz : Nat) (vs : List Value), ck_gI fb gb f g → (∀ z ∈ q.1.2, ck_in z.2.1 (f z.1)) → ck_gS h q.1.1 vs →
    zz_cx l D cl tys B w X f g sz y ws rm vs (fun r f1 g1 => ∃ o ∈ q.2, ck_gO h o.1 r ∧ ck_gI fb gb f1 g1 ∧ ck_gT f f1 o.2) (fun E f1 g1 => ∃ o ∈ q.2, o.1 = .inr E ∧ ck_gI fb gb f1 g1 ∧ ck_gT f f1 o.2)
theorem ck_methodX {l : Launch} {D : va_G} {cl : List vw_C} {tys : List (ClassId × FieldType)} {B : Nat} {w : zz_F → zz_G → va_W} {X : State → Heap → Prop} {h : Nat → Nat} {fb : Nat → Int × Int} {gb : Nat → Nat → Int × Int} {y : MethodName} {ws ws' : List Cond} {rm : Room} {q : (List ck_V × ck_T) × List ck_O} {cc : ByteArray} {nL : Nat} {ret : Option FieldType}
    (hfl : l.flags = flags0) (P : ck_P) (E : ck_E) (rt : Nat) (cuts : List ck_S) (n : Nat) (hy : plainName y.cls = true) (hw : ws = Cond.code y cc nL ret :: ws') (hXk : zz_Xok B X)
    (hP : ∀ q ∈ P, ∀ z ∈ q.2, decode cc z.1 = .ok z.2) (h1 : q.1.1.all ck_one = true ∧ q.1.1.length ≤ nL) (hr : ck_rty rt ret)
    (hE : ∀ (p : Program) (e : Env) (s : State) (m : MethodId) (args : Array Value) (below : List Frame) (meth : Method) (c : Code) (A : Nat → Prop) (Q : State → Prop), zz_Cx p m meth c cc nL ret s args ws y.cls D cl tys A B X →
      (∀ z ∈ E.1, ck_oGet p l e rm s m args below meth c D cl A w h nL Q fb gb cc z) ∧ (∀ z ∈ E.2.1, ck_oPut p l e rm s m args below meth c D cl A w h nL Q fb gb cc z) ∧ (∀ z ∈ E.2.2.1, ck_oAld p l e rm s m args below meth c D cl A w h nL Q fb gb cc z ∧ (z.2.1 < 100 → ck_oAst p l e rm s m args below meth c D cl A w h nL Q fb gb cc z)) ∧ (∀ z ∈ E.2.2.2.1, ck_oCall p l e rm s m args below meth c D cl A w h nL Q fb gb cc z) ∧ (∀ z ∈ E.2.2.2.2.1, ck_oMath p l e rm s m args below meth c D cl A w h nL Q fb gb cc z) ∧ (∀ z ∈ E.2.2.2.2.2.1, ck_oLdc p l e rm s m args below meth c D cl A w h nL Q fb gb cc z) ∧ (∀ z ∈ E.2.2.2.2.2.2.1, ck_oSta p l e rm s m args below meth c D cl A w h nL Q fb gb cc z) ∧ (∀ z ∈ E.2.2.2.2.2.2.2.1, ck_oLdl p l e rm s m args below meth c D cl A w h nL Q fb gb cc z))
    (hTh : ∀ z ∈ E.2.2.2.2.2.2.2.2, ∃ names : List String, Bundle.fit z.2.2 = true ∧ (∀ n ∈ names, Bundle.fit n = true) ∧ (Cond.classLink y.cls z.1 z.2.2 ∈ ws ∧ Cond.initialized z.2.2 ∈ ws) ∧
      (∀ (s : State) (args : Array Value), X s s.heap → (∀ v ∈ ws, v.before args s = true) → ∀ v ∈ Bundle.ownAtoms0 y.cls z.2.1 z.2.2 names, v.onTables = true → v.before args s = true) ∧ (∀ v ∈ Bundle.ownAtoms0 y.cls z.2.1 z.2.2 names, v.onTables = true ∨ v ∈ zt_four) ∧ (names.length + 3 < rm.frames ∧ 13 * (names.length + 1) + 50 ≤ rm.locals))
    (hst : ∀ (U : State), X U U.heap → ∀ v ∈ zt_four, ∀ a : Array Value, v.before a U = true) (hR : 1 ≤ rm.cells ∧ 6 ≤ rm.slots)
    (hall : ck_all P E nL fb gb q.2 rt n (ck_in0 q.1 :: cuts) = true) : ck_cx l D cl tys B w X h fb gb y ws rm q := by
  intro f g sz vs hI hT hs
  refine zx_of (cc := cc) (ret := ret) (maxL := nL) hfl hy hw (by rw [ck_sl h1.1 hs]; exact h1.2) hXk ?_
  intro p e s m below meth c A ls C htr hout hP1 hD1 hl
  have hx := C.1.1
  have hb := C.1.2.1
  generalize hpo : (fun (r : Option Value) (f1 : zz_F) (g1 : zz_G) => ∃ o ∈ q.2, ck_gO h o.1 r ∧ ck_gI fb gb f1 g1 ∧ ck_gT f f1 o.2) = po
  generalize hpx : (fun (E : String) (f1 : zz_F) (g1 : zz_G) => ∃ o ∈ q.2, o.1 = .inr E ∧ ck_gI fb gb f1 g1 ∧ ck_gT f f1 o.2) = px
  obtain ⟨e1, e2, e3, e4, e5, e6, e7, e8⟩ := hE p e s m vs.toArray below meth c A (zz_MX below (zz_QX D cl tys w A po px) vs.toArray s) C
  have K : ck_Ok p l e rm s m vs.toArray below meth c D cl A w h nL (zz_MX below (zz_QX D cl tys w A po px) vs.toArray s) fb gb cc f P E q.2 rt := by
    refine ⟨hx, hb, fun a b ⟨q, hq, hz⟩ => hP q hq (a, b) hz, e1, e2, e3, e4, e5, e6, e7, e8, ?_, ?_⟩
    · intro z hz f1 g1 H locs pc ls1 st hI1 ho hP2 hD2 hS2 hsz hwt d0 d3 d4 d7
      obtain ⟨names, t1, t2, ⟨t3, t3'⟩, t4, t5, t6⟩ := hTh z hz
      obtain ⟨o, ho, he, hT1⟩ := ho
      have hq : px z.2.2 f1 g1 := by rw [← hpx]; exact ⟨o, ho, he, hI1, hT1⟩
      exact zt_throw (names := names) C htr hout t1 t2 (C.1.2.2.2.2 _ t3) (C.1.2.2.2.2 _ t3') (t4 s vs.toArray C.2.2.2.2.2.2.2.1 C.1.2.2.2.2) t5 hst hP2 hD2 hS2 hq hsz hwt d0 d3 d4 d7 t6.1 t6.2 hR.1 hR.2
    · intro f1 g1 H locs pc ls1 r hI1 ho hP2 hD2 hS2 hret
      obtain ⟨o, ho, hg, hT1⟩ := ho
      have hq : po r f1 g1 := by rw [← hpo]; exact ⟨o, ho, hg, hI1, hT1⟩
      refine zx_ret ?_
      rcases hret with ⟨x, rfl, hd, hbool⟩ | ⟨v, rfl, hv, hd, h9⟩ | ⟨rfl, hd, h9⟩
      · rcases hbool with h9 | ⟨h9, b1, b2⟩
        · rw [h9] at hr
          have hr : ret = some .int := hr
          subst hr
          exact zz_reti C (vp_nar_int x) hP2 hD2 hS2 hq hd
        · rw [h9] at hr
          have hr : ret = some .boolean := hr
          subst hr
          exact zz_reti C (ck_bnn ⟨b1, b2⟩) hP2 hD2 hS2 hq hd
      · rw [h9] at hr
        have hr : ret = some (.array .int) := hr
        subst hr
        exact W.aret hx hb C.2.1 (Or.inr ⟨_, rfl⟩) hv (zz_end C hP2 hD2 hS2 hq) hS2.2.2 hd C.2.2.1
      · rw [h9] at hr
        have hr : ret = none := hr
        subst hr
        exact zz_retv C hP2 hD2 hS2 hq hd
  have hG := ck_all_ok K hall _ List.mem_cons_self
  exact hG f g s.heap [] ls [] hI (fun z hz => by
    obtain ⟨u, hu, rfl⟩ := List.mem_map.mp hz
    exact ⟨hT u hu, fun _ => rfl⟩) hP1 hD1 va_S.rf ⟨_, hl, ck_args_ok h1.1 hs⟩ trivial
/-- the throw's words out of the tables' good ones and the others -/
theorem xN_thr {B : Nat} {h : Nat → Nat} {cx : Cond} {L : List Cond} (hL : ∀ v ∈ L, v.onTables = true → (v ∈ lw_tbl ∧ goodWord v = true) ∨ v ∈ xn_W) : ∀ (s : State) (args : Array Value), xN B h s s.heap → (∀ v ∈ cx :: kk_W, v.before args s = true) → ∀ v ∈ L, v.onTables = true → v.before args s = true := by
  intro s args hX hts v hv ho
  rcases hL v hv ho with ⟨h1, h2⟩ | h1
  · exact hts v (List.mem_cons_of_mem _ (List.mem_filter.mpr ⟨h1, h2⟩))
  · exact va_Nw.use ho (hX.1 v h1)

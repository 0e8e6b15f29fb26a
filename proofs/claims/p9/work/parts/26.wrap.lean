/-! the law's wrappers: a call that may throw, caught -/
theorem zt_hit {pl : Platform} (hpl : pl.magicAccessors = ({} : Platform).magicAccessors) {s : State} {args : Array Value} {own E name : String} {d th : ClassId} {pc : Nat} {y : ExceptionTableEntry} {t : List ExceptionTableEntry} (hown : s.vm.findClass own = some d) (hc : covers y pc = true) (h0 : y.catchType ≠ 0)
    (hl : (Cond.classLink own y.catchType name).before args s = true) (hca : (Cond.castable E name).before args s = true) (hE : s.vm.findClass E = some th) : zt_R pl s d pc th (y :: t) y.handlerPc := by
  obtain ⟨c, hc1, hcl⟩ := Cond.classLink_spec hown hl pl hpl
  obtain ⟨a, b, h1, h2, h3⟩ := Cond.castable_spec hca
  cases Option.some.inj (h1.symm.trans hE)
  cases Option.some.inj (h2.symm.trans hc1)
  exact Or.inr ⟨hc, h0, _, hcl, Or.inl ⟨h3, rfl⟩⟩
theorem zt_miss {pl : Platform} (hpl : pl.magicAccessors = ({} : Platform).magicAccessors) {s : State} {args : Array Value} {own E name : String} {d th : ClassId} {pc h : Nat} {y : ExceptionTableEntry} {t : List ExceptionTableEntry} (hown : s.vm.findClass own = some d) (hc : covers y pc = true) (h0 : y.catchType ≠ 0)
    (hl : (Cond.classLink own y.catchType name).before args s = true) (hn : va_Nc E name s) (hE : s.vm.findClass E = some th) (ht : zt_R pl s d pc th t h) : zt_R pl s d pc th (y :: t) h := by
  obtain ⟨c, hc1, hcl⟩ := Cond.classLink_spec hown hl pl hpl
  obtain ⟨a, b, h1, h2, h3⟩ := hn
  cases Option.some.inj (h1.symm.trans hE)
  cases Option.some.inj (h2.symm.trans hc1)
  exact Or.inr ⟨hc, h0, _, hcl, Or.inr ⟨h3, ht⟩⟩
section ZW
variable {p : Program} {l : Launch} {e : Env} {R : Room} {s : State} {m : MethodId} {args : Array Value} {below : List Frame} {meth : Method} {c : Code} {H : Heap} {locs : List Loc} {cells slots : Nat} {Q : State → Prop}
variable {D : va_G} {cl : List vw_C} {tys : List (ClassId × FieldType)} {B : Nat} {w : zz_F → zz_G → va_W} {X X2 : State → Heap → Prop} {f : zz_F} {g : zz_G} {A : Nat → Prop}
variable {cc : ByteArray} {nL : Nat} {ret : Option FieldType} {Ts : List Cond} {own : String} {pc : Nat} {ls : Array Slot} {rest st0 : List Value} {post : Option Value → zz_F → zz_G → Prop} {px : String → zz_F → zz_G → Prop}
set_option maxHeartbeats 2000000 in
theorem zx_callV {y : MethodName} {bytes : ByteArray} {maxL n index : Nat} {ret2 : Option FieldType} {ws : List Cond} {rm : Room} {Cn : String} {b : Addr} {As : List Value} (wr : va_W)
    (C : zz_Cx p m meth c cc nL ret s args Ts own D cl tys A B X) (hXX : ∀ (U : State) (H : Heap), X U H → X2 U H) (hXk2 : zz_Xok B X2) (hM : zz_cx l D cl tys B w X2 f g H.size y ws rm (.ref b :: As) post px) (cw : CallW R s args own Cn index y bytes maxL ret2 ws rm 1 6 n)
    (hrc : ∃ cellB : Cell, H[b]? = some cellB ∧ cellB.vm.isStatics = false ∧ s.vm.findClass Cn = some cellB.cls)
    (hP : va_P D cl (wr ++ w f g) H) (hD : va_D A (wr ++ w f g)) (hS : va_S A s.heap H locs) (hn : As.length = n) (hsize : ls.size = nL) (hstack : st0 = As.reverse ++ .ref b :: rest) (hWt : (rest.map fun v => v.category).sum ≤ 8) (hdg : decode cc pc = .ok (.invokevirtual index, 3)) (hf : cells + 1 ≤ R.cells ∧ slots + 6 ≤ R.slots)
    (kk : ∀ (r : Option Value) (f1 : zz_F) (g1 : zz_G) (H1 : Heap) (locs1 : List Loc), post r f1 g1 → va_P D cl (wr ++ w f1 g1) H1 → va_D A (wr ++ w f1 g1) → va_S A s.heap H1 locs1 → W p l e R s m args below meth c H1 locs1 (cells + 1) (slots + 6) Q (F0 m (pc + 3) ls (r.toList ++ rest)))
    (kx : e.platform.magicAccessors = ({} : Platform).magicAccessors → ∀ (E : String) (q : Addr) (th : ClassId) (f1 : zz_F) (g1 : zz_G) (H1 : Heap) (locs1 : List Loc), px E f1 g1 → va_P D cl (wr ++ w f1 g1) H1 → va_D A (wr ++ w f1 g1) → va_S A s.heap H1 locs1 → s.vm.findClass E = some th →
      ∃ h, zt_R e.platform s m.cls pc th c.exceptionTable.toList h ∧ W p l e R s m args below meth c H1 locs1 (cells + 1) (slots + 6) Q (F0 m h ls [.ref q])) :
    W p l e R s m args below meth c H locs cells slots Q (F0 m pc ls st0) := by
  intro T hT Y
  subst hT
  obtain ⟨⟨hrc1, hrs1, hfr, hlo, hws, hcw, hcode, hini, hy, hlen, hlk⟩, hin, hse⟩ := cw
  obtain ⟨hx, hb, hml, ho, hts⟩ := C.1
  obtain ⟨cellB, hcB, hoB, hclB⟩ := hrc
  have hpl : e.platform.magicAccessors = ({} : Platform).magicAccessors := by rw [Y.admits.platform]
  obtain ⟨mk, methM, hnamed, hmethM, hstM, habM⟩ := Cond.instanceMethod_spec hin
  obtain ⟨methM', cM, hmethM', -, -, -, -, -, -, hsigM⟩ := Cond.code_spec hnamed hcode
  cases hmethM.symm.trans hmethM'
  obtain ⟨c2, r2, m2, q1, q2, q3, q4, kP, hkP, hkPi⟩ := Cond.selects_spec hse
  cases hclB.symm.trans q1
  cases (State.methodFound?_of_named hnamed hy).symm.trans q2
  cases hnamed.symm.trans q3
  have hselP : selectMethod e.platform s.vm cellB.cls mk = .method mk := by rw [Launch.admits_selectMethod Y.admits]; exact q4
  obtain ⟨vm₁, Y₁, hstep₁⟩ := Y.invokevirtual hx ho hlk hnamed hmethM hstM hkP hkPi hy (a := b) (cell := cellB) hcB
    (fun z h => by rw [h] at hoB; cases hoB) hselP hmethM habM hkP hkPi (g := F0 m pc ls st0) rfl (argsL := As) (rest := rest) (hn.trans (hlen _ hsigM)) hstack (by rw [hb]; exact hdg)
  have hpre := zz_pre (w := w) (av := .ref b :: As) C hP hD hS (T.setVm vm₁) rfl Y₁.warmed
  obtain ⟨-, w1, w2, w3, w4, w5, w6⟩ := hpre
  have hF : ∀ q, va_A (w f g) T.heap.size q → A q := by
    intro q h
    rcases h with ⟨k, e, h⟩ | h
    · exact (zz_right hP hD).2.2 k (q, e) h
    · exact C.2.2.2.2.1 q (Nat.le_trans hS.1 h)
  have hback : ∀ (T' : State) (L : List Loc) (f1 : zz_F) (g1 : zz_G), (∀ q ∈ L, va_A (w f g) T.heap.size q.base) → zz_o D cl tys w (va_A (w f g) T.heap.size) f1 g1 T' → va_F (va_A (w f g) T.heap.size) (T.setVm vm₁) T' →
      va_P D cl (wr ++ w f1 g1) T'.heap ∧ va_D A (wr ++ w f1 g1) ∧ va_S A s.heap T'.heap (locs ++ L) := by
    intro T' L f1 g1 hL ho hF1
    obtain ⟨hP2, hD2⟩ := zz_join (H1 := T'.heap) hP hD (fun q h1 h2 => hF1.2 q h1 h2) hF ho.1 ho.2.2
    exact ⟨hP2, hD2, Nat.le_trans hS.1 hF1.1, fun q h1 h2 => (hF1.2 q (Nat.lt_of_lt_of_le h1 hS.1) (fun z => h2 (hF q z))).trans (hS.2.1 q h1 h2), fun q hq => by
      rcases List.mem_append.mp hq with h | h
      · exact hS.2.2 q h
      · exact hF _ (hL q h)⟩
  rcases zx_run (U := T.setVm vm₁) (gf := { F0 m pc ls st0 with stack := rest }) (mk := mk) (a := (Value.ref b :: As).toArray) (bytes := bytes) (maxL := maxL) (ret2 := ret2) (ig := .invokevirtual index) hM Y₁ rfl (hsize.trans hml.symm) (by rw [hb]; exact hdg) (lv_room hWt) (Y₁.named hnamed) rfl
      (zz_blind hXk2 _ (T.setVm vm₁) _ mk ⟨rfl, w1, w2, w3, w4, w5, hXX _ _ w6⟩) (fun z hz => hws z hz _ _ Y₁.warmed) (hws _ hcw _ _ Y₁.warmed) (word_at Y₁.warmed (Or.inl rfl) hini) hfr hlo (by rw [hrc1]; exact hf.1) (by rw [hrs1]; exact hf.2) hrc1 hrs1
    with ⟨r, f1, g1, T', L, hst, hL, hpo, ho1, hF1, hsteps⟩ | ⟨q, E, ce, f1, g1, T', L, hst, hL, hpo, ho1, hF1, hce, hcv, hcl, hsteps⟩
  · obtain ⟨h1, h2, h3⟩ := hback T' L f1 g1 hL ho1 hF1
    obtain ⟨t, a1, b1⟩ := kk r f1 g1 T'.heap (locs ++ L) hpo h1 h2 h3 T' rfl hst
    exact ⟨t, hstep₁ _ fun acts => by rw [doInvoke_state]; exact hsteps.trans a1, b1⟩
  · obtain ⟨h1, h2, h3⟩ := hback T' L f1 g1 hL ho1 hF1
    have hclS : s.vm.findClass E = some ce.cls := by
      have h9 : (T.setVm vm₁).vm.findClass E = some ce.cls := hcl
      rw [Y₁.warmed.alike.findClass] at h9
      exact h9
    obtain ⟨hh, hR, kW⟩ := kx hpl E q ce.cls f1 g1 T'.heap (locs ++ L) hpo h1 h2 h3 hclS
    obtain ⟨vm', hst', hcau⟩ := zt_caught hst (a := q) (g := { F0 m pc ls st0 with stack := rest }) rfl hce (by rw [hcv]; rfl) (by obtain ⟨k9, h9, -⟩ := Vm.findClass_spec hclS; exact ⟨k9, h9⟩) hR
    obtain ⟨t, a1, b1⟩ := kW (T'.setVm vm') rfl hst'
    exact ⟨t, hstep₁ _ fun acts => by rw [doInvoke_state]; exact hsteps.trans (hcau t a1), b1⟩
/-- a method with handlers: its walk gives its contract -/
theorem zw_of {y : MethodName} {ws ws' : List Cond} {rm : Room} {av : List Value} {maxL sz mc ms : Nat} {hh : List (Nat × Nat × Nat × Nat)} (hy : plainName y.cls = true) (hw : ws = Cond.codeWith y cc maxL ret hh :: ws') (hav : (lg_sl av).length ≤ maxL) (hXk : zz_Xok B X)
    (body : ∀ (p : Program) (e : Env) (s : State) (m : MethodId) (below : List Frame) (meth : Method) (c : Code) (A : Nat → Prop) (ls : Array Slot), zz_Cx p m meth c cc maxL ret s av.toArray ws y.cls D cl tys A B X → c.exceptionTable.toList = tableOf hh → va_P D cl (w f g) s.heap → va_D A (w f g) → lv_has ls maxL (lv_args 0 av) →
      W p l e rm s m av.toArray below meth c s.heap [] 0 0 (MQ below (zz_Q D cl tys w A post) av.toArray s mc ms A) (F0 m 0 ls [])) :
    zz_c l D cl tys B w X f g sz y ws rm mc ms av post := by
  refine va_MetW (cc := cc) (maxL := maxL) (ret := ret) (hh := hh) hy hw ?_
  intro p e s m args below meth c s₁ Bd hml hv
  obtain ⟨rfl, hsz, hP, hK, hD0, hB0, hX⟩ := hv
  subst hsz
  have hts := atoms_spec (ws := ws) Bd.pre
  have htab : c.exceptionTable.toList = tableOf hh := by
    obtain ⟨m9, meth9, c9, hn9, h1, h2, -, -, h5, -⟩ := Cond.codeWith_spec (hts (Cond.codeWith y cc maxL ret hh) (by rw [hw]; exact List.mem_cons_self))
    cases Option.some.inj (Bd.named.symm.trans hn9)
    cases Option.some.inj (Bd.method.symm.trans h1)
    cases Option.some.inj ((Stand.of_body Bd).code.symm.trans h2)
    rw [← h5, table_eq]
  have hl := lv_entry av (n := maxL) hav
  rw [lg_entry_eq]
  refine body p e s m below meth c (va_A (w f g) s.heap.size) _ ⟨⟨Bd.exec, Bd.bytes, hml, findClass_of_methodNamed Bd.named, hts⟩, Bd.returns, Bd.notSynchronized, hK, fun q h => Or.inr h, fun q h => ?_, hB0, hX, hXk⟩ htab hP (hD0.self) hl
  rcases h with ⟨k, e, h⟩ | h
  · exact hD0.2 k (q, e) h
  · exact Nat.le_trans hB0 h
end ZW

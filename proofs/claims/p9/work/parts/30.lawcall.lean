/-! calls in the law: of its own wrappers (methods with handlers), of the two objects side by side -/
theorem va_P_swap {D : va_G} {cl : List vw_C} {a b : va_W} {H : Heap} (h : va_P D cl (a ++ b) H) : va_P D cl (b ++ a) H := by
  intro k q hk
  rcases List.mem_append.mp (List.mem_of_getElem? hk) with hm | hm
  · obtain ⟨j, hj⟩ := List.getElem?_of_mem hm
    exact h (a.length + j) q (by rw [List.getElem?_append_right (Nat.le_add_right _ _), Nat.add_sub_cancel_left]; exact hj)
  · obtain ⟨j, hj⟩ := List.getElem?_of_mem hm
    exact h j q (by rw [List.getElem?_append_left (List.getElem?_eq_some_iff.mp hj).1]; exact hj)
theorem va_D_swap {A : Nat → Prop} {a b : va_W} (h : va_D A (a ++ b)) : va_D A (b ++ a) := by
  have at' : ∀ (k : Nat) (q : Nat × va_E), (b ++ a)[k]? = some q → ∃ j, (a ++ b)[j]? = some q ∧ ((k < b.length ∧ j = a.length + k) ∨ (b.length ≤ k ∧ j = k - b.length ∧ j < a.length)) := by
    intro k q hk
    by_cases hlt : k < b.length
    · rw [List.getElem?_append_left hlt] at hk
      exact ⟨a.length + k, by rw [List.getElem?_append_right (Nat.le_add_right _ _), Nat.add_sub_cancel_left]; exact hk, Or.inl ⟨hlt, rfl⟩⟩
    · have hge := Nat.not_lt.mp hlt
      rw [List.getElem?_append_right hge] at hk
      have h1 := (List.getElem?_eq_some_iff.mp hk).1
      exact ⟨k - b.length, by rw [List.getElem?_append_left h1]; exact hk, Or.inr ⟨hge, rfl, h1⟩⟩
  refine ⟨fun i j x y hi hj e => ?_, fun k q hk => ?_⟩
  · obtain ⟨i1, h1, c1⟩ := at' i x hi
    obtain ⟨j1, h2, c2⟩ := at' j y hj
    have h3 := h.1 i1 j1 x y h1 h2 e
    omega
  · obtain ⟨j, h1, -⟩ := at' k q hk
    exact h.2 j q h1
section ZS
variable {p : Program} {l : Launch} {e : Env} {R : Room} {s : State} {m : MethodId} {args : Array Value} {below : List Frame} {meth : Method} {c : Code} {H : Heap} {locs : List Loc} {cells slots : Nat} {Q : State → Prop}
variable {D : va_G} {cl : List vw_C} {tys : List (ClassId × FieldType)} {B : Nat} {w : zz_F → zz_G → va_W} {X X2 : State → Heap → Prop} {f : zz_F} {g : zz_G} {A : Nat → Prop}
variable {cc : ByteArray} {nL : Nat} {ret : Option FieldType} {cx : Cond} {own : String} {pc : Nat} {ls : Array Slot} {rest st0 : List Value} {post : Option Value → zz_F → zz_G → Prop}
theorem zz_Cx.to {Ts : List Cond} (C : zz_Cx p m meth c cc nL ret s args Ts own D cl tys A B X) (hXX : X s s.heap → X2 s s.heap) (hk : zz_Xok B X2) : zz_Cx p m meth c cc nL ret s args Ts own D cl tys A B X2 := by
  obtain ⟨a1, a2, a3, a4, a5, a6, a7, a8, -⟩ := C
  exact ⟨a1, a2, a3, a4, a5, a6, a7, hXX a8, hk⟩
set_option maxHeartbeats 2000000 in
theorem zz_callSW {y : MethodName} {bytes : ByteArray} {maxL n index mc ms : Nat} {ret2 : Option FieldType} {hh : List (Nat × Nat × Nat × Nat)} {rm : Room} {As : List Value} (wr : va_W)
    (C : zz_Cx p m meth c cc nL ret s args (cx :: kk_W) own D cl tys A B X) (hM : zz_c l D cl tys B w X f g H.size y (Cond.codeWith y bytes maxL ret2 hh :: kk_W) rm mc ms As post)
    (k1 : Cond.methodLink own index y ∈ kk_W) (k2 : Cond.static y ∈ kk_W) (k3 : Cond.initialized y.cls ∈ kk_W) (k4 : Cond.codeWith y bytes maxL ret2 hh ∈ kk_W)
    (hd : y.cls ≠ "java/lang/invoke/MethodHandle" ∧ y.cls ≠ "java/lang/invoke/VarHandle" ∧ (parseMethodDescriptor y.desc).map (fun d => d.parameters.length) = some n) (hrc : rm.cells = mc) (hrs : rm.slots = ms) (hR : rm.frames + 1 ≤ R.frames ∧ 8 + (maxL + 11) + rm.locals ≤ R.locals)
    (hP : va_P D cl (wr ++ w f g) H) (hD : va_D A (wr ++ w f g)) (hS : va_S A s.heap H locs) (hn : As.length = n) (hsize : ls.size = nL) (hstack : st0 = As.reverse ++ rest) (hWt : (rest.map fun v => v.category).sum ≤ 8) (hdg : decode cc pc = .ok (.invokestatic index, 3)) (hf : cells + mc ≤ R.cells ∧ slots + ms ≤ R.slots)
    (kk : ∀ (r : Option Value) (f1 : zz_F) (g1 : zz_G) (H1 : Heap) (locs1 : List Loc), post r f1 g1 → va_P D cl (wr ++ w f1 g1) H1 → va_D A (wr ++ w f1 g1) → va_S A s.heap H1 locs1 → W p l e R s m args below meth c H1 locs1 (cells + mc) (slots + ms) Q (F0 m (pc + 3) ls (r.toList ++ rest))) :
    W p l e R s m args below meth c H locs cells slots Q (F0 m pc ls st0) := by
  have hts := C.1.2.2.2.2
  have hK : Back l R p e below s args y 3 8 (PreOf R mc ms (va_Pc As (zz_p D cl tys B (w f g) X H.size))) (PostOf (zz_Q D cl tys w (va_A (w f g) H.size) post) mc ms (va_A (w f g) H.size)) :=
    va_backW hM (zz_blind C.2.2.2.2.2.2.2.2) hrc hrs hR.1 hR.2 (pay_in hts (kk_g1 k4)) List.mem_cons_self (fun a' U hW => word_at hW (good_of_word (kk_good k3)) (hts _ (List.mem_cons_of_mem _ k3)))
  refine zz_go (tys := tys) (a := As.toArray) ?_ hP hD hS C.2.2.2.2.1 kk
  intro T hT Y
  obtain ⟨hx, hb, hml, ho, -⟩ := C.1
  obtain ⟨mk, methM, cM, hnamed, hmethM, -, -, -, -, -, -, hsigM⟩ := Cond.codeWith_spec (hts _ (List.mem_cons_of_mem _ k4))
  have hstatic : methM.isStatic = true := Cond.static_spec hnamed hmethM (hts _ (List.mem_cons_of_mem _ k2))
  obtain ⟨kP, hkP, -⟩ := className_of_methodNamed hnamed
  have hinitP : kP.init = .initialized := Cond.initialized_spec (findClass_of_methodNamed hnamed) hkP (hts _ (List.mem_cons_of_mem _ k3))
  have hlen : As.length = methM.sig.parameters.length := by
    have h2 := hd.2.2
    rw [hsigM] at h2
    rw [hn]
    exact (Option.some.inj h2).symm
  obtain ⟨vm₁, X₁, hstep₁⟩ := Y.invokestatic hx ho (hts _ (List.mem_cons_of_mem _ k1)) hnamed hmethM hstatic hkP hinitP ⟨hd.1, hd.2.1⟩ (g := F0 m pc ls st0) rfl (argsL := As) (rest := rest) hlen hstack (by rw [hb]; exact hdg)
  obtain ⟨v, Bp, X', ⟨g', mk', t, L, e1, e2, hq, h1, hL, h2, h3⟩, hsteps⟩ := hK m meth c ⟨T.setVm vm₁, locs, cells, slots⟩ { F0 m pc ls st0 with stack := rest } (.invokestatic index) mk As.toArray X₁ rfl (hsize.trans hml.symm) (by rw [hb]; exact hdg) (lv_room hWt) (X₁.named hnamed) ⟨hf.1, hf.2, zz_pre C hP hD hS (T.setVm vm₁) hT X₁.warmed⟩
  obtain ⟨U', l2, c2, s2⟩ := Bp
  dsimp only [Pt.U, Pt.locs, Pt.cells, Pt.slots] at X' e1 e2 h1 h2 h3 hsteps
  subst h1; subst h2; subst h3
  exact ⟨v, (T.setVm vm₁).calling g' mk' As.toArray, t, U', L, hT, X', hL, e1, e2, hq, fun target h => hstep₁ _ fun acts => by rw [doInvoke_state]; exact hsteps.trans h⟩
end ZS

/-! calls out of checked contracts, in the law: what the answer's kind is, which field is kept -/
def ck_keep (k : Nat) (o : ck_O) : Bool := o.2.any (fun z => z.1 == k && !z.2.2)
def ck_isI (o : ck_O) : Bool := match o.1 with
  | .inl (some (.inl _)) => true
  | _ => false
def ck_isV (o : ck_O) : Bool := match o.1 with
  | .inl none => true
  | _ => false
theorem ck_keep_ok {k : Nat} {o : ck_O} {f f1 : zz_F} (hk : ck_keep k o = true) (hT : ck_gT f f1 o.2) : f1 k = f k := by
  obtain ⟨z, hz, h⟩ := List.any_eq_true.mp hk
  simp only [Bool.and_eq_true, beq_iff_eq, Bool.not_eq_true'] at h
  obtain ⟨h1, h2⟩ := h
  have h3 := (hT z hz).2 h2
  rw [h1] at h3
  exact h3
theorem ck_isI_ok {h : Nat → Nat} {o : ck_O} {r : Option Value} (hi : ck_isI o = true) (hr : ck_gO h o.1 r) : ∃ x : Int32, r = some (.int x) := by
  obtain ⟨a, b⟩ := o
  match a, hi, hr with
  | .inl (some (.inl q)), _, hr =>
    obtain ⟨v, rfl, x, rfl, -⟩ := hr
    exact ⟨x, rfl⟩
theorem ck_isV_ok {h : Nat → Nat} {o : ck_O} {r : Option Value} (hi : ck_isV o = true) (hr : ck_gO h o.1 r) : r = none := by
  obtain ⟨a, b⟩ := o
  match a, hi, hr with
  | .inl none, _, hr => exact hr
/-- a call that answers nothing, behind which the tracked bounds hold again -/
def ck_void (fb : Nat → Int × Int) (tk : ck_T) (os : List ck_O) : Bool := os.all (fun o => ck_isV o && ck_leT (ck_cb fb o.2 tk) tk)
theorem ck_void_ok {h : Nat → Nat} {fb : Nat → Int × Int} {tk : ck_T} {os : List ck_O} (hv : ck_void fb tk os = true) {o : ck_O} (ho : o ∈ os) {r : Option Value} {f0 f f1 : zz_F} (hr : ck_gO h o.1 r) (h0 : ∀ k, ck_in (fb k) (f1 k)) (hT1 : ck_gT f f1 o.2) (hT : ck_gT f0 f tk) : r = none ∧ ck_gT f0 f1 tk := by
  have h1 := List.all_eq_true.mp hv o ho
  simp only [Bool.and_eq_true] at h1
  exact ⟨ck_isV_ok h1.1 hr, ck_leT_ok h1.2 (ck_cb_ok h0 hT1 hT)⟩
section ZL
variable {p : Program} {l : Launch} {e : Env} {R : Room} {s : State} {m : MethodId} {args : Array Value} {below : List Frame} {meth : Method} {c : Code} {H : Heap} {locs : List Loc} {cells slots : Nat} {Q : State → Prop}
variable {D : va_G} {cl : List vw_C} {tys : List (ClassId × FieldType)} {B : Nat} {w : zz_F → zz_G → va_W} {X X2 : State → Heap → Prop} {f : zz_F} {g : zz_G} {A : Nat → Prop} {h : Nat → Nat} {fb : Nat → Int × Int} {gb : Nat → Nat → Int × Int}
variable {cc : ByteArray} {nL : Nat} {ret : Option FieldType} {Ts : List Cond} {own : String} {pc : Nat} {ls : Array Slot} {st0 : List Value}
/-- a call of a checked method, its outcome handed on as it is -/
theorem ck_go {y : MethodName} {bytes : ByteArray} {maxL n index : Nat} {ret2 : Option FieldType} {ws : List Cond} {rm : Room} {Cn : String} {b : Addr} {As : List Value} {q : (List ck_V × ck_T) × List ck_O} (wr : va_W)
    (C : zz_Cx p m meth c cc nL ret s args Ts own D cl tys A B X) (hc : ck_c l D cl tys B w X h fb gb y ws rm q) (hI : ck_gI fb gb f g) (hT : ∀ z ∈ q.1.2, ck_in z.2.1 (f z.1)) (hs : ck_gS h q.1.1 (.ref b :: As)) (cw : CallW R s args own Cn index y bytes maxL ret2 ws rm 0 0 n)
    (hrc : ∃ cellB : Cell, H[b]? = some cellB ∧ cellB.vm.isStatics = false ∧ s.vm.findClass Cn = some cellB.cls)
    (hP : va_P D cl (wr ++ w f g) H) (hD : va_D A (wr ++ w f g)) (hS : va_S A s.heap H locs) (hn : As.length = n) (hsize : ls.size = nL) (hstack : st0 = As.reverse ++ [.ref b]) (hdg : decode cc pc = .ok (.invokevirtual index, 3)) (hf : cells ≤ R.cells ∧ slots ≤ R.slots)
    (kk : ∀ (r : Option Value) (f1 : zz_F) (g1 : zz_G) (H1 : Heap) (locs1 : List Loc), (∃ o ∈ q.2, ck_gO h o.1 r ∧ ck_gT f f1 o.2) → ck_gI fb gb f1 g1 → va_P D cl (wr ++ w f1 g1) H1 → va_D A (wr ++ w f1 g1) → va_S A s.heap H1 locs1 → W p l e R s m args below meth c H1 locs1 cells slots Q (F0 m (pc + 3) ls (r.toList ++ []))) :
    W p l e R s m args below meth c H locs cells slots Q (F0 m pc ls st0) :=
  zz_callV (rest := []) wr C (hc f g H.size _ hI hT hs) cw hrc hP hD hS hn hsize hstack (Nat.zero_le _) hdg hf (fun r f1 g1 H1 locs1 hq h1 h2 h3 => by
    obtain ⟨o, ho, a1, a2, a3⟩ := hq
    exact kk r f1 g1 H1 locs1 ⟨o, ho, a1, a3⟩ a2 h1 h2 h3)
end ZL

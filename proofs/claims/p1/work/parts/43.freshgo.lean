/-! calls with answers still on the stack -/
section ZL2
variable {p : Program} {l : Launch} {e : Env} {R : Room} {s : State} {m : MethodId} {args : Array Value} {below : List Frame} {meth : Method} {c : Code} {H : Heap} {locs : List Loc} {cells slots : Nat} {Q : State → Prop} {rest : List Value}
variable {D : va_G} {cl : List vw_C} {tys : List (ClassId × FieldType)} {B : Nat} {w : zz_F → zz_G → va_W} {X X2 : State → Heap → Prop} {f : zz_F} {g : zz_G} {A : Nat → Prop} {h : Nat → Nat} {fb : Nat → Int × Int} {gb : Nat → Nat → Int × Int}
variable {cc : ByteArray} {nL : Nat} {ret : Option FieldType} {Ts : List Cond} {own : String} {pc : Nat} {ls : Array Slot} {st0 : List Value}
theorem ck_goR {y : MethodName} {bytes : ByteArray} {maxL n index : Nat} {ret2 : Option FieldType} {ws : List Cond} {rm : Room} {Cn : String} {b : Addr} {As : List Value} {q : (List ck_V × ck_T) × List ck_O} (wr : va_W)
    (C : zz_Cx p m meth c cc nL ret s args Ts own D cl tys A B X) (hc : ck_c l D cl tys B w X h fb gb y ws rm q) (hI : ck_gI fb gb f g) (hT : ∀ z ∈ q.1.2, ck_in z.2.1 (f z.1)) (hs : ck_gS h q.1.1 (.ref b :: As)) (cw : CallW R s args own Cn index y bytes maxL ret2 ws rm 0 0 n)
    (hrc : ∃ cellB : Cell, H[b]? = some cellB ∧ cellB.vm.isStatics = false ∧ s.vm.findClass Cn = some cellB.cls)
    (hP : va_P D cl (wr ++ w f g) H) (hD : va_D A (wr ++ w f g)) (hS : va_S A s.heap H locs) (hn : As.length = n) (hsize : ls.size = nL) (hstack : st0 = As.reverse ++ .ref b :: rest) (hWt : (rest.map fun v => v.category).sum ≤ 8) (hdg : decode cc pc = .ok (.invokevirtual index, 3)) (hf : cells ≤ R.cells ∧ slots ≤ R.slots)
    (kk : ∀ (r : Option Value) (f1 : zz_F) (g1 : zz_G) (H1 : Heap) (locs1 : List Loc), (∃ o ∈ q.2, ck_gO h o.1 r ∧ ck_gT f f1 o.2) → ck_gI fb gb f1 g1 → va_P D cl (wr ++ w f1 g1) H1 → va_D A (wr ++ w f1 g1) → va_S A s.heap H1 locs1 → W p l e R s m args below meth c H1 locs1 cells slots Q (F0 m (pc + 3) ls (r.toList ++ rest))) :
    W p l e R s m args below meth c H locs cells slots Q (F0 m pc ls st0) :=
  zz_callV (rest := rest) wr C (hc f g H.size _ hI hT hs) cw hrc hP hD hS hn hsize hstack hWt hdg hf (fun r f1 g1 H1 locs1 hq h1 h2 h3 => by
    obtain ⟨o, ho, a1, a2, a3⟩ := hq
    exact kk r f1 g1 H1 locs1 ⟨o, ho, a1, a3⟩ a2 h1 h2 h3)
end ZL2
section LWG2
variable {p : Program} {l : Launch} {e : Env} {R : Room} {s : State} {m : MethodId} {args : Array Value} {below : List Frame} {meth : Method} {c : Code} {H : Heap} {locs : List Loc} {cells slots : Nat} {Q : State → Prop} {D : va_G} {B : Nat} {A : Nat → Prop} {h hm : Nat → Nat} {cI cZ cJ : ClassId} {ho : Nat} {f fm : zz_F} {g gm : zz_G} {pc : Nat} {ls : Array Slot} {rest st0 : List Value} {cx : Cond} {cc : ByteArray} {nL : Nat} {ret : Option FieldType} {fb : Nat → Int × Int} {gb : Nat → Nat → Int × Int}
theorem lm_goR {y : MethodName} {bytes : ByteArray} {maxL n index : Nat} {ret2 : Option FieldType} {ws : List Cond} {rm : Room} {As : List Value} {q : (List ck_V × ck_T) × List ck_O}
    (C : zz_Cx p m meth c cc nL ret s args (cx :: kk_W) "NightCyclerLaw" D vN (tyN cI cZ cJ) A B (xL B h)) (hc : ck_c l D vN (tyN cI cZ cJ) B (wM cI cZ hm) (xL B h) hm fb gb y ws rm q) (cw : CallW R s args "NightCyclerLaw" "NightCyclerModel" index y bytes maxL ret2 ws rm 0 0 n)
    (hI : ck_gI fb gb fm gm) (hT : ∀ z ∈ q.1.2, ck_in z.2.1 (fm z.1)) (hs : ck_gS hm q.1.1 (.ref (hm 0) :: As)) (hP : va_P D vN (wW cI cZ cJ ho h hm f g fm gm) H) (hD : va_D A (wW cI cZ cJ ho h hm f g fm gm)) (hS : va_S A s.heap H locs) (hn : As.length = n) (hsz : ls.size = nL) (hst : st0 = As.reverse ++ .ref (hm 0) :: rest) (hWt : (rest.map fun v => v.category).sum ≤ 8) (hd : decode cc pc = .ok (.invokevirtual index, 3)) (hf : cells ≤ R.cells ∧ slots ≤ R.slots)
    (kk : ∀ (r : Option Value) (f1 : zz_F) (g1 : zz_G) (H1 : Heap) (locs1 : List Loc), (∃ o ∈ q.2, ck_gO hm o.1 r ∧ ck_gT fm f1 o.2) → ck_gI fb gb f1 g1 → va_P D vN (wW cI cZ cJ ho h hm f g f1 g1) H1 → va_D A (wW cI cZ cJ ho h hm f g f1 g1) → va_S A s.heap H1 locs1 → W p l e R s m args below meth c H1 locs1 cells slots Q (F0 m (pc + 3) ls (r.toList ++ rest))) :
    W p l e R s m args below meth c H locs cells slots Q (F0 m pc ls st0) :=
  ck_goR (wO cI cZ cJ ho h f g) C hc hI hT hs cw (va_recv C.2.2.2.1 hP (ci := 8) (q0 := 17) rfl rfl) hP hD hS hn hsz hst hWt hd hf kk
end LWG2
/-! p1: calls of the class over other bounds -/
section LWG3
variable {p : Program} {l : Launch} {e : Env} {R : Room} {s : State} {m : MethodId} {args : Array Value} {below : List Frame} {meth : Method} {c : Code} {H : Heap} {locs : List Loc} {cells slots : Nat} {Q : State → Prop} {D : va_G} {B : Nat} {A : Nat → Prop} {h hm : Nat → Nat} {cI cZ cJ : ClassId} {ho : Nat} {f fm : zz_F} {g gm : zz_G} {pc : Nat} {ls : Array Slot} {st0 : List Value} {cx : Cond} {cc : ByteArray} {nL : Nat} {ret : Option FieldType} {fb : Nat → Int × Int} {gb : Nat → Nat → Int × Int}
theorem lw_goF {y : MethodName} {bytes : ByteArray} {maxL n index : Nat} {ret2 : Option FieldType} {ws : List Cond} {rm : Room} {As : List Value} {q : (List ck_V × ck_T) × List ck_O}
    (C : zz_Cx p m meth c cc nL ret s args (cx :: kk_W) "NightCyclerLaw" D vN (tyN cI cZ cJ) A B (xL B h)) (hc : ck_c l D vN (tyN cI cZ cJ) B (wN cI cZ h) (xN B h) h fb gb y ws rm q) (cw : CallW R s args "NightCyclerLaw" "NightCycler" index y bytes maxL ret2 ws rm 0 0 n)
    (hI : ck_gI fb gb f g) (hT : ∀ z ∈ q.1.2, ck_in z.2.1 (f z.1)) (hs : ck_gS h q.1.1 (.ref (h 0) :: As)) (hP : va_P D vN (wW cI cZ cJ ho h hm f g fm gm) H) (hD : va_D A (wW cI cZ cJ ho h hm f g fm gm)) (hS : va_S A s.heap H locs) (hn : As.length = n) (hsz : ls.size = nL) (hst : st0 = As.reverse ++ [.ref (h 0)]) (hd : decode cc pc = .ok (.invokevirtual index, 3)) (hf : cells ≤ R.cells ∧ slots ≤ R.slots)
    (kk : ∀ (r : Option Value) (f1 : zz_F) (g1 : zz_G) (H1 : Heap) (locs1 : List Loc), (∃ o ∈ q.2, ck_gO h o.1 r ∧ ck_gT f f1 o.2) → va_P D vN (wW cI cZ cJ ho h hm f1 g1 fm gm) H1 → va_D A (wW cI cZ cJ ho h hm f1 g1 fm gm) → va_S A s.heap H1 locs1 → W p l e R s m args below meth c H1 locs1 cells slots Q (F0 m (pc + 3) ls (r.toList ++ []))) :
    W p l e R s m args below meth c H locs cells slots Q (F0 m pc ls st0) :=
  ck_go (wM cI cZ hm fm gm ++ [(ho, .inl (cJ, 1, .inr (.inl (fun j => (g 200 j).toInt64))))]) (C.to (X2 := xN B h) (fun hx => hx.1) xN_ok) hc hI hT hs cw (va_recv C.2.2.2.1 hP (ci := 0) (q0 := 1) rfl rfl) (lw_split hP) (lw_splitD hD) hS hn hsz hst hd hf
    (fun r f1 g1 H1 locs1 hq hI1 h1 h2 h3 => kk r f1 (zz_v g1 200 (g 200)) H1 locs1 hq (lw_back h1) (lw_backD h2) h3)
end LWG3
def ck_poF (fb : Nat → Int × Int) (gb : Nat → Nat → Int × Int) (h : Nat → Nat) (f : zz_F) (os : List ck_O) : Option Value → zz_F → zz_G → Prop := fun r f1 g1 => ∃ o ∈ os, ck_gO h o.1 r ∧ ck_gI fb gb f1 g1 ∧ ck_gT f f1 o.2
def ck_pxF (fb : Nat → Int × Int) (gb : Nat → Nat → Int × Int) (f : zz_F) (os : List ck_O) : String → zz_F → zz_G → Prop := fun E f1 g1 => ∃ o ∈ os, o.1 = .inr E ∧ ck_gI fb gb f1 g1 ∧ ck_gT f f1 o.2
section CF
variable {fb : Nat → Int × Int} {gb : Nat → Nat → Int × Int} {h : Nat → Nat} {f : zz_F} {os : List ck_O}
theorem ck_noIF (hv : os.all ck_noI = true) : ∀ r f1 g1, ck_poF fb gb h f os r f1 g1 → r = none := by
  intro r f1 g1 hp
  obtain ⟨⟨a, b⟩, ho, hr, -⟩ := hp
  have h1 := List.all_eq_true.mp hv _ ho
  match a, h1, hr with
  | .inl none, _, hr => exact hr
  | .inr _, _, hr => exact absurd hr (fun h => h)
theorem ck_noVF (hv : os.all ck_noV = true) : ∀ r f1 g1, ck_poF fb gb h f os r f1 g1 → ∃ x : Int32, r = some (.int x) := by
  intro r f1 g1 hp
  obtain ⟨⟨a, b⟩, ho, hr, -⟩ := hp
  have h1 := List.all_eq_true.mp hv _ ho
  match a, h1, hr with
  | .inl (some (.inl q)), _, hr =>
    obtain ⟨v, rfl, x, rfl, -⟩ := hr
    exact ⟨x, rfl⟩
  | .inr _, _, hr => exact absurd hr (fun h => h)
theorem ck_exsF {L : List String} (hv : os.all (ck_exs L) = true) : ∀ E f1 g1, ck_pxF fb gb f os E f1 g1 → E ∈ L := by
  intro E f1 g1 hp
  obtain ⟨⟨a, b⟩, ho, he, -⟩ := hp
  have h1 := List.all_eq_true.mp hv _ ho
  have he : a = .inr E := he
  subst he
  have h2 : L.contains E = true := h1
  exact List.contains_iff_mem.mp h2
theorem ck_ex1F {A : String} (hv : os.all (ck_exs [A]) = true) : ∀ E f1 g1, ck_pxF fb gb f os E f1 g1 → E = A := fun E f1 g1 hp => List.mem_singleton.mp (ck_exsF hv E f1 g1 hp)
theorem ck_ex2F {A A2 : String} (hv : os.all (ck_exs [A, A2]) = true) : ∀ E f1 g1, ck_pxF fb gb f os E f1 g1 → E = A ∨ E = A2 := fun E f1 g1 hp => by
  have h1 := ck_exsF hv E f1 g1 hp
  simpa using h1
/-- the wrapper's number n, the answer's v (where n = 0) -/
def ck_an (E1 E2 : String) (n : Nat) (v : Int) (o : ck_O) : Bool := match o.1 with
  | .inl none => n == 0
  | .inl (some (.inl q)) => n == 0 && q.1 == v && q.2 == v
  | .inl (some _) => false
  | .inr E => (E == E1 && n == 1) || (E == E2 && n == 2)
theorem ck_anP {E1 E2 : String} {n : Nat} {v : Int} {f1 : zz_F} {g1 : zz_G} {r0 : Option Value} (hv : os.all (ck_an E1 E2 n v) = true) (hp : ck_poF fb gb h f os r0 f1 g1) : n = 0 ∧ ∀ x : Int32, r0 = some (.int x) → x.toInt = v := by
  obtain ⟨⟨a, b⟩, ho, hr, -⟩ := hp
  have h1 := List.all_eq_true.mp hv _ ho
  match a, h1, hr with
  | .inl none, h2, hr =>
    have h2 : (n == 0) = true := h2
    have hr : r0 = none := hr
    exact ⟨beq_iff_eq.mp h2, fun x hx => by rw [hr] at hx; cases hx⟩
  | .inl (some (.inl q)), h2, hr =>
    have h2 : (n == 0 && q.1 == v && q.2 == v) = true := h2
    simp only [Bool.and_eq_true, beq_iff_eq] at h2
    obtain ⟨w, rfl, y, rfl, h3, h4⟩ := hr
    refine ⟨h2.1.1, fun x hx => ?_⟩
    cases hx
    omega
  | .inr _, _, hr => exact absurd hr (fun h => h)
theorem ck_anX {E1 E2 E : String} {n : Nat} {v : Int} {f1 : zz_F} {g1 : zz_G} (hv : os.all (ck_an E1 E2 n v) = true) (hp : ck_pxF fb gb f os E f1 g1) : (E = E1 ∧ n = 1) ∨ (E = E2 ∧ n = 2) := by
  obtain ⟨⟨a, b⟩, ho, he, -⟩ := hp
  have he : a = .inr E := he
  subst he
  have h1 := List.all_eq_true.mp hv _ ho
  have h1 : ((E == E1 && n == 1) || (E == E2 && n == 2)) = true := h1
  simp only [Bool.and_eq_true, Bool.or_eq_true, beq_iff_eq] at h1
  exact h1
theorem ck_anS {E1 E2 : String} {n : Nat} {v : Int} {f1 : zz_F} {g1 : zz_G} {r : Option Value} (hv : os.all (ck_an E1 E2 n v) = true) (hne : E1 ≠ E2) (hp : (r = some (.int 0) ∧ ∃ r0, ck_poF fb gb h f os r0 f1 g1) ∨ (r = some (.int 1) ∧ ck_pxF fb gb f os E1 f1 g1) ∨ (r = some (.int 2) ∧ ck_pxF fb gb f os E2 f1 g1)) : r = some (.int (Int32.ofNat n)) := by
  rcases hp with ⟨rfl, r0, hp⟩ | ⟨rfl, hp⟩ | ⟨rfl, hp⟩
  · obtain ⟨rfl, -⟩ := ck_anP hv hp
    rfl
  · rcases ck_anX hv hp with ⟨-, rfl⟩ | ⟨h2, -⟩
    · rfl
    · exact absurd h2 hne
  · rcases ck_anX hv hp with ⟨h2, -⟩ | ⟨-, rfl⟩
    · exact absurd h2.symm hne
    · rfl
theorem ck_anS1 {E1 E2 : String} {n : Nat} {v : Int} {f1 : zz_F} {g1 : zz_G} {r : Option Value} (hv : os.all (ck_an E1 E2 n v) = true) (hne : E1 ≠ E2) (hp : (r = some (.int 0) ∧ ∃ r0, ck_poF fb gb h f os r0 f1 g1) ∨ (r = some (.int 1) ∧ ck_pxF fb gb f os E1 f1 g1)) : r = some (.int (Int32.ofNat n)) := ck_anS hv hne (hp.imp id Or.inl)
theorem ck_anO {E1 E2 : String} {n : Nat} {v : Int} {f1 : zz_F} {g g1 : zz_G} {r : Option Value} (hv : os.all (ck_an E1 E2 n v) = true) (hne : E1 ≠ E2) (hp : (r = some (.int 0) ∧ ∃ (g0 : zz_G) (x : Int32), g1 = zz_v g0 200 (upd (g 200) 0 x) ∧ ck_poF fb gb h f os (some (.int x)) f1 g0) ∨ (r = some (.int 1) ∧ ∃ g0 : zz_G, g1 = zz_v g0 200 (g 200) ∧ ck_pxF fb gb f os E1 f1 g0) ∨ (r = some (.int 2) ∧ ∃ g0 : zz_G, g1 = zz_v g0 200 (g 200) ∧ ck_pxF fb gb f os E2 f1 g0)) : r = some (.int (Int32.ofNat n)) ∧ (n = 0 → (g1 200 0).toInt = v) := by
  rcases hp with ⟨rfl, g0, x, rfl, hp⟩ | ⟨rfl, g0, rfl, hp⟩ | ⟨rfl, g0, rfl, hp⟩
  · obtain ⟨rfl, hx⟩ := ck_anP hv hp
    exact ⟨rfl, fun _ => hx x rfl⟩
  · rcases ck_anX hv hp with ⟨-, rfl⟩ | ⟨h2, -⟩
    · exact ⟨rfl, fun q => absurd q (by decide)⟩
    · exact absurd h2 hne
  · rcases ck_anX hv hp with ⟨h2, -⟩ | ⟨-, rfl⟩
    · exact absurd h2.symm hne
    · exact ⟨rfl, fun q => absurd q (by decide)⟩
theorem ck_anO1 {E1 E2 : String} {n : Nat} {v : Int} {f1 : zz_F} {g g1 : zz_G} {r : Option Value} (hv : os.all (ck_an E1 E2 n v) = true) (hne : E1 ≠ E2) (hp : (r = some (.int 0) ∧ ∃ (g0 : zz_G) (x : Int32), g1 = zz_v g0 200 (upd (g 200) 0 x) ∧ ck_poF fb gb h f os (some (.int x)) f1 g0) ∨ (r = some (.int 1) ∧ ∃ g0 : zz_G, g1 = zz_v g0 200 (g 200) ∧ ck_pxF fb gb f os E1 f1 g0)) : r = some (.int (Int32.ofNat n)) ∧ (n = 0 → (g1 200 0).toInt = v) := ck_anO hv hne (hp.imp id Or.inl)
end CF
theorem lw_lcmp (x : Int64) : lg_cmp x x = 0 := by simp [lg_cmp]
def fM0 : zz_F := fun _ => 0
def gM0 : zz_G := fun j => match j with
  | 0 => (upd (upd (upd (upd (upd (upd (upd (upd (upd (fun _ => 0) 0 3) 1 2000) 2 1) 3 0) 4 80) 5 5000) 6 60) 7 3700) 8 0)
  | 1 => (upd (upd (upd (upd (upd (upd (upd (upd (upd (fun _ => 0) 0 1) 1 500) 2 1) 3 0) 4 50) 5 1000) 6 1) 7 3000) 8 0)
  | 2 => (upd (upd (upd (upd (upd (upd (upd (upd (upd (fun _ => 0) 0 12) 1 30000) 2 240) 3 30000) 4 100) 5 40000) 6 900) 7 3900) 8 20000)
  | 3 => (fun _ => 0)
  | 4 => (fun _ => 0)
  | 5 => (fun _ => 0)
  | 6 => (upd (upd (fun _ => 0) 0 3700) 1 3700)
  | 7 => (fun _ => 0)
  | 8 => (fun _ => 0)
  | 9 => (fun _ => 0)
  | 10 => (fun _ => 0)
  | 11 => (fun _ => 0)
  | _ => fun _ => 0
theorem gI_N0 : ck_gI fbG gbG fN0 gN0 := by
  refine ⟨fun k => ?_, fun j i => ?_⟩
  · unfold fbG
    split <;> first | exact ck_in_top _ | exact ⟨by decide, by decide⟩ | exact (show ck_in _ (0 : Int32) from ⟨by decide, by decide⟩)
  · unfold gbG
    split <;> first | exact ck_in_top _ | exact ⟨by decide, by decide⟩ | exact (show ck_in _ (0 : Int32) from ⟨by decide, by decide⟩)
theorem gI_M0 : ck_gI fbM gbM fM0 gM0 := by
  refine ⟨fun k => ?_, fun j i => ?_⟩
  · unfold fbM
    split <;> first | exact ck_in_top _ | exact ⟨by decide, by decide⟩ | exact (show ck_in _ (0 : Int32) from ⟨by decide, by decide⟩)
  · unfold gbM
    split <;> first | exact ck_in_top _ | exact ⟨by decide, by decide⟩ | exact (show ck_in _ (0 : Int32) from ⟨by decide, by decide⟩)
theorem gI_A : ck_gI fbFA gbFA fN0 gN0 := by
  refine ⟨fun k => ?_, fun j i => ?_⟩
  · unfold fbFA
    split <;> first | exact ck_in_top _ | exact ⟨by decide, by decide⟩ | exact (show ck_in _ (0 : Int32) from ⟨by decide, by decide⟩)
  · unfold gbFA
    split <;> first | exact ck_in_top _ | exact ⟨by decide, by decide⟩ | exact (show ck_in _ (0 : Int32) from ⟨by decide, by decide⟩)
theorem gI_B : ck_gI fbFB gbFB fN0 gN0 := by
  refine ⟨fun k => ?_, fun j i => ?_⟩
  · unfold fbFB
    split <;> first | exact ck_in_top _ | exact ⟨by decide, by decide⟩ | exact (show ck_in _ (0 : Int32) from ⟨by decide, by decide⟩)
  · unfold gbFB
    split <;> first | exact ck_in_top _ | exact ⟨by decide, by decide⟩ | exact (show ck_in _ (0 : Int32) from ⟨by decide, by decide⟩)
theorem gI_FM : ck_gI fbFM gbFM fM0 gM0 := by
  refine ⟨fun k => ?_, fun j i => ?_⟩
  · unfold fbFM
    split <;> first | exact ck_in_top _ | exact ⟨by decide, by decide⟩ | exact (show ck_in _ (0 : Int32) from ⟨by decide, by decide⟩)
  · unfold gbFM
    split <;> first | exact ck_in_top _ | exact ⟨by decide, by decide⟩ | exact (show ck_in _ (0 : Int32) from ⟨by decide, by decide⟩)
theorem gI_FN : ck_gI fbFN gbFN fM0 gM0 := by
  refine ⟨fun k => ?_, fun j i => ?_⟩
  · unfold fbFN
    split <;> first | exact ck_in_top _ | exact ⟨by decide, by decide⟩ | exact (show ck_in _ (0 : Int32) from ⟨by decide, by decide⟩)
  · unfold gbFN
    split <;> first | exact ck_in_top _ | exact ⟨by decide, by decide⟩ | exact (show ck_in _ (0 : Int32) from ⟨by decide, by decide⟩)

/-! the law's world: its long, the class, the reference; calls in it -/
abbrev wW (cI cZ cJ : ClassId) (ho : Nat) (h hm : Nat → Nat) (f : zz_F) (g : zz_G) (fm : zz_F) (gm : zz_G) : va_W := wO cI cZ cJ ho h f g ++ wM cI cZ hm fm gm
theorem gI_v {f : zz_F} {g : zz_G} {r : Nat → Int32} (hI : ck_gI fbG gbG f g) : ck_gI fbG gbG f (zz_v g 200 r) := ⟨hI.1, fun j i => by
  by_cases hj : j = 200
  · subst hj
    exact ck_in_top _
  · show ck_in (gbG j i) ((if j = 200 then r else g j) i)
    rw [if_neg hj]
    exact hI.2 j i⟩
def ck_po (h : Nat → Nat) (f : zz_F) (os : List ck_O) : Option Value → zz_F → zz_G → Prop := fun r f1 g1 => ∃ o ∈ os, ck_gO h o.1 r ∧ ck_gI fbG gbG f1 g1 ∧ ck_gT f f1 o.2
def ck_px (f : zz_F) (os : List ck_O) : String → zz_F → zz_G → Prop := fun E f1 g1 => ∃ o ∈ os, o.1 = .inr E ∧ ck_gI fbG gbG f1 g1 ∧ ck_gT f f1 o.2
def ck_noI (o : ck_O) : Bool := match o.1 with
  | .inl (some _) => false
  | _ => true
def ck_noV (o : ck_O) : Bool := match o.1 with
  | .inl (some (.inl _)) => true
  | .inr _ => true
  | _ => false
def ck_exs (L : List String) (o : ck_O) : Bool := match o.1 with
  | .inr E => L.contains E
  | _ => true
theorem ck_noI_ok {h : Nat → Nat} {f : zz_F} {os : List ck_O} (hv : os.all ck_noI = true) : ∀ r f1 g1, ck_po h f os r f1 g1 → r = none := by
  intro r f1 g1 hp
  obtain ⟨⟨a, b⟩, ho, hr, -⟩ := hp
  have h1 := List.all_eq_true.mp hv _ ho
  match a, h1, hr with
  | .inl none, _, hr => exact hr
  | .inr _, _, hr => exact absurd hr (fun h => h)
theorem ck_noV_ok {h : Nat → Nat} {f : zz_F} {os : List ck_O} (hv : os.all ck_noV = true) : ∀ r f1 g1, ck_po h f os r f1 g1 → ∃ x : Int32, r = some (.int x) := by
  intro r f1 g1 hp
  obtain ⟨⟨a, b⟩, ho, hr, -⟩ := hp
  have h1 := List.all_eq_true.mp hv _ ho
  match a, h1, hr with
  | .inl (some (.inl q)), _, hr =>
    obtain ⟨v, rfl, x, rfl, -⟩ := hr
    exact ⟨x, rfl⟩
  | .inr _, _, hr => exact absurd hr (fun h => h)
theorem ck_exs_ok {L : List String} {f : zz_F} {os : List ck_O} (hv : os.all (ck_exs L) = true) : ∀ E f1 g1, ck_px f os E f1 g1 → E ∈ L := by
  intro E f1 g1 hp
  obtain ⟨⟨a, b⟩, ho, he, -⟩ := hp
  have h1 := List.all_eq_true.mp hv _ ho
  have he : a = .inr E := he
  subst he
  have h2 : L.contains E = true := h1
  exact List.contains_iff_mem.mp h2
theorem ck_ex1 {A : String} {f : zz_F} {os : List ck_O} (hv : os.all (ck_exs [A]) = true) : ∀ E f1 g1, ck_px f os E f1 g1 → E = A := fun E f1 g1 hp => List.mem_singleton.mp (ck_exs_ok hv E f1 g1 hp)
theorem ck_ex2 {A A2 : String} {f : zz_F} {os : List ck_O} (hv : os.all (ck_exs [A, A2]) = true) : ∀ E f1 g1, ck_px f os E f1 g1 → E = A ∨ E = A2 := fun E f1 g1 hp => by
  have h1 := ck_exs_ok hv E f1 g1 hp
  simpa using h1
/-- which of the wrapper's answers an exact list of outcomes allows -/
theorem ck_po1 {h : Nat → Nat} {f : zz_F} {o : ck_O} {r : Option Value} {f1 : zz_F} {g1 : zz_G} (hp : ck_po h f [o] r f1 g1) : ck_gO h o.1 r ∧ ck_gI fbG gbG f1 g1 ∧ ck_gT f f1 o.2 := by
  obtain ⟨o2, ho, h1⟩ := hp
  rw [List.mem_singleton] at ho
  subst ho
  exact h1
section LWG
variable {p : Program} {l : Launch} {e : Env} {R : Room} {s : State} {m : MethodId} {args : Array Value} {below : List Frame} {meth : Method} {c : Code} {H : Heap} {locs : List Loc} {cells slots : Nat} {Q : State → Prop} {D : va_G} {B : Nat} {A : Nat → Prop} {h hm : Nat → Nat} {cI cZ cJ : ClassId} {ho : Nat} {f fm : zz_F} {g gm : zz_G} {pc : Nat} {ls : Array Slot} {st0 : List Value} {cx : Cond} {cc : ByteArray} {nL : Nat} {ret : Option FieldType}
theorem lw_split (hP : va_P D vN (wW cI cZ cJ ho h hm f g fm gm) H) : va_P D vN ((wM cI cZ hm fm gm ++ [(ho, .inl (cJ, 1, .inr (.inl (fun j => (g 200 j).toInt64))))]) ++ wN cI cZ h f g) H := by
  rw [List.append_assoc]
  exact va_P_swap (a := wO cI cZ cJ ho h f g) (b := wM cI cZ hm fm gm) hP
theorem lw_splitD (hD : va_D A (wW cI cZ cJ ho h hm f g fm gm)) : va_D A ((wM cI cZ hm fm gm ++ [(ho, .inl (cJ, 1, .inr (.inl (fun j => (g 200 j).toInt64))))]) ++ wN cI cZ h f g) := by
  rw [List.append_assoc]
  exact va_D_swap (a := wO cI cZ cJ ho h f g) (b := wM cI cZ hm fm gm) hD
theorem lw_back {f1 : zz_F} {g1 : zz_G} (hP : va_P D vN ((wM cI cZ hm fm gm ++ [(ho, .inl (cJ, 1, .inr (.inl (fun j => (g 200 j).toInt64))))]) ++ wN cI cZ h f1 g1) H) : va_P D vN (wW cI cZ cJ ho h hm f1 (zz_v g1 200 (g 200)) fm gm) H := by
  rw [List.append_assoc] at hP
  exact va_P_swap (a := wM cI cZ hm fm gm) (b := wO cI cZ cJ ho h f1 (zz_v g1 200 (g 200))) hP
theorem lw_backD {f1 : zz_F} {g1 : zz_G} (hD : va_D A ((wM cI cZ hm fm gm ++ [(ho, .inl (cJ, 1, .inr (.inl (fun j => (g 200 j).toInt64))))]) ++ wN cI cZ h f1 g1)) : va_D A (wW cI cZ cJ ho h hm f1 (zz_v g1 200 (g 200)) fm gm) := by
  rw [List.append_assoc] at hD
  exact va_D_swap (a := wM cI cZ hm fm gm) (b := wO cI cZ cJ ho h f1 (zz_v g1 200 (g 200))) hD
/-- a call of the class that neither throws nor makes anything -/
theorem lw_go {y : MethodName} {bytes : ByteArray} {maxL n index : Nat} {ret2 : Option FieldType} {ws : List Cond} {rm : Room} {As : List Value} {q : (List ck_V × ck_T) × List ck_O}
    (C : zz_Cx p m meth c cc nL ret s args (cx :: kk_W) "NightCyclerLaw" D vN (tyN cI cZ cJ) A B (xL B h)) (hc : ck_c l D vN (tyN cI cZ cJ) B (wN cI cZ h) (xN B h) h fbG gbG y ws rm q) (cw : CallW R s args "NightCyclerLaw" "NightCycler" index y bytes maxL ret2 ws rm 0 0 n)
    (hI : ck_gI fbG gbG f g) (hT : ∀ z ∈ q.1.2, ck_in z.2.1 (f z.1)) (hs : ck_gS h q.1.1 (.ref (h 0) :: As)) (hP : va_P D vN (wW cI cZ cJ ho h hm f g fm gm) H) (hD : va_D A (wW cI cZ cJ ho h hm f g fm gm)) (hS : va_S A s.heap H locs) (hn : As.length = n) (hsz : ls.size = nL) (hst : st0 = As.reverse ++ [.ref (h 0)]) (hd : decode cc pc = .ok (.invokevirtual index, 3)) (hf : cells ≤ R.cells ∧ slots ≤ R.slots)
    (kk : ∀ (r : Option Value) (f1 : zz_F) (g1 : zz_G) (H1 : Heap) (locs1 : List Loc), (∃ o ∈ q.2, ck_gO h o.1 r ∧ ck_gT f f1 o.2) → ck_gI fbG gbG f1 g1 → va_P D vN (wW cI cZ cJ ho h hm f1 g1 fm gm) H1 → va_D A (wW cI cZ cJ ho h hm f1 g1 fm gm) → va_S A s.heap H1 locs1 → W p l e R s m args below meth c H1 locs1 cells slots Q (F0 m (pc + 3) ls (r.toList ++ []))) :
    W p l e R s m args below meth c H locs cells slots Q (F0 m pc ls st0) :=
  ck_go (wM cI cZ hm fm gm ++ [(ho, .inl (cJ, 1, .inr (.inl (fun j => (g 200 j).toInt64))))]) (C.to (X2 := xN B h) (fun hx => hx.1) xN_ok) hc hI hT hs cw (va_recv C.2.2.2.1 hP (ci := 0) (q0 := 1) rfl rfl) (lw_split hP) (lw_splitD hD) hS hn hsz hst hd hf
    (fun r f1 g1 H1 locs1 hq hI1 h1 h2 h3 => kk r f1 (zz_v g1 200 (g 200)) H1 locs1 hq (gI_v hI1) (lw_back h1) (lw_backD h2) h3)
/-- .. of the reference -/
theorem lm_go {y : MethodName} {bytes : ByteArray} {maxL n index : Nat} {ret2 : Option FieldType} {ws : List Cond} {rm : Room} {As : List Value} {q : (List ck_V × ck_T) × List ck_O}
    (C : zz_Cx p m meth c cc nL ret s args (cx :: kk_W) "NightCyclerLaw" D vN (tyN cI cZ cJ) A B (xL B h)) (hc : ck_c l D vN (tyN cI cZ cJ) B (wM cI cZ hm) (xL B h) hm fbM gbM y ws rm q) (cw : CallW R s args "NightCyclerLaw" "NightCyclerModel" index y bytes maxL ret2 ws rm 0 0 n)
    (hI : ck_gI fbM gbM fm gm) (hT : ∀ z ∈ q.1.2, ck_in z.2.1 (fm z.1)) (hs : ck_gS hm q.1.1 (.ref (hm 0) :: As)) (hP : va_P D vN (wW cI cZ cJ ho h hm f g fm gm) H) (hD : va_D A (wW cI cZ cJ ho h hm f g fm gm)) (hS : va_S A s.heap H locs) (hn : As.length = n) (hsz : ls.size = nL) (hst : st0 = As.reverse ++ [.ref (hm 0)]) (hd : decode cc pc = .ok (.invokevirtual index, 3)) (hf : cells ≤ R.cells ∧ slots ≤ R.slots)
    (kk : ∀ (r : Option Value) (f1 : zz_F) (g1 : zz_G) (H1 : Heap) (locs1 : List Loc), (∃ o ∈ q.2, ck_gO hm o.1 r ∧ ck_gT fm f1 o.2) → ck_gI fbM gbM f1 g1 → va_P D vN (wW cI cZ cJ ho h hm f g f1 g1) H1 → va_D A (wW cI cZ cJ ho h hm f g f1 g1) → va_S A s.heap H1 locs1 → W p l e R s m args below meth c H1 locs1 cells slots Q (F0 m (pc + 3) ls (r.toList ++ []))) :
    W p l e R s m args below meth c H locs cells slots Q (F0 m pc ls st0) :=
  ck_go (wO cI cZ cJ ho h f g) C hc hI hT hs cw (va_recv C.2.2.2.1 hP (ci := 8) (q0 := 17) rfl rfl) hP hD hS hn hsz hst hd hf kk
/-- a call of a wrapper over the class alone -/
theorem lw_goS {y : MethodName} {bytes : ByteArray} {maxL n index : Nat} {hh : List (Nat × Nat × Nat × Nat)} {rm : Room} {As : List Value} {post : Option Value → zz_F → zz_G → Prop}
    (C : zz_Cx p m meth c cc nL ret s args (cx :: kk_W) "NightCyclerLaw" D vN (tyN cI cZ cJ) A B (xL B h)) (hw : zz_c l D vN (tyN cI cZ cJ) B (wN cI cZ h) (xL B h) f g H.size y (Cond.codeWith y bytes maxL (some .int) hh :: kk_W) rm 1 6 As post)
    (k1 : Cond.methodLink "NightCyclerLaw" index y ∈ kk_W) (k2 : Cond.static y ∈ kk_W) (k3 : Cond.initialized y.cls ∈ kk_W) (k4 : Cond.codeWith y bytes maxL (some .int) hh ∈ kk_W)
    (hdd : y.cls ≠ "java/lang/invoke/MethodHandle" ∧ y.cls ≠ "java/lang/invoke/VarHandle" ∧ (parseMethodDescriptor y.desc).map (fun d => d.parameters.length) = some n) (hrc : rm.cells = 1) (hrs : rm.slots = 6) (hR : rm.frames + 1 ≤ R.frames ∧ 8 + (maxL + 11) + rm.locals ≤ R.locals)
    (hP : va_P D vN (wW cI cZ cJ ho h hm f g fm gm) H) (hD : va_D A (wW cI cZ cJ ho h hm f g fm gm)) (hS : va_S A s.heap H locs) (hn : As.length = n) (hsz : ls.size = nL) (hst : st0 = As.reverse ++ []) (hd : decode cc pc = .ok (.invokestatic index, 3)) (hf : cells + 1 ≤ R.cells ∧ slots + 6 ≤ R.slots)
    (kk : ∀ (r : Option Value) (f1 : zz_F) (g1 : zz_G) (H1 : Heap) (locs1 : List Loc), post r f1 g1 → va_P D vN (wW cI cZ cJ ho h hm f1 (zz_v g1 200 (g 200)) fm gm) H1 → va_D A (wW cI cZ cJ ho h hm f1 (zz_v g1 200 (g 200)) fm gm) → va_S A s.heap H1 locs1 → W p l e R s m args below meth c H1 locs1 (cells + 1) (slots + 6) Q (F0 m (pc + 3) ls (r.toList ++ []))) :
    W p l e R s m args below meth c H locs cells slots Q (F0 m pc ls st0) :=
  zz_callSW (rest := []) (wM cI cZ hm fm gm ++ [(ho, .inl (cJ, 1, .inr (.inl (fun j => (g 200 j).toInt64))))]) C hw k1 k2 k3 k4 hdd hrc hrs hR (lw_split hP) (lw_splitD hD) hS hn hsz hst (Nat.zero_le _) hd hf
    (fun r f1 g1 H1 locs1 hq h1 h2 h3 => kk r f1 g1 H1 locs1 hq (lw_back h1) (lw_backD h2) h3)
/-- a call of a wrapper over the class and the long -/
theorem lw_goO {y : MethodName} {bytes : ByteArray} {maxL n index : Nat} {hh : List (Nat × Nat × Nat × Nat)} {rm : Room} {As : List Value} {post : Option Value → zz_F → zz_G → Prop}
    (C : zz_Cx p m meth c cc nL ret s args (cx :: kk_W) "NightCyclerLaw" D vN (tyN cI cZ cJ) A B (xL B h)) (hw : zz_c l D vN (tyN cI cZ cJ) B (wO cI cZ cJ ho h) (xL B h) f g H.size y (Cond.codeWith y bytes maxL (some .int) hh :: kk_W) rm 1 6 As post)
    (k1 : Cond.methodLink "NightCyclerLaw" index y ∈ kk_W) (k2 : Cond.static y ∈ kk_W) (k3 : Cond.initialized y.cls ∈ kk_W) (k4 : Cond.codeWith y bytes maxL (some .int) hh ∈ kk_W)
    (hdd : y.cls ≠ "java/lang/invoke/MethodHandle" ∧ y.cls ≠ "java/lang/invoke/VarHandle" ∧ (parseMethodDescriptor y.desc).map (fun d => d.parameters.length) = some n) (hrc : rm.cells = 1) (hrs : rm.slots = 6) (hR : rm.frames + 1 ≤ R.frames ∧ 8 + (maxL + 11) + rm.locals ≤ R.locals)
    (hP : va_P D vN (wW cI cZ cJ ho h hm f g fm gm) H) (hD : va_D A (wW cI cZ cJ ho h hm f g fm gm)) (hS : va_S A s.heap H locs) (hn : As.length = n) (hsz : ls.size = nL) (hst : st0 = As.reverse ++ []) (hd : decode cc pc = .ok (.invokestatic index, 3)) (hf : cells + 1 ≤ R.cells ∧ slots + 6 ≤ R.slots)
    (kk : ∀ (r : Option Value) (f1 : zz_F) (g1 : zz_G) (H1 : Heap) (locs1 : List Loc), post r f1 g1 → va_P D vN (wW cI cZ cJ ho h hm f1 g1 fm gm) H1 → va_D A (wW cI cZ cJ ho h hm f1 g1 fm gm) → va_S A s.heap H1 locs1 → W p l e R s m args below meth c H1 locs1 (cells + 1) (slots + 6) Q (F0 m (pc + 3) ls (r.toList ++ []))) :
    W p l e R s m args below meth c H locs cells slots Q (F0 m pc ls st0) :=
  zz_callSW (rest := []) (wM cI cZ hm fm gm) C hw k1 k2 k3 k4 hdd hrc hrs hR (va_P_swap (a := wO cI cZ cJ ho h f g) (b := wM cI cZ hm fm gm) hP) (va_D_swap (a := wO cI cZ cJ ho h f g) (b := wM cI cZ hm fm gm) hD) hS hn hsz hst (Nat.zero_le _) hd hf
    (fun r f1 g1 H1 locs1 hq h1 h2 h3 => kk r f1 g1 H1 locs1 hq (va_P_swap (a := wM cI cZ hm fm gm) (b := wO cI cZ cJ ho h f1 g1) h1) (va_D_swap (a := wM cI cZ hm fm gm) (b := wO cI cZ cJ ho h f1 g1) h2) h3)
end LWG
/-! what an exact list of outcomes says -/
def ck_val (k : Nat) (v : Int) (o : ck_O) : Bool := o.2.any (fun z => z.1 == k && z.2.1.1 == v && z.2.1.2 == v)
theorem ck_val_ok {k : Nat} {v : Int} {o : ck_O} {f f1 : zz_F} (hv : ck_val k v o = true) (hT : ck_gT f f1 o.2) : (f1 k).toInt = v := by
  obtain ⟨z, hz, h⟩ := List.any_eq_true.mp hv
  simp only [Bool.and_eq_true, beq_iff_eq] at h
  obtain ⟨⟨h1, h2⟩, h3⟩ := h
  have h4 := (hT z hz).1
  rw [h1] at h4
  obtain ⟨h5, h6⟩ := h4
  omega
def ck_ans (E1 E2 : String) (n k : Nat) (v : Int) (o : ck_O) : Bool := (match o.1 with
  | .inl _ => n == 0
  | .inr E => (E == E1 && n == 1) || (E == E2 && n == 2)) && ck_val k v o
theorem ck_ansP {E1 E2 : String} {n k : Nat} {v : Int} {h : Nat → Nat} {f f1 : zz_F} {g1 : zz_G} {os : List ck_O} {r0 : Option Value} (hv : os.all (ck_ans E1 E2 n k v) = true) (hp : ck_po h f os r0 f1 g1) : n = 0 ∧ ck_gI fbG gbG f1 g1 ∧ (f1 k).toInt = v := by
  obtain ⟨⟨a, b⟩, ho, hr, hI, hT⟩ := hp
  have h1 := List.all_eq_true.mp hv _ ho
  simp only [ck_ans, Bool.and_eq_true] at h1
  refine ⟨?_, hI, ck_val_ok h1.2 hT⟩
  match a, h1.1, hr with
  | .inl _, h2, _ => exact beq_iff_eq.mp h2
  | .inr _, _, hr => exact absurd hr (fun h => h)
theorem ck_ansX {E1 E2 E : String} {n k : Nat} {v : Int} {f f1 : zz_F} {g1 : zz_G} {os : List ck_O} (hv : os.all (ck_ans E1 E2 n k v) = true) (hp : ck_px f os E f1 g1) : ((E = E1 ∧ n = 1) ∨ (E = E2 ∧ n = 2)) ∧ ck_gI fbG gbG f1 g1 ∧ (f1 k).toInt = v := by
  obtain ⟨⟨a, b⟩, ho, he, hI, hT⟩ := hp
  have he : a = .inr E := he
  subst he
  have h1 := List.all_eq_true.mp hv _ ho
  simp only [ck_ans, Bool.and_eq_true, Bool.or_eq_true, beq_iff_eq] at h1
  exact ⟨h1.1, hI, ck_val_ok h1.2 hT⟩
/-- a wrapper's answer out of an exact list -/
theorem ck_ansS {E1 E2 : String} {n k : Nat} {v : Int} {h : Nat → Nat} {f f1 : zz_F} {g1 : zz_G} {os : List ck_O} {r : Option Value} (hv : os.all (ck_ans E1 E2 n k v) = true) (hne : E1 ≠ E2) (hp : (r = some (.int 0) ∧ ∃ r0, ck_po h f os r0 f1 g1) ∨ (r = some (.int 1) ∧ ck_px f os E1 f1 g1) ∨ (r = some (.int 2) ∧ ck_px f os E2 f1 g1)) : r = some (.int (Int32.ofNat n)) ∧ ck_gI fbG gbG f1 g1 ∧ (f1 k).toInt = v := by
  rcases hp with ⟨rfl, r0, hp⟩ | ⟨rfl, hp⟩ | ⟨rfl, hp⟩
  · obtain ⟨rfl, h1⟩ := ck_ansP hv hp
    exact ⟨rfl, h1⟩
  · obtain ⟨⟨-, rfl⟩ | ⟨h2, -⟩, h1⟩ := ck_ansX hv hp
    · exact ⟨rfl, h1⟩
    · exact absurd h2 hne
  · obtain ⟨⟨h2, -⟩ | ⟨-, rfl⟩, h1⟩ := ck_ansX hv hp
    · exact absurd h2.symm hne
    · exact ⟨rfl, h1⟩
theorem ck_ansO {E1 E2 : String} {n k : Nat} {v : Int} {h : Nat → Nat} {f f1 : zz_F} {g g1 : zz_G} {os : List ck_O} {r : Option Value} (hv : os.all (ck_ans E1 E2 n k v) = true) (hne : E1 ≠ E2) (hp : (r = some (.int 0) ∧ ∃ (g0 : zz_G) (x : Int32), g1 = zz_v g0 200 (upd (g 200) 0 x) ∧ ck_po h f os (some (.int x)) f1 g0) ∨ (r = some (.int 1) ∧ ∃ g0 : zz_G, g1 = zz_v g0 200 (g 200) ∧ ck_px f os E1 f1 g0) ∨ (r = some (.int 2) ∧ ∃ g0 : zz_G, g1 = zz_v g0 200 (g 200) ∧ ck_px f os E2 f1 g0)) : r = some (.int (Int32.ofNat n)) ∧ ck_gI fbG gbG f1 g1 ∧ (f1 k).toInt = v := by
  rcases hp with ⟨rfl, g0, x, rfl, hp⟩ | ⟨rfl, g0, rfl, hp⟩ | ⟨rfl, g0, rfl, hp⟩
  · obtain ⟨rfl, h1, h3⟩ := ck_ansP hv hp
    exact ⟨rfl, gI_v h1, h3⟩
  · obtain ⟨⟨-, rfl⟩ | ⟨h2, -⟩, h1, h3⟩ := ck_ansX hv hp
    · exact ⟨rfl, gI_v h1, h3⟩
    · exact absurd h2 hne
  · obtain ⟨⟨h2, -⟩ | ⟨-, rfl⟩, h1, h3⟩ := ck_ansX hv hp
    · exact absurd h2.symm hne
    · exact ⟨rfl, gI_v h1, h3⟩
/-- an exact answer -/
def ck_isN (v : Int) (o : ck_O) : Bool := match o.1 with
  | .inl (some (.inl q)) => q.1 == v && q.2 == v
  | _ => false
theorem ck_isN_ok {v : Int} {h : Nat → Nat} {o : ck_O} {r : Option Value} (hi : ck_isN v o = true) (hr : ck_gO h o.1 r) : ∃ x : Int32, r = some (.int x) ∧ x.toInt = v := by
  obtain ⟨a, b⟩ := o
  match a, hi, hr with
  | .inl (some (.inl q)), hi, hr =>
    obtain ⟨v', rfl, x, rfl, h1, h2⟩ := hr
    have h3 : (q.1 == v && q.2 == v) = true := hi
    simp only [Bool.and_eq_true, beq_iff_eq] at h3
    exact ⟨x, rfl, by omega⟩
def lw_rel (f fm : zz_F) : Prop := ((f 0).toInt = 1 ∧ (fm 1).toInt = 0) ∨ ((f 0).toInt = 0 ∧ (fm 1).toInt = 1)
theorem i32_lo (x : Int32) : (-2147483648 : Int) ≤ x.toInt := (ck_in_top x).1
theorem i32_hi (x : Int32) : x.toInt ≤ (2147483647 : Int) := (ck_in_top x).2
section LWB
variable {p : Program} {l : Launch} {e : Env} {R : Room} {s : State} {m : MethodId} {args : Array Value} {below : List Frame} {meth : Method} {c : Code} {H : Heap} {locs : List Loc} {cells slots : Nat} {Q : State → Prop} {pc : Nat} {ls : Array Slot} {rest : List Value} {cc : ByteArray}
/-- a boolean out of a number -/
theorem lw_bool (hx : p.tables.exec = Jvm.exec) (hb : c.code = cc) {x : Int32} (d1 : decode cc pc = .ok (.ifCond .eq 7, 3)) (d2 : decode cc (pc + 3) = .ok (.iconst 1, 1)) (d3 : decode cc (pc + 3 + 1) = .ok (.goto 4, 3)) (d4 : decode cc (pc + 7) = .ok (.iconst 0, 1))
    (kk : ∀ y : Int32, ck_in (0, 1) y → W p l e R s m args below meth c H locs cells slots Q (F0 m (pc + 8) ls (.int y :: rest))) : W p l e R s m args below meth c H locs cells slots Q (F0 m pc ls (.int x :: rest)) := by
  refine lv_if_eq (tgt := pc + 7) hx hb d1 (by omega) (fun _ => ?_) (fun _ => ?_)
  · refine lv_iconst (v := 0) hx hb d4 (by decide) ?_
    exact kk 0 ⟨by decide, by decide⟩
  · refine lv_iconst (v := 1) hx hb d2 (by decide) ?_
    refine lv_goto (tgt := pc + 8) hx hb d3 (by omega) ?_
    exact kk 1 ⟨by decide, by decide⟩
end LWB

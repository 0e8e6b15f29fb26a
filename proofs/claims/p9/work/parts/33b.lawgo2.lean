/-! calls with answers still on the stack -/
section ZL2
variable {p : Program} {l : Launch} {e : Env} {R : Room} {s : State} {m : MethodId} {args : Array Value} {below : List Frame} {meth : Method} {c : Code} {H : Heap} {locs : List Loc} {cells slots : Nat} {Q : State → Prop} {rest : List Value}
variable {D : va_G} {cl : List vw_C} {tys : List (ClassId × FieldType)} {B : Nat} {w : zz_F → zz_G → va_W} {X X2 : State → Heap → Prop} {f : zz_F} {g : zz_G} {A : Nat → Prop} {h : Nat → Nat} {fb : Nat → Int × Int} {gb : Nat → Nat → Int × Int}
variable {cc : ByteArray} {nL : Nat} {ret : Option FieldType} {Ts : List Cond} {own : String} {pc : Nat} {ls : Array Slot} {st0 : List Value}
theorem ck_goR {y : MethodName} {bytes : ByteArray} {maxL n index : Nat} {ret2 : Option FieldType} {ws : List Cond} {rm : Room} {Cn : String} {b : Addr} {As : List Value} {q : (List ck_V × ck_T) × List ck_O} (wr : va_W)
    (C : zz_Cx p m meth c cc nL ret s args Ts own D cl tys A B X) (hc : ck_c l D cl tys B w X h fb gb y ws rm q) (hI : ck_gI fb gb f g) (hT : ∀ z ∈ q.1.2, ck_in z.2.1 (f z.1)) (hs : ck_gS h q.1.1 (.ref b :: As)) (cw : CallW R s args own Cn index y bytes maxL ret2 ws rm 0 0 n)
    (hrc : ∃ cellB : Cell, H[b]? = some cellB ∧ cellB.vm.isStatics = false ∧ s.vm.findClass Cn = some cellB.cls)
    (hP : va_P D cl (wr ++ w f g) H) (hD : va_D A (wr ++ w f g)) (hS : va_S A s.heap H locs) (hn : As.length = n) (hsize : ls.size = nL) (hstack : st0 = As.reverse ++ .ref b :: rest) (hWt : (rest.map fun v => v.category).sum ≤ 8) (hdg : decode cc pc = .ok (.invokevirtual index, 3)) (hf : cells ≤ R.cells ∧ slots ≤ R.slots)
    (kk : ∀ (r : Option Value) (f1 : zz_F) (g1 : zz_G) (H1 : Heap) (locs1 : List Loc), (∃ o ∈ q.2, ck_gO h o.1 r ∧ ck_gT f f1 o.2) → ck_gI fb gb f1 g1 → va_P D cl (wr ++ w f1 g1) H1 → va_D A (wr ++ w f1 g1) → va_S A s.heap H1 locs1 → W p l e R s m args below meth c H1 locs1 cells slots Q (F0 m (pc + 3) ls (r.toList ++ rest))) :
    W p l e R s m args below meth c H locs cells slots Q (F0 m pc ls st0) :=
  zz_callV (rest := rest) wr C (hc f g H.size _ hI hT hs) cw hrc hP hD hS hn hsize hstack hWt hdg hf (fun r f1 g1 H1 locs1 hq h1 h2 h3 => by
    obtain ⟨o, ho, a1, a2, a3⟩ := hq
    exact kk r f1 g1 H1 locs1 ⟨o, ho, a1, a3⟩ a2 h1 h2 h3)
end ZL2
section LWG2
variable {p : Program} {l : Launch} {e : Env} {R : Room} {s : State} {m : MethodId} {args : Array Value} {below : List Frame} {meth : Method} {c : Code} {H : Heap} {locs : List Loc} {cells slots : Nat} {Q : State → Prop} {D : va_G} {B : Nat} {A : Nat → Prop} {h hm : Nat → Nat} {cI cZ cJ : ClassId} {ho : Nat} {f fm : zz_F} {g gm : zz_G} {pc : Nat} {ls : Array Slot} {rest st0 : List Value} {cx : Cond} {cc : ByteArray} {nL : Nat} {ret : Option FieldType} {fb : Nat → Int × Int} {gb : Nat → Nat → Int × Int}
theorem lm_goR {y : MethodName} {bytes : ByteArray} {maxL n index : Nat} {ret2 : Option FieldType} {ws : List Cond} {rm : Room} {As : List Value} {q : (List ck_V × ck_T) × List ck_O}
    (C : zz_Cx p m meth c cc nL ret s args (cx :: kk_W) "NightCyclerLaw" D vN (tyN cI cZ cJ) A B (xL B h)) (hc : ck_c l D vN (tyN cI cZ cJ) B (wM cI cZ hm) (xL B h) hm fb gb y ws rm q) (cw : CallW R s args "NightCyclerLaw" "NightCyclerModel" index y bytes maxL ret2 ws rm 0 0 n)
    (hI : ck_gI fb gb fm gm) (hT : ∀ z ∈ q.1.2, ck_in z.2.1 (fm z.1)) (hs : ck_gS hm q.1.1 (.ref (hm 0) :: As)) (hP : va_P D vN (wW cI cZ cJ ho h hm f g fm gm) H) (hD : va_D A (wW cI cZ cJ ho h hm f g fm gm)) (hS : va_S A s.heap H locs) (hn : As.length = n) (hsz : ls.size = nL) (hst : st0 = As.reverse ++ .ref (hm 0) :: rest) (hWt : (rest.map fun v => v.category).sum ≤ 8) (hd : decode cc pc = .ok (.invokevirtual index, 3)) (hf : cells ≤ R.cells ∧ slots ≤ R.slots)
    (kk : ∀ (r : Option Value) (f1 : zz_F) (g1 : zz_G) (H1 : Heap) (locs1 : List Loc), (∃ o ∈ q.2, ck_gO hm o.1 r ∧ ck_gT fm f1 o.2) → ck_gI fb gb f1 g1 → va_P D vN (wW cI cZ cJ ho h hm f g f1 g1) H1 → va_D A (wW cI cZ cJ ho h hm f g f1 g1) → va_S A s.heap H1 locs1 → W p l e R s m args below meth c H1 locs1 cells slots Q (F0 m (pc + 3) ls (r.toList ++ rest))) :
    W p l e R s m args below meth c H locs cells slots Q (F0 m pc ls st0) :=
  ck_goR (wO cI cZ cJ ho h f g) C hc hI hT hs cw (va_recv C.2.2.2.1 hP (ci := 8) (q0 := 17) rfl rfl) hP hD hS hn hsz hst hWt hd hf kk
end LWG2

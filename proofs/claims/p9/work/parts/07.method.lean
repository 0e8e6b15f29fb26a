/-! from a checked method to its contract -/
def ck_c (l : Launch) (D : va_G) (cl : List vw_C) (tys : List (ClassId × FieldType)) (B : Nat) (w : zz_F → zz_G → va_W) (X : State → Heap → Prop) (h : Nat → Nat) (fb : Nat → Int × Int) (gb : Nat → Nat → Int × Int) (y : MethodName) (ws : List Cond) (rm : Room) (q : (List ck_V × ck_T) × List ck_O) : Prop :=
  ∀ (f : zz_F) (g : zz_G) (sz : Nat) (vs : List Value), ck_gI fb gb f g → (∀ z ∈ q.1.2, ck_in z.2.1 (f z.1)) → ck_gS h q.1.1 vs → zz_c l D cl tys B w X f g sz y ws rm 0 0 vs (fun r f1 g1 => ∃ o ∈ q.2, ck_gO h o.1 r ∧ ck_gI fb gb f1 g1 ∧ ck_gT f f1 o.2)
def ck_args : Nat → List ck_V → ck_L
  | _, [] => []
  | i, a :: r => (i, a) :: ck_args (i + 1) r
def ck_in0 (q : List ck_V × ck_T) : ck_S := (0, ck_args 0 q.1, [], q.2.map (fun z => (z.1, z.2.1, false)))
theorem ck_args_ok {h : Nat → Nat} : ∀ {i : Nat} {as : List ck_V} {vs : List Value}, as.all ck_one = true → ck_gS h as vs → ∀ q ∈ ck_args i as, ∃ v, (q.1, v) ∈ lv_args i vs ∧ v.category = 1 ∧ ck_g h q.2 v
  | i, [], [], _, _, q, hq => by cases hq
  | i, a :: as, v :: vs, h1, hs, q, hq => by
    simp only [List.all_cons, Bool.and_eq_true] at h1
    have hc := ck_cat h1.1 hs.1
    have e1 : lv_args i (v :: vs) = (i, v) :: lv_args (i + 1) vs := by
      show (i, v) :: lv_args (if v.category = 2 then i + 2 else i + 1) vs = _
      rw [hc, if_neg (by decide)]
    rw [e1]
    rcases List.mem_cons.mp hq with rfl | hq
    · exact ⟨v, List.mem_cons_self, hc, hs.1⟩
    · obtain ⟨u, h2, h3⟩ := ck_args_ok h1.2 hs.2 q hq
      exact ⟨u, List.mem_cons_of_mem _ h2, h3⟩
theorem ck_sl {h : Nat → Nat} : ∀ {as : List ck_V} {vs : List Value}, as.all ck_one = true → ck_gS h as vs → (lg_sl vs).length = as.length
  | [], [], _, _ => rfl
  | a :: as, v :: vs, h1, hs => by
    simp only [List.all_cons, Bool.and_eq_true] at h1
    have hc := ck_cat h1.1 hs.1
    have ih := ck_sl h1.2 hs.2
    have e1 : lg_sl (v :: vs) = Slot.val v :: lg_sl vs := by
      show (if v.category = 2 then [Slot.val v, .second] else [Slot.val v]) ++ lg_sl vs = _
      rw [hc, if_neg (by decide)]; rfl
    rw [e1, List.length_cons, List.length_cons, ih]
def ck_rty (rt : Nat) (ret : Option FieldType) : Prop := match rt with
  | 0 => ret = none
  | 1 => ret = some .int
  | 2 => ret = some .boolean
  | _ => ret = some (.array .int)
/-- THE METHOD: its tables hold in every walk of it, the checker goes through: its contract holds -/
theorem ck_method {l : Launch} {D : va_G} {cl : List vw_C} {tys : List (ClassId × FieldType)} {B : Nat} {w : zz_F → zz_G → va_W} {X : State → Heap → Prop} {h : Nat → Nat} {fb : Nat → Int × Int} {gb : Nat → Nat → Int × Int} {y : MethodName} {ws ws' : List Cond} {rm : Room} {q : (List ck_V × ck_T) × List ck_O} {cc : ByteArray} {nL : Nat} {ret : Option FieldType}
    (P : ck_P) (E : ck_E) (rt : Nat) (cuts : List ck_S) (n : Nat) (hy : plainName y.cls = true) (hw : ws = Cond.code y cc nL ret :: ws') (hXk : zz_Xok B X)
    (hP : ∀ q ∈ P, ∀ z ∈ q.2, decode cc z.1 = .ok z.2) (h1 : q.1.1.all ck_one = true ∧ q.1.1.length ≤ nL) (hr : ck_rty rt ret)
    (hE : ∀ (p : Program) (e : Env) (s : State) (m : MethodId) (args : Array Value) (below : List Frame) (meth : Method) (c : Code) (A : Nat → Prop) (Q : State → Prop), zz_Cx p m meth c cc nL ret s args ws y.cls D cl tys A B X →
      (∀ z ∈ E.1, ck_oGet p l e rm s m args below meth c D cl A w h nL Q fb gb cc z) ∧ (∀ z ∈ E.2.1, ck_oPut p l e rm s m args below meth c D cl A w h nL Q fb gb cc z) ∧ (∀ z ∈ E.2.2.1, ck_oAld p l e rm s m args below meth c D cl A w h nL Q fb gb cc z ∧ (z.2.1 < 100 → ck_oAst p l e rm s m args below meth c D cl A w h nL Q fb gb cc z)) ∧ (∀ z ∈ E.2.2.2.1, ck_oCall p l e rm s m args below meth c D cl A w h nL Q fb gb cc z) ∧ (∀ z ∈ E.2.2.2.2.1, ck_oMath p l e rm s m args below meth c D cl A w h nL Q fb gb cc z) ∧ (∀ z ∈ E.2.2.2.2.2.1, ck_oLdc p l e rm s m args below meth c D cl A w h nL Q fb gb cc z) ∧ (∀ z ∈ E.2.2.2.2.2.2.1, ck_oSta p l e rm s m args below meth c D cl A w h nL Q fb gb cc z) ∧ (∀ z ∈ E.2.2.2.2.2.2.2.1, ck_oLdl p l e rm s m args below meth c D cl A w h nL Q fb gb cc z) ∧ E.2.2.2.2.2.2.2.2 = [])
    (hall : ck_all P E nL fb gb q.2 rt n (ck_in0 q.1 :: cuts) = true) : ck_c l D cl tys B w X h fb gb y ws rm q := by
  intro f g sz vs hI hT hs
  refine zz_of (cc := cc) (ret := ret) (maxL := nL) hy hw (by rw [ck_sl h1.1 hs]; exact h1.2) hXk ?_
  intro p e s m below meth c A ls C _ hP1 hD1 hl
  have hx := C.1.1
  have hb := C.1.2.1
  obtain ⟨e1, e2, e3, e4, e5, e6, e7, e8, e9⟩ := hE p e s m vs.toArray below meth c A (MQ below (zz_Q D cl tys w A (fun r f1 g1 => ∃ o ∈ q.2, ck_gO h o.1 r ∧ ck_gI fb gb f1 g1 ∧ ck_gT f f1 o.2)) vs.toArray s 0 0 A) C
  have K : ck_Ok p l e rm s m vs.toArray below meth c D cl A w h nL (MQ below (zz_Q D cl tys w A (fun r f1 g1 => ∃ o ∈ q.2, ck_gO h o.1 r ∧ ck_gI fb gb f1 g1 ∧ ck_gT f f1 o.2)) vs.toArray s 0 0 A) fb gb cc f P E q.2 rt := by
    refine ⟨hx, hb, fun a b ⟨q, hq, hz⟩ => hP q hq (a, b) hz, e1, e2, e3, e4, e5, e6, e7, e8, (by rw [e9]; intro z hz; cases hz), ?_⟩
    intro f1 g1 H locs pc ls1 r hI1 ho hP2 hD2 hS2 hret
    obtain ⟨o, ho, hg, hT1⟩ := ho
    have hq : ∃ o ∈ q.2, ck_gO h o.1 r ∧ ck_gI fb gb f1 g1 ∧ ck_gT f f1 o.2 := ⟨o, ho, hg, hI1, hT1⟩
    rcases hret with ⟨x, rfl, hd, hbool⟩ | ⟨v, rfl, hv, hd, h9⟩ | ⟨rfl, hd, h9⟩
    · rcases hbool with h9 | ⟨h9, b1, b2⟩
      · rw [h9] at hr
        have hr : ret = some .int := hr
        subst hr
        exact zz_reti C (vp_nar_int x) hP2 hD2 hS2 hq hd
      · rw [h9] at hr
        have hr : ret = some .boolean := hr
        subst hr
        refine zz_reti C ?_ hP2 hD2 hS2 hq hd
        rcases (show x.toInt = 0 ∨ x.toInt = 1 by have h8 : (0 : Int) ≤ x.toInt := b1; have h9 : x.toInt ≤ 1 := b2; omega) with h8 | h8
        · have h9 : x = 0 := Int32.toInt_inj.mp h8
          subst h9; rfl
        · have h9 : x = 1 := Int32.toInt_inj.mp h8
          subst h9; rfl
    · rw [h9] at hr
      have hr : ret = some (.array .int) := hr
      subst hr
      exact W.aret hx hb C.2.1 (Or.inr ⟨_, rfl⟩) hv (zz_end C hP2 hD2 hS2 hq) hS2.2.2 hd C.2.2.1
    · rw [h9] at hr
      have hr : ret = none := hr
      subst hr
      exact zz_retv C hP2 hD2 hS2 hq hd
  have hG := ck_all_ok K hall _ List.mem_cons_self
  exact hG f g s.heap [] ls [] hI (fun z hz => by
    obtain ⟨u, hu, rfl⟩ := List.mem_map.mp hz
    exact ⟨hT u hu, fun _ => rfl⟩) hP1 hD1 va_S.rf ⟨_, hl, ck_args_ok h1.1 hs⟩ trivial
section CKI
variable {p : Program} {l : Launch} {e : Env} {R : Room} {s : State} {m : MethodId} {args : Array Value} {below : List Frame} {meth : Method} {c : Code} {D : va_G} {cl : List vw_C} {tys : List (ClassId × FieldType)} {A : Nat → Prop} {B : Nat} {w : zz_F → zz_G → va_W} {X : State → Heap → Prop} {h : Nat → Nat} {nL : Nat} {Q : State → Prop} {fb : Nat → Int × Int} {gb : Nat → Nat → Int × Int} {cc : ByteArray} {ret : Option FieldType} {Ts : List Cond} {own : String}
theorem ck_gS_len {h : Nat → Nat} : ∀ {as : List ck_V} {vs : List Value}, ck_gS h as vs → vs.length = as.length
  | [], [], _ => rfl
  | a :: as, v :: vs, hs => by rw [List.length_cons, List.length_cons, ck_gS_len hs.2]
/-- a call of a checked method -/
theorem ck_callV {y : MethodName} {bytes : ByteArray} {maxL n index k : Nat} {ret2 : Option FieldType} {ws : List Cond} {rm : Room} {Cn : String} {ps : List ck_V} {tq : ck_T} {os : List ck_O}
    (C : zz_Cx p m meth c cc nL ret s args Ts own D cl tys A B X) (hc : ck_c l D cl tys B w X h fb gb y ws rm ((.inr (.inl (false, [k])) :: ps, tq), os)) (cw : CallW R s args own Cn index y bytes maxL ret2 ws rm 0 0 n) (hn : ps.length = n)
    (hrc : ∀ (f : zz_F) (g : zz_G) (H : Heap), va_P D cl (w f g) H → ∃ cellB : Cell, H[h k]? = some cellB ∧ cellB.vm.isStatics = false ∧ s.vm.findClass Cn = some cellB.cls) :
    ck_oCall p l e R s m args below meth c D cl A w h nL Q fb gb cc ((false, index), (.inr (.inl (false, [k])) :: ps, tq), os) := by
  intro f g H locs pc ls rest vs hI hpre hP hD hS hs hsz hwt hd kk
  obtain ⟨v, As, rfl, hv, hs2⟩ := ck_gS_cons hs
  rcases hv with ⟨hv, -⟩ | ⟨k1, hk, rfl⟩
  · cases hv
  · rw [List.mem_singleton] at hk
    subst hk
    exact zz_callV (w := w) [] C (hc f g H.size _ hI hpre hs) cw (hrc f g H hP) hP hD hS (by rw [ck_gS_len hs2]; exact hn) hsz (by simp) hwt hd ⟨Nat.zero_le _, Nat.zero_le _⟩ (fun r f1 g1 H1 locs1 hq hP1 hD1 hS1 => by
      obtain ⟨o, ho, h1, h2, h3⟩ := hq
      exact kk o ho r f1 g1 H1 locs1 h1 h2 h3 hP1 hD1 hS1)
theorem ck_mmax {idx : Nat} (C : zz_Cx p m meth c cc nL ret s args Ts own D cl tys A B X) (hl : (Cond.methodLink own idx Lib.Math.max.name).before args s = true) (hs : (Cond.static Lib.Math.max.name).before args s = true) (hi : (Cond.initialized "java/lang/Math").before args s = true) (hc : (Cond.code Lib.Math.max.name Lib.Math.max.code 2 (some .int)).before args s = true) (hf : 1 ≤ R.frames) (hlo : 21 ≤ R.locals) :
    ck_oMath p l e R s m args below meth c D cl A w h nL Q fb gb cc (idx, 0) := by
  intro H locs pc ls rest x y hsz hwt hd
  exact ⟨fun _ kk => va_mmax C.1.1 C.1.2.1 (C.1.2.2.1.trans hsz.symm) C.1.2.2.2.1 hl hs hi hc hf (by omega) (Nat.zero_le _) (Nat.zero_le _) hd kk, fun e1 => absurd e1 (by simp), fun e1 => absurd e1 (by simp)⟩
theorem ck_mmin {idx : Nat} (C : zz_Cx p m meth c cc nL ret s args Ts own D cl tys A B X) (hl : (Cond.methodLink own idx Lib.Math.min.name).before args s = true) (hs : (Cond.static Lib.Math.min.name).before args s = true) (hi : (Cond.initialized "java/lang/Math").before args s = true) (hc : (Cond.code Lib.Math.min.name Lib.Math.min.code 2 (some .int)).before args s = true) (hf : 1 ≤ R.frames) (hlo : 21 ≤ R.locals) :
    ck_oMath p l e R s m args below meth c D cl A w h nL Q fb gb cc (idx, 1) := by
  intro H locs pc ls rest x y hsz hwt hd
  exact ⟨fun e1 => absurd e1 (by simp), fun _ kk => va_mmin C.1.1 C.1.2.1 (C.1.2.2.1.trans hsz.symm) C.1.2.2.2.1 hl hs hi hc hf (by omega) (Nat.zero_le _) (Nat.zero_le _) hd kk, fun e1 => absurd e1 (by simp)⟩
theorem ck_mabs {idx : Nat} (C : zz_Cx p m meth c cc nL ret s args Ts own D cl tys A B X) (hl : (Cond.methodLink own idx Lib.Math.abs.name).before args s = true) (hs : (Cond.static Lib.Math.abs.name).before args s = true) (hi : (Cond.initialized "java/lang/Math").before args s = true) (hc : (Cond.code Lib.Math.abs.name Lib.Math.abs.code 1 (some .int)).before args s = true) (hf : 1 ≤ R.frames) (hlo : 21 ≤ R.locals) :
    ck_oMath p l e R s m args below meth c D cl A w h nL Q fb gb cc (idx, 2) := by
  intro H locs pc ls rest x y hsz hwt hd
  exact ⟨fun e1 => absurd e1 (by simp), fun e1 => absurd e1 (by simp), fun _ kk => va_mabs C.1.1 C.1.2.1 (C.1.2.2.1.trans hsz.symm) C.1.2.2.2.1 hl hs hi hc hf (by omega) (Nat.zero_le _) (Nat.zero_le _) hd (kk _)⟩
theorem ck_bn {x : Int32} (hx : ck_in (0, 1) x) : x = 0 ∨ x = 1 := by
  obtain ⟨b1, b2⟩ := hx
  rcases (show x.toInt = 0 ∨ x.toInt = 1 by have h8 : (0 : Int) ≤ x.toInt := b1; have h9 : x.toInt ≤ 1 := b2; omega) with h8 | h8
  · exact Or.inl (Int32.toInt_inj.mp h8)
  · exact Or.inr (Int32.toInt_inj.mp h8)
theorem ck_bnn {x : Int32} (hx : ck_in (0, 1) x) : narrow .boolean (.int x) = .int x := by
  rcases ck_bn hx with rfl | rfl <;> rfl
theorem ck_bnf {x : Int32} (hx : ck_in (0, 1) x) : fits .boolean (.int x) = true := by
  rcases ck_bn hx with rfl | rfl <;> rfl
theorem ck_bnv {x : Int32} (hx : ck_in (0, 1) x) : vp_nar .boolean x = x := by
  rcases ck_bn hx with rfl | rfl <;> rfl
end CKI

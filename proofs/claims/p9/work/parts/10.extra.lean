/-! what the class's contracts carry beside the world: words that aren't among the good ones, the static arrays, Throwable's two statics -/
def zx_ok (w : Cond) : Bool := match w with
  | .fieldLinkNest .. => true
  | .methodLinkNest .. => true
  | .declares _ => true
  | .castable .. => true
  | _ => false
theorem zx_warm {w : Cond} (hw : zx_ok w = true) {s U : State} (hW : s.WarmedH U.vm) (h : va_Nw w s) : va_Nw w U := by
  unfold zx_ok at hw
  split at hw
  · exact va_Nw.warmF hW h
  · exact va_Nw.warmM hW h
  · exact va_tabs rfl (rfl : (s.setVm U.vm).vm = U.vm) (Cond.before_warmed hW _ trivial h)
  · exact va_tabs rfl (rfl : (s.setVm U.vm).vm = U.vm) (Cond.before_warmed hW _ trivial h)
  · cases hw
theorem xn_ok : ∀ w ∈ xn_W, zx_ok w = true := by decide +kernel
/-- a static field that holds a reference or null; its class's cell lies below B -/
def zt_S (C n d : String) (B : Nat) (U : State) (H : Heap) : Prop := ∃ (c : ClassId) (k : Class) (i : Nat) (f : Field) (a : Nat) (cell : Cell) (v : Value), U.vm.findClass C = some c ∧ U.fieldFound? C n d = some (c, k, i, f) ∧ f.isStatic = true ∧ k.statics = some a ∧ H[a]? = some cell ∧ cell.vm.isStatics = true ∧ cell.cls = c ∧ f.slot < cell.slots.size ∧ k.staticTypes[f.slot]? = some f.type ∧ cell.slots[f.slot]? = some v ∧ v.isRef = true ∧ a < B
theorem zt_S.go {C n d : String} {B : Nat} {u U : State} {H H1 : Heap} (hvm : u.vm.Alike U.vm) (hq : ∀ a : Nat, a < H.size → a < B → H1[a]? = H[a]?) (h : zt_S C n d B u H) : zt_S C n d B U H1 := by
  obtain ⟨c, k, i, f, a, cell, v, h1, h2, h3, h4, h5, h6, h7, h8, h9, h10, h11, h12⟩ := h
  obtain ⟨k', hi', he⟩ := State.fieldFound?_setVm hvm h2
  exact ⟨c, k', i, f, a, cell, v, by rw [hvm.findClass]; exact h1, hi', h3, by rw [he]; exact h4, by rw [hq a (Array.getElem?_eq_some_iff.mp h5).1 h12]; exact h5, h6, h7, h8, by rw [he]; exact h9, h10, h11, h12⟩
theorem zt_S.lays {C n d : String} {B : Nat} {s : State} {args : Array Value} (h : zt_S C n d B s s.heap) : (Cond.laysStatic C n d).before args s = true := by
  obtain ⟨c, k, i, f, a, cell, v, h1, h2, h3, h4, h5, h6, h7, h8, h9, -, -, -⟩ := h
  show (Cond.laysStatic C n d).holds args s none s [] = true
  exact Cond.laysStatic_of h1 h2 h3 h4 h5 h6 h7 h8 h9
theorem zt_S.isRef {C n d : String} {B : Nat} {s : State} {args : Array Value} (h : zt_S C n d B s s.heap) : (Cond.isRef (.static C n d)).before args s = true := by
  obtain ⟨c, k, i, f, a, cell, v, h1, h2, h3, h4, h5, h6, h7, h8, h9, h10, h11, -⟩ := h
  have he : (Term.static C n d).eval args s none [] s = some v := by
    simp [Term.eval, State.fieldNamed?, h2, h3, h4, h5, h6, h10]
  simp only [Cond.before, Cond.holds, Cond.value, he]
  cases v <;> simp_all [Value.isRef]
def zlow : Nat → Int32 := fun i => match i with
  | 0 => 1 | 1 => 500 | 2 => 1 | 3 => 0 | 4 => 50 | 5 => 1000 | 6 => 1 | 7 => 3000 | _ => 0
def zhigh : Nat → Int32 := fun i => match i with
  | 0 => 12 | 1 => 30000 | 2 => 240 | 3 => 30000 | 4 => 100 | 5 => 40000 | 6 => 900 | 7 => 3900 | _ => 20000
def xN (B : Nat) (h : Nat → Nat) (U : State) (H : Heap) : Prop :=
  (∀ w ∈ xn_W, va_Nw w U) ∧ (va_Z "NightCycler$Prescription" "LOWEST" "[I" (.ref (h 16)) (fun q => B ≤ q) U H ∧ va_T .int (h 16) 9 (fun j => .int (zlow j)) (fun q => B ≤ q) U H) ∧ (va_Z "NightCycler$Prescription" "HIGHEST" "[I" (.ref (h 17)) (fun q => B ≤ q) U H ∧ va_T .int (h 17) 9 (fun j => .int (zhigh j)) (fun q => B ≤ q) U H) ∧
  zt_S "java/lang/Throwable" "UNASSIGNED_STACK" "[Ljava/lang/StackTraceElement;" B U H ∧ zt_S "java/lang/Throwable" "SUPPRESSED_SENTINEL" "Ljava/util/List;" B U H
theorem xN_ok {B : Nat} {h : Nat → Nat} : zz_Xok B (xN B h) := by
  intro s U H H1 hW hX hq
  obtain ⟨h1, ⟨h2, h3⟩, ⟨h4, h5⟩, h6, h7⟩ := hX
  have hq' : ∀ a : Nat, a < H.size → ¬ B ≤ a → H1[a]? = H[a]? := fun a h1 h2 => hq a h1 (Nat.not_le.mp h2)
  exact ⟨fun w hw => zx_warm (xn_ok w hw) hW (h1 w hw), ⟨(h2.moved hW.alike).kept hq', (h3.moved hW.alike).kept hq'⟩, ⟨(h4.moved hW.alike).kept hq', (h5.moved hW.alike).kept hq'⟩, h6.go hW.alike hq, h7.go hW.alike hq⟩

/-! the checker is sound -/
def ck_G (p : Program) (l : Launch) (e : Env) (R : Room) (s : State) (m : MethodId) (args : Array Value) (below : List Frame) (meth : Method) (c : Code) (D : va_G) (cl : List vw_C) (A : Nat → Prop) (w : zz_F → zz_G → va_W) (h : Nat → Nat) (nL : Nat) (Q : State → Prop) (f0 : zz_F) (fb : Nat → Int × Int) (gb : Nat → Nat → Int × Int) (t : ck_S) : Prop :=
  ∀ (f : zz_F) (g : zz_G) (H : Heap) (locs : List Loc) (ls : Array Slot) (st : List Value), ck_gI fb gb f g → ck_gT f0 f t.2.2.2 → va_P D cl (w f g) H → va_D A (w f g) → va_S A s.heap H locs → ck_gL h ls nL t.2.1 → ck_gS h t.2.2.1 st → W p l e R s m args below meth c H locs 0 0 Q (F0 m t.1 ls st)
def ck_oGet (p : Program) (l : Launch) (e : Env) (R : Room) (s : State) (m : MethodId) (args : Array Value) (below : List Frame) (meth : Method) (c : Code) (D : va_G) (cl : List vw_C) (A : Nat → Prop) (w : zz_F → zz_G → va_W) (h : Nat → Nat) (nL : Nat) (Q : State → Prop) (fb : Nat → Int × Int) (gb : Nat → Nat → Int × Int) (cc : ByteArray) (q : Nat × Nat × (Nat ⊕ Nat)) : Prop :=
  ∀ (f : zz_F) (g : zz_G) (H : Heap) (locs : List Loc) (pc : Nat) (ls : Array Slot) (rest : List Value), va_P D cl (w f g) H → decode cc pc = .ok (.getfield q.1, 3) → W p l e R s m args below meth c H locs 0 0 Q (F0 m (pc + 3) ls ((match q.2.2 with | .inl k => .int (f k) | .inr n => .ref (h n)) :: rest)) → W p l e R s m args below meth c H locs 0 0 Q (F0 m pc ls (.ref (h q.2.1) :: rest))
def ck_oPut (p : Program) (l : Launch) (e : Env) (R : Room) (s : State) (m : MethodId) (args : Array Value) (below : List Frame) (meth : Method) (c : Code) (D : va_G) (cl : List vw_C) (A : Nat → Prop) (w : zz_F → zz_G → va_W) (h : Nat → Nat) (nL : Nat) (Q : State → Prop) (fb : Nat → Int × Int) (gb : Nat → Nat → Int × Int) (cc : ByteArray) (q : Nat × Nat × Nat × Bool) : Prop :=
  ∀ (f : zz_F) (g : zz_G) (H : Heap) (locs : List Loc) (pc : Nat) (ls : Array Slot) (rest : List Value) (x : Int32), (q.2.2.2 = true → ck_in (0, 1) x) → va_P D cl (w f g) H → va_D A (w f g) → va_S A s.heap H locs → decode cc pc = .ok (.putfield q.1, 3) →
    (∀ (H1 : Heap) (locs1 : List Loc), va_P D cl (w (upd f q.2.2.1 x) g) H1 → va_D A (w (upd f q.2.2.1 x) g) → va_S A s.heap H1 locs1 → W p l e R s m args below meth c H1 locs1 0 0 Q (F0 m (pc + 3) ls rest)) → W p l e R s m args below meth c H locs 0 0 Q (F0 m pc ls (.int x :: .ref (h q.2.1) :: rest))
def ck_oAld (p : Program) (l : Launch) (e : Env) (R : Room) (s : State) (m : MethodId) (args : Array Value) (below : List Frame) (meth : Method) (c : Code) (D : va_G) (cl : List vw_C) (A : Nat → Prop) (w : zz_F → zz_G → va_W) (h : Nat → Nat) (nL : Nat) (Q : State → Prop) (fb : Nat → Int × Int) (gb : Nat → Nat → Int × Int) (cc : ByteArray) (q : Nat × Nat × Nat × Bool) : Prop :=
  ∀ (f : zz_F) (g : zz_G) (H : Heap) (locs : List Loc) (pc : Nat) (ls : Array Slot) (rest : List Value) (i : Int32), ck_gI fb gb f g → va_P D cl (w f g) H → va_S A s.heap H locs → vp_in i q.2.2.1 → decode cc pc = .ok (if q.2.2.2 then .baload else .iaload, 1) →
    (∀ x : Int32, ck_in (gb q.2.1 i.toNatClampNeg) x → W p l e R s m args below meth c H locs 0 0 Q (F0 m (pc + 1) ls (.int x :: rest))) → W p l e R s m args below meth c H locs 0 0 Q (F0 m pc ls (.int i :: .ref (h q.1) :: rest))
def ck_oAst (p : Program) (l : Launch) (e : Env) (R : Room) (s : State) (m : MethodId) (args : Array Value) (below : List Frame) (meth : Method) (c : Code) (D : va_G) (cl : List vw_C) (A : Nat → Prop) (w : zz_F → zz_G → va_W) (h : Nat → Nat) (nL : Nat) (Q : State → Prop) (fb : Nat → Int × Int) (gb : Nat → Nat → Int × Int) (cc : ByteArray) (q : Nat × Nat × Nat × Bool) : Prop :=
  ∀ (f : zz_F) (g : zz_G) (H : Heap) (locs : List Loc) (pc : Nat) (ls : Array Slot) (rest : List Value) (i x : Int32), (q.2.2.2 = true → ck_in (0, 1) x) → va_P D cl (w f g) H → va_D A (w f g) → va_S A s.heap H locs → vp_in i q.2.2.1 → decode cc pc = .ok (if q.2.2.2 then .bastore else .iastore, 1) →
    (∀ (H1 : Heap) (locs1 : List Loc), va_P D cl (w f (zz_v g q.2.1 (upd (g q.2.1) i.toNatClampNeg x))) H1 → va_D A (w f (zz_v g q.2.1 (upd (g q.2.1) i.toNatClampNeg x))) → va_S A s.heap H1 locs1 → W p l e R s m args below meth c H1 locs1 0 0 Q (F0 m (pc + 1) ls rest)) → W p l e R s m args below meth c H locs 0 0 Q (F0 m pc ls (.int x :: .int i :: .ref (h q.1) :: rest))
/-- what an outcome says of the answer -/
def ck_gO (h : Nat → Nat) (o : Option ck_V ⊕ String) (r : Option Value) : Prop := match o with
  | .inl none => r = none
  | .inl (some a) => ∃ v, r = some v ∧ ck_g h a v
  | .inr _ => False
def ck_oCall (p : Program) (l : Launch) (e : Env) (R : Room) (s : State) (m : MethodId) (args : Array Value) (below : List Frame) (meth : Method) (c : Code) (D : va_G) (cl : List vw_C) (A : Nat → Prop) (w : zz_F → zz_G → va_W) (h : Nat → Nat) (nL : Nat) (Q : State → Prop) (fb : Nat → Int × Int) (gb : Nat → Nat → Int × Int) (cc : ByteArray) (q : ck_C) : Prop :=
  ∀ (f : zz_F) (g : zz_G) (H : Heap) (locs : List Loc) (pc : Nat) (ls : Array Slot) (rest : List Value) (vs : List Value), ck_gI fb gb f g → (∀ z ∈ q.2.1.2, ck_in z.2.1 (f z.1)) → va_P D cl (w f g) H → va_D A (w f g) → va_S A s.heap H locs → ck_gS h q.2.1.1 vs → ls.size = nL → (rest.map fun v => v.category).sum ≤ 8 →
    decode cc pc = .ok (if q.1.1 then .invokestatic q.1.2 else .invokevirtual q.1.2, 3) →
    (∀ o ∈ q.2.2, ∀ (r : Option Value) (f1 : zz_F) (g1 : zz_G) (H1 : Heap) (locs1 : List Loc), ck_gO h o.1 r → ck_gI fb gb f1 g1 → ck_gT f f1 o.2 → va_P D cl (w f1 g1) H1 → va_D A (w f1 g1) → va_S A s.heap H1 locs1 → W p l e R s m args below meth c H1 locs1 0 0 Q (F0 m (pc + 3) ls (r.toList ++ rest))) →
    W p l e R s m args below meth c H locs 0 0 Q (F0 m pc ls (vs.reverse ++ rest))
def ck_oMath (p : Program) (l : Launch) (e : Env) (R : Room) (s : State) (m : MethodId) (args : Array Value) (below : List Frame) (meth : Method) (c : Code) (D : va_G) (cl : List vw_C) (A : Nat → Prop) (w : zz_F → zz_G → va_W) (h : Nat → Nat) (nL : Nat) (Q : State → Prop) (fb : Nat → Int × Int) (gb : Nat → Nat → Int × Int) (cc : ByteArray) (q : Nat × Nat) : Prop :=
  ∀ (H : Heap) (locs : List Loc) (pc : Nat) (ls : Array Slot) (rest : List Value) (x y : Int32), ls.size = nL → (rest.map fun v => v.category).sum ≤ 8 → decode cc pc = .ok (.invokestatic q.1, 3) →
    ((q.2 = 0 → W p l e R s m args below meth c H locs 0 0 Q (F0 m (pc + 3) ls (.int (if x < y then y else x) :: rest)) → W p l e R s m args below meth c H locs 0 0 Q (F0 m pc ls (.int y :: .int x :: rest))) ∧
     (q.2 = 1 → W p l e R s m args below meth c H locs 0 0 Q (F0 m (pc + 3) ls (.int (if y < x then y else x) :: rest)) → W p l e R s m args below meth c H locs 0 0 Q (F0 m pc ls (.int y :: .int x :: rest))) ∧
     (q.2 = 2 → (∀ z : Int32, W p l e R s m args below meth c H locs 0 0 Q (F0 m (pc + 3) ls (.int z :: rest))) → W p l e R s m args below meth c H locs 0 0 Q (F0 m pc ls (.int x :: rest))))
def ck_oLdc (p : Program) (l : Launch) (e : Env) (R : Room) (s : State) (m : MethodId) (args : Array Value) (below : List Frame) (meth : Method) (c : Code) (D : va_G) (cl : List vw_C) (A : Nat → Prop) (w : zz_F → zz_G → va_W) (h : Nat → Nat) (nL : Nat) (Q : State → Prop) (fb : Nat → Int × Int) (gb : Nat → Nat → Int × Int) (cc : ByteArray) (q : Nat × Int32) : Prop :=
  ∀ (H : Heap) (locs : List Loc) (pc : Nat) (ls : Array Slot) (rest : List Value), decode cc pc = .ok (.ldc q.1, 2) → W p l e R s m args below meth c H locs 0 0 Q (F0 m (pc + 2) ls (.int q.2 :: rest)) → W p l e R s m args below meth c H locs 0 0 Q (F0 m pc ls rest)
def ck_oLdl (p : Program) (l : Launch) (e : Env) (R : Room) (s : State) (m : MethodId) (args : Array Value) (below : List Frame) (meth : Method) (c : Code) (D : va_G) (cl : List vw_C) (A : Nat → Prop) (w : zz_F → zz_G → va_W) (h : Nat → Nat) (nL : Nat) (Q : State → Prop) (fb : Nat → Int × Int) (gb : Nat → Nat → Int × Int) (cc : ByteArray) (q : Nat) : Prop :=
  ∀ (H : Heap) (locs : List Loc) (pc : Nat) (ls : Array Slot) (rest : List Value), decode cc pc = .ok (.ldc2_w q, 3) → (∀ z : Int64, W p l e R s m args below meth c H locs 0 0 Q (F0 m (pc + 3) ls (.long z :: rest))) → W p l e R s m args below meth c H locs 0 0 Q (F0 m pc ls rest)
def ck_oSta (p : Program) (l : Launch) (e : Env) (R : Room) (s : State) (m : MethodId) (args : Array Value) (below : List Frame) (meth : Method) (c : Code) (D : va_G) (cl : List vw_C) (A : Nat → Prop) (w : zz_F → zz_G → va_W) (h : Nat → Nat) (nL : Nat) (Q : State → Prop) (fb : Nat → Int × Int) (gb : Nat → Nat → Int × Int) (cc : ByteArray) (q : Nat × Nat) : Prop :=
  ∀ (H : Heap) (locs : List Loc) (pc : Nat) (ls : Array Slot) (rest : List Value), va_S A s.heap H locs → decode cc pc = .ok (.getstatic q.1, 3) → W p l e R s m args below meth c H locs 0 0 Q (F0 m (pc + 3) ls (.ref (h q.2) :: rest)) → W p l e R s m args below meth c H locs 0 0 Q (F0 m pc ls rest)
def ck_oThr (p : Program) (l : Launch) (e : Env) (R : Room) (s : State) (m : MethodId) (args : Array Value) (below : List Frame) (meth : Method) (c : Code) (D : va_G) (cl : List vw_C) (A : Nat → Prop) (w : zz_F → zz_G → va_W) (h : Nat → Nat) (nL : Nat) (Q : State → Prop) (fb : Nat → Int × Int) (gb : Nat → Nat → Int × Int) (cc : ByteArray) (f0 : zz_F) (outs : List ck_O) (q : Nat × Nat × String) : Prop :=
  ∀ (f : zz_F) (g : zz_G) (H : Heap) (locs : List Loc) (pc : Nat) (ls : Array Slot) (st : List Value), ck_gI fb gb f g → (∃ o ∈ outs, o.1 = .inr q.2.2 ∧ ck_gT f0 f o.2) → va_P D cl (w f g) H → va_D A (w f g) → va_S A s.heap H locs → ls.size = nL → (st.map fun v => v.category).sum ≤ 8 →
    decode cc pc = .ok (.new q.1, 3) → decode cc (pc + 3) = .ok (.dup, 1) → decode cc (pc + 4) = .ok (.invokespecial q.2.1, 3) → decode cc (pc + 7) = .ok (.athrow, 1) → W p l e R s m args below meth c H locs 0 0 Q (F0 m pc ls st)
def ck_oRet (p : Program) (l : Launch) (e : Env) (R : Room) (s : State) (m : MethodId) (args : Array Value) (below : List Frame) (meth : Method) (c : Code) (D : va_G) (cl : List vw_C) (A : Nat → Prop) (w : zz_F → zz_G → va_W) (h : Nat → Nat) (nL : Nat) (Q : State → Prop) (fb : Nat → Int × Int) (gb : Nat → Nat → Int × Int) (cc : ByteArray) (f0 : zz_F) (outs : List ck_O) (rt : Nat) : Prop :=
  ∀ (f : zz_F) (g : zz_G) (H : Heap) (locs : List Loc) (pc : Nat) (ls : Array Slot) (r : Option Value), ck_gI fb gb f g → (∃ o ∈ outs, ck_gO h o.1 r ∧ ck_gT f0 f o.2) → va_P D cl (w f g) H → va_D A (w f g) → va_S A s.heap H locs →
    ((∃ x : Int32, r = some (.int x) ∧ decode cc pc = .ok (.ireturn, 1) ∧ (rt = 1 ∨ (rt = 2 ∧ ck_in (0, 1) x))) ∨ (∃ v : Value, r = some v ∧ (v = .null ∨ ∃ a, v = .ref a) ∧ decode cc pc = .ok (.areturn, 1) ∧ rt = 3) ∨ (r = none ∧ decode cc pc = .ok (.return_, 1) ∧ rt = 0)) → W p l e R s m args below meth c H locs 0 0 Q (F0 m pc ls r.toList)
theorem ck_gS_cons {h : Nat → Nat} {a : ck_V} {r : List ck_V} {st : List Value} (hs : ck_gS h (a :: r) st) : ∃ v t, st = v :: t ∧ ck_g h a v ∧ ck_gS h r t := by
  match st, hs with
  | v :: t, hs => exact ⟨v, t, rfl, hs.1, hs.2⟩
theorem ck_wt_ok {h : Nat → Nat} : ∀ {r : List ck_V} {st : List Value}, ck_gS h r st → (st.map fun v => v.category).sum = ck_wt r
  | [], [], _ => rfl
  | a :: r, v :: t, hs => by
    have ih := ck_wt_ok hs.2
    have hc : v.category = if ck_one a then 1 else 2 := by
      by_cases h1 : ck_one a = true
      · rw [ck_cat h1 hs.1, if_pos h1]
      · rw [if_neg h1]
        match a, h1, hs.1 with
        | .inl q, h1, _ => exact absurd rfl h1
        | .inr (.inl q), h1, _ => exact absurd rfl h1
        | .inr (.inr _), _, hg => obtain ⟨x, rfl⟩ := hg; rfl
    simp only [ck_wt, List.map_cons, List.sum_cons] at ih ⊢
    rw [ih, hc]
theorem ck_leS_ok {h : Nat → Nat} : ∀ {a b : List ck_V} {st : List Value}, ck_leS a b = true → ck_gS h a st → ck_gS h b st
  | [], [], [], _, _ => trivial
  | a :: r, b :: t, v :: st, hl, hs => by
    simp only [ck_leS, Bool.and_eq_true] at hl
    exact ⟨ck_le_ok hl.1 hs.1, ck_leS_ok hl.2 hs.2⟩
theorem ck_pop_ok {h : Nat → Nat} : ∀ {n : Nat} {acc st : List ck_V} {z : List ck_V × List ck_V} {va vs : List Value}, ck_pop n acc st = some z → ck_gS h acc va → ck_gS h st vs → ∃ v1 v2, ck_gS h z.1 v1 ∧ ck_gS h z.2 v2 ∧ v1.reverse ++ v2 = va.reverse ++ vs
  | 0, acc, st, z, va, vs, hz, ha, hs => by
    cases hz
    exact ⟨va, vs, ha, hs, rfl⟩
  | n + 1, acc, [], z, va, vs, hz, ha, hs => by cases hz
  | n + 1, acc, a :: st, z, va, vs, hz, ha, hs => by
    obtain ⟨v, t, rfl, h1, h2⟩ := ck_gS_cons hs
    obtain ⟨v1, v2, h3, h4, h5⟩ := ck_pop_ok (va := v :: va) (n := n) (acc := a :: acc) hz ⟨h1, ha⟩ h2
    exact ⟨v1, v2, h3, h4, by rw [h5]; simp⟩
theorem ck_ft_in {k : Nat} {z : (Int × Int) × Bool} : ∀ {o : ck_T}, ck_ft k o = some z → (k, z) ∈ o
  | [], h => by cases h
  | q :: r, h => by
    unfold ck_ft at h
    split at h
    · rename_i e; subst e; cases h; exact List.mem_cons_self
    · exact List.mem_cons_of_mem _ (ck_ft_in h)
theorem ck_cb_ok {fb : Nat → Int × Int} {f0 f f1 : zz_F} {o tk : ck_T} (h0 : ∀ k, ck_in (fb k) (f1 k)) (ho : ck_gT f f1 o) (hT : ck_gT f0 f tk) : ck_gT f0 f1 (ck_cb fb o tk) := by
  intro q hq
  obtain ⟨r, hr, rfl⟩ := List.mem_map.mp hq
  cases hz : ck_ft r.1 o with
  | none => exact ⟨h0 _, fun h => by cases h⟩
  | some z =>
    obtain ⟨h1, h2⟩ := ho _ (ck_ft_in hz)
    dsimp only at h1 h2 ⊢
    by_cases hb : z.2 = true
    · rw [if_pos hb]; exact ⟨h1, fun h => by cases h⟩
    · rw [if_neg hb]
      have h3 := h2 (by simpa using hb)
      obtain ⟨h4, h5⟩ := hT r hr
      rw [h3]
      exact ⟨h4, h5⟩
theorem ck_ar_in {b : Bool} {k : Nat} {z : Nat × Nat} : ∀ {ars : List (Nat × Nat × Nat × Bool)}, ck_ar b k ars = some z → (k, z.1, z.2, b) ∈ ars
  | [], h => by cases h
  | q :: r, h => by
    unfold ck_ar at h
    split at h
    · rename_i e
      obtain ⟨e1, e2⟩ := e
      subst e1; subst e2; cases h; exact List.mem_cons_self
    · exact List.mem_cons_of_mem _ (ck_ar_in h)
theorem ck_vp {q : Int × Int} {i : Int32} {n : Nat} (hi : ck_in q i) (h1 : 0 ≤ q.1) (h2 : q.2 < n) : vp_in i n := vp_in_iff.mpr ⟨Int.le_trans h1 hi.1, Int.lt_of_le_of_lt hi.2 h2⟩
theorem ck_ix {q : Int × Int} {i : Int32} (hi : ck_in q i) (h1 : 0 ≤ q.1) : q.1.toNat ≤ i.toNatClampNeg ∧ i.toNatClampNeg ≤ q.1.toNat + (q.2 - q.1).toNat := by
  have h2 : i.toNatClampNeg = i.toInt.toNat := rfl
  obtain ⟨h3, h4⟩ := hi
  omega
section CK
variable {p : Program} {l : Launch} {e : Env} {R : Room} {s : State} {m : MethodId} {args : Array Value} {below : List Frame} {meth : Method} {c : Code} {D : va_G} {cl : List vw_C} {A : Nat → Prop} {w : zz_F → zz_G → va_W} {h : Nat → Nat} {nL : Nat} {Q : State → Prop} {f0 : zz_F} {fb : Nat → Int × Int} {gb : Nat → Nat → Int × Int} {cc : ByteArray}
variable {H : Heap} {locs : List Loc} {pc : Nat} {ls : Array Slot} {rest : List Value} {als : ck_L} {st : List ck_V} {tk : ck_T} {L : List ck_S} {i : Instr × Nat} {P : ck_P} {E : ck_E} {outs : List ck_O} {rt : Nat}
theorem ck_li_w (hx : p.tables.exec = Jvm.exec) (hb : c.code = cc) {k : Nat} {x : Int32} (hk : ck_li i = some k) (hd : decode cc pc = .ok i) (hl : ls[k]? = some (.val (.int x))) (kk : W p l e R s m args below meth c H locs 0 0 Q (F0 m (pc + i.2) ls (.int x :: rest))) : W p l e R s m args below meth c H locs 0 0 Q (F0 m pc ls rest) := by
  unfold ck_li at hk
  split at hk
  · cases hk; exact lv_iload_n hx hb hd rfl hl kk
  · cases hk; exact lv_iload hx hb hd hl kk
  · cases hk
theorem ck_ra_w (hx : p.tables.exec = Jvm.exec) (hb : c.code = cc) {k : Nat} {v : Value} (hv : v = .null ∨ ∃ a, v = .ref a) (hk : ck_ra i = some k) (hd : decode cc pc = .ok i) (hl : ls[k]? = some (.val v)) (kk : W p l e R s m args below meth c H locs 0 0 Q (F0 m (pc + i.2) ls (v :: rest))) : W p l e R s m args below meth c H locs 0 0 Q (F0 m pc ls rest) := by
  unfold ck_ra at hk
  rcases hv with rfl | ⟨a, rfl⟩
  · split at hk
    · cases hk; exact lv_aload_nN hx hb hd rfl hl kk
    · cases hk; exact lv_aloadN hx hb hd hl kk
    · cases hk
  · split at hk
    · cases hk; exact lv_aload_n hx hb hd rfl hl kk
    · cases hk; exact lv_aload hx hb hd hl kk
    · cases hk
theorem ck_kv_w (hx : p.tables.exec = Jvm.exec) (hb : c.code = cc) {v : Int32} (hk : ck_kv i = some v) (hd : decode cc pc = .ok i) (kk : W p l e R s m args below meth c H locs 0 0 Q (F0 m (pc + i.2) ls (.int v :: rest))) : W p l e R s m args below meth c H locs 0 0 Q (F0 m pc ls rest) := by
  unfold ck_kv at hk
  split at hk
  · cases hk; exact lv_iconst hx hb hd rfl kk
  · cases hk; exact lv_bipush hx hb hd rfl kk
  · cases hk; exact lv_sipush hx hb hd rfl kk
  · cases hk
theorem ck_b2_w (hx : p.tables.exec = Jvm.exec) (hb : c.code = cc) {k : Nat} {x y : Int32} (hk : ck_b2 i = some k) (hd : decode cc pc = .ok i) (kk : W p l e R s m args below meth c H locs 0 0 Q (F0 m (pc + 1) ls (.int (ck_bo k x y) :: rest))) : W p l e R s m args below meth c H locs 0 0 Q (F0 m pc ls (.int y :: .int x :: rest)) := by
  unfold ck_b2 at hk
  split at hk
  · cases hk; exact lv_iadd hx hb hd kk
  · cases hk; exact lv_isub hx hb hd kk
  · cases hk; exact lv_imul hx hb hd kk
  · cases hk; exact lv_iand hx hb hd kk
  · cases hk; exact lv_ior hx hb hd kk
  · cases hk; exact lv_ixor hx hb hd kk
  · cases hk; exact lv_ishl hx hb hd kk
  · cases hk; exact lv_ishr hx hb hd kk
  · cases hk
theorem ck_c0_w (hx : p.tables.exec = Jvm.exec) (hb : c.code = cc) {o : Nat × Int} {x : Int32} (hk : ck_c0 i = some o) (hd : decode cc pc = .ok i) (h0 : 0 ≤ (pc : Int) + o.2)
    (kt : ck_ho o.1 x 0 → W p l e R s m args below meth c H locs 0 0 Q (F0 m ((pc : Int) + o.2).toNat ls rest)) (kf : ck_ho (ck_neg o.1) x 0 → W p l e R s m args below meth c H locs 0 0 Q (F0 m (pc + 3) ls rest)) : W p l e R s m args below meth c H locs 0 0 Q (F0 m pc ls (.int x :: rest)) := by
  have ht : (pc : Int) + o.2 = (((pc : Int) + o.2).toNat : Int) := (Int.toNat_of_nonneg h0).symm
  have kf' : ¬ ck_ho o.1 x 0 → W p l e R s m args below meth c H locs 0 0 Q (F0 m (pc + 3) ls rest) := fun q => kf (ck_neg_ok q)
  unfold ck_c0 at hk
  split at hk
  · cases hk; exact lv_if_eq hx hb hd ht kt kf'
  · cases hk; exact lv_if_ne hx hb hd ht kt kf
  · cases hk; exact lv_if_lt hx hb hd ht kt kf'
  · cases hk; exact lv_if_ge hx hb hd ht kt kf'
  · cases hk; exact lv_if_gt hx hb hd ht kt kf'
  · cases hk; exact lv_if_le hx hb hd ht kt kf'
  · cases hk
theorem ck_cj_w (hx : p.tables.exec = Jvm.exec) (hb : c.code = cc) {o : Nat × Int} {x y : Int32} (hk : ck_cj i = some o) (hd : decode cc pc = .ok i) (h0 : 0 ≤ (pc : Int) + o.2)
    (kt : ck_ho o.1 x y → W p l e R s m args below meth c H locs 0 0 Q (F0 m ((pc : Int) + o.2).toNat ls rest)) (kf : ck_ho (ck_neg o.1) x y → W p l e R s m args below meth c H locs 0 0 Q (F0 m (pc + 3) ls rest)) : W p l e R s m args below meth c H locs 0 0 Q (F0 m pc ls (.int y :: .int x :: rest)) := by
  have ht : (pc : Int) + o.2 = (((pc : Int) + o.2).toNat : Int) := (Int.toNat_of_nonneg h0).symm
  have kf' : ¬ ck_ho o.1 x y → W p l e R s m args below meth c H locs 0 0 Q (F0 m (pc + 3) ls rest) := fun q => kf (ck_neg_ok q)
  unfold ck_cj at hk
  split at hk
  · cases hk; exact lv_icmp_eq hx hb hd ht kt kf'
  · cases hk; exact lv_icmp_ne hx hb hd ht kt kf
  · cases hk; exact lv_icmp_lt hx hb hd ht kt kf'
  · cases hk; exact lv_icmp_ge hx hb hd ht kt kf'
  · cases hk; exact lv_icmp_gt hx hb hd ht kt kf'
  · cases hk; exact lv_icmp_le hx hb hd ht kt kf'
  · cases hk
/-- both ways of a comparison -/
theorem ck_br_ok {o : Nat × Int} {x y : Int × Int} (hh : ck_br pc o.2 o.1 x y als st tk = some L) (hL : ∀ t ∈ L, ck_G p l e R s m args below meth c D cl A w h nL Q f0 fb gb t) {u v : Int32} (hu : ck_in x u) (hv : ck_in y v) {f : zz_F} {g : zz_G} (hI : ck_gI fb gb f g) (hT : ck_gT f0 f tk) (hP : va_P D cl (w f g) H) (hD : va_D A (w f g)) (hS : va_S A s.heap H locs) (hl : ck_gL h ls nL als) (hs : ck_gS h st rest) :
    0 ≤ (pc : Int) + o.2 ∧ (ck_ho o.1 u v → W p l e R s m args below meth c H locs 0 0 Q (F0 m ((pc : Int) + o.2).toNat ls rest)) ∧ (ck_ho (ck_neg o.1) u v → W p l e R s m args below meth c H locs 0 0 Q (F0 m (pc + 3) ls rest)) := by
  unfold ck_br at hh
  split at hh
  · rename_i h0
    cases hh
    refine ⟨h0, fun q => ?_, fun q => ?_⟩
    · obtain ⟨r, e1, -⟩ := ck_rf_ok hu hv q
      rw [e1] at hL
      exact hL (((pc : Int) + o.2).toNat, als, st, tk) (List.mem_append_left _ List.mem_cons_self) f g H locs ls rest hI hT hP hD hS hl hs
    · obtain ⟨r, e1, -⟩ := ck_rf_ok hu hv q
      rw [e1] at hL
      exact hL (pc + 3, als, st, tk) (List.mem_append_right _ List.mem_cons_self) f g H locs ls rest hI hT hP hD hS hl hs
  · cases hh
theorem ck_bl_ok {o : Nat × Int} {k : Nat} {x y : Int × Int} (hh : ck_bl pc o.2 o.1 k x y als st tk = some L) (hL : ∀ t ∈ L, ck_G p l e R s m args below meth c D cl A w h nL Q f0 fb gb t) {u v : Int32} (hk : ls[k]? = some (.val (.int u))) (hu : ck_in x u) (hv : ck_in y v) {f : zz_F} {g : zz_G} (hI : ck_gI fb gb f g) (hT : ck_gT f0 f tk) (hP : va_P D cl (w f g) H) (hD : va_D A (w f g)) (hS : va_S A s.heap H locs) (hl : ck_gL h ls nL als) (hs : ck_gS h st rest) :
    0 ≤ (pc : Int) + o.2 ∧ (ck_ho o.1 u v → W p l e R s m args below meth c H locs 0 0 Q (F0 m ((pc : Int) + o.2).toNat ls rest)) ∧ (ck_ho (ck_neg o.1) u v → W p l e R s m args below meth c H locs 0 0 Q (F0 m (pc + 3) ls rest)) := by
  have hset : ∀ {r : Int × Int}, ck_in r u → ck_gL h ls nL (ck_set k (.inl r) als) := by
    intro r hr
    obtain ⟨lv, h1, h2⟩ := hl
    refine ⟨(k, .int u) :: lv, ⟨h1.1, h1.2.1, fun q hq => ?_⟩, fun q hq => ?_⟩
    · rcases List.mem_cons.mp hq with rfl | hq
      · exact hk
      · exact h1.2.2 q hq
    · rcases List.mem_cons.mp hq with rfl | hq
      · exact ⟨.int u, List.mem_cons_self, rfl, u, rfl, hr⟩
      · obtain ⟨v1, h3, h4⟩ := h2 q (List.mem_filter.mp hq).1
        exact ⟨v1, List.mem_cons_of_mem _ h3, h4⟩
  unfold ck_bl at hh
  split at hh
  · rename_i h0
    cases hh
    refine ⟨h0, fun q => ?_, fun q => ?_⟩
    · obtain ⟨r, e1, hr⟩ := ck_rf_ok hu hv q
      rw [e1] at hL
      exact hL (((pc : Int) + o.2).toNat, ck_set k (.inl r) als, st, tk) (List.mem_append_left _ List.mem_cons_self) f g H locs ls rest hI hT hP hD hS (hset hr) hs
    · obtain ⟨r, e1, hr⟩ := ck_rf_ok hu hv q
      rw [e1] at hL
      exact hL (pc + 3, ck_set k (.inl r) als, st, tk) (List.mem_append_right _ List.mem_cons_self) f g H locs ls rest hI hT hP hD hS (hset hr) hs
  · cases hh
end CK

/-! a counted loop whose body is one call: for (i = ..; i < n; i++) this.m() -/
section CKL
variable {p : Program} {l : Launch} {e : Env} {R : Room} {s : State} {m : MethodId} {args : Array Value} {below : List Frame} {meth : Method} {c : Code} {D : va_G} {cl : List vw_C} {A : Nat → Prop} {w : zz_F → zz_G → va_W} {h : Nat → Nat} {nL : Nat} {Q : State → Prop} {f0 : zz_F} {fb : Nat → Int × Int} {gb : Nat → Nat → Int × Int} {cc : ByteArray} {tk : ck_T}
theorem ck_loop {hd ex ix : Nat} {o1 o2 : Int} (hx : p.tables.exec = Jvm.exec) (hb : c.code = cc) (h2 : 2 < nL) (d1 : decode cc hd = .ok (.iload_n 2, 1)) (d2 : decode cc (hd + 1) = .ok (.iload_n 1, 1)) (d3 : decode cc (hd + 1 + 1) = .ok (.if_icmp .ge o1, 3)) (t1 : ((hd + 1 + 1 : Nat) : Int) + o1 = (ex : Int))
    (d4 : decode cc (hd + 1 + 1 + 3) = .ok (.aload_n 0, 1)) (d6 : decode cc (hd + 1 + 1 + 3 + 1 + 3) = .ok (.iinc 2 1, 3)) (d7 : decode cc (hd + 1 + 1 + 3 + 1 + 3 + 3) = .ok (.goto o2, 3)) (t2 : ((hd + 1 + 1 + 3 + 1 + 3 + 3 : Nat) : Int) + o2 = (hd : Int))
    (hcall : ∀ (f : zz_F) (g : zz_G) (H : Heap) (locs : List Loc) (ls : Array Slot), ls.size = nL → ck_gI fb gb f g → ck_gT f0 f tk → va_P D cl (w f g) H → va_D A (w f g) → va_S A s.heap H locs →
      (∀ (f1 : zz_F) (g1 : zz_G) (H1 : Heap) (locs1 : List Loc), ck_gI fb gb f1 g1 → ck_gT f0 f1 tk → va_P D cl (w f1 g1) H1 → va_D A (w f1 g1) → va_S A s.heap H1 locs1 → W p l e R s m args below meth c H1 locs1 0 0 Q (F0 m (hd + 1 + 1 + 3 + 1 + 3) ls [])) → W p l e R s m args below meth c H locs 0 0 Q (F0 m (hd + 1 + 1 + 3 + 1) ls [.ref (h 0)]))
    (hex : ck_G p l e R s m args below meth c D cl A w h nL Q f0 fb gb (ex, [(0, .inr (.inl (false, [0])))], [], tk)) :
    ck_G p l e R s m args below meth c D cl A w h nL Q f0 fb gb (hd, [(0, .inr (.inl (false, [0]))), (1, .inl (1, 5000)), (2, .inl (0, 0))], [], tk) := by
  have key : ∀ (k : Nat) (n i : Int32) (f : zz_F) (g : zz_G) (H : Heap) (locs : List Loc) (ls : Array Slot), n.toInt ≤ 5000 → 0 ≤ i.toInt → n.toInt - i.toInt ≤ k → ck_gI fb gb f g → ck_gT f0 f tk → va_P D cl (w f g) H → va_D A (w f g) → va_S A s.heap H locs → lv_has ls nL [(0, .ref (h 0)), (1, .int n), (2, .int i)] → W p l e R s m args below meth c H locs 0 0 Q (F0 m hd ls []) := by
    intro k
    induction k with
    | zero =>
      intro n i f g H locs ls hn hi hk hI hT hP hD hS hl
      refine lv_iload_n hx hb d1 rfl (lv_at hl 2 rfl) ?_
      refine lv_iload_n hx hb d2 rfl (lv_at hl 1 rfl) ?_
      refine lv_icmp_ge hx hb d3 t1 (fun _ => ?_) (fun hc => ?_)
      · exact hex f g H locs ls [] hI hT hP hD hS ⟨_, hl, List.forall_mem_cons.mpr ⟨⟨_, List.mem_cons_self, rfl, Or.inr ⟨0, List.mem_cons_self, rfl⟩⟩, fun _ h => absurd h List.not_mem_nil⟩⟩ trivial
      · rw [Int32.le_iff_toInt_le] at hc; omega
    | succ k ih =>
      intro n i f g H locs ls hn hi hk hI hT hP hD hS hl
      refine lv_iload_n hx hb d1 rfl (lv_at hl 2 rfl) ?_
      refine lv_iload_n hx hb d2 rfl (lv_at hl 1 rfl) ?_
      refine lv_icmp_ge hx hb d3 t1 (fun _ => ?_) (fun hc => ?_)
      · exact hex f g H locs ls [] hI hT hP hD hS ⟨_, hl, List.forall_mem_cons.mpr ⟨⟨_, List.mem_cons_self, rfl, Or.inr ⟨0, List.mem_cons_self, rfl⟩⟩, fun _ h => absurd h List.not_mem_nil⟩⟩ trivial
      · rw [Int32.le_iff_toInt_le] at hc
        refine lv_aload_n hx hb d4 rfl (lv_at hl 0 rfl) ?_
        refine hcall f g H locs ls hl.1 hI hT hP hD hS (fun f1 g1 H1 locs1 hI1 hT1 hP1 hD1 hS1 => ?_)
        obtain ⟨j, ej⟩ : ∃ j : Int32, j = i + 1 := ⟨_, rfl⟩
        have hj : j.toInt = i.toInt + 1 := by
          rw [ej, Int32.toInt_add]
          exact ck_bm (by have h1 : (1 : Int32).toInt = 1 := rfl; omega) (by have h1 : (1 : Int32).toInt = 1 := rfl; omega)
        refine lv_iinc (v := j) (k := 2) (lv' := [(2, .int j), (0, .ref (h 0)), (1, .int n)]) hx hb d6 hl rfl (by rw [ej]; rfl) h2 rfl (fun ls hl => ?_)
        refine lv_goto hx hb d7 t2 ?_
        exact ih n j f1 g1 H1 locs1 ls hn (by omega) (by omega) hI1 hT1 hP1 hD1 hS1 (lv_sub hl [1, 2, 0] rfl)
  intro f g H locs ls st hI hT hP hD hS hl hs
  match st, hs with
  | [], _ =>
    obtain ⟨lv, h3, h4⟩ := hl
    obtain ⟨v0, a0, -, b0⟩ := h4 _ List.mem_cons_self
    obtain ⟨v1, a1, -, n, rfl, b1⟩ := h4 _ (List.mem_cons_of_mem _ List.mem_cons_self)
    obtain ⟨v2, a2, -, i, rfl, b2⟩ := h4 _ (List.mem_cons_of_mem _ (List.mem_cons_of_mem _ List.mem_cons_self))
    rcases b0 with ⟨b0, -⟩ | ⟨k0, hk0, rfl⟩
    · cases b0
    · rw [List.mem_singleton] at hk0
      subst hk0
      have c1 : n.toInt ≤ 5000 := b1.2
      have c2 : (0 : Int) ≤ i.toInt := b2.1
      exact key 5000 n i f g H locs ls c1 c2 (by omega) hI hT hP hD hS ⟨h3.1, h3.2.1, List.forall_mem_cons.mpr ⟨h3.2.2 _ a0, List.forall_mem_cons.mpr ⟨h3.2.2 _ a1, List.forall_mem_cons.mpr ⟨h3.2.2 _ a2, fun _ h => absurd h List.not_mem_nil⟩⟩⟩⟩
end CKL

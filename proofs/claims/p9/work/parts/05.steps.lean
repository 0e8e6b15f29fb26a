/-! the checker is sound: its steps, its runs -/
section CK2
variable {p : Program} {l : Launch} {e : Env} {R : Room} {s : State} {m : MethodId} {args : Array Value} {below : List Frame} {meth : Method} {c : Code} {D : va_G} {cl : List vw_C} {A : Nat → Prop} {w : zz_F → zz_G → va_W} {h : Nat → Nat} {nL : Nat} {Q : State → Prop} {f0 : zz_F} {fb : Nat → Int × Int} {gb : Nat → Nat → Int × Int} {cc : ByteArray}
variable {pc : Nat} {als : ck_L} {st : List ck_V} {tk : ck_T} {L : List ck_S} {i : Instr × Nat} {P : ck_P} {E : ck_E} {outs : List ck_O} {rt : Nat}
theorem ck_lk_ok (hx : p.tables.exec = Jvm.exec) (hb : c.code = cc) (hP0 : ∀ (a : Nat) (b : Instr × Nat), ck_mem P a b → decode cc a = .ok b) {k : Nat} {q : Int × Int} (hk : ck_li i = some k) (hd : decode cc pc = .ok i) (ha : ck_at k als = some (.inl q)) (hh : ck_lk P pc i.2 k q als st tk = some L) (hL : ∀ t ∈ L, ck_G p l e R s m args below meth c D cl A w h nL Q f0 fb gb t) : ck_G p l e R s m args below meth c D cl A w h nL Q f0 fb gb (pc, als, st, tk) := by
  intro f g H locs ls rest hI hT hP hD hS hl hs
  obtain ⟨v, hv, -, x, rfl, hq⟩ := ck_gL_at hl ha
  refine ck_li_w hx hb hk hd hv ?_
  have plain : L = [(pc + i.2, als, .inl q :: st, tk)] → W p l e R s m args below meth c H locs 0 0 Q (F0 m (pc + i.2) ls (.int x :: rest)) := fun eL => by
    subst eL
    exact hL _ List.mem_cons_self f g H locs ls _ hI hT hP hD hS hl ⟨⟨x, rfl, hq⟩, hs⟩
  unfold ck_lk at hh
  split at hh
  · cases hh
  · rename_i j hj
    have hdj : decode cc (pc + i.2) = .ok j := hP0 _ _ (ck_pc_in hj)
    split at hh
    · rename_i o ho
      obtain ⟨h0, kt, kf⟩ := ck_bl_ok (v := 0) hh hL hv hq ⟨by decide, by decide⟩ hI hT hP hD hS hl hs
      exact ck_c0_w hx hb ho hdj h0 kt kf
    · split at hh
      · cases hh; exact plain rfl
      · rename_i v1 hv1
        split at hh
        · cases hh
        · rename_i j2 hj2
          split at hh
          · cases hh; exact plain rfl
          · rename_i o ho
            have hd2 : decode cc (pc + i.2 + j.2) = .ok j2 := hP0 _ _ (ck_pc_in hj2)
            obtain ⟨h0, kt, kf⟩ := ck_bl_ok (v := v1) hh hL hv hq ⟨Int.le_refl _, Int.le_refl _⟩ hI hT hP hD hS hl hs
            refine ck_kv_w hx hb hv1 hdj ?_
            exact ck_cj_w hx hb ho hd2 h0 kt kf
theorem ck_isR {q : Bool × List Nat} {v : Value} (hg : ck_g h (.inr (.inl q)) v) : v = .null ∨ ∃ a, v = .ref a := by
  rcases hg with ⟨-, rfl⟩ | ⟨k, -, rfl⟩
  · exact Or.inl rfl
  · exact Or.inr ⟨_, rfl⟩
theorem ck_nb_ok {H : Heap} {locs : List Loc} {ls : Array Slot} {rest : List Value} (hx : p.tables.exec = Jvm.exec) (hb : c.code = cc) {o : Bool × Int} {q : Bool × List Nat} {a1 a2 : ck_L} (ho : ck_cn i = some o) (hd : decode cc pc = .ok i) (hh : ck_nb pc o q a1 a2 st tk = some L) (hL : ∀ t ∈ L, ck_G p l e R s m args below meth c D cl A w h nL Q f0 fb gb t) {v : Value} (hg : ck_g h (.inr (.inl q)) v)
    (h1 : v = .null → ck_gL h ls nL a1) (h2 : (∃ k ∈ q.2, v = .ref (h k)) → ck_gL h ls nL a2) {f : zz_F} {g : zz_G} (hI : ck_gI fb gb f g) (hT : ck_gT f0 f tk) (hP : va_P D cl (w f g) H) (hD : va_D A (w f g)) (hS : va_S A s.heap H locs) (hs : ck_gS h st rest) : W p l e R s m args below meth c H locs 0 0 Q (F0 m pc ls (v :: rest)) := by
  unfold ck_nb at hh
  split at hh
  · rename_i h0
    cases hh
    have ht : (pc : Int) + o.2 = (((pc : Int) + o.2).toNat : Int) := (Int.toNat_of_nonneg h0).symm
    rcases hg with ⟨hq, rfl⟩ | ⟨k, hk, rfl⟩
    · rw [if_pos hq] at hL
      have kk := hL _ (List.mem_append_left _ List.mem_cons_self) f g H locs ls rest hI hT hP hD hS (h1 rfl) hs
      unfold ck_cn at ho
      split at ho
      · cases ho; exact lv_ifnullN hx hb hd ht kk
      · cases ho; exact lv_ifnonnullN hx hb hd kk
      · cases ho
    · have kk := hL _ (List.mem_append_right _ List.mem_cons_self) f g H locs ls rest hI hT hP hD hS (h2 ⟨k, hk, rfl⟩) hs
      unfold ck_cn at ho
      split at ho
      · cases ho; exact lv_ifnull hx hb hd kk
      · cases ho; exact lv_ifnonnull hx hb hd ht kk
      · cases ho
  · cases hh
theorem ck_lr_ok (hx : p.tables.exec = Jvm.exec) (hb : c.code = cc) (hP0 : ∀ (a : Nat) (b : Instr × Nat), ck_mem P a b → decode cc a = .ok b) {k : Nat} {q : Bool × List Nat} (hk : ck_ra i = some k) (hd : decode cc pc = .ok i) (ha : ck_at k als = some (.inr (.inl q))) (hh : ck_lr P pc i.2 k q als st tk = some L) (hL : ∀ t ∈ L, ck_G p l e R s m args below meth c D cl A w h nL Q f0 fb gb t) : ck_G p l e R s m args below meth c D cl A w h nL Q f0 fb gb (pc, als, st, tk) := by
  intro f g H locs ls rest hI hT hP hD hS hl hs
  obtain ⟨v, hv, hc, hg⟩ := ck_gL_at hl ha
  refine ck_ra_w hx hb (ck_isR hg) hk hd hv ?_
  unfold ck_lr at hh
  split at hh
  · cases hh
  · rename_i j hj
    split at hh
    · rename_i o ho
      have hset : ∀ {a : ck_V}, ck_g h a v → ck_gL h ls nL (ck_set k a als) := by
        intro a hr
        obtain ⟨lv, h1, h2⟩ := hl
        refine ⟨(k, v) :: lv, ⟨h1.1, h1.2.1, fun q hq => ?_⟩, fun q hq => ?_⟩
        · rcases List.mem_cons.mp hq with rfl | hq
          · exact hv
          · exact h1.2.2 q hq
        · rcases List.mem_cons.mp hq with rfl | hq
          · exact ⟨v, List.mem_cons_self, hc, hr⟩
          · obtain ⟨v1, h3, h4⟩ := h2 q (List.mem_filter.mp hq).1
            exact ⟨v1, List.mem_cons_of_mem _ h3, h4⟩
      have hdj : decode cc (pc + i.2) = .ok j := hP0 _ _ (ck_pc_in hj)
      exact ck_nb_ok hx hb ho hdj hh hL hg (fun e1 => hset (Or.inl ⟨rfl, e1⟩)) (fun e1 => hset (Or.inr e1)) hI hT hP hD hS hs
    · cases hh
      exact hL _ List.mem_cons_self f g H locs ls _ hI hT hP hD hS hl ⟨hg, hs⟩
theorem ck_al_ok {b : Bool} (hd : decode cc pc = .ok (if b then .baload else .iaload, 1)) (hA : ∀ q ∈ E.2.2.1, ck_oAld p l e R s m args below meth c D cl A w h nL Q fb gb cc q) {q : Int × Int} {r : List ck_V} :
    ∀ {ps : List Nat} {L : List ck_S}, ck_al gb E.2.2.1 b q pc als r tk ps = some L → (∀ t ∈ L, ck_G p l e R s m args below meth c D cl A w h nL Q f0 fb gb t) → ∀ k ∈ ps, ∀ (f : zz_F) (g : zz_G) (H : Heap) (locs : List Loc) (ls : Array Slot) (rest : List Value) (x : Int32), ck_gI fb gb f g → ck_gT f0 f tk → va_P D cl (w f g) H → va_D A (w f g) → va_S A s.heap H locs → ck_gL h ls nL als → ck_gS h r rest → ck_in q x → W p l e R s m args below meth c H locs 0 0 Q (F0 m pc ls (.int x :: .ref (h k) :: rest))
  | [], L, hh, hL, k, hk => by cases hk
  | k0 :: ks, L, hh, hL, k, hk => by
    intro f g H locs ls rest x hI hT hP hD hS hl hs hq
    unfold ck_al at hh
    split at hh
    · rename_i z L1 hz hL1
      split at hh
      · rename_i hb
        cases hh
        rcases List.mem_cons.mp hk with rfl | hk
        · have hm := ck_ar_in hz
          refine hA _ hm f g H locs pc ls rest x hI hP hS (ck_vp hq hb.1 hb.2.2) hd (fun y hy => ?_)
          obtain ⟨i1, i2⟩ := ck_ix hq hb.1
          exact hL _ List.mem_cons_self f g H locs ls _ hI hT hP hD hS hl ⟨⟨y, rfl, ck_hl_ok i1 i2 hy⟩, hs⟩
        · exact ck_al_ok hd hA hL1 (fun t ht => hL t (List.mem_cons_of_mem _ ht)) k hk f g H locs ls rest x hI hT hP hD hS hl hs hq
      · cases hh
    · cases hh
theorem ck_as_ok {b : Bool} (hd : decode cc pc = .ok (if b then .bastore else .iastore, 1)) (hA : ∀ q ∈ E.2.2.1, q.2.1 < 100 → ck_oAst p l e R s m args below meth c D cl A w h nL Q fb gb cc q) {v q : Int × Int} {r : List ck_V} (hG : ck_G p l e R s m args below meth c D cl A w h nL Q f0 fb gb (pc + 1, als, r, tk)) :
    ∀ {ps : List Nat}, ck_as gb E.2.2.1 b v q ps = true → ∀ k ∈ ps, ∀ (f : zz_F) (g : zz_G) (H : Heap) (locs : List Loc) (ls : Array Slot) (rest : List Value) (x y : Int32), ck_gI fb gb f g → ck_gT f0 f tk → va_P D cl (w f g) H → va_D A (w f g) → va_S A s.heap H locs → ck_gL h ls nL als → ck_gS h r rest → ck_in q x → ck_in v y → W p l e R s m args below meth c H locs 0 0 Q (F0 m pc ls (.int y :: .int x :: .ref (h k) :: rest))
  | [], hh, k, hk => by cases hk
  | k0 :: ks, hh, k, hk => by
    intro f g H locs ls rest x y hI hT hP hD hS hl hs hq hv
    simp only [ck_as, Bool.and_eq_true] at hh
    obtain ⟨h1, h2⟩ := hh
    rcases List.mem_cons.mp hk with rfl | hk
    · split at h1
      · rename_i z hz
        simp only [Bool.and_eq_true, decide_eq_true_eq, Bool.or_eq_true, Bool.not_eq_true'] at h1
        obtain ⟨⟨⟨b0, b1, b2, b3⟩, b4⟩, b5⟩ := h1
        obtain ⟨i1, i2⟩ := ck_ix hq b1
        refine hA _ (ck_ar_in hz) b0 f g H locs pc ls rest x y (fun e1 => ?_) hP hD hS (ck_vp hq b1 b3) hd (fun H1 locs1 hP1 hD1 hS1 => hG f _ H1 locs1 ls rest ⟨hI.1, fun j i => ?_⟩ hT hP1 hD1 hS1 hl hs)
        · have e1 : b = true := e1
          rcases b5 with b5 | b5
          · rw [e1] at b5; cases b5
          · exact ⟨Int.le_trans b5.1 hv.1, Int.le_trans hv.2 b5.2⟩
        · show ck_in (gb j i) ((if j = z.1 then upd (g z.1) x.toNatClampNeg y else g j) i)
          by_cases ej : j = z.1
          · rw [if_pos ej, ej]
            by_cases ei : i = x.toNatClampNeg
            · rw [ei, pk_us]; exact ck_sb_ok hv b4 i1 i2
            · rw [pk_un ei]; exact hI.2 _ _
          · rw [if_neg ej]; exact hI.2 _ _
      · cases h1
    · exact ck_as_ok hd hA hG h2 k hk f g H locs ls rest x y hI hT hP hD hS hl hs hq hv
theorem ck_try_ok {q : ck_C} (hd : decode cc pc = .ok (if q.1.1 then .invokestatic q.1.2 else .invokevirtual q.1.2, 3)) (hC : ck_oCall p l e R s m args below meth c D cl A w h nL Q fb gb cc q) (hh : ck_try fb pc als st tk q = some L) (hL : ∀ t ∈ L, ck_G p l e R s m args below meth c D cl A w h nL Q f0 fb gb t) : ck_G p l e R s m args below meth c D cl A w h nL Q f0 fb gb (pc, als, st, tk) := by
  intro f g H locs ls rest hI hT hP hD hS hl hs
  unfold ck_try at hh
  split at hh
  · cases hh
  · rename_i z hz
    split at hh
    · rename_i hc
      cases hh
      simp only [Bool.and_eq_true, List.all_eq_true, decide_eq_true_eq] at hc
      obtain ⟨⟨c1, c2⟩, c3⟩ := hc
      obtain ⟨v1, v2, g1, g2, e1⟩ := ck_pop_ok (va := []) hz trivial hs
      have e2 : rest = v1.reverse ++ v2 := by rw [e1]; rfl
      rw [e2]
      refine hC f g H locs pc ls v2 v1 hI (fun r hr => ?_) hP hD hS (ck_leS_ok c1 g1) hl.choose_spec.1.1 (by rw [ck_wt_ok g2]; exact c3) hd (fun o ho r f1 g1' H1 locs1 hr hI1 hT1 hP1 hD1 hS1 => ?_)
      · obtain ⟨b1, b2⟩ := c2 r hr
        obtain ⟨b3, b4⟩ := ck_fld_ok (fb := fb) (hI.1 r.1) hT
        exact ⟨Int.le_trans b1 b3, Int.le_trans b4 b2⟩
      · refine hL _ (List.mem_map.mpr ⟨o, ho, rfl⟩) f1 g1' H1 locs1 ls _ hI1 (ck_cb_ok hI1.1 hT1 hT) hP1 hD1 hS1 hl ?_
        match o, hr with
        | (.inl none, _), hr => have hr : r = none := hr; subst hr; exact g2
        | (.inl (some a), _), hr => obtain ⟨v, rfl, hv⟩ := hr; exact ⟨hv, g2⟩
        | (.inr _, _), hr => exact False.elim hr
    · cases hh
theorem ck_cl_ok {sv : Bool × Nat} (hd : decode cc pc = .ok (if sv.1 then .invokestatic sv.2 else .invokevirtual sv.2, 3)) : ∀ {cs : List ck_C}, (∀ q ∈ cs, ck_oCall p l e R s m args below meth c D cl A w h nL Q fb gb cc q) → ∀ {L : List ck_S}, ck_cl fb sv pc als st tk cs = some L → (∀ t ∈ L, ck_G p l e R s m args below meth c D cl A w h nL Q f0 fb gb t) → ck_G p l e R s m args below meth c D cl A w h nL Q f0 fb gb (pc, als, st, tk)
  | [], hC, L, hh, hL => by cases hh
  | q :: r, hC, L, hh, hL => by
    unfold ck_cl at hh
    have ih := ck_cl_ok hd (cs := r) (fun z hz => hC z (List.mem_cons_of_mem _ hz)) (L := L)
    split at hh
    · rename_i eq
      split at hh
      · rename_i L1 h1
        cases hh
        exact ck_try_ok (q := q) (by rw [eq]; exact hd) (hC q List.mem_cons_self) h1 hL
      · exact ih hh hL
    · exact ih hh hL
def ck_gR (h : Nat → Nat) (a : Option ck_V) (r : Option Value) : Prop := match a with
  | some b => ∃ v, r = some v ∧ ck_g h b v
  | none => r = none
theorem ck_ro_ok {a : Option ck_V} (hh : ck_ro outs a tk = true) {r : Option Value} {f : zz_F} (hr : ck_gR h a r) (hT : ck_gT f0 f tk) : ∃ o ∈ outs, ck_gO h o.1 r ∧ ck_gT f0 f o.2 := by
  obtain ⟨o, ho, h1⟩ := List.any_eq_true.mp hh
  simp only [Bool.and_eq_true] at h1
  obtain ⟨h1, h2⟩ := h1
  refine ⟨o, ho, ?_, ck_leT_ok h2 hT⟩
  clear hh ho
  obtain ⟨o1, o2⟩ := o
  rcases a with _ | a
  · rcases o1 with (_ | b) | X
    · exact hr
    · exact absurd (show false = true from h1) (by decide)
    · exact absurd (show false = true from h1) (by decide)
  · rcases o1 with (_ | b) | X
    · exact absurd (show false = true from h1) (by decide)
    · obtain ⟨v, rfl, hv⟩ := hr
      exact ⟨v, rfl, ck_le_ok h1 hv⟩
    · exact absurd (show false = true from h1) (by decide)
theorem ck_xo_ok {X : String} (hh : ck_xo outs X tk = true) {f : zz_F} (hT : ck_gT f0 f tk) : ∃ o ∈ outs, o.1 = .inr X ∧ ck_gT f0 f o.2 := by
  obtain ⟨o, ho, h1⟩ := List.any_eq_true.mp hh
  simp only [Bool.and_eq_true] at h1
  obtain ⟨h1, h2⟩ := h1
  refine ⟨o, ho, ?_, ck_leT_ok h2 hT⟩
  match o, h1 with
  | (.inr Y, _), h1 => have h1 : Y = X := by simpa using h1
                       subst h1; rfl
  | (.inl _, _), h1 => cases h1
theorem ck_sw_ok {x : Int × Int} {r : List ck_V} : ∀ {os : List Int} {v : Int} {L : List ck_S}, ck_sw pc x als r tk v os = some L → ∀ (n : Nat) (o : Int), os[n]? = some o → x.1 ≤ v + n → v + n ≤ x.2 → 0 ≤ (pc : Int) + o ∧ (((pc : Int) + o).toNat, als, r, tk) ∈ L
  | [], v, L, hh, n, o, hn, _, _ => by simp at hn
  | o0 :: os, v, L, hh, n, o, hn, h1, h2 => by
    unfold ck_sw at hh
    split at hh
    · cases hh
    · rename_i L1 hL1
      split at hh
      · rename_i h0
        cases hh
        match n, hn, h1, h2 with
        | 0, hn, h1, h2 =>
          cases hn
          have h3 : x.1 ≤ v ∧ v ≤ x.2 := ⟨by simpa using h1, by simpa using h2⟩
          rw [if_pos h3]
          exact ⟨h0, List.mem_cons_self⟩
        | n + 1, hn, h1, h2 =>
          obtain ⟨h4, h5⟩ := ck_sw_ok (v := v + 1) hL1 n o hn (by omega) (by omega)
          refine ⟨h4, ?_⟩
          split
          · exact List.mem_cons_of_mem _ h5
          · exact h5
      · cases hh
end CK2

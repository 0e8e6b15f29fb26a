/-! THE CLAIM OUT OF ONE WALK OF THE LAW'S BODY. Your part is whole_start (and what it stands on); all else here is the same for every law, but numbers. -/
def R_law : String := "NightCyclerLaw"
def lw_P (b : Addr) (xs : List Int32) (args : Array Value) (s : State) : Prop := args = #[.ref b] ∧ s.IntsAt b xs ∧ xs.length ≤ 3 ∧ (Jvm.Cond.and given_1 narrow_1).before args s = true
def lw_Q (_ : Array Value) (s : State) (o : Outcome) (t : State) : Prop := o = .returned (some (.int 1)) ∧ Framed s o t [] 47 511
def lw_Z (below : List Frame) (a : Array Value) (s : State) : State → Prop := fun t => ∃ o, t.status = .running ∧ Ended t below o ∧ lw_Q a s o t
/-- the law's own end, with 1 on the stack, nothing written that was there before, its room as the claim has it -/
theorem lw_ret {p : Program} {l : Launch} {e : Env} {s : State} {m : MethodId} {below : List Frame} {meth : Method} {c : Code} {b : Nat} (hx : p.tables.exec = Jvm.exec) (hb : c.code = code) (hr : meth.sig.returnType = ret) (hlocks : meth.locks = false) {pc : Nat} {H : Heap} {ls : Array Slot} (hdg : decode code pc = .ok (.ireturn, 1)) : W p l e room_1 s m #[Value.ref b] below meth c H [] 47 511 (lw_Z below #[Value.ref b] s) (F0 m pc ls [.int 1]) := by
  intro T hT X
  obtain ⟨fs, hret, hrun, hended, hW, hframe⟩ := X.leave (v := some (.int 1)) (hlocks := hlocks) (fun h => by rw [hr] at h; cases h)
  have hmeth' : T.vm.method? m = some meth := X.method'
  refine ⟨T.setFrames fs, ?_, .returned (some (.int 1)), hrun, hended, rfl, ⟨_, rfl⟩, hW, hframe⟩
  jvm_step X.here [X.here.top, hx, hb, hdg, hmeth', hr, ret, narrow_b1]
  (try refine ⟨rfl, ?_⟩); (try refine ⟨rfl, ?_⟩)
  first | (intro acts; rw [hret _ acts rfl rfl rfl]) | rw [hret _ _ rfl rfl rfl]
  exact Steps.refl _
/-- what holds at the law's entry: the machine, the code, the tables' words (any of lw_tbl by 'hts w (by decide +kernel)'), the script of L ints xs at the cell b, what the Statement gives of the start (any of its parts by flat_of_before) -/
def lw_At (p : Program) (s : State) (m : MethodId) (meth : Method) (c : Code) (b L : Nat) (xs : Nat → Int32) : Prop :=
  p.tables.exec = Jvm.exec ∧ c.code = code ∧ meth.sig.returnType = ret ∧ c.maxLocals = 7 ∧ s.vm.findClass R_law = some m.cls ∧ (∀ w ∈ lw_tbl, w.before #[Value.ref b] s = true) ∧ va_X b L xs s s.heap ∧ b < s.heap.size ∧ meth.locks = false ∧ (Jvm.Cond.and given_1 narrow_1).before #[Value.ref b] s = true

set_option maxRecDepth 100000 in
theorem law_loop {p : Program} {l : Launch} {e : Env} {s : State} {m : MethodId} {below : List Frame} {meth : Method} {c : Code} {D : va_G} {h hm : Nat → Nat} {cI cZ cJ : ClassId} {ho b L : Nat} {xs : Nat → Int32} {cx : Cond} (hfl : l.flags = flags0) (hL : L ≤ 3)
    (C : zz_Cx p m meth c code 7 ret s #[Value.ref b] (cx :: kk_W) "NightCyclerLaw" D vN (tyN cI cZ cJ) (fun q : Nat => s.heap.size ≤ q) s.heap.size (xL s.heap.size h)) (hX : va_X b L xs s s.heap) (hbl : b < s.heap.size)
    {H : Heap} {locs : List Loc} {ls : Array Slot} {cells slots : Nat} (hc : cells + 1 ≤ 47) (hs : slots + 6 ≤ 511) (hP : va_P D vN (wW cI cZ cJ ho h hm fN0 gN0 fM0 gM0) H) (hD : va_D (fun q : Nat => s.heap.size ≤ q) (wW cI cZ cJ ho h hm fN0 gN0 fM0 gM0)) (hS : va_S (fun q : Nat => s.heap.size ≤ q) s.heap H locs) (hl : lv_has ls 7 [(0, .ref b), (1, .ref (h 0)), (2, .ref (hm 0)), (3, .ref ho), (4, .int 0)]) :
      W p l e room_1 s m #[Value.ref b] below meth c H locs cells slots (lw_Z below #[Value.ref b] s) (F0 m 23 ls []) := by
  have hbA : ¬ (fun q : Nat => s.heap.size ≤ q) b := Nat.not_le.mpr hbl
  have hLt : (Int32.ofNat L).toInt = (L : Int) := Int32.toInt_ofNat_of_lt (by omega)
  have h3 : (3 : Int32).toInt = 3 := rfl
  have h00 : (0 : Int32).toInt = 0 := rfl
  have hy : (Int32.ofNat L - 3).toInt = (L : Int) - 3 := by
    rw [Int32.toInt_sub, hLt]
    exact ck_bm (by omega) (by omega)
  refine lv_iload C.1.1 C.1.2.1 dl_23 (lv_at hl 4 rfl) ?_
  refine lv_aload_n C.1.1 C.1.2.1 dl_25 rfl (lv_at hl 0 rfl) ?_
  refine va_slen C.1.1 C.1.2.1 hX hbl hbA hS dl_26 ?_
  refine lv_iconst (v := 3) C.1.1 C.1.2.1 dl_27 (by decide) ?_
  refine lv_isub C.1.1 C.1.2.1 dl_28 ?_
  refine lv_icmp_gt (tgt := 846) C.1.1 C.1.2.1 dl_29 (by decide) (fun _ => ?_) (fun hc2 => ?_)
  · refine lv_iconst (v := 1) C.1.1 C.1.2.1 dl_846 (by decide) ?_
    refine va_forget (fun q hq => hS.2.2 q hq) ?_
    refine W.widen (k := 47) (n := 511) (by omega) (by omega) ?_
    exact lw_ret C.1.1 C.1.2.1 C.2.1 C.2.2.1 dl_847
  · rw [Int32.lt_iff_toInt_lt, hy] at hc2
    have hL3 : L = 3 := by omega
    subst hL3
    have i0 : vp_in 0 3 := vp_in_iff.mpr (by decide)
    have i1 : vp_in (0 + 1) 3 := vp_in_iff.mpr (by decide)
    have i2 : vp_in (0 + 2) 3 := vp_in_iff.mpr (by decide)
    have hf : cells + 1 ≤ room_1.cells ∧ slots + 6 ≤ room_1.slots := ⟨hc, hs⟩
    have K : ∀ (H1 : Heap) (locs1 : List Loc) (ls1 : Array Slot), va_S (fun q : Nat => s.heap.size ≤ q) s.heap H1 locs1 → lv_has ls1 7 [(0, .ref b), (1, .ref (h 0)), (2, .ref (hm 0)), (3, .ref ho), (4, .int 0)] → W p l e room_1 s m #[Value.ref b] below meth c H1 locs1 (cells + 1) (slots + 6) (lw_Z below #[Value.ref b] s) (F0 m 840 ls1 []) := by
      intro H1 locs1 ls1 hS hl
      refine lv_iinc (v := 3) (k := 4) (lv' := [(4, .int 3), (0, .ref b), (1, .ref (h 0)), (2, .ref (hm 0)), (3, .ref ho)]) C.1.1 C.1.2.1 dl_840 hl rfl rfl (by decide) rfl (fun ls hl => ?_)
      refine lv_goto (tgt := 23) C.1.1 C.1.2.1 dl_843 (by decide) ?_
      have hl := lv_sub hl [1, 2, 3, 4, 0] rfl
      refine lv_iload C.1.1 C.1.2.1 dl_23 (lv_at hl 4 rfl) ?_
      refine lv_aload_n C.1.1 C.1.2.1 dl_25 rfl (lv_at hl 0 rfl) ?_
      refine va_slen C.1.1 C.1.2.1 hX hbl hbA hS dl_26 ?_
      refine lv_iconst (v := 3) C.1.1 C.1.2.1 dl_27 (by decide) ?_
      refine lv_isub C.1.1 C.1.2.1 dl_28 ?_
      refine lv_icmp_gt (tgt := 846) C.1.1 C.1.2.1 dl_29 (by decide) (fun _ => ?_) (fun hc2 => ?_)
      · refine lv_iconst (v := 1) C.1.1 C.1.2.1 dl_846 (by decide) ?_
        refine va_forget (fun q hq => hS.2.2 q hq) ?_
        refine W.widen (k := 47) (n := 511) (by omega) (by omega) ?_
        exact lw_ret C.1.1 C.1.2.1 C.2.1 C.2.2.1 dl_847
      · rw [Int32.lt_iff_toInt_lt, hy, h3] at hc2
        omega
    refine lv_aload_n C.1.1 C.1.2.1 dl_32 rfl (lv_at hl 0 rfl) ?_
    refine lv_iload C.1.1 C.1.2.1 dl_33 (lv_at hl 4 rfl) ?_
    refine va_sld C.1.1 C.1.2.1 hX hbl hbA hS i0 dl_35 ?_
    refine lv_bipush (v := 31) C.1.1 C.1.2.1 dl_36 (by decide) ?_
    refine lv_iand C.1.1 C.1.2.1 dl_38 ?_
    refine lv_topi (fun z ez => ?_)
    by_cases hz : z.toInt < 0 ∨ 18 < z.toInt
    · refine lv_tableOut (tgt := 840) C.1.1 C.1.2.1 dl_39 hz (by decide) ?_
      refine W.widen (k := cells + 1) (n := slots + 6) (Nat.le_succ _) (Nat.le_add_right _ _) ?_
      exact K H locs ls hS hl
    · rcases (show z.toInt = 0 ∨ z.toInt = 1 ∨ z.toInt = 2 ∨ z.toInt = 3 ∨ z.toInt = 4 ∨ z.toInt = 5 ∨ z.toInt = 6 ∨ z.toInt = 7 ∨ z.toInt = 8 ∨ z.toInt = 9 ∨ z.toInt = 10 ∨ z.toInt = 11 ∨ z.toInt = 12 ∨ z.toInt = 13 ∨ z.toInt = 14 ∨ z.toInt = 15 ∨ z.toInt = 16 ∨ z.toInt = 17 ∨ z.toInt = 18 by omega) with hk | hk | hk | hk | hk | hk | hk | hk | hk | hk | hk | hk | hk | hk | hk | hk | hk | hk | hk
      · refine lv_tableIn (off := 89) (tgt := 128) C.1.1 C.1.2.1 dl_39 (by rw [hk]; decide) (by rw [hk]; decide) (by rw [hk]; rfl) (by decide) ?_
        exact lo_0 hfl C hX hbl hbA i1 i2 hP hD hS hl hf K
      · refine lv_tableIn (off := 137) (tgt := 176) C.1.1 C.1.2.1 dl_39 (by rw [hk]; decide) (by rw [hk]; decide) (by rw [hk]; rfl) (by decide) ?_
        exact lo_1 hfl C hX hbl hbA i1 i2 hP hD hS hl hf K
      · refine lv_tableIn (off := 161) (tgt := 200) C.1.1 C.1.2.1 dl_39 (by rw [hk]; decide) (by rw [hk]; decide) (by rw [hk]; rfl) (by decide) ?_
        exact lo_2 hfl C hX hbl hbA i1 i2 hP hD hS hl hf K
      · refine lv_tableIn (off := 213) (tgt := 252) C.1.1 C.1.2.1 dl_39 (by rw [hk]; decide) (by rw [hk]; decide) (by rw [hk]; rfl) (by decide) ?_
        exact lo_3 hfl C hX hbl hbA i1 i2 hP hD hS hl hf K
      · refine lv_tableIn (off := 237) (tgt := 276) C.1.1 C.1.2.1 dl_39 (by rw [hk]; decide) (by rw [hk]; decide) (by rw [hk]; rfl) (by decide) ?_
        exact lo_4 hfl C hX hbl hbA i1 i2 hP hD hS hl hf K
      · refine lv_tableIn (off := 293) (tgt := 332) C.1.1 C.1.2.1 dl_39 (by rw [hk]; decide) (by rw [hk]; decide) (by rw [hk]; rfl) (by decide) ?_
        exact lo_5 hfl C hX hbl hbA i1 i2 hP hD hS hl hf K
      · refine lv_tableIn (off := 330) (tgt := 369) C.1.1 C.1.2.1 dl_39 (by rw [hk]; decide) (by rw [hk]; decide) (by rw [hk]; rfl) (by decide) ?_
        exact lo_6 hfl C hX hbl hbA i1 i2 hP hD hS hl hf K
      · refine lv_tableIn (off := 355) (tgt := 394) C.1.1 C.1.2.1 dl_39 (by rw [hk]; decide) (by rw [hk]; decide) (by rw [hk]; rfl) (by decide) ?_
        exact lo_7 hfl C hX hbl hbA i1 i2 hP hD hS hl hf K
      · refine lv_tableIn (off := 392) (tgt := 431) C.1.1 C.1.2.1 dl_39 (by rw [hk]; decide) (by rw [hk]; decide) (by rw [hk]; rfl) (by decide) ?_
        exact lo_8 hfl C hX hbl hbA i1 i2 hP hD hS hl hf K
      · refine lv_tableIn (off := 431) (tgt := 470) C.1.1 C.1.2.1 dl_39 (by rw [hk]; decide) (by rw [hk]; decide) (by rw [hk]; rfl) (by decide) ?_
        exact lo_9 hfl C hX hbl hbA i1 i2 hP hD hS hl hf K
      · refine lv_tableIn (off := 470) (tgt := 509) C.1.1 C.1.2.1 dl_39 (by rw [hk]; decide) (by rw [hk]; decide) (by rw [hk]; rfl) (by decide) ?_
        exact lo_10 hfl C hX hbl hbA i1 i2 hP hD hS hl hf K
      · refine lv_tableIn (off := 509) (tgt := 548) C.1.1 C.1.2.1 dl_39 (by rw [hk]; decide) (by rw [hk]; decide) (by rw [hk]; rfl) (by decide) ?_
        exact lo_11 hfl C hX hbl hbA i1 i2 hP hD hS hl hf K
      · refine lv_tableIn (off := 534) (tgt := 573) C.1.1 C.1.2.1 dl_39 (by rw [hk]; decide) (by rw [hk]; decide) (by rw [hk]; rfl) (by decide) ?_
        exact lo_12 hfl C hX hbl hbA i1 i2 hP hD hS hl hf K
      · refine lv_tableIn (off := 559) (tgt := 598) C.1.1 C.1.2.1 dl_39 (by rw [hk]; decide) (by rw [hk]; decide) (by rw [hk]; rfl) (by decide) ?_
        exact lo_13 hfl C hX hbl hbA i1 i2 hP hD hS hl hf K
      · refine lv_tableIn (off := 572) (tgt := 611) C.1.1 C.1.2.1 dl_39 (by rw [hk]; decide) (by rw [hk]; decide) (by rw [hk]; rfl) (by decide) ?_
        exact lo_14 hfl C hX hbl hbA i1 i2 hP hD hS hl hf K
      · refine lv_tableIn (off := 585) (tgt := 624) C.1.1 C.1.2.1 dl_39 (by rw [hk]; decide) (by rw [hk]; decide) (by rw [hk]; rfl) (by decide) ?_
        exact lo_15 hfl C hX hbl hbA i1 i2 hP hD hS hl hf K
      · refine lv_tableIn (off := 621) (tgt := 660) C.1.1 C.1.2.1 dl_39 (by rw [hk]; decide) (by rw [hk]; decide) (by rw [hk]; rfl) (by decide) ?_
        exact lo_16 hfl C hX hbl hbA i1 i2 hP hD hS hl hf K
      · refine lv_tableIn (off := 677) (tgt := 716) C.1.1 C.1.2.1 dl_39 (by rw [hk]; decide) (by rw [hk]; decide) (by rw [hk]; rfl) (by decide) ?_
        exact lo_17 hfl C hX hbl hbA i1 i2 hP hD hS hl hf K
      · refine lv_tableIn (off := 733) (tgt := 772) C.1.1 C.1.2.1 dl_39 (by rw [hk]; decide) (by rw [hk]; decide) (by rw [hk]; rfl) (by decide) ?_
        exact lo_18 hfl C hX hbl hbA i1 i2 hP hD hS hl hf K

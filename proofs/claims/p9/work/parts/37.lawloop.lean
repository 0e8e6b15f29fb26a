/-! THE CLAIM OUT OF ONE WALK OF THE LAW'S BODY. Your part is whole_start (and what it stands on); all else here is the same for every law, but numbers. -/
def R_law : String := "NightCyclerLaw"
def lw_P (b : Addr) (xs : List Int32) (args : Array Value) (s : State) : Prop := args = #[.ref b] ∧ s.IntsAt b xs ∧ xs.length ≤ 1536 ∧ (Jvm.Cond.and given_1 narrow_1).before args s = true
def lw_Q (_ : Array Value) (s : State) (o : Outcome) (t : State) : Prop := o = .returned (some (.int 1)) ∧ Framed s o t [] 1069 8687
def lw_Z (below : List Frame) (a : Array Value) (s : State) : State → Prop := fun t => ∃ o, t.status = .running ∧ Ended t below o ∧ lw_Q a s o t
/-- the law's own end, with 1 on the stack, nothing written that was there before, its room as the claim has it -/
theorem lw_ret {p : Program} {l : Launch} {e : Env} {s : State} {m : MethodId} {below : List Frame} {meth : Method} {c : Code} {b : Nat} (hx : p.tables.exec = Jvm.exec) (hb : c.code = code) (hr : meth.sig.returnType = ret) (hlocks : meth.locks = false) {pc : Nat} {H : Heap} {ls : Array Slot} (hdg : decode code pc = .ok (.ireturn, 1)) : W p l e room_1 s m #[Value.ref b] below meth c H [] 1069 8687 (lw_Z below #[Value.ref b] s) (F0 m pc ls [.int 1]) := by
  intro T hT X
  obtain ⟨fs, hret, hrun, hended, hW, hframe⟩ := X.leave (v := some (.int 1)) (hlocks := hlocks) (fun h => by rw [hr] at h; cases h)
  have hmeth' : T.vm.method? m = some meth := X.method'
  refine ⟨T.setFrames fs, ?_, .returned (some (.int 1)), hrun, hended, rfl, ⟨_, rfl⟩, hW, hframe⟩
  jvm_step X.here [X.here.top, hx, hb, hdg, hmeth', hr, ret, narrow_b1]
  (try refine ⟨rfl, ?_⟩); (try refine ⟨rfl, ?_⟩)
  first | (intro acts; rw [hret _ acts rfl rfl rfl]) | rw [hret _ _ rfl rfl rfl]
  exact Steps.refl _
/-- what holds at the law's entry: the machine, the code, the tables' words (any of lw_tbl by 'hts w (by decide +kernel)'), the script of L ints xs at the cell b, what the Statement gives of the start (any of its parts by flat_of_before) -/
def lw_At (p : Program) (s : State) (m : MethodId) (meth : Method) (c : Code) (b L : Nat) (xs : Nat → Int32) : Prop :=
  p.tables.exec = Jvm.exec ∧ c.code = code ∧ meth.sig.returnType = ret ∧ c.maxLocals = 7 ∧ s.vm.findClass R_law = some m.cls ∧ (∀ w ∈ lw_tbl, w.before #[Value.ref b] s = true) ∧ va_X b L xs s s.heap ∧ b < s.heap.size ∧ meth.locks = false ∧ (Jvm.Cond.and given_1 narrow_1).before #[Value.ref b] s = true

set_option maxRecDepth 100000 in
/-- THE LAW'S LOOP -/
theorem law_loop {p : Program} {l : Launch} {e : Env} {s : State} {m : MethodId} {below : List Frame} {meth : Method} {c : Code} {D : va_G} {h hm : Nat → Nat} {cI cZ cJ : ClassId} {ho b L : Nat} {xs : Nat → Int32} {cx : Cond} (hfl : l.flags = flags0) (hL : L ≤ 1536)
    (C : zz_Cx p m meth c code 7 ret s #[Value.ref b] (cx :: kk_W) "NightCyclerLaw" D vN (tyN cI cZ cJ) (fun q : Nat => s.heap.size ≤ q) s.heap.size (xL s.heap.size h)) (hX : va_X b L xs s s.heap) (hbl : b < s.heap.size) :
    ∀ (n : Nat) (i : Int32) (f : zz_F) (g : zz_G) (fm : zz_F) (gm : zz_G) (H : Heap) (locs : List Loc) (ls : Array Slot) (cells slots : Nat), 0 ≤ i.toInt → i.toInt ≤ 3000 → (L : Int) - i.toInt ≤ 3 * n + 2 → cells + n ≤ 1069 → slots + 6 * n ≤ 8687 → ck_gI fbG gbG f g → ck_gI fbM gbM fm gm → lw_rel f fm → va_P D vN (wW cI cZ cJ ho h hm f g fm gm) H → va_D (fun q : Nat => s.heap.size ≤ q) (wW cI cZ cJ ho h hm f g fm gm) → va_S (fun q : Nat => s.heap.size ≤ q) s.heap H locs → lv_has ls 7 [(0, .ref b), (1, .ref (h 0)), (2, .ref (hm 0)), (3, .ref ho), (4, .int i)] →
      W p l e room_1 s m #[Value.ref b] below meth c H locs cells slots (lw_Z below #[Value.ref b] s) (F0 m 23 ls []) := by
  have hbA : ¬ (fun q : Nat => s.heap.size ≤ q) b := Nat.not_le.mpr hbl
  have hLt : (Int32.ofNat L).toInt = (L : Int) := Int32.toInt_ofNat_of_lt (by omega)
  have hy : (Int32.ofNat L - 3).toInt = (L : Int) - 3 := by
    rw [Int32.toInt_sub, hLt]
    exact ck_bm (by have h1 : (3 : Int32).toInt = 3 := rfl; omega) (by have h1 : (3 : Int32).toInt = 3 := rfl; omega)
  have hadd : ∀ (i k : Int32), 0 ≤ i.toInt → i.toInt ≤ 3000 → 0 ≤ k.toInt → k.toInt ≤ 3 → (i + k).toInt = i.toInt + k.toInt := fun i k h1 h2 h3 h4 => by
    rw [Int32.toInt_add]
    exact ck_bm (by omega) (by omega)
  have hin : ∀ j : Int32, 0 ≤ j.toInt → j.toInt < (L : Int) → vp_in j L := fun j h1 h2 => vp_in_iff.mpr ⟨h1, h2⟩
  intro n
  induction n with
  | zero =>
    intro i f g fm gm H locs ls cells slots hi0 hi1 hn hc hs hI hJ hrel hP hD hS hl
    refine lv_iload C.1.1 C.1.2.1 dl_23 (lv_at hl 4 rfl) ?_
    refine lv_aload_n C.1.1 C.1.2.1 dl_25 rfl (lv_at hl 0 rfl) ?_
    refine va_slen C.1.1 C.1.2.1 hX hbl hbA hS dl_26 ?_
    refine lv_iconst (v := 3) C.1.1 C.1.2.1 dl_27 (by decide) ?_
    refine lv_isub C.1.1 C.1.2.1 dl_28 ?_
    refine lv_icmp_gt (tgt := 679) C.1.1 C.1.2.1 dl_29 (by decide) (fun _ => ?_) (fun hc2 => ?_)
    · refine lv_iconst (v := 1) C.1.1 C.1.2.1 dl_679 (by decide) ?_
      refine va_forget (fun q hq => hS.2.2 q hq) ?_
      refine W.widen (k := 1069) (n := 8687) (by omega) (by omega) ?_
      exact lw_ret C.1.1 C.1.2.1 C.2.1 C.2.2.1 dl_680
    · rw [Int32.lt_iff_toInt_lt, hy] at hc2
      omega
  | succ n ih =>
    intro i f g fm gm H locs ls cells slots hi0 hi1 hn hc hs hI hJ hrel hP hD hS hl
    refine lv_iload C.1.1 C.1.2.1 dl_23 (lv_at hl 4 rfl) ?_
    refine lv_aload_n C.1.1 C.1.2.1 dl_25 rfl (lv_at hl 0 rfl) ?_
    refine va_slen C.1.1 C.1.2.1 hX hbl hbA hS dl_26 ?_
    refine lv_iconst (v := 3) C.1.1 C.1.2.1 dl_27 (by decide) ?_
    refine lv_isub C.1.1 C.1.2.1 dl_28 ?_
    refine lv_icmp_gt (tgt := 679) C.1.1 C.1.2.1 dl_29 (by decide) (fun _ => ?_) (fun hc2 => ?_)
    · refine lv_iconst (v := 1) C.1.1 C.1.2.1 dl_679 (by decide) ?_
      refine va_forget (fun q hq => hS.2.2 q hq) ?_
      refine W.widen (k := 1069) (n := 8687) (by omega) (by omega) ?_
      exact lw_ret C.1.1 C.1.2.1 C.2.1 C.2.2.1 dl_680
    · rw [Int32.lt_iff_toInt_lt, hy] at hc2
      have e1 : (i + 1).toInt = i.toInt + 1 := hadd i 1 hi0 hi1 (by decide) (by decide)
      have e2 : (i + 2).toInt = i.toInt + 2 := hadd i 2 hi0 hi1 (by decide) (by decide)
      have e3 : (i + 3).toInt = i.toInt + 3 := hadd i 3 hi0 hi1 (by decide) (by decide)
      have i0 : vp_in i L := hin i hi0 (by omega)
      have i1 : vp_in (i + 1) L := hin _ (by omega) (by omega)
      have i2 : vp_in (i + 2) L := hin _ (by omega) (by omega)
      have hf : cells + 1 ≤ room_1.cells ∧ slots + 6 ≤ room_1.slots := ⟨by show cells + 1 ≤ 1069; omega, by show slots + 6 ≤ 8687; omega⟩
      have K : ∀ (f1 : zz_F) (g1 : zz_G) (fm1 : zz_F) (gm1 : zz_G) (H1 : Heap) (locs1 : List Loc) (ls1 : Array Slot), ck_gI fbG gbG f1 g1 → ck_gI fbM gbM fm1 gm1 → lw_rel f1 fm1 → va_P D vN (wW cI cZ cJ ho h hm f1 g1 fm1 gm1) H1 → va_D (fun q : Nat => s.heap.size ≤ q) (wW cI cZ cJ ho h hm f1 g1 fm1 gm1) → va_S (fun q : Nat => s.heap.size ≤ q) s.heap H1 locs1 → lv_has ls1 7 [(0, .ref b), (1, .ref (h 0)), (2, .ref (hm 0)), (3, .ref ho), (4, .int i)] → W p l e room_1 s m #[Value.ref b] below meth c H1 locs1 (cells + 1) (slots + 6) (lw_Z below #[Value.ref b] s) (F0 m 673 ls1 []) := by
        intro f1 g1 fm1 gm1 H1 locs1 ls1 hI hJ hrel hP hD hS hl
        refine lv_iinc (v := i + 3) (k := 4) (lv' := [(4, .int (i + 3)), (0, .ref b), (1, .ref (h 0)), (2, .ref (hm 0)), (3, .ref ho)]) C.1.1 C.1.2.1 dl_673 hl rfl rfl (by decide) rfl (fun ls hl => ?_)
        refine lv_goto (tgt := 23) C.1.1 C.1.2.1 dl_676 (by decide) ?_
        exact ih (i + 3) f1 g1 fm1 gm1 H1 locs1 ls (cells + 1) (slots + 6) (by omega) (by omega) (by omega) (by omega) (by omega) hI hJ hrel hP hD hS (lv_sub hl [1, 2, 3, 4, 0] rfl)
      refine lv_aload_n C.1.1 C.1.2.1 dl_32 rfl (lv_at hl 0 rfl) ?_
      refine lv_iload C.1.1 C.1.2.1 dl_33 (lv_at hl 4 rfl) ?_
      refine va_sld C.1.1 C.1.2.1 hX hbl hbA hS i0 dl_35 ?_
      refine lv_bipush (v := 31) C.1.1 C.1.2.1 dl_36 (by decide) ?_
      refine lv_iand C.1.1 C.1.2.1 dl_38 ?_
      refine lv_topi (fun z ez => ?_)
      by_cases hz : z.toInt < 0 ∨ 18 < z.toInt
      · refine lv_tableOut (tgt := 673) C.1.1 C.1.2.1 dl_39 hz (by decide) ?_
        refine W.widen (k := cells + 1) (n := slots + 6) (Nat.le_succ _) (Nat.le_add_right _ _) ?_
        exact K f g fm gm H locs ls hI hJ hrel hP hD hS hl
      · rcases (show z.toInt = 0 ∨ z.toInt = 1 ∨ z.toInt = 2 ∨ z.toInt = 3 ∨ z.toInt = 4 ∨ z.toInt = 5 ∨ z.toInt = 6 ∨ z.toInt = 7 ∨ z.toInt = 8 ∨ z.toInt = 9 ∨ z.toInt = 10 ∨ z.toInt = 11 ∨ z.toInt = 12 ∨ z.toInt = 13 ∨ z.toInt = 14 ∨ z.toInt = 15 ∨ z.toInt = 16 ∨ z.toInt = 17 ∨ z.toInt = 18 by omega) with hk | hk | hk | hk | hk | hk | hk | hk | hk | hk | hk | hk | hk | hk | hk | hk | hk | hk | hk
        · refine lv_tableIn (off := 89) (tgt := 128) C.1.1 C.1.2.1 dl_39 (by rw [hk]; decide) (by rw [hk]; decide) (by rw [hk]; rfl) (by decide) ?_
          exact lo_0 hfl C hX hbl hbA i1 i2 hI hJ hrel hP hD hS hl hf K
        · refine lv_tableIn (off := 126) (tgt := 165) C.1.1 C.1.2.1 dl_39 (by rw [hk]; decide) (by rw [hk]; decide) (by rw [hk]; rfl) (by decide) ?_
          exact lo_1 hfl C hX hbl hbA i1 i2 hI hJ hrel hP hD hS hl hf K
        · refine lv_tableIn (off := 139) (tgt := 178) C.1.1 C.1.2.1 dl_39 (by rw [hk]; decide) (by rw [hk]; decide) (by rw [hk]; rfl) (by decide) ?_
          exact lo_2 hfl C hX hbl hbA i1 i2 hI hJ hrel hP hD hS hl hf K
        · refine lv_tableIn (off := 180) (tgt := 219) C.1.1 C.1.2.1 dl_39 (by rw [hk]; decide) (by rw [hk]; decide) (by rw [hk]; rfl) (by decide) ?_
          exact lo_3 hfl C hX hbl hbA i1 i2 hI hJ hrel hP hD hS hl hf K
        · refine lv_tableIn (off := 193) (tgt := 232) C.1.1 C.1.2.1 dl_39 (by rw [hk]; decide) (by rw [hk]; decide) (by rw [hk]; rfl) (by decide) ?_
          exact lo_4 hfl C hX hbl hbA i1 i2 hI hJ hrel hP hD hS hl hf K
        · refine lv_tableIn (off := 221) (tgt := 260) C.1.1 C.1.2.1 dl_39 (by rw [hk]; decide) (by rw [hk]; decide) (by rw [hk]; rfl) (by decide) ?_
          exact lo_5 hfl C hX hbl hbA i1 i2 hI hJ hrel hP hD hS hl hf K
        · refine lv_tableIn (off := 258) (tgt := 297) C.1.1 C.1.2.1 dl_39 (by rw [hk]; decide) (by rw [hk]; decide) (by rw [hk]; rfl) (by decide) ?_
          exact lo_6 hfl C hX hbl hbA i1 i2 hI hJ hrel hP hD hS hl hf K
        · refine lv_tableIn (off := 283) (tgt := 322) C.1.1 C.1.2.1 dl_39 (by rw [hk]; decide) (by rw [hk]; decide) (by rw [hk]; rfl) (by decide) ?_
          exact lo_7 hfl C hX hbl hbA i1 i2 hI hJ hrel hP hD hS hl hf K
        · refine lv_tableIn (off := 320) (tgt := 359) C.1.1 C.1.2.1 dl_39 (by rw [hk]; decide) (by rw [hk]; decide) (by rw [hk]; rfl) (by decide) ?_
          exact lo_8 hfl C hX hbl hbA i1 i2 hI hJ hrel hP hD hS hl hf K
        · refine lv_tableIn (off := 359) (tgt := 398) C.1.1 C.1.2.1 dl_39 (by rw [hk]; decide) (by rw [hk]; decide) (by rw [hk]; rfl) (by decide) ?_
          exact lo_9 hfl C hX hbl hbA i1 i2 hI hJ hrel hP hD hS hl hf K
        · refine lv_tableIn (off := 398) (tgt := 437) C.1.1 C.1.2.1 dl_39 (by rw [hk]; decide) (by rw [hk]; decide) (by rw [hk]; rfl) (by decide) ?_
          exact lo_10 hfl C hX hbl hbA i1 i2 hI hJ hrel hP hD hS hl hf K
        · refine lv_tableIn (off := 437) (tgt := 476) C.1.1 C.1.2.1 dl_39 (by rw [hk]; decide) (by rw [hk]; decide) (by rw [hk]; rfl) (by decide) ?_
          exact lo_11 hfl C hX hbl hbA i1 i2 hI hJ hrel hP hD hS hl hf K
        · refine lv_tableIn (off := 462) (tgt := 501) C.1.1 C.1.2.1 dl_39 (by rw [hk]; decide) (by rw [hk]; decide) (by rw [hk]; rfl) (by decide) ?_
          exact lo_12 hfl C hX hbl hbA i1 i2 hI hJ hrel hP hD hS hl hf K
        · refine lv_tableIn (off := 487) (tgt := 526) C.1.1 C.1.2.1 dl_39 (by rw [hk]; decide) (by rw [hk]; decide) (by rw [hk]; rfl) (by decide) ?_
          exact lo_13 hfl C hX hbl hbA i1 i2 hI hJ hrel hP hD hS hl hf K
        · refine lv_tableIn (off := 500) (tgt := 539) C.1.1 C.1.2.1 dl_39 (by rw [hk]; decide) (by rw [hk]; decide) (by rw [hk]; rfl) (by decide) ?_
          exact lo_14 hfl C hX hbl hbA i1 i2 hI hJ hrel hP hD hS hl hf K
        · refine lv_tableIn (off := 513) (tgt := 552) C.1.1 C.1.2.1 dl_39 (by rw [hk]; decide) (by rw [hk]; decide) (by rw [hk]; rfl) (by decide) ?_
          exact lo_15 hfl C hX hbl hbA i1 i2 hI hJ hrel hP hD hS hl hf K
        · refine lv_tableIn (off := 538) (tgt := 577) C.1.1 C.1.2.1 dl_39 (by rw [hk]; decide) (by rw [hk]; decide) (by rw [hk]; rfl) (by decide) ?_
          exact lo_16 hfl C hX hbl hbA i1 i2 hI hJ hrel hP hD hS hl hf K
        · refine lv_tableIn (off := 566) (tgt := 605) C.1.1 C.1.2.1 dl_39 (by rw [hk]; decide) (by rw [hk]; decide) (by rw [hk]; rfl) (by decide) ?_
          exact lo_17 hfl C hX hbl hbA i1 i2 hI hJ hrel hP hD hS hl hf K
        · refine lv_tableIn (off := 594) (tgt := 633) C.1.1 C.1.2.1 dl_39 (by rw [hk]; decide) (by rw [hk]; decide) (by rw [hk]; rfl) (by decide) ?_
          exact lo_18 hfl C hX hbl hbA i1 i2 hI hJ hrel hP hD hS hl hf K

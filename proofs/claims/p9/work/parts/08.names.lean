/-! the words that contracts lean on: the good ones of the tables -/
def kk_W : List Cond := lw_tbl.filter goodWord
theorem kk_in {w : Cond} (i : Nat) (h : lw_tbl[i]? = some w) (hg : goodWord w = true) : w ∈ kk_W := List.mem_filter.mpr ⟨List.mem_of_getElem? h, hg⟩
theorem kk_tbl {w : Cond} (h : w ∈ kk_W) : w ∈ lw_tbl := (List.mem_filter.mp h).1
theorem kk_good {w : Cond} (h : w ∈ kk_W) : goodWord w = true := (List.mem_filter.mp h).2
theorem kk_gV {cx cy : Cond} {own Cn : String} {idx : Nat} {y : MethodName} (h1 : Cond.methodLink own idx y ∈ kk_W) (h2 : Cond.instanceMethod y ∈ kk_W) (h3 : Cond.selects Cn y y ∈ kk_W) (h4 : Cond.initialized Cn ∈ kk_W) (h5 : cy ∈ kk_W) : GoodIn (cx :: kk_W) (wsV own idx Cn y (cy :: kk_W)) := by
  have hm : ∀ w ∈ wsV own idx Cn y (cy :: kk_W), w ∈ kk_W := by
    intro w hw
    simp only [wsV, List.mem_append, List.mem_cons, List.not_mem_nil, or_false] at hw
    rcases hw with (rfl | rfl | rfl | rfl) | (rfl | hw)
    · exact h1
    · exact h2
    · exact h3
    · exact h4
    · exact h5
    · exact hw
  exact fun w hw => ⟨List.mem_cons_of_mem _ (hm w hw), good_of_word (kk_good (hm w hw))⟩
def RN0 : String := "NightCycler"
def TN0 : u_T := fun k => match k with
  | 0 => ("NightCycler", "prescription", "LNightCycler$Prescription;", true)
  | 1 => ("NightCycler", "balance", "LNightCycler$Balance;", true)
  | 2 => ("NightCycler", "senses", "LNightCycler$Senses;", true)
  | 3 => ("NightCycler", "alarms", "LNightCycler$Alarms;", true)
  | 4 => ("NightCycler", "flow", "LNightCycler$Flow;", true)
  | 5 => ("NightCycler", "pages", "LNightCycler$Pages;", true)
  | 6 => ("NightCycler", "reports", "LNightCycler$Reports;", true)
  | 7 => ("NightCycler", "powered", "Z", false)
  | 8 => ("NightCycler", "paused", "Z", false)
  | 9 => ("NightCycler", "phase", "I", false)
  | 10 => ("NightCycler", "cycle", "I", false)
  | 11 => ("NightCycler", "bookA", "I", false)
  | 12 => ("NightCycler", "bookAAtBegin", "I", false)
  | 13 => ("NightCycler", "moved", "I", false)
  | 14 => ("NightCycler", "ticks", "I", false)
  | 15 => ("NightCycler", "turn", "I", false)
  | 16 => ("NightCycler", "orders", "I", false)
  | _ => ("NightCycler", "strokeTaken", "Z", false)
def tN0 : Nat → FieldType := fun k => match k with
  | 0 => .object "NightCycler$Prescription"
  | 1 => .object "NightCycler$Balance"
  | 2 => .object "NightCycler$Senses"
  | 3 => .object "NightCycler$Alarms"
  | 4 => .object "NightCycler$Flow"
  | 5 => .object "NightCycler$Pages"
  | 6 => .object "NightCycler$Reports"
  | 7 => .boolean
  | 8 => .boolean
  | 9 => .int
  | 10 => .int
  | 11 => .int
  | 12 => .int
  | 13 => .int
  | 14 => .int
  | 15 => .int
  | 16 => .int
  | _ => .boolean
theorem nN0 : ∀ a, a < 18 → ∀ b, b < 18 → a ≠ b → (TN0 a).2.1 ≠ (TN0 b).2.1 := by decide +kernel
theorem tN0_ok : ∀ k, k < 18 → parseFieldDescriptor (TN0 k).2.2.1 = some (tN0 k) := by decide +kernel
theorem iN0 : ∀ w ∈ u_ws RN0 TN0 18, w ∈ kk_W := fun w h => List.mem_filter.mpr ⟨(by decide +kernel : ∀ w ∈ u_ws RN0 TN0 18, w ∈ lw_tbl) w h, (by decide +kernel : ∀ w ∈ u_ws RN0 TN0 18, goodWord w = true) w h⟩
def RN1 : String := "NightCycler$Prescription"
def TN1 : u_T := fun k => match k with
  | _ => ("NightCycler$Prescription", "values", "[I", true)
def tN1 : Nat → FieldType := fun k => match k with
  | _ => .array .int
theorem nN1 : ∀ a, a < 1 → ∀ b, b < 1 → a ≠ b → (TN1 a).2.1 ≠ (TN1 b).2.1 := by decide +kernel
theorem tN1_ok : ∀ k, k < 1 → parseFieldDescriptor (TN1 k).2.2.1 = some (tN1 k) := by decide +kernel
theorem iN1 : ∀ w ∈ u_ws RN1 TN1 1, w ∈ kk_W := fun w h => List.mem_filter.mpr ⟨(by decide +kernel : ∀ w ∈ u_ws RN1 TN1 1, w ∈ lw_tbl) w h, (by decide +kernel : ∀ w ∈ u_ws RN1 TN1 1, goodWord w = true) w h⟩
def RN2 : String := "NightCycler$Balance"
def TN2 : u_T := fun k => match k with
  | 0 => ("NightCycler$Balance", "weights", "[I", true)
  | 1 => ("NightCycler$Balance", "sorted", "[I", true)
  | 2 => ("NightCycler$Balance", "count", "I", false)
  | 3 => ("NightCycler$Balance", "next", "I", false)
  | 4 => ("NightCycler$Balance", "filtered", "I", false)
  | 5 => ("NightCycler$Balance", "base", "I", false)
  | _ => ("NightCycler$Balance", "based", "Z", false)
def tN2 : Nat → FieldType := fun k => match k with
  | 0 => .array .int
  | 1 => .array .int
  | 2 => .int
  | 3 => .int
  | 4 => .int
  | 5 => .int
  | _ => .boolean
theorem nN2 : ∀ a, a < 7 → ∀ b, b < 7 → a ≠ b → (TN2 a).2.1 ≠ (TN2 b).2.1 := by decide +kernel
theorem tN2_ok : ∀ k, k < 7 → parseFieldDescriptor (TN2 k).2.2.1 = some (tN2 k) := by decide +kernel
theorem iN2 : ∀ w ∈ u_ws RN2 TN2 7, w ∈ kk_W := fun w h => List.mem_filter.mpr ⟨(by decide +kernel : ∀ w ∈ u_ws RN2 TN2 7, w ∈ lw_tbl) w h, (by decide +kernel : ∀ w ∈ u_ws RN2 TN2 7, goodWord w = true) w h⟩
def RN3 : String := "NightCycler$Senses"
def TN3 : u_T := fun k => match k with
  | 0 => ("NightCycler$Senses", "airSeen", "Z", false)
  | 1 => ("NightCycler$Senses", "doorOpen", "Z", false)
  | 2 => ("NightCycler$Senses", "lineBlocked", "Z", false)
  | 3 => ("NightCycler$Senses", "heat0", "I", false)
  | _ => ("NightCycler$Senses", "heat1", "I", false)
def tN3 : Nat → FieldType := fun k => match k with
  | 0 => .boolean
  | 1 => .boolean
  | 2 => .boolean
  | 3 => .int
  | _ => .int
theorem nN3 : ∀ a, a < 5 → ∀ b, b < 5 → a ≠ b → (TN3 a).2.1 ≠ (TN3 b).2.1 := by decide +kernel
theorem tN3_ok : ∀ k, k < 5 → parseFieldDescriptor (TN3 k).2.2.1 = some (tN3 k) := by decide +kernel
theorem iN3 : ∀ w ∈ u_ws RN3 TN3 5, w ∈ kk_W := fun w h => List.mem_filter.mpr ⟨(by decide +kernel : ∀ w ∈ u_ws RN3 TN3 5, w ∈ lw_tbl) w h, (by decide +kernel : ∀ w ∈ u_ws RN3 TN3 5, goodWord w = true) w h⟩
def RN4 : String := "NightCycler$Alarms"
def TN4 : u_T := fun k => match k with
  | 0 => ("NightCycler$Alarms", "standing", "[Z", true)
  | _ => ("NightCycler$Alarms", "silentTicks", "I", false)
def tN4 : Nat → FieldType := fun k => match k with
  | 0 => .array .boolean
  | _ => .int
theorem nN4 : ∀ a, a < 2 → ∀ b, b < 2 → a ≠ b → (TN4 a).2.1 ≠ (TN4 b).2.1 := by decide +kernel
theorem tN4_ok : ∀ k, k < 2 → parseFieldDescriptor (TN4 k).2.2.1 = some (tN4 k) := by decide +kernel
theorem iN4 : ∀ w ∈ u_ws RN4 TN4 2, w ∈ kk_W := fun w h => List.mem_filter.mpr ⟨(by decide +kernel : ∀ w ∈ u_ws RN4 TN4 2, w ∈ lw_tbl) w h, (by decide +kernel : ∀ w ∈ u_ws RN4 TN4 2, goodWord w = true) w h⟩
def RN5 : String := "NightCycler$Flow"
def TN5 : u_T := fun k => match k with
  | 0 => ("NightCycler$Flow", "taken", "[I", true)
  | 1 => ("NightCycler$Flow", "count", "I", false)
  | 2 => ("NightCycler$Flow", "latest", "I", false)
  | 3 => ("NightCycler$Flow", "sum", "I", false)
  | _ => ("NightCycler$Flow", "triedAgain", "Z", false)
def tN5 : Nat → FieldType := fun k => match k with
  | 0 => .array .int
  | 1 => .int
  | 2 => .int
  | 3 => .int
  | _ => .boolean
theorem nN5 : ∀ a, a < 5 → ∀ b, b < 5 → a ≠ b → (TN5 a).2.1 ≠ (TN5 b).2.1 := by decide +kernel
theorem tN5_ok : ∀ k, k < 5 → parseFieldDescriptor (TN5 k).2.2.1 = some (tN5 k) := by decide +kernel
theorem iN5 : ∀ w ∈ u_ws RN5 TN5 5, w ∈ kk_W := fun w h => List.mem_filter.mpr ⟨(by decide +kernel : ∀ w ∈ u_ws RN5 TN5 5, w ∈ lw_tbl) w h, (by decide +kernel : ∀ w ∈ u_ws RN5 TN5 5, goodWord w = true) w h⟩
def RN6 : String := "NightCycler$Pages"
def TN6 : u_T := fun k => match k with
  | 0 => ("NightCycler$Pages", "even", "[I", true)
  | 1 => ("NightCycler$Pages", "odd", "[I", true)
  | _ => ("NightCycler$Pages", "number", "I", false)
def tN6 : Nat → FieldType := fun k => match k with
  | 0 => .array .int
  | 1 => .array .int
  | _ => .int
theorem nN6 : ∀ a, a < 3 → ∀ b, b < 3 → a ≠ b → (TN6 a).2.1 ≠ (TN6 b).2.1 := by decide +kernel
theorem tN6_ok : ∀ k, k < 3 → parseFieldDescriptor (TN6 k).2.2.1 = some (tN6 k) := by decide +kernel
theorem iN6 : ∀ w ∈ u_ws RN6 TN6 3, w ∈ kk_W := fun w h => List.mem_filter.mpr ⟨(by decide +kernel : ∀ w ∈ u_ws RN6 TN6 3, w ∈ lw_tbl) w h, (by decide +kernel : ∀ w ∈ u_ws RN6 TN6 3, goodWord w = true) w h⟩
def RN7 : String := "NightCycler$Reports"
def TN7 : u_T := fun k => match k with
  | 0 => ("NightCycler$Reports", "entries", "[I", true)
  | _ => ("NightCycler$Reports", "begun", "I", false)
def tN7 : Nat → FieldType := fun k => match k with
  | 0 => .array .int
  | _ => .int
theorem nN7 : ∀ a, a < 2 → ∀ b, b < 2 → a ≠ b → (TN7 a).2.1 ≠ (TN7 b).2.1 := by decide +kernel
theorem tN7_ok : ∀ k, k < 2 → parseFieldDescriptor (TN7 k).2.2.1 = some (tN7 k) := by decide +kernel
theorem iN7 : ∀ w ∈ u_ws RN7 TN7 2, w ∈ kk_W := fun w h => List.mem_filter.mpr ⟨(by decide +kernel : ∀ w ∈ u_ws RN7 TN7 2, w ∈ lw_tbl) w h, (by decide +kernel : ∀ w ∈ u_ws RN7 TN7 2, goodWord w = true) w h⟩
def RN8 : String := "NightCyclerModel"
def TN8 : u_T := fun k => match k with
  | 0 => ("NightCyclerModel", "code", "I", false)
  | 1 => ("NightCyclerModel", "field", "[I", true)
  | 2 => ("NightCyclerModel", "least", "[I", true)
  | 3 => ("NightCyclerModel", "most", "[I", true)
  | 4 => ("NightCyclerModel", "off", "Z", false)
  | 5 => ("NightCyclerModel", "phase", "I", false)
  | 6 => ("NightCyclerModel", "cycle", "I", false)
  | 7 => ("NightCyclerModel", "retained", "I", false)
  | 8 => ("NightCyclerModel", "ticks", "I", false)
  | 9 => ("NightCyclerModel", "moved", "I", false)
  | 10 => ("NightCyclerModel", "before", "I", false)
  | 11 => ("NightCyclerModel", "paused", "Z", false)
  | 12 => ("NightCyclerModel", "tried", "Z", false)
  | 13 => ("NightCyclerModel", "chamber", "I", false)
  | 14 => ("NightCyclerModel", "orders", "I", false)
  | 15 => ("NightCyclerModel", "stroked", "Z", false)
  | 16 => ("NightCyclerModel", "flow", "[I", true)
  | 17 => ("NightCyclerModel", "flowing", "I", false)
  | 18 => ("NightCyclerModel", "weights", "I", false)
  | 19 => ("NightCyclerModel", "weight", "[I", true)
  | 20 => ("NightCyclerModel", "ordered", "[I", true)
  | 21 => ("NightCyclerModel", "based", "Z", false)
  | 22 => ("NightCyclerModel", "base", "I", false)
  | 23 => ("NightCyclerModel", "sensor", "[I", true)
  | 24 => ("NightCyclerModel", "air", "Z", false)
  | 25 => ("NightCyclerModel", "open", "Z", false)
  | 26 => ("NightCyclerModel", "blocked", "Z", false)
  | 27 => ("NightCyclerModel", "alarms", "I", false)
  | 28 => ("NightCyclerModel", "mutes", "I", false)
  | 29 => ("NightCyclerModel", "page", "[I", true)
  | 30 => ("NightCyclerModel", "latest", "I", false)
  | 31 => ("NightCyclerModel", "number", "I", false)
  | 32 => ("NightCyclerModel", "lost", "Z", false)
  | 33 => ("NightCyclerModel", "begun", "I", false)
  | 34 => ("NightCyclerModel", "filled", "[I", true)
  | 35 => ("NightCyclerModel", "drained", "[I", true)
  | 36 => ("NightCyclerModel", "dwelt", "[I", true)
  | _ => ("NightCyclerModel", "poor", "[Z", true)
def tN8 : Nat → FieldType := fun k => match k with
  | 0 => .int
  | 1 => .array .int
  | 2 => .array .int
  | 3 => .array .int
  | 4 => .boolean
  | 5 => .int
  | 6 => .int
  | 7 => .int
  | 8 => .int
  | 9 => .int
  | 10 => .int
  | 11 => .boolean
  | 12 => .boolean
  | 13 => .int
  | 14 => .int
  | 15 => .boolean
  | 16 => .array .int
  | 17 => .int
  | 18 => .int
  | 19 => .array .int
  | 20 => .array .int
  | 21 => .boolean
  | 22 => .int
  | 23 => .array .int
  | 24 => .boolean
  | 25 => .boolean
  | 26 => .boolean
  | 27 => .int
  | 28 => .int
  | 29 => .array .int
  | 30 => .int
  | 31 => .int
  | 32 => .boolean
  | 33 => .int
  | 34 => .array .int
  | 35 => .array .int
  | 36 => .array .int
  | _ => .array .boolean
theorem nN8 : ∀ a, a < 38 → ∀ b, b < 38 → a ≠ b → (TN8 a).2.1 ≠ (TN8 b).2.1 := by decide +kernel
theorem tN8_ok : ∀ k, k < 38 → parseFieldDescriptor (TN8 k).2.2.1 = some (tN8 k) := by decide +kernel
theorem iN8 : ∀ w ∈ u_ws RN8 TN8 38, w ∈ kk_W := fun w h => List.mem_filter.mpr ⟨(by decide +kernel : ∀ w ∈ u_ws RN8 TN8 38, w ∈ lw_tbl) w h, (by decide +kernel : ∀ w ∈ u_ws RN8 TN8 38, goodWord w = true) w h⟩
abbrev vN : List vw_C := [(RN0, TN0, 18), (RN1, TN1, 1), (RN2, TN2, 7), (RN3, TN3, 5), (RN4, TN4, 2), (RN5, TN5, 5), (RN6, TN6, 3), (RN7, TN7, 2), (RN8, TN8, 38)]
/-- the class's world: the object, its seven parts, their arrays -/
def wN (cI cZ : ClassId) (h : Nat → Nat) (f : zz_F) (g : zz_G) : va_W := [
  (h 0, .inr (0, [.ref (h 1), .ref (h 2), .ref (h 3), .ref (h 4), .ref (h 5), .ref (h 6), .ref (h 7), .int (f 0), .int (f 1), .int (f 2), .int (f 3), .int (f 4), .int (f 5), .int (f 6), .int (f 7), .int (f 8), .int (f 9), .int (f 10)])),
  (h 1, .inr (1, [.ref (h 8)])),
  (h 2, .inr (2, [.ref (h 9), .ref (h 10), .int (f 11), .int (f 12), .int (f 13), .int (f 14), .int (f 15)])),
  (h 3, .inr (3, [.int (f 16), .int (f 17), .int (f 18), .int (f 19), .int (f 20)])),
  (h 4, .inr (4, [.ref (h 11), .int (f 21)])),
  (h 5, .inr (5, [.ref (h 12), .int (f 22), .int (f 23), .int (f 24), .int (f 25)])),
  (h 6, .inr (6, [.ref (h 13), .ref (h 14), .int (f 26)])),
  (h 7, .inr (7, [.ref (h 15), .int (f 27)])),
  (h 8, .inl (cI, 9, .inl (g 0))),
  (h 9, .inl (cI, 8, .inl (g 1))),
  (h 10, .inl (cI, 8, .inl (g 2))),
  (h 11, .inl (cZ, 5, .inl (g 3))),
  (h 12, .inl (cI, 60, .inl (g 4))),
  (h 13, .inl (cI, 6, .inl (g 5))),
  (h 14, .inl (cI, 6, .inl (g 6))),
  (h 15, .inl (cI, 52, .inl (g 7)))]
abbrev tyN (cI cZ cJ : ClassId) : List (ClassId × FieldType) := [(cI, .int), (cZ, .boolean), (cJ, .long)]
def xn_W : List Cond := [(Jvm.Cond.methodLinkNest "NightCycler" (9 : Nat) ({ cls := "NightCycler$Prescription", name := "<init>", desc := "()V" } : Jvm.MethodName) "NightCycler"), (Jvm.Cond.methodLinkNest "NightCycler" (18 : Nat) ({ cls := "NightCycler$Balance", name := "<init>", desc := "()V" } : Jvm.MethodName) "NightCycler"), (Jvm.Cond.methodLinkNest "NightCycler" (25 : Nat) ({ cls := "NightCycler$Senses", name := "<init>", desc := "()V" } : Jvm.MethodName) "NightCycler"), (Jvm.Cond.fieldLinkNest "NightCycler" (154 : Nat) "NightCycler$Senses" "airSeen" "Z" "NightCycler"), (Jvm.Cond.fieldLinkNest "NightCycler" (157 : Nat) "NightCycler$Senses" "doorOpen" "Z" "NightCycler"), (Jvm.Cond.fieldLinkNest "NightCycler" (160 : Nat) "NightCycler$Senses" "lineBlocked" "Z" "NightCycler"), (Jvm.Cond.methodLinkNest "NightCycler" (32 : Nat) ({ cls := "NightCycler$Alarms", name := "<init>", desc := "()V" } : Jvm.MethodName) "NightCycler"), (Jvm.Cond.fieldLinkNest "NightCycler" (178 : Nat) "NightCycler$Alarms" "silentTicks" "I" "NightCycler"), (Jvm.Cond.methodLinkNest "NightCycler" (39 : Nat) ({ cls := "NightCycler$Flow", name := "<init>", desc := "()V" } : Jvm.MethodName) "NightCycler"), (Jvm.Cond.fieldLinkNest "NightCycler" (289 : Nat) "NightCycler$Flow" "triedAgain" "Z" "NightCycler"), (Jvm.Cond.methodLinkNest "NightCycler" (46 : Nat) ({ cls := "NightCycler$Pages", name := "<init>", desc := "()V" } : Jvm.MethodName) "NightCycler"), (Jvm.Cond.fieldLinkNest "NightCycler" (212 : Nat) "NightCycler$Pages" "number" "I" "NightCycler"), (Jvm.Cond.methodLinkNest "NightCycler" (53 : Nat) ({ cls := "NightCycler$Reports", name := "<init>", desc := "()V" } : Jvm.MethodName) "NightCycler"), (Jvm.Cond.castable "java/lang/IllegalStateException" "java/lang/IllegalStateException"), (Jvm.Cond.declares ({ cls := "java/lang/RuntimeException", name := "<init>", desc := "()V" } : Jvm.MethodName)), (Jvm.Cond.declares ({ cls := "java/lang/RuntimeException", name := "<init>", desc := "(Ljava/lang/String;)V" } : Jvm.MethodName)), (Jvm.Cond.declares ({ cls := "java/lang/Exception", name := "<init>", desc := "()V" } : Jvm.MethodName)), (Jvm.Cond.declares ({ cls := "java/lang/Exception", name := "<init>", desc := "(Ljava/lang/String;)V" } : Jvm.MethodName)), (Jvm.Cond.declares ({ cls := "java/lang/Throwable", name := "<init>", desc := "()V" } : Jvm.MethodName)), (Jvm.Cond.declares ({ cls := "java/lang/Throwable", name := "<init>", desc := "(Ljava/lang/String;)V" } : Jvm.MethodName)), (Jvm.Cond.castable "java/lang/IllegalArgumentException" "java/lang/IllegalArgumentException"), (Jvm.Cond.castable "java/lang/UnsupportedOperationException" "java/lang/UnsupportedOperationException"), (Jvm.Cond.castable "java/lang/IndexOutOfBoundsException" "java/lang/IndexOutOfBoundsException")]

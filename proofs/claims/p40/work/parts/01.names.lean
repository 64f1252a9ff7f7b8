theorem goodIn_r {big : List Cond} (ws : List Cond) (ps : List Nat) (hp : ws = ps.filterMap (fun i => big[i]?)) (h : ws.all goodWord = true) : GoodIn big ws := by
  intro w hw
  have h1 := List.all_eq_true.mp h w hw
  rw [hp] at hw
  obtain ⟨i, -, hi⟩ := List.mem_filterMap.mp hw
  have hm : w ∈ big := by first | exact List.mem_of_getElem? hi | exact List.getElem?_mem hi
  exact ⟨hm, good_of_word h1⟩
theorem goodIn_app {big a b : List Cond} (ha : GoodIn big a) (hb : GoodIn big b) : GoodIn big (a ++ b) := fun w h => (List.mem_append.mp h).elim (ha w) (hb w)
theorem goodIn_ca {big a b : List Cond} {c : Cond} (ha : GoodIn big (c :: a)) (hb : GoodIn big b) : GoodIn big (c :: (a ++ b)) := fun w h => (List.mem_cons.mp h).elim (fun e => ha w (List.mem_cons.mpr (Or.inl e))) (fun h => (List.mem_append.mp h).elim (fun h => ha w (List.mem_cons.mpr (Or.inr h))) (hb w))
theorem goodIn_sub {big ws : List Cond} (hm : ∀ w ∈ ws, w ∈ big) (h : ws.all goodWord = true) : GoodIn big ws := fun w hw => ⟨hm w hw, good_of_word (List.all_eq_true.mp h w hw)⟩
def RX0 : String := "LongYear$Books"
def TX0 : u_T := fun k => match k with
  | 0 => ("LongYear$Books", "rate", "I", false)
  | 1 => ("LongYear$Books", "debts", "I", false)
  | 2 => ("LongYear$Books", "reports", "I", false)
  | 3 => ("LongYear$Books", "words", "I", false)
  | 4 => ("LongYear$Books", "from", "[I", true)
  | 5 => ("LongYear$Books", "to", "[I", true)
  | 6 => ("LongYear$Books", "owed", "[I", true)
  | 7 => ("LongYear$Books", "years", "[I", true)
  | 8 => ("LongYear$Books", "tellers", "[I", true)
  | 9 => ("LongYear$Books", "counted", "[I", true)
  | _ => ("LongYear$Books", "song", "[I", true)
def tyX0 : Nat → FieldType := fun k => match k with
  | 0 => .int
  | 1 => .int
  | 2 => .int
  | 3 => .int
  | 4 => .array .int
  | 5 => .array .int
  | 6 => .array .int
  | 7 => .array .int
  | 8 => .array .int
  | 9 => .array .int
  | _ => .array .int
abbrev wsX00 : List Cond := u_ws RX0 TX0 11
theorem nmX0 : ∀ a, a < 11 → ∀ b, b < 11 → a ≠ b → (TX0 a).2.1 ≠ (TX0 b).2.1 := by decide +kernel
theorem tyX0_ok : ∀ k, k < 11 → parseFieldDescriptor (TX0 k).2.2.1 = some (tyX0 k) := by decide +kernel
abbrev cX0_init : ByteArray := prog_2_method_1_code
def yX0_init : MethodName := ⟨RX0, "<init>", "()V"⟩
abbrev cX0_begin : ByteArray := prog_2_method_2_code
def yX0_begin : MethodName := ⟨RX0, "begin", "()V"⟩
abbrev cX0_setTo : ByteArray := prog_2_method_3_code
def yX0_setTo : MethodName := ⟨RX0, "setTo", "(LLongYear$Books;)V"⟩
abbrev cX0_addDebt : ByteArray := prog_2_method_6_code
def yX0_addDebt : MethodName := ⟨RX0, "addDebt", "(III)I"⟩
abbrev cX0_balance : ByteArray := prog_2_method_9_code
def yX0_balance : MethodName := ⟨RX0, "balance", "(II)I"⟩
def RX1 : String := "LongYear$Family"
def TX1 : u_T := fun k => match k with
  | 0 => ("LongYear$Family", "ways", "LLongYear$Farmers;", false)
  | 1 => ("LongYear$Family", "kind", "I", false)
  | 2 => ("LongYear$Family", "mouths", "I", false)
  | 3 => ("LongYear$Family", "memory", "I", false)
  | _ => ("LongYear$Family", "job", "I", false)
def tyX1 : Nat → FieldType := fun k => match k with
  | 0 => .object "LongYear$Farmers"
  | 1 => .int
  | 2 => .int
  | 3 => .int
  | _ => .int
abbrev wsX10 : List Cond := u_ws RX1 TX1 5
theorem nmX1 : ∀ a, a < 5 → ∀ b, b < 5 → a ≠ b → (TX1 a).2.1 ≠ (TX1 b).2.1 := by decide +kernel
theorem tyX1_ok : ∀ k, k < 5 → parseFieldDescriptor (TX1 k).2.2.1 = some (tyX1 k) := by decide +kernel
abbrev cX1_init : ByteArray := prog_3_method_1_code
def yX1_init : MethodName := ⟨RX1, "<init>", "(LLongYear$Farmers;)V"⟩
abbrev cX1_setTo : ByteArray := prog_3_method_2_code
def yX1_setTo : MethodName := ⟨RX1, "setTo", "(LLongYear$Family;)V"⟩
abbrev cX1_needs : ByteArray := prog_3_method_3_code
def yX1_needs : MethodName := ⟨RX1, "needs", "(Z)I"⟩
def RX2 : String := "LongYear$Farm"
def TX2 : u_T := fun k => match k with
  | 0 => ("LongYear$Farm", "kinds", "[LLongYear$Farmers;", true)
  | 1 => ("LongYear$Farm", "farmers", "LLongYear$Farmers;", true)
  | 2 => ("LongYear$Farm", "families", "[LLongYear$Family;", true)
  | 3 => ("LongYear$Farm", "nobody", "LLongYear$Family;", true)
  | 4 => ("LongYear$Farm", "span", "I", false)
  | 5 => ("LongYear$Farm", "year", "I", false)
  | 6 => ("LongYear$Farm", "grain", "I", false)
  | 7 => ("LongYear$Farm", "seed", "I", false)
  | 8 => ("LongYear$Farm", "tools", "I", false)
  | 9 => ("LongYear$Farm", "gas", "I", false)
  | 10 => ("LongYear$Farm", "size", "I", false)
  | 11 => ("LongYear$Farm", "wanted", "I", false)
  | _ => ("LongYear$Farm", "colds", "I", false)
def tyX2 : Nat → FieldType := fun k => match k with
  | 0 => .array (.object "LongYear$Farmers")
  | 1 => .object "LongYear$Farmers"
  | 2 => .array (.object "LongYear$Family")
  | 3 => .object "LongYear$Family"
  | 4 => .int
  | 5 => .int
  | 6 => .int
  | 7 => .int
  | 8 => .int
  | 9 => .int
  | 10 => .int
  | 11 => .int
  | _ => .int
abbrev wsX20 : List Cond := u_ws RX2 TX2 13
theorem nmX2 : ∀ a, a < 13 → ∀ b, b < 13 → a ≠ b → (TX2 a).2.1 ≠ (TX2 b).2.1 := by decide +kernel
theorem tyX2_ok : ∀ k, k < 13 → parseFieldDescriptor (TX2 k).2.2.1 = some (tyX2 k) := by decide +kernel
abbrev cX2_init : ByteArray := prog_4_method_1_code
def yX2_init : MethodName := ⟨RX2, "<init>", "([LLongYear$Farmers;)V"⟩
abbrev cX2_begin : ByteArray := prog_4_method_2_code
def yX2_begin : MethodName := ⟨RX2, "begin", "(I)V"⟩
abbrev cX2_setTo : ByteArray := prog_4_method_3_code
def yX2_setTo : MethodName := ⟨RX2, "setTo", "(LLongYear$Farm;)V"⟩
abbrev cX2_goBackTo : ByteArray := prog_4_method_4_code
def yX2_goBackTo : MethodName := ⟨RX2, "goBackTo", "(LLongYear$Farm;)V"⟩
abbrev cX2_setTimeTo : ByteArray := prog_4_method_5_code
def yX2_setTimeTo : MethodName := ⟨RX2, "setTimeTo", "(LLongYear$Farm;)V"⟩
abbrev cX2_member : ByteArray := prog_4_method_6_code
def yX2_member : MethodName := ⟨RX2, "member", "(I)LLongYear$Family;"⟩
abbrev cX2_settle : ByteArray := prog_4_method_7_code
def yX2_settle : MethodName := ⟨RX2, "settle", "(III)I"⟩
abbrev cX2_stock : ByteArray := prog_4_method_8_code
def yX2_stock : MethodName := ⟨RX2, "stock", "(I)I"⟩
abbrev cX2_restock : ByteArray := prog_4_method_9_code
def yX2_restock : MethodName := ⟨RX2, "restock", "(II)V"⟩
abbrev cX2_isNoon : ByteArray := prog_4_method_10_code
def yX2_isNoon : MethodName := ⟨RX2, "isNoon", "(I)Z"⟩
abbrev cX2_yearsToNoon : ByteArray := prog_4_method_11_code
def yX2_yearsToNoon : MethodName := ⟨RX2, "yearsToNoon", "()I"⟩
abbrev cX2_sown : ByteArray := prog_4_method_13_code
def yX2_sown : MethodName := ⟨RX2, "sown", "()I"⟩
abbrev cX2_goBy : ByteArray := prog_4_method_14_code
def yX2_goBy : MethodName := ⟨RX2, "goBy", "(Z)I"⟩
abbrev cX2_harvest : ByteArray := prog_4_method_15_code
def yX2_harvest : MethodName := ⟨RX2, "harvest", "(I)V"⟩
abbrev cX2_work : ByteArray := prog_4_method_16_code
def yX2_work : MethodName := ⟨RX2, "work", "()V"⟩
abbrev cX2_teach : ByteArray := prog_4_method_17_code
def yX2_teach : MethodName := ⟨RX2, "teach", "(I)V"⟩
abbrev cX2_feed : ByteArray := prog_4_method_18_code
def yX2_feed : MethodName := ⟨RX2, "feed", "(Z)I"⟩
abbrev cX2_warm : ByteArray := prog_4_method_19_code
def yX2_warm : MethodName := ⟨RX2, "warm", "()V"⟩
abbrev cX2_lose : ByteArray := prog_4_method_20_code
def yX2_lose : MethodName := ⟨RX2, "lose", "()V"⟩
abbrev cX2_forget : ByteArray := prog_4_method_21_code
def yX2_forget : MethodName := ⟨RX2, "forget", "()V"⟩
abbrev cX2_remember : ByteArray := prog_4_method_22_code
def yX2_remember : MethodName := ⟨RX2, "remember", "()V"⟩
abbrev cX2_allDo : ByteArray := prog_4_method_23_code
def yX2_allDo : MethodName := ⟨RX2, "allDo", "(I)V"⟩
abbrev cX2_onlyTeach : ByteArray := prog_4_method_24_code
def yX2_onlyTeach : MethodName := ⟨RX2, "onlyTeach", "(I)V"⟩
abbrev cX2_allKnow : ByteArray := prog_4_method_25_code
def yX2_allKnow : MethodName := ⟨RX2, "allKnow", "()Z"⟩
def RX3 : String := "LongYear$Farmers"
def TX3 : u_T := fun k => match k with
  | _ => ("", "", "", false)
def tyX3 : Nat → FieldType := fun k => match k with
  | _ => .int
abbrev wsX30 : List Cond := u_ws RX3 TX3 0
theorem nmX3 : ∀ a, a < 0 → ∀ b, b < 0 → a ≠ b → (TX3 a).2.1 ≠ (TX3 b).2.1 := by decide +kernel
theorem tyX3_ok : ∀ k, k < 0 → parseFieldDescriptor (TX3 k).2.2.1 = some (tyX3 k) := by decide +kernel
abbrev cX3_init : ByteArray := prog_5_method_1_code
def yX3_init : MethodName := ⟨RX3, "<init>", "()V"⟩
abbrev cX3_makes : ByteArray := prog_5_method_2_code
def yX3_makes : MethodName := ⟨RX3, "makes", "()I"⟩
abbrev cX3_tends : ByteArray := prog_5_method_3_code
def yX3_tends : MethodName := ⟨RX3, "tends", "()I"⟩
abbrev cX3_digs : ByteArray := prog_5_method_4_code
def yX3_digs : MethodName := ⟨RX3, "digs", "()I"⟩
abbrev cX3_meal : ByteArray := prog_5_method_5_code
def yX3_meal : MethodName := ⟨RX3, "meal", "(IZ)I"⟩
abbrev cX3_forgets : ByteArray := prog_5_method_6_code
def yX3_forgets : MethodName := ⟨RX3, "forgets", "()I"⟩
abbrev cX3_rests : ByteArray := prog_5_method_7_code
def yX3_rests : MethodName := ⟨RX3, "rests", "(I)Z"⟩
def RX4 : String := "LongYear$Keepers"
def TX4 : u_T := fun k => match k with
  | _ => ("", "", "", false)
def tyX4 : Nat → FieldType := fun k => match k with
  | _ => .int
abbrev wsX40 : List Cond := u_ws RX4 TX4 0
theorem nmX4 : ∀ a, a < 0 → ∀ b, b < 0 → a ≠ b → (TX4 a).2.1 ≠ (TX4 b).2.1 := by decide +kernel
theorem tyX4_ok : ∀ k, k < 0 → parseFieldDescriptor (TX4 k).2.2.1 = some (tyX4 k) := by decide +kernel
abbrev cX4_init : ByteArray := prog_6_method_1_code
def yX4_init : MethodName := ⟨RX4, "<init>", "()V"⟩
abbrev cX4_tends : ByteArray := prog_6_method_2_code
def yX4_tends : MethodName := ⟨RX4, "tends", "()I"⟩
def RX5 : String := "LongYear$Lump"
def TX5 : u_T := fun k => match k with
  | 0 => ("LongYear$Lump", "farm", "LLongYear$Farm;", true)
  | 1 => ("LongYear$Lump", "books", "LLongYear$Books;", true)
  | 2 => ("LongYear$Lump", "past", "[LLongYear$Farm;", true)
  | 3 => ("LongYear$Lump", "last", "I", false)
  | _ => ("LongYear$Lump", "undoable", "I", false)
def tyX5 : Nat → FieldType := fun k => match k with
  | 0 => .object "LongYear$Farm"
  | 1 => .object "LongYear$Books"
  | 2 => .array (.object "LongYear$Farm")
  | 3 => .int
  | _ => .int
abbrev wsX50 : List Cond := u_ws RX5 TX5 5
theorem nmX5 : ∀ a, a < 5 → ∀ b, b < 5 → a ≠ b → (TX5 a).2.1 ≠ (TX5 b).2.1 := by decide +kernel
theorem tyX5_ok : ∀ k, k < 5 → parseFieldDescriptor (TX5 k).2.2.1 = some (tyX5 k) := by decide +kernel
abbrev cX5_init : ByteArray := prog_7_method_1_code
def yX5_init : MethodName := ⟨RX5, "<init>", "([LLongYear$Farmers;)V"⟩
abbrev cX5_begin : ByteArray := prog_7_method_2_code
def yX5_begin : MethodName := ⟨RX5, "begin", "(I)V"⟩
abbrev cX5_setTo : ByteArray := prog_7_method_3_code
def yX5_setTo : MethodName := ⟨RX5, "setTo", "(LLongYear$Lump;)V"⟩
abbrev cX5_goBy : ByteArray := prog_7_method_4_code
def yX5_goBy : MethodName := ⟨RX5, "goBy", "()I"⟩
abbrev cX5_goBack : ByteArray := prog_7_method_5_code
def yX5_goBack : MethodName := ⟨RX5, "goBack", "()Z"⟩
def RX6 : String := "LongYear$Makers"
def TX6 : u_T := fun k => match k with
  | _ => ("", "", "", false)
def tyX6 : Nat → FieldType := fun k => match k with
  | _ => .int
abbrev wsX60 : List Cond := u_ws RX6 TX6 0
theorem nmX6 : ∀ a, a < 0 → ∀ b, b < 0 → a ≠ b → (TX6 a).2.1 ≠ (TX6 b).2.1 := by decide +kernel
theorem tyX6_ok : ∀ k, k < 0 → parseFieldDescriptor (TX6 k).2.2.1 = some (tyX6 k) := by decide +kernel
abbrev cX6_init : ByteArray := prog_8_method_1_code
def yX6_init : MethodName := ⟨RX6, "<init>", "()V"⟩
abbrev cX6_makes : ByteArray := prog_8_method_2_code
def yX6_makes : MethodName := ⟨RX6, "makes", "()I"⟩
abbrev cX6_meal : ByteArray := prog_8_method_3_code
def yX6_meal : MethodName := ⟨RX6, "meal", "(IZ)I"⟩
def RX7 : String := "LongYear$Reader"
def TX7 : u_T := fun k => match k with
  | 0 => ("LongYear$Reader", "bytes", "[I", true)
  | 1 => ("LongYear$Reader", "told", "[I", true)
  | 2 => ("LongYear$Reader", "size", "I", false)
  | 3 => ("LongYear$Reader", "start", "I", false)
  | 4 => ("LongYear$Reader", "after", "I", false)
  | 5 => ("LongYear$Reader", "sort", "I", false)
  | _ => ("LongYear$Reader", "value", "I", false)
def tyX7 : Nat → FieldType := fun k => match k with
  | 0 => .array .int
  | 1 => .array .int
  | 2 => .int
  | 3 => .int
  | 4 => .int
  | 5 => .int
  | _ => .int
abbrev wsX70 : List Cond := u_ws RX7 TX7 7
theorem nmX7 : ∀ a, a < 7 → ∀ b, b < 7 → a ≠ b → (TX7 a).2.1 ≠ (TX7 b).2.1 := by decide +kernel
theorem tyX7_ok : ∀ k, k < 7 → parseFieldDescriptor (TX7 k).2.2.1 = some (tyX7 k) := by decide +kernel
abbrev cX7_init : ByteArray := prog_9_method_1_code
def yX7_init : MethodName := ⟨RX7, "<init>", "()V"⟩
def RX8 : String := "LongYear$Singers"
def TX8 : u_T := fun k => match k with
  | _ => ("", "", "", false)
def tyX8 : Nat → FieldType := fun k => match k with
  | _ => .int
abbrev wsX80 : List Cond := u_ws RX8 TX8 0
theorem nmX8 : ∀ a, a < 0 → ∀ b, b < 0 → a ≠ b → (TX8 a).2.1 ≠ (TX8 b).2.1 := by decide +kernel
theorem tyX8_ok : ∀ k, k < 0 → parseFieldDescriptor (TX8 k).2.2.1 = some (tyX8 k) := by decide +kernel
abbrev cX8_init : ByteArray := prog_10_method_1_code
def yX8_init : MethodName := ⟨RX8, "<init>", "()V"⟩
abbrev cX8_tends : ByteArray := prog_10_method_2_code
def yX8_tends : MethodName := ⟨RX8, "tends", "()I"⟩
abbrev cX8_forgets : ByteArray := prog_10_method_3_code
def yX8_forgets : MethodName := ⟨RX8, "forgets", "()I"⟩
def RX9 : String := "LongYear$Sleepers"
def TX9 : u_T := fun k => match k with
  | _ => ("", "", "", false)
def tyX9 : Nat → FieldType := fun k => match k with
  | _ => .int
abbrev wsX90 : List Cond := u_ws RX9 TX9 0
theorem nmX9 : ∀ a, a < 0 → ∀ b, b < 0 → a ≠ b → (TX9 a).2.1 ≠ (TX9 b).2.1 := by decide +kernel
theorem tyX9_ok : ∀ k, k < 0 → parseFieldDescriptor (TX9 k).2.2.1 = some (tyX9 k) := by decide +kernel
abbrev cX9_init : ByteArray := prog_11_method_1_code
def yX9_init : MethodName := ⟨RX9, "<init>", "()V"⟩
abbrev cX9_meal : ByteArray := prog_11_method_2_code
def yX9_meal : MethodName := ⟨RX9, "meal", "(IZ)I"⟩
abbrev cX9_rests : ByteArray := prog_11_method_3_code
def yX9_rests : MethodName := ⟨RX9, "rests", "(I)Z"⟩
def RX10 : String := "LongYear$Trials"
def TX10 : u_T := fun k => match k with
  | 0 => ("LongYear$Trials", "farms", "[LLongYear$Farm;", true)
  | 1 => ("LongYear$Trials", "tried", "[I", true)
  | 2 => ("LongYear$Trials", "planned", "[I", true)
  | 3 => ("LongYear$Trials", "sums", "[I", true)
  | 4 => ("LongYear$Trials", "groups", "[I", true)
  | 5 => ("LongYear$Trials", "one", "LLongYear$Farm;", true)
  | _ => ("LongYear$Trials", "mostGrain", "I", false)
def tyX10 : Nat → FieldType := fun k => match k with
  | 0 => .array (.object "LongYear$Farm")
  | 1 => .array .int
  | 2 => .array .int
  | 3 => .array .int
  | 4 => .array .int
  | 5 => .object "LongYear$Farm"
  | _ => .int
abbrev wsX100 : List Cond := u_ws RX10 TX10 7
theorem nmX10 : ∀ a, a < 7 → ∀ b, b < 7 → a ≠ b → (TX10 a).2.1 ≠ (TX10 b).2.1 := by decide +kernel
theorem tyX10_ok : ∀ k, k < 7 → parseFieldDescriptor (TX10 k).2.2.1 = some (tyX10 k) := by decide +kernel
abbrev cX10_init : ByteArray := prog_12_method_1_code
def yX10_init : MethodName := ⟨RX10, "<init>", "([LLongYear$Farmers;)V"⟩
abbrev cX10_bestPlan : ByteArray := prog_12_method_2_code
def yX10_bestPlan : MethodName := ⟨RX10, "bestPlan", "(LLongYear$Farm;I)I"⟩
abbrev cX10_plannedJob : ByteArray := prog_12_method_3_code
def yX10_plannedJob : MethodName := ⟨RX10, "plannedJob", "(I)I"⟩
abbrev cX10_planFrom : ByteArray := prog_12_method_4_code
def yX10_planFrom : MethodName := ⟨RX10, "planFrom", "(LLongYear$Trials;LLongYear$Farm;II)V"⟩
abbrev cX10_keepIfMost : ByteArray := prog_12_method_5_code
def yX10_keepIfMost : MethodName := ⟨RX10, "keepIfMost", "(I)V"⟩
abbrev cX10_firstWant : ByteArray := prog_12_method_6_code
def yX10_firstWant : MethodName := ⟨RX10, "firstWant", "(LLongYear$Farm;II)I"⟩
abbrev cX10_leastHeld : ByteArray := prog_12_method_7_code
def yX10_leastHeld : MethodName := ⟨RX10, "leastHeld", "(LLongYear$Farm;I)I"⟩
abbrev cX10_fewestTeachers : ByteArray := prog_12_method_10_code
def yX10_fewestTeachers : MethodName := ⟨RX10, "fewestTeachers", "(LLongYear$Farm;I)I"⟩
abbrev cX10_keepsMemory : ByteArray := prog_12_method_11_code
def yX10_keepsMemory : MethodName := ⟨RX10, "keepsMemory", "(LLongYear$Farm;II)Z"⟩
abbrev cX10_fewestPayments : ByteArray := prog_12_method_12_code
def yX10_fewestPayments : MethodName := ⟨RX10, "fewestPayments", "(LLongYear$Lump;)I"⟩
abbrev cX10_mostGroupsBelow : ByteArray := prog_12_method_13_code
def yX10_mostGroupsBelow : MethodName := ⟨RX10, "mostGroupsBelow", "(II)I"⟩
def RX11 : String := "LongYear"
def TX11 : u_T := fun k => match k with
  | 0 => ("LongYear", "lump", "LLongYear$Lump;", true)
  | 1 => ("LongYear", "draft", "LLongYear$Lump;", true)
  | 2 => ("LongYear", "firstImage", "LLongYear$Lump;", true)
  | 3 => ("LongYear", "secondImage", "LLongYear$Lump;", true)
  | 4 => ("LongYear", "text", "LLongYear$Reader;", true)
  | 5 => ("LongYear", "trials", "LLongYear$Trials;", true)
  | 6 => ("LongYear", "letters", "[I", true)
  | 7 => ("LongYear", "keptImages", "I", false)
  | 8 => ("LongYear", "bads", "I", false)
  | 9 => ("LongYear", "noes", "I", false)
  | 10 => ("LongYear", "fulls", "I", false)
  | 11 => ("LongYear", "above", "J", false)
  | _ => ("LongYear", "below", "J", false)
def tyX11 : Nat → FieldType := fun k => match k with
  | 0 => .object "LongYear$Lump"
  | 1 => .object "LongYear$Lump"
  | 2 => .object "LongYear$Lump"
  | 3 => .object "LongYear$Lump"
  | 4 => .object "LongYear$Reader"
  | 5 => .object "LongYear$Trials"
  | 6 => .array .int
  | 7 => .int
  | 8 => .int
  | 9 => .int
  | 10 => .int
  | 11 => .long
  | _ => .long
abbrev wsX110 : List Cond := u_ws RX11 TX11 13
theorem nmX11 : ∀ a, a < 13 → ∀ b, b < 13 → a ≠ b → (TX11 a).2.1 ≠ (TX11 b).2.1 := by decide +kernel
theorem tyX11_ok : ∀ k, k < 13 → parseFieldDescriptor (TX11 k).2.2.1 = some (tyX11 k) := by decide +kernel
abbrev cX11_init : ByteArray := prog_1_method_1_code
def yX11_init : MethodName := ⟨RX11, "<init>", "()V"⟩
abbrev cX11_year : ByteArray := prog_1_method_2_code
def yX11_year : MethodName := ⟨RX11, "year", "(I)I"⟩
abbrev cX11_store : ByteArray := prog_1_method_3_code
def yX11_store : MethodName := ⟨RX11, "store", "(II)I"⟩
abbrev cX11_family : ByteArray := prog_1_method_4_code
def yX11_family : MethodName := ⟨RX11, "family", "(III)I"⟩
abbrev cX11_job : ByteArray := prog_1_method_5_code
def yX11_job : MethodName := ⟨RX11, "job", "(II)I"⟩
abbrev cX11_pass : ByteArray := prog_1_method_9_code
def yX11_pass : MethodName := ⟨RX11, "pass", "(I)I"⟩
abbrev cX11_undo : ByteArray := prog_1_method_10_code
def yX11_undo : MethodName := ⟨RX11, "undo", "()I"⟩
abbrev cX11_about : ByteArray := prog_1_method_11_code
def yX11_about : MethodName := ⟨RX11, "about", "(II)I"⟩
abbrev cX11_plan : ByteArray := prog_1_method_14_code
def yX11_plan : MethodName := ⟨RX11, "plan", "(II)I"⟩
abbrev cX11_want : ByteArray := prog_1_method_15_code
def yX11_want : MethodName := ⟨RX11, "want", "(I)I"⟩
abbrev cX11_held : ByteArray := prog_1_method_16_code
def yX11_held : MethodName := ⟨RX11, "held", "(I)I"⟩
abbrev cX11_teachers : ByteArray := prog_1_method_18_code
def yX11_teachers : MethodName := ⟨RX11, "teachers", "(I)I"⟩
abbrev cX11_debt : ByteArray := prog_1_method_19_code
def yX11_debt : MethodName := ⟨RX11, "debt", "(III)I"⟩
abbrev cX11_net : ByteArray := prog_1_method_21_code
def yX11_net : MethodName := ⟨RX11, "net", "(I)I"⟩
abbrev cX11_cleared : ByteArray := prog_1_method_22_code
def yX11_cleared : MethodName := ⟨RX11, "cleared", "()I"⟩
abbrev cX11_lots : ByteArray := prog_1_method_26_code
def yX11_lots : MethodName := ⟨RX11, "lots", "(II)I"⟩
abbrev cX11_image : ByteArray := prog_1_method_34_code
def yX11_image : MethodName := ⟨RX11, "image", "(I)I"⟩
abbrev cX11_from : ByteArray := prog_1_method_35_code
def yX11_from : MethodName := ⟨RX11, "from", "(I)I"⟩
abbrev cX11_count : ByteArray := prog_1_method_37_code
def yX11_count : MethodName := ⟨RX11, "count", "(I)I"⟩
abbrev cX11_refuseBad : ByteArray := prog_1_method_39_code
def yX11_refuseBad : MethodName := ⟨RX11, "refuseBad", "(I)I"⟩
abbrev cX11_refuseNo : ByteArray := prog_1_method_40_code
def yX11_refuseNo : MethodName := ⟨RX11, "refuseNo", "()I"⟩
abbrev cX11_refuseFull : ByteArray := prog_1_method_41_code
def yX11_refuseFull : MethodName := ⟨RX11, "refuseFull", "()I"⟩
abbrev cX11_isFamily : ByteArray := prog_1_method_42_code
def yX11_isFamily : MethodName := ⟨RX11, "isFamily", "(I)Z"⟩
abbrev cX11_imageAt : ByteArray := prog_1_method_44_code
def yX11_imageAt : MethodName := ⟨RX11, "imageAt", "(I)LLongYear$Lump;"⟩
abbrev cX11_tally : ByteArray := prog_1_method_47_code
def yX11_tally : MethodName := ⟨RX11, "tally", "(I)I"⟩
abbrev cX11_within : ByteArray := prog_1_method_48_code
def yX11_within : MethodName := ⟨RX11, "within", "(III)Z"⟩
abbrev cX11_leftOver : ByteArray := prog_1_method_49_code
def yX11_leftOver : MethodName := ⟨RX11, "leftOver", "(II)I"⟩
abbrev cX11_stored : ByteArray := prog_1_method_50_code
def yX11_stored : MethodName := ⟨RX11, "stored", "(I)I"⟩
abbrev cX11_undrawn : ByteArray := prog_1_method_53_code
def yX11_undrawn : MethodName := ⟨RX11, "undrawn", "(III)I"⟩
abbrev cX11_at : ByteArray := prog_1_method_54_code
def yX11_at : MethodName := ⟨RX11, "at", "([II)I"⟩
abbrev cX11_put : ByteArray := prog_1_method_55_code
def yX11_put : MethodName := ⟨RX11, "put", "([III)V"⟩
abbrev cX11_copy : ByteArray := prog_1_method_56_code
def yX11_copy : MethodName := ⟨RX11, "copy", "([I[I)V"⟩
abbrev cX11_farmAt : ByteArray := prog_1_method_57_code
def yX11_farmAt : MethodName := ⟨RX11, "farmAt", "([LLongYear$Farm;I)LLongYear$Farm;"⟩
def RX12 : String := "LongYearModel"
def TX12 : u_T := fun k => match k with
  | _ => ("", "", "", false)
def tyX12 : Nat → FieldType := fun k => match k with
  | _ => .int
abbrev wsX120 : List Cond := u_ws RX12 TX12 0
theorem nmX12 : ∀ a, a < 0 → ∀ b, b < 0 → a ≠ b → (TX12 a).2.1 ≠ (TX12 b).2.1 := by decide +kernel
theorem tyX12_ok : ∀ k, k < 0 → parseFieldDescriptor (TX12 k).2.2.1 = some (tyX12 k) := by decide +kernel
def RJ6 : String := "java/lang/Integer"
def TJ6 : u_T := fun k => match k with
  | _ => ("", "", "", false)
def tyJ6 : Nat → FieldType := fun k => match k with
  | _ => .int
abbrev wsJ60 : List Cond := u_ws RJ6 TJ6 0
theorem nmJ6 : ∀ a, a < 0 → ∀ b, b < 0 → a ≠ b → (TJ6 a).2.1 ≠ (TJ6 b).2.1 := by decide +kernel
theorem tyJ6_ok : ∀ k, k < 0 → parseFieldDescriptor (TJ6 k).2.2.1 = some (tyJ6 k) := by decide +kernel
abbrev cJ6_numberOfTrailingZeros_0f7a4 : ByteArray := prog_15_method_48_code
def yJ6_numberOfTrailingZeros_0f7a4 : MethodName := ⟨RJ6, "numberOfTrailingZeros", "(I)I"⟩
abbrev cJ6_bitCount_0f7a4 : ByteArray := prog_15_method_49_code
def yJ6_bitCount_0f7a4 : MethodName := ⟨RJ6, "bitCount", "(I)I"⟩
def RJ9 : String := "java/lang/Math"
def TJ9 : u_T := fun k => match k with
  | _ => ("", "", "", false)
def tyJ9 : Nat → FieldType := fun k => match k with
  | _ => .int
abbrev wsJ90 : List Cond := u_ws RJ9 TJ9 0
theorem nmJ9 : ∀ a, a < 0 → ∀ b, b < 0 → a ≠ b → (TJ9 a).2.1 ≠ (TJ9 b).2.1 := by decide +kernel
theorem tyJ9_ok : ∀ k, k < 0 → parseFieldDescriptor (TJ9 k).2.2.1 = some (tyJ9 k) := by decide +kernel
abbrev cJ9_max_7cf53 : ByteArray := prog_16_method_65_code
def yJ9_max_7cf53 : MethodName := ⟨RJ9, "max", "(II)I"⟩
abbrev cJ9_min_7cf53 : ByteArray := prog_16_method_69_code
def yJ9_min_7cf53 : MethodName := ⟨RJ9, "min", "(II)I"⟩
def RL : String := "LongYearLaw"
abbrev cL_cell : ByteArray := method_2_code
def yL_cell : MethodName := ⟨RL, "cell", "([II)I"⟩
abbrev cL_up : ByteArray := method_3_code
def yL_up : MethodName := ⟨RL, "up", "(II)I"⟩
abbrev cL_years : ByteArray := method_4_code
def yL_years : MethodName := ⟨RL, "years", "([I)I"⟩
abbrev cL_store : ByteArray := method_5_code
def yL_store : MethodName := ⟨RL, "store", "([II)I"⟩
abbrev cL_families : ByteArray := method_6_code
def yL_families : MethodName := ⟨RL, "families", "([I)I"⟩
abbrev cL_kind : ByteArray := method_7_code
def yL_kind : MethodName := ⟨RL, "kind", "([II)I"⟩
abbrev cL_mouths : ByteArray := method_8_code
def yL_mouths : MethodName := ⟨RL, "mouths", "([II)I"⟩
abbrev cL_memory : ByteArray := method_9_code
def yL_memory : MethodName := ⟨RL, "memory", "([II)I"⟩
abbrev cL_job : ByteArray := method_10_code
def yL_job : MethodName := ⟨RL, "job", "([II)I"⟩
abbrev cL_made : ByteArray := method_11_code
def yL_made : MethodName := ⟨RL, "made", "(LLongYear;[II)Z"⟩
abbrev cL_law : ByteArray := code
def yL_law : MethodName := ⟨RL, "law", "([I)Z"⟩
abbrev vwCl : List vw_C := [(RX0, TX0, 11), (RX1, TX1, 5), (RX2, TX2, 13), (RX3, TX3, 0), (RX4, TX4, 0), (RX5, TX5, 5), (RX6, TX6, 0), (RX7, TX7, 7), (RX8, TX8, 0), (RX9, TX9, 0), (RX10, TX10, 7), (RX11, TX11, 13)]


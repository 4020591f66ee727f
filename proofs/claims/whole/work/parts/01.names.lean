/-! ===== BEGIN words of one list among another's, by their places ===== -/
theorem goodIn_r {big : List Cond} (ws : List Cond) (ps : List Nat) (hp : ws = ps.filterMap (fun i => big[i]?)) (h : ws.all goodWord = true) : GoodIn big ws := by
  intro w hw
  have h1 := List.all_eq_true.mp h w hw
  rw [hp] at hw
  obtain ⟨i, -, hi⟩ := List.mem_filterMap.mp hw
  have hm : w ∈ big := by first | exact List.mem_of_getElem? hi | exact List.getElem?_mem hi
  exact ⟨hm, good_of_word h1⟩
theorem goodIn_app {big a b : List Cond} (ha : GoodIn big a) (hb : GoodIn big b) : GoodIn big (a ++ b) := fun w h => (List.mem_append.mp h).elim (ha w) (hb w)
theorem goodIn_ca {big a b : List Cond} {c : Cond} (ha : GoodIn big (c :: a)) (hb : GoodIn big b) : GoodIn big (c :: (a ++ b)) := fun w h => (List.mem_cons.mp h).elim (fun e => ha w (List.mem_cons.mpr (Or.inl e))) (fun h => (List.mem_append.mp h).elim (fun h => ha w (List.mem_cons.mpr (Or.inr h))) (hb w))
theorem goodIn_sub {big ws : List Cond} (hm : ∀ w ∈ ws, w ∈ big) (h : ws.all goodWord = true) : GoodIn big ws := fun w hw => ⟨hm w hw, good_of_word (List.all_eq_true.mp h w hw)⟩
/-! ===== END ===== -/

def RX0 : String := "KeptHeap$Ager"
def TX0 : u_T := fun k => match k with
  | 0 => ("KeptHeap$Keeper", "words", "LKeptHeap$Words;", true)
  | 1 => ("KeptHeap$Keeper", "roots", "LKeptHeap$Roots;", true)
  | 2 => ("KeptHeap$Keeper", "walk", "LKeptHeap$Walk;", true)
  | 3 => ("KeptHeap$Keeper", "gathered", "I", false)
  | 4 => ("KeptHeap$Keeper", "gatheredYoung", "I", false)
  | 5 => ("KeptHeap$Keeper", "moved", "I", false)
  | 6 => ("KeptHeap$Ager", "oldStart", "I", true)
  | _ => ("KeptHeap$Ager", "young", "LKeptHeap$Part;", true)
def tyX0 : Nat → FieldType := fun k => match k with
  | 0 => .object "KeptHeap$Words"
  | 1 => .object "KeptHeap$Roots"
  | 2 => .object "KeptHeap$Walk"
  | 3 => .int
  | 4 => .int
  | 5 => .int
  | 6 => .int
  | _ => .object "KeptHeap$Part"
abbrev wsX00 : List Cond := u_ws RX0 TX0 8
theorem nmX0 : ∀ a, a < 8 → ∀ b, b < 8 → a ≠ b → (TX0 a).2.1 ≠ (TX0 b).2.1 := by decide +kernel
theorem tyX0_ok : ∀ k, k < 8 → parseFieldDescriptor (TX0 k).2.2.1 = some (tyX0 k) := by decide +kernel
abbrev cX0_init : ByteArray := prog_2_method_1_code
def yX0_init : MethodName := ⟨RX0, "<init>", "(LKeptHeap$Words;LKeptHeap$Roots;)V"⟩
abbrev cX0_take : ByteArray := prog_2_method_2_code
def yX0_take : MethodName := ⟨RX0, "take", "(I)I"⟩
abbrev cX0_clearRoomFor : ByteArray := prog_2_method_3_code
def yX0_clearRoomFor : MethodName := ⟨RX0, "clearRoomFor", "(I)V"⟩
abbrev cX0_isOld : ByteArray := prog_2_method_4_code
def yX0_isOld : MethodName := ⟨RX0, "isOld", "(LKeptHeap$Thing;)Z"⟩
abbrev cX0_gather : ByteArray := prog_2_method_5_code
def yX0_gather : MethodName := ⟨RX0, "gather", "()I"⟩
abbrev cX0_gatherYoung : ByteArray := prog_2_method_6_code
def yX0_gatherYoung : MethodName := ⟨RX0, "gatherYoung", "()I"⟩
abbrev cX0_meetByRemembered : ByteArray := prog_2_method_7_code
def yX0_meetByRemembered : MethodName := ⟨RX0, "meetByRemembered", "()V"⟩
abbrev cX0_reserve : ByteArray := prog_2_method_8_code
def yX0_reserve : MethodName := ⟨RX0, "reserve", "()I"⟩
abbrev cX0_giveBack : ByteArray := prog_2_method_9_code
def yX0_giveBack : MethodName := ⟨RX0, "giveBack", "(I)V"⟩
abbrev cX0_goOver : ByteArray := prog_2_method_10_code
def yX0_goOver : MethodName := ⟨RX0, "goOver", "()V"⟩
abbrev cX0_forget : ByteArray := prog_2_method_11_code
def yX0_forget : MethodName := ⟨RX0, "forget", "()V"⟩
def RX1 : String := "KeptHeap$Copier"
def TX1 : u_T := fun k => match k with
  | 0 => ("KeptHeap$Keeper", "words", "LKeptHeap$Words;", true)
  | 1 => ("KeptHeap$Keeper", "roots", "LKeptHeap$Roots;", true)
  | 2 => ("KeptHeap$Keeper", "walk", "LKeptHeap$Walk;", true)
  | 3 => ("KeptHeap$Keeper", "gathered", "I", false)
  | 4 => ("KeptHeap$Keeper", "gatheredYoung", "I", false)
  | 5 => ("KeptHeap$Keeper", "moved", "I", false)
  | 6 => ("KeptHeap$Copier", "half", "I", true)
  | 7 => ("KeptHeap$Copier", "inUse", "LKeptHeap$Part;", true)
  | _ => ("KeptHeap$Copier", "start", "I", false)
def tyX1 : Nat → FieldType := fun k => match k with
  | 0 => .object "KeptHeap$Words"
  | 1 => .object "KeptHeap$Roots"
  | 2 => .object "KeptHeap$Walk"
  | 3 => .int
  | 4 => .int
  | 5 => .int
  | 6 => .int
  | 7 => .object "KeptHeap$Part"
  | _ => .int
abbrev wsX10 : List Cond := u_ws RX1 TX1 9
theorem nmX1 : ∀ a, a < 9 → ∀ b, b < 9 → a ≠ b → (TX1 a).2.1 ≠ (TX1 b).2.1 := by decide +kernel
theorem tyX1_ok : ∀ k, k < 9 → parseFieldDescriptor (TX1 k).2.2.1 = some (tyX1 k) := by decide +kernel
abbrev cX1_init : ByteArray := prog_3_method_1_code
def yX1_init : MethodName := ⟨RX1, "<init>", "(LKeptHeap$Words;LKeptHeap$Roots;)V"⟩
abbrev cX1_take : ByteArray := prog_3_method_2_code
def yX1_take : MethodName := ⟨RX1, "take", "(I)I"⟩
abbrev cX1_clearRoomFor : ByteArray := prog_3_method_3_code
def yX1_clearRoomFor : MethodName := ⟨RX1, "clearRoomFor", "(I)V"⟩
abbrev cX1_gather : ByteArray := prog_3_method_4_code
def yX1_gather : MethodName := ⟨RX1, "gather", "()I"⟩
def RX2 : String := "KeptHeap$Keeper"
def TX2 : u_T := fun k => match k with
  | _ => ("", "", "", false)
def tyX2 : Nat → FieldType := fun k => match k with
  | _ => .int
abbrev wsX20 : List Cond := u_ws RX2 TX2 0
theorem nmX2 : ∀ a, a < 0 → ∀ b, b < 0 → a ≠ b → (TX2 a).2.1 ≠ (TX2 b).2.1 := by decide +kernel
theorem tyX2_ok : ∀ k, k < 0 → parseFieldDescriptor (TX2 k).2.2.1 = some (tyX2 k) := by decide +kernel
abbrev cX2_init : ByteArray := prog_4_method_1_code
def yX2_init : MethodName := ⟨RX2, "<init>", "(LKeptHeap$Words;LKeptHeap$Roots;)V"⟩
abbrev cX2_gatherYoung : ByteArray := prog_4_method_5_code
def yX2_gatherYoung : MethodName := ⟨RX2, "gatherYoung", "()I"⟩
abbrev cX2_isOld : ByteArray := prog_4_method_6_code
def yX2_isOld : MethodName := ⟨RX2, "isOld", "(LKeptHeap$Thing;)Z"⟩
abbrev cX2_reachedThings : ByteArray := prog_4_method_7_code
def yX2_reachedThings : MethodName := ⟨RX2, "reachedThings", "()I"⟩
abbrev cX2_walkFromRoots : ByteArray := prog_4_method_8_code
def yX2_walkFromRoots : MethodName := ⟨RX2, "walkFromRoots", "()V"⟩
abbrev cX2_sweepFrom : ByteArray := prog_4_method_9_code
def yX2_sweepFrom : MethodName := ⟨RX2, "sweepFrom", "(I)I"⟩
abbrev cX2_sumFrom : ByteArray := prog_4_method_10_code
def yX2_sumFrom : MethodName := ⟨RX2, "sumFrom", "(LKeptHeap$Thing;)J"⟩
abbrev cX2_sumWith : ByteArray := prog_4_method_11_code
def yX2_sumWith : MethodName := ⟨RX2, "sumWith", "(JLKeptHeap$Thing;)J"⟩
def RX3 : String := "KeptHeap$Part"
def TX3 : u_T := fun k => match k with
  | 0 => ("KeptHeap$Part", "next", "I", false)
  | _ => ("KeptHeap$Part", "end", "I", false)
def tyX3 : Nat → FieldType := fun k => match k with
  | 0 => .int
  | _ => .int
abbrev wsX30 : List Cond := u_ws RX3 TX3 2
theorem nmX3 : ∀ a, a < 2 → ∀ b, b < 2 → a ≠ b → (TX3 a).2.1 ≠ (TX3 b).2.1 := by decide +kernel
theorem tyX3_ok : ∀ k, k < 2 → parseFieldDescriptor (TX3 k).2.2.1 = some (tyX3 k) := by decide +kernel
abbrev cX3_init : ByteArray := prog_5_method_1_code
def yX3_init : MethodName := ⟨RX3, "<init>", "(II)V"⟩
abbrev cX3_restart : ByteArray := prog_5_method_2_code
def yX3_restart : MethodName := ⟨RX3, "restart", "(II)V"⟩
abbrev cX3_take : ByteArray := prog_5_method_3_code
def yX3_take : MethodName := ⟨RX3, "take", "(I)I"⟩
def RX4 : String := "KeptHeap$Roots"
def TX4 : u_T := fun k => match k with
  | _ => ("KeptHeap$Roots", "things", "[LKeptHeap$Thing;", true)
def tyX4 : Nat → FieldType := fun k => match k with
  | _ => .array (.object "KeptHeap$Thing")
abbrev wsX40 : List Cond := u_ws RX4 TX4 1
theorem nmX4 : ∀ a, a < 1 → ∀ b, b < 1 → a ≠ b → (TX4 a).2.1 ≠ (TX4 b).2.1 := by decide +kernel
theorem tyX4_ok : ∀ k, k < 1 → parseFieldDescriptor (TX4 k).2.2.1 = some (tyX4 k) := by decide +kernel
abbrev cX4_init : ByteArray := prog_6_method_1_code
def yX4_init : MethodName := ⟨RX4, "<init>", "()V"⟩
abbrev cX4_has : ByteArray := prog_6_method_2_code
def yX4_has : MethodName := ⟨RX4, "has", "(I)Z"⟩
abbrev cX4_thingOf : ByteArray := prog_6_method_3_code
def yX4_thingOf : MethodName := ⟨RX4, "thingOf", "(I)LKeptHeap$Thing;"⟩
abbrev cX4_refer : ByteArray := prog_6_method_4_code
def yX4_refer : MethodName := ⟨RX4, "refer", "(ILKeptHeap$Thing;)V"⟩
def RX5 : String := "KeptHeap$Sweeper"
def TX5 : u_T := fun k => match k with
  | 0 => ("KeptHeap$Keeper", "words", "LKeptHeap$Words;", true)
  | 1 => ("KeptHeap$Keeper", "roots", "LKeptHeap$Roots;", true)
  | 2 => ("KeptHeap$Keeper", "walk", "LKeptHeap$Walk;", true)
  | 3 => ("KeptHeap$Keeper", "gathered", "I", false)
  | 4 => ("KeptHeap$Keeper", "gatheredYoung", "I", false)
  | _ => ("KeptHeap$Keeper", "moved", "I", false)
def tyX5 : Nat → FieldType := fun k => match k with
  | 0 => .object "KeptHeap$Words"
  | 1 => .object "KeptHeap$Roots"
  | 2 => .object "KeptHeap$Walk"
  | 3 => .int
  | 4 => .int
  | _ => .int
abbrev wsX50 : List Cond := u_ws RX5 TX5 6
theorem nmX5 : ∀ a, a < 6 → ∀ b, b < 6 → a ≠ b → (TX5 a).2.1 ≠ (TX5 b).2.1 := by decide +kernel
theorem tyX5_ok : ∀ k, k < 6 → parseFieldDescriptor (TX5 k).2.2.1 = some (tyX5 k) := by decide +kernel
abbrev cX5_init : ByteArray := prog_7_method_1_code
def yX5_init : MethodName := ⟨RX5, "<init>", "(LKeptHeap$Words;LKeptHeap$Roots;)V"⟩
abbrev cX5_take : ByteArray := prog_7_method_2_code
def yX5_take : MethodName := ⟨RX5, "take", "(I)I"⟩
abbrev cX5_clearRoomFor : ByteArray := prog_7_method_3_code
def yX5_clearRoomFor : MethodName := ⟨RX5, "clearRoomFor", "(I)V"⟩
abbrev cX5_gather : ByteArray := prog_7_method_4_code
def yX5_gather : MethodName := ⟨RX5, "gather", "()I"⟩
def RX6 : String := "KeptHeap$Thing"
def TX6 : u_T := fun k => match k with
  | 0 => ("KeptHeap$Thing", "name", "I", true)
  | 1 => ("KeptHeap$Thing", "numbers", "[I", true)
  | 2 => ("KeptHeap$Thing", "targets", "[LKeptHeap$Thing;", true)
  | 3 => ("KeptHeap$Thing", "address", "I", false)
  | 4 => ("KeptHeap$Thing", "remembered", "Z", false)
  | 5 => ("KeptHeap$Thing", "place", "I", false)
  | 6 => ("KeptHeap$Thing", "walk", "I", false)
  | _ => ("KeptHeap$Thing", "order", "I", false)
def tyX6 : Nat → FieldType := fun k => match k with
  | 0 => .int
  | 1 => .array .int
  | 2 => .array (.object "KeptHeap$Thing")
  | 3 => .int
  | 4 => .boolean
  | 5 => .int
  | 6 => .int
  | _ => .int
abbrev wsX60 : List Cond := u_ws RX6 TX6 8
theorem nmX6 : ∀ a, a < 8 → ∀ b, b < 8 → a ≠ b → (TX6 a).2.1 ≠ (TX6 b).2.1 := by decide +kernel
theorem tyX6_ok : ∀ k, k < 8 → parseFieldDescriptor (TX6 k).2.2.1 = some (tyX6 k) := by decide +kernel
abbrev cX6_init : ByteArray := prog_8_method_1_code
def yX6_init : MethodName := ⟨RX6, "<init>", "(II)V"⟩
abbrev cX6_fields : ByteArray := prog_8_method_2_code
def yX6_fields : MethodName := ⟨RX6, "fields", "()I"⟩
abbrev cX6_size : ByteArray := prog_8_method_3_code
def yX6_size : MethodName := ⟨RX6, "size", "()I"⟩
abbrev cX6_has : ByteArray := prog_8_method_4_code
def yX6_has : MethodName := ⟨RX6, "has", "(I)Z"⟩
abbrev cX6_numberOf : ByteArray := prog_8_method_5_code
def yX6_numberOf : MethodName := ⟨RX6, "numberOf", "(I)I"⟩
abbrev cX6_targetOf : ByteArray := prog_8_method_6_code
def yX6_targetOf : MethodName := ⟨RX6, "targetOf", "(I)LKeptHeap$Thing;"⟩
abbrev cX6_hold : ByteArray := prog_8_method_7_code
def yX6_hold : MethodName := ⟨RX6, "hold", "(IILKeptHeap$Thing;)V"⟩
def RX7 : String := "KeptHeap$Walk"
def TX7 : u_T := fun k => match k with
  | 0 => ("KeptHeap$Walk", "met", "[LKeptHeap$Thing;", true)
  | 1 => ("KeptHeap$Walk", "size", "I", false)
  | 2 => ("KeptHeap$Walk", "current", "I", false)
  | _ => ("KeptHeap$Walk", "end", "I", false)
def tyX7 : Nat → FieldType := fun k => match k with
  | 0 => .array (.object "KeptHeap$Thing")
  | 1 => .int
  | 2 => .int
  | _ => .int
abbrev wsX70 : List Cond := u_ws RX7 TX7 4
theorem nmX7 : ∀ a, a < 4 → ∀ b, b < 4 → a ≠ b → (TX7 a).2.1 ≠ (TX7 b).2.1 := by decide +kernel
theorem tyX7_ok : ∀ k, k < 4 → parseFieldDescriptor (TX7 k).2.2.1 = some (tyX7 k) := by decide +kernel
abbrev cX7_init : ByteArray := prog_9_method_1_code
def yX7_init : MethodName := ⟨RX7, "<init>", "(I)V"⟩
abbrev cX7_begin : ByteArray := prog_9_method_2_code
def yX7_begin : MethodName := ⟨RX7, "begin", "(I)V"⟩
abbrev cX7_meet : ByteArray := prog_9_method_3_code
def yX7_meet : MethodName := ⟨RX7, "meet", "(LKeptHeap$Thing;)V"⟩
abbrev cX7_meetTargetsOf : ByteArray := prog_9_method_4_code
def yX7_meetTargetsOf : MethodName := ⟨RX7, "meetTargetsOf", "(LKeptHeap$Thing;)V"⟩
abbrev cX7_meetRoots : ByteArray := prog_9_method_5_code
def yX7_meetRoots : MethodName := ⟨RX7, "meetRoots", "(LKeptHeap$Roots;)V"⟩
abbrev cX7_follow : ByteArray := prog_9_method_6_code
def yX7_follow : MethodName := ⟨RX7, "follow", "()V"⟩
abbrev cX7_hasMet : ByteArray := prog_9_method_7_code
def yX7_hasMet : MethodName := ⟨RX7, "hasMet", "(LKeptHeap$Thing;)Z"⟩
abbrev cX7_size : ByteArray := prog_9_method_8_code
def yX7_size : MethodName := ⟨RX7, "size", "()I"⟩
abbrev cX7_thingOf : ByteArray := prog_9_method_9_code
def yX7_thingOf : MethodName := ⟨RX7, "thingOf", "(I)LKeptHeap$Thing;"⟩
def RX8 : String := "KeptHeap$Words"
def TX8 : u_T := fun k => match k with
  | _ => ("KeptHeap$Words", "things", "[LKeptHeap$Thing;", true)
def tyX8 : Nat → FieldType := fun k => match k with
  | _ => .array (.object "KeptHeap$Thing")
abbrev wsX80 : List Cond := u_ws RX8 TX8 1
theorem nmX8 : ∀ a, a < 1 → ∀ b, b < 1 → a ≠ b → (TX8 a).2.1 ≠ (TX8 b).2.1 := by decide +kernel
theorem tyX8_ok : ∀ k, k < 1 → parseFieldDescriptor (TX8 k).2.2.1 = some (tyX8 k) := by decide +kernel
abbrev cX8_init : ByteArray := prog_10_method_1_code
def yX8_init : MethodName := ⟨RX8, "<init>", "(I)V"⟩
abbrev cX8_length : ByteArray := prog_10_method_2_code
def yX8_length : MethodName := ⟨RX8, "length", "()I"⟩
abbrev cX8_lyingAt : ByteArray := prog_10_method_3_code
def yX8_lyingAt : MethodName := ⟨RX8, "lyingAt", "(I)LKeptHeap$Thing;"⟩
abbrev cX8_beginningAt : ByteArray := prog_10_method_4_code
def yX8_beginningAt : MethodName := ⟨RX8, "beginningAt", "(I)LKeptHeap$Thing;"⟩
abbrev cX8_put : ByteArray := prog_10_method_5_code
def yX8_put : MethodName := ⟨RX8, "put", "(LKeptHeap$Thing;I)V"⟩
abbrev cX8_fill : ByteArray := prog_10_method_6_code
def yX8_fill : MethodName := ⟨RX8, "fill", "(IILKeptHeap$Thing;)V"⟩
abbrev cX8_gapFrom : ByteArray := prog_10_method_7_code
def yX8_gapFrom : MethodName := ⟨RX8, "gapFrom", "(II)I"⟩
abbrev cX8_thingsBelow : ByteArray := prog_10_method_8_code
def yX8_thingsBelow : MethodName := ⟨RX8, "thingsBelow", "(I)I"⟩
abbrev cX8_taken : ByteArray := prog_10_method_9_code
def yX8_taken : MethodName := ⟨RX8, "taken", "()I"⟩
abbrev cX8_rememberedThings : ByteArray := prog_10_method_10_code
def yX8_rememberedThings : MethodName := ⟨RX8, "rememberedThings", "()I"⟩
def RX9 : String := "KeptHeap"
def TX9 : u_T := fun k => match k with
  | 0 => ("KeptHeap", "words", "LKeptHeap$Words;", true)
  | 1 => ("KeptHeap", "roots", "LKeptHeap$Roots;", true)
  | 2 => ("KeptHeap", "keeper", "LKeptHeap$Keeper;", true)
  | _ => ("KeptHeap", "made", "I", false)
def tyX9 : Nat → FieldType := fun k => match k with
  | 0 => .object "KeptHeap$Words"
  | 1 => .object "KeptHeap$Roots"
  | 2 => .object "KeptHeap$Keeper"
  | _ => .int
abbrev wsX90 : List Cond := u_ws RX9 TX9 4
theorem nmX9 : ∀ a, a < 4 → ∀ b, b < 4 → a ≠ b → (TX9 a).2.1 ≠ (TX9 b).2.1 := by decide +kernel
theorem tyX9_ok : ∀ k, k < 4 → parseFieldDescriptor (TX9 k).2.2.1 = some (tyX9 k) := by decide +kernel
abbrev cX9_init : ByteArray := prog_1_method_1_code
def yX9_init : MethodName := ⟨RX9, "<init>", "(II)V"⟩
abbrev cX9_make : ByteArray := prog_1_method_2_code
def yX9_make : MethodName := ⟨RX9, "make", "(II)I"⟩
abbrev cX9_set : ByteArray := prog_1_method_3_code
def yX9_set : MethodName := ⟨RX9, "set", "(III)I"⟩
abbrev cX9_link : ByteArray := prog_1_method_4_code
def yX9_link : MethodName := ⟨RX9, "link", "(III)I"⟩
abbrev cX9_refers : ByteArray := prog_1_method_5_code
def yX9_refers : MethodName := ⟨RX9, "refers", "(II)I"⟩
abbrev cX9_number : ByteArray := prog_1_method_6_code
def yX9_number : MethodName := ⟨RX9, "number", "(II)I"⟩
abbrev cX9_load : ByteArray := prog_1_method_7_code
def yX9_load : MethodName := ⟨RX9, "load", "(III)I"⟩
abbrev cX9_copy : ByteArray := prog_1_method_8_code
def yX9_copy : MethodName := ⟨RX9, "copy", "(II)I"⟩
abbrev cX9_drop : ByteArray := prog_1_method_9_code
def yX9_drop : MethodName := ⟨RX9, "drop", "(I)I"⟩
abbrev cX9_collect : ByteArray := prog_1_method_10_code
def yX9_collect : MethodName := ⟨RX9, "collect", "()I"⟩
abbrev cX9_minor : ByteArray := prog_1_method_11_code
def yX9_minor : MethodName := ⟨RX9, "minor", "()I"⟩
abbrev cX9_object : ByteArray := prog_1_method_12_code
def yX9_object : MethodName := ⟨RX9, "object", "(II)I"⟩
abbrev cX9_at : ByteArray := prog_1_method_13_code
def yX9_at : MethodName := ⟨RX9, "at", "(I)I"⟩
abbrev cX9_count : ByteArray := prog_1_method_14_code
def yX9_count : MethodName := ⟨RX9, "count", "(I)I"⟩
abbrev cX9_same : ByteArray := prog_1_method_15_code
def yX9_same : MethodName := ⟨RX9, "same", "(II)I"⟩
abbrev cX9_sum : ByteArray := prog_1_method_16_code
def yX9_sum : MethodName := ⟨RX9, "sum", "(I)J"⟩
abbrev cX9_wordsFor : ByteArray := prog_1_method_17_code
def yX9_wordsFor : MethodName := ⟨RX9, "wordsFor", "(I)I"⟩
abbrev cX9_keeperFor : ByteArray := prog_1_method_18_code
def yX9_keeperFor : MethodName := ⟨RX9, "keeperFor", "(ILKeptHeap$Words;LKeptHeap$Roots;)LKeptHeap$Keeper;"⟩
abbrev cX9_asNumber : ByteArray := prog_1_method_19_code
def yX9_asNumber : MethodName := ⟨RX9, "asNumber", "(Z)I"⟩
abbrev cX9_nameOf : ByteArray := prog_1_method_20_code
def yX9_nameOf : MethodName := ⟨RX9, "nameOf", "(LKeptHeap$Thing;)I"⟩
abbrev cX9_holderOf : ByteArray := prog_1_method_21_code
def yX9_holderOf : MethodName := ⟨RX9, "holderOf", "(II)LKeptHeap$Thing;"⟩
abbrev cX9_whyNoHolder : ByteArray := prog_1_method_22_code
def yX9_whyNoHolder : MethodName := ⟨RX9, "whyNoHolder", "(II)I"⟩
def RX10 : String := "KeptHeapModel"
def TX10 : u_T := fun k => match k with
  | 0 => ("KeptHeapModel", "thrown", "I", false)
  | 1 => ("KeptHeapModel", "keeper", "I", true)
  | 2 => ("KeptHeapModel", "words", "I", true)
  | 3 => ("KeptHeapModel", "made", "I", false)
  | 4 => ("KeptHeapModel", "address", "[I", true)
  | 5 => ("KeptHeapModel", "fields", "[I", true)
  | 6 => ("KeptHeapModel", "remembered", "[Z", true)
  | 7 => ("KeptHeapModel", "number", "[I", true)
  | 8 => ("KeptHeapModel", "refers", "[I", true)
  | 9 => ("KeptHeapModel", "root", "[I", true)
  | 10 => ("KeptHeapModel", "owner", "[I", true)
  | 11 => ("KeptHeapModel", "half", "I", false)
  | 12 => ("KeptHeapModel", "top", "I", false)
  | 13 => ("KeptHeapModel", "collected", "I", false)
  | 14 => ("KeptHeapModel", "minors", "I", false)
  | 15 => ("KeptHeapModel", "moved", "I", false)
  | 16 => ("KeptHeapModel", "size", "I", false)
  | 17 => ("KeptHeapModel", "row", "[I", true)
  | 18 => ("KeptHeapModel", "place", "[I", true)
  | _ => ("KeptHeapModel", "oldAddress", "[I", true)
def tyX10 : Nat → FieldType := fun k => match k with
  | 0 => .int
  | 1 => .int
  | 2 => .int
  | 3 => .int
  | 4 => .array .int
  | 5 => .array .int
  | 6 => .array .boolean
  | 7 => .array .int
  | 8 => .array .int
  | 9 => .array .int
  | 10 => .array .int
  | 11 => .int
  | 12 => .int
  | 13 => .int
  | 14 => .int
  | 15 => .int
  | 16 => .int
  | 17 => .array .int
  | 18 => .array .int
  | _ => .array .int
abbrev wsX100 : List Cond := u_ws RX10 TX10 20
theorem nmX10 : ∀ a, a < 20 → ∀ b, b < 20 → a ≠ b → (TX10 a).2.1 ≠ (TX10 b).2.1 := by decide +kernel
theorem tyX10_ok : ∀ k, k < 20 → parseFieldDescriptor (TX10 k).2.2.1 = some (tyX10 k) := by decide +kernel
abbrev cX10_init : ByteArray := prog_12_method_1_code
def yX10_init : MethodName := ⟨RX10, "<init>", "(II)V"⟩
abbrev cX10_in : ByteArray := prog_12_method_3_code
def yX10_in : MethodName := ⟨RX10, "in", "(III)Z"⟩
abbrev cX10_isRoot : ByteArray := prog_12_method_4_code
def yX10_isRoot : MethodName := ⟨RX10, "isRoot", "(I)Z"⟩
abbrev cX10_isOld : ByteArray := prog_12_method_5_code
def yX10_isOld : MethodName := ⟨RX10, "isOld", "(I)Z"⟩
abbrev cX10_lie : ByteArray := prog_12_method_6_code
def yX10_lie : MethodName := ⟨RX10, "lie", "(II)V"⟩
abbrev cX10_leave : ByteArray := prog_12_method_7_code
def yX10_leave : MethodName := ⟨RX10, "leave", "(I)V"⟩
abbrev cX10_go : ByteArray := prog_12_method_8_code
def yX10_go : MethodName := ⟨RX10, "go", "(I)V"⟩
abbrev cX10_fit : ByteArray := prog_12_method_9_code
def yX10_fit : MethodName := ⟨RX10, "fit", "(II)I"⟩
abbrev cX10_begin : ByteArray := prog_12_method_10_code
def yX10_begin : MethodName := ⟨RX10, "begin", "()V"⟩
abbrev cX10_meet : ByteArray := prog_12_method_11_code
def yX10_meet : MethodName := ⟨RX10, "meet", "(I)V"⟩
abbrev cX10_follow : ByteArray := prog_12_method_12_code
def yX10_follow : MethodName := ⟨RX10, "follow", "()V"⟩
abbrev cX10_reach : ByteArray := prog_12_method_13_code
def yX10_reach : MethodName := ⟨RX10, "reach", "()V"⟩
abbrev cX10_sweep : ByteArray := prog_12_method_14_code
def yX10_sweep : MethodName := ⟨RX10, "sweep", "(Z)I"⟩
abbrev cX10_copyAll : ByteArray := prog_12_method_15_code
def yX10_copyAll : MethodName := ⟨RX10, "copyAll", "()I"⟩
abbrev cX10_raise : ByteArray := prog_12_method_16_code
def yX10_raise : MethodName := ⟨RX10, "raise", "(I)Z"⟩
abbrev cX10_raiseFields : ByteArray := prog_12_method_17_code
def yX10_raiseFields : MethodName := ⟨RX10, "raiseFields", "(I)Z"⟩
abbrev cX10_minorNow : ByteArray := prog_12_method_18_code
def yX10_minorNow : MethodName := ⟨RX10, "minorNow", "()I"⟩
abbrev cX10_collectNow : ByteArray := prog_12_method_19_code
def yX10_collectNow : MethodName := ⟨RX10, "collectNow", "()I"⟩
abbrev cX10_room : ByteArray := prog_12_method_20_code
def yX10_room : MethodName := ⟨RX10, "room", "(I)I"⟩
abbrev cX10_make : ByteArray := prog_12_method_21_code
def yX10_make : MethodName := ⟨RX10, "make", "(II)I"⟩
abbrev cX10_wrong : ByteArray := prog_12_method_22_code
def yX10_wrong : MethodName := ⟨RX10, "wrong", "(II)I"⟩
abbrev cX10_set : ByteArray := prog_12_method_23_code
def yX10_set : MethodName := ⟨RX10, "set", "(III)I"⟩
abbrev cX10_link : ByteArray := prog_12_method_24_code
def yX10_link : MethodName := ⟨RX10, "link", "(III)I"⟩
abbrev cX10_refers : ByteArray := prog_12_method_25_code
def yX10_refers : MethodName := ⟨RX10, "refers", "(II)I"⟩
abbrev cX10_number : ByteArray := prog_12_method_26_code
def yX10_number : MethodName := ⟨RX10, "number", "(II)I"⟩
abbrev cX10_load : ByteArray := prog_12_method_27_code
def yX10_load : MethodName := ⟨RX10, "load", "(III)I"⟩
abbrev cX10_copy : ByteArray := prog_12_method_28_code
def yX10_copy : MethodName := ⟨RX10, "copy", "(II)I"⟩
abbrev cX10_drop : ByteArray := prog_12_method_29_code
def yX10_drop : MethodName := ⟨RX10, "drop", "(I)I"⟩
abbrev cX10_collect : ByteArray := prog_12_method_30_code
def yX10_collect : MethodName := ⟨RX10, "collect", "()I"⟩
abbrev cX10_minor : ByteArray := prog_12_method_31_code
def yX10_minor : MethodName := ⟨RX10, "minor", "()I"⟩
abbrev cX10_object : ByteArray := prog_12_method_32_code
def yX10_object : MethodName := ⟨RX10, "object", "(II)I"⟩
abbrev cX10_at : ByteArray := prog_12_method_33_code
def yX10_at : MethodName := ⟨RX10, "at", "(I)I"⟩
abbrev cX10_count : ByteArray := prog_12_method_34_code
def yX10_count : MethodName := ⟨RX10, "count", "(I)I"⟩
abbrev cX10_same : ByteArray := prog_12_method_35_code
def yX10_same : MethodName := ⟨RX10, "same", "(II)I"⟩
abbrev cX10_sum : ByteArray := prog_12_method_36_code
def yX10_sum : MethodName := ⟨RX10, "sum", "(I)J"⟩
def RJ9 : String := "java/lang/Math"
def TJ9 : u_T := fun k => match k with
  | _ => ("", "", "", false)
def tyJ9 : Nat → FieldType := fun k => match k with
  | _ => .int
abbrev wsJ90 : List Cond := u_ws RJ9 TJ9 0
theorem nmJ9 : ∀ a, a < 0 → ∀ b, b < 0 → a ≠ b → (TJ9 a).2.1 ≠ (TJ9 b).2.1 := by decide +kernel
theorem tyJ9_ok : ∀ k, k < 0 → parseFieldDescriptor (TJ9 k).2.2.1 = some (tyJ9 k) := by decide +kernel
abbrev cJ9_max_7cf53 : ByteArray := prog_13_method_65_code
def yJ9_max_7cf53 : MethodName := ⟨RJ9, "max", "(II)I"⟩
abbrev cJ9_min_7cf53 : ByteArray := prog_13_method_69_code
def yJ9_min_7cf53 : MethodName := ⟨RJ9, "min", "(II)I"⟩
def RL : String := "KeptHeapLaw"
abbrev cL_cell : ByteArray := method_2_code
def yL_cell : MethodName := ⟨RL, "cell", "([II)I"⟩
abbrev cL_law : ByteArray := code
def yL_law : MethodName := ⟨RL, "law", "([I)Z"⟩
def wsL_law_r1 : List Cond := [Cond.classLink RL 7 RX9, Cond.instantiable RX9 4, Cond.initialized RX9, Cond.classLink RL 18 RX10, Cond.instantiable RX10 20, Cond.initialized RX10, Cond.methodLink RL 9 yL_cell, Cond.static yL_cell, Cond.initialized RL, Cond.code yL_cell cL_cell 2 (some .int), Cond.methodLink RL 15 yX9_init, Cond.instanceMethod yX9_init, Cond.code yX9_init cX9_init 5 none, Cond.methodLink RX9 1 objectInit, Cond.instanceMethod objectInit, Cond.code objectInit ⟨#[0xb1]⟩ 1 none, Cond.classLink RX9 7 RX8, Cond.instantiable RX8 1, Cond.initialized RX8, Cond.classLink RX9 18 RX4, Cond.instantiable RX4 1, Cond.initialized RX4, Cond.fieldLink RX9 21 "KeptHeap" "words" "LKeptHeap$Words;", Cond.fieldLink RX9 25 "KeptHeap" "roots" "LKeptHeap$Roots;"]
def wsL_law_r2 : List Cond := [Cond.fieldLink RX9 33 "KeptHeap" "keeper" "LKeptHeap$Keeper;", Cond.fieldLink RX9 37 "KeptHeap" "made" "I", Cond.methodLink RX9 9 yX9_wordsFor, Cond.static yX9_wordsFor, Cond.code yX9_wordsFor cX9_wordsFor 2 (some .int), Cond.methodLink RX9 153 Lib.Math.min.name, Cond.static Lib.Math.min.name, Cond.initialized "java/lang/Math", Cond.code Lib.Math.min.name Lib.Math.min.code 2 (some .int), Cond.methodLink RX9 158 Lib.Math.max.name, Cond.static Lib.Math.max.name, Cond.code Lib.Math.max.name Lib.Math.max.code 2 (some .int), Cond.methodLink RX9 15 yX8_init, Cond.instanceMethod yX8_init, Cond.code yX8_init cX8_init 2 none, Cond.methodLink RX8 3 objectInit, Cond.methodLink RX8 9 Lib.Math.max.name, Cond.classLink RX8 15 RX6, Cond.fieldLink RX8 17 "KeptHeap$Words" "things" "[LKeptHeap$Thing;", Cond.methodLink RX9 20 yX4_init, Cond.instanceMethod yX4_init, Cond.code yX4_init cX4_init 1 none, Cond.methodLink RX4 3 objectInit, Cond.classLink RX4 9 RX6]
def wsL_law_r3 : List Cond := [Cond.fieldLink RX4 11 "KeptHeap$Roots" "things" "[LKeptHeap$Thing;", Cond.methodLink RX9 29 yX9_keeperFor, Cond.static yX9_keeperFor, Cond.code yX9_keeperFor cX9_keeperFor 3 (some (.object "KeptHeap$Keeper")), Cond.classLink RX9 161 RX1, Cond.instantiable RX1 9, Cond.initialized RX1, Cond.classLink RX9 166 RX0, Cond.instantiable RX0 8, Cond.initialized RX0, Cond.classLink RX9 169 RX5, Cond.instantiable RX5 6, Cond.initialized RX5, Cond.methodLink RX9 163 yX1_init, Cond.instanceMethod yX1_init, Cond.code yX1_init cX1_init 3 none, Cond.fieldLink RX1 13 "KeptHeap$Copier" "half" "I", Cond.classLink RX1 19 RX3, Cond.instantiable RX3 2, Cond.initialized RX3, Cond.fieldLink RX1 24 "KeptHeap$Copier" "inUse" "LKeptHeap$Part;", Cond.fieldLink RX1 28 "KeptHeap$Copier" "start" "I", Cond.methodLink RX1 1 yX2_init, Cond.instanceMethod yX2_init]
def wsL_law_r4 : List Cond := [Cond.initialized RX2, Cond.code yX2_init cX2_init 3 none, Cond.methodLink RX2 3 objectInit, Cond.fieldLink RX2 9 "KeptHeap$Keeper" "words" "LKeptHeap$Words;", Cond.fieldLink RX2 15 "KeptHeap$Keeper" "roots" "LKeptHeap$Roots;", Cond.classLink RX2 19 RX7, Cond.instantiable RX7 4, Cond.initialized RX7, Cond.fieldLink RX2 30 "KeptHeap$Keeper" "walk" "LKeptHeap$Walk;", Cond.fieldLink RX2 34 "KeptHeap$Keeper" "gathered" "I", Cond.fieldLink RX2 38 "KeptHeap$Keeper" "gatheredYoung" "I", Cond.fieldLink RX2 41 "KeptHeap$Keeper" "moved" "I", Cond.methodLink RX2 21 yX8_length, Cond.instanceMethod yX8_length, Cond.selects RX8 yX8_length yX8_length, Cond.code yX8_length cX8_length 1 (some .int), Cond.methodLink RX2 27 yX7_init, Cond.instanceMethod yX7_init, Cond.code yX7_init cX7_init 2 none, Cond.methodLink RX7 3 objectInit, Cond.methodLink RX7 9 Lib.Math.max.name, Cond.classLink RX7 15 RX6, Cond.fieldLink RX7 17 "KeptHeap$Walk" "met" "[LKeptHeap$Thing;", Cond.fieldLink RX7 23 "KeptHeap$Walk" "size" "I"]
def wsL_law_r5 : List Cond := [Cond.fieldLink RX7 27 "KeptHeap$Walk" "current" "I", Cond.fieldLink RX7 30 "KeptHeap$Walk" "end" "I", Cond.methodLink RX1 7 yX8_length, Cond.methodLink RX1 21 yX3_init, Cond.instanceMethod yX3_init, Cond.code yX3_init cX3_init 3 none, Cond.methodLink RX3 3 objectInit, Cond.fieldLink RX3 9 "KeptHeap$Part" "next" "I", Cond.fieldLink RX3 15 "KeptHeap$Part" "end" "I", Cond.methodLink RX9 168 yX0_init, Cond.instanceMethod yX0_init, Cond.code yX0_init cX0_init 3 none, Cond.fieldLink RX0 15 "KeptHeap$Ager" "oldStart" "I", Cond.classLink RX0 21 RX3, Cond.fieldLink RX0 26 "KeptHeap$Ager" "young" "LKeptHeap$Part;", Cond.methodLink RX0 3 yX2_init, Cond.methodLink RX0 9 yX8_length, Cond.methodLink RX0 23 yX3_init, Cond.methodLink RX9 171 yX5_init, Cond.instanceMethod yX5_init, Cond.code yX5_init cX5_init 3 none, Cond.methodLink RX5 1 yX2_init, Cond.methodLink RL 20 yX10_init, Cond.instanceMethod yX10_init]
def wsL_law_r6 : List Cond := [Cond.code yX10_init cX10_init 5 none, Cond.methodLink RX10 1 objectInit, Cond.arrayClass .int, Cond.fieldLink RX10 7 "KeptHeapModel" "address" "[I", Cond.fieldLink RX10 13 "KeptHeapModel" "fields" "[I", Cond.arrayClass .boolean, Cond.fieldLink RX10 16 "KeptHeapModel" "remembered" "[Z", Cond.fieldLink RX10 20 "KeptHeapModel" "number" "[I", Cond.fieldLink RX10 23 "KeptHeapModel" "refers" "[I", Cond.fieldLink RX10 26 "KeptHeapModel" "root" "[I", Cond.fieldLink RX10 29 "KeptHeapModel" "owner" "[I", Cond.fieldLink RX10 32 "KeptHeapModel" "row" "[I", Cond.fieldLink RX10 35 "KeptHeapModel" "place" "[I", Cond.fieldLink RX10 38 "KeptHeapModel" "oldAddress" "[I", Cond.fieldLink RX10 41 "KeptHeapModel" "keeper" "I", Cond.fieldLink RX10 45 "KeptHeapModel" "words" "I", Cond.methodLink RL 21 yX9_make, Cond.instanceMethod yX9_make, Cond.selects RX9 yX9_make yX9_make, Cond.code yX9_make cX9_make 5 (some .int), Cond.classLink RX9 53 RX6, Cond.instantiable RX6 8, Cond.initialized RX6, Cond.fieldLink RX9 66 "KeptHeap$Thing" "name" "I"]
def wsL_law_r7 : List Cond := [Cond.methodLink RX9 41 yX4_has, Cond.instanceMethod yX4_has, Cond.selects RX4 yX4_has yX4_has, Cond.code yX4_has cX4_has 2 (some .boolean), Cond.methodLink RX9 45 ⟨"KeptHeap$Keeper", "take", "(I)I"⟩, Cond.sameMethod "KeptHeap$Keeper" "KeptHeap$Keeper" "take" "(I)I", Cond.selects RX0 ⟨"KeptHeap$Keeper", "take", "(I)I"⟩ yX0_take, Cond.instanceMethod yX0_take, Cond.code yX0_take cX0_take 2 (some .int), Cond.methodLink RX0 30 yX3_take, Cond.instanceMethod yX3_take, Cond.selects RX3 yX3_take yX3_take, Cond.code yX3_take cX3_take 3 (some .int), Cond.selects RX1 ⟨"KeptHeap$Keeper", "take", "(I)I"⟩ yX1_take, Cond.instanceMethod yX1_take, Cond.code yX1_take cX1_take 2 (some .int), Cond.methodLink RX1 31 yX3_take, Cond.selects RX5 ⟨"KeptHeap$Keeper", "take", "(I)I"⟩ yX5_take, Cond.instanceMethod yX5_take, Cond.code yX5_take cX5_take 2 (some .int), Cond.fieldLink RX5 7 "KeptHeap$Sweeper" "words" "LKeptHeap$Words;", Cond.sameField "KeptHeap$Sweeper" "KeptHeap$Keeper" "words" "LKeptHeap$Words;", Cond.methodLink RX5 13 yX8_gapFrom, Cond.instanceMethod yX8_gapFrom]
def wsL_law_r8 : List Cond := [Cond.selects RX8 yX8_gapFrom yX8_gapFrom, Cond.code yX8_gapFrom cX8_gapFrom 5 (some .int), Cond.methodLink RX9 50 ⟨"KeptHeap$Keeper", "clearRoomFor", "(I)V"⟩, Cond.sameMethod "KeptHeap$Keeper" "KeptHeap$Keeper" "clearRoomFor" "(I)V", Cond.selects RX0 ⟨"KeptHeap$Keeper", "clearRoomFor", "(I)V"⟩ yX0_clearRoomFor, Cond.instanceMethod yX0_clearRoomFor, Cond.code yX0_clearRoomFor cX0_clearRoomFor 2 none, Cond.methodLink RX0 34 yX0_gatherYoung, Cond.instanceMethod yX0_gatherYoung, Cond.selects RX0 yX0_gatherYoung yX0_gatherYoung, Cond.code yX0_gatherYoung cX0_gatherYoung 3 (some .int), Cond.fieldLink RX0 55 "KeptHeap$Ager" "walk" "LKeptHeap$Walk;", Cond.sameField "KeptHeap$Ager" "KeptHeap$Keeper" "walk" "LKeptHeap$Walk;", Cond.fieldLink RX0 65 "KeptHeap$Ager" "roots" "LKeptHeap$Roots;", Cond.sameField "KeptHeap$Ager" "KeptHeap$Keeper" "roots" "LKeptHeap$Roots;", Cond.fieldLink RX0 88 "KeptHeap$Ager" "words" "LKeptHeap$Words;", Cond.sameField "KeptHeap$Ager" "KeptHeap$Keeper" "words" "LKeptHeap$Words;", Cond.fieldLink RX0 108 "KeptHeap$Ager" "gatheredYoung" "I", Cond.sameField "KeptHeap$Ager" "KeptHeap$Keeper" "gatheredYoung" "I", Cond.methodLink RX0 59 yX7_begin, Cond.instanceMethod yX7_begin, Cond.selects RX7 yX7_begin yX7_begin, Cond.code yX7_begin cX7_begin 2 none, Cond.methodLink RX0 69 yX7_meetRoots]
def wsL_law_r9 : List Cond := [Cond.instanceMethod yX7_meetRoots, Cond.selects RX7 yX7_meetRoots yX7_meetRoots, Cond.code yX7_meetRoots cX7_meetRoots 3 none, Cond.methodLink RX7 54 yX4_thingOf, Cond.instanceMethod yX4_thingOf, Cond.selects RX4 yX4_thingOf yX4_thingOf, Cond.code yX4_thingOf cX4_thingOf 2 (some (.object "KeptHeap$Thing")), Cond.methodLink RX4 17 yX4_has, Cond.methodLink RX7 50 yX7_meet, Cond.instanceMethod yX7_meet, Cond.selects RX7 yX7_meet yX7_meet, Cond.code yX7_meet cX7_meet 2 none, Cond.fieldLink RX7 33 "KeptHeap$Thing" "address" "I", Cond.fieldLink RX7 36 "KeptHeap$Thing" "walk" "I", Cond.fieldLink RX7 39 "KeptHeap$Thing" "order" "I", Cond.methodLink RX0 73 yX0_meetByRemembered, Cond.instanceMethod yX0_meetByRemembered, Cond.selects RX0 yX0_meetByRemembered yX0_meetByRemembered, Cond.code yX0_meetByRemembered cX0_meetByRemembered 3 none, Cond.fieldLink RX0 115 "KeptHeap$Thing" "remembered" "Z", Cond.methodLink RX0 111 yX8_beginningAt, Cond.instanceMethod yX8_beginningAt, Cond.selects RX8 yX8_beginningAt yX8_beginningAt, Cond.code yX8_beginningAt cX8_beginningAt 3 (some (.object "KeptHeap$Thing"))]
def wsL_law_r10 : List Cond := [Cond.fieldLink RX8 27 "KeptHeap$Thing" "address" "I", Cond.methodLink RX8 23 yX8_lyingAt, Cond.instanceMethod yX8_lyingAt, Cond.selects RX8 yX8_lyingAt yX8_lyingAt, Cond.code yX8_lyingAt cX8_lyingAt 2 (some (.object "KeptHeap$Thing")), Cond.methodLink RX0 119 yX7_meetTargetsOf, Cond.instanceMethod yX7_meetTargetsOf, Cond.selects RX7 yX7_meetTargetsOf yX7_meetTargetsOf, Cond.code yX7_meetTargetsOf cX7_meetTargetsOf 3 none, Cond.methodLink RX7 42 yX6_fields, Cond.instanceMethod yX6_fields, Cond.selects RX6 yX6_fields yX6_fields, Cond.code yX6_fields cX6_fields 1 (some .int), Cond.fieldLink RX6 19 "KeptHeap$Thing" "numbers" "[I", Cond.methodLink RX7 46 yX6_targetOf, Cond.instanceMethod yX6_targetOf, Cond.selects RX6 yX6_targetOf yX6_targetOf, Cond.code yX6_targetOf cX6_targetOf 2 (some (.object "KeptHeap$Thing")), Cond.fieldLink RX6 23 "KeptHeap$Thing" "targets" "[LKeptHeap$Thing;", Cond.methodLink RX0 76 yX7_follow, Cond.instanceMethod yX7_follow, Cond.selects RX7 yX7_follow yX7_follow, Cond.code yX7_follow cX7_follow 2 none, Cond.methodLink RX7 59 yX7_meetTargetsOf]
def wsL_law_r11 : List Cond := [Cond.methodLink RX0 79 yX0_reserve, Cond.instanceMethod yX0_reserve, Cond.selects RX0 yX0_reserve yX0_reserve, Cond.code yX0_reserve cX0_reserve 4 (some .int), Cond.fieldLink RX0 131 "KeptHeap$Thing" "place" "I", Cond.methodLink RX0 82 yX7_size, Cond.instanceMethod yX7_size, Cond.selects RX7 yX7_size yX7_size, Cond.code yX7_size cX7_size 1 (some .int), Cond.methodLink RX0 123 yX7_thingOf, Cond.instanceMethod yX7_thingOf, Cond.selects RX7 yX7_thingOf yX7_thingOf, Cond.code yX7_thingOf cX7_thingOf 2 (some (.object "KeptHeap$Thing")), Cond.methodLink RX0 126 yX6_size, Cond.instanceMethod yX6_size, Cond.selects RX6 yX6_size yX6_size, Cond.code yX6_size cX6_size 1 (some .int), Cond.methodLink RX0 127 yX8_gapFrom, Cond.methodLink RX0 95 yX8_fill, Cond.instanceMethod yX8_fill, Cond.selects RX8 yX8_fill yX8_fill, Cond.code yX8_fill cX8_fill 7 none, Cond.methodLink RX8 39 Lib.Math.min.name, Cond.methodLink RX0 85 yX0_giveBack]
def wsL_law_r12 : List Cond := [Cond.instanceMethod yX0_giveBack, Cond.selects RX0 yX0_giveBack yX0_giveBack, Cond.code yX0_giveBack cX0_giveBack 4 none, Cond.methodLink RX0 92 yX8_thingsBelow, Cond.instanceMethod yX8_thingsBelow, Cond.selects RX8 yX8_thingsBelow yX8_thingsBelow, Cond.code yX8_thingsBelow cX8_thingsBelow 4 (some .int), Cond.methodLink RX8 42 yX8_beginningAt, Cond.methodLink RX0 99 yX0_goOver, Cond.instanceMethod yX0_goOver, Cond.selects RX0 yX0_goOver yX0_goOver, Cond.code yX0_goOver cX0_goOver 3 none, Cond.fieldLink RX0 40 "KeptHeap$Thing" "address" "I", Cond.fieldLink RX0 134 "KeptHeap$Ager" "moved" "I", Cond.sameField "KeptHeap$Ager" "KeptHeap$Keeper" "moved" "I", Cond.methodLink RX0 102 yX0_forget, Cond.instanceMethod yX0_forget, Cond.selects RX0 yX0_forget yX0_forget, Cond.code yX0_forget cX0_forget 3 none, Cond.methodLink RX0 105 yX3_restart, Cond.instanceMethod yX3_restart, Cond.selects RX3 yX3_restart yX3_restart, Cond.code yX3_restart cX3_restart 3 none, Cond.methodLink RX0 37 yX0_gather]
def wsL_law_r13 : List Cond := [Cond.instanceMethod yX0_gather, Cond.selects RX0 yX0_gather yX0_gather, Cond.code yX0_gather cX0_gather 3 (some .int), Cond.fieldLink RX0 45 "KeptHeap$Ager" "gathered" "I", Cond.sameField "KeptHeap$Ager" "KeptHeap$Keeper" "gathered" "I", Cond.methodLink RX0 48 ⟨"KeptHeap$Ager", "walkFromRoots", "()V"⟩, Cond.sameMethod "KeptHeap$Ager" "KeptHeap$Keeper" "walkFromRoots" "()V", Cond.selects RX0 ⟨"KeptHeap$Ager", "walkFromRoots", "()V"⟩ yX2_walkFromRoots, Cond.instanceMethod yX2_walkFromRoots, Cond.code yX2_walkFromRoots cX2_walkFromRoots 1 none, Cond.methodLink RX2 50 yX7_begin, Cond.methodLink RX2 53 yX7_meetRoots, Cond.methodLink RX2 57 yX7_follow, Cond.methodLink RX0 52 ⟨"KeptHeap$Ager", "sweepFrom", "(I)I"⟩, Cond.sameMethod "KeptHeap$Ager" "KeptHeap$Keeper" "sweepFrom" "(I)I", Cond.selects RX0 ⟨"KeptHeap$Ager", "sweepFrom", "(I)I"⟩ yX2_sweepFrom, Cond.instanceMethod yX2_sweepFrom, Cond.code yX2_sweepFrom cX2_sweepFrom 5 (some .int), Cond.methodLink RX2 60 yX8_beginningAt, Cond.methodLink RX2 64 yX7_hasMet, Cond.instanceMethod yX7_hasMet, Cond.selects RX7 yX7_hasMet yX7_hasMet, Cond.code yX7_hasMet cX7_hasMet 2 (some .boolean), Cond.methodLink RX2 68 yX6_size]
def wsL_law_r14 : List Cond := [Cond.methodLink RX2 71 yX8_fill, Cond.selects RX1 ⟨"KeptHeap$Keeper", "clearRoomFor", "(I)V"⟩ yX1_clearRoomFor, Cond.instanceMethod yX1_clearRoomFor, Cond.code yX1_clearRoomFor cX1_clearRoomFor 2 none, Cond.methodLink RX1 35 yX1_gather, Cond.instanceMethod yX1_gather, Cond.selects RX1 yX1_gather yX1_gather, Cond.code yX1_gather cX1_gather 4 (some .int), Cond.fieldLink RX1 38 "KeptHeap$Copier" "gathered" "I", Cond.sameField "KeptHeap$Copier" "KeptHeap$Keeper" "gathered" "I", Cond.fieldLink RX1 41 "KeptHeap$Copier" "words" "LKeptHeap$Words;", Cond.sameField "KeptHeap$Copier" "KeptHeap$Keeper" "words" "LKeptHeap$Words;", Cond.fieldLink RX1 59 "KeptHeap$Copier" "walk" "LKeptHeap$Walk;", Cond.sameField "KeptHeap$Copier" "KeptHeap$Keeper" "walk" "LKeptHeap$Walk;", Cond.fieldLink RX1 79 "KeptHeap$Copier" "moved" "I", Cond.sameField "KeptHeap$Copier" "KeptHeap$Keeper" "moved" "I", Cond.methodLink RX1 45 yX8_thingsBelow, Cond.methodLink RX1 48 ⟨"KeptHeap$Copier", "walkFromRoots", "()V"⟩, Cond.sameMethod "KeptHeap$Copier" "KeptHeap$Keeper" "walkFromRoots" "()V", Cond.selects RX1 ⟨"KeptHeap$Copier", "walkFromRoots", "()V"⟩ yX2_walkFromRoots, Cond.methodLink RX1 52 yX8_fill, Cond.methodLink RX1 56 yX3_restart, Cond.methodLink RX1 63 yX7_size, Cond.methodLink RX1 68 yX7_thingOf]
def wsL_law_r15 : List Cond := [Cond.methodLink RX1 72 yX6_size, Cond.methodLink RX1 75 yX8_put, Cond.instanceMethod yX8_put, Cond.selects RX8 yX8_put yX8_put, Cond.code yX8_put cX8_put 3 none, Cond.methodLink RX8 31 yX6_size, Cond.methodLink RX8 35 yX8_fill, Cond.selects RX5 ⟨"KeptHeap$Keeper", "clearRoomFor", "(I)V"⟩ yX5_clearRoomFor, Cond.instanceMethod yX5_clearRoomFor, Cond.code yX5_clearRoomFor cX5_clearRoomFor 2 none, Cond.methodLink RX5 19 yX5_gather, Cond.instanceMethod yX5_gather, Cond.selects RX5 yX5_gather yX5_gather, Cond.code yX5_gather cX5_gather 1 (some .int), Cond.fieldLink RX5 23 "KeptHeap$Sweeper" "gathered" "I", Cond.sameField "KeptHeap$Sweeper" "KeptHeap$Keeper" "gathered" "I", Cond.methodLink RX5 27 ⟨"KeptHeap$Sweeper", "walkFromRoots", "()V"⟩, Cond.sameMethod "KeptHeap$Sweeper" "KeptHeap$Keeper" "walkFromRoots" "()V", Cond.selects RX5 ⟨"KeptHeap$Sweeper", "walkFromRoots", "()V"⟩ yX2_walkFromRoots, Cond.methodLink RX5 31 ⟨"KeptHeap$Sweeper", "sweepFrom", "(I)I"⟩, Cond.sameMethod "KeptHeap$Sweeper" "KeptHeap$Keeper" "sweepFrom" "(I)I", Cond.selects RX5 ⟨"KeptHeap$Sweeper", "sweepFrom", "(I)I"⟩ yX2_sweepFrom, Cond.methodLink RX9 55 yX6_init, Cond.instanceMethod yX6_init]
def wsL_law_r16 : List Cond := [Cond.code yX6_init cX6_init 4 none, Cond.methodLink RX6 1 objectInit, Cond.methodLink RX6 7 Lib.Math.max.name, Cond.fieldLink RX6 13 "KeptHeap$Thing" "name" "I", Cond.classLink RX6 14 RX6, Cond.fieldLink RX6 27 "KeptHeap$Thing" "address" "I", Cond.fieldLink RX6 30 "KeptHeap$Thing" "remembered" "Z", Cond.fieldLink RX6 34 "KeptHeap$Thing" "place" "I", Cond.fieldLink RX6 37 "KeptHeap$Thing" "walk" "I", Cond.fieldLink RX6 40 "KeptHeap$Thing" "order" "I", Cond.methodLink RX9 58 yX8_put, Cond.methodLink RX9 62 yX4_refer, Cond.instanceMethod yX4_refer, Cond.selects RX4 yX4_refer yX4_refer, Cond.code yX4_refer cX4_refer 3 none, Cond.methodLink RL 25 yX10_make, Cond.instanceMethod yX10_make, Cond.selects RX10 yX10_make yX10_make, Cond.code yX10_make cX10_make 7 (some .int), Cond.fieldLink RX10 48 "KeptHeapModel" "thrown" "I", Cond.fieldLink RX10 62 "KeptHeapModel" "made" "I", Cond.fieldLink RX10 91 "KeptHeapModel" "top" "I", Cond.methodLink RX10 124 yX10_isRoot, Cond.static yX10_isRoot]
def wsL_law_r17 : List Cond := [Cond.code yX10_isRoot cX10_isRoot 1 (some .boolean), Cond.methodLink RX10 51 yX10_in, Cond.static yX10_in, Cond.code yX10_in cX10_in 3 (some .boolean), Cond.methodLink RX10 127 yX10_room, Cond.instanceMethod yX10_room, Cond.selects RX10 yX10_room yX10_room, Cond.code yX10_room cX10_room 3 (some .int), Cond.fieldLink RX10 88 "KeptHeapModel" "half" "I", Cond.methodLink RX10 101 yX10_fit, Cond.instanceMethod yX10_fit, Cond.selects RX10 yX10_fit yX10_fit, Cond.code yX10_fit cX10_fit 5 (some .int), Cond.methodLink RX10 131 yX10_collectNow, Cond.instanceMethod yX10_collectNow, Cond.selects RX10 yX10_collectNow yX10_collectNow, Cond.code yX10_collectNow cX10_collectNow 3 (some .int), Cond.fieldLink RX10 114 "KeptHeapModel" "collected" "I", Cond.methodLink RX10 117 yX10_copyAll, Cond.instanceMethod yX10_copyAll, Cond.selects RX10 yX10_copyAll yX10_copyAll, Cond.code yX10_copyAll cX10_copyAll 3 (some .int), Cond.fieldLink RX10 59 "KeptHeapModel" "size" "I", Cond.fieldLink RX10 98 "KeptHeapModel" "moved" "I"]
def wsL_law_r18 : List Cond := [Cond.methodLink RX10 81 yX10_reach, Cond.instanceMethod yX10_reach, Cond.selects RX10 yX10_reach yX10_reach, Cond.code yX10_reach cX10_reach 2 none, Cond.methodLink RX10 68 yX10_begin, Cond.instanceMethod yX10_begin, Cond.selects RX10 yX10_begin yX10_begin, Cond.code yX10_begin cX10_begin 2 none, Cond.methodLink RX10 65 yX10_meet, Cond.instanceMethod yX10_meet, Cond.selects RX10 yX10_meet yX10_meet, Cond.code yX10_meet cX10_meet 2 none, Cond.methodLink RX10 71 yX10_follow, Cond.instanceMethod yX10_follow, Cond.selects RX10 yX10_follow yX10_follow, Cond.code yX10_follow cX10_follow 3 none, Cond.methodLink RX10 84 yX10_sweep, Cond.instanceMethod yX10_sweep, Cond.selects RX10 yX10_sweep yX10_sweep, Cond.code yX10_sweep cX10_sweep 4 (some .int), Cond.methodLink RX10 74 yX10_isOld, Cond.instanceMethod yX10_isOld, Cond.selects RX10 yX10_isOld yX10_isOld, Cond.code yX10_isOld cX10_isOld 2 (some .boolean)]
def wsL_law_r19 : List Cond := [Cond.methodLink RX10 78 yX10_go, Cond.instanceMethod yX10_go, Cond.selects RX10 yX10_go yX10_go, Cond.code yX10_go cX10_go 2 none, Cond.methodLink RX10 55 yX10_leave, Cond.instanceMethod yX10_leave, Cond.selects RX10 yX10_leave yX10_leave, Cond.code yX10_leave cX10_leave 3 none, Cond.methodLink RX10 94 yX10_lie, Cond.instanceMethod yX10_lie, Cond.selects RX10 yX10_lie yX10_lie, Cond.code yX10_lie cX10_lie 4 none, Cond.methodLink RX10 121 yX10_minorNow, Cond.instanceMethod yX10_minorNow, Cond.selects RX10 yX10_minorNow yX10_minorNow, Cond.code yX10_minorNow cX10_minorNow 4 (some .int), Cond.fieldLink RX10 111 "KeptHeapModel" "minors" "I", Cond.methodLink RX10 105 yX10_raise, Cond.instanceMethod yX10_raise, Cond.selects RX10 yX10_raise yX10_raise, Cond.code yX10_raise cX10_raise 3 (some .boolean), Cond.methodLink RX10 108 yX10_raiseFields, Cond.instanceMethod yX10_raiseFields, Cond.selects RX10 yX10_raiseFields yX10_raiseFields]
def wsL_law_r20 : List Cond := [Cond.code yX10_raiseFields cX10_raiseFields 4 (some .boolean), Cond.methodLink RL 26 yX9_set, Cond.instanceMethod yX9_set, Cond.selects RX9 yX9_set yX9_set, Cond.code yX9_set cX9_set 5 (some .int), Cond.methodLink RX9 69 yX9_holderOf, Cond.instanceMethod yX9_holderOf, Cond.selects RX9 yX9_holderOf yX9_holderOf, Cond.code yX9_holderOf cX9_holderOf 4 (some (.object "KeptHeap$Thing")), Cond.methodLink RX9 81 yX4_thingOf, Cond.methodLink RX9 172 yX6_has, Cond.instanceMethod yX6_has, Cond.selects RX6 yX6_has yX6_has, Cond.code yX6_has cX6_has 2 (some .boolean), Cond.methodLink RX9 73 yX9_whyNoHolder, Cond.instanceMethod yX9_whyNoHolder, Cond.selects RX9 yX9_whyNoHolder yX9_whyNoHolder, Cond.code yX9_whyNoHolder cX9_whyNoHolder 3 (some .int), Cond.methodLink RX9 77 yX6_hold, Cond.instanceMethod yX6_hold, Cond.selects RX6 yX6_hold yX6_hold, Cond.code yX6_hold cX6_hold 4 none, Cond.methodLink RX6 43 yX6_has, Cond.methodLink RL 30 yX10_set]
def wsL_law_r21 : List Cond := [Cond.instanceMethod yX10_set, Cond.selects RX10 yX10_set yX10_set, Cond.code yX10_set cX10_set 5 (some .int), Cond.methodLink RX10 134 yX10_wrong, Cond.instanceMethod yX10_wrong, Cond.selects RX10 yX10_wrong yX10_wrong, Cond.code yX10_wrong cX10_wrong 3 (some .int), Cond.methodLink RL 31 yX9_link, Cond.instanceMethod yX9_link, Cond.selects RX9 yX9_link yX9_link, Cond.code yX9_link cX9_link 6 (some .int), Cond.fieldLink RX9 89 "KeptHeap$Thing" "remembered" "Z", Cond.methodLink RX9 85 ⟨"KeptHeap$Keeper", "isOld", "(LKeptHeap$Thing;)Z"⟩, Cond.sameMethod "KeptHeap$Keeper" "KeptHeap$Keeper" "isOld" "(LKeptHeap$Thing;)Z", Cond.instanceMethod ⟨"KeptHeap$Keeper", "isOld", "(LKeptHeap$Thing;)Z"⟩, Cond.selects RX0 ⟨"KeptHeap$Keeper", "isOld", "(LKeptHeap$Thing;)Z"⟩ yX0_isOld, Cond.instanceMethod yX0_isOld, Cond.code yX0_isOld cX0_isOld 2 (some .boolean), Cond.code yX2_isOld cX2_isOld 2 (some .boolean), Cond.selects RX1 ⟨"KeptHeap$Keeper", "isOld", "(LKeptHeap$Thing;)Z"⟩ yX2_isOld, Cond.instanceMethod yX2_isOld, Cond.selects RX5 ⟨"KeptHeap$Keeper", "isOld", "(LKeptHeap$Thing;)Z"⟩ yX2_isOld, Cond.methodLink RL 34 yX10_link, Cond.instanceMethod yX10_link]
def wsL_law_r22 : List Cond := [Cond.selects RX10 yX10_link yX10_link, Cond.code yX10_link cX10_link 6 (some .int), Cond.methodLink RL 35 yX9_refers, Cond.instanceMethod yX9_refers, Cond.selects RX9 yX9_refers yX9_refers, Cond.code yX9_refers cX9_refers 4 (some .int), Cond.methodLink RX9 93 yX6_targetOf, Cond.methodLink RX9 96 yX9_asNumber, Cond.static yX9_asNumber, Cond.code yX9_asNumber cX9_asNumber 1 (some .int), Cond.methodLink RL 38 yX10_refers, Cond.instanceMethod yX10_refers, Cond.selects RX10 yX10_refers yX10_refers, Cond.code yX10_refers cX10_refers 4 (some .int), Cond.methodLink RL 39 yX9_number, Cond.instanceMethod yX9_number, Cond.selects RX9 yX9_number yX9_number, Cond.code yX9_number cX9_number 4 (some .int), Cond.methodLink RX9 100 yX6_numberOf, Cond.instanceMethod yX6_numberOf, Cond.selects RX6 yX6_numberOf yX6_numberOf, Cond.code yX6_numberOf cX6_numberOf 2 (some .int), Cond.methodLink RL 42 yX10_number, Cond.instanceMethod yX10_number]
def wsL_law_r23 : List Cond := [Cond.selects RX10 yX10_number yX10_number, Cond.code yX10_number cX10_number 3 (some .int), Cond.methodLink RL 43 yX9_load, Cond.instanceMethod yX9_load, Cond.selects RX9 yX9_load yX9_load, Cond.code yX9_load cX9_load 6 (some .int), Cond.methodLink RL 46 yX10_load, Cond.instanceMethod yX10_load, Cond.selects RX10 yX10_load yX10_load, Cond.code yX10_load cX10_load 6 (some .int), Cond.methodLink RL 47 yX9_copy, Cond.instanceMethod yX9_copy, Cond.selects RX9 yX9_copy yX9_copy, Cond.code yX9_copy cX9_copy 4 (some .int), Cond.methodLink RX9 103 yX9_nameOf, Cond.static yX9_nameOf, Cond.code yX9_nameOf cX9_nameOf 1 (some .int), Cond.methodLink RL 50 yX10_copy, Cond.instanceMethod yX10_copy, Cond.selects RX10 yX10_copy yX10_copy, Cond.code yX10_copy cX10_copy 3 (some .int), Cond.methodLink RL 51 yX9_drop, Cond.instanceMethod yX9_drop, Cond.selects RX9 yX9_drop yX9_drop]
def wsL_law_r24 : List Cond := [Cond.code yX9_drop cX9_drop 3 (some .int), Cond.methodLink RL 55 yX10_drop, Cond.instanceMethod yX10_drop, Cond.selects RX10 yX10_drop yX10_drop, Cond.code yX10_drop cX10_drop 3 (some .int), Cond.methodLink RL 56 yX9_collect, Cond.instanceMethod yX9_collect, Cond.selects RX9 yX9_collect yX9_collect, Cond.code yX9_collect cX9_collect 1 (some .int), Cond.methodLink RX9 107 ⟨"KeptHeap$Keeper", "gather", "()I"⟩, Cond.sameMethod "KeptHeap$Keeper" "KeptHeap$Keeper" "gather" "()I", Cond.selects RX0 ⟨"KeptHeap$Keeper", "gather", "()I"⟩ yX0_gather, Cond.selects RX1 ⟨"KeptHeap$Keeper", "gather", "()I"⟩ yX1_gather, Cond.selects RX5 ⟨"KeptHeap$Keeper", "gather", "()I"⟩ yX5_gather, Cond.methodLink RL 60 yX10_collect, Cond.instanceMethod yX10_collect, Cond.selects RX10 yX10_collect yX10_collect, Cond.code yX10_collect cX10_collect 2 (some .int), Cond.methodLink RL 61 yX9_minor, Cond.instanceMethod yX9_minor, Cond.selects RX9 yX9_minor yX9_minor, Cond.code yX9_minor cX9_minor 1 (some .int), Cond.methodLink RX9 111 ⟨"KeptHeap$Keeper", "gatherYoung", "()I"⟩, Cond.sameMethod "KeptHeap$Keeper" "KeptHeap$Keeper" "gatherYoung" "()I"]
def wsL_law_r25 : List Cond := [Cond.instanceMethod ⟨"KeptHeap$Keeper", "gatherYoung", "()I"⟩, Cond.selects RX0 ⟨"KeptHeap$Keeper", "gatherYoung", "()I"⟩ yX0_gatherYoung, Cond.code yX2_gatherYoung cX2_gatherYoung 1 (some .int), Cond.selects RX1 ⟨"KeptHeap$Keeper", "gatherYoung", "()I"⟩ yX2_gatherYoung, Cond.instanceMethod yX2_gatherYoung, Cond.selects RX5 ⟨"KeptHeap$Keeper", "gatherYoung", "()I"⟩ yX2_gatherYoung, Cond.methodLink RL 64 yX10_minor, Cond.instanceMethod yX10_minor, Cond.selects RX10 yX10_minor yX10_minor, Cond.code yX10_minor cX10_minor 2 (some .int), Cond.methodLink RL 65 yX9_object, Cond.instanceMethod yX9_object, Cond.selects RX9 yX9_object yX9_object, Cond.code yX9_object cX9_object 4 (some .int), Cond.fieldLink RX9 114 "KeptHeap$Thing" "address" "I", Cond.methodLink RX9 117 yX6_fields, Cond.methodLink RL 68 yX10_object, Cond.instanceMethod yX10_object, Cond.selects RX10 yX10_object yX10_object, Cond.code yX10_object cX10_object 4 (some .int), Cond.methodLink RL 69 yX9_at, Cond.instanceMethod yX9_at, Cond.selects RX9 yX9_at yX9_at, Cond.code yX9_at cX9_at 2 (some .int)]
def wsL_law_r26 : List Cond := [Cond.methodLink RX9 120 yX8_length, Cond.methodLink RX9 123 yX8_lyingAt, Cond.methodLink RL 72 yX10_at, Cond.instanceMethod yX10_at, Cond.selects RX10 yX10_at yX10_at, Cond.code yX10_at cX10_at 2 (some .int), Cond.methodLink RL 73 yX9_count, Cond.instanceMethod yX9_count, Cond.selects RX9 yX9_count yX9_count, Cond.code yX9_count cX9_count 2 (some .int), Cond.fieldLink RX9 132 "KeptHeap$Keeper" "gathered" "I", Cond.fieldLink RX9 135 "KeptHeap$Keeper" "gatheredYoung" "I", Cond.fieldLink RX9 138 "KeptHeap$Keeper" "moved" "I", Cond.methodLink RX9 126 yX8_thingsBelow, Cond.methodLink RX9 129 yX8_taken, Cond.instanceMethod yX8_taken, Cond.selects RX8 yX8_taken yX8_taken, Cond.code yX8_taken cX8_taken 3 (some .int), Cond.methodLink RX9 141 yX8_rememberedThings, Cond.instanceMethod yX8_rememberedThings, Cond.selects RX8 yX8_rememberedThings yX8_rememberedThings, Cond.code yX8_rememberedThings cX8_rememberedThings 4 (some .int), Cond.fieldLink RX8 45 "KeptHeap$Thing" "remembered" "Z", Cond.methodLink RX9 144 ⟨"KeptHeap$Keeper", "reachedThings", "()I"⟩]
def wsL_law_r27 : List Cond := [Cond.sameMethod "KeptHeap$Keeper" "KeptHeap$Keeper" "reachedThings" "()I", Cond.selects RX0 ⟨"KeptHeap$Keeper", "reachedThings", "()I"⟩ yX2_reachedThings, Cond.instanceMethod yX2_reachedThings, Cond.code yX2_reachedThings cX2_reachedThings 1 (some .int), Cond.methodLink RX2 44 ⟨"KeptHeap$Keeper", "walkFromRoots", "()V"⟩, Cond.sameMethod "KeptHeap$Keeper" "KeptHeap$Keeper" "walkFromRoots" "()V", Cond.selects RX0 ⟨"KeptHeap$Keeper", "walkFromRoots", "()V"⟩ yX2_walkFromRoots, Cond.selects RX1 ⟨"KeptHeap$Keeper", "walkFromRoots", "()V"⟩ yX2_walkFromRoots, Cond.selects RX5 ⟨"KeptHeap$Keeper", "walkFromRoots", "()V"⟩ yX2_walkFromRoots, Cond.methodLink RX2 47 yX7_size, Cond.selects RX1 ⟨"KeptHeap$Keeper", "reachedThings", "()I"⟩ yX2_reachedThings, Cond.selects RX5 ⟨"KeptHeap$Keeper", "reachedThings", "()I"⟩ yX2_reachedThings, Cond.methodLink RL 76 yX10_count, Cond.instanceMethod yX10_count, Cond.selects RX10 yX10_count yX10_count, Cond.code yX10_count cX10_count 6 (some .int), Cond.methodLink RL 77 yX9_same, Cond.instanceMethod yX9_same, Cond.selects RX9 yX9_same yX9_same, Cond.code yX9_same cX9_same 3 (some .int), Cond.methodLink RL 80 yX10_same, Cond.instanceMethod yX10_same, Cond.selects RX10 yX10_same yX10_same, Cond.code yX10_same cX10_same 3 (some .int)]
def wsL_law_r28 : List Cond := [Cond.methodLink RL 81 yX9_sum, Cond.instanceMethod yX9_sum, Cond.selects RX9 yX9_sum yX9_sum, Cond.code yX9_sum cX9_sum 3 (some .long), Cond.constantLong RX9 147 (-2), Cond.methodLink RX9 149 ⟨"KeptHeap$Keeper", "sumFrom", "(LKeptHeap$Thing;)J"⟩, Cond.sameMethod "KeptHeap$Keeper" "KeptHeap$Keeper" "sumFrom" "(LKeptHeap$Thing;)J", Cond.selects RX0 ⟨"KeptHeap$Keeper", "sumFrom", "(LKeptHeap$Thing;)J"⟩ yX2_sumFrom, Cond.instanceMethod yX2_sumFrom, Cond.code yX2_sumFrom cX2_sumFrom 6 (some .long), Cond.constantLong RX2 79 (7), Cond.methodLink RX2 75 yX7_meet, Cond.methodLink RX2 81 yX7_thingOf, Cond.methodLink RX2 84 yX2_sumWith, Cond.static yX2_sumWith, Cond.code yX2_sumWith cX2_sumWith 9 (some .long), Cond.constantLong RX2 88 (31), Cond.constantLong RX2 96 (2), Cond.fieldLink RX2 102 "KeptHeap$Thing" "order" "I", Cond.methodLink RX2 90 yX6_fields, Cond.methodLink RX2 93 yX6_targetOf, Cond.methodLink RX2 98 yX6_numberOf, Cond.selects RX1 ⟨"KeptHeap$Keeper", "sumFrom", "(LKeptHeap$Thing;)J"⟩ yX2_sumFrom, Cond.selects RX5 ⟨"KeptHeap$Keeper", "sumFrom", "(LKeptHeap$Thing;)J"⟩ yX2_sumFrom]
def wsL_law_r29 : List Cond := [Cond.methodLink RL 85 yX10_sum, Cond.instanceMethod yX10_sum, Cond.selects RX10 yX10_sum yX10_sum, Cond.code yX10_sum cX10_sum 8 (some .long), Cond.constantLong RX10 137 (-2), Cond.constantLong RX10 139 (7), Cond.constantLong RX10 141 (31), Cond.constantLong RX10 143 (2)]
def wsL_law : List Cond := (wsL_law_r1 ++ (wsL_law_r2 ++ (wsL_law_r3 ++ (wsL_law_r4 ++ (wsL_law_r5 ++ (wsL_law_r6 ++ (wsL_law_r7 ++ (wsL_law_r8 ++ (wsL_law_r9 ++ (wsL_law_r10 ++ (wsL_law_r11 ++ (wsL_law_r12 ++ (wsL_law_r13 ++ (wsL_law_r14 ++ (wsL_law_r15 ++ (wsL_law_r16 ++ (wsL_law_r17 ++ (wsL_law_r18 ++ (wsL_law_r19 ++ (wsL_law_r20 ++ (wsL_law_r21 ++ (wsL_law_r22 ++ (wsL_law_r23 ++ (wsL_law_r24 ++ (wsL_law_r25 ++ (wsL_law_r26 ++ (wsL_law_r27 ++ (wsL_law_r28 ++ wsL_law_r29)))))))))))))))))))))))))))) ++ wsX90 ++ wsX100 ++ wsX80 ++ wsX40 ++ wsX10 ++ wsX00 ++ wsX50 ++ wsX30 ++ wsX70 ++ wsX60 ++ ([] : List Cond)
abbrev vwCl : List vw_C := [(RX0, TX0, 8), (RX1, TX1, 9), (RX3, TX3, 2), (RX4, TX4, 1), (RX5, TX5, 6), (RX6, TX6, 8), (RX7, TX7, 4), (RX8, TX8, 1), (RX9, TX9, 4), (RX10, TX10, 20)]
theorem inlX0 : ∀ w ∈ wsX00, w ∈ wsL_law := fun _ h => List.mem_append_left _ (List.mem_append_left _ (List.mem_append_left _ (List.mem_append_left _ (List.mem_append_left _ (List.mem_append_right _ h)))))
theorem inlX1 : ∀ w ∈ wsX10, w ∈ wsL_law := fun _ h => List.mem_append_left _ (List.mem_append_left _ (List.mem_append_left _ (List.mem_append_left _ (List.mem_append_left _ (List.mem_append_left _ (List.mem_append_right _ h))))))
theorem inlX3 : ∀ w ∈ wsX30, w ∈ wsL_law := fun _ h => List.mem_append_left _ (List.mem_append_left _ (List.mem_append_left _ (List.mem_append_right _ h)))
theorem inlX4 : ∀ w ∈ wsX40, w ∈ wsL_law := fun _ h => List.mem_append_left _ (List.mem_append_left _ (List.mem_append_left _ (List.mem_append_left _ (List.mem_append_left _ (List.mem_append_left _ (List.mem_append_left _ (List.mem_append_right _ h)))))))
theorem inlX5 : ∀ w ∈ wsX50, w ∈ wsL_law := fun _ h => List.mem_append_left _ (List.mem_append_left _ (List.mem_append_left _ (List.mem_append_left _ (List.mem_append_right _ h))))
theorem inlX6 : ∀ w ∈ wsX60, w ∈ wsL_law := fun _ h => List.mem_append_left _ (List.mem_append_right _ h)
theorem inlX7 : ∀ w ∈ wsX70, w ∈ wsL_law := fun _ h => List.mem_append_left _ (List.mem_append_left _ (List.mem_append_right _ h))
theorem inlX8 : ∀ w ∈ wsX80, w ∈ wsL_law := fun _ h => List.mem_append_left _ (List.mem_append_left _ (List.mem_append_left _ (List.mem_append_left _ (List.mem_append_left _ (List.mem_append_left _ (List.mem_append_left _ (List.mem_append_left _ (List.mem_append_right _ h))))))))
theorem inlX9 : ∀ w ∈ wsX90, w ∈ wsL_law := fun _ h => List.mem_append_left _ (List.mem_append_left _ (List.mem_append_left _ (List.mem_append_left _ (List.mem_append_left _ (List.mem_append_left _ (List.mem_append_left _ (List.mem_append_left _ (List.mem_append_left _ (List.mem_append_left _ (List.mem_append_right _ h))))))))))
theorem inlX10 : ∀ w ∈ wsX100, w ∈ wsL_law := fun _ h => List.mem_append_left _ (List.mem_append_left _ (List.mem_append_left _ (List.mem_append_left _ (List.mem_append_left _ (List.mem_append_left _ (List.mem_append_left _ (List.mem_append_left _ (List.mem_append_left _ (List.mem_append_right _ h)))))))))
